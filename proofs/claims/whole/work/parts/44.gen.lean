section
/-! ET$Cursor.over -/
theorem l7_0 : (ax_dt (ax_T 7)).lookup 0 = some (.aload_n 0, 1, 0, 0, 0) := by decide +kernel
theorem l7_1 : (ax_dt (ax_T 7)).lookup 1 = some (.aload_n 1, 1, 0, 0, 0) := by decide +kernel
theorem l7_2 : (ax_dt (ax_T 7)).lookup 2 = some (.iload_n 2, 1, 0, 0, 0) := by decide +kernel
theorem l7_3 : (ax_dt (ax_T 7)).lookup 3 = some (.invokevirtual 20, 3, 50, 1, 0) := by decide +kernel
theorem l7_6 : (ax_dt (ax_T 7)).lookup 6 = some (.putfield 14, 3, 1, 6, 0) := by decide +kernel
theorem l7_9 : (ax_dt (ax_T 7)).lookup 9 = some (.aload_n 0, 1, 0, 0, 0) := by decide +kernel
theorem l7_10 : (ax_dt (ax_T 7)).lookup 10 = some (.iload_n 2, 1, 0, 0, 0) := by decide +kernel
theorem l7_11 : (ax_dt (ax_T 7)).lookup 11 = some (.putfield 26, 3, 1, 5, 0) := by decide +kernel
theorem l7_14 : (ax_dt (ax_T 7)).lookup 14 = some (.aload_n 0, 1, 0, 0, 0) := by decide +kernel
theorem l7_15 : (ax_dt (ax_T 7)).lookup 15 = some (.iload_n 3, 1, 0, 0, 0) := by decide +kernel
theorem l7_16 : (ax_dt (ax_T 7)).lookup 16 = some (.putfield 30, 3, 1, 0, 0) := by decide +kernel
theorem l7_19 : (ax_dt (ax_T 7)).lookup 19 = some (.aload_n 0, 1, 0, 0, 0) := by decide +kernel
theorem l7_20 : (ax_dt (ax_T 7)).lookup 20 = some (.iload 4, 2, 0, 0, 0) := by decide +kernel
theorem l7_22 : (ax_dt (ax_T 7)).lookup 22 = some (.putfield 33, 3, 1, 1, 0) := by decide +kernel
theorem l7_25 : (ax_dt (ax_T 7)).lookup 25 = some (.return_, 1, 0, 0, 0) := by decide +kernel
noncomputable def F_X1_over (v2 : Int) (v3 : Int) (v4 : Int) (μ : bM) : Option (Int × bM) := (F_X5_of v2 μ).bind fun w1 => some (0, (bset (bset (bset (bset μ 46 6 ((w1.toNat : Nat) : Int)) 46 5 v2) 46 0 v3) 46 1 v4))
theorem r_X1_over {L : Nat} {xs : Nat → Int32} {d : Nat} {μ : bM}  (v2 : Int) (h2 : bR v2) (v3 : Int) (h3 : bR v3) (v4 : Int) (h4 : bR v4) : bD L xs (d + 1) 7 0 [(0, .ref 46), (1, .ref 6), (2, bI v2), (3, bI v3), (4, bI v4)] [] μ ((F_X1_over v2 v3 v4 μ).bind (bMc)) := by
  have hr : ∀ r, (bMc) r = (bMc) r := fun _ => rfl
  unfold F_X1_over
  refine bD.ok fun hk => ?_
  refine b_s (pc' := 1) (lv1 := [(0, .ref 46), (1, .ref 6), (2, bI v2), (3, bI v3), (4, bI v4)]) (st' := [.ref 46]) l7_0 (fun _ => rfl) ?_
  refine b_s (pc' := 2) (lv1 := [(0, .ref 46), (1, .ref 6), (2, bI v2), (3, bI v3), (4, bI v4)]) (st' := [.ref 6, .ref 46]) l7_1 (fun _ => rfl) ?_
  refine b_s (pc' := 3) (lv1 := [(0, .ref 46), (1, .ref 6), (2, bI v2), (3, bI v3), (4, bI v4)]) (st' := [bI v2, .ref 6, .ref 46]) l7_2 (fun _ => rfl) ?_
  refine b_cPr l7_3 rfl (b_rc (ci := 4) (by rfl) (by decide) (by decide +kernel)) (Nat.le_of_ble_eq_true rfl) (Nat.le_of_ble_eq_true rfl) rfl (r_X5_of v2 h2) fun w1 hw1 => b_pc (pc' := 6) rfl ?_
  refine b_ps l7_6 (by rfl) (by decide) (by decide) rfl rfl hw1 (bD.ok fun hk2 => b_pc (pc' := 9) rfl ?_)
  refine b_s (pc' := 10) (lv1 := [(0, .ref 46), (1, .ref 6), (2, bI v2), (3, bI v3), (4, bI v4)]) (st' := [.ref 46]) l7_9 (fun _ => rfl) ?_
  refine b_s (pc' := 11) (lv1 := [(0, .ref 46), (1, .ref 6), (2, bI v2), (3, bI v3), (4, bI v4)]) (st' := [bI v2, .ref 46]) l7_10 (fun _ => rfl) ?_
  refine b_pi l7_11 (by rfl) (by decide) (by decide) rfl rfl h2 (bD.ok fun hk3 => b_pc (pc' := 14) rfl ?_)
  refine b_s (pc' := 15) (lv1 := [(0, .ref 46), (1, .ref 6), (2, bI v2), (3, bI v3), (4, bI v4)]) (st' := [.ref 46]) l7_14 (fun _ => rfl) ?_
  refine b_s (pc' := 16) (lv1 := [(0, .ref 46), (1, .ref 6), (2, bI v2), (3, bI v3), (4, bI v4)]) (st' := [bI v3, .ref 46]) l7_15 (fun _ => rfl) ?_
  refine b_pi l7_16 (by rfl) (by decide) (by decide) rfl rfl h3 (bD.ok fun hk4 => b_pc (pc' := 19) rfl ?_)
  refine b_s (pc' := 20) (lv1 := [(0, .ref 46), (1, .ref 6), (2, bI v2), (3, bI v3), (4, bI v4)]) (st' := [.ref 46]) l7_19 (fun _ => rfl) ?_
  refine b_s (pc' := 22) (lv1 := [(0, .ref 46), (1, .ref 6), (2, bI v2), (3, bI v3), (4, bI v4)]) (st' := [bI v4, .ref 46]) l7_20 (fun _ => rfl) ?_
  refine b_pi l7_22 (by rfl) (by decide) (by decide) rfl rfl h4 (bD.ok fun hk5 => b_pc (pc' := 25) rfl ?_)
  exact b_retv l7_25 rfl (hr _)
/-! ET$Cursor.forgetFault -/
theorem l8_0 : (ax_dt (ax_T 8)).lookup 0 = some (.aload_n 0, 1, 0, 0, 0) := by decide +kernel
theorem l8_1 : (ax_dt (ax_T 8)).lookup 1 = some (.iconst 0, 1, 0, 0, 0) := by decide +kernel
theorem l8_2 : (ax_dt (ax_T 8)).lookup 2 = some (.putfield 36, 3, 1, 2, 0) := by decide +kernel
theorem l8_5 : (ax_dt (ax_T 8)).lookup 5 = some (.aload_n 0, 1, 0, 0, 0) := by decide +kernel
theorem l8_6 : (ax_dt (ax_T 8)).lookup 6 = some (.iconst 0, 1, 0, 0, 0) := by decide +kernel
theorem l8_7 : (ax_dt (ax_T 8)).lookup 7 = some (.putfield 39, 3, 1, 3, 0) := by decide +kernel
theorem l8_10 : (ax_dt (ax_T 8)).lookup 10 = some (.aload_n 0, 1, 0, 0, 0) := by decide +kernel
theorem l8_11 : (ax_dt (ax_T 8)).lookup 11 = some (.iconst 0, 1, 0, 0, 0) := by decide +kernel
theorem l8_12 : (ax_dt (ax_T 8)).lookup 12 = some (.putfield 42, 3, 1, 4, 0) := by decide +kernel
theorem l8_15 : (ax_dt (ax_T 8)).lookup 15 = some (.return_, 1, 0, 0, 0) := by decide +kernel
noncomputable def F_X1_forgetFault (μ : bM) : Option (Int × bM) := some (0, (bset (bset (bset μ 46 2 0) 46 3 0) 46 4 0))
theorem r_X1_forgetFault {L : Nat} {xs : Nat → Int32} {d : Nat} {μ : bM}   : bD L xs (d + 0) 8 0 [(0, .ref 46)] [] μ ((F_X1_forgetFault μ).bind (bMc)) := by
  have hr : ∀ r, (bMc) r = (bMc) r := fun _ => rfl
  unfold F_X1_forgetFault
  refine bD.ok fun hk => ?_
  refine b_s (pc' := 1) (lv1 := [(0, .ref 46)]) (st' := [.ref 46]) l8_0 (fun _ => rfl) ?_
  refine b_s (pc' := 2) (lv1 := [(0, .ref 46)]) (st' := [bI 0, .ref 46]) l8_1 (fun _ => rfl) ?_
  refine b_pi l8_2 (by rfl) (by decide) (by decide) rfl rfl (by decide) (bD.ok fun hk1 => b_pc (pc' := 5) rfl ?_)
  refine b_s (pc' := 6) (lv1 := [(0, .ref 46)]) (st' := [.ref 46]) l8_5 (fun _ => rfl) ?_
  refine b_s (pc' := 7) (lv1 := [(0, .ref 46)]) (st' := [bI 0, .ref 46]) l8_6 (fun _ => rfl) ?_
  refine b_pi l8_7 (by rfl) (by decide) (by decide) rfl rfl (by decide) (bD.ok fun hk2 => b_pc (pc' := 10) rfl ?_)
  refine b_s (pc' := 11) (lv1 := [(0, .ref 46)]) (st' := [.ref 46]) l8_10 (fun _ => rfl) ?_
  refine b_s (pc' := 12) (lv1 := [(0, .ref 46)]) (st' := [bI 0, .ref 46]) l8_11 (fun _ => rfl) ?_
  refine b_pi l8_12 (by rfl) (by decide) (by decide) rfl rfl (by decide) (bD.ok fun hk3 => b_pc (pc' := 15) rfl ?_)
  exact b_retv l8_15 rfl (hr _)
/-! ET$Cursor.refuse -/
theorem l9_0 : (ax_dt (ax_T 9)).lookup 0 = some (.aload_n 0, 1, 0, 0, 0) := by decide +kernel
theorem l9_1 : (ax_dt (ax_T 9)).lookup 1 = some (.iload_n 1, 1, 0, 0, 0) := by decide +kernel
theorem l9_2 : (ax_dt (ax_T 9)).lookup 2 = some (.putfield 36, 3, 1, 2, 0) := by decide +kernel
theorem l9_5 : (ax_dt (ax_T 9)).lookup 5 = some (.aload_n 0, 1, 0, 0, 0) := by decide +kernel
theorem l9_6 : (ax_dt (ax_T 9)).lookup 6 = some (.aload_n 0, 1, 0, 0, 0) := by decide +kernel
theorem l9_7 : (ax_dt (ax_T 9)).lookup 7 = some (.getfield 26, 3, 1, 5, 0) := by decide +kernel
theorem l9_10 : (ax_dt (ax_T 9)).lookup 10 = some (.putfield 39, 3, 1, 3, 0) := by decide +kernel
theorem l9_13 : (ax_dt (ax_T 9)).lookup 13 = some (.aload_n 0, 1, 0, 0, 0) := by decide +kernel
theorem l9_14 : (ax_dt (ax_T 9)).lookup 14 = some (.iload_n 2, 1, 0, 0, 0) := by decide +kernel
theorem l9_15 : (ax_dt (ax_T 9)).lookup 15 = some (.putfield 42, 3, 1, 4, 0) := by decide +kernel
theorem x9_18 : (ax_dx (ax_T 9)).lookup 18 = some ("java/lang/IllegalStateException", "the sections are wrong", 45, 47, 49, false) := by decide +kernel
noncomputable def F_X1_refuse (v1 : Int) (v2 : Int) (μ : bM) : Option ((Int ⊕ String) × bM) := some (.inr "java/lang/IllegalStateException", (bset (bset (bset μ 46 2 v1) 46 3 ((bset μ 46 2 v1) 46 5)) 46 4 v2))
theorem r_X1_refuse {L : Nat} {xs : Nat → Int32} {d : Nat} {μ : bM}  (v1 : Int) (h1 : bR v1) (v2 : Int) (h2 : bR v2) : bD L xs (d + 0) 9 0 [(0, .ref 46), (1, bI v1), (2, bI v2)] [] μ ((F_X1_refuse v1 v2 μ).bind (bXc)) := by
  have hr : ∀ r, (bXc) r = (bXc) r := fun _ => rfl
  unfold F_X1_refuse
  refine bD.ok fun hk => ?_
  refine b_s (pc' := 1) (lv1 := [(0, .ref 46), (1, bI v1), (2, bI v2)]) (st' := [.ref 46]) l9_0 (fun _ => rfl) ?_
  refine b_s (pc' := 2) (lv1 := [(0, .ref 46), (1, bI v1), (2, bI v2)]) (st' := [bI v1, .ref 46]) l9_1 (fun _ => rfl) ?_
  refine b_pi l9_2 (by rfl) (by decide) (by decide) rfl rfl h1 (bD.ok fun hk1 => b_pc (pc' := 5) rfl ?_)
  refine b_s (pc' := 6) (lv1 := [(0, .ref 46), (1, bI v1), (2, bI v2)]) (st' := [.ref 46]) l9_5 (fun _ => rfl) ?_
  refine b_s (pc' := 7) (lv1 := [(0, .ref 46), (1, bI v1), (2, bI v2)]) (st' := [.ref 46, .ref 46]) l9_6 (fun _ => rfl) ?_
  refine b_gi l9_7 (by rfl) (by decide) (by decide) rfl (b_pc (pc' := 10) rfl ?_)
  refine b_pi l9_10 (by rfl) (by decide) (by decide) rfl rfl (bO_f hk1 (ci := 1) (by rfl) rfl) (bD.ok fun hk2 => b_pc (pc' := 13) rfl ?_)
  refine b_s (pc' := 14) (lv1 := [(0, .ref 46), (1, bI v1), (2, bI v2)]) (st' := [.ref 46]) l9_13 (fun _ => rfl) ?_
  refine b_s (pc' := 15) (lv1 := [(0, .ref 46), (1, bI v1), (2, bI v2)]) (st' := [bI v2, .ref 46]) l9_14 (fun _ => rfl) ?_
  refine b_pi l9_15 (by rfl) (by decide) (by decide) rfl rfl h2 (bD.ok fun hk3 => b_pc (pc' := 18) rfl ?_)
  exact b_thr x9_18 (by decide) (Nat.le_of_ble_eq_true rfl) (hr _)
/-! ET$Cursor.lowFirst -/
theorem l10_0 : (ax_dt (ax_T 10)).lookup 0 = some (.aload_n 0, 1, 0, 0, 0) := by decide +kernel
theorem l10_1 : (ax_dt (ax_T 10)).lookup 1 = some (.getfield 33, 3, 1, 1, 0) := by decide +kernel
theorem l10_4 : (ax_dt (ax_T 10)).lookup 4 = some (.aload_n 0, 1, 0, 0, 0) := by decide +kernel
theorem l10_5 : (ax_dt (ax_T 10)).lookup 5 = some (.getfield 30, 3, 1, 0, 0) := by decide +kernel
theorem l10_8 : (ax_dt (ax_T 10)).lookup 8 = some (.isub, 1, 0, 0, 0) := by decide +kernel
theorem l10_9 : (ax_dt (ax_T 10)).lookup 9 = some (.iload_n 1, 1, 0, 0, 0) := by decide +kernel
theorem l10_10 : (ax_dt (ax_T 10)).lookup 10 = some (.if_icmp .ge 12, 3, 0, 0, 0) := by decide +kernel
theorem l10_13 : (ax_dt (ax_T 10)).lookup 13 = some (.aload_n 0, 1, 0, 0, 0) := by decide +kernel
theorem l10_14 : (ax_dt (ax_T 10)).lookup 14 = some (.iconst 1, 1, 0, 0, 0) := by decide +kernel
theorem l10_15 : (ax_dt (ax_T 10)).lookup 15 = some (.aload_n 0, 1, 0, 0, 0) := by decide +kernel
theorem l10_16 : (ax_dt (ax_T 10)).lookup 16 = some (.getfield 33, 3, 1, 1, 0) := by decide +kernel
theorem l10_19 : (ax_dt (ax_T 10)).lookup 19 = some (.invokevirtual 52, 3, 9, 2, 0) := by decide +kernel
theorem l10_22 : (ax_dt (ax_T 10)).lookup 22 = some (.lconst 0, 1, 0, 0, 0) := by decide +kernel
theorem l10_23 : (ax_dt (ax_T 10)).lookup 23 = some (.lstore_n 2, 1, 0, 0, 0) := by decide +kernel
theorem l10_24 : (ax_dt (ax_T 10)).lookup 24 = some (.iconst 0, 1, 0, 0, 0) := by decide +kernel
theorem l10_25 : (ax_dt (ax_T 10)).lookup 25 = some (.istore 4, 2, 0, 0, 0) := by decide +kernel
theorem l10_27 : (ax_dt (ax_T 10)).lookup 27 = some (.iload 4, 2, 0, 0, 0) := by decide +kernel
theorem l10_29 : (ax_dt (ax_T 10)).lookup 29 = some (.iload_n 1, 1, 0, 0, 0) := by decide +kernel
theorem l10_30 : (ax_dt (ax_T 10)).lookup 30 = some (.if_icmp .ge 33, 3, 0, 0, 0) := by decide +kernel
theorem l10_33 : (ax_dt (ax_T 10)).lookup 33 = some (.lload_n 2, 1, 0, 0, 0) := by decide +kernel
theorem l10_34 : (ax_dt (ax_T 10)).lookup 34 = some (.aload_n 0, 1, 0, 0, 0) := by decide +kernel
theorem l10_35 : (ax_dt (ax_T 10)).lookup 35 = some (.getfield 14, 3, 1, 6, 0) := by decide +kernel
theorem l10_38 : (ax_dt (ax_T 10)).lookup 38 = some (.aload_n 0, 1, 0, 0, 0) := by decide +kernel
theorem l10_39 : (ax_dt (ax_T 10)).lookup 39 = some (.getfield 30, 3, 1, 0, 0) := by decide +kernel
theorem l10_42 : (ax_dt (ax_T 10)).lookup 42 = some (.iload 4, 2, 0, 0, 0) := by decide +kernel
theorem l10_44 : (ax_dt (ax_T 10)).lookup 44 = some (.iadd, 1, 0, 0, 0) := by decide +kernel
theorem l10_45 : (ax_dt (ax_T 10)).lookup 45 = some (.invokevirtual 56, 3, 55, 1, 0) := by decide +kernel
theorem l10_48 : (ax_dt (ax_T 10)).lookup 48 = some (.i2l, 1, 0, 0, 0) := by decide +kernel
theorem l10_49 : (ax_dt (ax_T 10)).lookup 49 = some (.bipush 8, 2, 0, 0, 0) := by decide +kernel
theorem l10_51 : (ax_dt (ax_T 10)).lookup 51 = some (.iload 4, 2, 0, 0, 0) := by decide +kernel
theorem l10_53 : (ax_dt (ax_T 10)).lookup 53 = some (.imul, 1, 0, 0, 0) := by decide +kernel
theorem l10_54 : (ax_dt (ax_T 10)).lookup 54 = some (.lshl, 1, 0, 0, 0) := by decide +kernel
theorem l10_55 : (ax_dt (ax_T 10)).lookup 55 = some (.lor, 1, 0, 0, 0) := by decide +kernel
theorem l10_56 : (ax_dt (ax_T 10)).lookup 56 = some (.lstore_n 2, 1, 0, 0, 0) := by decide +kernel
theorem l10_57 : (ax_dt (ax_T 10)).lookup 57 = some (.iinc 4 1, 3, 0, 0, 0) := by decide +kernel
theorem l10_60 : (ax_dt (ax_T 10)).lookup 60 = some (.goto (-33), 3, 0, 0, 0) := by decide +kernel
theorem l10_63 : (ax_dt (ax_T 10)).lookup 63 = some (.aload_n 0, 1, 0, 0, 0) := by decide +kernel
theorem l10_64 : (ax_dt (ax_T 10)).lookup 64 = some (.dup, 1, 0, 0, 0) := by decide +kernel
theorem l10_65 : (ax_dt (ax_T 10)).lookup 65 = some (.getfield 30, 3, 1, 0, 0) := by decide +kernel
theorem l10_68 : (ax_dt (ax_T 10)).lookup 68 = some (.iload_n 1, 1, 0, 0, 0) := by decide +kernel
theorem l10_69 : (ax_dt (ax_T 10)).lookup 69 = some (.iadd, 1, 0, 0, 0) := by decide +kernel
theorem l10_70 : (ax_dt (ax_T 10)).lookup 70 = some (.putfield 30, 3, 1, 0, 0) := by decide +kernel
theorem l10_73 : (ax_dt (ax_T 10)).lookup 73 = some (.lload_n 2, 1, 0, 0, 0) := by decide +kernel
theorem l10_74 : (ax_dt (ax_T 10)).lookup 74 = some (.lreturn, 1, 0, 0, 0) := by decide +kernel
noncomputable def F_X1_lowFirst_27 (v1 : Int) (μ : bM) (v2 : Int) (v4 : Int) : Option ((Int × Int) ⊕ ((Int ⊕ String) × bM)) := if v1 ≤ v4 then bG (bR ((μ 46 0) + v1)) (some (.inr (.inl v2, (bset μ 46 0 ((μ 46 0) + v1))))) else bG (bR ((μ 46 0) + v4)) ((F_X6_at (μ 46 6).toNat ((μ 46 0) + v4) μ).bind fun w5 => bG (bR (8 * v4)) (bG (bR (v4 + 1)) (some (.inl ((bOrL v2 (bShlL w5 (8 * v4))), (v4 + 1))))))
noncomputable def F_X1_lowFirst (v1 : Int) (μ : bM) : Option ((Int ⊕ String) × bM) := bG (bR ((μ 46 1) - (μ 46 0))) (if v1 ≤ ((μ 46 1) - (μ 46 0)) then bLoop (fun z => F_X1_lowFirst_27 v1 μ z.1 z.2) (0, 0) else bXm (F_X1_refuse 1 (μ 46 1) μ) (fun w3 μ4 => bLoop (fun z => F_X1_lowFirst_27 v1 μ4 z.1 z.2) (0, 0)) (fun e μ => some (.inr e, μ)))
theorem q_X1_lowFirst_27 {L : Nat} {xs : Nat → Int32} {d : Nat} {μ : bM} {v1 : Int} {κ : ((Int × Int) ⊕ ((Int ⊕ String) × bM)) → Option bX} (hr : ∀ r : (Int ⊕ String) × bM, κ (.inr r) = (bXc) r) (H27 : ∀ (v2 : Int) (v4 : Int), bRL v2 → bR v4 → bD L xs (d + 1) 10 27 [(0, .ref 46), (1, bI v1), (2, bLg v2), (4, bI v4)] [] μ (κ (.inl (v2, v4))))  (h1 : bR v1) {v2 : Int} (h2 : bRL v2) {v4 : Int} (h4 : bR v4) : bD L xs (d + 1) 10 27 [(0, .ref 46), (1, bI v1), (2, bLg v2), (4, bI v4)] [] μ ((F_X1_lowFirst_27 v1 μ v2 v4).bind κ) := by
  unfold F_X1_lowFirst_27
  refine bD.ok fun hk => ?_
  refine b_s (pc' := 29) (lv1 := [(0, .ref 46), (1, bI v1), (2, bLg v2), (4, bI v4)]) (st' := [bI v4]) l10_27 (fun _ => rfl) ?_
  refine b_s (pc' := 30) (lv1 := [(0, .ref 46), (1, bI v1), (2, bLg v2), (4, bI v4)]) (st' := [bI v1, bI v4]) l10_29 (fun _ => rfl) ?_
  refine b_ige (pt := 63) l10_30 h4 h1 (by decide) rfl (fun c1 => ?_) (fun c1 => b_pc (pc' := 33) rfl ?_)
  · refine b_s (pc' := 64) (lv1 := [(0, .ref 46), (1, bI v1), (2, bLg v2), (4, bI v4)]) (st' := [.ref 46]) l10_63 (fun _ => rfl) ?_
    refine b_s (pc' := 65) (lv1 := [(0, .ref 46), (1, bI v1), (2, bLg v2), (4, bI v4)]) (st' := [.ref 46, .ref 46]) l10_64 (fun _ => rfl) ?_
    refine b_gi l10_65 (by rfl) (by decide) (by decide) rfl (b_pc (pc' := 68) rfl ?_)
    refine b_s (pc' := 69) (lv1 := [(0, .ref 46), (1, bI v1), (2, bLg v2), (4, bI v4)]) (st' := [bI v1, bI (μ 46 0), .ref 46]) l10_68 (fun _ => rfl) ?_
    refine b_iadd l10_69 fun g2 => (b_pc (pc' := 70) rfl ?_)
    refine b_pi l10_70 (by rfl) (by decide) (by decide) rfl rfl g2 (bD.ok fun hk3 => b_pc (pc' := 73) rfl ?_)
    refine b_s (pc' := 74) (lv1 := [(0, .ref 46), (1, bI v1), (2, bLg v2), (4, bI v4)]) (st' := [bLg v2]) l10_73 (fun _ => rfl) ?_
    exact b_retl l10_74 rfl h2 (hr _)
  · refine b_s (pc' := 34) (lv1 := [(0, .ref 46), (1, bI v1), (2, bLg v2), (4, bI v4)]) (st' := [bLg v2]) l10_33 (fun _ => rfl) ?_
    refine b_s (pc' := 35) (lv1 := [(0, .ref 46), (1, bI v1), (2, bLg v2), (4, bI v4)]) (st' := [.ref 46, bLg v2]) l10_34 (fun _ => rfl) ?_
    refine b_gr l10_35 (by rfl) (by decide) (by decide) rfl (b_pc (pc' := 38) rfl ?_)
    refine b_s (pc' := 39) (lv1 := [(0, .ref 46), (1, bI v1), (2, bLg v2), (4, bI v4)]) (st' := [.ref 46, .ref (μ 46 6).toNat, bLg v2]) l10_38 (fun _ => rfl) ?_
    refine b_gi l10_39 (by rfl) (by decide) (by decide) rfl (b_pc (pc' := 42) rfl ?_)
    refine b_s (pc' := 44) (lv1 := [(0, .ref 46), (1, bI v1), (2, bLg v2), (4, bI v4)]) (st' := [bI v4, bI (μ 46 0), .ref (μ 46 6).toNat, bLg v2]) l10_42 (fun _ => rfl) ?_
    refine b_iadd l10_44 fun g4 => (b_pc (pc' := 45) rfl ?_)
    refine b_cPi l10_45 rfl (b_rc (ci := 5) (bO_fs hk (ci := 1) (by rfl) rfl) (by decide) (by decide +kernel)) (Nat.le_of_ble_eq_true rfl) (Nat.le_of_ble_eq_true rfl) rfl (r_X6_at (μ 46 6).toNat (bO_fs hk (ci := 1) (by rfl) rfl) ((μ 46 0) + v4) g4) fun w5 hw5 => b_pc (pc' := 48) rfl ?_
    refine b_i2l l10_48 hw5 (b_pc (pc' := 49) rfl ?_)
    refine b_bipush l10_49 (by decide) (b_pc (pc' := 51) rfl ?_)
    refine b_s (pc' := 53) (lv1 := [(0, .ref 46), (1, bI v1), (2, bLg v2), (4, bI v4)]) (st' := [bI v4, bI 8, bLg w5, bLg v2]) l10_51 (fun _ => rfl) ?_
    refine b_imul l10_53 fun g6 => (b_pc (pc' := 54) rfl ?_)
    refine b_lshl l10_54 (b_pc (pc' := 55) rfl ?_)
    refine b_lor l10_55 (b_pc (pc' := 56) rfl ?_)
    refine b_w (pc' := 57) (lv1 := ax_st2 [(0, .ref 46), (1, bI v1), (2, bLg v2), (4, bI v4)] 2 (bLg (bOrL v2 (bShlL w5 (8 * v4))))) (lv' := [(0, .ref 46), (1, bI v1), (2, bLg (bOrL v2 (bShlL w5 (8 * v4)))), (4, bI v4)]) (st' := []) l10_56 (fun _ => rfl) (bSb rfl (bSb rfl (bSb rfl (bSb rfl bSn)))) ?_
    refine b_inc (lv' := [(0, .ref 46), (1, bI v1), (2, bLg (bOrL v2 (bShlL w5 (8 * v4)))), (4, bI (v4 + 1))]) l10_57 rfl (by decide +kernel) (bSb rfl (bSb rfl (bSb rfl (bSb rfl bSn)))) fun g7 => (b_pc (pc' := 60) rfl ?_)
    refine b_s (pc' := 27) (lv1 := [(0, .ref 46), (1, bI v1), (2, bLg (bOrL v2 (bShlL w5 (8 * v4)))), (4, bI (v4 + 1))]) (st' := []) l10_60 (fun _ => rfl) ?_
    refine bD.wk (lv' := [(0, .ref 46), (1, bI v1), (2, bLg (bOrL v2 (bShlL w5 (8 * v4)))), (4, bI (v4 + 1))]) (bSb rfl (bSb rfl (bSb rfl (bSb rfl bSn)))) ?_
    exact H27 (bOrL v2 (bShlL w5 (8 * v4))) (v4 + 1) (bl_rg _) g7
theorem p_X1_lowFirst_27 {L : Nat} {xs : Nat → Int32} {d : Nat} {μ : bM}  {κ : ((Int ⊕ String) × bM) → Option bX} (hr : ∀ r : (Int ⊕ String) × bM, κ r = (bXc) r)  {v1 : Int} (h1 : bR v1) {v2 : Int} (h2 : bRL v2) {v4 : Int} (h4 : bR v4) : bD L xs (d + 1) 10 27 [(0, .ref 46), (1, bI v1), (2, bLg v2), (4, bI v4)] [] μ ((bLoop (fun z => F_X1_lowFirst_27 v1 μ z.1 z.2) (v2, v4)).bind κ) :=
  b_loop (fun z => [(0, .ref 46), (1, bI v1), (2, bLg z.1), (4, bI z.2)]) (fun z => μ) (fun z => bRL z.1 ∧ bR z.2) (fun κ' hκ HH z hz => q_X1_lowFirst_27 (κ := κ') (fun r => (hκ _).trans (hr r)) (fun a2 a4 b2 b4 => HH (a2, a4) ⟨b2, b4⟩)  h1 hz.1 hz.2) (v2, v4) ⟨h2, h4⟩
theorem r_X1_lowFirst {L : Nat} {xs : Nat → Int32} {d : Nat} {μ : bM}  (v1 : Int) (h1 : bR v1) : bD L xs (d + 1) 10 0 [(0, .ref 46), (1, bI v1)] [] μ ((F_X1_lowFirst v1 μ).bind (bXc)) := by
  have hr : ∀ r, (bXc) r = (bXc) r := fun _ => rfl
  unfold F_X1_lowFirst
  refine bD.ok fun hk => ?_
  refine b_s (pc' := 1) (lv1 := [(0, .ref 46), (1, bI v1)]) (st' := [.ref 46]) l10_0 (fun _ => rfl) ?_
  refine b_gi l10_1 (by rfl) (by decide) (by decide) rfl (b_pc (pc' := 4) rfl ?_)
  refine b_s (pc' := 5) (lv1 := [(0, .ref 46), (1, bI v1)]) (st' := [.ref 46, bI (μ 46 1)]) l10_4 (fun _ => rfl) ?_
  refine b_gi l10_5 (by rfl) (by decide) (by decide) rfl (b_pc (pc' := 8) rfl ?_)
  refine b_isub l10_8 fun g1 => (b_pc (pc' := 9) rfl ?_)
  refine b_s (pc' := 10) (lv1 := [(0, .ref 46), (1, bI v1)]) (st' := [bI v1, bI ((μ 46 1) - (μ 46 0))]) l10_9 (fun _ => rfl) ?_
  refine b_ige (pt := 22) l10_10 g1 h1 (by decide) rfl (fun c2 => ?_) (fun c2 => b_pc (pc' := 13) rfl ?_)
  · refine b_lconst (e := 0) l10_22 (by decide) (b_pc (pc' := 23) rfl ?_)
    refine b_w (pc' := 24) (lv1 := ax_st2 [(0, .ref 46), (1, bI v1)] 2 (bLg 0)) (lv' := [(0, .ref 46), (1, bI v1), (2, bLg 0)]) (st' := []) l10_23 (fun _ => rfl) (bSb rfl (bSb rfl (bSb rfl bSn))) ?_
    refine b_s (pc' := 25) (lv1 := [(0, .ref 46), (1, bI v1), (2, bLg 0)]) (st' := [bI 0]) l10_24 (fun _ => rfl) ?_
    refine b_w (pc' := 27) (lv1 := ax_st1 [(0, .ref 46), (1, bI v1), (2, bLg 0)] 4 (bI 0)) (lv' := [(0, .ref 46), (1, bI v1), (2, bLg 0), (4, bI 0)]) (st' := []) l10_25 (fun _ => rfl) (bSb rfl (bSb rfl (bSb rfl (bSb rfl bSn)))) ?_
    refine bD.wk (lv' := [(0, .ref 46), (1, bI v1), (2, bLg 0), (4, bI 0)]) (bSb rfl (bSb rfl (bSb rfl (bSb rfl bSn)))) ?_
    exact p_X1_lowFirst_27 hr h1 (by decide) (by decide)
  · refine b_s (pc' := 14) (lv1 := [(0, .ref 46), (1, bI v1)]) (st' := [.ref 46]) l10_13 (fun _ => rfl) ?_
    refine b_s (pc' := 15) (lv1 := [(0, .ref 46), (1, bI v1)]) (st' := [bI 1, .ref 46]) l10_14 (fun _ => rfl) ?_
    refine b_s (pc' := 16) (lv1 := [(0, .ref 46), (1, bI v1)]) (st' := [.ref 46, bI 1, .ref 46]) l10_15 (fun _ => rfl) ?_
    refine b_gi l10_16 (by rfl) (by decide) (by decide) rfl (b_pc (pc' := 19) rfl ?_)
    refine b_cXv l10_19 rfl (b_rc (ci := 1) (by rfl) (by decide) (by decide +kernel)) (Nat.le_of_ble_eq_true rfl) (Nat.le_of_ble_eq_true rfl) rfl (r_X1_refuse 1 (by decide) (μ 46 1) (bO_f hk (ci := 1) (by rfl) rfl)) ⟨fun _ z => (by cases z), (by decide +kernel)⟩ rfl (fun _ _ => hr _) fun w3 μ4 hw3 => bD.ok fun hk5 => b_pc (pc' := 22) rfl ?_
    refine b_lconst (e := 0) l10_22 (by decide) (b_pc (pc' := 23) rfl ?_)
    refine b_w (pc' := 24) (lv1 := ax_st2 [(0, .ref 46), (1, bI v1)] 2 (bLg 0)) (lv' := [(0, .ref 46), (1, bI v1), (2, bLg 0)]) (st' := []) l10_23 (fun _ => rfl) (bSb rfl (bSb rfl (bSb rfl bSn))) ?_
    refine b_s (pc' := 25) (lv1 := [(0, .ref 46), (1, bI v1), (2, bLg 0)]) (st' := [bI 0]) l10_24 (fun _ => rfl) ?_
    refine b_w (pc' := 27) (lv1 := ax_st1 [(0, .ref 46), (1, bI v1), (2, bLg 0)] 4 (bI 0)) (lv' := [(0, .ref 46), (1, bI v1), (2, bLg 0), (4, bI 0)]) (st' := []) l10_25 (fun _ => rfl) (bSb rfl (bSb rfl (bSb rfl (bSb rfl bSn)))) ?_
    refine bD.wk (lv' := [(0, .ref 46), (1, bI v1), (2, bLg 0), (4, bI 0)]) (bSb rfl (bSb rfl (bSb rfl (bSb rfl bSn)))) ?_
    exact p_X1_lowFirst_27 hr h1 (by decide) (by decide)
/-! ET$Cursor.row -/
theorem l11_0 : (ax_dt (ax_T 11)).lookup 0 = some (.aload_n 0, 1, 0, 0, 0) := by decide +kernel
theorem l11_1 : (ax_dt (ax_T 11)).lookup 1 = some (.getfield 30, 3, 1, 0, 0) := by decide +kernel
theorem l11_4 : (ax_dt (ax_T 11)).lookup 4 = some (.istore_n 2, 1, 0, 0, 0) := by decide +kernel
theorem l11_5 : (ax_dt (ax_T 11)).lookup 5 = some (.lconst 0, 1, 0, 0, 0) := by decide +kernel
theorem l11_6 : (ax_dt (ax_T 11)).lookup 6 = some (.lstore_n 3, 1, 0, 0, 0) := by decide +kernel
theorem l11_7 : (ax_dt (ax_T 11)).lookup 7 = some (.iconst 0, 1, 0, 0, 0) := by decide +kernel
theorem l11_8 : (ax_dt (ax_T 11)).lookup 8 = some (.istore 5, 2, 0, 0, 0) := by decide +kernel
theorem l11_10 : (ax_dt (ax_T 11)).lookup 10 = some (.iload 5, 2, 0, 0, 0) := by decide +kernel
theorem l11_12 : (ax_dt (ax_T 11)).lookup 12 = some (.bipush 10, 2, 0, 0, 0) := by decide +kernel
theorem l11_14 : (ax_dt (ax_T 11)).lookup 14 = some (.if_icmp .ge 162, 3, 0, 0, 0) := by decide +kernel
theorem l11_17 : (ax_dt (ax_T 11)).lookup 17 = some (.aload_n 0, 1, 0, 0, 0) := by decide +kernel
theorem l11_18 : (ax_dt (ax_T 11)).lookup 18 = some (.getfield 30, 3, 1, 0, 0) := by decide +kernel
theorem l11_21 : (ax_dt (ax_T 11)).lookup 21 = some (.aload_n 0, 1, 0, 0, 0) := by decide +kernel
theorem l11_22 : (ax_dt (ax_T 11)).lookup 22 = some (.getfield 33, 3, 1, 1, 0) := by decide +kernel
theorem l11_25 : (ax_dt (ax_T 11)).lookup 25 = some (.if_icmp .lt 12, 3, 0, 0, 0) := by decide +kernel
theorem l11_28 : (ax_dt (ax_T 11)).lookup 28 = some (.aload_n 0, 1, 0, 0, 0) := by decide +kernel
theorem l11_29 : (ax_dt (ax_T 11)).lookup 29 = some (.iconst 1, 1, 0, 0, 0) := by decide +kernel
theorem l11_30 : (ax_dt (ax_T 11)).lookup 30 = some (.aload_n 0, 1, 0, 0, 0) := by decide +kernel
theorem l11_31 : (ax_dt (ax_T 11)).lookup 31 = some (.getfield 33, 3, 1, 1, 0) := by decide +kernel
theorem l11_34 : (ax_dt (ax_T 11)).lookup 34 = some (.invokevirtual 52, 3, 9, 2, 0) := by decide +kernel
theorem l11_37 : (ax_dt (ax_T 11)).lookup 37 = some (.aload_n 0, 1, 0, 0, 0) := by decide +kernel
theorem l11_38 : (ax_dt (ax_T 11)).lookup 38 = some (.getfield 14, 3, 1, 6, 0) := by decide +kernel
theorem l11_41 : (ax_dt (ax_T 11)).lookup 41 = some (.aload_n 0, 1, 0, 0, 0) := by decide +kernel
theorem l11_42 : (ax_dt (ax_T 11)).lookup 42 = some (.getfield 30, 3, 1, 0, 0) := by decide +kernel
theorem l11_45 : (ax_dt (ax_T 11)).lookup 45 = some (.invokevirtual 56, 3, 55, 1, 0) := by decide +kernel
theorem l11_48 : (ax_dt (ax_T 11)).lookup 48 = some (.istore 6, 2, 0, 0, 0) := by decide +kernel
theorem l11_50 : (ax_dt (ax_T 11)).lookup 50 = some (.aload_n 0, 1, 0, 0, 0) := by decide +kernel
theorem l11_51 : (ax_dt (ax_T 11)).lookup 51 = some (.dup, 1, 0, 0, 0) := by decide +kernel
theorem l11_52 : (ax_dt (ax_T 11)).lookup 52 = some (.getfield 30, 3, 1, 0, 0) := by decide +kernel
theorem l11_55 : (ax_dt (ax_T 11)).lookup 55 = some (.iconst 1, 1, 0, 0, 0) := by decide +kernel
theorem l11_56 : (ax_dt (ax_T 11)).lookup 56 = some (.iadd, 1, 0, 0, 0) := by decide +kernel
theorem l11_57 : (ax_dt (ax_T 11)).lookup 57 = some (.putfield 30, 3, 1, 0, 0) := by decide +kernel
theorem l11_60 : (ax_dt (ax_T 11)).lookup 60 = some (.iload 5, 2, 0, 0, 0) := by decide +kernel
theorem l11_62 : (ax_dt (ax_T 11)).lookup 62 = some (.bipush 9, 2, 0, 0, 0) := by decide +kernel
theorem l11_64 : (ax_dt (ax_T 11)).lookup 64 = some (.if_icmp .ne 7, 3, 0, 0, 0) := by decide +kernel
theorem l11_67 : (ax_dt (ax_T 11)).lookup 67 = some (.iconst 1, 1, 0, 0, 0) := by decide +kernel
theorem l11_68 : (ax_dt (ax_T 11)).lookup 68 = some (.goto 4, 3, 0, 0, 0) := by decide +kernel
theorem l11_71 : (ax_dt (ax_T 11)).lookup 71 = some (.iconst 0, 1, 0, 0, 0) := by decide +kernel
theorem l11_72 : (ax_dt (ax_T 11)).lookup 72 = some (.istore 7, 2, 0, 0, 0) := by decide +kernel
theorem l11_74 : (ax_dt (ax_T 11)).lookup 74 = some (.iload 7, 2, 0, 0, 0) := by decide +kernel
theorem l11_76 : (ax_dt (ax_T 11)).lookup 76 = some (.ifCond .eq 25, 3, 0, 0, 0) := by decide +kernel
theorem l11_79 : (ax_dt (ax_T 11)).lookup 79 = some (.iload 6, 2, 0, 0, 0) := by decide +kernel
theorem l11_81 : (ax_dt (ax_T 11)).lookup 81 = some (.ifCond .eq 20, 3, 0, 0, 0) := by decide +kernel
theorem l11_84 : (ax_dt (ax_T 11)).lookup 84 = some (.iload_n 1, 1, 0, 0, 0) := by decide +kernel
theorem l11_85 : (ax_dt (ax_T 11)).lookup 85 = some (.ifCond .eq 10, 3, 0, 0, 0) := by decide +kernel
theorem l11_88 : (ax_dt (ax_T 11)).lookup 88 = some (.iload 6, 2, 0, 0, 0) := by decide +kernel
theorem l11_90 : (ax_dt (ax_T 11)).lookup 90 = some (.bipush 127, 2, 0, 0, 0) := by decide +kernel
theorem l11_92 : (ax_dt (ax_T 11)).lookup 92 = some (.if_icmp .eq 9, 3, 0, 0, 0) := by decide +kernel
theorem l11_95 : (ax_dt (ax_T 11)).lookup 95 = some (.aload_n 0, 1, 0, 0, 0) := by decide +kernel
theorem l11_96 : (ax_dt (ax_T 11)).lookup 96 = some (.iconst 4, 1, 0, 0, 0) := by decide +kernel
theorem l11_97 : (ax_dt (ax_T 11)).lookup 97 = some (.iload_n 2, 1, 0, 0, 0) := by decide +kernel
theorem l11_98 : (ax_dt (ax_T 11)).lookup 98 = some (.invokevirtual 52, 3, 9, 2, 0) := by decide +kernel
theorem l11_101 : (ax_dt (ax_T 11)).lookup 101 = some (.lload_n 3, 1, 0, 0, 0) := by decide +kernel
theorem l11_102 : (ax_dt (ax_T 11)).lookup 102 = some (.iload 6, 2, 0, 0, 0) := by decide +kernel
theorem l11_104 : (ax_dt (ax_T 11)).lookup 104 = some (.bipush 127, 2, 0, 0, 0) := by decide +kernel
theorem l11_106 : (ax_dt (ax_T 11)).lookup 106 = some (.iand, 1, 0, 0, 0) := by decide +kernel
theorem l11_107 : (ax_dt (ax_T 11)).lookup 107 = some (.i2l, 1, 0, 0, 0) := by decide +kernel
theorem l11_108 : (ax_dt (ax_T 11)).lookup 108 = some (.bipush 7, 2, 0, 0, 0) := by decide +kernel
theorem l11_110 : (ax_dt (ax_T 11)).lookup 110 = some (.iload 5, 2, 0, 0, 0) := by decide +kernel
theorem l11_112 : (ax_dt (ax_T 11)).lookup 112 = some (.imul, 1, 0, 0, 0) := by decide +kernel
theorem l11_113 : (ax_dt (ax_T 11)).lookup 113 = some (.lshl, 1, 0, 0, 0) := by decide +kernel
theorem l11_114 : (ax_dt (ax_T 11)).lookup 114 = some (.lor, 1, 0, 0, 0) := by decide +kernel
theorem l11_115 : (ax_dt (ax_T 11)).lookup 115 = some (.lstore_n 3, 1, 0, 0, 0) := by decide +kernel
theorem l11_116 : (ax_dt (ax_T 11)).lookup 116 = some (.iload 6, 2, 0, 0, 0) := by decide +kernel
theorem l11_118 : (ax_dt (ax_T 11)).lookup 118 = some (.sipush 128, 3, 0, 0, 0) := by decide +kernel
theorem l11_121 : (ax_dt (ax_T 11)).lookup 121 = some (.if_icmp .ge 49, 3, 0, 0, 0) := by decide +kernel
theorem l11_124 : (ax_dt (ax_T 11)).lookup 124 = some (.iload_n 1, 1, 0, 0, 0) := by decide +kernel
theorem l11_125 : (ax_dt (ax_T 11)).lookup 125 = some (.ifCond .eq 14, 3, 0, 0, 0) := by decide +kernel
theorem l11_128 : (ax_dt (ax_T 11)).lookup 128 = some (.iload 6, 2, 0, 0, 0) := by decide +kernel
theorem l11_130 : (ax_dt (ax_T 11)).lookup 130 = some (.bipush 64, 2, 0, 0, 0) := by decide +kernel
theorem l11_132 : (ax_dt (ax_T 11)).lookup 132 = some (.if_icmp .lt 7, 3, 0, 0, 0) := by decide +kernel
theorem l11_135 : (ax_dt (ax_T 11)).lookup 135 = some (.iconst 1, 1, 0, 0, 0) := by decide +kernel
theorem l11_136 : (ax_dt (ax_T 11)).lookup 136 = some (.goto 4, 3, 0, 0, 0) := by decide +kernel
theorem l11_139 : (ax_dt (ax_T 11)).lookup 139 = some (.iconst 0, 1, 0, 0, 0) := by decide +kernel
theorem l11_140 : (ax_dt (ax_T 11)).lookup 140 = some (.istore 8, 2, 0, 0, 0) := by decide +kernel
theorem l11_142 : (ax_dt (ax_T 11)).lookup 142 = some (.iload 8, 2, 0, 0, 0) := by decide +kernel
theorem l11_144 : (ax_dt (ax_T 11)).lookup 144 = some (.ifCond .eq 24, 3, 0, 0, 0) := by decide +kernel
theorem l11_147 : (ax_dt (ax_T 11)).lookup 147 = some (.iload 7, 2, 0, 0, 0) := by decide +kernel
theorem l11_149 : (ax_dt (ax_T 11)).lookup 149 = some (.ifCond .ne 19, 3, 0, 0, 0) := by decide +kernel
theorem l11_152 : (ax_dt (ax_T 11)).lookup 152 = some (.lload_n 3, 1, 0, 0, 0) := by decide +kernel
theorem l11_153 : (ax_dt (ax_T 11)).lookup 153 = some (.ldc2_w 59, 3, 0, 0, (-1)) := by decide +kernel
theorem l11_156 : (ax_dt (ax_T 11)).lookup 156 = some (.bipush 7, 2, 0, 0, 0) := by decide +kernel
theorem l11_158 : (ax_dt (ax_T 11)).lookup 158 = some (.iload 5, 2, 0, 0, 0) := by decide +kernel
theorem l11_160 : (ax_dt (ax_T 11)).lookup 160 = some (.iconst 1, 1, 0, 0, 0) := by decide +kernel
theorem l11_161 : (ax_dt (ax_T 11)).lookup 161 = some (.iadd, 1, 0, 0, 0) := by decide +kernel
theorem l11_162 : (ax_dt (ax_T 11)).lookup 162 = some (.imul, 1, 0, 0, 0) := by decide +kernel
theorem l11_163 : (ax_dt (ax_T 11)).lookup 163 = some (.lshl, 1, 0, 0, 0) := by decide +kernel
theorem l11_164 : (ax_dt (ax_T 11)).lookup 164 = some (.lor, 1, 0, 0, 0) := by decide +kernel
theorem l11_165 : (ax_dt (ax_T 11)).lookup 165 = some (.goto 4, 3, 0, 0, 0) := by decide +kernel
theorem l11_168 : (ax_dt (ax_T 11)).lookup 168 = some (.lload_n 3, 1, 0, 0, 0) := by decide +kernel
theorem l11_169 : (ax_dt (ax_T 11)).lookup 169 = some (.lreturn, 1, 0, 0, 0) := by decide +kernel
theorem l11_170 : (ax_dt (ax_T 11)).lookup 170 = some (.iinc 5 1, 3, 0, 0, 0) := by decide +kernel
theorem l11_173 : (ax_dt (ax_T 11)).lookup 173 = some (.goto (-163), 3, 0, 0, 0) := by decide +kernel
theorem l11_176 : (ax_dt (ax_T 11)).lookup 176 = some (.lload_n 3, 1, 0, 0, 0) := by decide +kernel
theorem l11_177 : (ax_dt (ax_T 11)).lookup 177 = some (.lreturn, 1, 0, 0, 0) := by decide +kernel
noncomputable def F_X1_row_140 (v3 : Int) (v5 : Int) (v7 : Int) (y0 : Int) (μ : bM) : Option ((Int ⊕ String) × bM) := if y0 = 0 then some (.inl v3, μ) else if ¬ v7 = 0 then some (.inl v3, μ) else bG (bR (v5 + 1)) (bG (bR (7 * (v5 + 1))) (some (.inl (bOrL v3 (bShlL (-1) (7 * (v5 + 1)))), μ)))
noncomputable def F_X1_row_139 (v3 : Int) (v5 : Int) (v7 : Int) (μ : bM) : Option ((Int ⊕ String) × bM) := F_X1_row_140 v3 v5 v7 0 μ
noncomputable def F_X1_row_124 (v1 : Int) (v3 : Int) (v5 : Int) (v6 : Int) (v7 : Int) (μ : bM) : Option ((Int ⊕ String) × bM) := if v1 = 0 then F_X1_row_139 v3 v5 v7 μ else if v6 < 64 then F_X1_row_139 v3 v5 v7 μ else F_X1_row_140 v3 v5 v7 1 μ
noncomputable def F_X1_row_101 (v1 : Int) (v2 : Int) (v3 : Int) (v5 : Int) (v6 : Int) (v7 : Int) (μ : bM) : Option ((Int × Int × bM) ⊕ ((Int ⊕ String) × bM)) := bG (bR (7 * v5)) (if 128 ≤ v6 then bG (bR (v5 + 1)) (some (.inl ((bOrL v3 (bShlL (bAnd v6 127) (7 * v5))), (v5 + 1), μ))) else bUp (F_X1_row_124 v1 (bOrL v3 (bShlL (bAnd v6 127) (7 * v5))) v5 v6 v7 μ))
noncomputable def F_X1_row_95 (v1 : Int) (v2 : Int) (v3 : Int) (v5 : Int) (v6 : Int) (v7 : Int) (μ : bM) : Option ((Int × Int × bM) ⊕ ((Int ⊕ String) × bM)) := bXm (F_X1_refuse 4 v2 μ) (fun w1 μ2 => F_X1_row_101 v1 v2 v3 v5 v6 v7 μ2) (fun e μ => some (.inr (.inr e, μ)))
noncomputable def F_X1_row_72 (v1 : Int) (v2 : Int) (v3 : Int) (v5 : Int) (v6 : Int) (y0 : Int) (μ : bM) : Option ((Int × Int × bM) ⊕ ((Int ⊕ String) × bM)) := if y0 = 0 then F_X1_row_101 v1 v2 v3 v5 v6 y0 μ else if v6 = 0 then F_X1_row_101 v1 v2 v3 v5 v6 y0 μ else if v1 = 0 then F_X1_row_95 v1 v2 v3 v5 v6 y0 μ else if v6 = 127 then F_X1_row_101 v1 v2 v3 v5 v6 y0 μ else F_X1_row_95 v1 v2 v3 v5 v6 y0 μ
noncomputable def F_X1_row_37 (v1 : Int) (v2 : Int) (v3 : Int) (v5 : Int) (μ : bM) : Option ((Int × Int × bM) ⊕ ((Int ⊕ String) × bM)) := (F_X6_at (μ 46 6).toNat (μ 46 0) μ).bind fun w1 => bG (bR ((μ 46 0) + 1)) (if ¬ v5 = 9 then F_X1_row_72 v1 v2 v3 v5 w1 0 (bset μ 46 0 ((μ 46 0) + 1)) else F_X1_row_72 v1 v2 v3 v5 w1 1 (bset μ 46 0 ((μ 46 0) + 1)))
noncomputable def F_X1_row_10 (v1 : Int) (v2 : Int) (v3 : Int) (v5 : Int) (μ : bM) : Option ((Int × Int × bM) ⊕ ((Int ⊕ String) × bM)) := if 10 ≤ v5 then some (.inr (.inl v3, μ)) else if (μ 46 0) < (μ 46 1) then F_X1_row_37 v1 v2 v3 v5 μ else bXm (F_X1_refuse 1 (μ 46 1) μ) (fun w3 μ4 => F_X1_row_37 v1 v2 v3 v5 μ4) (fun e μ => some (.inr (.inr e, μ)))
noncomputable def F_X1_row (v1 : Int) (μ : bM) : Option ((Int ⊕ String) × bM) := bLoop (fun z => F_X1_row_10 v1 (μ 46 0) z.1 z.2.1 z.2.2) (0, 0, μ)
theorem p_X1_row_140 {L : Nat} {xs : Nat → Int32} {d : Nat} {μ : bM}  {κ : ((Int ⊕ String) × bM) → Option bX} (hr : ∀ r : (Int ⊕ String) × bM, κ r = (bXc) r)  {v3 : Int} (h3 : bRL v3) {v5 : Int} (h5 : bR v5) {v7 : Int} (h7 : bR v7) {y0 : Int} (hy0 : bR y0) : bD L xs (d + 1) 11 140 [(3, bLg v3), (5, bI v5), (7, bI v7)] [bI y0] μ ((F_X1_row_140 v3 v5 v7 y0 μ).bind κ) := by
  unfold F_X1_row_140
  refine bD.ok fun hk => ?_
  refine b_w (pc' := 142) (lv1 := ax_st1 [(3, bLg v3), (5, bI v5), (7, bI v7)] 8 (bI y0)) (lv' := [(3, bLg v3), (5, bI v5), (7, bI v7), (8, bI y0)]) (st' := []) l11_140 (fun _ => rfl) (bSb rfl (bSb rfl (bSb rfl (bSb rfl bSn)))) ?_
  refine b_s (pc' := 144) (lv1 := [(3, bLg v3), (5, bI v5), (7, bI v7), (8, bI y0)]) (st' := [bI y0]) l11_142 (fun _ => rfl) ?_
  refine b_zeq (pt := 168) l11_144 hy0 (by decide) rfl (fun c1 => ?_) (fun c1 => b_pc (pc' := 147) rfl ?_)
  · refine b_s (pc' := 169) (lv1 := [(3, bLg v3), (5, bI v5), (7, bI v7), (8, bI y0)]) (st' := [bLg v3]) l11_168 (fun _ => rfl) ?_
    exact b_retl l11_169 rfl h3 (hr _)
  · refine b_s (pc' := 149) (lv1 := [(3, bLg v3), (5, bI v5), (7, bI v7), (8, bI y0)]) (st' := [bI v7]) l11_147 (fun _ => rfl) ?_
    refine b_zne (pt := 168) l11_149 h7 (by decide) rfl (fun c2 => ?_) (fun c2 => b_pc (pc' := 152) rfl ?_)
    · refine b_s (pc' := 169) (lv1 := [(3, bLg v3), (5, bI v5), (7, bI v7), (8, bI y0)]) (st' := [bLg v3]) l11_168 (fun _ => rfl) ?_
      exact b_retl l11_169 rfl h3 (hr _)
    · refine b_s (pc' := 153) (lv1 := [(3, bLg v3), (5, bI v5), (7, bI v7), (8, bI y0)]) (st' := [bLg v3]) l11_152 (fun _ => rfl) ?_
      refine b_s (pc' := 156) (lv1 := [(3, bLg v3), (5, bI v5), (7, bI v7), (8, bI y0)]) (st' := [bLg (-1), bLg v3]) l11_153 (fun _ => rfl) ?_
      refine b_bipush l11_156 (by decide) (b_pc (pc' := 158) rfl ?_)
      refine b_s (pc' := 160) (lv1 := [(3, bLg v3), (5, bI v5), (7, bI v7), (8, bI y0)]) (st' := [bI v5, bI 7, bLg (-1), bLg v3]) l11_158 (fun _ => rfl) ?_
      refine b_s (pc' := 161) (lv1 := [(3, bLg v3), (5, bI v5), (7, bI v7), (8, bI y0)]) (st' := [bI 1, bI v5, bI 7, bLg (-1), bLg v3]) l11_160 (fun _ => rfl) ?_
      refine b_iadd l11_161 fun g3 => (b_pc (pc' := 162) rfl ?_)
      refine b_imul l11_162 fun g4 => (b_pc (pc' := 163) rfl ?_)
      refine b_lshl l11_163 (b_pc (pc' := 164) rfl ?_)
      refine b_lor l11_164 (b_pc (pc' := 165) rfl ?_)
      refine b_s (pc' := 169) (lv1 := [(3, bLg v3), (5, bI v5), (7, bI v7), (8, bI y0)]) (st' := [bLg (bOrL v3 (bShlL (-1) (7 * (v5 + 1))))]) l11_165 (fun _ => rfl) ?_
      exact b_retl l11_169 rfl (bl_rg _) (hr _)
theorem p_X1_row_139 {L : Nat} {xs : Nat → Int32} {d : Nat} {μ : bM}  {κ : ((Int ⊕ String) × bM) → Option bX} (hr : ∀ r : (Int ⊕ String) × bM, κ r = (bXc) r)  {v3 : Int} (h3 : bRL v3) {v5 : Int} (h5 : bR v5) {v7 : Int} (h7 : bR v7) : bD L xs (d + 1) 11 139 [(3, bLg v3), (5, bI v5), (7, bI v7)] [] μ ((F_X1_row_139 v3 v5 v7 μ).bind κ) := by
  unfold F_X1_row_139
  refine bD.ok fun hk => ?_
  refine b_s (pc' := 140) (lv1 := [(3, bLg v3), (5, bI v5), (7, bI v7)]) (st' := [bI 0]) l11_139 (fun _ => rfl) ?_
  refine bD.wk (lv' := [(3, bLg v3), (5, bI v5), (7, bI v7)]) (bSb rfl (bSb rfl (bSb rfl bSn))) ?_
  exact p_X1_row_140 hr h3 h5 h7 (by decide)
theorem p_X1_row_124 {L : Nat} {xs : Nat → Int32} {d : Nat} {μ : bM}  {κ : ((Int ⊕ String) × bM) → Option bX} (hr : ∀ r : (Int ⊕ String) × bM, κ r = (bXc) r)  {v1 : Int} (h1 : bR v1) {v3 : Int} (h3 : bRL v3) {v5 : Int} (h5 : bR v5) {v6 : Int} (h6 : bR v6) {v7 : Int} (h7 : bR v7) : bD L xs (d + 1) 11 124 [(1, bI v1), (3, bLg v3), (5, bI v5), (6, bI v6), (7, bI v7)] [] μ ((F_X1_row_124 v1 v3 v5 v6 v7 μ).bind κ) := by
  unfold F_X1_row_124
  refine bD.ok fun hk => ?_
  refine b_s (pc' := 125) (lv1 := [(1, bI v1), (3, bLg v3), (5, bI v5), (6, bI v6), (7, bI v7)]) (st' := [bI v1]) l11_124 (fun _ => rfl) ?_
  refine b_zeq (pt := 139) l11_125 h1 (by decide) rfl (fun c1 => ?_) (fun c1 => b_pc (pc' := 128) rfl ?_)
  · refine bD.wk (lv' := [(3, bLg v3), (5, bI v5), (7, bI v7)]) (bSb rfl (bSb rfl (bSb rfl bSn))) ?_
    exact p_X1_row_139 hr h3 h5 h7
  · refine b_s (pc' := 130) (lv1 := [(1, bI v1), (3, bLg v3), (5, bI v5), (6, bI v6), (7, bI v7)]) (st' := [bI v6]) l11_128 (fun _ => rfl) ?_
    refine b_bipush l11_130 (by decide) (b_pc (pc' := 132) rfl ?_)
    refine b_ilt (pt := 139) l11_132 h6 (by decide) (by decide) rfl (fun c2 => ?_) (fun c2 => b_pc (pc' := 135) rfl ?_)
    · refine bD.wk (lv' := [(3, bLg v3), (5, bI v5), (7, bI v7)]) (bSb rfl (bSb rfl (bSb rfl bSn))) ?_
      exact p_X1_row_139 hr h3 h5 h7
    · refine b_s (pc' := 136) (lv1 := [(1, bI v1), (3, bLg v3), (5, bI v5), (6, bI v6), (7, bI v7)]) (st' := [bI 1]) l11_135 (fun _ => rfl) ?_
      refine b_s (pc' := 140) (lv1 := [(1, bI v1), (3, bLg v3), (5, bI v5), (6, bI v6), (7, bI v7)]) (st' := [bI 1]) l11_136 (fun _ => rfl) ?_
      refine bD.wk (lv' := [(3, bLg v3), (5, bI v5), (7, bI v7)]) (bSb rfl (bSb rfl (bSb rfl bSn))) ?_
      exact p_X1_row_140 hr h3 h5 h7 (by decide)
theorem p_X1_row_101 {L : Nat} {xs : Nat → Int32} {d : Nat} {μ : bM} {v1 : Int} {v2 : Int} {κ : ((Int × Int × bM) ⊕ ((Int ⊕ String) × bM)) → Option bX} (hr : ∀ r : (Int ⊕ String) × bM, κ (.inr r) = (bXc) r) (H10 : ∀ (v3 : Int) (v5 : Int) (μ : bM), bRL v3 → bR v5 → bD L xs (d + 1) 11 10 [(0, .ref 46), (1, bI v1), (2, bI v2), (3, bLg v3), (5, bI v5)] [] μ (κ (.inl (v3, v5, μ))))  (h1 : bR v1) (h2 : bR v2) {v3 : Int} (h3 : bRL v3) {v5 : Int} (h5 : bR v5) {v6 : Int} (h6 : bR v6) {v7 : Int} (h7 : bR v7) : bD L xs (d + 1) 11 101 [(0, .ref 46), (1, bI v1), (2, bI v2), (3, bLg v3), (5, bI v5), (6, bI v6), (7, bI v7)] [] μ ((F_X1_row_101 v1 v2 v3 v5 v6 v7 μ).bind κ) := by
  unfold F_X1_row_101
  refine bD.ok fun hk => ?_
  refine b_s (pc' := 102) (lv1 := [(0, .ref 46), (1, bI v1), (2, bI v2), (3, bLg v3), (5, bI v5), (6, bI v6), (7, bI v7)]) (st' := [bLg v3]) l11_101 (fun _ => rfl) ?_
  refine b_s (pc' := 104) (lv1 := [(0, .ref 46), (1, bI v1), (2, bI v2), (3, bLg v3), (5, bI v5), (6, bI v6), (7, bI v7)]) (st' := [bI v6, bLg v3]) l11_102 (fun _ => rfl) ?_
  refine b_bipush l11_104 (by decide) (b_pc (pc' := 106) rfl ?_)
  refine b_iand l11_106 (b_pc (pc' := 107) rfl ?_)
  refine b_i2l l11_107 (bi_rg _) (b_pc (pc' := 108) rfl ?_)
  refine b_bipush l11_108 (by decide) (b_pc (pc' := 110) rfl ?_)
  refine b_s (pc' := 112) (lv1 := [(0, .ref 46), (1, bI v1), (2, bI v2), (3, bLg v3), (5, bI v5), (6, bI v6), (7, bI v7)]) (st' := [bI v5, bI 7, bLg (bAnd v6 127), bLg v3]) l11_110 (fun _ => rfl) ?_
  refine b_imul l11_112 fun g1 => (b_pc (pc' := 113) rfl ?_)
  refine b_lshl l11_113 (b_pc (pc' := 114) rfl ?_)
  refine b_lor l11_114 (b_pc (pc' := 115) rfl ?_)
  refine b_w (pc' := 116) (lv1 := ax_st2 [(0, .ref 46), (1, bI v1), (2, bI v2), (3, bLg v3), (5, bI v5), (6, bI v6), (7, bI v7)] 3 (bLg (bOrL v3 (bShlL (bAnd v6 127) (7 * v5))))) (lv' := [(0, .ref 46), (1, bI v1), (2, bI v2), (3, bLg (bOrL v3 (bShlL (bAnd v6 127) (7 * v5)))), (5, bI v5), (6, bI v6), (7, bI v7)]) (st' := []) l11_115 (fun _ => rfl) (bSb rfl (bSb rfl (bSb rfl (bSb rfl (bSb rfl (bSb rfl (bSb rfl bSn))))))) ?_
  refine b_s (pc' := 118) (lv1 := [(0, .ref 46), (1, bI v1), (2, bI v2), (3, bLg (bOrL v3 (bShlL (bAnd v6 127) (7 * v5)))), (5, bI v5), (6, bI v6), (7, bI v7)]) (st' := [bI v6]) l11_116 (fun _ => rfl) ?_
  refine b_sipush l11_118 (by decide) (b_pc (pc' := 121) rfl ?_)
  refine b_ige (pt := 170) l11_121 h6 (by decide) (by decide) rfl (fun c2 => ?_) (fun c2 => b_pc (pc' := 124) rfl ?_)
  · refine b_inc (lv' := [(0, .ref 46), (1, bI v1), (2, bI v2), (3, bLg (bOrL v3 (bShlL (bAnd v6 127) (7 * v5)))), (5, bI (v5 + 1))]) l11_170 rfl (by decide +kernel) (bSb rfl (bSb rfl (bSb rfl (bSb rfl (bSb rfl bSn))))) fun g3 => (b_pc (pc' := 173) rfl ?_)
    refine b_s (pc' := 10) (lv1 := [(0, .ref 46), (1, bI v1), (2, bI v2), (3, bLg (bOrL v3 (bShlL (bAnd v6 127) (7 * v5)))), (5, bI (v5 + 1))]) (st' := []) l11_173 (fun _ => rfl) ?_
    refine bD.wk (lv' := [(0, .ref 46), (1, bI v1), (2, bI v2), (3, bLg (bOrL v3 (bShlL (bAnd v6 127) (7 * v5)))), (5, bI (v5 + 1))]) (bSb rfl (bSb rfl (bSb rfl (bSb rfl (bSb rfl bSn))))) ?_
    exact H10 (bOrL v3 (bShlL (bAnd v6 127) (7 * v5))) (v5 + 1) μ (bl_rg _) g3
  · refine b_up (fun _ => rfl) ?_
    refine bD.wk (lv' := [(1, bI v1), (3, bLg (bOrL v3 (bShlL (bAnd v6 127) (7 * v5)))), (5, bI v5), (6, bI v6), (7, bI v7)]) (bSb rfl (bSb rfl (bSb rfl (bSb rfl (bSb rfl bSn))))) ?_
    exact p_X1_row_124 hr h1 (bl_rg _) h5 h6 h7
theorem p_X1_row_95 {L : Nat} {xs : Nat → Int32} {d : Nat} {μ : bM} {v1 : Int} {v2 : Int} {κ : ((Int × Int × bM) ⊕ ((Int ⊕ String) × bM)) → Option bX} (hr : ∀ r : (Int ⊕ String) × bM, κ (.inr r) = (bXc) r) (H10 : ∀ (v3 : Int) (v5 : Int) (μ : bM), bRL v3 → bR v5 → bD L xs (d + 1) 11 10 [(0, .ref 46), (1, bI v1), (2, bI v2), (3, bLg v3), (5, bI v5)] [] μ (κ (.inl (v3, v5, μ))))  (h1 : bR v1) (h2 : bR v2) {v3 : Int} (h3 : bRL v3) {v5 : Int} (h5 : bR v5) {v6 : Int} (h6 : bR v6) {v7 : Int} (h7 : bR v7) : bD L xs (d + 1) 11 95 [(0, .ref 46), (1, bI v1), (2, bI v2), (3, bLg v3), (5, bI v5), (6, bI v6), (7, bI v7)] [] μ ((F_X1_row_95 v1 v2 v3 v5 v6 v7 μ).bind κ) := by
  unfold F_X1_row_95
  refine bD.ok fun hk => ?_
  refine b_s (pc' := 96) (lv1 := [(0, .ref 46), (1, bI v1), (2, bI v2), (3, bLg v3), (5, bI v5), (6, bI v6), (7, bI v7)]) (st' := [.ref 46]) l11_95 (fun _ => rfl) ?_
  refine b_s (pc' := 97) (lv1 := [(0, .ref 46), (1, bI v1), (2, bI v2), (3, bLg v3), (5, bI v5), (6, bI v6), (7, bI v7)]) (st' := [bI 4, .ref 46]) l11_96 (fun _ => rfl) ?_
  refine b_s (pc' := 98) (lv1 := [(0, .ref 46), (1, bI v1), (2, bI v2), (3, bLg v3), (5, bI v5), (6, bI v6), (7, bI v7)]) (st' := [bI v2, bI 4, .ref 46]) l11_97 (fun _ => rfl) ?_
  refine b_cXv l11_98 rfl (b_rc (ci := 1) (by rfl) (by decide) (by decide +kernel)) (Nat.le_of_ble_eq_true rfl) (Nat.le_of_ble_eq_true rfl) rfl (r_X1_refuse 4 (by decide) v2 h2) ⟨fun _ z => (by cases z), (by decide +kernel)⟩ rfl (fun _ _ => hr _) fun w1 μ2 hw1 => bD.ok fun hk3 => b_pc (pc' := 101) rfl ?_
  refine bD.wk (lv' := [(0, .ref 46), (1, bI v1), (2, bI v2), (3, bLg v3), (5, bI v5), (6, bI v6), (7, bI v7)]) (bSb rfl (bSb rfl (bSb rfl (bSb rfl (bSb rfl (bSb rfl (bSb rfl bSn))))))) ?_
  exact p_X1_row_101 hr H10 h1 h2 h3 h5 h6 h7
theorem p_X1_row_72 {L : Nat} {xs : Nat → Int32} {d : Nat} {μ : bM} {v1 : Int} {v2 : Int} {κ : ((Int × Int × bM) ⊕ ((Int ⊕ String) × bM)) → Option bX} (hr : ∀ r : (Int ⊕ String) × bM, κ (.inr r) = (bXc) r) (H10 : ∀ (v3 : Int) (v5 : Int) (μ : bM), bRL v3 → bR v5 → bD L xs (d + 1) 11 10 [(0, .ref 46), (1, bI v1), (2, bI v2), (3, bLg v3), (5, bI v5)] [] μ (κ (.inl (v3, v5, μ))))  (h1 : bR v1) (h2 : bR v2) {v3 : Int} (h3 : bRL v3) {v5 : Int} (h5 : bR v5) {v6 : Int} (h6 : bR v6) {y0 : Int} (hy0 : bR y0) : bD L xs (d + 1) 11 72 [(0, .ref 46), (1, bI v1), (2, bI v2), (3, bLg v3), (5, bI v5), (6, bI v6)] [bI y0] μ ((F_X1_row_72 v1 v2 v3 v5 v6 y0 μ).bind κ) := by
  unfold F_X1_row_72
  refine bD.ok fun hk => ?_
  refine b_w (pc' := 74) (lv1 := ax_st1 [(0, .ref 46), (1, bI v1), (2, bI v2), (3, bLg v3), (5, bI v5), (6, bI v6)] 7 (bI y0)) (lv' := [(0, .ref 46), (1, bI v1), (2, bI v2), (3, bLg v3), (5, bI v5), (6, bI v6), (7, bI y0)]) (st' := []) l11_72 (fun _ => rfl) (bSb rfl (bSb rfl (bSb rfl (bSb rfl (bSb rfl (bSb rfl (bSb rfl bSn))))))) ?_
  refine b_s (pc' := 76) (lv1 := [(0, .ref 46), (1, bI v1), (2, bI v2), (3, bLg v3), (5, bI v5), (6, bI v6), (7, bI y0)]) (st' := [bI y0]) l11_74 (fun _ => rfl) ?_
  refine b_zeq (pt := 101) l11_76 hy0 (by decide) rfl (fun c1 => ?_) (fun c1 => b_pc (pc' := 79) rfl ?_)
  · refine bD.wk (lv' := [(0, .ref 46), (1, bI v1), (2, bI v2), (3, bLg v3), (5, bI v5), (6, bI v6), (7, bI y0)]) (bSb rfl (bSb rfl (bSb rfl (bSb rfl (bSb rfl (bSb rfl (bSb rfl bSn))))))) ?_
    exact p_X1_row_101 hr H10 h1 h2 h3 h5 h6 hy0
  · refine b_s (pc' := 81) (lv1 := [(0, .ref 46), (1, bI v1), (2, bI v2), (3, bLg v3), (5, bI v5), (6, bI v6), (7, bI y0)]) (st' := [bI v6]) l11_79 (fun _ => rfl) ?_
    refine b_zeq (pt := 101) l11_81 h6 (by decide) rfl (fun c2 => ?_) (fun c2 => b_pc (pc' := 84) rfl ?_)
    · refine bD.wk (lv' := [(0, .ref 46), (1, bI v1), (2, bI v2), (3, bLg v3), (5, bI v5), (6, bI v6), (7, bI y0)]) (bSb rfl (bSb rfl (bSb rfl (bSb rfl (bSb rfl (bSb rfl (bSb rfl bSn))))))) ?_
      exact p_X1_row_101 hr H10 h1 h2 h3 h5 h6 hy0
    · refine b_s (pc' := 85) (lv1 := [(0, .ref 46), (1, bI v1), (2, bI v2), (3, bLg v3), (5, bI v5), (6, bI v6), (7, bI y0)]) (st' := [bI v1]) l11_84 (fun _ => rfl) ?_
      refine b_zeq (pt := 95) l11_85 h1 (by decide) rfl (fun c3 => ?_) (fun c3 => b_pc (pc' := 88) rfl ?_)
      · refine bD.wk (lv' := [(0, .ref 46), (1, bI v1), (2, bI v2), (3, bLg v3), (5, bI v5), (6, bI v6), (7, bI y0)]) (bSb rfl (bSb rfl (bSb rfl (bSb rfl (bSb rfl (bSb rfl (bSb rfl bSn))))))) ?_
        exact p_X1_row_95 hr H10 h1 h2 h3 h5 h6 hy0
      · refine b_s (pc' := 90) (lv1 := [(0, .ref 46), (1, bI v1), (2, bI v2), (3, bLg v3), (5, bI v5), (6, bI v6), (7, bI y0)]) (st' := [bI v6]) l11_88 (fun _ => rfl) ?_
        refine b_bipush l11_90 (by decide) (b_pc (pc' := 92) rfl ?_)
        refine b_ieq (pt := 101) l11_92 h6 (by decide) (by decide) rfl (fun c4 => ?_) (fun c4 => b_pc (pc' := 95) rfl ?_)
        · refine bD.wk (lv' := [(0, .ref 46), (1, bI v1), (2, bI v2), (3, bLg v3), (5, bI v5), (6, bI v6), (7, bI y0)]) (bSb rfl (bSb rfl (bSb rfl (bSb rfl (bSb rfl (bSb rfl (bSb rfl bSn))))))) ?_
          exact p_X1_row_101 hr H10 h1 h2 h3 h5 h6 hy0
        · refine bD.wk (lv' := [(0, .ref 46), (1, bI v1), (2, bI v2), (3, bLg v3), (5, bI v5), (6, bI v6), (7, bI y0)]) (bSb rfl (bSb rfl (bSb rfl (bSb rfl (bSb rfl (bSb rfl (bSb rfl bSn))))))) ?_
          exact p_X1_row_95 hr H10 h1 h2 h3 h5 h6 hy0
theorem p_X1_row_37 {L : Nat} {xs : Nat → Int32} {d : Nat} {μ : bM} {v1 : Int} {v2 : Int} {κ : ((Int × Int × bM) ⊕ ((Int ⊕ String) × bM)) → Option bX} (hr : ∀ r : (Int ⊕ String) × bM, κ (.inr r) = (bXc) r) (H10 : ∀ (v3 : Int) (v5 : Int) (μ : bM), bRL v3 → bR v5 → bD L xs (d + 1) 11 10 [(0, .ref 46), (1, bI v1), (2, bI v2), (3, bLg v3), (5, bI v5)] [] μ (κ (.inl (v3, v5, μ))))  (h1 : bR v1) (h2 : bR v2) {v3 : Int} (h3 : bRL v3) {v5 : Int} (h5 : bR v5) : bD L xs (d + 1) 11 37 [(0, .ref 46), (1, bI v1), (2, bI v2), (3, bLg v3), (5, bI v5)] [] μ ((F_X1_row_37 v1 v2 v3 v5 μ).bind κ) := by
  unfold F_X1_row_37
  refine bD.ok fun hk => ?_
  refine b_s (pc' := 38) (lv1 := [(0, .ref 46), (1, bI v1), (2, bI v2), (3, bLg v3), (5, bI v5)]) (st' := [.ref 46]) l11_37 (fun _ => rfl) ?_
  refine b_gr l11_38 (by rfl) (by decide) (by decide) rfl (b_pc (pc' := 41) rfl ?_)
  refine b_s (pc' := 42) (lv1 := [(0, .ref 46), (1, bI v1), (2, bI v2), (3, bLg v3), (5, bI v5)]) (st' := [.ref 46, .ref (μ 46 6).toNat]) l11_41 (fun _ => rfl) ?_
  refine b_gi l11_42 (by rfl) (by decide) (by decide) rfl (b_pc (pc' := 45) rfl ?_)
  refine b_cPi l11_45 rfl (b_rc (ci := 5) (bO_fs hk (ci := 1) (by rfl) rfl) (by decide) (by decide +kernel)) (Nat.le_of_ble_eq_true rfl) (Nat.le_of_ble_eq_true rfl) rfl (r_X6_at (μ 46 6).toNat (bO_fs hk (ci := 1) (by rfl) rfl) (μ 46 0) (bO_f hk (ci := 1) (by rfl) rfl)) fun w1 hw1 => b_pc (pc' := 48) rfl ?_
  refine b_w (pc' := 50) (lv1 := ax_st1 [(0, .ref 46), (1, bI v1), (2, bI v2), (3, bLg v3), (5, bI v5)] 6 (bI w1)) (lv' := [(0, .ref 46), (1, bI v1), (2, bI v2), (3, bLg v3), (5, bI v5), (6, bI w1)]) (st' := []) l11_48 (fun _ => rfl) (bSb rfl (bSb rfl (bSb rfl (bSb rfl (bSb rfl (bSb rfl bSn)))))) ?_
  refine b_s (pc' := 51) (lv1 := [(0, .ref 46), (1, bI v1), (2, bI v2), (3, bLg v3), (5, bI v5), (6, bI w1)]) (st' := [.ref 46]) l11_50 (fun _ => rfl) ?_
  refine b_s (pc' := 52) (lv1 := [(0, .ref 46), (1, bI v1), (2, bI v2), (3, bLg v3), (5, bI v5), (6, bI w1)]) (st' := [.ref 46, .ref 46]) l11_51 (fun _ => rfl) ?_
  refine b_gi l11_52 (by rfl) (by decide) (by decide) rfl (b_pc (pc' := 55) rfl ?_)
  refine b_s (pc' := 56) (lv1 := [(0, .ref 46), (1, bI v1), (2, bI v2), (3, bLg v3), (5, bI v5), (6, bI w1)]) (st' := [bI 1, bI (μ 46 0), .ref 46]) l11_55 (fun _ => rfl) ?_
  refine b_iadd l11_56 fun g2 => (b_pc (pc' := 57) rfl ?_)
  refine b_pi l11_57 (by rfl) (by decide) (by decide) rfl rfl g2 (bD.ok fun hk3 => b_pc (pc' := 60) rfl ?_)
  refine b_s (pc' := 62) (lv1 := [(0, .ref 46), (1, bI v1), (2, bI v2), (3, bLg v3), (5, bI v5), (6, bI w1)]) (st' := [bI v5]) l11_60 (fun _ => rfl) ?_
  refine b_bipush l11_62 (by decide) (b_pc (pc' := 64) rfl ?_)
  refine b_ine (pt := 71) l11_64 h5 (by decide) (by decide) rfl (fun c4 => ?_) (fun c4 => b_pc (pc' := 67) rfl ?_)
  · refine b_s (pc' := 72) (lv1 := [(0, .ref 46), (1, bI v1), (2, bI v2), (3, bLg v3), (5, bI v5), (6, bI w1)]) (st' := [bI 0]) l11_71 (fun _ => rfl) ?_
    refine bD.wk (lv' := [(0, .ref 46), (1, bI v1), (2, bI v2), (3, bLg v3), (5, bI v5), (6, bI w1)]) (bSb rfl (bSb rfl (bSb rfl (bSb rfl (bSb rfl (bSb rfl bSn)))))) ?_
    exact p_X1_row_72 hr H10 h1 h2 h3 h5 hw1 (by decide)
  · refine b_s (pc' := 68) (lv1 := [(0, .ref 46), (1, bI v1), (2, bI v2), (3, bLg v3), (5, bI v5), (6, bI w1)]) (st' := [bI 1]) l11_67 (fun _ => rfl) ?_
    refine b_s (pc' := 72) (lv1 := [(0, .ref 46), (1, bI v1), (2, bI v2), (3, bLg v3), (5, bI v5), (6, bI w1)]) (st' := [bI 1]) l11_68 (fun _ => rfl) ?_
    refine bD.wk (lv' := [(0, .ref 46), (1, bI v1), (2, bI v2), (3, bLg v3), (5, bI v5), (6, bI w1)]) (bSb rfl (bSb rfl (bSb rfl (bSb rfl (bSb rfl (bSb rfl bSn)))))) ?_
    exact p_X1_row_72 hr H10 h1 h2 h3 h5 hw1 (by decide)
theorem q_X1_row_10 {L : Nat} {xs : Nat → Int32} {d : Nat} {μ : bM} {v1 : Int} {v2 : Int} {κ : ((Int × Int × bM) ⊕ ((Int ⊕ String) × bM)) → Option bX} (hr : ∀ r : (Int ⊕ String) × bM, κ (.inr r) = (bXc) r) (H10 : ∀ (v3 : Int) (v5 : Int) (μ : bM), bRL v3 → bR v5 → bD L xs (d + 1) 11 10 [(0, .ref 46), (1, bI v1), (2, bI v2), (3, bLg v3), (5, bI v5)] [] μ (κ (.inl (v3, v5, μ))))  (h1 : bR v1) (h2 : bR v2) {v3 : Int} (h3 : bRL v3) {v5 : Int} (h5 : bR v5) : bD L xs (d + 1) 11 10 [(0, .ref 46), (1, bI v1), (2, bI v2), (3, bLg v3), (5, bI v5)] [] μ ((F_X1_row_10 v1 v2 v3 v5 μ).bind κ) := by
  unfold F_X1_row_10
  refine bD.ok fun hk => ?_
  refine b_s (pc' := 12) (lv1 := [(0, .ref 46), (1, bI v1), (2, bI v2), (3, bLg v3), (5, bI v5)]) (st' := [bI v5]) l11_10 (fun _ => rfl) ?_
  refine b_bipush l11_12 (by decide) (b_pc (pc' := 14) rfl ?_)
  refine b_ige (pt := 176) l11_14 h5 (by decide) (by decide) rfl (fun c1 => ?_) (fun c1 => b_pc (pc' := 17) rfl ?_)
  · refine b_s (pc' := 177) (lv1 := [(0, .ref 46), (1, bI v1), (2, bI v2), (3, bLg v3), (5, bI v5)]) (st' := [bLg v3]) l11_176 (fun _ => rfl) ?_
    exact b_retl l11_177 rfl h3 (hr _)
  · refine b_s (pc' := 18) (lv1 := [(0, .ref 46), (1, bI v1), (2, bI v2), (3, bLg v3), (5, bI v5)]) (st' := [.ref 46]) l11_17 (fun _ => rfl) ?_
    refine b_gi l11_18 (by rfl) (by decide) (by decide) rfl (b_pc (pc' := 21) rfl ?_)
    refine b_s (pc' := 22) (lv1 := [(0, .ref 46), (1, bI v1), (2, bI v2), (3, bLg v3), (5, bI v5)]) (st' := [.ref 46, bI (μ 46 0)]) l11_21 (fun _ => rfl) ?_
    refine b_gi l11_22 (by rfl) (by decide) (by decide) rfl (b_pc (pc' := 25) rfl ?_)
    refine b_ilt (pt := 37) l11_25 (bO_f hk (ci := 1) (by rfl) rfl) (bO_f hk (ci := 1) (by rfl) rfl) (by decide) rfl (fun c2 => ?_) (fun c2 => b_pc (pc' := 28) rfl ?_)
    · refine bD.wk (lv' := [(0, .ref 46), (1, bI v1), (2, bI v2), (3, bLg v3), (5, bI v5)]) (bSb rfl (bSb rfl (bSb rfl (bSb rfl (bSb rfl bSn))))) ?_
      exact p_X1_row_37 hr H10 h1 h2 h3 h5
    · refine b_s (pc' := 29) (lv1 := [(0, .ref 46), (1, bI v1), (2, bI v2), (3, bLg v3), (5, bI v5)]) (st' := [.ref 46]) l11_28 (fun _ => rfl) ?_
      refine b_s (pc' := 30) (lv1 := [(0, .ref 46), (1, bI v1), (2, bI v2), (3, bLg v3), (5, bI v5)]) (st' := [bI 1, .ref 46]) l11_29 (fun _ => rfl) ?_
      refine b_s (pc' := 31) (lv1 := [(0, .ref 46), (1, bI v1), (2, bI v2), (3, bLg v3), (5, bI v5)]) (st' := [.ref 46, bI 1, .ref 46]) l11_30 (fun _ => rfl) ?_
      refine b_gi l11_31 (by rfl) (by decide) (by decide) rfl (b_pc (pc' := 34) rfl ?_)
      refine b_cXv l11_34 rfl (b_rc (ci := 1) (by rfl) (by decide) (by decide +kernel)) (Nat.le_of_ble_eq_true rfl) (Nat.le_of_ble_eq_true rfl) rfl (r_X1_refuse 1 (by decide) (μ 46 1) (bO_f hk (ci := 1) (by rfl) rfl)) ⟨fun _ z => (by cases z), (by decide +kernel)⟩ rfl (fun _ _ => hr _) fun w3 μ4 hw3 => bD.ok fun hk5 => b_pc (pc' := 37) rfl ?_
      refine bD.wk (lv' := [(0, .ref 46), (1, bI v1), (2, bI v2), (3, bLg v3), (5, bI v5)]) (bSb rfl (bSb rfl (bSb rfl (bSb rfl (bSb rfl bSn))))) ?_
      exact p_X1_row_37 hr H10 h1 h2 h3 h5
theorem p_X1_row_10 {L : Nat} {xs : Nat → Int32} {d : Nat} {μ : bM}  {κ : ((Int ⊕ String) × bM) → Option bX} (hr : ∀ r : (Int ⊕ String) × bM, κ r = (bXc) r)  {v1 : Int} (h1 : bR v1) {v2 : Int} (h2 : bR v2) {v3 : Int} (h3 : bRL v3) {v5 : Int} (h5 : bR v5) : bD L xs (d + 1) 11 10 [(0, .ref 46), (1, bI v1), (2, bI v2), (3, bLg v3), (5, bI v5)] [] μ ((bLoop (fun z => F_X1_row_10 v1 v2 z.1 z.2.1 z.2.2) (v3, v5, μ)).bind κ) :=
  b_loop (fun z => [(0, .ref 46), (1, bI v1), (2, bI v2), (3, bLg z.1), (5, bI z.2.1)]) (fun z => z.2.2) (fun z => bRL z.1 ∧ bR z.2.1) (fun κ' hκ HH z hz => q_X1_row_10 (κ := κ') (fun r => (hκ _).trans (hr r)) (fun a3 a5 am b3 b5 => HH (a3, a5, am) ⟨b3, b5⟩)  h1 h2 hz.1 hz.2) (v3, v5, μ) ⟨h3, h5⟩
theorem r_X1_row {L : Nat} {xs : Nat → Int32} {d : Nat} {μ : bM}  (v1 : Int) (h1 : bR v1) : bD L xs (d + 1) 11 0 [(0, .ref 46), (1, bI v1)] [] μ ((F_X1_row v1 μ).bind (bXc)) := by
  have hr : ∀ r, (bXc) r = (bXc) r := fun _ => rfl
  unfold F_X1_row
  refine bD.ok fun hk => ?_
  refine b_s (pc' := 1) (lv1 := [(0, .ref 46), (1, bI v1)]) (st' := [.ref 46]) l11_0 (fun _ => rfl) ?_
  refine b_gi l11_1 (by rfl) (by decide) (by decide) rfl (b_pc (pc' := 4) rfl ?_)
  refine b_w (pc' := 5) (lv1 := ax_st1 [(0, .ref 46), (1, bI v1)] 2 (bI (μ 46 0))) (lv' := [(0, .ref 46), (1, bI v1), (2, bI (μ 46 0))]) (st' := []) l11_4 (fun _ => rfl) (bSb rfl (bSb rfl (bSb rfl bSn))) ?_
  refine b_lconst (e := 0) l11_5 (by decide) (b_pc (pc' := 6) rfl ?_)
  refine b_w (pc' := 7) (lv1 := ax_st2 [(0, .ref 46), (1, bI v1), (2, bI (μ 46 0))] 3 (bLg 0)) (lv' := [(0, .ref 46), (1, bI v1), (2, bI (μ 46 0)), (3, bLg 0)]) (st' := []) l11_6 (fun _ => rfl) (bSb rfl (bSb rfl (bSb rfl (bSb rfl bSn)))) ?_
  refine b_s (pc' := 8) (lv1 := [(0, .ref 46), (1, bI v1), (2, bI (μ 46 0)), (3, bLg 0)]) (st' := [bI 0]) l11_7 (fun _ => rfl) ?_
  refine b_w (pc' := 10) (lv1 := ax_st1 [(0, .ref 46), (1, bI v1), (2, bI (μ 46 0)), (3, bLg 0)] 5 (bI 0)) (lv' := [(0, .ref 46), (1, bI v1), (2, bI (μ 46 0)), (3, bLg 0), (5, bI 0)]) (st' := []) l11_8 (fun _ => rfl) (bSb rfl (bSb rfl (bSb rfl (bSb rfl (bSb rfl bSn))))) ?_
  refine bD.wk (lv' := [(0, .ref 46), (1, bI v1), (2, bI (μ 46 0)), (3, bLg 0), (5, bI 0)]) (bSb rfl (bSb rfl (bSb rfl (bSb rfl (bSb rfl bSn))))) ?_
  exact p_X1_row_10 hr h1 (bO_f hk (ci := 1) (by rfl) rfl) (by decide) (by decide)
/-! ET$Cursor.smallRow -/
theorem l12_0 : (ax_dt (ax_T 12)).lookup 0 = some (.aload_n 0, 1, 0, 0, 0) := by decide +kernel
theorem l12_1 : (ax_dt (ax_T 12)).lookup 1 = some (.getfield 30, 3, 1, 0, 0) := by decide +kernel
theorem l12_4 : (ax_dt (ax_T 12)).lookup 4 = some (.istore_n 1, 1, 0, 0, 0) := by decide +kernel
theorem l12_5 : (ax_dt (ax_T 12)).lookup 5 = some (.aload_n 0, 1, 0, 0, 0) := by decide +kernel
theorem l12_6 : (ax_dt (ax_T 12)).lookup 6 = some (.iconst 0, 1, 0, 0, 0) := by decide +kernel
theorem l12_7 : (ax_dt (ax_T 12)).lookup 7 = some (.invokevirtual 61, 3, 11, 1, 0) := by decide +kernel
theorem l12_10 : (ax_dt (ax_T 12)).lookup 10 = some (.lstore_n 2, 1, 0, 0, 0) := by decide +kernel
theorem l12_11 : (ax_dt (ax_T 12)).lookup 11 = some (.lload_n 2, 1, 0, 0, 0) := by decide +kernel
theorem l12_12 : (ax_dt (ax_T 12)).lookup 12 = some (.ldc2_w 65, 3, 0, 0, 2147483647) := by decide +kernel
theorem l12_15 : (ax_dt (ax_T 12)).lookup 15 = some (.lcmp, 1, 0, 0, 0) := by decide +kernel
theorem l12_16 : (ax_dt (ax_T 12)).lookup 16 = some (.ifCond .le 9, 3, 0, 0, 0) := by decide +kernel
theorem l12_19 : (ax_dt (ax_T 12)).lookup 19 = some (.aload_n 0, 1, 0, 0, 0) := by decide +kernel
theorem l12_20 : (ax_dt (ax_T 12)).lookup 20 = some (.iconst 4, 1, 0, 0, 0) := by decide +kernel
theorem l12_21 : (ax_dt (ax_T 12)).lookup 21 = some (.iload_n 1, 1, 0, 0, 0) := by decide +kernel
theorem l12_22 : (ax_dt (ax_T 12)).lookup 22 = some (.invokevirtual 52, 3, 9, 2, 0) := by decide +kernel
theorem l12_25 : (ax_dt (ax_T 12)).lookup 25 = some (.lload_n 2, 1, 0, 0, 0) := by decide +kernel
theorem l12_26 : (ax_dt (ax_T 12)).lookup 26 = some (.l2i, 1, 0, 0, 0) := by decide +kernel
theorem l12_27 : (ax_dt (ax_T 12)).lookup 27 = some (.ireturn, 1, 0, 0, 0) := by decide +kernel
noncomputable def F_X1_smallRow (μ : bM) : Option ((Int ⊕ String) × bM) := bXm (F_X1_row 0 μ) (fun w1 μ2 => if (bCmp w1 2147483647) ≤ 0 then some (.inl (b32 w1), μ2) else bXm (F_X1_refuse 4 (μ 46 0) μ2) (fun w5 μ6 => some (.inl (b32 w1), μ6)) (fun e μ => some (.inr e, μ))) (fun e μ => some (.inr e, μ))
theorem r_X1_smallRow {L : Nat} {xs : Nat → Int32} {d : Nat} {μ : bM}   : bD L xs (d + 2) 12 0 [(0, .ref 46)] [] μ ((F_X1_smallRow μ).bind (bXc)) := by
  have hr : ∀ r, (bXc) r = (bXc) r := fun _ => rfl
  unfold F_X1_smallRow
  refine bD.ok fun hk => ?_
  refine b_s (pc' := 1) (lv1 := [(0, .ref 46)]) (st' := [.ref 46]) l12_0 (fun _ => rfl) ?_
  refine b_gi l12_1 (by rfl) (by decide) (by decide) rfl (b_pc (pc' := 4) rfl ?_)
  refine b_w (pc' := 5) (lv1 := ax_st1 [(0, .ref 46)] 1 (bI (μ 46 0))) (lv' := [(0, .ref 46), (1, bI (μ 46 0))]) (st' := []) l12_4 (fun _ => rfl) (bSb rfl (bSb rfl bSn)) ?_
  refine b_s (pc' := 6) (lv1 := [(0, .ref 46), (1, bI (μ 46 0))]) (st' := [.ref 46]) l12_5 (fun _ => rfl) ?_
  refine b_s (pc' := 7) (lv1 := [(0, .ref 46), (1, bI (μ 46 0))]) (st' := [bI 0, .ref 46]) l12_6 (fun _ => rfl) ?_
  refine b_cXl l12_7 rfl (b_rc (ci := 1) (by rfl) (by decide) (by decide +kernel)) (Nat.le_of_ble_eq_true rfl) (Nat.le_of_ble_eq_true rfl) rfl (r_X1_row 0 (by decide)) ⟨fun _ z => (by cases z), (by decide +kernel)⟩ rfl (fun _ _ => hr _) fun w1 μ2 hw1 => bD.ok fun hk3 => b_pc (pc' := 10) rfl ?_
  refine b_w (pc' := 11) (lv1 := ax_st2 [(0, .ref 46), (1, bI (μ 46 0))] 2 (bLg w1)) (lv' := [(0, .ref 46), (1, bI (μ 46 0)), (2, bLg w1)]) (st' := []) l12_10 (fun _ => rfl) (bSb rfl (bSb rfl (bSb rfl bSn))) ?_
  refine b_s (pc' := 12) (lv1 := [(0, .ref 46), (1, bI (μ 46 0)), (2, bLg w1)]) (st' := [bLg w1]) l12_11 (fun _ => rfl) ?_
  refine b_s (pc' := 15) (lv1 := [(0, .ref 46), (1, bI (μ 46 0)), (2, bLg w1)]) (st' := [bLg 2147483647, bLg w1]) l12_12 (fun _ => rfl) ?_
  refine b_lcmp l12_15 hw1 (by decide) (b_pc (pc' := 16) rfl ?_)
  refine b_zle (pt := 25) l12_16 (bCmp_R _ _) (by decide) rfl (fun c4 => ?_) (fun c4 => b_pc (pc' := 19) rfl ?_)
  · refine b_s (pc' := 26) (lv1 := [(0, .ref 46), (1, bI (μ 46 0)), (2, bLg w1)]) (st' := [bLg w1]) l12_25 (fun _ => rfl) ?_
    refine b_l2i l12_26 (b_pc (pc' := 27) rfl ?_)
    exact b_reti l12_27 rfl (b32_R _) (hr _)
  · refine b_s (pc' := 20) (lv1 := [(0, .ref 46), (1, bI (μ 46 0)), (2, bLg w1)]) (st' := [.ref 46]) l12_19 (fun _ => rfl) ?_
    refine b_s (pc' := 21) (lv1 := [(0, .ref 46), (1, bI (μ 46 0)), (2, bLg w1)]) (st' := [bI 4, .ref 46]) l12_20 (fun _ => rfl) ?_
    refine b_s (pc' := 22) (lv1 := [(0, .ref 46), (1, bI (μ 46 0)), (2, bLg w1)]) (st' := [bI (μ 46 0), bI 4, .ref 46]) l12_21 (fun _ => rfl) ?_
    refine b_cXv l12_22 rfl (b_rc (ci := 1) (by rfl) (by decide) (by decide +kernel)) (Nat.le_of_ble_eq_true rfl) (Nat.le_of_ble_eq_true rfl) rfl (r_X1_refuse 4 (by decide) (μ 46 0) (bO_f hk (ci := 1) (by rfl) rfl)) ⟨fun _ z => (by cases z), (by decide +kernel)⟩ rfl (fun _ _ => hr _) fun w5 μ6 hw5 => bD.ok fun hk7 => b_pc (pc' := 25) rfl ?_
    refine b_s (pc' := 26) (lv1 := [(0, .ref 46), (1, bI (μ 46 0)), (2, bLg w1)]) (st' := [bLg w1]) l12_25 (fun _ => rfl) ?_
    refine b_l2i l12_26 (b_pc (pc' := 27) rfl ?_)
    exact b_reti l12_27 rfl (b32_R _) (hr _)
/-! ET$Cursor.textLength -/
theorem l13_0 : (ax_dt (ax_T 13)).lookup 0 = some (.aload_n 0, 1, 0, 0, 0) := by decide +kernel
theorem l13_1 : (ax_dt (ax_T 13)).lookup 1 = some (.getfield 30, 3, 1, 0, 0) := by decide +kernel
theorem l13_4 : (ax_dt (ax_T 13)).lookup 4 = some (.istore_n 1, 1, 0, 0, 0) := by decide +kernel
theorem l13_5 : (ax_dt (ax_T 13)).lookup 5 = some (.aload_n 0, 1, 0, 0, 0) := by decide +kernel
theorem l13_6 : (ax_dt (ax_T 13)).lookup 6 = some (.getfield 14, 3, 1, 6, 0) := by decide +kernel
theorem l13_9 : (ax_dt (ax_T 13)).lookup 9 = some (.iload_n 1, 1, 0, 0, 0) := by decide +kernel
theorem l13_10 : (ax_dt (ax_T 13)).lookup 10 = some (.aload_n 0, 1, 0, 0, 0) := by decide +kernel
theorem l13_11 : (ax_dt (ax_T 13)).lookup 11 = some (.getfield 33, 3, 1, 1, 0) := by decide +kernel
theorem l13_14 : (ax_dt (ax_T 13)).lookup 14 = some (.invokevirtual 67, 3, 67, 2, 0) := by decide +kernel
theorem l13_17 : (ax_dt (ax_T 13)).lookup 17 = some (.istore_n 2, 1, 0, 0, 0) := by decide +kernel
theorem l13_18 : (ax_dt (ax_T 13)).lookup 18 = some (.iload_n 2, 1, 0, 0, 0) := by decide +kernel
theorem l13_19 : (ax_dt (ax_T 13)).lookup 19 = some (.iconst (-1), 1, 0, 0, 0) := by decide +kernel
theorem l13_20 : (ax_dt (ax_T 13)).lookup 20 = some (.if_icmp .ne 12, 3, 0, 0, 0) := by decide +kernel
theorem l13_23 : (ax_dt (ax_T 13)).lookup 23 = some (.aload_n 0, 1, 0, 0, 0) := by decide +kernel
theorem l13_24 : (ax_dt (ax_T 13)).lookup 24 = some (.iconst 1, 1, 0, 0, 0) := by decide +kernel
theorem l13_25 : (ax_dt (ax_T 13)).lookup 25 = some (.aload_n 0, 1, 0, 0, 0) := by decide +kernel
theorem l13_26 : (ax_dt (ax_T 13)).lookup 26 = some (.getfield 33, 3, 1, 1, 0) := by decide +kernel
theorem l13_29 : (ax_dt (ax_T 13)).lookup 29 = some (.invokevirtual 52, 3, 9, 2, 0) := by decide +kernel
theorem l13_32 : (ax_dt (ax_T 13)).lookup 32 = some (.aload_n 0, 1, 0, 0, 0) := by decide +kernel
theorem l13_33 : (ax_dt (ax_T 13)).lookup 33 = some (.iload_n 2, 1, 0, 0, 0) := by decide +kernel
theorem l13_34 : (ax_dt (ax_T 13)).lookup 34 = some (.iconst 1, 1, 0, 0, 0) := by decide +kernel
theorem l13_35 : (ax_dt (ax_T 13)).lookup 35 = some (.iadd, 1, 0, 0, 0) := by decide +kernel
theorem l13_36 : (ax_dt (ax_T 13)).lookup 36 = some (.putfield 30, 3, 1, 0, 0) := by decide +kernel
theorem l13_39 : (ax_dt (ax_T 13)).lookup 39 = some (.iload_n 2, 1, 0, 0, 0) := by decide +kernel
theorem l13_40 : (ax_dt (ax_T 13)).lookup 40 = some (.iload_n 1, 1, 0, 0, 0) := by decide +kernel
theorem l13_41 : (ax_dt (ax_T 13)).lookup 41 = some (.isub, 1, 0, 0, 0) := by decide +kernel
theorem l13_42 : (ax_dt (ax_T 13)).lookup 42 = some (.ireturn, 1, 0, 0, 0) := by decide +kernel
noncomputable def F_X1_textLength (μ : bM) : Option ((Int ⊕ String) × bM) := (F_X6_zeroFrom (μ 46 6).toNat (μ 46 0) (μ 46 1) μ).bind fun w1 => if ¬ w1 = (-1) then bG (bR (w1 + 1)) (bG (bR (w1 - (μ 46 0))) (some (.inl (w1 - (μ 46 0)), (bset μ 46 0 (w1 + 1))))) else bXm (F_X1_refuse 1 (μ 46 1) μ) (fun w6 μ7 => bG (bR (w1 + 1)) (bG (bR (w1 - (μ 46 0))) (some (.inl (w1 - (μ 46 0)), (bset μ7 46 0 (w1 + 1)))))) (fun e μ => some (.inr e, μ))
theorem r_X1_textLength {L : Nat} {xs : Nat → Int32} {d : Nat} {μ : bM}   : bD L xs (d + 2) 13 0 [(0, .ref 46)] [] μ ((F_X1_textLength μ).bind (bXc)) := by
  have hr : ∀ r, (bXc) r = (bXc) r := fun _ => rfl
  unfold F_X1_textLength
  refine bD.ok fun hk => ?_
  refine b_s (pc' := 1) (lv1 := [(0, .ref 46)]) (st' := [.ref 46]) l13_0 (fun _ => rfl) ?_
  refine b_gi l13_1 (by rfl) (by decide) (by decide) rfl (b_pc (pc' := 4) rfl ?_)
  refine b_w (pc' := 5) (lv1 := ax_st1 [(0, .ref 46)] 1 (bI (μ 46 0))) (lv' := [(0, .ref 46), (1, bI (μ 46 0))]) (st' := []) l13_4 (fun _ => rfl) (bSb rfl (bSb rfl bSn)) ?_
  refine b_s (pc' := 6) (lv1 := [(0, .ref 46), (1, bI (μ 46 0))]) (st' := [.ref 46]) l13_5 (fun _ => rfl) ?_
  refine b_gr l13_6 (by rfl) (by decide) (by decide) rfl (b_pc (pc' := 9) rfl ?_)
  refine b_s (pc' := 10) (lv1 := [(0, .ref 46), (1, bI (μ 46 0))]) (st' := [bI (μ 46 0), .ref (μ 46 6).toNat]) l13_9 (fun _ => rfl) ?_
  refine b_s (pc' := 11) (lv1 := [(0, .ref 46), (1, bI (μ 46 0))]) (st' := [.ref 46, bI (μ 46 0), .ref (μ 46 6).toNat]) l13_10 (fun _ => rfl) ?_
  refine b_gi l13_11 (by rfl) (by decide) (by decide) rfl (b_pc (pc' := 14) rfl ?_)
  refine b_cPi l13_14 rfl (b_rc (ci := 5) (bO_fs hk (ci := 1) (by rfl) rfl) (by decide) (by decide +kernel)) (Nat.le_of_ble_eq_true rfl) (Nat.le_of_ble_eq_true rfl) rfl (r_X6_zeroFrom (μ 46 6).toNat (bO_fs hk (ci := 1) (by rfl) rfl) (μ 46 0) (bO_f hk (ci := 1) (by rfl) rfl) (μ 46 1) (bO_f hk (ci := 1) (by rfl) rfl)) fun w1 hw1 => b_pc (pc' := 17) rfl ?_
  refine b_w (pc' := 18) (lv1 := ax_st1 [(0, .ref 46), (1, bI (μ 46 0))] 2 (bI w1)) (lv' := [(0, .ref 46), (1, bI (μ 46 0)), (2, bI w1)]) (st' := []) l13_17 (fun _ => rfl) (bSb rfl (bSb rfl (bSb rfl bSn))) ?_
  refine b_s (pc' := 19) (lv1 := [(0, .ref 46), (1, bI (μ 46 0)), (2, bI w1)]) (st' := [bI w1]) l13_18 (fun _ => rfl) ?_
  refine b_s (pc' := 20) (lv1 := [(0, .ref 46), (1, bI (μ 46 0)), (2, bI w1)]) (st' := [bI (-1), bI w1]) l13_19 (fun _ => rfl) ?_
  refine b_ine (pt := 32) l13_20 hw1 (by decide) (by decide) rfl (fun c2 => ?_) (fun c2 => b_pc (pc' := 23) rfl ?_)
  · refine b_s (pc' := 33) (lv1 := [(0, .ref 46), (1, bI (μ 46 0)), (2, bI w1)]) (st' := [.ref 46]) l13_32 (fun _ => rfl) ?_
    refine b_s (pc' := 34) (lv1 := [(0, .ref 46), (1, bI (μ 46 0)), (2, bI w1)]) (st' := [bI w1, .ref 46]) l13_33 (fun _ => rfl) ?_
    refine b_s (pc' := 35) (lv1 := [(0, .ref 46), (1, bI (μ 46 0)), (2, bI w1)]) (st' := [bI 1, bI w1, .ref 46]) l13_34 (fun _ => rfl) ?_
    refine b_iadd l13_35 fun g3 => (b_pc (pc' := 36) rfl ?_)
    refine b_pi l13_36 (by rfl) (by decide) (by decide) rfl rfl g3 (bD.ok fun hk4 => b_pc (pc' := 39) rfl ?_)
    refine b_s (pc' := 40) (lv1 := [(0, .ref 46), (1, bI (μ 46 0)), (2, bI w1)]) (st' := [bI w1]) l13_39 (fun _ => rfl) ?_
    refine b_s (pc' := 41) (lv1 := [(0, .ref 46), (1, bI (μ 46 0)), (2, bI w1)]) (st' := [bI (μ 46 0), bI w1]) l13_40 (fun _ => rfl) ?_
    refine b_isub l13_41 fun g5 => (b_pc (pc' := 42) rfl ?_)
    exact b_reti l13_42 rfl g5 (hr _)
  · refine b_s (pc' := 24) (lv1 := [(0, .ref 46), (1, bI (μ 46 0)), (2, bI w1)]) (st' := [.ref 46]) l13_23 (fun _ => rfl) ?_
    refine b_s (pc' := 25) (lv1 := [(0, .ref 46), (1, bI (μ 46 0)), (2, bI w1)]) (st' := [bI 1, .ref 46]) l13_24 (fun _ => rfl) ?_
    refine b_s (pc' := 26) (lv1 := [(0, .ref 46), (1, bI (μ 46 0)), (2, bI w1)]) (st' := [.ref 46, bI 1, .ref 46]) l13_25 (fun _ => rfl) ?_
    refine b_gi l13_26 (by rfl) (by decide) (by decide) rfl (b_pc (pc' := 29) rfl ?_)
    refine b_cXv l13_29 rfl (b_rc (ci := 1) (by rfl) (by decide) (by decide +kernel)) (Nat.le_of_ble_eq_true rfl) (Nat.le_of_ble_eq_true rfl) rfl (r_X1_refuse 1 (by decide) (μ 46 1) (bO_f hk (ci := 1) (by rfl) rfl)) ⟨fun _ z => (by cases z), (by decide +kernel)⟩ rfl (fun _ _ => hr _) fun w6 μ7 hw6 => bD.ok fun hk8 => b_pc (pc' := 32) rfl ?_
    refine b_s (pc' := 33) (lv1 := [(0, .ref 46), (1, bI (μ 46 0)), (2, bI w1)]) (st' := [.ref 46]) l13_32 (fun _ => rfl) ?_
    refine b_s (pc' := 34) (lv1 := [(0, .ref 46), (1, bI (μ 46 0)), (2, bI w1)]) (st' := [bI w1, .ref 46]) l13_33 (fun _ => rfl) ?_
    refine b_s (pc' := 35) (lv1 := [(0, .ref 46), (1, bI (μ 46 0)), (2, bI w1)]) (st' := [bI 1, bI w1, .ref 46]) l13_34 (fun _ => rfl) ?_
    refine b_iadd l13_35 fun g9 => (b_pc (pc' := 36) rfl ?_)
    refine b_pi l13_36 (by rfl) (by decide) (by decide) rfl rfl g9 (bD.ok fun hk10 => b_pc (pc' := 39) rfl ?_)
    refine b_s (pc' := 40) (lv1 := [(0, .ref 46), (1, bI (μ 46 0)), (2, bI w1)]) (st' := [bI w1]) l13_39 (fun _ => rfl) ?_
    refine b_s (pc' := 41) (lv1 := [(0, .ref 46), (1, bI (μ 46 0)), (2, bI w1)]) (st' := [bI (μ 46 0), bI w1]) l13_40 (fun _ => rfl) ?_
    refine b_isub l13_41 fun g11 => (b_pc (pc' := 42) rfl ?_)
    exact b_reti l13_42 rfl g11 (hr _)
/-! ET$Cursor.skip -/
theorem l14_0 : (ax_dt (ax_T 14)).lookup 0 = some (.aload_n 0, 1, 0, 0, 0) := by decide +kernel
theorem l14_1 : (ax_dt (ax_T 14)).lookup 1 = some (.getfield 33, 3, 1, 1, 0) := by decide +kernel
theorem l14_4 : (ax_dt (ax_T 14)).lookup 4 = some (.aload_n 0, 1, 0, 0, 0) := by decide +kernel
theorem l14_5 : (ax_dt (ax_T 14)).lookup 5 = some (.getfield 30, 3, 1, 0, 0) := by decide +kernel
theorem l14_8 : (ax_dt (ax_T 14)).lookup 8 = some (.isub, 1, 0, 0, 0) := by decide +kernel
theorem l14_9 : (ax_dt (ax_T 14)).lookup 9 = some (.iload_n 1, 1, 0, 0, 0) := by decide +kernel
theorem l14_10 : (ax_dt (ax_T 14)).lookup 10 = some (.if_icmp .ge 12, 3, 0, 0, 0) := by decide +kernel
theorem l14_13 : (ax_dt (ax_T 14)).lookup 13 = some (.aload_n 0, 1, 0, 0, 0) := by decide +kernel
theorem l14_14 : (ax_dt (ax_T 14)).lookup 14 = some (.iconst 1, 1, 0, 0, 0) := by decide +kernel
theorem l14_15 : (ax_dt (ax_T 14)).lookup 15 = some (.aload_n 0, 1, 0, 0, 0) := by decide +kernel
theorem l14_16 : (ax_dt (ax_T 14)).lookup 16 = some (.getfield 33, 3, 1, 1, 0) := by decide +kernel
theorem l14_19 : (ax_dt (ax_T 14)).lookup 19 = some (.invokevirtual 52, 3, 9, 2, 0) := by decide +kernel
theorem l14_22 : (ax_dt (ax_T 14)).lookup 22 = some (.aload_n 0, 1, 0, 0, 0) := by decide +kernel
theorem l14_23 : (ax_dt (ax_T 14)).lookup 23 = some (.dup, 1, 0, 0, 0) := by decide +kernel
theorem l14_24 : (ax_dt (ax_T 14)).lookup 24 = some (.getfield 30, 3, 1, 0, 0) := by decide +kernel
theorem l14_27 : (ax_dt (ax_T 14)).lookup 27 = some (.iload_n 1, 1, 0, 0, 0) := by decide +kernel
theorem l14_28 : (ax_dt (ax_T 14)).lookup 28 = some (.iadd, 1, 0, 0, 0) := by decide +kernel
theorem l14_29 : (ax_dt (ax_T 14)).lookup 29 = some (.putfield 30, 3, 1, 0, 0) := by decide +kernel
theorem l14_32 : (ax_dt (ax_T 14)).lookup 32 = some (.return_, 1, 0, 0, 0) := by decide +kernel
noncomputable def F_X1_skip (v1 : Int) (μ : bM) : Option ((Int ⊕ String) × bM) := bG (bR ((μ 46 1) - (μ 46 0))) (if v1 ≤ ((μ 46 1) - (μ 46 0)) then bG (bR ((μ 46 0) + v1)) (some (.inl 0, (bset μ 46 0 ((μ 46 0) + v1)))) else bXm (F_X1_refuse 1 (μ 46 1) μ) (fun w5 μ6 => bG (bR ((μ6 46 0) + v1)) (some (.inl 0, (bset μ6 46 0 ((μ6 46 0) + v1))))) (fun e μ => some (.inr e, μ)))
theorem r_X1_skip {L : Nat} {xs : Nat → Int32} {d : Nat} {μ : bM}  (v1 : Int) (h1 : bR v1) : bD L xs (d + 1) 14 0 [(0, .ref 46), (1, bI v1)] [] μ ((F_X1_skip v1 μ).bind (bXc)) := by
  have hr : ∀ r, (bXc) r = (bXc) r := fun _ => rfl
  unfold F_X1_skip
  refine bD.ok fun hk => ?_
  refine b_s (pc' := 1) (lv1 := [(0, .ref 46), (1, bI v1)]) (st' := [.ref 46]) l14_0 (fun _ => rfl) ?_
  refine b_gi l14_1 (by rfl) (by decide) (by decide) rfl (b_pc (pc' := 4) rfl ?_)
  refine b_s (pc' := 5) (lv1 := [(0, .ref 46), (1, bI v1)]) (st' := [.ref 46, bI (μ 46 1)]) l14_4 (fun _ => rfl) ?_
  refine b_gi l14_5 (by rfl) (by decide) (by decide) rfl (b_pc (pc' := 8) rfl ?_)
  refine b_isub l14_8 fun g1 => (b_pc (pc' := 9) rfl ?_)
  refine b_s (pc' := 10) (lv1 := [(0, .ref 46), (1, bI v1)]) (st' := [bI v1, bI ((μ 46 1) - (μ 46 0))]) l14_9 (fun _ => rfl) ?_
  refine b_ige (pt := 22) l14_10 g1 h1 (by decide) rfl (fun c2 => ?_) (fun c2 => b_pc (pc' := 13) rfl ?_)
  · refine b_s (pc' := 23) (lv1 := [(0, .ref 46), (1, bI v1)]) (st' := [.ref 46]) l14_22 (fun _ => rfl) ?_
    refine b_s (pc' := 24) (lv1 := [(0, .ref 46), (1, bI v1)]) (st' := [.ref 46, .ref 46]) l14_23 (fun _ => rfl) ?_
    refine b_gi l14_24 (by rfl) (by decide) (by decide) rfl (b_pc (pc' := 27) rfl ?_)
    refine b_s (pc' := 28) (lv1 := [(0, .ref 46), (1, bI v1)]) (st' := [bI v1, bI (μ 46 0), .ref 46]) l14_27 (fun _ => rfl) ?_
    refine b_iadd l14_28 fun g3 => (b_pc (pc' := 29) rfl ?_)
    refine b_pi l14_29 (by rfl) (by decide) (by decide) rfl rfl g3 (bD.ok fun hk4 => b_pc (pc' := 32) rfl ?_)
    exact b_retv l14_32 rfl (hr _)
  · refine b_s (pc' := 14) (lv1 := [(0, .ref 46), (1, bI v1)]) (st' := [.ref 46]) l14_13 (fun _ => rfl) ?_
    refine b_s (pc' := 15) (lv1 := [(0, .ref 46), (1, bI v1)]) (st' := [bI 1, .ref 46]) l14_14 (fun _ => rfl) ?_
    refine b_s (pc' := 16) (lv1 := [(0, .ref 46), (1, bI v1)]) (st' := [.ref 46, bI 1, .ref 46]) l14_15 (fun _ => rfl) ?_
    refine b_gi l14_16 (by rfl) (by decide) (by decide) rfl (b_pc (pc' := 19) rfl ?_)
    refine b_cXv l14_19 rfl (b_rc (ci := 1) (by rfl) (by decide) (by decide +kernel)) (Nat.le_of_ble_eq_true rfl) (Nat.le_of_ble_eq_true rfl) rfl (r_X1_refuse 1 (by decide) (μ 46 1) (bO_f hk (ci := 1) (by rfl) rfl)) ⟨fun _ z => (by cases z), (by decide +kernel)⟩ rfl (fun _ _ => hr _) fun w5 μ6 hw5 => bD.ok fun hk7 => b_pc (pc' := 22) rfl ?_
    refine b_s (pc' := 23) (lv1 := [(0, .ref 46), (1, bI v1)]) (st' := [.ref 46]) l14_22 (fun _ => rfl) ?_
    refine b_s (pc' := 24) (lv1 := [(0, .ref 46), (1, bI v1)]) (st' := [.ref 46, .ref 46]) l14_23 (fun _ => rfl) ?_
    refine b_gi l14_24 (by rfl) (by decide) (by decide) rfl (b_pc (pc' := 27) rfl ?_)
    refine b_s (pc' := 28) (lv1 := [(0, .ref 46), (1, bI v1)]) (st' := [bI v1, bI (μ6 46 0), .ref 46]) l14_27 (fun _ => rfl) ?_
    refine b_iadd l14_28 fun g8 => (b_pc (pc' := 29) rfl ?_)
    refine b_pi l14_29 (by rfl) (by decide) (by decide) rfl rfl g8 (bD.ok fun hk9 => b_pc (pc' := 32) rfl ?_)
    exact b_retv l14_32 rfl (hr _)
/-! ET$Table.indexOf -/
theorem l71_0 : (ax_dt (ax_T 71)).lookup 0 = some (.aload_n 0, 1, 0, 0, 0) := by decide +kernel
theorem l71_1 : (ax_dt (ax_T 71)).lookup 1 = some (.getfield 36, 3, 6, 7, 0) := by decide +kernel
theorem l71_4 : (ax_dt (ax_T 71)).lookup 4 = some (.iload_n 1, 1, 0, 0, 0) := by decide +kernel
theorem l71_5 : (ax_dt (ax_T 71)).lookup 5 = some (.invokevirtual 40, 3, 2, 1, 0) := by decide +kernel
theorem l71_8 : (ax_dt (ax_T 71)).lookup 8 = some (.istore_n 2, 1, 0, 0, 0) := by decide +kernel
theorem l71_9 : (ax_dt (ax_T 71)).lookup 9 = some (.iconst 0, 1, 0, 0, 0) := by decide +kernel
theorem l71_10 : (ax_dt (ax_T 71)).lookup 10 = some (.istore_n 3, 1, 0, 0, 0) := by decide +kernel
theorem l71_11 : (ax_dt (ax_T 71)).lookup 11 = some (.iload_n 3, 1, 0, 0, 0) := by decide +kernel
theorem l71_12 : (ax_dt (ax_T 71)).lookup 12 = some (.aload_n 0, 1, 0, 0, 0) := by decide +kernel
theorem l71_13 : (ax_dt (ax_T 71)).lookup 13 = some (.getfield 44, 3, 6, 5, 0) := by decide +kernel
theorem l71_16 : (ax_dt (ax_T 71)).lookup 16 = some (.if_icmp .ge 35, 3, 0, 0, 0) := by decide +kernel
theorem l71_19 : (ax_dt (ax_T 71)).lookup 19 = some (.iload_n 2, 1, 0, 0, 0) := by decide +kernel
theorem l71_20 : (ax_dt (ax_T 71)).lookup 20 = some (.iconst (-1), 1, 0, 0, 0) := by decide +kernel
theorem l71_21 : (ax_dt (ax_T 71)).lookup 21 = some (.if_icmp .eq 30, 3, 0, 0, 0) := by decide +kernel
theorem l71_24 : (ax_dt (ax_T 71)).lookup 24 = some (.aload_n 0, 1, 0, 0, 0) := by decide +kernel
theorem l71_25 : (ax_dt (ax_T 71)).lookup 25 = some (.getfield 28, 3, 6, 6, 0) := by decide +kernel
theorem l71_28 : (ax_dt (ax_T 71)).lookup 28 = some (.iload_n 2, 1, 0, 0, 0) := by decide +kernel
theorem l71_29 : (ax_dt (ax_T 71)).lookup 29 = some (.iaload, 1, 0, 0, 0) := by decide +kernel
theorem l71_30 : (ax_dt (ax_T 71)).lookup 30 = some (.iload_n 1, 1, 0, 0, 0) := by decide +kernel
theorem l71_31 : (ax_dt (ax_T 71)).lookup 31 = some (.if_icmp .ne 5, 3, 0, 0, 0) := by decide +kernel
theorem l71_34 : (ax_dt (ax_T 71)).lookup 34 = some (.iload_n 2, 1, 0, 0, 0) := by decide +kernel
theorem l71_35 : (ax_dt (ax_T 71)).lookup 35 = some (.ireturn, 1, 0, 0, 0) := by decide +kernel
theorem l71_36 : (ax_dt (ax_T 71)).lookup 36 = some (.aload_n 0, 1, 0, 0, 0) := by decide +kernel
theorem l71_37 : (ax_dt (ax_T 71)).lookup 37 = some (.getfield 36, 3, 6, 7, 0) := by decide +kernel
theorem l71_40 : (ax_dt (ax_T 71)).lookup 40 = some (.iload_n 2, 1, 0, 0, 0) := by decide +kernel
theorem l71_41 : (ax_dt (ax_T 71)).lookup 41 = some (.invokevirtual 48, 3, 3, 1, 0) := by decide +kernel
theorem l71_44 : (ax_dt (ax_T 71)).lookup 44 = some (.istore_n 2, 1, 0, 0, 0) := by decide +kernel
theorem l71_45 : (ax_dt (ax_T 71)).lookup 45 = some (.iinc 3 1, 3, 0, 0, 0) := by decide +kernel
theorem l71_48 : (ax_dt (ax_T 71)).lookup 48 = some (.goto (-37), 3, 0, 0, 0) := by decide +kernel
theorem l71_51 : (ax_dt (ax_T 71)).lookup 51 = some (.iconst (-1), 1, 0, 0, 0) := by decide +kernel
theorem l71_52 : (ax_dt (ax_T 71)).lookup 52 = some (.ireturn, 1, 0, 0, 0) := by decide +kernel
noncomputable def F_X7_indexOf_11 (v1 : Int) (μ : bM) (v2 : Int) (v3 : Int) : Option ((Int × Int) ⊕ (Int)) := if (μ 49 5) ≤ v3 then some (.inr ((-1))) else if v2 = (-1) then some (.inr ((-1))) else bG (0 ≤ v2 ∧ v2 < 200) (if ¬ (μ 55 v2.toNat) = v1 then (F_X0_after 56 v2 μ).bind fun w4 => bG (bR (v3 + 1)) (some (.inl (w4, (v3 + 1)))) else some (.inr (v2)))
noncomputable def F_X7_indexOf (v1 : Int) (μ : bM) : Option (Int) := (F_X0_first 56 v1 μ).bind fun w1 => bLoop (fun z => F_X7_indexOf_11 v1 μ z.1 z.2) (w1, 0)
theorem q_X7_indexOf_11 {L : Nat} {xs : Nat → Int32} {d : Nat} {μ : bM} {v1 : Int} {κ : ((Int × Int) ⊕ (Int)) → Option bX} (hr : ∀ r : Int, κ (.inr r) = (bPc μ) r) (H11 : ∀ (v2 : Int) (v3 : Int), bR v2 → bR v3 → bD L xs (d + 2) 71 11 [(0, .ref 49), (1, bI v1), (2, bI v2), (3, bI v3)] [] μ (κ (.inl (v2, v3))))  (h1 : bR v1) {v2 : Int} (h2 : bR v2) {v3 : Int} (h3 : bR v3) : bD L xs (d + 2) 71 11 [(0, .ref 49), (1, bI v1), (2, bI v2), (3, bI v3)] [] μ ((F_X7_indexOf_11 v1 μ v2 v3).bind κ) := by
  unfold F_X7_indexOf_11
  refine bD.ok fun hk => ?_
  refine b_s (pc' := 12) (lv1 := [(0, .ref 49), (1, bI v1), (2, bI v2), (3, bI v3)]) (st' := [bI v3]) l71_11 (fun _ => rfl) ?_
  refine b_s (pc' := 13) (lv1 := [(0, .ref 49), (1, bI v1), (2, bI v2), (3, bI v3)]) (st' := [.ref 49, bI v3]) l71_12 (fun _ => rfl) ?_
  refine b_gi l71_13 (by rfl) (by decide) (by decide) rfl (b_pc (pc' := 16) rfl ?_)
  refine b_ige (pt := 51) l71_16 h3 (bO_f hk (ci := 6) (by rfl) rfl) (by decide) rfl (fun c1 => ?_) (fun c1 => b_pc (pc' := 19) rfl ?_)
  · refine b_s (pc' := 52) (lv1 := [(0, .ref 49), (1, bI v1), (2, bI v2), (3, bI v3)]) (st' := [bI (-1)]) l71_51 (fun _ => rfl) ?_
    exact b_reti l71_52 rfl (by decide) (hr _)
  · refine b_s (pc' := 20) (lv1 := [(0, .ref 49), (1, bI v1), (2, bI v2), (3, bI v3)]) (st' := [bI v2]) l71_19 (fun _ => rfl) ?_
    refine b_s (pc' := 21) (lv1 := [(0, .ref 49), (1, bI v1), (2, bI v2), (3, bI v3)]) (st' := [bI (-1), bI v2]) l71_20 (fun _ => rfl) ?_
    refine b_ieq (pt := 51) l71_21 h2 (by decide) (by decide) rfl (fun c2 => ?_) (fun c2 => b_pc (pc' := 24) rfl ?_)
    · refine b_s (pc' := 52) (lv1 := [(0, .ref 49), (1, bI v1), (2, bI v2), (3, bI v3)]) (st' := [bI (-1)]) l71_51 (fun _ => rfl) ?_
      exact b_reti l71_52 rfl (by decide) (hr _)
    · refine b_s (pc' := 25) (lv1 := [(0, .ref 49), (1, bI v1), (2, bI v2), (3, bI v3)]) (st' := [.ref 49]) l71_24 (fun _ => rfl) ?_
      refine b_gp (q' := 55) (j := 6) l71_25 (by rfl) (by decide) (by decide) rfl hk rfl rfl (b_pc (pc' := 28) rfl ?_)
      refine b_s (pc' := 29) (lv1 := [(0, .ref 49), (1, bI v1), (2, bI v2), (3, bI v3)]) (st' := [bI v2, .ref 55]) l71_28 (fun _ => rfl) ?_
      refine b_g fun g6 => ?_
      refine b_ial l71_29 (by rfl) g6 (b_pc (pc' := 30) rfl ?_)
      refine b_s (pc' := 31) (lv1 := [(0, .ref 49), (1, bI v1), (2, bI v2), (3, bI v3)]) (st' := [bI v1, bI (μ 55 v2.toNat)]) l71_30 (fun _ => rfl) ?_
      refine b_ine (pt := 36) l71_31 (bO_i hk (by rfl)) h1 (by decide) rfl (fun c3 => ?_) (fun c3 => b_pc (pc' := 34) rfl ?_)
      · refine b_s (pc' := 37) (lv1 := [(0, .ref 49), (1, bI v1), (2, bI v2), (3, bI v3)]) (st' := [.ref 49]) l71_36 (fun _ => rfl) ?_
        refine b_gp (q' := 56) (j := 7) l71_37 (by rfl) (by decide) (by decide) rfl hk rfl rfl (b_pc (pc' := 40) rfl ?_)
        refine b_s (pc' := 41) (lv1 := [(0, .ref 49), (1, bI v1), (2, bI v2), (3, bI v3)]) (st' := [bI v2, .ref 56]) l71_40 (fun _ => rfl) ?_
        refine b_cPi l71_41 rfl (b_rc (ci := 0) (by rfl) (by decide) (by decide +kernel)) (Nat.le_of_ble_eq_true rfl) (Nat.le_of_ble_eq_true rfl) rfl (r_X0_after 56 (by rfl) v2 h2) fun w4 hw4 => b_pc (pc' := 44) rfl ?_
        refine b_w (pc' := 45) (lv1 := ax_st1 [(0, .ref 49), (1, bI v1), (2, bI v2), (3, bI v3)] 2 (bI w4)) (lv' := [(0, .ref 49), (1, bI v1), (2, bI w4), (3, bI v3)]) (st' := []) l71_44 (fun _ => rfl) (bSb rfl (bSb rfl (bSb rfl (bSb rfl bSn)))) ?_
        refine b_inc (lv' := [(0, .ref 49), (1, bI v1), (2, bI w4), (3, bI (v3 + 1))]) l71_45 rfl (by decide +kernel) (bSb rfl (bSb rfl (bSb rfl (bSb rfl bSn)))) fun g5 => (b_pc (pc' := 48) rfl ?_)
        refine b_s (pc' := 11) (lv1 := [(0, .ref 49), (1, bI v1), (2, bI w4), (3, bI (v3 + 1))]) (st' := []) l71_48 (fun _ => rfl) ?_
        refine bD.wk (lv' := [(0, .ref 49), (1, bI v1), (2, bI w4), (3, bI (v3 + 1))]) (bSb rfl (bSb rfl (bSb rfl (bSb rfl bSn)))) ?_
        exact H11 w4 (v3 + 1) hw4 g5
      · refine b_s (pc' := 35) (lv1 := [(0, .ref 49), (1, bI v1), (2, bI v2), (3, bI v3)]) (st' := [bI v2]) l71_34 (fun _ => rfl) ?_
        exact b_reti l71_35 rfl h2 (hr _)
theorem p_X7_indexOf_11 {L : Nat} {xs : Nat → Int32} {d : Nat} {μ : bM}  {κ : (Int) → Option bX} (hr : ∀ r : Int, κ r = (bPc μ) r)  {v1 : Int} (h1 : bR v1) {v2 : Int} (h2 : bR v2) {v3 : Int} (h3 : bR v3) : bD L xs (d + 2) 71 11 [(0, .ref 49), (1, bI v1), (2, bI v2), (3, bI v3)] [] μ ((bLoop (fun z => F_X7_indexOf_11 v1 μ z.1 z.2) (v2, v3)).bind κ) :=
  b_loop (fun z => [(0, .ref 49), (1, bI v1), (2, bI z.1), (3, bI z.2)]) (fun z => μ) (fun z => bR z.1 ∧ bR z.2) (fun κ' hκ HH z hz => q_X7_indexOf_11 (κ := κ') (fun r => (hκ _).trans (hr r)) (fun a2 a3 b2 b3 => HH (a2, a3) ⟨b2, b3⟩)  h1 hz.1 hz.2) (v2, v3) ⟨h2, h3⟩
theorem r_X7_indexOf {L : Nat} {xs : Nat → Int32} {d : Nat} {μ : bM}  (v1 : Int) (h1 : bR v1) : bD L xs (d + 2) 71 0 [(0, .ref 49), (1, bI v1)] [] μ ((F_X7_indexOf v1 μ).bind (bPc μ)) := by
  have hr : ∀ r, (bPc μ) r = (bPc μ) r := fun _ => rfl
  unfold F_X7_indexOf
  refine bD.ok fun hk => ?_
  refine b_s (pc' := 1) (lv1 := [(0, .ref 49), (1, bI v1)]) (st' := [.ref 49]) l71_0 (fun _ => rfl) ?_
  refine b_gp (q' := 56) (j := 7) l71_1 (by rfl) (by decide) (by decide) rfl hk rfl rfl (b_pc (pc' := 4) rfl ?_)
  refine b_s (pc' := 5) (lv1 := [(0, .ref 49), (1, bI v1)]) (st' := [bI v1, .ref 56]) l71_4 (fun _ => rfl) ?_
  refine b_cPi l71_5 rfl (b_rc (ci := 0) (by rfl) (by decide) (by decide +kernel)) (Nat.le_of_ble_eq_true rfl) (Nat.le_of_ble_eq_true rfl) rfl (r_X0_first 56 (by rfl) v1 h1) fun w1 hw1 => b_pc (pc' := 8) rfl ?_
  refine b_w (pc' := 9) (lv1 := ax_st1 [(0, .ref 49), (1, bI v1)] 2 (bI w1)) (lv' := [(0, .ref 49), (1, bI v1), (2, bI w1)]) (st' := []) l71_8 (fun _ => rfl) (bSb rfl (bSb rfl (bSb rfl bSn))) ?_
  refine b_s (pc' := 10) (lv1 := [(0, .ref 49), (1, bI v1), (2, bI w1)]) (st' := [bI 0]) l71_9 (fun _ => rfl) ?_
  refine b_w (pc' := 11) (lv1 := ax_st1 [(0, .ref 49), (1, bI v1), (2, bI w1)] 3 (bI 0)) (lv' := [(0, .ref 49), (1, bI v1), (2, bI w1), (3, bI 0)]) (st' := []) l71_10 (fun _ => rfl) (bSb rfl (bSb rfl (bSb rfl (bSb rfl bSn)))) ?_
  refine bD.wk (lv' := [(0, .ref 49), (1, bI v1), (2, bI w1), (3, bI 0)]) (bSb rfl (bSb rfl (bSb rfl (bSb rfl bSn)))) ?_
  exact p_X7_indexOf_11 hr h1 hw1 (by decide)
/-! ET.isCode -/
theorem l130_0 : (ax_dt (ax_T 130)).lookup 0 = some (.iload_n 0, 1, 0, 0, 0) := by decide +kernel
theorem l130_1 : (ax_dt (ax_T 130)).lookup 1 = some (.iconst 1, 1, 0, 0, 0) := by decide +kernel
theorem l130_2 : (ax_dt (ax_T 130)).lookup 2 = some (.if_icmp .lt 14, 3, 0, 0, 0) := by decide +kernel
theorem l130_5 : (ax_dt (ax_T 130)).lookup 5 = some (.iload_n 0, 1, 0, 0, 0) := by decide +kernel
theorem l130_6 : (ax_dt (ax_T 130)).lookup 6 = some (.sipush 16383, 3, 0, 0, 0) := by decide +kernel
theorem l130_9 : (ax_dt (ax_T 130)).lookup 9 = some (.if_icmp .gt 7, 3, 0, 0, 0) := by decide +kernel
theorem l130_12 : (ax_dt (ax_T 130)).lookup 12 = some (.iconst 1, 1, 0, 0, 0) := by decide +kernel
theorem l130_13 : (ax_dt (ax_T 130)).lookup 13 = some (.goto 4, 3, 0, 0, 0) := by decide +kernel
theorem l130_16 : (ax_dt (ax_T 130)).lookup 16 = some (.iconst 0, 1, 0, 0, 0) := by decide +kernel
theorem l130_17 : (ax_dt (ax_T 130)).lookup 17 = some (.ireturn, 1, 0, 0, 0) := by decide +kernel
noncomputable def F_X10_isCode (v0 : Int) (μ : bM) : Option (Int) := if v0 < 1 then some (0) else if 16383 < v0 then some (0) else some (1)
theorem r_X10_isCode {L : Nat} {xs : Nat → Int32} {d : Nat} {μ : bM}  (v0 : Int) (h0 : bR v0) : bD L xs (d + 0) 130 0 [(0, bI v0)] [] μ ((F_X10_isCode v0 μ).bind (bPc μ)) := by
  have hr : ∀ r, (bPc μ) r = (bPc μ) r := fun _ => rfl
  unfold F_X10_isCode
  refine bD.ok fun hk => ?_
  refine b_s (pc' := 1) (lv1 := [(0, bI v0)]) (st' := [bI v0]) l130_0 (fun _ => rfl) ?_
  refine b_s (pc' := 2) (lv1 := [(0, bI v0)]) (st' := [bI 1, bI v0]) l130_1 (fun _ => rfl) ?_
  refine b_ilt (pt := 16) l130_2 h0 (by decide) (by decide) rfl (fun c1 => ?_) (fun c1 => b_pc (pc' := 5) rfl ?_)
  · refine b_s (pc' := 17) (lv1 := [(0, bI v0)]) (st' := [bI 0]) l130_16 (fun _ => rfl) ?_
    exact b_retz l130_17 rfl (by decide) (hr _)
  · refine b_s (pc' := 6) (lv1 := [(0, bI v0)]) (st' := [bI v0]) l130_5 (fun _ => rfl) ?_
    refine b_sipush l130_6 (by decide) (b_pc (pc' := 9) rfl ?_)
    refine b_igt (pt := 16) l130_9 h0 (by decide) (by decide) rfl (fun c2 => ?_) (fun c2 => b_pc (pc' := 12) rfl ?_)
    · refine b_s (pc' := 17) (lv1 := [(0, bI v0)]) (st' := [bI 0]) l130_16 (fun _ => rfl) ?_
      exact b_retz l130_17 rfl (by decide) (hr _)
    · refine b_s (pc' := 13) (lv1 := [(0, bI v0)]) (st' := [bI 1]) l130_12 (fun _ => rfl) ?_
      refine b_s (pc' := 17) (lv1 := [(0, bI v0)]) (st' := [bI 1]) l130_13 (fun _ => rfl) ?_
      exact b_retz l130_17 rfl (by decide) (hr _)
/-! ET$Table.mayFollow -/
theorem l75_0 : (ax_dt (ax_T 75)).lookup 0 = some (.iload_n 2, 1, 0, 0, 0) := by decide +kernel
theorem l75_1 : (ax_dt (ax_T 75)).lookup 1 = some (.invokestatic 77, 3, 130, 1, 0) := by decide +kernel
theorem l75_4 : (ax_dt (ax_T 75)).lookup 4 = some (.ifCond .eq 14, 3, 0, 0, 0) := by decide +kernel
theorem l75_7 : (ax_dt (ax_T 75)).lookup 7 = some (.aload_n 0, 1, 0, 0, 0) := by decide +kernel
theorem l75_8 : (ax_dt (ax_T 75)).lookup 8 = some (.getfield 19, 3, 6, 2, 0) := by decide +kernel
theorem l75_11 : (ax_dt (ax_T 75)).lookup 11 = some (.iload_n 1, 1, 0, 0, 0) := by decide +kernel
theorem l75_12 : (ax_dt (ax_T 75)).lookup 12 = some (.iaload, 1, 0, 0, 0) := by decide +kernel
theorem l75_13 : (ax_dt (ax_T 75)).lookup 13 = some (.bipush 8, 2, 0, 0, 0) := by decide +kernel
theorem l75_15 : (ax_dt (ax_T 75)).lookup 15 = some (.if_icmp .ne 5, 3, 0, 0, 0) := by decide +kernel
theorem l75_18 : (ax_dt (ax_T 75)).lookup 18 = some (.iconst 0, 1, 0, 0, 0) := by decide +kernel
theorem l75_19 : (ax_dt (ax_T 75)).lookup 19 = some (.ireturn, 1, 0, 0, 0) := by decide +kernel
theorem l75_20 : (ax_dt (ax_T 75)).lookup 20 = some (.iconst 0, 1, 0, 0, 0) := by decide +kernel
theorem l75_21 : (ax_dt (ax_T 75)).lookup 21 = some (.istore_n 3, 1, 0, 0, 0) := by decide +kernel
theorem l75_22 : (ax_dt (ax_T 75)).lookup 22 = some (.iload_n 3, 1, 0, 0, 0) := by decide +kernel
theorem l75_23 : (ax_dt (ax_T 75)).lookup 23 = some (.aload_n 0, 1, 0, 0, 0) := by decide +kernel
theorem l75_24 : (ax_dt (ax_T 75)).lookup 24 = some (.getfield 19, 3, 6, 2, 0) := by decide +kernel
theorem l75_27 : (ax_dt (ax_T 75)).lookup 27 = some (.iload_n 1, 1, 0, 0, 0) := by decide +kernel
theorem l75_28 : (ax_dt (ax_T 75)).lookup 28 = some (.iaload, 1, 0, 0, 0) := by decide +kernel
theorem l75_29 : (ax_dt (ax_T 75)).lookup 29 = some (.if_icmp .ge 25, 3, 0, 0, 0) := by decide +kernel
theorem l75_32 : (ax_dt (ax_T 75)).lookup 32 = some (.aload_n 0, 1, 0, 0, 0) := by decide +kernel
theorem l75_33 : (ax_dt (ax_T 75)).lookup 33 = some (.getfield 22, 3, 6, 3, 0) := by decide +kernel
theorem l75_36 : (ax_dt (ax_T 75)).lookup 36 = some (.iload_n 1, 1, 0, 0, 0) := by decide +kernel
theorem l75_37 : (ax_dt (ax_T 75)).lookup 37 = some (.iload_n 3, 1, 0, 0, 0) := by decide +kernel
theorem l75_38 : (ax_dt (ax_T 75)).lookup 38 = some (.invokestatic 98, 3, 77, 2, 0) := by decide +kernel
theorem l75_41 : (ax_dt (ax_T 75)).lookup 41 = some (.iaload, 1, 0, 0, 0) := by decide +kernel
theorem l75_42 : (ax_dt (ax_T 75)).lookup 42 = some (.iload_n 2, 1, 0, 0, 0) := by decide +kernel
theorem l75_43 : (ax_dt (ax_T 75)).lookup 43 = some (.if_icmp .ne 5, 3, 0, 0, 0) := by decide +kernel
theorem l75_46 : (ax_dt (ax_T 75)).lookup 46 = some (.iconst 0, 1, 0, 0, 0) := by decide +kernel
theorem l75_47 : (ax_dt (ax_T 75)).lookup 47 = some (.ireturn, 1, 0, 0, 0) := by decide +kernel
theorem l75_48 : (ax_dt (ax_T 75)).lookup 48 = some (.iinc 3 1, 3, 0, 0, 0) := by decide +kernel
theorem l75_51 : (ax_dt (ax_T 75)).lookup 51 = some (.goto (-29), 3, 0, 0, 0) := by decide +kernel
theorem l75_54 : (ax_dt (ax_T 75)).lookup 54 = some (.iconst 1, 1, 0, 0, 0) := by decide +kernel
theorem l75_55 : (ax_dt (ax_T 75)).lookup 55 = some (.ireturn, 1, 0, 0, 0) := by decide +kernel
noncomputable def F_X7_mayFollow_22 (v1 : Int) (v2 : Int) (μ : bM) (v3 : Int) : Option ((Int) ⊕ (Int)) := bG (0 ≤ v1 ∧ v1 < 200) (if (μ 52 v1.toNat) ≤ v3 then some (.inr (1)) else (F_X8_slotAt v1 v3 μ).bind fun w2 => bG (0 ≤ w2 ∧ w2 < 1600) (if ¬ (μ 53 w2.toNat) = v2 then bG (bR (v3 + 1)) (some (.inl (v3 + 1))) else some (.inr (0))))
noncomputable def F_X7_mayFollow (v1 : Int) (v2 : Int) (μ : bM) : Option (Int) := (F_X10_isCode v2 μ).bind fun w1 => if w1 = 0 then some (0) else bG (0 ≤ v1 ∧ v1 < 200) (if ¬ (μ 52 v1.toNat) = 8 then bLoop (fun z => F_X7_mayFollow_22 v1 v2 μ z) 0 else some (0))
theorem q_X7_mayFollow_22 {L : Nat} {xs : Nat → Int32} {d : Nat} {μ : bM} {v1 : Int} {v2 : Int} {κ : ((Int) ⊕ (Int)) → Option bX} (hr : ∀ r : Int, κ (.inr r) = (bPc μ) r) (H22 : ∀ (v3 : Int), bR v3 → bD L xs (d + 1) 75 22 [(0, .ref 49), (1, bI v1), (2, bI v2), (3, bI v3)] [] μ (κ (.inl v3)))  (h1 : bR v1) (h2 : bR v2) {v3 : Int} (h3 : bR v3) : bD L xs (d + 1) 75 22 [(0, .ref 49), (1, bI v1), (2, bI v2), (3, bI v3)] [] μ ((F_X7_mayFollow_22 v1 v2 μ v3).bind κ) := by
  unfold F_X7_mayFollow_22
  refine bD.ok fun hk => ?_
  refine b_s (pc' := 23) (lv1 := [(0, .ref 49), (1, bI v1), (2, bI v2), (3, bI v3)]) (st' := [bI v3]) l75_22 (fun _ => rfl) ?_
  refine b_s (pc' := 24) (lv1 := [(0, .ref 49), (1, bI v1), (2, bI v2), (3, bI v3)]) (st' := [.ref 49, bI v3]) l75_23 (fun _ => rfl) ?_
  refine b_gp (q' := 52) (j := 3) l75_24 (by rfl) (by decide) (by decide) rfl hk rfl rfl (b_pc (pc' := 27) rfl ?_)
  refine b_s (pc' := 28) (lv1 := [(0, .ref 49), (1, bI v1), (2, bI v2), (3, bI v3)]) (st' := [bI v1, .ref 52, bI v3]) l75_27 (fun _ => rfl) ?_
  refine b_g fun g6 => ?_
  refine b_ial l75_28 (by rfl) g6 (b_pc (pc' := 29) rfl ?_)
  refine b_ige (pt := 54) l75_29 h3 (bO_i hk (by rfl)) (by decide) rfl (fun c1 => ?_) (fun c1 => b_pc (pc' := 32) rfl ?_)
  · refine b_s (pc' := 55) (lv1 := [(0, .ref 49), (1, bI v1), (2, bI v2), (3, bI v3)]) (st' := [bI 1]) l75_54 (fun _ => rfl) ?_
    exact b_retz l75_55 rfl (by decide) (hr _)
  · refine b_s (pc' := 33) (lv1 := [(0, .ref 49), (1, bI v1), (2, bI v2), (3, bI v3)]) (st' := [.ref 49]) l75_32 (fun _ => rfl) ?_
    refine b_gp (q' := 53) (j := 4) l75_33 (by rfl) (by decide) (by decide) rfl hk rfl rfl (b_pc (pc' := 36) rfl ?_)
    refine b_s (pc' := 37) (lv1 := [(0, .ref 49), (1, bI v1), (2, bI v2), (3, bI v3)]) (st' := [bI v1, .ref 53]) l75_36 (fun _ => rfl) ?_
    refine b_s (pc' := 38) (lv1 := [(0, .ref 49), (1, bI v1), (2, bI v2), (3, bI v3)]) (st' := [bI v3, bI v1, .ref 53]) l75_37 (fun _ => rfl) ?_
    refine b_cPi l75_38 rfl (fun _ => trivial) (Nat.le_of_ble_eq_true rfl) (Nat.le_of_ble_eq_true rfl) rfl (r_X8_slotAt v1 h1 v3 h3) fun w2 hw2 => b_pc (pc' := 41) rfl ?_
    refine b_g fun g5 => ?_
    refine b_ial l75_41 (by rfl) g5 (b_pc (pc' := 42) rfl ?_)
    refine b_s (pc' := 43) (lv1 := [(0, .ref 49), (1, bI v1), (2, bI v2), (3, bI v3)]) (st' := [bI v2, bI (μ 53 w2.toNat)]) l75_42 (fun _ => rfl) ?_
    refine b_ine (pt := 48) l75_43 (bO_i hk (by rfl)) h2 (by decide) rfl (fun c3 => ?_) (fun c3 => b_pc (pc' := 46) rfl ?_)
    · refine b_inc (lv' := [(0, .ref 49), (1, bI v1), (2, bI v2), (3, bI (v3 + 1))]) l75_48 rfl (by decide +kernel) (bSb rfl (bSb rfl (bSb rfl (bSb rfl bSn)))) fun g4 => (b_pc (pc' := 51) rfl ?_)
      refine b_s (pc' := 22) (lv1 := [(0, .ref 49), (1, bI v1), (2, bI v2), (3, bI (v3 + 1))]) (st' := []) l75_51 (fun _ => rfl) ?_
      refine bD.wk (lv' := [(0, .ref 49), (1, bI v1), (2, bI v2), (3, bI (v3 + 1))]) (bSb rfl (bSb rfl (bSb rfl (bSb rfl bSn)))) ?_
      exact H22 (v3 + 1) g4
    · refine b_s (pc' := 47) (lv1 := [(0, .ref 49), (1, bI v1), (2, bI v2), (3, bI v3)]) (st' := [bI 0]) l75_46 (fun _ => rfl) ?_
      exact b_retz l75_47 rfl (by decide) (hr _)
theorem p_X7_mayFollow_22 {L : Nat} {xs : Nat → Int32} {d : Nat} {μ : bM}  {κ : (Int) → Option bX} (hr : ∀ r : Int, κ r = (bPc μ) r)  {v1 : Int} (h1 : bR v1) {v2 : Int} (h2 : bR v2) {v3 : Int} (h3 : bR v3) : bD L xs (d + 1) 75 22 [(0, .ref 49), (1, bI v1), (2, bI v2), (3, bI v3)] [] μ ((bLoop (fun z => F_X7_mayFollow_22 v1 v2 μ z) v3).bind κ) :=
  b_loop (fun z => [(0, .ref 49), (1, bI v1), (2, bI v2), (3, bI z)]) (fun z => μ) (fun z => bR z) (fun κ' hκ HH z hz => q_X7_mayFollow_22 (κ := κ') (fun r => (hκ _).trans (hr r)) (fun a3 b3 => HH a3 b3)  h1 h2 hz) v3 h3
theorem r_X7_mayFollow {L : Nat} {xs : Nat → Int32} {d : Nat} {μ : bM}  (v1 : Int) (h1 : bR v1) (v2 : Int) (h2 : bR v2) : bD L xs (d + 1) 75 0 [(0, .ref 49), (1, bI v1), (2, bI v2)] [] μ ((F_X7_mayFollow v1 v2 μ).bind (bPc μ)) := by
  have hr : ∀ r, (bPc μ) r = (bPc μ) r := fun _ => rfl
  unfold F_X7_mayFollow
  refine bD.ok fun hk => ?_
  refine b_s (pc' := 1) (lv1 := [(0, .ref 49), (1, bI v1), (2, bI v2)]) (st' := [bI v2]) l75_0 (fun _ => rfl) ?_
  refine b_cPz l75_1 rfl (fun _ => trivial) (Nat.le_of_ble_eq_true rfl) (Nat.le_of_ble_eq_true rfl) rfl (r_X10_isCode v2 h2) fun w1 hw1 => b_pc (pc' := 4) rfl ?_
  refine b_zeq (pt := 18) l75_4 (bZ_R hw1) (by decide) rfl (fun c2 => ?_) (fun c2 => b_pc (pc' := 7) rfl ?_)
  · refine b_s (pc' := 19) (lv1 := [(0, .ref 49), (1, bI v1), (2, bI v2)]) (st' := [bI 0]) l75_18 (fun _ => rfl) ?_
    exact b_retz l75_19 rfl (by decide) (hr _)
  · refine b_s (pc' := 8) (lv1 := [(0, .ref 49), (1, bI v1), (2, bI v2)]) (st' := [.ref 49]) l75_7 (fun _ => rfl) ?_
    refine b_gp (q' := 52) (j := 3) l75_8 (by rfl) (by decide) (by decide) rfl hk rfl rfl (b_pc (pc' := 11) rfl ?_)
    refine b_s (pc' := 12) (lv1 := [(0, .ref 49), (1, bI v1), (2, bI v2)]) (st' := [bI v1, .ref 52]) l75_11 (fun _ => rfl) ?_
    refine b_g fun g4 => ?_
    refine b_ial l75_12 (by rfl) g4 (b_pc (pc' := 13) rfl ?_)
    refine b_bipush l75_13 (by decide) (b_pc (pc' := 15) rfl ?_)
    refine b_ine (pt := 20) l75_15 (bO_i hk (by rfl)) (by decide) (by decide) rfl (fun c3 => ?_) (fun c3 => b_pc (pc' := 18) rfl ?_)
    · refine b_s (pc' := 21) (lv1 := [(0, .ref 49), (1, bI v1), (2, bI v2)]) (st' := [bI 0]) l75_20 (fun _ => rfl) ?_
      refine b_w (pc' := 22) (lv1 := ax_st1 [(0, .ref 49), (1, bI v1), (2, bI v2)] 3 (bI 0)) (lv' := [(0, .ref 49), (1, bI v1), (2, bI v2), (3, bI 0)]) (st' := []) l75_21 (fun _ => rfl) (bSb rfl (bSb rfl (bSb rfl (bSb rfl bSn)))) ?_
      refine bD.wk (lv' := [(0, .ref 49), (1, bI v1), (2, bI v2), (3, bI 0)]) (bSb rfl (bSb rfl (bSb rfl (bSb rfl bSn)))) ?_
      exact p_X7_mayFollow_22 hr h1 h2 (by decide)
    · refine b_s (pc' := 19) (lv1 := [(0, .ref 49), (1, bI v1), (2, bI v2)]) (st' := [bI 0]) l75_18 (fun _ => rfl) ?_
      exact b_retz l75_19 rfl (by decide) (hr _)
/-! ET$Table.readAttribute -/
theorem l74_0 : (ax_dt (ax_T 74)).lookup 0 = some (.aload_n 1, 1, 0, 0, 0) := by decide +kernel
theorem l74_1 : (ax_dt (ax_T 74)).lookup 1 = some (.getfield 54, 3, 1, 0, 0) := by decide +kernel
theorem l74_4 : (ax_dt (ax_T 74)).lookup 4 = some (.istore_n 3, 1, 0, 0, 0) := by decide +kernel
theorem l74_5 : (ax_dt (ax_T 74)).lookup 5 = some (.aload_n 1, 1, 0, 0, 0) := by decide +kernel
theorem l74_6 : (ax_dt (ax_T 74)).lookup 6 = some (.invokevirtual 59, 3, 12, 0, 0) := by decide +kernel
theorem l74_9 : (ax_dt (ax_T 74)).lookup 9 = some (.istore 4, 2, 0, 0, 0) := by decide +kernel
theorem l74_11 : (ax_dt (ax_T 74)).lookup 11 = some (.iload 4, 2, 0, 0, 0) := by decide +kernel
theorem l74_13 : (ax_dt (ax_T 74)).lookup 13 = some (.ifCond .eq 19, 3, 0, 0, 0) := by decide +kernel
theorem l74_16 : (ax_dt (ax_T 74)).lookup 16 = some (.aload_n 0, 1, 0, 0, 0) := by decide +kernel
theorem l74_17 : (ax_dt (ax_T 74)).lookup 17 = some (.iload_n 2, 1, 0, 0, 0) := by decide +kernel
theorem l74_18 : (ax_dt (ax_T 74)).lookup 18 = some (.iload 4, 2, 0, 0, 0) := by decide +kernel
theorem l74_20 : (ax_dt (ax_T 74)).lookup 20 = some (.invokevirtual 89, 3, 75, 2, 0) := by decide +kernel
theorem l74_23 : (ax_dt (ax_T 74)).lookup 23 = some (.ifCond .ne 9, 3, 0, 0, 0) := by decide +kernel
theorem l74_26 : (ax_dt (ax_T 74)).lookup 26 = some (.aload_n 1, 1, 0, 0, 0) := by decide +kernel
theorem l74_27 : (ax_dt (ax_T 74)).lookup 27 = some (.iconst 3, 1, 0, 0, 0) := by decide +kernel
theorem l74_28 : (ax_dt (ax_T 74)).lookup 28 = some (.iload_n 3, 1, 0, 0, 0) := by decide +kernel
theorem l74_29 : (ax_dt (ax_T 74)).lookup 29 = some (.invokevirtual 66, 3, 9, 2, 0) := by decide +kernel
theorem l74_32 : (ax_dt (ax_T 74)).lookup 32 = some (.aload_n 1, 1, 0, 0, 0) := by decide +kernel
theorem l74_33 : (ax_dt (ax_T 74)).lookup 33 = some (.getfield 54, 3, 1, 0, 0) := by decide +kernel
theorem l74_36 : (ax_dt (ax_T 74)).lookup 36 = some (.istore 5, 2, 0, 0, 0) := by decide +kernel
theorem l74_38 : (ax_dt (ax_T 74)).lookup 38 = some (.aload_n 1, 1, 0, 0, 0) := by decide +kernel
theorem l74_39 : (ax_dt (ax_T 74)).lookup 39 = some (.invokevirtual 59, 3, 12, 0, 0) := by decide +kernel
theorem l74_42 : (ax_dt (ax_T 74)).lookup 42 = some (.istore 6, 2, 0, 0, 0) := by decide +kernel
theorem l74_44 : (ax_dt (ax_T 74)).lookup 44 = some (.iload 4, 2, 0, 0, 0) := by decide +kernel
theorem l74_46 : (ax_dt (ax_T 74)).lookup 46 = some (.ifCond .ne 10, 3, 0, 0, 0) := by decide +kernel
theorem l74_49 : (ax_dt (ax_T 74)).lookup 49 = some (.iload 6, 2, 0, 0, 0) := by decide +kernel
theorem l74_51 : (ax_dt (ax_T 74)).lookup 51 = some (.ifCond .ne 5, 3, 0, 0, 0) := by decide +kernel
theorem l74_54 : (ax_dt (ax_T 74)).lookup 54 = some (.iconst 0, 1, 0, 0, 0) := by decide +kernel
theorem l74_55 : (ax_dt (ax_T 74)).lookup 55 = some (.ireturn, 1, 0, 0, 0) := by decide +kernel
theorem l74_56 : (ax_dt (ax_T 74)).lookup 56 = some (.iload 4, 2, 0, 0, 0) := by decide +kernel
theorem l74_58 : (ax_dt (ax_T 74)).lookup 58 = some (.ifCond .ne 9, 3, 0, 0, 0) := by decide +kernel
theorem l74_61 : (ax_dt (ax_T 74)).lookup 61 = some (.aload_n 1, 1, 0, 0, 0) := by decide +kernel
theorem l74_62 : (ax_dt (ax_T 74)).lookup 62 = some (.iconst 3, 1, 0, 0, 0) := by decide +kernel
theorem l74_63 : (ax_dt (ax_T 74)).lookup 63 = some (.iload_n 3, 1, 0, 0, 0) := by decide +kernel
theorem l74_64 : (ax_dt (ax_T 74)).lookup 64 = some (.invokevirtual 66, 3, 9, 2, 0) := by decide +kernel
theorem l74_67 : (ax_dt (ax_T 74)).lookup 67 = some (.iload 6, 2, 0, 0, 0) := by decide +kernel
theorem l74_69 : (ax_dt (ax_T 74)).lookup 69 = some (.invokestatic 93, 3, 19, 1, 0) := by decide +kernel
theorem l74_72 : (ax_dt (ax_T 74)).lookup 72 = some (.ifCond .ne 10, 3, 0, 0, 0) := by decide +kernel
theorem l74_75 : (ax_dt (ax_T 74)).lookup 75 = some (.aload_n 1, 1, 0, 0, 0) := by decide +kernel
theorem l74_76 : (ax_dt (ax_T 74)).lookup 76 = some (.iconst 3, 1, 0, 0, 0) := by decide +kernel
theorem l74_77 : (ax_dt (ax_T 74)).lookup 77 = some (.iload 5, 2, 0, 0, 0) := by decide +kernel
theorem l74_79 : (ax_dt (ax_T 74)).lookup 79 = some (.invokevirtual 66, 3, 9, 2, 0) := by decide +kernel
theorem l74_82 : (ax_dt (ax_T 74)).lookup 82 = some (.iload_n 2, 1, 0, 0, 0) := by decide +kernel
theorem l74_83 : (ax_dt (ax_T 74)).lookup 83 = some (.aload_n 0, 1, 0, 0, 0) := by decide +kernel
theorem l74_84 : (ax_dt (ax_T 74)).lookup 84 = some (.getfield 19, 3, 6, 2, 0) := by decide +kernel
theorem l74_87 : (ax_dt (ax_T 74)).lookup 87 = some (.iload_n 2, 1, 0, 0, 0) := by decide +kernel
theorem l74_88 : (ax_dt (ax_T 74)).lookup 88 = some (.iaload, 1, 0, 0, 0) := by decide +kernel
theorem l74_89 : (ax_dt (ax_T 74)).lookup 89 = some (.invokestatic 98, 3, 77, 2, 0) := by decide +kernel
theorem l74_92 : (ax_dt (ax_T 74)).lookup 92 = some (.istore 7, 2, 0, 0, 0) := by decide +kernel
theorem l74_94 : (ax_dt (ax_T 74)).lookup 94 = some (.aload_n 0, 1, 0, 0, 0) := by decide +kernel
theorem l74_95 : (ax_dt (ax_T 74)).lookup 95 = some (.getfield 22, 3, 6, 3, 0) := by decide +kernel
theorem l74_98 : (ax_dt (ax_T 74)).lookup 98 = some (.iload 7, 2, 0, 0, 0) := by decide +kernel
theorem l74_100 : (ax_dt (ax_T 74)).lookup 100 = some (.iload 4, 2, 0, 0, 0) := by decide +kernel
theorem l74_102 : (ax_dt (ax_T 74)).lookup 102 = some (.iastore, 1, 0, 0, 0) := by decide +kernel
theorem l74_103 : (ax_dt (ax_T 74)).lookup 103 = some (.aload_n 0, 1, 0, 0, 0) := by decide +kernel
theorem l74_104 : (ax_dt (ax_T 74)).lookup 104 = some (.getfield 25, 3, 6, 4, 0) := by decide +kernel
theorem l74_107 : (ax_dt (ax_T 74)).lookup 107 = some (.iload 7, 2, 0, 0, 0) := by decide +kernel
theorem l74_109 : (ax_dt (ax_T 74)).lookup 109 = some (.iload 6, 2, 0, 0, 0) := by decide +kernel
theorem l74_111 : (ax_dt (ax_T 74)).lookup 111 = some (.iastore, 1, 0, 0, 0) := by decide +kernel
theorem l74_112 : (ax_dt (ax_T 74)).lookup 112 = some (.aload_n 0, 1, 0, 0, 0) := by decide +kernel
theorem l74_113 : (ax_dt (ax_T 74)).lookup 113 = some (.getfield 19, 3, 6, 2, 0) := by decide +kernel
theorem l74_116 : (ax_dt (ax_T 74)).lookup 116 = some (.iload_n 2, 1, 0, 0, 0) := by decide +kernel
theorem l74_117 : (ax_dt (ax_T 74)).lookup 117 = some (.dup2, 1, 0, 0, 0) := by decide +kernel
theorem l74_118 : (ax_dt (ax_T 74)).lookup 118 = some (.iaload, 1, 0, 0, 0) := by decide +kernel
theorem l74_119 : (ax_dt (ax_T 74)).lookup 119 = some (.iconst 1, 1, 0, 0, 0) := by decide +kernel
theorem l74_120 : (ax_dt (ax_T 74)).lookup 120 = some (.iadd, 1, 0, 0, 0) := by decide +kernel
theorem l74_121 : (ax_dt (ax_T 74)).lookup 121 = some (.iastore, 1, 0, 0, 0) := by decide +kernel
theorem l74_122 : (ax_dt (ax_T 74)).lookup 122 = some (.iconst 1, 1, 0, 0, 0) := by decide +kernel
theorem l74_123 : (ax_dt (ax_T 74)).lookup 123 = some (.ireturn, 1, 0, 0, 0) := by decide +kernel
noncomputable def F_X7_readAttribute_82 (v2 : Int) (v4 : Int) (v6 : Int) (μ : bM) : Option ((Int ⊕ String) × bM) := bG (0 ≤ v2 ∧ v2 < 200) ((F_X8_slotAt v2 (μ 52 v2.toNat) μ).bind fun w1 => bG (0 ≤ w1 ∧ w1 < 1600) (bG (0 ≤ w1 ∧ w1 < 1600) (bG (0 ≤ v2 ∧ v2 < 200) (bG (bR (((bset (bset μ 53 w1.toNat v4) 54 w1.toNat v6) 52 v2.toNat) + 1)) (bG (0 ≤ v2 ∧ v2 < 200) (some (.inl 1, (bset (bset (bset μ 53 w1.toNat v4) 54 w1.toNat v6) 52 v2.toNat (((bset (bset μ 53 w1.toNat v4) 54 w1.toNat v6) 52 v2.toNat) + 1)))))))))
noncomputable def F_X7_readAttribute_67 (v2 : Int) (v4 : Int) (v5 : Int) (v6 : Int) (μ : bM) : Option ((Int ⊕ String) × bM) := (F_X2_isForm v6 μ).bind fun w1 => if ¬ w1 = 0 then F_X7_readAttribute_82 v2 v4 v6 μ else bXm (F_X1_refuse 3 v5 μ) (fun w3 μ4 => F_X7_readAttribute_82 v2 v4 v6 μ4) (fun e μ => some (.inr e, μ))
noncomputable def F_X7_readAttribute_56 (v2 : Int) (v3 : Int) (v4 : Int) (v5 : Int) (v6 : Int) (μ : bM) : Option ((Int ⊕ String) × bM) := if ¬ v4 = 0 then F_X7_readAttribute_67 v2 v4 v5 v6 μ else bXm (F_X1_refuse 3 v3 μ) (fun w2 μ3 => F_X7_readAttribute_67 v2 v4 v5 v6 μ3) (fun e μ => some (.inr e, μ))
noncomputable def F_X7_readAttribute_32 (v2 : Int) (v3 : Int) (v4 : Int) (μ : bM) : Option ((Int ⊕ String) × bM) := bXm (F_X1_smallRow μ) (fun w1 μ2 => if ¬ v4 = 0 then F_X7_readAttribute_56 v2 v3 v4 (μ 46 0) w1 μ2 else if ¬ w1 = 0 then F_X7_readAttribute_56 v2 v3 v4 (μ 46 0) w1 μ2 else some (.inl 0, μ2)) (fun e μ => some (.inr e, μ))
noncomputable def F_X7_readAttribute (v2 : Int) (μ : bM) : Option ((Int ⊕ String) × bM) := bXm (F_X1_smallRow μ) (fun w1 μ2 => if w1 = 0 then F_X7_readAttribute_32 v2 (μ 46 0) w1 μ2 else (F_X7_mayFollow v2 w1 μ2).bind fun w5 => if ¬ w5 = 0 then F_X7_readAttribute_32 v2 (μ 46 0) w1 μ2 else bXm (F_X1_refuse 3 (μ 46 0) μ2) (fun w7 μ8 => F_X7_readAttribute_32 v2 (μ 46 0) w1 μ8) (fun e μ => some (.inr e, μ))) (fun e μ => some (.inr e, μ))
theorem p_X7_readAttribute_82 {L : Nat} {xs : Nat → Int32} {d : Nat} {μ : bM}  {κ : ((Int ⊕ String) × bM) → Option bX} (hr : ∀ r : (Int ⊕ String) × bM, κ r = (bXc) r)  {v2 : Int} (h2 : bR v2) {v4 : Int} (h4 : bR v4) {v6 : Int} (h6 : bR v6) : bD L xs (d + 3) 74 82 [(0, .ref 49), (2, bI v2), (4, bI v4), (6, bI v6)] [] μ ((F_X7_readAttribute_82 v2 v4 v6 μ).bind κ) := by
  unfold F_X7_readAttribute_82
  refine bD.ok fun hk => ?_
  refine b_s (pc' := 83) (lv1 := [(0, .ref 49), (2, bI v2), (4, bI v4), (6, bI v6)]) (st' := [bI v2]) l74_82 (fun _ => rfl) ?_
  refine b_s (pc' := 84) (lv1 := [(0, .ref 49), (2, bI v2), (4, bI v4), (6, bI v6)]) (st' := [.ref 49, bI v2]) l74_83 (fun _ => rfl) ?_
  refine b_gp (q' := 52) (j := 3) l74_84 (by rfl) (by decide) (by decide) rfl hk rfl rfl (b_pc (pc' := 87) rfl ?_)
  refine b_s (pc' := 88) (lv1 := [(0, .ref 49), (2, bI v2), (4, bI v4), (6, bI v6)]) (st' := [bI v2, .ref 52, bI v2]) l74_87 (fun _ => rfl) ?_
  refine b_g fun g10 => ?_
  refine b_ial l74_88 (by rfl) g10 (b_pc (pc' := 89) rfl ?_)
  refine b_cPi l74_89 rfl (fun _ => trivial) (Nat.le_of_ble_eq_true rfl) (Nat.le_of_ble_eq_true rfl) rfl (r_X8_slotAt v2 h2 (μ 52 v2.toNat) (bO_i hk (by rfl))) fun w1 hw1 => b_pc (pc' := 92) rfl ?_
  refine b_w (pc' := 94) (lv1 := ax_st1 [(0, .ref 49), (2, bI v2), (4, bI v4), (6, bI v6)] 7 (bI w1)) (lv' := [(0, .ref 49), (2, bI v2), (4, bI v4), (6, bI v6), (7, bI w1)]) (st' := []) l74_92 (fun _ => rfl) (bSb rfl (bSb rfl (bSb rfl (bSb rfl (bSb rfl bSn))))) ?_
  refine b_s (pc' := 95) (lv1 := [(0, .ref 49), (2, bI v2), (4, bI v4), (6, bI v6), (7, bI w1)]) (st' := [.ref 49]) l74_94 (fun _ => rfl) ?_
  refine b_gp (q' := 53) (j := 4) l74_95 (by rfl) (by decide) (by decide) rfl hk rfl rfl (b_pc (pc' := 98) rfl ?_)
  refine b_s (pc' := 100) (lv1 := [(0, .ref 49), (2, bI v2), (4, bI v4), (6, bI v6), (7, bI w1)]) (st' := [bI w1, .ref 53]) l74_98 (fun _ => rfl) ?_
  refine b_s (pc' := 102) (lv1 := [(0, .ref 49), (2, bI v2), (4, bI v4), (6, bI v6), (7, bI w1)]) (st' := [bI v4, bI w1, .ref 53]) l74_100 (fun _ => rfl) ?_
  refine b_g fun g9 => ?_
  refine b_ias l74_102 (by rfl) g9 h4 (bD.ok fun hk2 => b_pc (pc' := 103) rfl ?_)
  refine b_s (pc' := 104) (lv1 := [(0, .ref 49), (2, bI v2), (4, bI v4), (6, bI v6), (7, bI w1)]) (st' := [.ref 49]) l74_103 (fun _ => rfl) ?_
  refine b_gp (q' := 54) (j := 5) l74_104 (by rfl) (by decide) (by decide) rfl hk2 rfl rfl (b_pc (pc' := 107) rfl ?_)
  refine b_s (pc' := 109) (lv1 := [(0, .ref 49), (2, bI v2), (4, bI v4), (6, bI v6), (7, bI w1)]) (st' := [bI w1, .ref 54]) l74_107 (fun _ => rfl) ?_
  refine b_s (pc' := 111) (lv1 := [(0, .ref 49), (2, bI v2), (4, bI v4), (6, bI v6), (7, bI w1)]) (st' := [bI v6, bI w1, .ref 54]) l74_109 (fun _ => rfl) ?_
  refine b_g fun g8 => ?_
  refine b_ias l74_111 (by rfl) g8 h6 (bD.ok fun hk3 => b_pc (pc' := 112) rfl ?_)
  refine b_s (pc' := 113) (lv1 := [(0, .ref 49), (2, bI v2), (4, bI v4), (6, bI v6), (7, bI w1)]) (st' := [.ref 49]) l74_112 (fun _ => rfl) ?_
  refine b_gp (q' := 52) (j := 3) l74_113 (by rfl) (by decide) (by decide) rfl hk3 rfl rfl (b_pc (pc' := 116) rfl ?_)
  refine b_s (pc' := 117) (lv1 := [(0, .ref 49), (2, bI v2), (4, bI v4), (6, bI v6), (7, bI w1)]) (st' := [bI v2, .ref 52]) l74_116 (fun _ => rfl) ?_
  refine b_s (pc' := 118) (lv1 := [(0, .ref 49), (2, bI v2), (4, bI v4), (6, bI v6), (7, bI w1)]) (st' := [bI v2, .ref 52, bI v2, .ref 52]) l74_117 (fun _ => rfl) ?_
  refine b_g fun g7 => ?_
  refine b_ial l74_118 (by rfl) g7 (b_pc (pc' := 119) rfl ?_)
  refine b_s (pc' := 120) (lv1 := [(0, .ref 49), (2, bI v2), (4, bI v4), (6, bI v6), (7, bI w1)]) (st' := [bI 1, bI ((bset (bset μ 53 w1.toNat v4) 54 w1.toNat v6) 52 v2.toNat), bI v2, .ref 52]) l74_119 (fun _ => rfl) ?_
  refine b_iadd l74_120 fun g4 => (b_pc (pc' := 121) rfl ?_)
  refine b_g fun g6 => ?_
  refine b_ias l74_121 (by rfl) g6 g4 (bD.ok fun hk5 => b_pc (pc' := 122) rfl ?_)
  refine b_s (pc' := 123) (lv1 := [(0, .ref 49), (2, bI v2), (4, bI v4), (6, bI v6), (7, bI w1)]) (st' := [bI 1]) l74_122 (fun _ => rfl) ?_
  exact b_retz l74_123 rfl (by decide) (hr _)
theorem p_X7_readAttribute_67 {L : Nat} {xs : Nat → Int32} {d : Nat} {μ : bM}  {κ : ((Int ⊕ String) × bM) → Option bX} (hr : ∀ r : (Int ⊕ String) × bM, κ r = (bXc) r)  {v2 : Int} (h2 : bR v2) {v4 : Int} (h4 : bR v4) {v5 : Int} (h5 : bR v5) {v6 : Int} (h6 : bR v6) : bD L xs (d + 3) 74 67 [(0, .ref 49), (1, .ref 46), (2, bI v2), (4, bI v4), (5, bI v5), (6, bI v6)] [] μ ((F_X7_readAttribute_67 v2 v4 v5 v6 μ).bind κ) := by
  unfold F_X7_readAttribute_67
  refine bD.ok fun hk => ?_
  refine b_s (pc' := 69) (lv1 := [(0, .ref 49), (1, .ref 46), (2, bI v2), (4, bI v4), (5, bI v5), (6, bI v6)]) (st' := [bI v6]) l74_67 (fun _ => rfl) ?_
  refine b_cPz l74_69 rfl (fun _ => trivial) (Nat.le_of_ble_eq_true rfl) (Nat.le_of_ble_eq_true rfl) rfl (r_X2_isForm v6 h6) fun w1 hw1 => b_pc (pc' := 72) rfl ?_
  refine b_zne (pt := 82) l74_72 (bZ_R hw1) (by decide) rfl (fun c2 => ?_) (fun c2 => b_pc (pc' := 75) rfl ?_)
  · refine bD.wk (lv' := [(0, .ref 49), (2, bI v2), (4, bI v4), (6, bI v6)]) (bSb rfl (bSb rfl (bSb rfl (bSb rfl bSn)))) ?_
    exact p_X7_readAttribute_82 hr h2 h4 h6
  · refine b_s (pc' := 76) (lv1 := [(0, .ref 49), (1, .ref 46), (2, bI v2), (4, bI v4), (5, bI v5), (6, bI v6)]) (st' := [.ref 46]) l74_75 (fun _ => rfl) ?_
    refine b_s (pc' := 77) (lv1 := [(0, .ref 49), (1, .ref 46), (2, bI v2), (4, bI v4), (5, bI v5), (6, bI v6)]) (st' := [bI 3, .ref 46]) l74_76 (fun _ => rfl) ?_
    refine b_s (pc' := 79) (lv1 := [(0, .ref 49), (1, .ref 46), (2, bI v2), (4, bI v4), (5, bI v5), (6, bI v6)]) (st' := [bI v5, bI 3, .ref 46]) l74_77 (fun _ => rfl) ?_
    refine b_cXv l74_79 rfl (b_rc (ci := 1) (by rfl) (by decide) (by decide +kernel)) (Nat.le_of_ble_eq_true rfl) (Nat.le_of_ble_eq_true rfl) rfl (r_X1_refuse 3 (by decide) v5 h5) ⟨fun _ z => (by cases z), (by decide +kernel)⟩ rfl (fun _ _ => hr _) fun w3 μ4 hw3 => bD.ok fun hk5 => b_pc (pc' := 82) rfl ?_
    refine bD.wk (lv' := [(0, .ref 49), (2, bI v2), (4, bI v4), (6, bI v6)]) (bSb rfl (bSb rfl (bSb rfl (bSb rfl bSn)))) ?_
    exact p_X7_readAttribute_82 hr h2 h4 h6
theorem p_X7_readAttribute_56 {L : Nat} {xs : Nat → Int32} {d : Nat} {μ : bM}  {κ : ((Int ⊕ String) × bM) → Option bX} (hr : ∀ r : (Int ⊕ String) × bM, κ r = (bXc) r)  {v2 : Int} (h2 : bR v2) {v3 : Int} (h3 : bR v3) {v4 : Int} (h4 : bR v4) {v5 : Int} (h5 : bR v5) {v6 : Int} (h6 : bR v6) : bD L xs (d + 3) 74 56 [(0, .ref 49), (1, .ref 46), (2, bI v2), (3, bI v3), (4, bI v4), (5, bI v5), (6, bI v6)] [] μ ((F_X7_readAttribute_56 v2 v3 v4 v5 v6 μ).bind κ) := by
  unfold F_X7_readAttribute_56
  refine bD.ok fun hk => ?_
  refine b_s (pc' := 58) (lv1 := [(0, .ref 49), (1, .ref 46), (2, bI v2), (3, bI v3), (4, bI v4), (5, bI v5), (6, bI v6)]) (st' := [bI v4]) l74_56 (fun _ => rfl) ?_
  refine b_zne (pt := 67) l74_58 h4 (by decide) rfl (fun c1 => ?_) (fun c1 => b_pc (pc' := 61) rfl ?_)
  · refine bD.wk (lv' := [(0, .ref 49), (1, .ref 46), (2, bI v2), (4, bI v4), (5, bI v5), (6, bI v6)]) (bSb rfl (bSb rfl (bSb rfl (bSb rfl (bSb rfl (bSb rfl bSn)))))) ?_
    exact p_X7_readAttribute_67 hr h2 h4 h5 h6
  · refine b_s (pc' := 62) (lv1 := [(0, .ref 49), (1, .ref 46), (2, bI v2), (3, bI v3), (4, bI v4), (5, bI v5), (6, bI v6)]) (st' := [.ref 46]) l74_61 (fun _ => rfl) ?_
    refine b_s (pc' := 63) (lv1 := [(0, .ref 49), (1, .ref 46), (2, bI v2), (3, bI v3), (4, bI v4), (5, bI v5), (6, bI v6)]) (st' := [bI 3, .ref 46]) l74_62 (fun _ => rfl) ?_
    refine b_s (pc' := 64) (lv1 := [(0, .ref 49), (1, .ref 46), (2, bI v2), (3, bI v3), (4, bI v4), (5, bI v5), (6, bI v6)]) (st' := [bI v3, bI 3, .ref 46]) l74_63 (fun _ => rfl) ?_
    refine b_cXv l74_64 rfl (b_rc (ci := 1) (by rfl) (by decide) (by decide +kernel)) (Nat.le_of_ble_eq_true rfl) (Nat.le_of_ble_eq_true rfl) rfl (r_X1_refuse 3 (by decide) v3 h3) ⟨fun _ z => (by cases z), (by decide +kernel)⟩ rfl (fun _ _ => hr _) fun w2 μ3 hw2 => bD.ok fun hk4 => b_pc (pc' := 67) rfl ?_
    refine bD.wk (lv' := [(0, .ref 49), (1, .ref 46), (2, bI v2), (4, bI v4), (5, bI v5), (6, bI v6)]) (bSb rfl (bSb rfl (bSb rfl (bSb rfl (bSb rfl (bSb rfl bSn)))))) ?_
    exact p_X7_readAttribute_67 hr h2 h4 h5 h6
theorem p_X7_readAttribute_32 {L : Nat} {xs : Nat → Int32} {d : Nat} {μ : bM}  {κ : ((Int ⊕ String) × bM) → Option bX} (hr : ∀ r : (Int ⊕ String) × bM, κ r = (bXc) r)  {v2 : Int} (h2 : bR v2) {v3 : Int} (h3 : bR v3) {v4 : Int} (h4 : bR v4) : bD L xs (d + 3) 74 32 [(0, .ref 49), (1, .ref 46), (2, bI v2), (3, bI v3), (4, bI v4)] [] μ ((F_X7_readAttribute_32 v2 v3 v4 μ).bind κ) := by
  unfold F_X7_readAttribute_32
  refine bD.ok fun hk => ?_
  refine b_s (pc' := 33) (lv1 := [(0, .ref 49), (1, .ref 46), (2, bI v2), (3, bI v3), (4, bI v4)]) (st' := [.ref 46]) l74_32 (fun _ => rfl) ?_
  refine b_gi l74_33 (by rfl) (by decide) (by decide) rfl (b_pc (pc' := 36) rfl ?_)
  refine b_w (pc' := 38) (lv1 := ax_st1 [(0, .ref 49), (1, .ref 46), (2, bI v2), (3, bI v3), (4, bI v4)] 5 (bI (μ 46 0))) (lv' := [(0, .ref 49), (1, .ref 46), (2, bI v2), (3, bI v3), (4, bI v4), (5, bI (μ 46 0))]) (st' := []) l74_36 (fun _ => rfl) (bSb rfl (bSb rfl (bSb rfl (bSb rfl (bSb rfl (bSb rfl bSn)))))) ?_
  refine b_s (pc' := 39) (lv1 := [(0, .ref 49), (1, .ref 46), (2, bI v2), (3, bI v3), (4, bI v4), (5, bI (μ 46 0))]) (st' := [.ref 46]) l74_38 (fun _ => rfl) ?_
  refine b_cXi l74_39 rfl (b_rc (ci := 1) (by rfl) (by decide) (by decide +kernel)) (Nat.le_of_ble_eq_true rfl) (Nat.le_of_ble_eq_true rfl) rfl (r_X1_smallRow ) ⟨fun _ z => (by cases z), (by decide +kernel)⟩ rfl (fun _ _ => hr _) fun w1 μ2 hw1 => bD.ok fun hk3 => b_pc (pc' := 42) rfl ?_
  refine b_w (pc' := 44) (lv1 := ax_st1 [(0, .ref 49), (1, .ref 46), (2, bI v2), (3, bI v3), (4, bI v4), (5, bI (μ 46 0))] 6 (bI w1)) (lv' := [(0, .ref 49), (1, .ref 46), (2, bI v2), (3, bI v3), (4, bI v4), (5, bI (μ 46 0)), (6, bI w1)]) (st' := []) l74_42 (fun _ => rfl) (bSb rfl (bSb rfl (bSb rfl (bSb rfl (bSb rfl (bSb rfl (bSb rfl bSn))))))) ?_
  refine b_s (pc' := 46) (lv1 := [(0, .ref 49), (1, .ref 46), (2, bI v2), (3, bI v3), (4, bI v4), (5, bI (μ 46 0)), (6, bI w1)]) (st' := [bI v4]) l74_44 (fun _ => rfl) ?_
  refine b_zne (pt := 56) l74_46 h4 (by decide) rfl (fun c4 => ?_) (fun c4 => b_pc (pc' := 49) rfl ?_)
  · refine bD.wk (lv' := [(0, .ref 49), (1, .ref 46), (2, bI v2), (3, bI v3), (4, bI v4), (5, bI (μ 46 0)), (6, bI w1)]) (bSb rfl (bSb rfl (bSb rfl (bSb rfl (bSb rfl (bSb rfl (bSb rfl bSn))))))) ?_
    exact p_X7_readAttribute_56 hr h2 h3 h4 (bO_f hk (ci := 1) (by rfl) rfl) hw1
  · refine b_s (pc' := 51) (lv1 := [(0, .ref 49), (1, .ref 46), (2, bI v2), (3, bI v3), (4, bI v4), (5, bI (μ 46 0)), (6, bI w1)]) (st' := [bI w1]) l74_49 (fun _ => rfl) ?_
    refine b_zne (pt := 56) l74_51 hw1 (by decide) rfl (fun c5 => ?_) (fun c5 => b_pc (pc' := 54) rfl ?_)
    · refine bD.wk (lv' := [(0, .ref 49), (1, .ref 46), (2, bI v2), (3, bI v3), (4, bI v4), (5, bI (μ 46 0)), (6, bI w1)]) (bSb rfl (bSb rfl (bSb rfl (bSb rfl (bSb rfl (bSb rfl (bSb rfl bSn))))))) ?_
      exact p_X7_readAttribute_56 hr h2 h3 h4 (bO_f hk (ci := 1) (by rfl) rfl) hw1
    · refine b_s (pc' := 55) (lv1 := [(0, .ref 49), (1, .ref 46), (2, bI v2), (3, bI v3), (4, bI v4), (5, bI (μ 46 0)), (6, bI w1)]) (st' := [bI 0]) l74_54 (fun _ => rfl) ?_
      exact b_retz l74_55 rfl (by decide) (hr _)
theorem r_X7_readAttribute {L : Nat} {xs : Nat → Int32} {d : Nat} {μ : bM}  (v2 : Int) (h2 : bR v2) : bD L xs (d + 3) 74 0 [(0, .ref 49), (1, .ref 46), (2, bI v2)] [] μ ((F_X7_readAttribute v2 μ).bind (bXc)) := by
  have hr : ∀ r, (bXc) r = (bXc) r := fun _ => rfl
  unfold F_X7_readAttribute
  refine bD.ok fun hk => ?_
  refine b_s (pc' := 1) (lv1 := [(0, .ref 49), (1, .ref 46), (2, bI v2)]) (st' := [.ref 46]) l74_0 (fun _ => rfl) ?_
  refine b_gi l74_1 (by rfl) (by decide) (by decide) rfl (b_pc (pc' := 4) rfl ?_)
  refine b_w (pc' := 5) (lv1 := ax_st1 [(0, .ref 49), (1, .ref 46), (2, bI v2)] 3 (bI (μ 46 0))) (lv' := [(0, .ref 49), (1, .ref 46), (2, bI v2), (3, bI (μ 46 0))]) (st' := []) l74_4 (fun _ => rfl) (bSb rfl (bSb rfl (bSb rfl (bSb rfl bSn)))) ?_
  refine b_s (pc' := 6) (lv1 := [(0, .ref 49), (1, .ref 46), (2, bI v2), (3, bI (μ 46 0))]) (st' := [.ref 46]) l74_5 (fun _ => rfl) ?_
  refine b_cXi l74_6 rfl (b_rc (ci := 1) (by rfl) (by decide) (by decide +kernel)) (Nat.le_of_ble_eq_true rfl) (Nat.le_of_ble_eq_true rfl) rfl (r_X1_smallRow ) ⟨fun _ z => (by cases z), (by decide +kernel)⟩ rfl (fun _ _ => hr _) fun w1 μ2 hw1 => bD.ok fun hk3 => b_pc (pc' := 9) rfl ?_
  refine b_w (pc' := 11) (lv1 := ax_st1 [(0, .ref 49), (1, .ref 46), (2, bI v2), (3, bI (μ 46 0))] 4 (bI w1)) (lv' := [(0, .ref 49), (1, .ref 46), (2, bI v2), (3, bI (μ 46 0)), (4, bI w1)]) (st' := []) l74_9 (fun _ => rfl) (bSb rfl (bSb rfl (bSb rfl (bSb rfl (bSb rfl bSn))))) ?_
  refine b_s (pc' := 13) (lv1 := [(0, .ref 49), (1, .ref 46), (2, bI v2), (3, bI (μ 46 0)), (4, bI w1)]) (st' := [bI w1]) l74_11 (fun _ => rfl) ?_
  refine b_zeq (pt := 32) l74_13 hw1 (by decide) rfl (fun c4 => ?_) (fun c4 => b_pc (pc' := 16) rfl ?_)
  · refine bD.wk (lv' := [(0, .ref 49), (1, .ref 46), (2, bI v2), (3, bI (μ 46 0)), (4, bI w1)]) (bSb rfl (bSb rfl (bSb rfl (bSb rfl (bSb rfl bSn))))) ?_
    exact p_X7_readAttribute_32 hr h2 (bO_f hk (ci := 1) (by rfl) rfl) hw1
  · refine b_s (pc' := 17) (lv1 := [(0, .ref 49), (1, .ref 46), (2, bI v2), (3, bI (μ 46 0)), (4, bI w1)]) (st' := [.ref 49]) l74_16 (fun _ => rfl) ?_
    refine b_s (pc' := 18) (lv1 := [(0, .ref 49), (1, .ref 46), (2, bI v2), (3, bI (μ 46 0)), (4, bI w1)]) (st' := [bI v2, .ref 49]) l74_17 (fun _ => rfl) ?_
    refine b_s (pc' := 20) (lv1 := [(0, .ref 49), (1, .ref 46), (2, bI v2), (3, bI (μ 46 0)), (4, bI w1)]) (st' := [bI w1, bI v2, .ref 49]) l74_18 (fun _ => rfl) ?_
    refine b_cPz l74_20 rfl (b_rc (ci := 6) (by rfl) (by decide) (by decide +kernel)) (Nat.le_of_ble_eq_true rfl) (Nat.le_of_ble_eq_true rfl) rfl (r_X7_mayFollow v2 h2 w1 hw1) fun w5 hw5 => b_pc (pc' := 23) rfl ?_
    refine b_zne (pt := 32) l74_23 (bZ_R hw5) (by decide) rfl (fun c6 => ?_) (fun c6 => b_pc (pc' := 26) rfl ?_)
    · refine bD.wk (lv' := [(0, .ref 49), (1, .ref 46), (2, bI v2), (3, bI (μ 46 0)), (4, bI w1)]) (bSb rfl (bSb rfl (bSb rfl (bSb rfl (bSb rfl bSn))))) ?_
      exact p_X7_readAttribute_32 hr h2 (bO_f hk (ci := 1) (by rfl) rfl) hw1
    · refine b_s (pc' := 27) (lv1 := [(0, .ref 49), (1, .ref 46), (2, bI v2), (3, bI (μ 46 0)), (4, bI w1)]) (st' := [.ref 46]) l74_26 (fun _ => rfl) ?_
      refine b_s (pc' := 28) (lv1 := [(0, .ref 49), (1, .ref 46), (2, bI v2), (3, bI (μ 46 0)), (4, bI w1)]) (st' := [bI 3, .ref 46]) l74_27 (fun _ => rfl) ?_
      refine b_s (pc' := 29) (lv1 := [(0, .ref 49), (1, .ref 46), (2, bI v2), (3, bI (μ 46 0)), (4, bI w1)]) (st' := [bI (μ 46 0), bI 3, .ref 46]) l74_28 (fun _ => rfl) ?_
      refine b_cXv l74_29 rfl (b_rc (ci := 1) (by rfl) (by decide) (by decide +kernel)) (Nat.le_of_ble_eq_true rfl) (Nat.le_of_ble_eq_true rfl) rfl (r_X1_refuse 3 (by decide) (μ 46 0) (bO_f hk (ci := 1) (by rfl) rfl)) ⟨fun _ z => (by cases z), (by decide +kernel)⟩ rfl (fun _ _ => hr _) fun w7 μ8 hw7 => bD.ok fun hk9 => b_pc (pc' := 32) rfl ?_
      refine bD.wk (lv' := [(0, .ref 49), (1, .ref 46), (2, bI v2), (3, bI (μ 46 0)), (4, bI w1)]) (bSb rfl (bSb rfl (bSb rfl (bSb rfl (bSb rfl bSn))))) ?_
      exact p_X7_readAttribute_32 hr h2 (bO_f hk (ci := 1) (by rfl) rfl) hw1
/-! ET$Table.readShape -/
theorem l73_0 : (ax_dt (ax_T 73)).lookup 0 = some (.aload_n 1, 1, 0, 0, 0) := by decide +kernel
theorem l73_1 : (ax_dt (ax_T 73)).lookup 1 = some (.getfield 54, 3, 1, 0, 0) := by decide +kernel
theorem l73_4 : (ax_dt (ax_T 73)).lookup 4 = some (.istore_n 3, 1, 0, 0, 0) := by decide +kernel
theorem l73_5 : (ax_dt (ax_T 73)).lookup 5 = some (.aload_n 0, 1, 0, 0, 0) := by decide +kernel
theorem l73_6 : (ax_dt (ax_T 73)).lookup 6 = some (.getfield 9, 3, 6, 0, 0) := by decide +kernel
theorem l73_9 : (ax_dt (ax_T 73)).lookup 9 = some (.iload_n 2, 1, 0, 0, 0) := by decide +kernel
theorem l73_10 : (ax_dt (ax_T 73)).lookup 10 = some (.aload_n 1, 1, 0, 0, 0) := by decide +kernel
theorem l73_11 : (ax_dt (ax_T 73)).lookup 11 = some (.invokevirtual 59, 3, 12, 0, 0) := by decide +kernel
theorem l73_14 : (ax_dt (ax_T 73)).lookup 14 = some (.iastore, 1, 0, 0, 0) := by decide +kernel
theorem l73_15 : (ax_dt (ax_T 73)).lookup 15 = some (.aload_n 0, 1, 0, 0, 0) := by decide +kernel
theorem l73_16 : (ax_dt (ax_T 73)).lookup 16 = some (.getfield 9, 3, 6, 0, 0) := by decide +kernel
theorem l73_19 : (ax_dt (ax_T 73)).lookup 19 = some (.iload_n 2, 1, 0, 0, 0) := by decide +kernel
theorem l73_20 : (ax_dt (ax_T 73)).lookup 20 = some (.iaload, 1, 0, 0, 0) := by decide +kernel
theorem l73_21 : (ax_dt (ax_T 73)).lookup 21 = some (.invokestatic 77, 3, 130, 1, 0) := by decide +kernel
theorem l73_24 : (ax_dt (ax_T 73)).lookup 24 = some (.ifCond .ne 9, 3, 0, 0, 0) := by decide +kernel
theorem l73_27 : (ax_dt (ax_T 73)).lookup 27 = some (.aload_n 1, 1, 0, 0, 0) := by decide +kernel
theorem l73_28 : (ax_dt (ax_T 73)).lookup 28 = some (.iconst 3, 1, 0, 0, 0) := by decide +kernel
theorem l73_29 : (ax_dt (ax_T 73)).lookup 29 = some (.iload_n 3, 1, 0, 0, 0) := by decide +kernel
theorem l73_30 : (ax_dt (ax_T 73)).lookup 30 = some (.invokevirtual 66, 3, 9, 2, 0) := by decide +kernel
theorem l73_33 : (ax_dt (ax_T 73)).lookup 33 = some (.aload_n 1, 1, 0, 0, 0) := by decide +kernel
theorem l73_34 : (ax_dt (ax_T 73)).lookup 34 = some (.getfield 54, 3, 1, 0, 0) := by decide +kernel
theorem l73_37 : (ax_dt (ax_T 73)).lookup 37 = some (.istore_n 3, 1, 0, 0, 0) := by decide +kernel
theorem l73_38 : (ax_dt (ax_T 73)).lookup 38 = some (.aload_n 1, 1, 0, 0, 0) := by decide +kernel
theorem l73_39 : (ax_dt (ax_T 73)).lookup 39 = some (.iconst 1, 1, 0, 0, 0) := by decide +kernel
theorem l73_40 : (ax_dt (ax_T 73)).lookup 40 = some (.invokevirtual 81, 3, 10, 1, 0) := by decide +kernel
theorem l73_43 : (ax_dt (ax_T 73)).lookup 43 = some (.lstore 4, 2, 0, 0, 0) := by decide +kernel
theorem l73_45 : (ax_dt (ax_T 73)).lookup 45 = some (.lload 4, 2, 0, 0, 0) := by decide +kernel
theorem l73_47 : (ax_dt (ax_T 73)).lookup 47 = some (.lconst 1, 1, 0, 0, 0) := by decide +kernel
theorem l73_48 : (ax_dt (ax_T 73)).lookup 48 = some (.lcmp, 1, 0, 0, 0) := by decide +kernel
theorem l73_49 : (ax_dt (ax_T 73)).lookup 49 = some (.ifCond .le 9, 3, 0, 0, 0) := by decide +kernel
theorem l73_52 : (ax_dt (ax_T 73)).lookup 52 = some (.aload_n 1, 1, 0, 0, 0) := by decide +kernel
theorem l73_53 : (ax_dt (ax_T 73)).lookup 53 = some (.iconst 3, 1, 0, 0, 0) := by decide +kernel
theorem l73_54 : (ax_dt (ax_T 73)).lookup 54 = some (.iload_n 3, 1, 0, 0, 0) := by decide +kernel
theorem l73_55 : (ax_dt (ax_T 73)).lookup 55 = some (.invokevirtual 66, 3, 9, 2, 0) := by decide +kernel
theorem l73_58 : (ax_dt (ax_T 73)).lookup 58 = some (.aload_n 0, 1, 0, 0, 0) := by decide +kernel
theorem l73_59 : (ax_dt (ax_T 73)).lookup 59 = some (.getfield 15, 3, 6, 1, 0) := by decide +kernel
theorem l73_62 : (ax_dt (ax_T 73)).lookup 62 = some (.iload_n 2, 1, 0, 0, 0) := by decide +kernel
theorem l73_63 : (ax_dt (ax_T 73)).lookup 63 = some (.lload 4, 2, 0, 0, 0) := by decide +kernel
theorem l73_65 : (ax_dt (ax_T 73)).lookup 65 = some (.lconst 1, 1, 0, 0, 0) := by decide +kernel
theorem l73_66 : (ax_dt (ax_T 73)).lookup 66 = some (.lcmp, 1, 0, 0, 0) := by decide +kernel
theorem l73_67 : (ax_dt (ax_T 73)).lookup 67 = some (.ifCond .ne 7, 3, 0, 0, 0) := by decide +kernel
theorem l73_70 : (ax_dt (ax_T 73)).lookup 70 = some (.iconst 1, 1, 0, 0, 0) := by decide +kernel
theorem l73_71 : (ax_dt (ax_T 73)).lookup 71 = some (.goto 4, 3, 0, 0, 0) := by decide +kernel
theorem l73_74 : (ax_dt (ax_T 73)).lookup 74 = some (.iconst 0, 1, 0, 0, 0) := by decide +kernel
theorem l73_75 : (ax_dt (ax_T 73)).lookup 75 = some (.bastore, 1, 0, 0, 0) := by decide +kernel
theorem l73_76 : (ax_dt (ax_T 73)).lookup 76 = some (.aload_n 0, 1, 0, 0, 0) := by decide +kernel
theorem l73_77 : (ax_dt (ax_T 73)).lookup 77 = some (.getfield 19, 3, 6, 2, 0) := by decide +kernel
theorem l73_80 : (ax_dt (ax_T 73)).lookup 80 = some (.iload_n 2, 1, 0, 0, 0) := by decide +kernel
theorem l73_81 : (ax_dt (ax_T 73)).lookup 81 = some (.iconst 0, 1, 0, 0, 0) := by decide +kernel
theorem l73_82 : (ax_dt (ax_T 73)).lookup 82 = some (.iastore, 1, 0, 0, 0) := by decide +kernel
theorem l73_83 : (ax_dt (ax_T 73)).lookup 83 = some (.iconst 1, 1, 0, 0, 0) := by decide +kernel
theorem l73_84 : (ax_dt (ax_T 73)).lookup 84 = some (.istore 6, 2, 0, 0, 0) := by decide +kernel
theorem l73_86 : (ax_dt (ax_T 73)).lookup 86 = some (.iconst 0, 1, 0, 0, 0) := by decide +kernel
theorem l73_87 : (ax_dt (ax_T 73)).lookup 87 = some (.istore 7, 2, 0, 0, 0) := by decide +kernel
theorem l73_89 : (ax_dt (ax_T 73)).lookup 89 = some (.iload 6, 2, 0, 0, 0) := by decide +kernel
theorem l73_91 : (ax_dt (ax_T 73)).lookup 91 = some (.ifCond .eq 24, 3, 0, 0, 0) := by decide +kernel
theorem l73_94 : (ax_dt (ax_T 73)).lookup 94 = some (.iload 7, 2, 0, 0, 0) := by decide +kernel
theorem l73_96 : (ax_dt (ax_T 73)).lookup 96 = some (.bipush 8, 2, 0, 0, 0) := by decide +kernel
theorem l73_98 : (ax_dt (ax_T 73)).lookup 98 = some (.if_icmp .gt 17, 3, 0, 0, 0) := by decide +kernel
theorem l73_101 : (ax_dt (ax_T 73)).lookup 101 = some (.aload_n 0, 1, 0, 0, 0) := by decide +kernel
theorem l73_102 : (ax_dt (ax_T 73)).lookup 102 = some (.aload_n 1, 1, 0, 0, 0) := by decide +kernel
theorem l73_103 : (ax_dt (ax_T 73)).lookup 103 = some (.iload_n 2, 1, 0, 0, 0) := by decide +kernel
theorem l73_104 : (ax_dt (ax_T 73)).lookup 104 = some (.invokevirtual 85, 3, 74, 2, 0) := by decide +kernel
theorem l73_107 : (ax_dt (ax_T 73)).lookup 107 = some (.istore 6, 2, 0, 0, 0) := by decide +kernel
theorem l73_109 : (ax_dt (ax_T 73)).lookup 109 = some (.iinc 7 1, 3, 0, 0, 0) := by decide +kernel
theorem l73_112 : (ax_dt (ax_T 73)).lookup 112 = some (.goto (-23), 3, 0, 0, 0) := by decide +kernel
theorem l73_115 : (ax_dt (ax_T 73)).lookup 115 = some (.return_, 1, 0, 0, 0) := by decide +kernel
noncomputable def F_X7_readShape_89 (v2 : Int) (v6 : Int) (v7 : Int) (μ : bM) : Option ((Int × Int × bM) ⊕ ((Int ⊕ String) × bM)) := if v6 = 0 then some (.inr (.inl 0, μ)) else if 8 < v7 then some (.inr (.inl 0, μ)) else bXm (F_X7_readAttribute v2 μ) (fun w3 μ4 => bG (bR (v7 + 1)) (some (.inl (w3, (v7 + 1), μ4)))) (fun e μ => some (.inr (.inr e, μ)))
noncomputable def F_X7_readShape_75 (v2 : Int) (y1 : Int) (y2 : Int) (μ : bM) : Option ((Int ⊕ String) × bM) := bG (0 ≤ y1 ∧ y1 < 200) (bG (0 ≤ y2 ∧ y2 ≤ 1) (bG (0 ≤ v2 ∧ v2 < 200) (bLoop (fun z => F_X7_readShape_89 v2 z.1 z.2.1 z.2.2) (1, 0, (bset (bset μ 51 y1.toNat y2) 52 v2.toNat 0)))))
noncomputable def F_X7_readShape_58 (v2 : Int) (v4 : Int) (μ : bM) : Option ((Int ⊕ String) × bM) := if ¬ (bCmp v4 1) = 0 then F_X7_readShape_75 v2 v2 0 μ else F_X7_readShape_75 v2 v2 1 μ
noncomputable def F_X7_readShape_33 (v2 : Int) (μ : bM) : Option ((Int ⊕ String) × bM) := bXm (F_X1_lowFirst 1 μ) (fun w1 μ2 => if (bCmp w1 1) ≤ 0 then F_X7_readShape_58 v2 w1 μ2 else bXm (F_X1_refuse 3 (μ 46 0) μ2) (fun w5 μ6 => F_X7_readShape_58 v2 w1 μ6) (fun e μ => some (.inr e, μ))) (fun e μ => some (.inr e, μ))
noncomputable def F_X7_readShape (v2 : Int) (μ : bM) : Option ((Int ⊕ String) × bM) := bXm (F_X1_smallRow μ) (fun w1 μ2 => bG (0 ≤ v2 ∧ v2 < 200) (bG (0 ≤ v2 ∧ v2 < 200) ((F_X10_isCode ((bset μ2 50 v2.toNat w1) 50 v2.toNat) (bset μ2 50 v2.toNat w1)).bind fun w5 => if ¬ w5 = 0 then F_X7_readShape_33 v2 (bset μ2 50 v2.toNat w1) else bXm (F_X1_refuse 3 (μ 46 0) (bset μ2 50 v2.toNat w1)) (fun w7 μ8 => F_X7_readShape_33 v2 μ8) (fun e μ => some (.inr e, μ))))) (fun e μ => some (.inr e, μ))
theorem q_X7_readShape_89 {L : Nat} {xs : Nat → Int32} {d : Nat} {μ : bM} {v2 : Int} {κ : ((Int × Int × bM) ⊕ ((Int ⊕ String) × bM)) → Option bX} (hr : ∀ r : (Int ⊕ String) × bM, κ (.inr r) = (bXc) r) (H89 : ∀ (v6 : Int) (v7 : Int) (μ : bM), bR v6 → bR v7 → bD L xs (d + 4) 73 89 [(0, .ref 49), (1, .ref 46), (2, bI v2), (6, bI v6), (7, bI v7)] [] μ (κ (.inl (v6, v7, μ))))  (h2 : bR v2) {v6 : Int} (h6 : bR v6) {v7 : Int} (h7 : bR v7) : bD L xs (d + 4) 73 89 [(0, .ref 49), (1, .ref 46), (2, bI v2), (6, bI v6), (7, bI v7)] [] μ ((F_X7_readShape_89 v2 v6 v7 μ).bind κ) := by
  unfold F_X7_readShape_89
  refine bD.ok fun hk => ?_
  refine b_s (pc' := 91) (lv1 := [(0, .ref 49), (1, .ref 46), (2, bI v2), (6, bI v6), (7, bI v7)]) (st' := [bI v6]) l73_89 (fun _ => rfl) ?_
  refine b_zeq (pt := 115) l73_91 h6 (by decide) rfl (fun c1 => ?_) (fun c1 => b_pc (pc' := 94) rfl ?_)
  · exact b_retv l73_115 rfl (hr _)
  · refine b_s (pc' := 96) (lv1 := [(0, .ref 49), (1, .ref 46), (2, bI v2), (6, bI v6), (7, bI v7)]) (st' := [bI v7]) l73_94 (fun _ => rfl) ?_
    refine b_bipush l73_96 (by decide) (b_pc (pc' := 98) rfl ?_)
    refine b_igt (pt := 115) l73_98 h7 (by decide) (by decide) rfl (fun c2 => ?_) (fun c2 => b_pc (pc' := 101) rfl ?_)
    · exact b_retv l73_115 rfl (hr _)
    · refine b_s (pc' := 102) (lv1 := [(0, .ref 49), (1, .ref 46), (2, bI v2), (6, bI v6), (7, bI v7)]) (st' := [.ref 49]) l73_101 (fun _ => rfl) ?_
      refine b_s (pc' := 103) (lv1 := [(0, .ref 49), (1, .ref 46), (2, bI v2), (6, bI v6), (7, bI v7)]) (st' := [.ref 46, .ref 49]) l73_102 (fun _ => rfl) ?_
      refine b_s (pc' := 104) (lv1 := [(0, .ref 49), (1, .ref 46), (2, bI v2), (6, bI v6), (7, bI v7)]) (st' := [bI v2, .ref 46, .ref 49]) l73_103 (fun _ => rfl) ?_
      refine b_cXz l73_104 rfl (b_rc (ci := 6) (by rfl) (by decide) (by decide +kernel)) (Nat.le_of_ble_eq_true rfl) (Nat.le_of_ble_eq_true rfl) rfl (r_X7_readAttribute v2 h2) ⟨fun _ z => (by cases z), (by decide +kernel)⟩ rfl (fun _ _ => hr _) fun w3 μ4 hw3 => bD.ok fun hk5 => b_pc (pc' := 107) rfl ?_
      refine b_w (pc' := 109) (lv1 := ax_st1 [(0, .ref 49), (1, .ref 46), (2, bI v2), (6, bI v6), (7, bI v7)] 6 (bI w3)) (lv' := [(0, .ref 49), (1, .ref 46), (2, bI v2), (6, bI w3), (7, bI v7)]) (st' := []) l73_107 (fun _ => rfl) (bSb rfl (bSb rfl (bSb rfl (bSb rfl (bSb rfl bSn))))) ?_
      refine b_inc (lv' := [(0, .ref 49), (1, .ref 46), (2, bI v2), (6, bI w3), (7, bI (v7 + 1))]) l73_109 rfl (by decide +kernel) (bSb rfl (bSb rfl (bSb rfl (bSb rfl (bSb rfl bSn))))) fun g6 => (b_pc (pc' := 112) rfl ?_)
      refine b_s (pc' := 89) (lv1 := [(0, .ref 49), (1, .ref 46), (2, bI v2), (6, bI w3), (7, bI (v7 + 1))]) (st' := []) l73_112 (fun _ => rfl) ?_
      refine bD.wk (lv' := [(0, .ref 49), (1, .ref 46), (2, bI v2), (6, bI w3), (7, bI (v7 + 1))]) (bSb rfl (bSb rfl (bSb rfl (bSb rfl (bSb rfl bSn))))) ?_
      exact H89 w3 (v7 + 1) μ4 (bZ_R hw3) g6
theorem p_X7_readShape_89 {L : Nat} {xs : Nat → Int32} {d : Nat} {μ : bM}  {κ : ((Int ⊕ String) × bM) → Option bX} (hr : ∀ r : (Int ⊕ String) × bM, κ r = (bXc) r)  {v2 : Int} (h2 : bR v2) {v6 : Int} (h6 : bR v6) {v7 : Int} (h7 : bR v7) : bD L xs (d + 4) 73 89 [(0, .ref 49), (1, .ref 46), (2, bI v2), (6, bI v6), (7, bI v7)] [] μ ((bLoop (fun z => F_X7_readShape_89 v2 z.1 z.2.1 z.2.2) (v6, v7, μ)).bind κ) :=
  b_loop (fun z => [(0, .ref 49), (1, .ref 46), (2, bI v2), (6, bI z.1), (7, bI z.2.1)]) (fun z => z.2.2) (fun z => bR z.1 ∧ bR z.2.1) (fun κ' hκ HH z hz => q_X7_readShape_89 (κ := κ') (fun r => (hκ _).trans (hr r)) (fun a6 a7 am b6 b7 => HH (a6, a7, am) ⟨b6, b7⟩)  h2 hz.1 hz.2) (v6, v7, μ) ⟨h6, h7⟩
theorem p_X7_readShape_75 {L : Nat} {xs : Nat → Int32} {d : Nat} {μ : bM}  {κ : ((Int ⊕ String) × bM) → Option bX} (hr : ∀ r : (Int ⊕ String) × bM, κ r = (bXc) r)  {v2 : Int} (h2 : bR v2) {y1 : Int} (hy1 : bR y1) {y2 : Int} (hy2 : bR y2) : bD L xs (d + 4) 73 75 [(0, .ref 49), (1, .ref 46), (2, bI v2)] [bI y2, bI y1, .ref 51] μ ((F_X7_readShape_75 v2 y1 y2 μ).bind κ) := by
  unfold F_X7_readShape_75
  refine bD.ok fun hk => ?_
  refine b_g fun g5 => ?_
  refine b_g fun g4 => ?_
  refine b_zas l73_75 (by rfl) g5 g4 (bD.ok fun hk1 => b_pc (pc' := 76) rfl ?_)
  refine b_s (pc' := 77) (lv1 := [(0, .ref 49), (1, .ref 46), (2, bI v2)]) (st' := [.ref 49]) l73_76 (fun _ => rfl) ?_
  refine b_gp (q' := 52) (j := 3) l73_77 (by rfl) (by decide) (by decide) rfl hk1 rfl rfl (b_pc (pc' := 80) rfl ?_)
  refine b_s (pc' := 81) (lv1 := [(0, .ref 49), (1, .ref 46), (2, bI v2)]) (st' := [bI v2, .ref 52]) l73_80 (fun _ => rfl) ?_
  refine b_s (pc' := 82) (lv1 := [(0, .ref 49), (1, .ref 46), (2, bI v2)]) (st' := [bI 0, bI v2, .ref 52]) l73_81 (fun _ => rfl) ?_
  refine b_g fun g3 => ?_
  refine b_ias l73_82 (by rfl) g3 (by decide) (bD.ok fun hk2 => b_pc (pc' := 83) rfl ?_)
  refine b_s (pc' := 84) (lv1 := [(0, .ref 49), (1, .ref 46), (2, bI v2)]) (st' := [bI 1]) l73_83 (fun _ => rfl) ?_
  refine b_w (pc' := 86) (lv1 := ax_st1 [(0, .ref 49), (1, .ref 46), (2, bI v2)] 6 (bI 1)) (lv' := [(0, .ref 49), (1, .ref 46), (2, bI v2), (6, bI 1)]) (st' := []) l73_84 (fun _ => rfl) (bSb rfl (bSb rfl (bSb rfl (bSb rfl bSn)))) ?_
  refine b_s (pc' := 87) (lv1 := [(0, .ref 49), (1, .ref 46), (2, bI v2), (6, bI 1)]) (st' := [bI 0]) l73_86 (fun _ => rfl) ?_
  refine b_w (pc' := 89) (lv1 := ax_st1 [(0, .ref 49), (1, .ref 46), (2, bI v2), (6, bI 1)] 7 (bI 0)) (lv' := [(0, .ref 49), (1, .ref 46), (2, bI v2), (6, bI 1), (7, bI 0)]) (st' := []) l73_87 (fun _ => rfl) (bSb rfl (bSb rfl (bSb rfl (bSb rfl (bSb rfl bSn))))) ?_
  refine bD.wk (lv' := [(0, .ref 49), (1, .ref 46), (2, bI v2), (6, bI 1), (7, bI 0)]) (bSb rfl (bSb rfl (bSb rfl (bSb rfl (bSb rfl bSn))))) ?_
  exact p_X7_readShape_89 hr h2 (by decide) (by decide)
theorem p_X7_readShape_58 {L : Nat} {xs : Nat → Int32} {d : Nat} {μ : bM}  {κ : ((Int ⊕ String) × bM) → Option bX} (hr : ∀ r : (Int ⊕ String) × bM, κ r = (bXc) r)  {v2 : Int} (h2 : bR v2) {v4 : Int} (h4 : bRL v4) : bD L xs (d + 4) 73 58 [(0, .ref 49), (1, .ref 46), (2, bI v2), (4, bLg v4)] [] μ ((F_X7_readShape_58 v2 v4 μ).bind κ) := by
  unfold F_X7_readShape_58
  refine bD.ok fun hk => ?_
  refine b_s (pc' := 59) (lv1 := [(0, .ref 49), (1, .ref 46), (2, bI v2), (4, bLg v4)]) (st' := [.ref 49]) l73_58 (fun _ => rfl) ?_
  refine b_gp (q' := 51) (j := 2) l73_59 (by rfl) (by decide) (by decide) rfl hk rfl rfl (b_pc (pc' := 62) rfl ?_)
  refine b_s (pc' := 63) (lv1 := [(0, .ref 49), (1, .ref 46), (2, bI v2), (4, bLg v4)]) (st' := [bI v2, .ref 51]) l73_62 (fun _ => rfl) ?_
  refine b_s (pc' := 65) (lv1 := [(0, .ref 49), (1, .ref 46), (2, bI v2), (4, bLg v4)]) (st' := [bLg v4, bI v2, .ref 51]) l73_63 (fun _ => rfl) ?_
  refine b_lconst (e := 1) l73_65 (by decide) (b_pc (pc' := 66) rfl ?_)
  refine b_lcmp l73_66 h4 (by decide) (b_pc (pc' := 67) rfl ?_)
  refine b_zne (pt := 74) l73_67 (bCmp_R _ _) (by decide) rfl (fun c1 => ?_) (fun c1 => b_pc (pc' := 70) rfl ?_)
  · refine b_s (pc' := 75) (lv1 := [(0, .ref 49), (1, .ref 46), (2, bI v2), (4, bLg v4)]) (st' := [bI 0, bI v2, .ref 51]) l73_74 (fun _ => rfl) ?_
    refine bD.wk (lv' := [(0, .ref 49), (1, .ref 46), (2, bI v2)]) (bSb rfl (bSb rfl (bSb rfl bSn))) ?_
    exact p_X7_readShape_75 hr h2 h2 (by decide)
  · refine b_s (pc' := 71) (lv1 := [(0, .ref 49), (1, .ref 46), (2, bI v2), (4, bLg v4)]) (st' := [bI 1, bI v2, .ref 51]) l73_70 (fun _ => rfl) ?_
    refine b_s (pc' := 75) (lv1 := [(0, .ref 49), (1, .ref 46), (2, bI v2), (4, bLg v4)]) (st' := [bI 1, bI v2, .ref 51]) l73_71 (fun _ => rfl) ?_
    refine bD.wk (lv' := [(0, .ref 49), (1, .ref 46), (2, bI v2)]) (bSb rfl (bSb rfl (bSb rfl bSn))) ?_
    exact p_X7_readShape_75 hr h2 h2 (by decide)
theorem p_X7_readShape_33 {L : Nat} {xs : Nat → Int32} {d : Nat} {μ : bM}  {κ : ((Int ⊕ String) × bM) → Option bX} (hr : ∀ r : (Int ⊕ String) × bM, κ r = (bXc) r)  {v2 : Int} (h2 : bR v2) : bD L xs (d + 4) 73 33 [(0, .ref 49), (1, .ref 46), (2, bI v2)] [] μ ((F_X7_readShape_33 v2 μ).bind κ) := by
  unfold F_X7_readShape_33
  refine bD.ok fun hk => ?_
  refine b_s (pc' := 34) (lv1 := [(0, .ref 49), (1, .ref 46), (2, bI v2)]) (st' := [.ref 46]) l73_33 (fun _ => rfl) ?_
  refine b_gi l73_34 (by rfl) (by decide) (by decide) rfl (b_pc (pc' := 37) rfl ?_)
  refine b_w (pc' := 38) (lv1 := ax_st1 [(0, .ref 49), (1, .ref 46), (2, bI v2)] 3 (bI (μ 46 0))) (lv' := [(0, .ref 49), (1, .ref 46), (2, bI v2), (3, bI (μ 46 0))]) (st' := []) l73_37 (fun _ => rfl) (bSb rfl (bSb rfl (bSb rfl (bSb rfl bSn)))) ?_
  refine b_s (pc' := 39) (lv1 := [(0, .ref 49), (1, .ref 46), (2, bI v2), (3, bI (μ 46 0))]) (st' := [.ref 46]) l73_38 (fun _ => rfl) ?_
  refine b_s (pc' := 40) (lv1 := [(0, .ref 49), (1, .ref 46), (2, bI v2), (3, bI (μ 46 0))]) (st' := [bI 1, .ref 46]) l73_39 (fun _ => rfl) ?_
  refine b_cXl l73_40 rfl (b_rc (ci := 1) (by rfl) (by decide) (by decide +kernel)) (Nat.le_of_ble_eq_true rfl) (Nat.le_of_ble_eq_true rfl) rfl (r_X1_lowFirst 1 (by decide)) ⟨fun _ z => (by cases z), (by decide +kernel)⟩ rfl (fun _ _ => hr _) fun w1 μ2 hw1 => bD.ok fun hk3 => b_pc (pc' := 43) rfl ?_
  refine b_w (pc' := 45) (lv1 := ax_st2 [(0, .ref 49), (1, .ref 46), (2, bI v2), (3, bI (μ 46 0))] 4 (bLg w1)) (lv' := [(0, .ref 49), (1, .ref 46), (2, bI v2), (3, bI (μ 46 0)), (4, bLg w1)]) (st' := []) l73_43 (fun _ => rfl) (bSb rfl (bSb rfl (bSb rfl (bSb rfl (bSb rfl bSn))))) ?_
  refine b_s (pc' := 47) (lv1 := [(0, .ref 49), (1, .ref 46), (2, bI v2), (3, bI (μ 46 0)), (4, bLg w1)]) (st' := [bLg w1]) l73_45 (fun _ => rfl) ?_
  refine b_lconst (e := 1) l73_47 (by decide) (b_pc (pc' := 48) rfl ?_)
  refine b_lcmp l73_48 hw1 (by decide) (b_pc (pc' := 49) rfl ?_)
  refine b_zle (pt := 58) l73_49 (bCmp_R _ _) (by decide) rfl (fun c4 => ?_) (fun c4 => b_pc (pc' := 52) rfl ?_)
  · refine bD.wk (lv' := [(0, .ref 49), (1, .ref 46), (2, bI v2), (4, bLg w1)]) (bSb rfl (bSb rfl (bSb rfl (bSb rfl bSn)))) ?_
    exact p_X7_readShape_58 hr h2 hw1
  · refine b_s (pc' := 53) (lv1 := [(0, .ref 49), (1, .ref 46), (2, bI v2), (3, bI (μ 46 0)), (4, bLg w1)]) (st' := [.ref 46]) l73_52 (fun _ => rfl) ?_
    refine b_s (pc' := 54) (lv1 := [(0, .ref 49), (1, .ref 46), (2, bI v2), (3, bI (μ 46 0)), (4, bLg w1)]) (st' := [bI 3, .ref 46]) l73_53 (fun _ => rfl) ?_
    refine b_s (pc' := 55) (lv1 := [(0, .ref 49), (1, .ref 46), (2, bI v2), (3, bI (μ 46 0)), (4, bLg w1)]) (st' := [bI (μ 46 0), bI 3, .ref 46]) l73_54 (fun _ => rfl) ?_
    refine b_cXv l73_55 rfl (b_rc (ci := 1) (by rfl) (by decide) (by decide +kernel)) (Nat.le_of_ble_eq_true rfl) (Nat.le_of_ble_eq_true rfl) rfl (r_X1_refuse 3 (by decide) (μ 46 0) (bO_f hk (ci := 1) (by rfl) rfl)) ⟨fun _ z => (by cases z), (by decide +kernel)⟩ rfl (fun _ _ => hr _) fun w5 μ6 hw5 => bD.ok fun hk7 => b_pc (pc' := 58) rfl ?_
    refine bD.wk (lv' := [(0, .ref 49), (1, .ref 46), (2, bI v2), (4, bLg w1)]) (bSb rfl (bSb rfl (bSb rfl (bSb rfl bSn)))) ?_
    exact p_X7_readShape_58 hr h2 hw1
theorem r_X7_readShape {L : Nat} {xs : Nat → Int32} {d : Nat} {μ : bM}  (v2 : Int) (h2 : bR v2) : bD L xs (d + 4) 73 0 [(0, .ref 49), (1, .ref 46), (2, bI v2)] [] μ ((F_X7_readShape v2 μ).bind (bXc)) := by
  have hr : ∀ r, (bXc) r = (bXc) r := fun _ => rfl
  unfold F_X7_readShape
  refine bD.ok fun hk => ?_
  refine b_s (pc' := 1) (lv1 := [(0, .ref 49), (1, .ref 46), (2, bI v2)]) (st' := [.ref 46]) l73_0 (fun _ => rfl) ?_
  refine b_gi l73_1 (by rfl) (by decide) (by decide) rfl (b_pc (pc' := 4) rfl ?_)
  refine b_w (pc' := 5) (lv1 := ax_st1 [(0, .ref 49), (1, .ref 46), (2, bI v2)] 3 (bI (μ 46 0))) (lv' := [(0, .ref 49), (1, .ref 46), (2, bI v2), (3, bI (μ 46 0))]) (st' := []) l73_4 (fun _ => rfl) (bSb rfl (bSb rfl (bSb rfl (bSb rfl bSn)))) ?_
  refine b_s (pc' := 6) (lv1 := [(0, .ref 49), (1, .ref 46), (2, bI v2), (3, bI (μ 46 0))]) (st' := [.ref 49]) l73_5 (fun _ => rfl) ?_
  refine b_gp (q' := 50) (j := 1) l73_6 (by rfl) (by decide) (by decide) rfl hk rfl rfl (b_pc (pc' := 9) rfl ?_)
  refine b_s (pc' := 10) (lv1 := [(0, .ref 49), (1, .ref 46), (2, bI v2), (3, bI (μ 46 0))]) (st' := [bI v2, .ref 50]) l73_9 (fun _ => rfl) ?_
  refine b_s (pc' := 11) (lv1 := [(0, .ref 49), (1, .ref 46), (2, bI v2), (3, bI (μ 46 0))]) (st' := [.ref 46, bI v2, .ref 50]) l73_10 (fun _ => rfl) ?_
  refine b_cXi l73_11 rfl (b_rc (ci := 1) (by rfl) (by decide) (by decide +kernel)) (Nat.le_of_ble_eq_true rfl) (Nat.le_of_ble_eq_true rfl) rfl (r_X1_smallRow ) ⟨fun _ z => (by cases z), (by decide +kernel)⟩ rfl (fun _ _ => hr _) fun w1 μ2 hw1 => bD.ok fun hk3 => b_pc (pc' := 14) rfl ?_
  refine b_g fun g11 => ?_
  refine b_ias l73_14 (by rfl) g11 hw1 (bD.ok fun hk4 => b_pc (pc' := 15) rfl ?_)
  refine b_s (pc' := 16) (lv1 := [(0, .ref 49), (1, .ref 46), (2, bI v2), (3, bI (μ 46 0))]) (st' := [.ref 49]) l73_15 (fun _ => rfl) ?_
  refine b_gp (q' := 50) (j := 1) l73_16 (by rfl) (by decide) (by decide) rfl hk4 rfl rfl (b_pc (pc' := 19) rfl ?_)
  refine b_s (pc' := 20) (lv1 := [(0, .ref 49), (1, .ref 46), (2, bI v2), (3, bI (μ 46 0))]) (st' := [bI v2, .ref 50]) l73_19 (fun _ => rfl) ?_
  refine b_g fun g10 => ?_
  refine b_ial l73_20 (by rfl) g10 (b_pc (pc' := 21) rfl ?_)
  refine b_cPz l73_21 rfl (fun _ => trivial) (Nat.le_of_ble_eq_true rfl) (Nat.le_of_ble_eq_true rfl) rfl (r_X10_isCode ((bset μ2 50 v2.toNat w1) 50 v2.toNat) (bO_i hk4 (by rfl))) fun w5 hw5 => b_pc (pc' := 24) rfl ?_
  refine b_zne (pt := 33) l73_24 (bZ_R hw5) (by decide) rfl (fun c6 => ?_) (fun c6 => b_pc (pc' := 27) rfl ?_)
  · refine bD.wk (lv' := [(0, .ref 49), (1, .ref 46), (2, bI v2)]) (bSb rfl (bSb rfl (bSb rfl bSn))) ?_
    exact p_X7_readShape_33 hr h2
  · refine b_s (pc' := 28) (lv1 := [(0, .ref 49), (1, .ref 46), (2, bI v2), (3, bI (μ 46 0))]) (st' := [.ref 46]) l73_27 (fun _ => rfl) ?_
    refine b_s (pc' := 29) (lv1 := [(0, .ref 49), (1, .ref 46), (2, bI v2), (3, bI (μ 46 0))]) (st' := [bI 3, .ref 46]) l73_28 (fun _ => rfl) ?_
    refine b_s (pc' := 30) (lv1 := [(0, .ref 49), (1, .ref 46), (2, bI v2), (3, bI (μ 46 0))]) (st' := [bI (μ 46 0), bI 3, .ref 46]) l73_29 (fun _ => rfl) ?_
    refine b_cXv l73_30 rfl (b_rc (ci := 1) (by rfl) (by decide) (by decide +kernel)) (Nat.le_of_ble_eq_true rfl) (Nat.le_of_ble_eq_true rfl) rfl (r_X1_refuse 3 (by decide) (μ 46 0) (bO_f hk (ci := 1) (by rfl) rfl)) ⟨fun _ z => (by cases z), (by decide +kernel)⟩ rfl (fun _ _ => hr _) fun w7 μ8 hw7 => bD.ok fun hk9 => b_pc (pc' := 33) rfl ?_
    refine bD.wk (lv' := [(0, .ref 49), (1, .ref 46), (2, bI v2)]) (bSb rfl (bSb rfl (bSb rfl bSn))) ?_
    exact p_X7_readShape_33 hr h2
/-! ET$Table.readFrom -/
theorem l72_0 : (ax_dt (ax_T 72)).lookup 0 = some (.aload_n 0, 1, 0, 0, 0) := by decide +kernel
theorem l72_1 : (ax_dt (ax_T 72)).lookup 1 = some (.iconst 0, 1, 0, 0, 0) := by decide +kernel
theorem l72_2 : (ax_dt (ax_T 72)).lookup 2 = some (.putfield 44, 3, 6, 5, 0) := by decide +kernel
theorem l72_5 : (ax_dt (ax_T 72)).lookup 5 = some (.aload_n 0, 1, 0, 0, 0) := by decide +kernel
theorem l72_6 : (ax_dt (ax_T 72)).lookup 6 = some (.getfield 36, 3, 6, 7, 0) := by decide +kernel
theorem l72_9 : (ax_dt (ax_T 72)).lookup 9 = some (.invokevirtual 51, 3, 1, 0, 0) := by decide +kernel
theorem l72_12 : (ax_dt (ax_T 72)).lookup 12 = some (.iconst 0, 1, 0, 0, 0) := by decide +kernel
theorem l72_13 : (ax_dt (ax_T 72)).lookup 13 = some (.istore_n 2, 1, 0, 0, 0) := by decide +kernel
theorem l72_14 : (ax_dt (ax_T 72)).lookup 14 = some (.iload_n 2, 1, 0, 0, 0) := by decide +kernel
theorem l72_15 : (ax_dt (ax_T 72)).lookup 15 = some (.sipush 200, 3, 0, 0, 0) := by decide +kernel
theorem l72_18 : (ax_dt (ax_T 72)).lookup 18 = some (.if_icmp .gt 83, 3, 0, 0, 0) := by decide +kernel
theorem l72_21 : (ax_dt (ax_T 72)).lookup 21 = some (.aload_n 1, 1, 0, 0, 0) := by decide +kernel
theorem l72_22 : (ax_dt (ax_T 72)).lookup 22 = some (.getfield 54, 3, 1, 0, 0) := by decide +kernel
theorem l72_25 : (ax_dt (ax_T 72)).lookup 25 = some (.istore_n 3, 1, 0, 0, 0) := by decide +kernel
theorem l72_26 : (ax_dt (ax_T 72)).lookup 26 = some (.aload_n 1, 1, 0, 0, 0) := by decide +kernel
theorem l72_27 : (ax_dt (ax_T 72)).lookup 27 = some (.invokevirtual 59, 3, 12, 0, 0) := by decide +kernel
theorem l72_30 : (ax_dt (ax_T 72)).lookup 30 = some (.istore 4, 2, 0, 0, 0) := by decide +kernel
theorem l72_32 : (ax_dt (ax_T 72)).lookup 32 = some (.iload 4, 2, 0, 0, 0) := by decide +kernel
theorem l72_34 : (ax_dt (ax_T 72)).lookup 34 = some (.ifCond .ne 4, 3, 0, 0, 0) := by decide +kernel
theorem l72_37 : (ax_dt (ax_T 72)).lookup 37 = some (.return_, 1, 0, 0, 0) := by decide +kernel
theorem l72_38 : (ax_dt (ax_T 72)).lookup 38 = some (.iload_n 2, 1, 0, 0, 0) := by decide +kernel
theorem l72_39 : (ax_dt (ax_T 72)).lookup 39 = some (.sipush 200, 3, 0, 0, 0) := by decide +kernel
theorem l72_42 : (ax_dt (ax_T 72)).lookup 42 = some (.if_icmp .eq 13, 3, 0, 0, 0) := by decide +kernel
theorem l72_45 : (ax_dt (ax_T 72)).lookup 45 = some (.aload_n 0, 1, 0, 0, 0) := by decide +kernel
theorem l72_46 : (ax_dt (ax_T 72)).lookup 46 = some (.iload 4, 2, 0, 0, 0) := by decide +kernel
theorem l72_48 : (ax_dt (ax_T 72)).lookup 48 = some (.invokevirtual 63, 3, 71, 1, 0) := by decide +kernel
theorem l72_51 : (ax_dt (ax_T 72)).lookup 51 = some (.iconst (-1), 1, 0, 0, 0) := by decide +kernel
theorem l72_52 : (ax_dt (ax_T 72)).lookup 52 = some (.if_icmp .eq 9, 3, 0, 0, 0) := by decide +kernel
theorem l72_55 : (ax_dt (ax_T 72)).lookup 55 = some (.aload_n 1, 1, 0, 0, 0) := by decide +kernel
theorem l72_56 : (ax_dt (ax_T 72)).lookup 56 = some (.iconst 3, 1, 0, 0, 0) := by decide +kernel
theorem l72_57 : (ax_dt (ax_T 72)).lookup 57 = some (.iload_n 3, 1, 0, 0, 0) := by decide +kernel
theorem l72_58 : (ax_dt (ax_T 72)).lookup 58 = some (.invokevirtual 66, 3, 9, 2, 0) := by decide +kernel
theorem l72_61 : (ax_dt (ax_T 72)).lookup 61 = some (.aload_n 0, 1, 0, 0, 0) := by decide +kernel
theorem l72_62 : (ax_dt (ax_T 72)).lookup 62 = some (.aload_n 1, 1, 0, 0, 0) := by decide +kernel
theorem l72_63 : (ax_dt (ax_T 72)).lookup 63 = some (.iload_n 2, 1, 0, 0, 0) := by decide +kernel
theorem l72_64 : (ax_dt (ax_T 72)).lookup 64 = some (.invokevirtual 70, 3, 73, 2, 0) := by decide +kernel
theorem l72_67 : (ax_dt (ax_T 72)).lookup 67 = some (.aload_n 0, 1, 0, 0, 0) := by decide +kernel
theorem l72_68 : (ax_dt (ax_T 72)).lookup 68 = some (.getfield 28, 3, 6, 6, 0) := by decide +kernel
theorem l72_71 : (ax_dt (ax_T 72)).lookup 71 = some (.iload_n 2, 1, 0, 0, 0) := by decide +kernel
theorem l72_72 : (ax_dt (ax_T 72)).lookup 72 = some (.iload 4, 2, 0, 0, 0) := by decide +kernel
theorem l72_74 : (ax_dt (ax_T 72)).lookup 74 = some (.iastore, 1, 0, 0, 0) := by decide +kernel
theorem l72_75 : (ax_dt (ax_T 72)).lookup 75 = some (.aload_n 0, 1, 0, 0, 0) := by decide +kernel
theorem l72_76 : (ax_dt (ax_T 72)).lookup 76 = some (.getfield 36, 3, 6, 7, 0) := by decide +kernel
theorem l72_79 : (ax_dt (ax_T 72)).lookup 79 = some (.iload 4, 2, 0, 0, 0) := by decide +kernel
theorem l72_81 : (ax_dt (ax_T 72)).lookup 81 = some (.iload_n 2, 1, 0, 0, 0) := by decide +kernel
theorem l72_82 : (ax_dt (ax_T 72)).lookup 82 = some (.invokevirtual 74, 3, 4, 2, 0) := by decide +kernel
theorem l72_85 : (ax_dt (ax_T 72)).lookup 85 = some (.aload_n 0, 1, 0, 0, 0) := by decide +kernel
theorem l72_86 : (ax_dt (ax_T 72)).lookup 86 = some (.dup, 1, 0, 0, 0) := by decide +kernel
theorem l72_87 : (ax_dt (ax_T 72)).lookup 87 = some (.getfield 44, 3, 6, 5, 0) := by decide +kernel
theorem l72_90 : (ax_dt (ax_T 72)).lookup 90 = some (.iconst 1, 1, 0, 0, 0) := by decide +kernel
theorem l72_91 : (ax_dt (ax_T 72)).lookup 91 = some (.iadd, 1, 0, 0, 0) := by decide +kernel
theorem l72_92 : (ax_dt (ax_T 72)).lookup 92 = some (.putfield 44, 3, 6, 5, 0) := by decide +kernel
theorem l72_95 : (ax_dt (ax_T 72)).lookup 95 = some (.iinc 2 1, 3, 0, 0, 0) := by decide +kernel
theorem l72_98 : (ax_dt (ax_T 72)).lookup 98 = some (.goto (-84), 3, 0, 0, 0) := by decide +kernel
theorem l72_101 : (ax_dt (ax_T 72)).lookup 101 = some (.return_, 1, 0, 0, 0) := by decide +kernel
noncomputable def F_X7_readFrom_61 (v2 : Int) (v4 : Int) (μ : bM) : Option ((Int × bM) ⊕ ((Int ⊕ String) × bM)) := bXm (F_X7_readShape v2 μ) (fun w1 μ2 => bG (0 ≤ v2 ∧ v2 < 200) (bMm (F_X0_add 56 v4 v2 (bset μ2 55 v2.toNat v4)) (fun w5 μ6 => bG (bR ((μ6 49 5) + 1)) (bG (bR (v2 + 1)) (some (.inl ((v2 + 1), (bset μ6 49 5 ((μ6 49 5) + 1))))))))) (fun e μ => some (.inr (.inr e, μ)))
noncomputable def F_X7_readFrom_55 (v2 : Int) (v3 : Int) (v4 : Int) (μ : bM) : Option ((Int × bM) ⊕ ((Int ⊕ String) × bM)) := bXm (F_X1_refuse 3 v3 μ) (fun w1 μ2 => F_X7_readFrom_61 v2 v4 μ2) (fun e μ => some (.inr (.inr e, μ)))
noncomputable def F_X7_readFrom_14 (v2 : Int) (μ : bM) : Option ((Int × bM) ⊕ ((Int ⊕ String) × bM)) := if 200 < v2 then some (.inr (.inl 0, μ)) else bXm (F_X1_smallRow μ) (fun w2 μ3 => if ¬ w2 = 0 then if v2 = 200 then F_X7_readFrom_55 v2 (μ 46 0) w2 μ3 else (F_X7_indexOf w2 μ3).bind fun w7 => if w7 = (-1) then F_X7_readFrom_61 v2 w2 μ3 else F_X7_readFrom_55 v2 (μ 46 0) w2 μ3 else some (.inr (.inl 0, μ3))) (fun e μ => some (.inr (.inr e, μ)))
noncomputable def F_X7_readFrom (μ : bM) : Option ((Int ⊕ String) × bM) := bMm (F_X0_forget 56 (bset μ 49 5 0)) (fun w2 μ3 => bLoop (fun z => F_X7_readFrom_14 z.1 z.2) (0, μ3))
theorem p_X7_readFrom_61 {L : Nat} {xs : Nat → Int32} {d : Nat} {μ : bM}  {κ : ((Int × bM) ⊕ ((Int ⊕ String) × bM)) → Option bX} (hr : ∀ r : (Int ⊕ String) × bM, κ (.inr r) = (bXc) r) (H14 : ∀ (v2 : Int) (μ : bM), bR v2 → bD L xs (d + 5) 72 14 [(0, .ref 49), (1, .ref 46), (2, bI v2)] [] μ (κ (.inl (v2, μ))))  {v2 : Int} (h2 : bR v2) {v4 : Int} (h4 : bR v4) : bD L xs (d + 5) 72 61 [(0, .ref 49), (1, .ref 46), (2, bI v2), (4, bI v4)] [] μ ((F_X7_readFrom_61 v2 v4 μ).bind κ) := by
  unfold F_X7_readFrom_61
  refine bD.ok fun hk => ?_
  refine b_s (pc' := 62) (lv1 := [(0, .ref 49), (1, .ref 46), (2, bI v2), (4, bI v4)]) (st' := [.ref 49]) l72_61 (fun _ => rfl) ?_
  refine b_s (pc' := 63) (lv1 := [(0, .ref 49), (1, .ref 46), (2, bI v2), (4, bI v4)]) (st' := [.ref 46, .ref 49]) l72_62 (fun _ => rfl) ?_
  refine b_s (pc' := 64) (lv1 := [(0, .ref 49), (1, .ref 46), (2, bI v2), (4, bI v4)]) (st' := [bI v2, .ref 46, .ref 49]) l72_63 (fun _ => rfl) ?_
  refine b_cXv l72_64 rfl (b_rc (ci := 6) (by rfl) (by decide) (by decide +kernel)) (Nat.le_of_ble_eq_true rfl) (Nat.le_of_ble_eq_true rfl) rfl (r_X7_readShape v2 h2) ⟨fun _ z => (by cases z), (by decide +kernel)⟩ rfl (fun _ _ => hr _) fun w1 μ2 hw1 => bD.ok fun hk3 => b_pc (pc' := 67) rfl ?_
  refine b_s (pc' := 68) (lv1 := [(0, .ref 49), (1, .ref 46), (2, bI v2), (4, bI v4)]) (st' := [.ref 49]) l72_67 (fun _ => rfl) ?_
  refine b_gp (q' := 55) (j := 6) l72_68 (by rfl) (by decide) (by decide) rfl hk3 rfl rfl (b_pc (pc' := 71) rfl ?_)
  refine b_s (pc' := 72) (lv1 := [(0, .ref 49), (1, .ref 46), (2, bI v2), (4, bI v4)]) (st' := [bI v2, .ref 55]) l72_71 (fun _ => rfl) ?_
  refine b_s (pc' := 74) (lv1 := [(0, .ref 49), (1, .ref 46), (2, bI v2), (4, bI v4)]) (st' := [bI v4, bI v2, .ref 55]) l72_72 (fun _ => rfl) ?_
  refine b_g fun g11 => ?_
  refine b_ias l72_74 (by rfl) g11 h4 (bD.ok fun hk4 => b_pc (pc' := 75) rfl ?_)
  refine b_s (pc' := 76) (lv1 := [(0, .ref 49), (1, .ref 46), (2, bI v2), (4, bI v4)]) (st' := [.ref 49]) l72_75 (fun _ => rfl) ?_
  refine b_gp (q' := 56) (j := 7) l72_76 (by rfl) (by decide) (by decide) rfl hk4 rfl rfl (b_pc (pc' := 79) rfl ?_)
  refine b_s (pc' := 81) (lv1 := [(0, .ref 49), (1, .ref 46), (2, bI v2), (4, bI v4)]) (st' := [bI v4, .ref 56]) l72_79 (fun _ => rfl) ?_
  refine b_s (pc' := 82) (lv1 := [(0, .ref 49), (1, .ref 46), (2, bI v2), (4, bI v4)]) (st' := [bI v2, bI v4, .ref 56]) l72_81 (fun _ => rfl) ?_
  refine b_cMv l72_82 rfl (b_rc (ci := 0) (by rfl) (by decide) (by decide +kernel)) (Nat.le_of_ble_eq_true rfl) (Nat.le_of_ble_eq_true rfl) rfl (r_X0_add 56 (by rfl) v4 h4 v2 h2) fun w5 μ6 hw5 => bD.ok fun hk7 => b_pc (pc' := 85) rfl ?_
  refine b_s (pc' := 86) (lv1 := [(0, .ref 49), (1, .ref 46), (2, bI v2), (4, bI v4)]) (st' := [.ref 49]) l72_85 (fun _ => rfl) ?_
  refine b_s (pc' := 87) (lv1 := [(0, .ref 49), (1, .ref 46), (2, bI v2), (4, bI v4)]) (st' := [.ref 49, .ref 49]) l72_86 (fun _ => rfl) ?_
  refine b_gi l72_87 (by rfl) (by decide) (by decide) rfl (b_pc (pc' := 90) rfl ?_)
  refine b_s (pc' := 91) (lv1 := [(0, .ref 49), (1, .ref 46), (2, bI v2), (4, bI v4)]) (st' := [bI 1, bI (μ6 49 5), .ref 49]) l72_90 (fun _ => rfl) ?_
  refine b_iadd l72_91 fun g8 => (b_pc (pc' := 92) rfl ?_)
  refine b_pi l72_92 (by rfl) (by decide) (by decide) rfl rfl g8 (bD.ok fun hk9 => b_pc (pc' := 95) rfl ?_)
  refine b_inc (lv' := [(0, .ref 49), (1, .ref 46), (2, bI (v2 + 1))]) l72_95 rfl (by decide +kernel) (bSb rfl (bSb rfl (bSb rfl bSn))) fun g10 => (b_pc (pc' := 98) rfl ?_)
  refine b_s (pc' := 14) (lv1 := [(0, .ref 49), (1, .ref 46), (2, bI (v2 + 1))]) (st' := []) l72_98 (fun _ => rfl) ?_
  refine bD.wk (lv' := [(0, .ref 49), (1, .ref 46), (2, bI (v2 + 1))]) (bSb rfl (bSb rfl (bSb rfl bSn))) ?_
  exact H14 (v2 + 1) (bset μ6 49 5 ((μ6 49 5) + 1)) g10
theorem p_X7_readFrom_55 {L : Nat} {xs : Nat → Int32} {d : Nat} {μ : bM}  {κ : ((Int × bM) ⊕ ((Int ⊕ String) × bM)) → Option bX} (hr : ∀ r : (Int ⊕ String) × bM, κ (.inr r) = (bXc) r) (H14 : ∀ (v2 : Int) (μ : bM), bR v2 → bD L xs (d + 5) 72 14 [(0, .ref 49), (1, .ref 46), (2, bI v2)] [] μ (κ (.inl (v2, μ))))  {v2 : Int} (h2 : bR v2) {v3 : Int} (h3 : bR v3) {v4 : Int} (h4 : bR v4) : bD L xs (d + 5) 72 55 [(0, .ref 49), (1, .ref 46), (2, bI v2), (3, bI v3), (4, bI v4)] [] μ ((F_X7_readFrom_55 v2 v3 v4 μ).bind κ) := by
  unfold F_X7_readFrom_55
  refine bD.ok fun hk => ?_
  refine b_s (pc' := 56) (lv1 := [(0, .ref 49), (1, .ref 46), (2, bI v2), (3, bI v3), (4, bI v4)]) (st' := [.ref 46]) l72_55 (fun _ => rfl) ?_
  refine b_s (pc' := 57) (lv1 := [(0, .ref 49), (1, .ref 46), (2, bI v2), (3, bI v3), (4, bI v4)]) (st' := [bI 3, .ref 46]) l72_56 (fun _ => rfl) ?_
  refine b_s (pc' := 58) (lv1 := [(0, .ref 49), (1, .ref 46), (2, bI v2), (3, bI v3), (4, bI v4)]) (st' := [bI v3, bI 3, .ref 46]) l72_57 (fun _ => rfl) ?_
  refine b_cXv l72_58 rfl (b_rc (ci := 1) (by rfl) (by decide) (by decide +kernel)) (Nat.le_of_ble_eq_true rfl) (Nat.le_of_ble_eq_true rfl) rfl (r_X1_refuse 3 (by decide) v3 h3) ⟨fun _ z => (by cases z), (by decide +kernel)⟩ rfl (fun _ _ => hr _) fun w1 μ2 hw1 => bD.ok fun hk3 => b_pc (pc' := 61) rfl ?_
  refine bD.wk (lv' := [(0, .ref 49), (1, .ref 46), (2, bI v2), (4, bI v4)]) (bSb rfl (bSb rfl (bSb rfl (bSb rfl bSn)))) ?_
  exact p_X7_readFrom_61 hr H14 h2 h4
theorem q_X7_readFrom_14 {L : Nat} {xs : Nat → Int32} {d : Nat} {μ : bM}  {κ : ((Int × bM) ⊕ ((Int ⊕ String) × bM)) → Option bX} (hr : ∀ r : (Int ⊕ String) × bM, κ (.inr r) = (bXc) r) (H14 : ∀ (v2 : Int) (μ : bM), bR v2 → bD L xs (d + 5) 72 14 [(0, .ref 49), (1, .ref 46), (2, bI v2)] [] μ (κ (.inl (v2, μ))))  {v2 : Int} (h2 : bR v2) : bD L xs (d + 5) 72 14 [(0, .ref 49), (1, .ref 46), (2, bI v2)] [] μ ((F_X7_readFrom_14 v2 μ).bind κ) := by
  unfold F_X7_readFrom_14
  refine bD.ok fun hk => ?_
  refine b_s (pc' := 15) (lv1 := [(0, .ref 49), (1, .ref 46), (2, bI v2)]) (st' := [bI v2]) l72_14 (fun _ => rfl) ?_
  refine b_sipush l72_15 (by decide) (b_pc (pc' := 18) rfl ?_)
  refine b_igt (pt := 101) l72_18 h2 (by decide) (by decide) rfl (fun c1 => ?_) (fun c1 => b_pc (pc' := 21) rfl ?_)
  · exact b_retv l72_101 rfl (hr _)
  · refine b_s (pc' := 22) (lv1 := [(0, .ref 49), (1, .ref 46), (2, bI v2)]) (st' := [.ref 46]) l72_21 (fun _ => rfl) ?_
    refine b_gi l72_22 (by rfl) (by decide) (by decide) rfl (b_pc (pc' := 25) rfl ?_)
    refine b_w (pc' := 26) (lv1 := ax_st1 [(0, .ref 49), (1, .ref 46), (2, bI v2)] 3 (bI (μ 46 0))) (lv' := [(0, .ref 49), (1, .ref 46), (2, bI v2), (3, bI (μ 46 0))]) (st' := []) l72_25 (fun _ => rfl) (bSb rfl (bSb rfl (bSb rfl (bSb rfl bSn)))) ?_
    refine b_s (pc' := 27) (lv1 := [(0, .ref 49), (1, .ref 46), (2, bI v2), (3, bI (μ 46 0))]) (st' := [.ref 46]) l72_26 (fun _ => rfl) ?_
    refine b_cXi l72_27 rfl (b_rc (ci := 1) (by rfl) (by decide) (by decide +kernel)) (Nat.le_of_ble_eq_true rfl) (Nat.le_of_ble_eq_true rfl) rfl (r_X1_smallRow ) ⟨fun _ z => (by cases z), (by decide +kernel)⟩ rfl (fun _ _ => hr _) fun w2 μ3 hw2 => bD.ok fun hk4 => b_pc (pc' := 30) rfl ?_
    refine b_w (pc' := 32) (lv1 := ax_st1 [(0, .ref 49), (1, .ref 46), (2, bI v2), (3, bI (μ 46 0))] 4 (bI w2)) (lv' := [(0, .ref 49), (1, .ref 46), (2, bI v2), (3, bI (μ 46 0)), (4, bI w2)]) (st' := []) l72_30 (fun _ => rfl) (bSb rfl (bSb rfl (bSb rfl (bSb rfl (bSb rfl bSn))))) ?_
    refine b_s (pc' := 34) (lv1 := [(0, .ref 49), (1, .ref 46), (2, bI v2), (3, bI (μ 46 0)), (4, bI w2)]) (st' := [bI w2]) l72_32 (fun _ => rfl) ?_
    refine b_zne (pt := 38) l72_34 hw2 (by decide) rfl (fun c5 => ?_) (fun c5 => b_pc (pc' := 37) rfl ?_)
    · refine b_s (pc' := 39) (lv1 := [(0, .ref 49), (1, .ref 46), (2, bI v2), (3, bI (μ 46 0)), (4, bI w2)]) (st' := [bI v2]) l72_38 (fun _ => rfl) ?_
      refine b_sipush l72_39 (by decide) (b_pc (pc' := 42) rfl ?_)
      refine b_ieq (pt := 55) l72_42 h2 (by decide) (by decide) rfl (fun c6 => ?_) (fun c6 => b_pc (pc' := 45) rfl ?_)
      · refine bD.wk (lv' := [(0, .ref 49), (1, .ref 46), (2, bI v2), (3, bI (μ 46 0)), (4, bI w2)]) (bSb rfl (bSb rfl (bSb rfl (bSb rfl (bSb rfl bSn))))) ?_
        exact p_X7_readFrom_55 hr H14 h2 (bO_f hk (ci := 1) (by rfl) rfl) hw2
      · refine b_s (pc' := 46) (lv1 := [(0, .ref 49), (1, .ref 46), (2, bI v2), (3, bI (μ 46 0)), (4, bI w2)]) (st' := [.ref 49]) l72_45 (fun _ => rfl) ?_
        refine b_s (pc' := 48) (lv1 := [(0, .ref 49), (1, .ref 46), (2, bI v2), (3, bI (μ 46 0)), (4, bI w2)]) (st' := [bI w2, .ref 49]) l72_46 (fun _ => rfl) ?_
        refine b_cPi l72_48 rfl (b_rc (ci := 6) (by rfl) (by decide) (by decide +kernel)) (Nat.le_of_ble_eq_true rfl) (Nat.le_of_ble_eq_true rfl) rfl (r_X7_indexOf w2 hw2) fun w7 hw7 => b_pc (pc' := 51) rfl ?_
        refine b_s (pc' := 52) (lv1 := [(0, .ref 49), (1, .ref 46), (2, bI v2), (3, bI (μ 46 0)), (4, bI w2)]) (st' := [bI (-1), bI w7]) l72_51 (fun _ => rfl) ?_
        refine b_ieq (pt := 61) l72_52 hw7 (by decide) (by decide) rfl (fun c8 => ?_) (fun c8 => b_pc (pc' := 55) rfl ?_)
        · refine bD.wk (lv' := [(0, .ref 49), (1, .ref 46), (2, bI v2), (4, bI w2)]) (bSb rfl (bSb rfl (bSb rfl (bSb rfl bSn)))) ?_
          exact p_X7_readFrom_61 hr H14 h2 hw2
        · refine bD.wk (lv' := [(0, .ref 49), (1, .ref 46), (2, bI v2), (3, bI (μ 46 0)), (4, bI w2)]) (bSb rfl (bSb rfl (bSb rfl (bSb rfl (bSb rfl bSn))))) ?_
          exact p_X7_readFrom_55 hr H14 h2 (bO_f hk (ci := 1) (by rfl) rfl) hw2
    · exact b_retv l72_37 rfl (hr _)
theorem p_X7_readFrom_14 {L : Nat} {xs : Nat → Int32} {d : Nat} {μ : bM}  {κ : ((Int ⊕ String) × bM) → Option bX} (hr : ∀ r : (Int ⊕ String) × bM, κ r = (bXc) r)  {v2 : Int} (h2 : bR v2) : bD L xs (d + 5) 72 14 [(0, .ref 49), (1, .ref 46), (2, bI v2)] [] μ ((bLoop (fun z => F_X7_readFrom_14 z.1 z.2) (v2, μ)).bind κ) :=
  b_loop (fun z => [(0, .ref 49), (1, .ref 46), (2, bI z.1)]) (fun z => z.2) (fun z => bR z.1) (fun κ' hκ HH z hz => q_X7_readFrom_14 (κ := κ') (fun r => (hκ _).trans (hr r)) (fun a2 am b2 => HH (a2, am) b2)  hz) (v2, μ) h2
theorem r_X7_readFrom {L : Nat} {xs : Nat → Int32} {d : Nat} {μ : bM}   : bD L xs (d + 5) 72 0 [(0, .ref 49), (1, .ref 46)] [] μ ((F_X7_readFrom μ).bind (bXc)) := by
  have hr : ∀ r, (bXc) r = (bXc) r := fun _ => rfl
  unfold F_X7_readFrom
  refine bD.ok fun hk => ?_
  refine b_s (pc' := 1) (lv1 := [(0, .ref 49), (1, .ref 46)]) (st' := [.ref 49]) l72_0 (fun _ => rfl) ?_
  refine b_s (pc' := 2) (lv1 := [(0, .ref 49), (1, .ref 46)]) (st' := [bI 0, .ref 49]) l72_1 (fun _ => rfl) ?_
  refine b_pi l72_2 (by rfl) (by decide) (by decide) rfl rfl (by decide) (bD.ok fun hk1 => b_pc (pc' := 5) rfl ?_)
  refine b_s (pc' := 6) (lv1 := [(0, .ref 49), (1, .ref 46)]) (st' := [.ref 49]) l72_5 (fun _ => rfl) ?_
  refine b_gp (q' := 56) (j := 7) l72_6 (by rfl) (by decide) (by decide) rfl hk1 rfl rfl (b_pc (pc' := 9) rfl ?_)
  refine b_cMv l72_9 rfl (b_rc (ci := 0) (by rfl) (by decide) (by decide +kernel)) (Nat.le_of_ble_eq_true rfl) (Nat.le_of_ble_eq_true rfl) rfl (r_X0_forget 56 (by rfl)) fun w2 μ3 hw2 => bD.ok fun hk4 => b_pc (pc' := 12) rfl ?_
  refine b_s (pc' := 13) (lv1 := [(0, .ref 49), (1, .ref 46)]) (st' := [bI 0]) l72_12 (fun _ => rfl) ?_
  refine b_w (pc' := 14) (lv1 := ax_st1 [(0, .ref 49), (1, .ref 46)] 2 (bI 0)) (lv' := [(0, .ref 49), (1, .ref 46), (2, bI 0)]) (st' := []) l72_13 (fun _ => rfl) (bSb rfl (bSb rfl (bSb rfl bSn))) ?_
  refine bD.wk (lv' := [(0, .ref 49), (1, .ref 46), (2, bI 0)]) (bSb rfl (bSb rfl (bSb rfl bSn))) ?_
  exact p_X7_readFrom_14 hr (by decide)
/-! ET.isBelow -/
theorem l129_0 : (ax_dt (ax_T 129)).lookup 0 = some (.lload_n 0, 1, 0, 0, 0) := by decide +kernel
theorem l129_1 : (ax_dt (ax_T 129)).lookup 1 = some (.ldc2_w 347, 3, 0, 0, (-9223372036854775808)) := by decide +kernel
theorem l129_4 : (ax_dt (ax_T 129)).lookup 4 = some (.lxor, 1, 0, 0, 0) := by decide +kernel
theorem l129_5 : (ax_dt (ax_T 129)).lookup 5 = some (.lload_n 2, 1, 0, 0, 0) := by decide +kernel
theorem l129_6 : (ax_dt (ax_T 129)).lookup 6 = some (.ldc2_w 347, 3, 0, 0, (-9223372036854775808)) := by decide +kernel
theorem l129_9 : (ax_dt (ax_T 129)).lookup 9 = some (.lxor, 1, 0, 0, 0) := by decide +kernel
theorem l129_10 : (ax_dt (ax_T 129)).lookup 10 = some (.lcmp, 1, 0, 0, 0) := by decide +kernel
theorem l129_11 : (ax_dt (ax_T 129)).lookup 11 = some (.ifCond .ge 7, 3, 0, 0, 0) := by decide +kernel
theorem l129_14 : (ax_dt (ax_T 129)).lookup 14 = some (.iconst 1, 1, 0, 0, 0) := by decide +kernel
theorem l129_15 : (ax_dt (ax_T 129)).lookup 15 = some (.goto 4, 3, 0, 0, 0) := by decide +kernel
theorem l129_18 : (ax_dt (ax_T 129)).lookup 18 = some (.iconst 0, 1, 0, 0, 0) := by decide +kernel
theorem l129_19 : (ax_dt (ax_T 129)).lookup 19 = some (.ireturn, 1, 0, 0, 0) := by decide +kernel
noncomputable def F_X10_isBelow (v0 : Int) (v2 : Int) (μ : bM) : Option (Int) := if 0 ≤ (bCmp (bXorL v0 (-9223372036854775808)) (bXorL v2 (-9223372036854775808))) then some (0) else some (1)
theorem r_X10_isBelow {L : Nat} {xs : Nat → Int32} {d : Nat} {μ : bM}  (v0 : Int) (h0 : bRL v0) (v2 : Int) (h2 : bRL v2) : bD L xs (d + 0) 129 0 [(0, bLg v0), (2, bLg v2)] [] μ ((F_X10_isBelow v0 v2 μ).bind (bPc μ)) := by
  have hr : ∀ r, (bPc μ) r = (bPc μ) r := fun _ => rfl
  unfold F_X10_isBelow
  refine bD.ok fun hk => ?_
  refine b_s (pc' := 1) (lv1 := [(0, bLg v0), (2, bLg v2)]) (st' := [bLg v0]) l129_0 (fun _ => rfl) ?_
  refine b_s (pc' := 4) (lv1 := [(0, bLg v0), (2, bLg v2)]) (st' := [bLg (-9223372036854775808), bLg v0]) l129_1 (fun _ => rfl) ?_
  refine b_lxor l129_4 (b_pc (pc' := 5) rfl ?_)
  refine b_s (pc' := 6) (lv1 := [(0, bLg v0), (2, bLg v2)]) (st' := [bLg v2, bLg (bXorL v0 (-9223372036854775808))]) l129_5 (fun _ => rfl) ?_
  refine b_s (pc' := 9) (lv1 := [(0, bLg v0), (2, bLg v2)]) (st' := [bLg (-9223372036854775808), bLg v2, bLg (bXorL v0 (-9223372036854775808))]) l129_6 (fun _ => rfl) ?_
  refine b_lxor l129_9 (b_pc (pc' := 10) rfl ?_)
  refine b_lcmp l129_10 (bl_rg _) (bl_rg _) (b_pc (pc' := 11) rfl ?_)
  refine b_zge (pt := 18) l129_11 (bCmp_R _ _) (by decide) rfl (fun c1 => ?_) (fun c1 => b_pc (pc' := 14) rfl ?_)
  · refine b_s (pc' := 19) (lv1 := [(0, bLg v0), (2, bLg v2)]) (st' := [bI 0]) l129_18 (fun _ => rfl) ?_
    exact b_retz l129_19 rfl (by decide) (hr _)
  · refine b_s (pc' := 15) (lv1 := [(0, bLg v0), (2, bLg v2)]) (st' := [bI 1]) l129_14 (fun _ => rfl) ?_
    refine b_s (pc' := 19) (lv1 := [(0, bLg v0), (2, bLg v2)]) (st' := [bI 1]) l129_15 (fun _ => rfl) ?_
    exact b_retz l129_19 rfl (by decide) (hr _)
end
