section
/-! ET$Tree.slotAt -/
theorem l77_0 : (ax_dt (ax_T 77)).lookup 0 = some (.iload_n 0, 1, 0, 0, 0) := by decide +kernel
theorem l77_1 : (ax_dt (ax_T 77)).lookup 1 = some (.bipush 8, 2, 0, 0, 0) := by decide +kernel
theorem l77_3 : (ax_dt (ax_T 77)).lookup 3 = some (.imul, 1, 0, 0, 0) := by decide +kernel
theorem l77_4 : (ax_dt (ax_T 77)).lookup 4 = some (.iload_n 1, 1, 0, 0, 0) := by decide +kernel
theorem l77_5 : (ax_dt (ax_T 77)).lookup 5 = some (.iadd, 1, 0, 0, 0) := by decide +kernel
theorem l77_6 : (ax_dt (ax_T 77)).lookup 6 = some (.ireturn, 1, 0, 0, 0) := by decide +kernel
noncomputable def F_X8_slotAt (v0 : Int) (v1 : Int) (μ : bM) : Option (Int) := bG (bR (v0 * 8)) (bG (bR ((v0 * 8) + v1)) (some (((v0 * 8) + v1))))
theorem r_X8_slotAt {L : Nat} {xs : Nat → Int32} {d : Nat} {μ : bM}  (v0 : Int) (h0 : bR v0) (v1 : Int) (h1 : bR v1) : bD L xs (d + 0) 77 0 [(0, bI v0), (1, bI v1)] [] μ ((F_X8_slotAt v0 v1 μ).bind (bPc μ)) := by
  have hr : ∀ r, (bPc μ) r = (bPc μ) r := fun _ => rfl
  unfold F_X8_slotAt
  refine bD.ok fun hk => ?_
  refine b_s (pc' := 1) (lv1 := [(0, bI v0), (1, bI v1)]) (st' := [bI v0]) l77_0 (fun _ => rfl) ?_
  refine b_bipush l77_1 (by decide) (b_pc (pc' := 3) rfl ?_)
  refine b_imul l77_3 fun g1 => (b_pc (pc' := 4) rfl ?_)
  refine b_s (pc' := 5) (lv1 := [(0, bI v0), (1, bI v1)]) (st' := [bI v1, bI (v0 * 8)]) l77_4 (fun _ => rfl) ?_
  refine b_iadd l77_5 fun g2 => (b_pc (pc' := 6) rfl ?_)
  exact b_reti l77_6 rfl g2 (hr _)
/-! ET$Tree.start -/
theorem l84_0 : (ax_dt (ax_T 84)).lookup 0 = some (.aload_n 0, 1, 0, 0, 0) := by decide +kernel
theorem l84_1 : (ax_dt (ax_T 84)).lookup 1 = some (.getfield 48, 3, 7, 14, 0) := by decide +kernel
theorem l84_4 : (ax_dt (ax_T 84)).lookup 4 = some (.iload_n 1, 1, 0, 0, 0) := by decide +kernel
theorem l84_5 : (ax_dt (ax_T 84)).lookup 5 = some (.laload, 1, 0, 0, 0) := by decide +kernel
theorem l84_6 : (ax_dt (ax_T 84)).lookup 6 = some (.l2i, 1, 0, 0, 0) := by decide +kernel
theorem l84_7 : (ax_dt (ax_T 84)).lookup 7 = some (.ireturn, 1, 0, 0, 0) := by decide +kernel
noncomputable def F_X8_start (t : Nat) (v1 : Int) (μ : bM) : Option (Int) := bG (0 ≤ v1 ∧ v1 < 3200) (some ((b32 (μ (t + 13) v1.toNat))))
theorem r_X8_start {L : Nat} {xs : Nat → Int32} {d : Nat} {μ : bM} (t : Nat) (ht : bTree t) (v1 : Int) (h1 : bR v1) : bD L xs (d + 0) 84 0 [(0, .ref t), (1, bI v1)] [] μ ((F_X8_start t v1 μ).bind (bPc μ)) := by
  have hr : ∀ r, (bPc μ) r = (bPc μ) r := fun _ => rfl
  unfold F_X8_start
  refine bD.ok fun hk => ?_
  refine b_s (pc' := 1) (lv1 := [(0, .ref t), (1, bI v1)]) (st' := [.ref t]) l84_0 (fun _ => rfl) ?_
  refine b_gp (q' := (t + 13)) (j := 13) l84_1 ht (by decide) (by decide) rfl hk rfl rfl (b_pc (pc' := 4) rfl ?_)
  refine b_s (pc' := 5) (lv1 := [(0, .ref t), (1, bI v1)]) (st' := [bI v1, .ref (t + 13)]) l84_4 (fun _ => rfl) ?_
  refine b_g fun g1 => ?_
  refine b_lal l84_5 (bTree_v ht) g1 (b_pc (pc' := 6) rfl ?_)
  refine b_l2i l84_6 (b_pc (pc' := 7) rfl ?_)
  exact b_reti l84_7 rfl (b32_R _) (hr _)
/-! ET$Tree.addAttribute -/
theorem l82_0 : (ax_dt (ax_T 82)).lookup 0 = some (.iload_n 1, 1, 0, 0, 0) := by decide +kernel
theorem l82_1 : (ax_dt (ax_T 82)).lookup 1 = some (.aload_n 0, 1, 0, 0, 0) := by decide +kernel
theorem l82_2 : (ax_dt (ax_T 82)).lookup 2 = some (.getfield 39, 3, 7, 11, 0) := by decide +kernel
theorem l82_5 : (ax_dt (ax_T 82)).lookup 5 = some (.iload_n 1, 1, 0, 0, 0) := by decide +kernel
theorem l82_6 : (ax_dt (ax_T 82)).lookup 6 = some (.iaload, 1, 0, 0, 0) := by decide +kernel
theorem l82_7 : (ax_dt (ax_T 82)).lookup 7 = some (.invokestatic 66, 3, 77, 2, 0) := by decide +kernel
theorem l82_10 : (ax_dt (ax_T 82)).lookup 10 = some (.istore 7, 2, 0, 0, 0) := by decide +kernel
theorem l82_12 : (ax_dt (ax_T 82)).lookup 12 = some (.aload_n 0, 1, 0, 0, 0) := by decide +kernel
theorem l82_13 : (ax_dt (ax_T 82)).lookup 13 = some (.getfield 42, 3, 7, 12, 0) := by decide +kernel
theorem l82_16 : (ax_dt (ax_T 82)).lookup 16 = some (.iload 7, 2, 0, 0, 0) := by decide +kernel
theorem l82_18 : (ax_dt (ax_T 82)).lookup 18 = some (.iload_n 2, 1, 0, 0, 0) := by decide +kernel
theorem l82_19 : (ax_dt (ax_T 82)).lookup 19 = some (.iastore, 1, 0, 0, 0) := by decide +kernel
theorem l82_20 : (ax_dt (ax_T 82)).lookup 20 = some (.aload_n 0, 1, 0, 0, 0) := by decide +kernel
theorem l82_21 : (ax_dt (ax_T 82)).lookup 21 = some (.getfield 45, 3, 7, 13, 0) := by decide +kernel
theorem l82_24 : (ax_dt (ax_T 82)).lookup 24 = some (.iload 7, 2, 0, 0, 0) := by decide +kernel
theorem l82_26 : (ax_dt (ax_T 82)).lookup 26 = some (.iload_n 3, 1, 0, 0, 0) := by decide +kernel
theorem l82_27 : (ax_dt (ax_T 82)).lookup 27 = some (.iastore, 1, 0, 0, 0) := by decide +kernel
theorem l82_28 : (ax_dt (ax_T 82)).lookup 28 = some (.aload_n 0, 1, 0, 0, 0) := by decide +kernel
theorem l82_29 : (ax_dt (ax_T 82)).lookup 29 = some (.getfield 48, 3, 7, 14, 0) := by decide +kernel
theorem l82_32 : (ax_dt (ax_T 82)).lookup 32 = some (.iload 7, 2, 0, 0, 0) := by decide +kernel
theorem l82_34 : (ax_dt (ax_T 82)).lookup 34 = some (.lload 4, 2, 0, 0, 0) := by decide +kernel
theorem l82_36 : (ax_dt (ax_T 82)).lookup 36 = some (.lastore, 1, 0, 0, 0) := by decide +kernel
theorem l82_37 : (ax_dt (ax_T 82)).lookup 37 = some (.aload_n 0, 1, 0, 0, 0) := by decide +kernel
theorem l82_38 : (ax_dt (ax_T 82)).lookup 38 = some (.getfield 52, 3, 7, 15, 0) := by decide +kernel
theorem l82_41 : (ax_dt (ax_T 82)).lookup 41 = some (.iload 7, 2, 0, 0, 0) := by decide +kernel
theorem l82_43 : (ax_dt (ax_T 82)).lookup 43 = some (.iload 6, 2, 0, 0, 0) := by decide +kernel
theorem l82_45 : (ax_dt (ax_T 82)).lookup 45 = some (.iastore, 1, 0, 0, 0) := by decide +kernel
theorem l82_46 : (ax_dt (ax_T 82)).lookup 46 = some (.aload_n 0, 1, 0, 0, 0) := by decide +kernel
theorem l82_47 : (ax_dt (ax_T 82)).lookup 47 = some (.getfield 39, 3, 7, 11, 0) := by decide +kernel
theorem l82_50 : (ax_dt (ax_T 82)).lookup 50 = some (.iload_n 1, 1, 0, 0, 0) := by decide +kernel
theorem l82_51 : (ax_dt (ax_T 82)).lookup 51 = some (.dup2, 1, 0, 0, 0) := by decide +kernel
theorem l82_52 : (ax_dt (ax_T 82)).lookup 52 = some (.iaload, 1, 0, 0, 0) := by decide +kernel
theorem l82_53 : (ax_dt (ax_T 82)).lookup 53 = some (.iconst 1, 1, 0, 0, 0) := by decide +kernel
theorem l82_54 : (ax_dt (ax_T 82)).lookup 54 = some (.iadd, 1, 0, 0, 0) := by decide +kernel
theorem l82_55 : (ax_dt (ax_T 82)).lookup 55 = some (.iastore, 1, 0, 0, 0) := by decide +kernel
theorem l82_56 : (ax_dt (ax_T 82)).lookup 56 = some (.aload_n 0, 1, 0, 0, 0) := by decide +kernel
theorem l82_57 : (ax_dt (ax_T 82)).lookup 57 = some (.getfield 39, 3, 7, 11, 0) := by decide +kernel
theorem l82_60 : (ax_dt (ax_T 82)).lookup 60 = some (.iload_n 1, 1, 0, 0, 0) := by decide +kernel
theorem l82_61 : (ax_dt (ax_T 82)).lookup 61 = some (.iaload, 1, 0, 0, 0) := by decide +kernel
theorem l82_62 : (ax_dt (ax_T 82)).lookup 62 = some (.ireturn, 1, 0, 0, 0) := by decide +kernel
noncomputable def F_X8_addAttribute (t : Nat) (v1 : Int) (v2 : Int) (v3 : Int) (v4 : Int) (v6 : Int) (μ : bM) : Option (Int × bM) := bG (0 ≤ v1 ∧ v1 < 400) ((F_X8_slotAt v1 (μ (t + 10) v1.toNat) μ).bind fun w1 => bG (0 ≤ w1 ∧ w1 < 3200) (bG (0 ≤ w1 ∧ w1 < 3200) (bG (0 ≤ w1 ∧ w1 < 3200) (bG (0 ≤ w1 ∧ w1 < 3200) (bG (0 ≤ v1 ∧ v1 < 400) (bG (bR (((bset (bset (bset (bset μ (t + 11) w1.toNat v2) (t + 12) w1.toNat v3) (t + 13) w1.toNat v4) (t + 14) w1.toNat v6) (t + 10) v1.toNat) + 1)) (bG (0 ≤ v1 ∧ v1 < 400) (bG (0 ≤ v1 ∧ v1 < 400) (some (((bset (bset (bset (bset (bset μ (t + 11) w1.toNat v2) (t + 12) w1.toNat v3) (t + 13) w1.toNat v4) (t + 14) w1.toNat v6) (t + 10) v1.toNat (((bset (bset (bset (bset μ (t + 11) w1.toNat v2) (t + 12) w1.toNat v3) (t + 13) w1.toNat v4) (t + 14) w1.toNat v6) (t + 10) v1.toNat) + 1)) (t + 10) v1.toNat), (bset (bset (bset (bset (bset μ (t + 11) w1.toNat v2) (t + 12) w1.toNat v3) (t + 13) w1.toNat v4) (t + 14) w1.toNat v6) (t + 10) v1.toNat (((bset (bset (bset (bset μ (t + 11) w1.toNat v2) (t + 12) w1.toNat v3) (t + 13) w1.toNat v4) (t + 14) w1.toNat v6) (t + 10) v1.toNat) + 1))))))))))))
theorem r_X8_addAttribute {L : Nat} {xs : Nat → Int32} {d : Nat} {μ : bM} (t : Nat) (ht : bTree t) (v1 : Int) (h1 : bR v1) (v2 : Int) (h2 : bR v2) (v3 : Int) (h3 : bR v3) (v4 : Int) (h4 : bRL v4) (v6 : Int) (h6 : bR v6) : bD L xs (d + 1) 82 0 [(0, .ref t), (1, bI v1), (2, bI v2), (3, bI v3), (4, bLg v4), (6, bI v6)] [] μ ((F_X8_addAttribute t v1 v2 v3 v4 v6 μ).bind (bMc)) := by
  have hr : ∀ r, (bMc) r = (bMc) r := fun _ => rfl
  unfold F_X8_addAttribute
  refine bD.ok fun hk => ?_
  refine b_s (pc' := 1) (lv1 := [(0, .ref t), (1, bI v1), (2, bI v2), (3, bI v3), (4, bLg v4), (6, bI v6)]) (st' := [bI v1]) l82_0 (fun _ => rfl) ?_
  refine b_s (pc' := 2) (lv1 := [(0, .ref t), (1, bI v1), (2, bI v2), (3, bI v3), (4, bLg v4), (6, bI v6)]) (st' := [.ref t, bI v1]) l82_1 (fun _ => rfl) ?_
  refine b_gp (q' := (t + 10)) (j := 10) l82_2 ht (by decide) (by decide) rfl hk rfl rfl (b_pc (pc' := 5) rfl ?_)
  refine b_s (pc' := 6) (lv1 := [(0, .ref t), (1, bI v1), (2, bI v2), (3, bI v3), (4, bLg v4), (6, bI v6)]) (st' := [bI v1, .ref (t + 10), bI v1]) l82_5 (fun _ => rfl) ?_
  refine b_g fun g15 => ?_
  refine b_ial l82_6 (bTree_e ht 10 (by decide)) g15 (b_pc (pc' := 7) rfl ?_)
  refine b_cPi l82_7 rfl (fun _ => trivial) (Nat.le_of_ble_eq_true rfl) (Nat.le_of_ble_eq_true rfl) rfl (r_X8_slotAt v1 h1 (μ (t + 10) v1.toNat) (bO_i hk (bTree_e ht 10 (by decide)))) fun w1 hw1 => b_pc (pc' := 10) rfl ?_
  refine b_w (pc' := 12) (lv1 := ax_st1 [(0, .ref t), (1, bI v1), (2, bI v2), (3, bI v3), (4, bLg v4), (6, bI v6)] 7 (bI w1)) (lv' := [(0, .ref t), (1, bI v1), (2, bI v2), (3, bI v3), (4, bLg v4), (6, bI v6), (7, bI w1)]) (st' := []) l82_10 (fun _ => rfl) (bSb rfl (bSb rfl (bSb rfl (bSb rfl (bSb rfl (bSb rfl (bSb rfl bSn))))))) ?_
  refine b_s (pc' := 13) (lv1 := [(0, .ref t), (1, bI v1), (2, bI v2), (3, bI v3), (4, bLg v4), (6, bI v6), (7, bI w1)]) (st' := [.ref t]) l82_12 (fun _ => rfl) ?_
  refine b_gp (q' := (t + 11)) (j := 11) l82_13 ht (by decide) (by decide) rfl hk rfl rfl (b_pc (pc' := 16) rfl ?_)
  refine b_s (pc' := 18) (lv1 := [(0, .ref t), (1, bI v1), (2, bI v2), (3, bI v3), (4, bLg v4), (6, bI v6), (7, bI w1)]) (st' := [bI w1, .ref (t + 11)]) l82_16 (fun _ => rfl) ?_
  refine b_s (pc' := 19) (lv1 := [(0, .ref t), (1, bI v1), (2, bI v2), (3, bI v3), (4, bLg v4), (6, bI v6), (7, bI w1)]) (st' := [bI v2, bI w1, .ref (t + 11)]) l82_18 (fun _ => rfl) ?_
  refine b_g fun g14 => ?_
  refine b_ias l82_19 (bTree_n ht) g14 h2 (bD.ok fun hk2 => b_pc (pc' := 20) rfl ?_)
  refine b_s (pc' := 21) (lv1 := [(0, .ref t), (1, bI v1), (2, bI v2), (3, bI v3), (4, bLg v4), (6, bI v6), (7, bI w1)]) (st' := [.ref t]) l82_20 (fun _ => rfl) ?_
  refine b_gp (q' := (t + 12)) (j := 12) l82_21 ht (by decide) (by decide) rfl hk2 rfl rfl (b_pc (pc' := 24) rfl ?_)
  refine b_s (pc' := 26) (lv1 := [(0, .ref t), (1, bI v1), (2, bI v2), (3, bI v3), (4, bLg v4), (6, bI v6), (7, bI w1)]) (st' := [bI w1, .ref (t + 12)]) l82_24 (fun _ => rfl) ?_
  refine b_s (pc' := 27) (lv1 := [(0, .ref t), (1, bI v1), (2, bI v2), (3, bI v3), (4, bLg v4), (6, bI v6), (7, bI w1)]) (st' := [bI v3, bI w1, .ref (t + 12)]) l82_26 (fun _ => rfl) ?_
  refine b_g fun g13 => ?_
  refine b_ias l82_27 (bTree_f ht) g13 h3 (bD.ok fun hk3 => b_pc (pc' := 28) rfl ?_)
  refine b_s (pc' := 29) (lv1 := [(0, .ref t), (1, bI v1), (2, bI v2), (3, bI v3), (4, bLg v4), (6, bI v6), (7, bI w1)]) (st' := [.ref t]) l82_28 (fun _ => rfl) ?_
  refine b_gp (q' := (t + 13)) (j := 13) l82_29 ht (by decide) (by decide) rfl hk3 rfl rfl (b_pc (pc' := 32) rfl ?_)
  refine b_s (pc' := 34) (lv1 := [(0, .ref t), (1, bI v1), (2, bI v2), (3, bI v3), (4, bLg v4), (6, bI v6), (7, bI w1)]) (st' := [bI w1, .ref (t + 13)]) l82_32 (fun _ => rfl) ?_
  refine b_s (pc' := 36) (lv1 := [(0, .ref t), (1, bI v1), (2, bI v2), (3, bI v3), (4, bLg v4), (6, bI v6), (7, bI w1)]) (st' := [bLg v4, bI w1, .ref (t + 13)]) l82_34 (fun _ => rfl) ?_
  refine b_g fun g12 => ?_
  refine b_las l82_36 (bTree_v ht) g12 h4 (bD.ok fun hk4 => b_pc (pc' := 37) rfl ?_)
  refine b_s (pc' := 38) (lv1 := [(0, .ref t), (1, bI v1), (2, bI v2), (3, bI v3), (4, bLg v4), (6, bI v6), (7, bI w1)]) (st' := [.ref t]) l82_37 (fun _ => rfl) ?_
  refine b_gp (q' := (t + 14)) (j := 14) l82_38 ht (by decide) (by decide) rfl hk4 rfl rfl (b_pc (pc' := 41) rfl ?_)
  refine b_s (pc' := 43) (lv1 := [(0, .ref t), (1, bI v1), (2, bI v2), (3, bI v3), (4, bLg v4), (6, bI v6), (7, bI w1)]) (st' := [bI w1, .ref (t + 14)]) l82_41 (fun _ => rfl) ?_
  refine b_s (pc' := 45) (lv1 := [(0, .ref t), (1, bI v1), (2, bI v2), (3, bI v3), (4, bLg v4), (6, bI v6), (7, bI w1)]) (st' := [bI v6, bI w1, .ref (t + 14)]) l82_43 (fun _ => rfl) ?_
  refine b_g fun g11 => ?_
  refine b_ias l82_45 (bTree_l ht) g11 h6 (bD.ok fun hk5 => b_pc (pc' := 46) rfl ?_)
  refine b_s (pc' := 47) (lv1 := [(0, .ref t), (1, bI v1), (2, bI v2), (3, bI v3), (4, bLg v4), (6, bI v6), (7, bI w1)]) (st' := [.ref t]) l82_46 (fun _ => rfl) ?_
  refine b_gp (q' := (t + 10)) (j := 10) l82_47 ht (by decide) (by decide) rfl hk5 rfl rfl (b_pc (pc' := 50) rfl ?_)
  refine b_s (pc' := 51) (lv1 := [(0, .ref t), (1, bI v1), (2, bI v2), (3, bI v3), (4, bLg v4), (6, bI v6), (7, bI w1)]) (st' := [bI v1, .ref (t + 10)]) l82_50 (fun _ => rfl) ?_
  refine b_s (pc' := 52) (lv1 := [(0, .ref t), (1, bI v1), (2, bI v2), (3, bI v3), (4, bLg v4), (6, bI v6), (7, bI w1)]) (st' := [bI v1, .ref (t + 10), bI v1, .ref (t + 10)]) l82_51 (fun _ => rfl) ?_
  refine b_g fun g10 => ?_
  refine b_ial l82_52 (bTree_e ht 10 (by decide)) g10 (b_pc (pc' := 53) rfl ?_)
  refine b_s (pc' := 54) (lv1 := [(0, .ref t), (1, bI v1), (2, bI v2), (3, bI v3), (4, bLg v4), (6, bI v6), (7, bI w1)]) (st' := [bI 1, bI ((bset (bset (bset (bset μ (t + 11) w1.toNat v2) (t + 12) w1.toNat v3) (t + 13) w1.toNat v4) (t + 14) w1.toNat v6) (t + 10) v1.toNat), bI v1, .ref (t + 10)]) l82_53 (fun _ => rfl) ?_
  refine b_iadd l82_54 fun g6 => (b_pc (pc' := 55) rfl ?_)
  refine b_g fun g9 => ?_
  refine b_ias l82_55 (bTree_e ht 10 (by decide)) g9 g6 (bD.ok fun hk7 => b_pc (pc' := 56) rfl ?_)
  refine b_s (pc' := 57) (lv1 := [(0, .ref t), (1, bI v1), (2, bI v2), (3, bI v3), (4, bLg v4), (6, bI v6), (7, bI w1)]) (st' := [.ref t]) l82_56 (fun _ => rfl) ?_
  refine b_gp (q' := (t + 10)) (j := 10) l82_57 ht (by decide) (by decide) rfl hk7 rfl rfl (b_pc (pc' := 60) rfl ?_)
  refine b_s (pc' := 61) (lv1 := [(0, .ref t), (1, bI v1), (2, bI v2), (3, bI v3), (4, bLg v4), (6, bI v6), (7, bI w1)]) (st' := [bI v1, .ref (t + 10)]) l82_60 (fun _ => rfl) ?_
  refine b_g fun g8 => ?_
  refine b_ial l82_61 (bTree_e ht 10 (by decide)) g8 (b_pc (pc' := 62) rfl ?_)
  exact b_reti l82_62 rfl (bO_i hk7 (bTree_e ht 10 (by decide))) (hr _)
/-! ET$Tree.addEntry -/
theorem l81_0 : (ax_dt (ax_T 81)).lookup 0 = some (.aload_n 0, 1, 0, 0, 0) := by decide +kernel
theorem l81_1 : (ax_dt (ax_T 81)).lookup 1 = some (.getfield 59, 3, 7, 1, 0) := by decide +kernel
theorem l81_4 : (ax_dt (ax_T 81)).lookup 4 = some (.istore_n 2, 1, 0, 0, 0) := by decide +kernel
theorem l81_5 : (ax_dt (ax_T 81)).lookup 5 = some (.aload_n 0, 1, 0, 0, 0) := by decide +kernel
theorem l81_6 : (ax_dt (ax_T 81)).lookup 6 = some (.dup, 1, 0, 0, 0) := by decide +kernel
theorem l81_7 : (ax_dt (ax_T 81)).lookup 7 = some (.getfield 59, 3, 7, 1, 0) := by decide +kernel
theorem l81_10 : (ax_dt (ax_T 81)).lookup 10 = some (.iconst 1, 1, 0, 0, 0) := by decide +kernel
theorem l81_11 : (ax_dt (ax_T 81)).lookup 11 = some (.iadd, 1, 0, 0, 0) := by decide +kernel
theorem l81_12 : (ax_dt (ax_T 81)).lookup 12 = some (.putfield 59, 3, 7, 1, 0) := by decide +kernel
theorem l81_15 : (ax_dt (ax_T 81)).lookup 15 = some (.aload_n 0, 1, 0, 0, 0) := by decide +kernel
theorem l81_16 : (ax_dt (ax_T 81)).lookup 16 = some (.getfield 15, 3, 7, 3, 0) := by decide +kernel
theorem l81_19 : (ax_dt (ax_T 81)).lookup 19 = some (.iload_n 2, 1, 0, 0, 0) := by decide +kernel
theorem l81_20 : (ax_dt (ax_T 81)).lookup 20 = some (.iload_n 1, 1, 0, 0, 0) := by decide +kernel
theorem l81_21 : (ax_dt (ax_T 81)).lookup 21 = some (.iastore, 1, 0, 0, 0) := by decide +kernel
theorem l81_22 : (ax_dt (ax_T 81)).lookup 22 = some (.aload_n 0, 1, 0, 0, 0) := by decide +kernel
theorem l81_23 : (ax_dt (ax_T 81)).lookup 23 = some (.getfield 27, 3, 7, 7, 0) := by decide +kernel
theorem l81_26 : (ax_dt (ax_T 81)).lookup 26 = some (.iload_n 2, 1, 0, 0, 0) := by decide +kernel
theorem l81_27 : (ax_dt (ax_T 81)).lookup 27 = some (.iconst 0, 1, 0, 0, 0) := by decide +kernel
theorem l81_28 : (ax_dt (ax_T 81)).lookup 28 = some (.iastore, 1, 0, 0, 0) := by decide +kernel
theorem l81_29 : (ax_dt (ax_T 81)).lookup 29 = some (.aload_n 0, 1, 0, 0, 0) := by decide +kernel
theorem l81_30 : (ax_dt (ax_T 81)).lookup 30 = some (.getfield 30, 3, 7, 8, 0) := by decide +kernel
theorem l81_33 : (ax_dt (ax_T 81)).lookup 33 = some (.iload_n 2, 1, 0, 0, 0) := by decide +kernel
theorem l81_34 : (ax_dt (ax_T 81)).lookup 34 = some (.iconst (-1), 1, 0, 0, 0) := by decide +kernel
theorem l81_35 : (ax_dt (ax_T 81)).lookup 35 = some (.iastore, 1, 0, 0, 0) := by decide +kernel
theorem l81_36 : (ax_dt (ax_T 81)).lookup 36 = some (.aload_n 0, 1, 0, 0, 0) := by decide +kernel
theorem l81_37 : (ax_dt (ax_T 81)).lookup 37 = some (.getfield 33, 3, 7, 9, 0) := by decide +kernel
theorem l81_40 : (ax_dt (ax_T 81)).lookup 40 = some (.iload_n 2, 1, 0, 0, 0) := by decide +kernel
theorem l81_41 : (ax_dt (ax_T 81)).lookup 41 = some (.iconst (-1), 1, 0, 0, 0) := by decide +kernel
theorem l81_42 : (ax_dt (ax_T 81)).lookup 42 = some (.iastore, 1, 0, 0, 0) := by decide +kernel
theorem l81_43 : (ax_dt (ax_T 81)).lookup 43 = some (.aload_n 0, 1, 0, 0, 0) := by decide +kernel
theorem l81_44 : (ax_dt (ax_T 81)).lookup 44 = some (.getfield 36, 3, 7, 10, 0) := by decide +kernel
theorem l81_47 : (ax_dt (ax_T 81)).lookup 47 = some (.iload_n 2, 1, 0, 0, 0) := by decide +kernel
theorem l81_48 : (ax_dt (ax_T 81)).lookup 48 = some (.iconst (-1), 1, 0, 0, 0) := by decide +kernel
theorem l81_49 : (ax_dt (ax_T 81)).lookup 49 = some (.iastore, 1, 0, 0, 0) := by decide +kernel
theorem l81_50 : (ax_dt (ax_T 81)).lookup 50 = some (.aload_n 0, 1, 0, 0, 0) := by decide +kernel
theorem l81_51 : (ax_dt (ax_T 81)).lookup 51 = some (.getfield 39, 3, 7, 11, 0) := by decide +kernel
theorem l81_54 : (ax_dt (ax_T 81)).lookup 54 = some (.iload_n 2, 1, 0, 0, 0) := by decide +kernel
theorem l81_55 : (ax_dt (ax_T 81)).lookup 55 = some (.iconst 0, 1, 0, 0, 0) := by decide +kernel
theorem l81_56 : (ax_dt (ax_T 81)).lookup 56 = some (.iastore, 1, 0, 0, 0) := by decide +kernel
theorem l81_57 : (ax_dt (ax_T 81)).lookup 57 = some (.iload_n 2, 1, 0, 0, 0) := by decide +kernel
theorem l81_58 : (ax_dt (ax_T 81)).lookup 58 = some (.ireturn, 1, 0, 0, 0) := by decide +kernel
noncomputable def F_X8_addEntry (t : Nat) (v1 : Int) (μ : bM) : Option (Int × bM) := bG (bR ((μ t 1) + 1)) (bG (0 ≤ (μ t 1) ∧ (μ t 1) < 400) (bG (0 ≤ (μ t 1) ∧ (μ t 1) < 400) (bG (0 ≤ (μ t 1) ∧ (μ t 1) < 400) (bG (0 ≤ (μ t 1) ∧ (μ t 1) < 400) (bG (0 ≤ (μ t 1) ∧ (μ t 1) < 400) (bG (0 ≤ (μ t 1) ∧ (μ t 1) < 400) (some ((μ t 1), (bset (bset (bset (bset (bset (bset (bset μ t 1 ((μ t 1) + 1)) (t + 2) (μ t 1).toNat v1) (t + 6) (μ t 1).toNat 0) (t + 7) (μ t 1).toNat (-1)) (t + 8) (μ t 1).toNat (-1)) (t + 9) (μ t 1).toNat (-1)) (t + 10) (μ t 1).toNat 0)))))))))
theorem r_X8_addEntry {L : Nat} {xs : Nat → Int32} {d : Nat} {μ : bM} (t : Nat) (ht : bTree t) (v1 : Int) (h1 : bR v1) : bD L xs (d + 0) 81 0 [(0, .ref t), (1, bI v1)] [] μ ((F_X8_addEntry t v1 μ).bind (bMc)) := by
  have hr : ∀ r, (bMc) r = (bMc) r := fun _ => rfl
  unfold F_X8_addEntry
  refine bD.ok fun hk => ?_
  refine b_s (pc' := 1) (lv1 := [(0, .ref t), (1, bI v1)]) (st' := [.ref t]) l81_0 (fun _ => rfl) ?_
  refine b_gi l81_1 ht (by decide) (by decide) rfl (b_pc (pc' := 4) rfl ?_)
  refine b_w (pc' := 5) (lv1 := ax_st1 [(0, .ref t), (1, bI v1)] 2 (bI (μ t 1))) (lv' := [(0, .ref t), (1, bI v1), (2, bI (μ t 1))]) (st' := []) l81_4 (fun _ => rfl) (bSb rfl (bSb rfl (bSb rfl bSn))) ?_
  refine b_s (pc' := 6) (lv1 := [(0, .ref t), (1, bI v1), (2, bI (μ t 1))]) (st' := [.ref t]) l81_5 (fun _ => rfl) ?_
  refine b_s (pc' := 7) (lv1 := [(0, .ref t), (1, bI v1), (2, bI (μ t 1))]) (st' := [.ref t, .ref t]) l81_6 (fun _ => rfl) ?_
  refine b_gi l81_7 ht (by decide) (by decide) rfl (b_pc (pc' := 10) rfl ?_)
  refine b_s (pc' := 11) (lv1 := [(0, .ref t), (1, bI v1), (2, bI (μ t 1))]) (st' := [bI 1, bI (μ t 1), .ref t]) l81_10 (fun _ => rfl) ?_
  refine b_iadd l81_11 fun g1 => (b_pc (pc' := 12) rfl ?_)
  refine b_pi l81_12 ht (by decide) (by decide) rfl rfl g1 (bD.ok fun hk2 => b_pc (pc' := 15) rfl ?_)
  refine b_s (pc' := 16) (lv1 := [(0, .ref t), (1, bI v1), (2, bI (μ t 1))]) (st' := [.ref t]) l81_15 (fun _ => rfl) ?_
  refine b_gp (q' := (t + 2)) (j := 2) l81_16 ht (by decide) (by decide) rfl hk2 rfl rfl (b_pc (pc' := 19) rfl ?_)
  refine b_s (pc' := 20) (lv1 := [(0, .ref t), (1, bI v1), (2, bI (μ t 1))]) (st' := [bI (μ t 1), .ref (t + 2)]) l81_19 (fun _ => rfl) ?_
  refine b_s (pc' := 21) (lv1 := [(0, .ref t), (1, bI v1), (2, bI (μ t 1))]) (st' := [bI v1, bI (μ t 1), .ref (t + 2)]) l81_20 (fun _ => rfl) ?_
  refine b_g fun g14 => ?_
  refine b_ias l81_21 (bTree_e ht 2 (by decide)) g14 h1 (bD.ok fun hk3 => b_pc (pc' := 22) rfl ?_)
  refine b_s (pc' := 23) (lv1 := [(0, .ref t), (1, bI v1), (2, bI (μ t 1))]) (st' := [.ref t]) l81_22 (fun _ => rfl) ?_
  refine b_gp (q' := (t + 6)) (j := 6) l81_23 ht (by decide) (by decide) rfl hk3 rfl rfl (b_pc (pc' := 26) rfl ?_)
  refine b_s (pc' := 27) (lv1 := [(0, .ref t), (1, bI v1), (2, bI (μ t 1))]) (st' := [bI (μ t 1), .ref (t + 6)]) l81_26 (fun _ => rfl) ?_
  refine b_s (pc' := 28) (lv1 := [(0, .ref t), (1, bI v1), (2, bI (μ t 1))]) (st' := [bI 0, bI (μ t 1), .ref (t + 6)]) l81_27 (fun _ => rfl) ?_
  refine b_g fun g13 => ?_
  refine b_ias l81_28 (bTree_e ht 6 (by decide)) g13 (by decide) (bD.ok fun hk4 => b_pc (pc' := 29) rfl ?_)
  refine b_s (pc' := 30) (lv1 := [(0, .ref t), (1, bI v1), (2, bI (μ t 1))]) (st' := [.ref t]) l81_29 (fun _ => rfl) ?_
  refine b_gp (q' := (t + 7)) (j := 7) l81_30 ht (by decide) (by decide) rfl hk4 rfl rfl (b_pc (pc' := 33) rfl ?_)
  refine b_s (pc' := 34) (lv1 := [(0, .ref t), (1, bI v1), (2, bI (μ t 1))]) (st' := [bI (μ t 1), .ref (t + 7)]) l81_33 (fun _ => rfl) ?_
  refine b_s (pc' := 35) (lv1 := [(0, .ref t), (1, bI v1), (2, bI (μ t 1))]) (st' := [bI (-1), bI (μ t 1), .ref (t + 7)]) l81_34 (fun _ => rfl) ?_
  refine b_g fun g12 => ?_
  refine b_ias l81_35 (bTree_e ht 7 (by decide)) g12 (by decide) (bD.ok fun hk5 => b_pc (pc' := 36) rfl ?_)
  refine b_s (pc' := 37) (lv1 := [(0, .ref t), (1, bI v1), (2, bI (μ t 1))]) (st' := [.ref t]) l81_36 (fun _ => rfl) ?_
  refine b_gp (q' := (t + 8)) (j := 8) l81_37 ht (by decide) (by decide) rfl hk5 rfl rfl (b_pc (pc' := 40) rfl ?_)
  refine b_s (pc' := 41) (lv1 := [(0, .ref t), (1, bI v1), (2, bI (μ t 1))]) (st' := [bI (μ t 1), .ref (t + 8)]) l81_40 (fun _ => rfl) ?_
  refine b_s (pc' := 42) (lv1 := [(0, .ref t), (1, bI v1), (2, bI (μ t 1))]) (st' := [bI (-1), bI (μ t 1), .ref (t + 8)]) l81_41 (fun _ => rfl) ?_
  refine b_g fun g11 => ?_
  refine b_ias l81_42 (bTree_e ht 8 (by decide)) g11 (by decide) (bD.ok fun hk6 => b_pc (pc' := 43) rfl ?_)
  refine b_s (pc' := 44) (lv1 := [(0, .ref t), (1, bI v1), (2, bI (μ t 1))]) (st' := [.ref t]) l81_43 (fun _ => rfl) ?_
  refine b_gp (q' := (t + 9)) (j := 9) l81_44 ht (by decide) (by decide) rfl hk6 rfl rfl (b_pc (pc' := 47) rfl ?_)
  refine b_s (pc' := 48) (lv1 := [(0, .ref t), (1, bI v1), (2, bI (μ t 1))]) (st' := [bI (μ t 1), .ref (t + 9)]) l81_47 (fun _ => rfl) ?_
  refine b_s (pc' := 49) (lv1 := [(0, .ref t), (1, bI v1), (2, bI (μ t 1))]) (st' := [bI (-1), bI (μ t 1), .ref (t + 9)]) l81_48 (fun _ => rfl) ?_
  refine b_g fun g10 => ?_
  refine b_ias l81_49 (bTree_e ht 9 (by decide)) g10 (by decide) (bD.ok fun hk7 => b_pc (pc' := 50) rfl ?_)
  refine b_s (pc' := 51) (lv1 := [(0, .ref t), (1, bI v1), (2, bI (μ t 1))]) (st' := [.ref t]) l81_50 (fun _ => rfl) ?_
  refine b_gp (q' := (t + 10)) (j := 10) l81_51 ht (by decide) (by decide) rfl hk7 rfl rfl (b_pc (pc' := 54) rfl ?_)
  refine b_s (pc' := 55) (lv1 := [(0, .ref t), (1, bI v1), (2, bI (μ t 1))]) (st' := [bI (μ t 1), .ref (t + 10)]) l81_54 (fun _ => rfl) ?_
  refine b_s (pc' := 56) (lv1 := [(0, .ref t), (1, bI v1), (2, bI (μ t 1))]) (st' := [bI 0, bI (μ t 1), .ref (t + 10)]) l81_55 (fun _ => rfl) ?_
  refine b_g fun g9 => ?_
  refine b_ias l81_56 (bTree_e ht 10 (by decide)) g9 (by decide) (bD.ok fun hk8 => b_pc (pc' := 57) rfl ?_)
  refine b_s (pc' := 58) (lv1 := [(0, .ref t), (1, bI v1), (2, bI (μ t 1))]) (st' := [bI (μ t 1)]) l81_57 (fun _ => rfl) ?_
  exact b_reti l81_58 rfl (bO_f hk (ci := 7) ht rfl) (hr _)
/-! ET$Tree.addRoot -/
theorem l79_0 : (ax_dt (ax_T 79)).lookup 0 = some (.aload_n 0, 1, 0, 0, 0) := by decide +kernel
theorem l79_1 : (ax_dt (ax_T 79)).lookup 1 = some (.iload_n 1, 1, 0, 0, 0) := by decide +kernel
theorem l79_2 : (ax_dt (ax_T 79)).lookup 2 = some (.invokevirtual 62, 3, 81, 1, 0) := by decide +kernel
theorem l79_5 : (ax_dt (ax_T 79)).lookup 5 = some (.istore_n 2, 1, 0, 0, 0) := by decide +kernel
theorem l79_6 : (ax_dt (ax_T 79)).lookup 6 = some (.aload_n 0, 1, 0, 0, 0) := by decide +kernel
theorem l79_7 : (ax_dt (ax_T 79)).lookup 7 = some (.getfield 18, 3, 7, 4, 0) := by decide +kernel
theorem l79_10 : (ax_dt (ax_T 79)).lookup 10 = some (.iload_n 2, 1, 0, 0, 0) := by decide +kernel
theorem l79_11 : (ax_dt (ax_T 79)).lookup 11 = some (.iconst (-1), 1, 0, 0, 0) := by decide +kernel
theorem l79_12 : (ax_dt (ax_T 79)).lookup 12 = some (.iastore, 1, 0, 0, 0) := by decide +kernel
theorem l79_13 : (ax_dt (ax_T 79)).lookup 13 = some (.aload_n 0, 1, 0, 0, 0) := by decide +kernel
theorem l79_14 : (ax_dt (ax_T 79)).lookup 14 = some (.getfield 21, 3, 7, 5, 0) := by decide +kernel
theorem l79_17 : (ax_dt (ax_T 79)).lookup 17 = some (.iload_n 2, 1, 0, 0, 0) := by decide +kernel
theorem l79_18 : (ax_dt (ax_T 79)).lookup 18 = some (.aload_n 0, 1, 0, 0, 0) := by decide +kernel
theorem l79_19 : (ax_dt (ax_T 79)).lookup 19 = some (.getfield 55, 3, 7, 0, 0) := by decide +kernel
theorem l79_22 : (ax_dt (ax_T 79)).lookup 22 = some (.iastore, 1, 0, 0, 0) := by decide +kernel
theorem l79_23 : (ax_dt (ax_T 79)).lookup 23 = some (.aload_n 0, 1, 0, 0, 0) := by decide +kernel
theorem l79_24 : (ax_dt (ax_T 79)).lookup 24 = some (.getfield 24, 3, 7, 6, 0) := by decide +kernel
theorem l79_27 : (ax_dt (ax_T 79)).lookup 27 = some (.iload_n 2, 1, 0, 0, 0) := by decide +kernel
theorem l79_28 : (ax_dt (ax_T 79)).lookup 28 = some (.iconst 0, 1, 0, 0, 0) := by decide +kernel
theorem l79_29 : (ax_dt (ax_T 79)).lookup 29 = some (.iastore, 1, 0, 0, 0) := by decide +kernel
theorem l79_30 : (ax_dt (ax_T 79)).lookup 30 = some (.aload_n 0, 1, 0, 0, 0) := by decide +kernel
theorem l79_31 : (ax_dt (ax_T 79)).lookup 31 = some (.getfield 9, 3, 7, 2, 0) := by decide +kernel
theorem l79_34 : (ax_dt (ax_T 79)).lookup 34 = some (.aload_n 0, 1, 0, 0, 0) := by decide +kernel
theorem l79_35 : (ax_dt (ax_T 79)).lookup 35 = some (.getfield 55, 3, 7, 0, 0) := by decide +kernel
theorem l79_38 : (ax_dt (ax_T 79)).lookup 38 = some (.iload_n 2, 1, 0, 0, 0) := by decide +kernel
theorem l79_39 : (ax_dt (ax_T 79)).lookup 39 = some (.iastore, 1, 0, 0, 0) := by decide +kernel
theorem l79_40 : (ax_dt (ax_T 79)).lookup 40 = some (.aload_n 0, 1, 0, 0, 0) := by decide +kernel
theorem l79_41 : (ax_dt (ax_T 79)).lookup 41 = some (.dup, 1, 0, 0, 0) := by decide +kernel
theorem l79_42 : (ax_dt (ax_T 79)).lookup 42 = some (.getfield 55, 3, 7, 0, 0) := by decide +kernel
theorem l79_45 : (ax_dt (ax_T 79)).lookup 45 = some (.iconst 1, 1, 0, 0, 0) := by decide +kernel
theorem l79_46 : (ax_dt (ax_T 79)).lookup 46 = some (.iadd, 1, 0, 0, 0) := by decide +kernel
theorem l79_47 : (ax_dt (ax_T 79)).lookup 47 = some (.putfield 55, 3, 7, 0, 0) := by decide +kernel
theorem l79_50 : (ax_dt (ax_T 79)).lookup 50 = some (.iload_n 2, 1, 0, 0, 0) := by decide +kernel
theorem l79_51 : (ax_dt (ax_T 79)).lookup 51 = some (.ireturn, 1, 0, 0, 0) := by decide +kernel
noncomputable def F_X8_addRoot (t : Nat) (v1 : Int) (μ : bM) : Option (Int × bM) := bMm (F_X8_addEntry t v1 μ) (fun w1 μ2 => bG (0 ≤ w1 ∧ w1 < 400) (bG (0 ≤ w1 ∧ w1 < 400) (bG (0 ≤ w1 ∧ w1 < 400) (bG (0 ≤ ((bset (bset (bset μ2 (t + 3) w1.toNat (-1)) (t + 4) w1.toNat ((bset μ2 (t + 3) w1.toNat (-1)) t 0)) (t + 5) w1.toNat 0) t 0) ∧ ((bset (bset (bset μ2 (t + 3) w1.toNat (-1)) (t + 4) w1.toNat ((bset μ2 (t + 3) w1.toNat (-1)) t 0)) (t + 5) w1.toNat 0) t 0) < 6) (bG (bR (((bset (bset (bset (bset μ2 (t + 3) w1.toNat (-1)) (t + 4) w1.toNat ((bset μ2 (t + 3) w1.toNat (-1)) t 0)) (t + 5) w1.toNat 0) (t + 1) ((bset (bset (bset μ2 (t + 3) w1.toNat (-1)) (t + 4) w1.toNat ((bset μ2 (t + 3) w1.toNat (-1)) t 0)) (t + 5) w1.toNat 0) t 0).toNat w1) t 0) + 1)) (some (w1, (bset (bset (bset (bset (bset μ2 (t + 3) w1.toNat (-1)) (t + 4) w1.toNat ((bset μ2 (t + 3) w1.toNat (-1)) t 0)) (t + 5) w1.toNat 0) (t + 1) ((bset (bset (bset μ2 (t + 3) w1.toNat (-1)) (t + 4) w1.toNat ((bset μ2 (t + 3) w1.toNat (-1)) t 0)) (t + 5) w1.toNat 0) t 0).toNat w1) t 0 (((bset (bset (bset (bset μ2 (t + 3) w1.toNat (-1)) (t + 4) w1.toNat ((bset μ2 (t + 3) w1.toNat (-1)) t 0)) (t + 5) w1.toNat 0) (t + 1) ((bset (bset (bset μ2 (t + 3) w1.toNat (-1)) (t + 4) w1.toNat ((bset μ2 (t + 3) w1.toNat (-1)) t 0)) (t + 5) w1.toNat 0) t 0).toNat w1) t 0) + 1)))))))))
theorem r_X8_addRoot {L : Nat} {xs : Nat → Int32} {d : Nat} {μ : bM} (t : Nat) (ht : bTree t) (v1 : Int) (h1 : bR v1) : bD L xs (d + 1) 79 0 [(0, .ref t), (1, bI v1)] [] μ ((F_X8_addRoot t v1 μ).bind (bMc)) := by
  have hr : ∀ r, (bMc) r = (bMc) r := fun _ => rfl
  unfold F_X8_addRoot
  refine bD.ok fun hk => ?_
  refine b_s (pc' := 1) (lv1 := [(0, .ref t), (1, bI v1)]) (st' := [.ref t]) l79_0 (fun _ => rfl) ?_
  refine b_s (pc' := 2) (lv1 := [(0, .ref t), (1, bI v1)]) (st' := [bI v1, .ref t]) l79_1 (fun _ => rfl) ?_
  refine b_cMi l79_2 rfl (b_rc (ci := 7) ht (by decide) (by decide +kernel)) (Nat.le_of_ble_eq_true rfl) (Nat.le_of_ble_eq_true rfl) rfl (r_X8_addEntry t ht v1 h1) fun w1 μ2 hw1 => bD.ok fun hk3 => b_pc (pc' := 5) rfl ?_
  refine b_w (pc' := 6) (lv1 := ax_st1 [(0, .ref t), (1, bI v1)] 2 (bI w1)) (lv' := [(0, .ref t), (2, bI w1)]) (st' := []) l79_5 (fun _ => rfl) (bSb rfl (bSb rfl bSn)) ?_
  refine b_s (pc' := 7) (lv1 := [(0, .ref t), (2, bI w1)]) (st' := [.ref t]) l79_6 (fun _ => rfl) ?_
  refine b_gp (q' := (t + 3)) (j := 3) l79_7 ht (by decide) (by decide) rfl hk3 rfl rfl (b_pc (pc' := 10) rfl ?_)
  refine b_s (pc' := 11) (lv1 := [(0, .ref t), (2, bI w1)]) (st' := [bI w1, .ref (t + 3)]) l79_10 (fun _ => rfl) ?_
  refine b_s (pc' := 12) (lv1 := [(0, .ref t), (2, bI w1)]) (st' := [bI (-1), bI w1, .ref (t + 3)]) l79_11 (fun _ => rfl) ?_
  refine b_g fun g13 => ?_
  refine b_ias l79_12 (bTree_e ht 3 (by decide)) g13 (by decide) (bD.ok fun hk4 => b_pc (pc' := 13) rfl ?_)
  refine b_s (pc' := 14) (lv1 := [(0, .ref t), (2, bI w1)]) (st' := [.ref t]) l79_13 (fun _ => rfl) ?_
  refine b_gp (q' := (t + 4)) (j := 4) l79_14 ht (by decide) (by decide) rfl hk4 rfl rfl (b_pc (pc' := 17) rfl ?_)
  refine b_s (pc' := 18) (lv1 := [(0, .ref t), (2, bI w1)]) (st' := [bI w1, .ref (t + 4)]) l79_17 (fun _ => rfl) ?_
  refine b_s (pc' := 19) (lv1 := [(0, .ref t), (2, bI w1)]) (st' := [.ref t, bI w1, .ref (t + 4)]) l79_18 (fun _ => rfl) ?_
  refine b_gi l79_19 ht (by decide) (by decide) rfl (b_pc (pc' := 22) rfl ?_)
  refine b_g fun g12 => ?_
  refine b_ias l79_22 (bTree_e ht 4 (by decide)) g12 (bO_f hk4 (ci := 7) ht rfl) (bD.ok fun hk5 => b_pc (pc' := 23) rfl ?_)
  refine b_s (pc' := 24) (lv1 := [(0, .ref t), (2, bI w1)]) (st' := [.ref t]) l79_23 (fun _ => rfl) ?_
  refine b_gp (q' := (t + 5)) (j := 5) l79_24 ht (by decide) (by decide) rfl hk5 rfl rfl (b_pc (pc' := 27) rfl ?_)
  refine b_s (pc' := 28) (lv1 := [(0, .ref t), (2, bI w1)]) (st' := [bI w1, .ref (t + 5)]) l79_27 (fun _ => rfl) ?_
  refine b_s (pc' := 29) (lv1 := [(0, .ref t), (2, bI w1)]) (st' := [bI 0, bI w1, .ref (t + 5)]) l79_28 (fun _ => rfl) ?_
  refine b_g fun g11 => ?_
  refine b_ias l79_29 (bTree_e ht 5 (by decide)) g11 (by decide) (bD.ok fun hk6 => b_pc (pc' := 30) rfl ?_)
  refine b_s (pc' := 31) (lv1 := [(0, .ref t), (2, bI w1)]) (st' := [.ref t]) l79_30 (fun _ => rfl) ?_
  refine b_gp (q' := (t + 1)) (j := 1) l79_31 ht (by decide) (by decide) rfl hk6 rfl rfl (b_pc (pc' := 34) rfl ?_)
  refine b_s (pc' := 35) (lv1 := [(0, .ref t), (2, bI w1)]) (st' := [.ref t, .ref (t + 1)]) l79_34 (fun _ => rfl) ?_
  refine b_gi l79_35 ht (by decide) (by decide) rfl (b_pc (pc' := 38) rfl ?_)
  refine b_s (pc' := 39) (lv1 := [(0, .ref t), (2, bI w1)]) (st' := [bI w1, bI ((bset (bset (bset μ2 (t + 3) w1.toNat (-1)) (t + 4) w1.toNat ((bset μ2 (t + 3) w1.toNat (-1)) t 0)) (t + 5) w1.toNat 0) t 0), .ref (t + 1)]) l79_38 (fun _ => rfl) ?_
  refine b_g fun g10 => ?_
  refine b_ias l79_39 (bTree_r ht) g10 hw1 (bD.ok fun hk7 => b_pc (pc' := 40) rfl ?_)
  refine b_s (pc' := 41) (lv1 := [(0, .ref t), (2, bI w1)]) (st' := [.ref t]) l79_40 (fun _ => rfl) ?_
  refine b_s (pc' := 42) (lv1 := [(0, .ref t), (2, bI w1)]) (st' := [.ref t, .ref t]) l79_41 (fun _ => rfl) ?_
  refine b_gi l79_42 ht (by decide) (by decide) rfl (b_pc (pc' := 45) rfl ?_)
  refine b_s (pc' := 46) (lv1 := [(0, .ref t), (2, bI w1)]) (st' := [bI 1, bI ((bset (bset (bset (bset μ2 (t + 3) w1.toNat (-1)) (t + 4) w1.toNat ((bset μ2 (t + 3) w1.toNat (-1)) t 0)) (t + 5) w1.toNat 0) (t + 1) ((bset (bset (bset μ2 (t + 3) w1.toNat (-1)) (t + 4) w1.toNat ((bset μ2 (t + 3) w1.toNat (-1)) t 0)) (t + 5) w1.toNat 0) t 0).toNat w1) t 0), .ref t]) l79_45 (fun _ => rfl) ?_
  refine b_iadd l79_46 fun g8 => (b_pc (pc' := 47) rfl ?_)
  refine b_pi l79_47 ht (by decide) (by decide) rfl rfl g8 (bD.ok fun hk9 => b_pc (pc' := 50) rfl ?_)
  refine b_s (pc' := 51) (lv1 := [(0, .ref t), (2, bI w1)]) (st' := [bI w1]) l79_50 (fun _ => rfl) ?_
  exact b_reti l79_51 rfl hw1 (hr _)
/-! ET$Tree.addChild -/
theorem l80_0 : (ax_dt (ax_T 80)).lookup 0 = some (.aload_n 0, 1, 0, 0, 0) := by decide +kernel
theorem l80_1 : (ax_dt (ax_T 80)).lookup 1 = some (.iload_n 2, 1, 0, 0, 0) := by decide +kernel
theorem l80_2 : (ax_dt (ax_T 80)).lookup 2 = some (.invokevirtual 62, 3, 81, 1, 0) := by decide +kernel
theorem l80_5 : (ax_dt (ax_T 80)).lookup 5 = some (.istore_n 3, 1, 0, 0, 0) := by decide +kernel
theorem l80_6 : (ax_dt (ax_T 80)).lookup 6 = some (.aload_n 0, 1, 0, 0, 0) := by decide +kernel
theorem l80_7 : (ax_dt (ax_T 80)).lookup 7 = some (.getfield 18, 3, 7, 4, 0) := by decide +kernel
theorem l80_10 : (ax_dt (ax_T 80)).lookup 10 = some (.iload_n 3, 1, 0, 0, 0) := by decide +kernel
theorem l80_11 : (ax_dt (ax_T 80)).lookup 11 = some (.iload_n 1, 1, 0, 0, 0) := by decide +kernel
theorem l80_12 : (ax_dt (ax_T 80)).lookup 12 = some (.iastore, 1, 0, 0, 0) := by decide +kernel
theorem l80_13 : (ax_dt (ax_T 80)).lookup 13 = some (.aload_n 0, 1, 0, 0, 0) := by decide +kernel
theorem l80_14 : (ax_dt (ax_T 80)).lookup 14 = some (.getfield 21, 3, 7, 5, 0) := by decide +kernel
theorem l80_17 : (ax_dt (ax_T 80)).lookup 17 = some (.iload_n 3, 1, 0, 0, 0) := by decide +kernel
theorem l80_18 : (ax_dt (ax_T 80)).lookup 18 = some (.aload_n 0, 1, 0, 0, 0) := by decide +kernel
theorem l80_19 : (ax_dt (ax_T 80)).lookup 19 = some (.getfield 21, 3, 7, 5, 0) := by decide +kernel
theorem l80_22 : (ax_dt (ax_T 80)).lookup 22 = some (.iload_n 1, 1, 0, 0, 0) := by decide +kernel
theorem l80_23 : (ax_dt (ax_T 80)).lookup 23 = some (.iaload, 1, 0, 0, 0) := by decide +kernel
theorem l80_24 : (ax_dt (ax_T 80)).lookup 24 = some (.iastore, 1, 0, 0, 0) := by decide +kernel
theorem l80_25 : (ax_dt (ax_T 80)).lookup 25 = some (.aload_n 0, 1, 0, 0, 0) := by decide +kernel
theorem l80_26 : (ax_dt (ax_T 80)).lookup 26 = some (.getfield 24, 3, 7, 6, 0) := by decide +kernel
theorem l80_29 : (ax_dt (ax_T 80)).lookup 29 = some (.iload_n 3, 1, 0, 0, 0) := by decide +kernel
theorem l80_30 : (ax_dt (ax_T 80)).lookup 30 = some (.aload_n 0, 1, 0, 0, 0) := by decide +kernel
theorem l80_31 : (ax_dt (ax_T 80)).lookup 31 = some (.getfield 24, 3, 7, 6, 0) := by decide +kernel
theorem l80_34 : (ax_dt (ax_T 80)).lookup 34 = some (.iload_n 1, 1, 0, 0, 0) := by decide +kernel
theorem l80_35 : (ax_dt (ax_T 80)).lookup 35 = some (.iaload, 1, 0, 0, 0) := by decide +kernel
theorem l80_36 : (ax_dt (ax_T 80)).lookup 36 = some (.iconst 1, 1, 0, 0, 0) := by decide +kernel
theorem l80_37 : (ax_dt (ax_T 80)).lookup 37 = some (.iadd, 1, 0, 0, 0) := by decide +kernel
theorem l80_38 : (ax_dt (ax_T 80)).lookup 38 = some (.iastore, 1, 0, 0, 0) := by decide +kernel
theorem l80_39 : (ax_dt (ax_T 80)).lookup 39 = some (.aload_n 0, 1, 0, 0, 0) := by decide +kernel
theorem l80_40 : (ax_dt (ax_T 80)).lookup 40 = some (.getfield 27, 3, 7, 7, 0) := by decide +kernel
theorem l80_43 : (ax_dt (ax_T 80)).lookup 43 = some (.iload_n 1, 1, 0, 0, 0) := by decide +kernel
theorem l80_44 : (ax_dt (ax_T 80)).lookup 44 = some (.iaload, 1, 0, 0, 0) := by decide +kernel
theorem l80_45 : (ax_dt (ax_T 80)).lookup 45 = some (.ifCond .ne 13, 3, 0, 0, 0) := by decide +kernel
theorem l80_48 : (ax_dt (ax_T 80)).lookup 48 = some (.aload_n 0, 1, 0, 0, 0) := by decide +kernel
theorem l80_49 : (ax_dt (ax_T 80)).lookup 49 = some (.getfield 30, 3, 7, 8, 0) := by decide +kernel
theorem l80_52 : (ax_dt (ax_T 80)).lookup 52 = some (.iload_n 1, 1, 0, 0, 0) := by decide +kernel
theorem l80_53 : (ax_dt (ax_T 80)).lookup 53 = some (.iload_n 3, 1, 0, 0, 0) := by decide +kernel
theorem l80_54 : (ax_dt (ax_T 80)).lookup 54 = some (.iastore, 1, 0, 0, 0) := by decide +kernel
theorem l80_55 : (ax_dt (ax_T 80)).lookup 55 = some (.goto 15, 3, 0, 0, 0) := by decide +kernel
theorem l80_58 : (ax_dt (ax_T 80)).lookup 58 = some (.aload_n 0, 1, 0, 0, 0) := by decide +kernel
theorem l80_59 : (ax_dt (ax_T 80)).lookup 59 = some (.getfield 36, 3, 7, 10, 0) := by decide +kernel
theorem l80_62 : (ax_dt (ax_T 80)).lookup 62 = some (.aload_n 0, 1, 0, 0, 0) := by decide +kernel
theorem l80_63 : (ax_dt (ax_T 80)).lookup 63 = some (.getfield 33, 3, 7, 9, 0) := by decide +kernel
theorem l80_66 : (ax_dt (ax_T 80)).lookup 66 = some (.iload_n 1, 1, 0, 0, 0) := by decide +kernel
theorem l80_67 : (ax_dt (ax_T 80)).lookup 67 = some (.iaload, 1, 0, 0, 0) := by decide +kernel
theorem l80_68 : (ax_dt (ax_T 80)).lookup 68 = some (.iload_n 3, 1, 0, 0, 0) := by decide +kernel
theorem l80_69 : (ax_dt (ax_T 80)).lookup 69 = some (.iastore, 1, 0, 0, 0) := by decide +kernel
theorem l80_70 : (ax_dt (ax_T 80)).lookup 70 = some (.aload_n 0, 1, 0, 0, 0) := by decide +kernel
theorem l80_71 : (ax_dt (ax_T 80)).lookup 71 = some (.getfield 33, 3, 7, 9, 0) := by decide +kernel
theorem l80_74 : (ax_dt (ax_T 80)).lookup 74 = some (.iload_n 1, 1, 0, 0, 0) := by decide +kernel
theorem l80_75 : (ax_dt (ax_T 80)).lookup 75 = some (.iload_n 3, 1, 0, 0, 0) := by decide +kernel
theorem l80_76 : (ax_dt (ax_T 80)).lookup 76 = some (.iastore, 1, 0, 0, 0) := by decide +kernel
theorem l80_77 : (ax_dt (ax_T 80)).lookup 77 = some (.aload_n 0, 1, 0, 0, 0) := by decide +kernel
theorem l80_78 : (ax_dt (ax_T 80)).lookup 78 = some (.getfield 27, 3, 7, 7, 0) := by decide +kernel
theorem l80_81 : (ax_dt (ax_T 80)).lookup 81 = some (.iload_n 1, 1, 0, 0, 0) := by decide +kernel
theorem l80_82 : (ax_dt (ax_T 80)).lookup 82 = some (.dup2, 1, 0, 0, 0) := by decide +kernel
theorem l80_83 : (ax_dt (ax_T 80)).lookup 83 = some (.iaload, 1, 0, 0, 0) := by decide +kernel
theorem l80_84 : (ax_dt (ax_T 80)).lookup 84 = some (.iconst 1, 1, 0, 0, 0) := by decide +kernel
theorem l80_85 : (ax_dt (ax_T 80)).lookup 85 = some (.iadd, 1, 0, 0, 0) := by decide +kernel
theorem l80_86 : (ax_dt (ax_T 80)).lookup 86 = some (.iastore, 1, 0, 0, 0) := by decide +kernel
theorem l80_87 : (ax_dt (ax_T 80)).lookup 87 = some (.iload_n 3, 1, 0, 0, 0) := by decide +kernel
theorem l80_88 : (ax_dt (ax_T 80)).lookup 88 = some (.ireturn, 1, 0, 0, 0) := by decide +kernel
noncomputable def F_X8_addChild_70 (t : Nat) (v1 : Int) (v3 : Int) (μ : bM) : Option (Int × bM) := bG (0 ≤ v1 ∧ v1 < 400) (bG (0 ≤ v1 ∧ v1 < 400) (bG (bR (((bset μ (t + 8) v1.toNat v3) (t + 6) v1.toNat) + 1)) (bG (0 ≤ v1 ∧ v1 < 400) (some (v3, (bset (bset μ (t + 8) v1.toNat v3) (t + 6) v1.toNat (((bset μ (t + 8) v1.toNat v3) (t + 6) v1.toNat) + 1)))))))
noncomputable def F_X8_addChild (t : Nat) (v1 : Int) (v2 : Int) (μ : bM) : Option (Int × bM) := bMm (F_X8_addEntry t v2 μ) (fun w1 μ2 => bG (0 ≤ w1 ∧ w1 < 400) (bG (0 ≤ v1 ∧ v1 < 400) (bG (0 ≤ w1 ∧ w1 < 400) (bG (0 ≤ v1 ∧ v1 < 400) (bG (bR (((bset (bset μ2 (t + 3) w1.toNat v1) (t + 4) w1.toNat ((bset μ2 (t + 3) w1.toNat v1) (t + 4) v1.toNat)) (t + 5) v1.toNat) + 1)) (bG (0 ≤ w1 ∧ w1 < 400) (bG (0 ≤ v1 ∧ v1 < 400) (if ¬ ((bset (bset (bset μ2 (t + 3) w1.toNat v1) (t + 4) w1.toNat ((bset μ2 (t + 3) w1.toNat v1) (t + 4) v1.toNat)) (t + 5) w1.toNat (((bset (bset μ2 (t + 3) w1.toNat v1) (t + 4) w1.toNat ((bset μ2 (t + 3) w1.toNat v1) (t + 4) v1.toNat)) (t + 5) v1.toNat) + 1)) (t + 6) v1.toNat) = 0 then bG (0 ≤ v1 ∧ v1 < 400) (bG (0 ≤ ((bset (bset (bset μ2 (t + 3) w1.toNat v1) (t + 4) w1.toNat ((bset μ2 (t + 3) w1.toNat v1) (t + 4) v1.toNat)) (t + 5) w1.toNat (((bset (bset μ2 (t + 3) w1.toNat v1) (t + 4) w1.toNat ((bset μ2 (t + 3) w1.toNat v1) (t + 4) v1.toNat)) (t + 5) v1.toNat) + 1)) (t + 8) v1.toNat) ∧ ((bset (bset (bset μ2 (t + 3) w1.toNat v1) (t + 4) w1.toNat ((bset μ2 (t + 3) w1.toNat v1) (t + 4) v1.toNat)) (t + 5) w1.toNat (((bset (bset μ2 (t + 3) w1.toNat v1) (t + 4) w1.toNat ((bset μ2 (t + 3) w1.toNat v1) (t + 4) v1.toNat)) (t + 5) v1.toNat) + 1)) (t + 8) v1.toNat) < 400) (F_X8_addChild_70 t v1 w1 (bset (bset (bset (bset μ2 (t + 3) w1.toNat v1) (t + 4) w1.toNat ((bset μ2 (t + 3) w1.toNat v1) (t + 4) v1.toNat)) (t + 5) w1.toNat (((bset (bset μ2 (t + 3) w1.toNat v1) (t + 4) w1.toNat ((bset μ2 (t + 3) w1.toNat v1) (t + 4) v1.toNat)) (t + 5) v1.toNat) + 1)) (t + 9) ((bset (bset (bset μ2 (t + 3) w1.toNat v1) (t + 4) w1.toNat ((bset μ2 (t + 3) w1.toNat v1) (t + 4) v1.toNat)) (t + 5) w1.toNat (((bset (bset μ2 (t + 3) w1.toNat v1) (t + 4) w1.toNat ((bset μ2 (t + 3) w1.toNat v1) (t + 4) v1.toNat)) (t + 5) v1.toNat) + 1)) (t + 8) v1.toNat).toNat w1))) else bG (0 ≤ v1 ∧ v1 < 400) (F_X8_addChild_70 t v1 w1 (bset (bset (bset (bset μ2 (t + 3) w1.toNat v1) (t + 4) w1.toNat ((bset μ2 (t + 3) w1.toNat v1) (t + 4) v1.toNat)) (t + 5) w1.toNat (((bset (bset μ2 (t + 3) w1.toNat v1) (t + 4) w1.toNat ((bset μ2 (t + 3) w1.toNat v1) (t + 4) v1.toNat)) (t + 5) v1.toNat) + 1)) (t + 7) v1.toNat w1))))))))))
theorem p_X8_addChild_70 {L : Nat} {xs : Nat → Int32} {d : Nat} {μ : bM} {t : Nat} {κ : (Int × bM) → Option bX} (hr : ∀ r : Int × bM, κ r = (bMc) r) (ht : bTree t) {v1 : Int} (h1 : bR v1) {v3 : Int} (h3 : bR v3) : bD L xs (d + 1) 80 70 [(0, .ref t), (1, bI v1), (3, bI v3)] [] μ ((F_X8_addChild_70 t v1 v3 μ).bind κ) := by
  unfold F_X8_addChild_70
  refine bD.ok fun hk => ?_
  refine b_s (pc' := 71) (lv1 := [(0, .ref t), (1, bI v1), (3, bI v3)]) (st' := [.ref t]) l80_70 (fun _ => rfl) ?_
  refine b_gp (q' := (t + 8)) (j := 8) l80_71 ht (by decide) (by decide) rfl hk rfl rfl (b_pc (pc' := 74) rfl ?_)
  refine b_s (pc' := 75) (lv1 := [(0, .ref t), (1, bI v1), (3, bI v3)]) (st' := [bI v1, .ref (t + 8)]) l80_74 (fun _ => rfl) ?_
  refine b_s (pc' := 76) (lv1 := [(0, .ref t), (1, bI v1), (3, bI v3)]) (st' := [bI v3, bI v1, .ref (t + 8)]) l80_75 (fun _ => rfl) ?_
  refine b_g fun g6 => ?_
  refine b_ias l80_76 (bTree_e ht 8 (by decide)) g6 h3 (bD.ok fun hk1 => b_pc (pc' := 77) rfl ?_)
  refine b_s (pc' := 78) (lv1 := [(0, .ref t), (1, bI v1), (3, bI v3)]) (st' := [.ref t]) l80_77 (fun _ => rfl) ?_
  refine b_gp (q' := (t + 6)) (j := 6) l80_78 ht (by decide) (by decide) rfl hk1 rfl rfl (b_pc (pc' := 81) rfl ?_)
  refine b_s (pc' := 82) (lv1 := [(0, .ref t), (1, bI v1), (3, bI v3)]) (st' := [bI v1, .ref (t + 6)]) l80_81 (fun _ => rfl) ?_
  refine b_s (pc' := 83) (lv1 := [(0, .ref t), (1, bI v1), (3, bI v3)]) (st' := [bI v1, .ref (t + 6), bI v1, .ref (t + 6)]) l80_82 (fun _ => rfl) ?_
  refine b_g fun g5 => ?_
  refine b_ial l80_83 (bTree_e ht 6 (by decide)) g5 (b_pc (pc' := 84) rfl ?_)
  refine b_s (pc' := 85) (lv1 := [(0, .ref t), (1, bI v1), (3, bI v3)]) (st' := [bI 1, bI ((bset μ (t + 8) v1.toNat v3) (t + 6) v1.toNat), bI v1, .ref (t + 6)]) l80_84 (fun _ => rfl) ?_
  refine b_iadd l80_85 fun g2 => (b_pc (pc' := 86) rfl ?_)
  refine b_g fun g4 => ?_
  refine b_ias l80_86 (bTree_e ht 6 (by decide)) g4 g2 (bD.ok fun hk3 => b_pc (pc' := 87) rfl ?_)
  refine b_s (pc' := 88) (lv1 := [(0, .ref t), (1, bI v1), (3, bI v3)]) (st' := [bI v3]) l80_87 (fun _ => rfl) ?_
  exact b_reti l80_88 rfl h3 (hr _)
theorem r_X8_addChild {L : Nat} {xs : Nat → Int32} {d : Nat} {μ : bM} (t : Nat) (ht : bTree t) (v1 : Int) (h1 : bR v1) (v2 : Int) (h2 : bR v2) : bD L xs (d + 1) 80 0 [(0, .ref t), (1, bI v1), (2, bI v2)] [] μ ((F_X8_addChild t v1 v2 μ).bind (bMc)) := by
  have hr : ∀ r, (bMc) r = (bMc) r := fun _ => rfl
  unfold F_X8_addChild
  refine bD.ok fun hk => ?_
  refine b_s (pc' := 1) (lv1 := [(0, .ref t), (1, bI v1), (2, bI v2)]) (st' := [.ref t]) l80_0 (fun _ => rfl) ?_
  refine b_s (pc' := 2) (lv1 := [(0, .ref t), (1, bI v1), (2, bI v2)]) (st' := [bI v2, .ref t]) l80_1 (fun _ => rfl) ?_
  refine b_cMi l80_2 rfl (b_rc (ci := 7) ht (by decide) (by decide +kernel)) (Nat.le_of_ble_eq_true rfl) (Nat.le_of_ble_eq_true rfl) rfl (r_X8_addEntry t ht v2 h2) fun w1 μ2 hw1 => bD.ok fun hk3 => b_pc (pc' := 5) rfl ?_
  refine b_w (pc' := 6) (lv1 := ax_st1 [(0, .ref t), (1, bI v1), (2, bI v2)] 3 (bI w1)) (lv' := [(0, .ref t), (1, bI v1), (3, bI w1)]) (st' := []) l80_5 (fun _ => rfl) (bSb rfl (bSb rfl (bSb rfl bSn))) ?_
  refine b_s (pc' := 7) (lv1 := [(0, .ref t), (1, bI v1), (3, bI w1)]) (st' := [.ref t]) l80_6 (fun _ => rfl) ?_
  refine b_gp (q' := (t + 3)) (j := 3) l80_7 ht (by decide) (by decide) rfl hk3 rfl rfl (b_pc (pc' := 10) rfl ?_)
  refine b_s (pc' := 11) (lv1 := [(0, .ref t), (1, bI v1), (3, bI w1)]) (st' := [bI w1, .ref (t + 3)]) l80_10 (fun _ => rfl) ?_
  refine b_s (pc' := 12) (lv1 := [(0, .ref t), (1, bI v1), (3, bI w1)]) (st' := [bI v1, bI w1, .ref (t + 3)]) l80_11 (fun _ => rfl) ?_
  refine b_g fun g19 => ?_
  refine b_ias l80_12 (bTree_e ht 3 (by decide)) g19 h1 (bD.ok fun hk4 => b_pc (pc' := 13) rfl ?_)
  refine b_s (pc' := 14) (lv1 := [(0, .ref t), (1, bI v1), (3, bI w1)]) (st' := [.ref t]) l80_13 (fun _ => rfl) ?_
  refine b_gp (q' := (t + 4)) (j := 4) l80_14 ht (by decide) (by decide) rfl hk4 rfl rfl (b_pc (pc' := 17) rfl ?_)
  refine b_s (pc' := 18) (lv1 := [(0, .ref t), (1, bI v1), (3, bI w1)]) (st' := [bI w1, .ref (t + 4)]) l80_17 (fun _ => rfl) ?_
  refine b_s (pc' := 19) (lv1 := [(0, .ref t), (1, bI v1), (3, bI w1)]) (st' := [.ref t, bI w1, .ref (t + 4)]) l80_18 (fun _ => rfl) ?_
  refine b_gp (q' := (t + 4)) (j := 4) l80_19 ht (by decide) (by decide) rfl hk4 rfl rfl (b_pc (pc' := 22) rfl ?_)
  refine b_s (pc' := 23) (lv1 := [(0, .ref t), (1, bI v1), (3, bI w1)]) (st' := [bI v1, .ref (t + 4), bI w1, .ref (t + 4)]) l80_22 (fun _ => rfl) ?_
  refine b_g fun g18 => ?_
  refine b_ial l80_23 (bTree_e ht 4 (by decide)) g18 (b_pc (pc' := 24) rfl ?_)
  refine b_g fun g17 => ?_
  refine b_ias l80_24 (bTree_e ht 4 (by decide)) g17 (bO_i hk4 (bTree_e ht 4 (by decide))) (bD.ok fun hk5 => b_pc (pc' := 25) rfl ?_)
  refine b_s (pc' := 26) (lv1 := [(0, .ref t), (1, bI v1), (3, bI w1)]) (st' := [.ref t]) l80_25 (fun _ => rfl) ?_
  refine b_gp (q' := (t + 5)) (j := 5) l80_26 ht (by decide) (by decide) rfl hk5 rfl rfl (b_pc (pc' := 29) rfl ?_)
  refine b_s (pc' := 30) (lv1 := [(0, .ref t), (1, bI v1), (3, bI w1)]) (st' := [bI w1, .ref (t + 5)]) l80_29 (fun _ => rfl) ?_
  refine b_s (pc' := 31) (lv1 := [(0, .ref t), (1, bI v1), (3, bI w1)]) (st' := [.ref t, bI w1, .ref (t + 5)]) l80_30 (fun _ => rfl) ?_
  refine b_gp (q' := (t + 5)) (j := 5) l80_31 ht (by decide) (by decide) rfl hk5 rfl rfl (b_pc (pc' := 34) rfl ?_)
  refine b_s (pc' := 35) (lv1 := [(0, .ref t), (1, bI v1), (3, bI w1)]) (st' := [bI v1, .ref (t + 5), bI w1, .ref (t + 5)]) l80_34 (fun _ => rfl) ?_
  refine b_g fun g16 => ?_
  refine b_ial l80_35 (bTree_e ht 5 (by decide)) g16 (b_pc (pc' := 36) rfl ?_)
  refine b_s (pc' := 37) (lv1 := [(0, .ref t), (1, bI v1), (3, bI w1)]) (st' := [bI 1, bI ((bset (bset μ2 (t + 3) w1.toNat v1) (t + 4) w1.toNat ((bset μ2 (t + 3) w1.toNat v1) (t + 4) v1.toNat)) (t + 5) v1.toNat), bI w1, .ref (t + 5)]) l80_36 (fun _ => rfl) ?_
  refine b_iadd l80_37 fun g6 => (b_pc (pc' := 38) rfl ?_)
  refine b_g fun g15 => ?_
  refine b_ias l80_38 (bTree_e ht 5 (by decide)) g15 g6 (bD.ok fun hk7 => b_pc (pc' := 39) rfl ?_)
  refine b_s (pc' := 40) (lv1 := [(0, .ref t), (1, bI v1), (3, bI w1)]) (st' := [.ref t]) l80_39 (fun _ => rfl) ?_
  refine b_gp (q' := (t + 6)) (j := 6) l80_40 ht (by decide) (by decide) rfl hk7 rfl rfl (b_pc (pc' := 43) rfl ?_)
  refine b_s (pc' := 44) (lv1 := [(0, .ref t), (1, bI v1), (3, bI w1)]) (st' := [bI v1, .ref (t + 6)]) l80_43 (fun _ => rfl) ?_
  refine b_g fun g14 => ?_
  refine b_ial l80_44 (bTree_e ht 6 (by decide)) g14 (b_pc (pc' := 45) rfl ?_)
  refine b_zne (pt := 58) l80_45 (bO_i hk7 (bTree_e ht 6 (by decide))) (by decide) rfl (fun c8 => ?_) (fun c8 => b_pc (pc' := 48) rfl ?_)
  · refine b_s (pc' := 59) (lv1 := [(0, .ref t), (1, bI v1), (3, bI w1)]) (st' := [.ref t]) l80_58 (fun _ => rfl) ?_
    refine b_gp (q' := (t + 9)) (j := 9) l80_59 ht (by decide) (by decide) rfl hk7 rfl rfl (b_pc (pc' := 62) rfl ?_)
    refine b_s (pc' := 63) (lv1 := [(0, .ref t), (1, bI v1), (3, bI w1)]) (st' := [.ref t, .ref (t + 9)]) l80_62 (fun _ => rfl) ?_
    refine b_gp (q' := (t + 8)) (j := 8) l80_63 ht (by decide) (by decide) rfl hk7 rfl rfl (b_pc (pc' := 66) rfl ?_)
    refine b_s (pc' := 67) (lv1 := [(0, .ref t), (1, bI v1), (3, bI w1)]) (st' := [bI v1, .ref (t + 8), .ref (t + 9)]) l80_66 (fun _ => rfl) ?_
    refine b_g fun g11 => ?_
    refine b_ial l80_67 (bTree_e ht 8 (by decide)) g11 (b_pc (pc' := 68) rfl ?_)
    refine b_s (pc' := 69) (lv1 := [(0, .ref t), (1, bI v1), (3, bI w1)]) (st' := [bI w1, bI ((bset (bset (bset μ2 (t + 3) w1.toNat v1) (t + 4) w1.toNat ((bset μ2 (t + 3) w1.toNat v1) (t + 4) v1.toNat)) (t + 5) w1.toNat (((bset (bset μ2 (t + 3) w1.toNat v1) (t + 4) w1.toNat ((bset μ2 (t + 3) w1.toNat v1) (t + 4) v1.toNat)) (t + 5) v1.toNat) + 1)) (t + 8) v1.toNat), .ref (t + 9)]) l80_68 (fun _ => rfl) ?_
    refine b_g fun g10 => ?_
    refine b_ias l80_69 (bTree_e ht 9 (by decide)) g10 hw1 (bD.ok fun hk9 => b_pc (pc' := 70) rfl ?_)
    refine bD.wk (lv' := [(0, .ref t), (1, bI v1), (3, bI w1)]) (bSb rfl (bSb rfl (bSb rfl bSn))) ?_
    exact p_X8_addChild_70 hr ht h1 hw1
  · refine b_s (pc' := 49) (lv1 := [(0, .ref t), (1, bI v1), (3, bI w1)]) (st' := [.ref t]) l80_48 (fun _ => rfl) ?_
    refine b_gp (q' := (t + 7)) (j := 7) l80_49 ht (by decide) (by decide) rfl hk7 rfl rfl (b_pc (pc' := 52) rfl ?_)
    refine b_s (pc' := 53) (lv1 := [(0, .ref t), (1, bI v1), (3, bI w1)]) (st' := [bI v1, .ref (t + 7)]) l80_52 (fun _ => rfl) ?_
    refine b_s (pc' := 54) (lv1 := [(0, .ref t), (1, bI v1), (3, bI w1)]) (st' := [bI w1, bI v1, .ref (t + 7)]) l80_53 (fun _ => rfl) ?_
    refine b_g fun g13 => ?_
    refine b_ias l80_54 (bTree_e ht 7 (by decide)) g13 hw1 (bD.ok fun hk12 => b_pc (pc' := 55) rfl ?_)
    refine b_s (pc' := 70) (lv1 := [(0, .ref t), (1, bI v1), (3, bI w1)]) (st' := []) l80_55 (fun _ => rfl) ?_
    refine bD.wk (lv' := [(0, .ref t), (1, bI v1), (3, bI w1)]) (bSb rfl (bSb rfl (bSb rfl bSn))) ?_
    exact p_X8_addChild_70 hr ht h1 hw1
/-! ET$Tree.forget -/
theorem l78_0 : (ax_dt (ax_T 78)).lookup 0 = some (.aload_n 0, 1, 0, 0, 0) := by decide +kernel
theorem l78_1 : (ax_dt (ax_T 78)).lookup 1 = some (.iconst 0, 1, 0, 0, 0) := by decide +kernel
theorem l78_2 : (ax_dt (ax_T 78)).lookup 2 = some (.putfield 55, 3, 7, 0, 0) := by decide +kernel
theorem l78_5 : (ax_dt (ax_T 78)).lookup 5 = some (.aload_n 0, 1, 0, 0, 0) := by decide +kernel
theorem l78_6 : (ax_dt (ax_T 78)).lookup 6 = some (.iconst 0, 1, 0, 0, 0) := by decide +kernel
theorem l78_7 : (ax_dt (ax_T 78)).lookup 7 = some (.putfield 59, 3, 7, 1, 0) := by decide +kernel
theorem l78_10 : (ax_dt (ax_T 78)).lookup 10 = some (.return_, 1, 0, 0, 0) := by decide +kernel
noncomputable def F_X8_forget (t : Nat) (μ : bM) : Option (Int × bM) := some (0, (bset (bset μ t 0 0) t 1 0))
theorem r_X8_forget {L : Nat} {xs : Nat → Int32} {d : Nat} {μ : bM} (t : Nat) (ht : bTree t)  : bD L xs (d + 0) 78 0 [(0, .ref t)] [] μ ((F_X8_forget t μ).bind (bMc)) := by
  have hr : ∀ r, (bMc) r = (bMc) r := fun _ => rfl
  unfold F_X8_forget
  refine bD.ok fun hk => ?_
  refine b_s (pc' := 1) (lv1 := [(0, .ref t)]) (st' := [.ref t]) l78_0 (fun _ => rfl) ?_
  refine b_s (pc' := 2) (lv1 := [(0, .ref t)]) (st' := [bI 0, .ref t]) l78_1 (fun _ => rfl) ?_
  refine b_pi l78_2 ht (by decide) (by decide) rfl rfl (by decide) (bD.ok fun hk1 => b_pc (pc' := 5) rfl ?_)
  refine b_s (pc' := 6) (lv1 := [(0, .ref t)]) (st' := [.ref t]) l78_5 (fun _ => rfl) ?_
  refine b_s (pc' := 7) (lv1 := [(0, .ref t)]) (st' := [bI 0, .ref t]) l78_6 (fun _ => rfl) ?_
  refine b_pi l78_7 ht (by decide) (by decide) rfl rfl (by decide) (bD.ok fun hk2 => b_pc (pc' := 10) rfl ?_)
  exact b_retv l78_10 rfl (hr _)
/-! ET$Tree.slotOf -/
theorem l83_0 : (ax_dt (ax_T 83)).lookup 0 = some (.iconst 0, 1, 0, 0, 0) := by decide +kernel
theorem l83_1 : (ax_dt (ax_T 83)).lookup 1 = some (.istore_n 3, 1, 0, 0, 0) := by decide +kernel
theorem l83_2 : (ax_dt (ax_T 83)).lookup 2 = some (.iload_n 3, 1, 0, 0, 0) := by decide +kernel
theorem l83_3 : (ax_dt (ax_T 83)).lookup 3 = some (.aload_n 0, 1, 0, 0, 0) := by decide +kernel
theorem l83_4 : (ax_dt (ax_T 83)).lookup 4 = some (.getfield 39, 3, 7, 11, 0) := by decide +kernel
theorem l83_7 : (ax_dt (ax_T 83)).lookup 7 = some (.iload_n 1, 1, 0, 0, 0) := by decide +kernel
theorem l83_8 : (ax_dt (ax_T 83)).lookup 8 = some (.iaload, 1, 0, 0, 0) := by decide +kernel
theorem l83_9 : (ax_dt (ax_T 83)).lookup 9 = some (.if_icmp .ge 30, 3, 0, 0, 0) := by decide +kernel
theorem l83_12 : (ax_dt (ax_T 83)).lookup 12 = some (.iload_n 1, 1, 0, 0, 0) := by decide +kernel
theorem l83_13 : (ax_dt (ax_T 83)).lookup 13 = some (.iload_n 3, 1, 0, 0, 0) := by decide +kernel
theorem l83_14 : (ax_dt (ax_T 83)).lookup 14 = some (.invokestatic 66, 3, 77, 2, 0) := by decide +kernel
theorem l83_17 : (ax_dt (ax_T 83)).lookup 17 = some (.istore 4, 2, 0, 0, 0) := by decide +kernel
theorem l83_19 : (ax_dt (ax_T 83)).lookup 19 = some (.aload_n 0, 1, 0, 0, 0) := by decide +kernel
theorem l83_20 : (ax_dt (ax_T 83)).lookup 20 = some (.getfield 42, 3, 7, 12, 0) := by decide +kernel
theorem l83_23 : (ax_dt (ax_T 83)).lookup 23 = some (.iload 4, 2, 0, 0, 0) := by decide +kernel
theorem l83_25 : (ax_dt (ax_T 83)).lookup 25 = some (.iaload, 1, 0, 0, 0) := by decide +kernel
theorem l83_26 : (ax_dt (ax_T 83)).lookup 26 = some (.iload_n 2, 1, 0, 0, 0) := by decide +kernel
theorem l83_27 : (ax_dt (ax_T 83)).lookup 27 = some (.if_icmp .ne 6, 3, 0, 0, 0) := by decide +kernel
theorem l83_30 : (ax_dt (ax_T 83)).lookup 30 = some (.iload 4, 2, 0, 0, 0) := by decide +kernel
theorem l83_32 : (ax_dt (ax_T 83)).lookup 32 = some (.ireturn, 1, 0, 0, 0) := by decide +kernel
theorem l83_33 : (ax_dt (ax_T 83)).lookup 33 = some (.iinc 3 1, 3, 0, 0, 0) := by decide +kernel
theorem l83_36 : (ax_dt (ax_T 83)).lookup 36 = some (.goto (-34), 3, 0, 0, 0) := by decide +kernel
theorem l83_39 : (ax_dt (ax_T 83)).lookup 39 = some (.iconst (-1), 1, 0, 0, 0) := by decide +kernel
theorem l83_40 : (ax_dt (ax_T 83)).lookup 40 = some (.ireturn, 1, 0, 0, 0) := by decide +kernel
noncomputable def F_X8_slotOf_2 (t : Nat) (v1 : Int) (v2 : Int) (μ : bM) (v3 : Int) : Option ((Int) ⊕ (Int)) := bG (0 ≤ v1 ∧ v1 < 400) (if (μ (t + 10) v1.toNat) ≤ v3 then some (.inr ((-1))) else (F_X8_slotAt v1 v3 μ).bind fun w2 => bG (0 ≤ w2 ∧ w2 < 3200) (if ¬ (μ (t + 11) w2.toNat) = v2 then bG (bR (v3 + 1)) (some (.inl (v3 + 1))) else some (.inr (w2))))
noncomputable def F_X8_slotOf (t : Nat) (v1 : Int) (v2 : Int) (μ : bM) : Option (Int) := bLoop (fun z => F_X8_slotOf_2 t v1 v2 μ z) 0
theorem q_X8_slotOf_2 {L : Nat} {xs : Nat → Int32} {d : Nat} {μ : bM} {t : Nat} {v1 : Int} {v2 : Int} {κ : ((Int) ⊕ (Int)) → Option bX} (hr : ∀ r : Int, κ (.inr r) = (bPc μ) r) (H2 : ∀ (v3 : Int), bR v3 → bD L xs (d + 1) 83 2 [(0, .ref t), (1, bI v1), (2, bI v2), (3, bI v3)] [] μ (κ (.inl v3))) (ht : bTree t) (h1 : bR v1) (h2 : bR v2) {v3 : Int} (h3 : bR v3) : bD L xs (d + 1) 83 2 [(0, .ref t), (1, bI v1), (2, bI v2), (3, bI v3)] [] μ ((F_X8_slotOf_2 t v1 v2 μ v3).bind κ) := by
  unfold F_X8_slotOf_2
  refine bD.ok fun hk => ?_
  refine b_s (pc' := 3) (lv1 := [(0, .ref t), (1, bI v1), (2, bI v2), (3, bI v3)]) (st' := [bI v3]) l83_2 (fun _ => rfl) ?_
  refine b_s (pc' := 4) (lv1 := [(0, .ref t), (1, bI v1), (2, bI v2), (3, bI v3)]) (st' := [.ref t, bI v3]) l83_3 (fun _ => rfl) ?_
  refine b_gp (q' := (t + 10)) (j := 10) l83_4 ht (by decide) (by decide) rfl hk rfl rfl (b_pc (pc' := 7) rfl ?_)
  refine b_s (pc' := 8) (lv1 := [(0, .ref t), (1, bI v1), (2, bI v2), (3, bI v3)]) (st' := [bI v1, .ref (t + 10), bI v3]) l83_7 (fun _ => rfl) ?_
  refine b_g fun g6 => ?_
  refine b_ial l83_8 (bTree_e ht 10 (by decide)) g6 (b_pc (pc' := 9) rfl ?_)
  refine b_ige (pt := 39) l83_9 h3 (bO_i hk (bTree_e ht 10 (by decide))) (by decide) rfl (fun c1 => ?_) (fun c1 => b_pc (pc' := 12) rfl ?_)
  · refine b_s (pc' := 40) (lv1 := [(0, .ref t), (1, bI v1), (2, bI v2), (3, bI v3)]) (st' := [bI (-1)]) l83_39 (fun _ => rfl) ?_
    exact b_reti l83_40 rfl (by decide) (hr _)
  · refine b_s (pc' := 13) (lv1 := [(0, .ref t), (1, bI v1), (2, bI v2), (3, bI v3)]) (st' := [bI v1]) l83_12 (fun _ => rfl) ?_
    refine b_s (pc' := 14) (lv1 := [(0, .ref t), (1, bI v1), (2, bI v2), (3, bI v3)]) (st' := [bI v3, bI v1]) l83_13 (fun _ => rfl) ?_
    refine b_cPi l83_14 rfl (fun _ => trivial) (Nat.le_of_ble_eq_true rfl) (Nat.le_of_ble_eq_true rfl) rfl (r_X8_slotAt v1 h1 v3 h3) fun w2 hw2 => b_pc (pc' := 17) rfl ?_
    refine b_w (pc' := 19) (lv1 := ax_st1 [(0, .ref t), (1, bI v1), (2, bI v2), (3, bI v3)] 4 (bI w2)) (lv' := [(0, .ref t), (1, bI v1), (2, bI v2), (3, bI v3), (4, bI w2)]) (st' := []) l83_17 (fun _ => rfl) (bSb rfl (bSb rfl (bSb rfl (bSb rfl (bSb rfl bSn))))) ?_
    refine b_s (pc' := 20) (lv1 := [(0, .ref t), (1, bI v1), (2, bI v2), (3, bI v3), (4, bI w2)]) (st' := [.ref t]) l83_19 (fun _ => rfl) ?_
    refine b_gp (q' := (t + 11)) (j := 11) l83_20 ht (by decide) (by decide) rfl hk rfl rfl (b_pc (pc' := 23) rfl ?_)
    refine b_s (pc' := 25) (lv1 := [(0, .ref t), (1, bI v1), (2, bI v2), (3, bI v3), (4, bI w2)]) (st' := [bI w2, .ref (t + 11)]) l83_23 (fun _ => rfl) ?_
    refine b_g fun g5 => ?_
    refine b_ial l83_25 (bTree_n ht) g5 (b_pc (pc' := 26) rfl ?_)
    refine b_s (pc' := 27) (lv1 := [(0, .ref t), (1, bI v1), (2, bI v2), (3, bI v3), (4, bI w2)]) (st' := [bI v2, bI (μ (t + 11) w2.toNat)]) l83_26 (fun _ => rfl) ?_
    refine b_ine (pt := 33) l83_27 (bO_i hk (bTree_n ht)) h2 (by decide) rfl (fun c3 => ?_) (fun c3 => b_pc (pc' := 30) rfl ?_)
    · refine b_inc (lv' := [(0, .ref t), (1, bI v1), (2, bI v2), (3, bI (v3 + 1))]) l83_33 rfl (by decide +kernel) (bSb rfl (bSb rfl (bSb rfl (bSb rfl bSn)))) fun g4 => (b_pc (pc' := 36) rfl ?_)
      refine b_s (pc' := 2) (lv1 := [(0, .ref t), (1, bI v1), (2, bI v2), (3, bI (v3 + 1))]) (st' := []) l83_36 (fun _ => rfl) ?_
      refine bD.wk (lv' := [(0, .ref t), (1, bI v1), (2, bI v2), (3, bI (v3 + 1))]) (bSb rfl (bSb rfl (bSb rfl (bSb rfl bSn)))) ?_
      exact H2 (v3 + 1) g4
    · refine b_s (pc' := 32) (lv1 := [(0, .ref t), (1, bI v1), (2, bI v2), (3, bI v3), (4, bI w2)]) (st' := [bI w2]) l83_30 (fun _ => rfl) ?_
      exact b_reti l83_32 rfl hw2 (hr _)
theorem p_X8_slotOf_2 {L : Nat} {xs : Nat → Int32} {d : Nat} {μ : bM} {t : Nat} {κ : (Int) → Option bX} (hr : ∀ r : Int, κ r = (bPc μ) r) (ht : bTree t) {v1 : Int} (h1 : bR v1) {v2 : Int} (h2 : bR v2) {v3 : Int} (h3 : bR v3) : bD L xs (d + 1) 83 2 [(0, .ref t), (1, bI v1), (2, bI v2), (3, bI v3)] [] μ ((bLoop (fun z => F_X8_slotOf_2 t v1 v2 μ z) v3).bind κ) :=
  b_loop (fun z => [(0, .ref t), (1, bI v1), (2, bI v2), (3, bI z)]) (fun z => μ) (fun z => bR z) (fun κ' hκ HH z hz => q_X8_slotOf_2 (κ := κ') (fun r => (hκ _).trans (hr r)) (fun a3 b3 => HH a3 b3) ht h1 h2 hz) v3 h3
theorem r_X8_slotOf {L : Nat} {xs : Nat → Int32} {d : Nat} {μ : bM} (t : Nat) (ht : bTree t) (v1 : Int) (h1 : bR v1) (v2 : Int) (h2 : bR v2) : bD L xs (d + 1) 83 0 [(0, .ref t), (1, bI v1), (2, bI v2)] [] μ ((F_X8_slotOf t v1 v2 μ).bind (bPc μ)) := by
  have hr : ∀ r, (bPc μ) r = (bPc μ) r := fun _ => rfl
  unfold F_X8_slotOf
  refine bD.ok fun hk => ?_
  refine b_s (pc' := 1) (lv1 := [(0, .ref t), (1, bI v1), (2, bI v2)]) (st' := [bI 0]) l83_0 (fun _ => rfl) ?_
  refine b_w (pc' := 2) (lv1 := ax_st1 [(0, .ref t), (1, bI v1), (2, bI v2)] 3 (bI 0)) (lv' := [(0, .ref t), (1, bI v1), (2, bI v2), (3, bI 0)]) (st' := []) l83_1 (fun _ => rfl) (bSb rfl (bSb rfl (bSb rfl (bSb rfl bSn)))) ?_
  refine bD.wk (lv' := [(0, .ref t), (1, bI v1), (2, bI v2), (3, bI 0)]) (bSb rfl (bSb rfl (bSb rfl (bSb rfl bSn)))) ?_
  exact p_X8_slotOf_2 hr ht h1 h2 (by decide)
/-! ET$Tree.childAt -/
theorem l85_0 : (ax_dt (ax_T 85)).lookup 0 = some (.aload_n 0, 1, 0, 0, 0) := by decide +kernel
theorem l85_1 : (ax_dt (ax_T 85)).lookup 1 = some (.getfield 30, 3, 7, 8, 0) := by decide +kernel
theorem l85_4 : (ax_dt (ax_T 85)).lookup 4 = some (.iload_n 1, 1, 0, 0, 0) := by decide +kernel
theorem l85_5 : (ax_dt (ax_T 85)).lookup 5 = some (.iaload, 1, 0, 0, 0) := by decide +kernel
theorem l85_6 : (ax_dt (ax_T 85)).lookup 6 = some (.istore_n 3, 1, 0, 0, 0) := by decide +kernel
theorem l85_7 : (ax_dt (ax_T 85)).lookup 7 = some (.iconst 0, 1, 0, 0, 0) := by decide +kernel
theorem l85_8 : (ax_dt (ax_T 85)).lookup 8 = some (.istore 4, 2, 0, 0, 0) := by decide +kernel
theorem l85_10 : (ax_dt (ax_T 85)).lookup 10 = some (.iload 4, 2, 0, 0, 0) := by decide +kernel
theorem l85_12 : (ax_dt (ax_T 85)).lookup 12 = some (.iload_n 2, 1, 0, 0, 0) := by decide +kernel
theorem l85_13 : (ax_dt (ax_T 85)).lookup 13 = some (.if_icmp .ge 21, 3, 0, 0, 0) := by decide +kernel
theorem l85_16 : (ax_dt (ax_T 85)).lookup 16 = some (.iload_n 3, 1, 0, 0, 0) := by decide +kernel
theorem l85_17 : (ax_dt (ax_T 85)).lookup 17 = some (.iconst (-1), 1, 0, 0, 0) := by decide +kernel
theorem l85_18 : (ax_dt (ax_T 85)).lookup 18 = some (.if_icmp .eq 16, 3, 0, 0, 0) := by decide +kernel
theorem l85_21 : (ax_dt (ax_T 85)).lookup 21 = some (.aload_n 0, 1, 0, 0, 0) := by decide +kernel
theorem l85_22 : (ax_dt (ax_T 85)).lookup 22 = some (.getfield 36, 3, 7, 10, 0) := by decide +kernel
theorem l85_25 : (ax_dt (ax_T 85)).lookup 25 = some (.iload_n 3, 1, 0, 0, 0) := by decide +kernel
theorem l85_26 : (ax_dt (ax_T 85)).lookup 26 = some (.iaload, 1, 0, 0, 0) := by decide +kernel
theorem l85_27 : (ax_dt (ax_T 85)).lookup 27 = some (.istore_n 3, 1, 0, 0, 0) := by decide +kernel
theorem l85_28 : (ax_dt (ax_T 85)).lookup 28 = some (.iinc 4 1, 3, 0, 0, 0) := by decide +kernel
theorem l85_31 : (ax_dt (ax_T 85)).lookup 31 = some (.goto (-21), 3, 0, 0, 0) := by decide +kernel
theorem l85_34 : (ax_dt (ax_T 85)).lookup 34 = some (.iload_n 3, 1, 0, 0, 0) := by decide +kernel
theorem l85_35 : (ax_dt (ax_T 85)).lookup 35 = some (.ireturn, 1, 0, 0, 0) := by decide +kernel
noncomputable def F_X8_childAt_10 (t : Nat) (v2 : Int) (μ : bM) (v3 : Int) (v4 : Int) : Option ((Int × Int) ⊕ (Int)) := if v2 ≤ v4 then some (.inr (v3)) else if v3 = (-1) then some (.inr (v3)) else bG (0 ≤ v3 ∧ v3 < 400) (bG (bR (v4 + 1)) (some (.inl ((μ (t + 9) v3.toNat), (v4 + 1)))))
noncomputable def F_X8_childAt (t : Nat) (v1 : Int) (v2 : Int) (μ : bM) : Option (Int) := bG (0 ≤ v1 ∧ v1 < 400) (bLoop (fun z => F_X8_childAt_10 t v2 μ z.1 z.2) ((μ (t + 7) v1.toNat), 0))
theorem q_X8_childAt_10 {L : Nat} {xs : Nat → Int32} {d : Nat} {μ : bM} {t : Nat} {v2 : Int} {κ : ((Int × Int) ⊕ (Int)) → Option bX} (hr : ∀ r : Int, κ (.inr r) = (bPc μ) r) (H10 : ∀ (v3 : Int) (v4 : Int), bR v3 → bR v4 → bD L xs (d + 0) 85 10 [(0, .ref t), (2, bI v2), (3, bI v3), (4, bI v4)] [] μ (κ (.inl (v3, v4)))) (ht : bTree t) (h2 : bR v2) {v3 : Int} (h3 : bR v3) {v4 : Int} (h4 : bR v4) : bD L xs (d + 0) 85 10 [(0, .ref t), (2, bI v2), (3, bI v3), (4, bI v4)] [] μ ((F_X8_childAt_10 t v2 μ v3 v4).bind κ) := by
  unfold F_X8_childAt_10
  refine bD.ok fun hk => ?_
  refine b_s (pc' := 12) (lv1 := [(0, .ref t), (2, bI v2), (3, bI v3), (4, bI v4)]) (st' := [bI v4]) l85_10 (fun _ => rfl) ?_
  refine b_s (pc' := 13) (lv1 := [(0, .ref t), (2, bI v2), (3, bI v3), (4, bI v4)]) (st' := [bI v2, bI v4]) l85_12 (fun _ => rfl) ?_
  refine b_ige (pt := 34) l85_13 h4 h2 (by decide) rfl (fun c1 => ?_) (fun c1 => b_pc (pc' := 16) rfl ?_)
  · refine b_s (pc' := 35) (lv1 := [(0, .ref t), (2, bI v2), (3, bI v3), (4, bI v4)]) (st' := [bI v3]) l85_34 (fun _ => rfl) ?_
    exact b_reti l85_35 rfl h3 (hr _)
  · refine b_s (pc' := 17) (lv1 := [(0, .ref t), (2, bI v2), (3, bI v3), (4, bI v4)]) (st' := [bI v3]) l85_16 (fun _ => rfl) ?_
    refine b_s (pc' := 18) (lv1 := [(0, .ref t), (2, bI v2), (3, bI v3), (4, bI v4)]) (st' := [bI (-1), bI v3]) l85_17 (fun _ => rfl) ?_
    refine b_ieq (pt := 34) l85_18 h3 (by decide) (by decide) rfl (fun c2 => ?_) (fun c2 => b_pc (pc' := 21) rfl ?_)
    · refine b_s (pc' := 35) (lv1 := [(0, .ref t), (2, bI v2), (3, bI v3), (4, bI v4)]) (st' := [bI v3]) l85_34 (fun _ => rfl) ?_
      exact b_reti l85_35 rfl h3 (hr _)
    · refine b_s (pc' := 22) (lv1 := [(0, .ref t), (2, bI v2), (3, bI v3), (4, bI v4)]) (st' := [.ref t]) l85_21 (fun _ => rfl) ?_
      refine b_gp (q' := (t + 9)) (j := 9) l85_22 ht (by decide) (by decide) rfl hk rfl rfl (b_pc (pc' := 25) rfl ?_)
      refine b_s (pc' := 26) (lv1 := [(0, .ref t), (2, bI v2), (3, bI v3), (4, bI v4)]) (st' := [bI v3, .ref (t + 9)]) l85_25 (fun _ => rfl) ?_
      refine b_g fun g4 => ?_
      refine b_ial l85_26 (bTree_e ht 9 (by decide)) g4 (b_pc (pc' := 27) rfl ?_)
      refine b_w (pc' := 28) (lv1 := ax_st1 [(0, .ref t), (2, bI v2), (3, bI v3), (4, bI v4)] 3 (bI (μ (t + 9) v3.toNat))) (lv' := [(0, .ref t), (2, bI v2), (3, bI (μ (t + 9) v3.toNat)), (4, bI v4)]) (st' := []) l85_27 (fun _ => rfl) (bSb rfl (bSb rfl (bSb rfl (bSb rfl bSn)))) ?_
      refine b_inc (lv' := [(0, .ref t), (2, bI v2), (3, bI (μ (t + 9) v3.toNat)), (4, bI (v4 + 1))]) l85_28 rfl (by decide +kernel) (bSb rfl (bSb rfl (bSb rfl (bSb rfl bSn)))) fun g3 => (b_pc (pc' := 31) rfl ?_)
      refine b_s (pc' := 10) (lv1 := [(0, .ref t), (2, bI v2), (3, bI (μ (t + 9) v3.toNat)), (4, bI (v4 + 1))]) (st' := []) l85_31 (fun _ => rfl) ?_
      refine bD.wk (lv' := [(0, .ref t), (2, bI v2), (3, bI (μ (t + 9) v3.toNat)), (4, bI (v4 + 1))]) (bSb rfl (bSb rfl (bSb rfl (bSb rfl bSn)))) ?_
      exact H10 (μ (t + 9) v3.toNat) (v4 + 1) (bO_i hk (bTree_e ht 9 (by decide))) g3
theorem p_X8_childAt_10 {L : Nat} {xs : Nat → Int32} {d : Nat} {μ : bM} {t : Nat} {κ : (Int) → Option bX} (hr : ∀ r : Int, κ r = (bPc μ) r) (ht : bTree t) {v2 : Int} (h2 : bR v2) {v3 : Int} (h3 : bR v3) {v4 : Int} (h4 : bR v4) : bD L xs (d + 0) 85 10 [(0, .ref t), (2, bI v2), (3, bI v3), (4, bI v4)] [] μ ((bLoop (fun z => F_X8_childAt_10 t v2 μ z.1 z.2) (v3, v4)).bind κ) :=
  b_loop (fun z => [(0, .ref t), (2, bI v2), (3, bI z.1), (4, bI z.2)]) (fun z => μ) (fun z => bR z.1 ∧ bR z.2) (fun κ' hκ HH z hz => q_X8_childAt_10 (κ := κ') (fun r => (hκ _).trans (hr r)) (fun a3 a4 b3 b4 => HH (a3, a4) ⟨b3, b4⟩) ht h2 hz.1 hz.2) (v3, v4) ⟨h3, h4⟩
theorem r_X8_childAt {L : Nat} {xs : Nat → Int32} {d : Nat} {μ : bM} (t : Nat) (ht : bTree t) (v1 : Int) (h1 : bR v1) (v2 : Int) (h2 : bR v2) : bD L xs (d + 0) 85 0 [(0, .ref t), (1, bI v1), (2, bI v2)] [] μ ((F_X8_childAt t v1 v2 μ).bind (bPc μ)) := by
  have hr : ∀ r, (bPc μ) r = (bPc μ) r := fun _ => rfl
  unfold F_X8_childAt
  refine bD.ok fun hk => ?_
  refine b_s (pc' := 1) (lv1 := [(0, .ref t), (1, bI v1), (2, bI v2)]) (st' := [.ref t]) l85_0 (fun _ => rfl) ?_
  refine b_gp (q' := (t + 7)) (j := 7) l85_1 ht (by decide) (by decide) rfl hk rfl rfl (b_pc (pc' := 4) rfl ?_)
  refine b_s (pc' := 5) (lv1 := [(0, .ref t), (1, bI v1), (2, bI v2)]) (st' := [bI v1, .ref (t + 7)]) l85_4 (fun _ => rfl) ?_
  refine b_g fun g1 => ?_
  refine b_ial l85_5 (bTree_e ht 7 (by decide)) g1 (b_pc (pc' := 6) rfl ?_)
  refine b_w (pc' := 7) (lv1 := ax_st1 [(0, .ref t), (1, bI v1), (2, bI v2)] 3 (bI (μ (t + 7) v1.toNat))) (lv' := [(0, .ref t), (2, bI v2), (3, bI (μ (t + 7) v1.toNat))]) (st' := []) l85_6 (fun _ => rfl) (bSb rfl (bSb rfl (bSb rfl bSn))) ?_
  refine b_s (pc' := 8) (lv1 := [(0, .ref t), (2, bI v2), (3, bI (μ (t + 7) v1.toNat))]) (st' := [bI 0]) l85_7 (fun _ => rfl) ?_
  refine b_w (pc' := 10) (lv1 := ax_st1 [(0, .ref t), (2, bI v2), (3, bI (μ (t + 7) v1.toNat))] 4 (bI 0)) (lv' := [(0, .ref t), (2, bI v2), (3, bI (μ (t + 7) v1.toNat)), (4, bI 0)]) (st' := []) l85_8 (fun _ => rfl) (bSb rfl (bSb rfl (bSb rfl (bSb rfl bSn)))) ?_
  refine bD.wk (lv' := [(0, .ref t), (2, bI v2), (3, bI (μ (t + 7) v1.toNat)), (4, bI 0)]) (bSb rfl (bSb rfl (bSb rfl (bSb rfl bSn)))) ?_
  exact p_X8_childAt_10 hr ht h2 (bO_i hk (bTree_e ht 7 (by decide))) (by decide)
end
