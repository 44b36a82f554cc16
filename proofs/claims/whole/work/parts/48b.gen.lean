section
/-! ETModel.isSection -/
theorem l180_0 : (ax_dt (ax_T 180)).lookup 0 = some (.iload_n 0, 1, 0, 0, 0) := by decide +kernel
theorem l180_1 : (ax_dt (ax_T 180)).lookup 1 = some (.i2l, 1, 0, 0, 0) := by decide +kernel
theorem l180_2 : (ax_dt (ax_T 180)).lookup 2 = some (.lconst 0, 1, 0, 0, 0) := by decide +kernel
theorem l180_3 : (ax_dt (ax_T 180)).lookup 3 = some (.ldc2_w 292, 3, 0, 0, 2) := by decide +kernel
theorem l180_6 : (ax_dt (ax_T 180)).lookup 6 = some (.invokestatic 131, 3, 133, 3, 0) := by decide +kernel
theorem l180_9 : (ax_dt (ax_T 180)).lookup 9 = some (.ireturn, 1, 0, 0, 0) := by decide +kernel
noncomputable def F_X11_isSection (v0 : Int) (μ : bM) : Option (Int) := (F_X11_in v0 0 2 μ).bind fun w1 => some (w1)
theorem r_X11_isSection {L : Nat} {xs : Nat → Int32} {d : Nat} {μ : bM}  (v0 : Int) (h0 : bR v0) : bD L xs (d + 1) 180 0 [(0, bI v0)] [] μ ((F_X11_isSection v0 μ).bind (bPc μ)) := by
  have hr : ∀ r, (bPc μ) r = (bPc μ) r := fun _ => rfl
  unfold F_X11_isSection
  refine bD.ok fun hk => ?_
  refine b_s (pc' := 1) (lv1 := [(0, bI v0)]) (st' := [bI v0]) l180_0 (fun _ => rfl) ?_
  refine b_i2l l180_1 h0 (b_pc (pc' := 2) rfl ?_)
  refine b_lconst (e := 0) l180_2 (by decide) (b_pc (pc' := 3) rfl ?_)
  refine b_s (pc' := 6) (lv1 := [(0, bI v0)]) (st' := [bLg 2, bLg 0, bLg v0]) l180_3 (fun _ => rfl) ?_
  refine b_cPz l180_6 rfl (fun _ => trivial) (Nat.le_of_ble_eq_true rfl) (Nat.le_of_ble_eq_true rfl) rfl (r_X11_in v0 (bR_L h0) 0 (by decide) 2 (by decide)) fun w1 hw1 => b_pc (pc' := 9) rfl ?_
  exact b_retz l180_9 rfl hw1 (hr _)
/-! ETModel.size -/
theorem l181_0 : (ax_dt (ax_T 181)).lookup 0 = some (.aload_n 0, 1, 0, 0, 0) := by decide +kernel
theorem l181_1 : (ax_dt (ax_T 181)).lookup 1 = some (.iload_n 1, 1, 0, 0, 0) := by decide +kernel
theorem l181_2 : (ax_dt (ax_T 181)).lookup 2 = some (.invokestatic 294, 3, 180, 1, 0) := by decide +kernel
theorem l181_5 : (ax_dt (ax_T 181)).lookup 5 = some (.invokevirtual 127, 3, 134, 1, 0) := by decide +kernel
theorem l181_8 : (ax_dt (ax_T 181)).lookup 8 = some (.ifCond .eq 12, 3, 0, 0, 0) := by decide +kernel
theorem l181_11 : (ax_dt (ax_T 181)).lookup 11 = some (.aload_n 0, 1, 0, 0, 0) := by decide +kernel
theorem l181_12 : (ax_dt (ax_T 181)).lookup 12 = some (.getfield 65, 3, 9, 20, 0) := by decide +kernel
theorem l181_15 : (ax_dt (ax_T 181)).lookup 15 = some (.iload_n 1, 1, 0, 0, 0) := by decide +kernel
theorem l181_16 : (ax_dt (ax_T 181)).lookup 16 = some (.iaload, 1, 0, 0, 0) := by decide +kernel
theorem l181_17 : (ax_dt (ax_T 181)).lookup 17 = some (.goto 4, 3, 0, 0, 0) := by decide +kernel
theorem l181_20 : (ax_dt (ax_T 181)).lookup 20 = some (.iconst 0, 1, 0, 0, 0) := by decide +kernel
theorem l181_21 : (ax_dt (ax_T 181)).lookup 21 = some (.ireturn, 1, 0, 0, 0) := by decide +kernel
noncomputable def F_X11_size (v1 : Int) (μ : bM) : Option (Int × bM) := (F_X11_isSection v1 μ).bind fun w1 => bMm (F_X11_goes w1 μ) (fun w2 μ3 => if w2 = 0 then some (0, μ3) else bG (0 ≤ v1 ∧ v1 < 3) (some ((μ3 94 v1.toNat), μ3)))
theorem r_X11_size {L : Nat} {xs : Nat → Int32} {d : Nat} {μ : bM}  (v1 : Int) (h1 : bR v1) : bD L xs (d + 2) 181 0 [(0, .ref 76), (1, bI v1)] [] μ ((F_X11_size v1 μ).bind (bMc)) := by
  have hr : ∀ r, (bMc) r = (bMc) r := fun _ => rfl
  unfold F_X11_size
  refine bD.ok fun hk => ?_
  refine b_s (pc' := 1) (lv1 := [(0, .ref 76), (1, bI v1)]) (st' := [.ref 76]) l181_0 (fun _ => rfl) ?_
  refine b_s (pc' := 2) (lv1 := [(0, .ref 76), (1, bI v1)]) (st' := [bI v1, .ref 76]) l181_1 (fun _ => rfl) ?_
  refine b_cPz l181_2 rfl (fun _ => trivial) (Nat.le_of_ble_eq_true rfl) (Nat.le_of_ble_eq_true rfl) rfl (r_X11_isSection v1 h1) fun w1 hw1 => b_pc (pc' := 5) rfl ?_
  refine b_cMz l181_5 rfl (b_rc (ci := 9) (by rfl) (by decide) (by decide +kernel)) (Nat.le_of_ble_eq_true rfl) (Nat.le_of_ble_eq_true rfl) rfl (r_X11_goes w1 (bZ_R hw1)) fun w2 μ3 hw2 => bD.ok fun hk4 => b_pc (pc' := 8) rfl ?_
  refine b_zeq (pt := 20) l181_8 (bZ_R hw2) (by decide) rfl (fun c5 => ?_) (fun c5 => b_pc (pc' := 11) rfl ?_)
  · refine b_s (pc' := 21) (lv1 := [(0, .ref 76), (1, bI v1)]) (st' := [bI 0]) l181_20 (fun _ => rfl) ?_
    exact b_reti l181_21 rfl (by decide) (hr _)
  · refine b_s (pc' := 12) (lv1 := [(0, .ref 76), (1, bI v1)]) (st' := [.ref 76]) l181_11 (fun _ => rfl) ?_
    refine b_gp (q' := 94) (j := 18) l181_12 (by rfl) (by decide) (by decide) rfl hk4 rfl rfl (b_pc (pc' := 15) rfl ?_)
    refine b_s (pc' := 16) (lv1 := [(0, .ref 76), (1, bI v1)]) (st' := [bI v1, .ref 94]) l181_15 (fun _ => rfl) ?_
    refine b_g fun g6 => ?_
    refine b_ial l181_16 (by rfl) g6 (b_pc (pc' := 17) rfl ?_)
    refine b_s (pc' := 21) (lv1 := [(0, .ref 76), (1, bI v1)]) (st' := [bI (μ3 94 v1.toNat)]) l181_17 (fun _ => rfl) ?_
    exact b_reti l181_21 rfl (bO_i hk4 (by rfl)) (hr _)
/-! ETModel.isOctet -/
theorem l182_0 : (ax_dt (ax_T 182)).lookup 0 = some (.iload_n 1, 1, 0, 0, 0) := by decide +kernel
theorem l182_1 : (ax_dt (ax_T 182)).lookup 1 = some (.invokestatic 294, 3, 180, 1, 0) := by decide +kernel
theorem l182_4 : (ax_dt (ax_T 182)).lookup 4 = some (.ifCond .eq 25, 3, 0, 0, 0) := by decide +kernel
theorem l182_7 : (ax_dt (ax_T 182)).lookup 7 = some (.iload_n 2, 1, 0, 0, 0) := by decide +kernel
theorem l182_8 : (ax_dt (ax_T 182)).lookup 8 = some (.i2l, 1, 0, 0, 0) := by decide +kernel
theorem l182_9 : (ax_dt (ax_T 182)).lookup 9 = some (.lconst 0, 1, 0, 0, 0) := by decide +kernel
theorem l182_10 : (ax_dt (ax_T 182)).lookup 10 = some (.aload_n 0, 1, 0, 0, 0) := by decide +kernel
theorem l182_11 : (ax_dt (ax_T 182)).lookup 11 = some (.getfield 65, 3, 9, 20, 0) := by decide +kernel
theorem l182_14 : (ax_dt (ax_T 182)).lookup 14 = some (.iload_n 1, 1, 0, 0, 0) := by decide +kernel
theorem l182_15 : (ax_dt (ax_T 182)).lookup 15 = some (.iaload, 1, 0, 0, 0) := by decide +kernel
theorem l182_16 : (ax_dt (ax_T 182)).lookup 16 = some (.iconst 1, 1, 0, 0, 0) := by decide +kernel
theorem l182_17 : (ax_dt (ax_T 182)).lookup 17 = some (.isub, 1, 0, 0, 0) := by decide +kernel
theorem l182_18 : (ax_dt (ax_T 182)).lookup 18 = some (.i2l, 1, 0, 0, 0) := by decide +kernel
theorem l182_19 : (ax_dt (ax_T 182)).lookup 19 = some (.invokestatic 131, 3, 133, 3, 0) := by decide +kernel
theorem l182_22 : (ax_dt (ax_T 182)).lookup 22 = some (.ifCond .eq 7, 3, 0, 0, 0) := by decide +kernel
theorem l182_25 : (ax_dt (ax_T 182)).lookup 25 = some (.iconst 1, 1, 0, 0, 0) := by decide +kernel
theorem l182_26 : (ax_dt (ax_T 182)).lookup 26 = some (.goto 4, 3, 0, 0, 0) := by decide +kernel
theorem l182_29 : (ax_dt (ax_T 182)).lookup 29 = some (.iconst 0, 1, 0, 0, 0) := by decide +kernel
theorem l182_30 : (ax_dt (ax_T 182)).lookup 30 = some (.ireturn, 1, 0, 0, 0) := by decide +kernel
noncomputable def F_X11_isOctet (v1 : Int) (v2 : Int) (μ : bM) : Option (Int) := (F_X11_isSection v1 μ).bind fun w1 => if w1 = 0 then some (0) else bG (0 ≤ v1 ∧ v1 < 3) (bG (bR ((μ 94 v1.toNat) - 1)) ((F_X11_in v2 0 ((μ 94 v1.toNat) - 1) μ).bind fun w4 => if w4 = 0 then some (0) else some (1)))
theorem r_X11_isOctet {L : Nat} {xs : Nat → Int32} {d : Nat} {μ : bM}  (v1 : Int) (h1 : bR v1) (v2 : Int) (h2 : bR v2) : bD L xs (d + 2) 182 0 [(0, .ref 76), (1, bI v1), (2, bI v2)] [] μ ((F_X11_isOctet v1 v2 μ).bind (bPc μ)) := by
  have hr : ∀ r, (bPc μ) r = (bPc μ) r := fun _ => rfl
  unfold F_X11_isOctet
  refine bD.ok fun hk => ?_
  refine b_s (pc' := 1) (lv1 := [(0, .ref 76), (1, bI v1), (2, bI v2)]) (st' := [bI v1]) l182_0 (fun _ => rfl) ?_
  refine b_cPz l182_1 rfl (fun _ => trivial) (Nat.le_of_ble_eq_true rfl) (Nat.le_of_ble_eq_true rfl) rfl (r_X11_isSection v1 h1) fun w1 hw1 => b_pc (pc' := 4) rfl ?_
  refine b_zeq (pt := 29) l182_4 (bZ_R hw1) (by decide) rfl (fun c2 => ?_) (fun c2 => b_pc (pc' := 7) rfl ?_)
  · refine b_s (pc' := 30) (lv1 := [(0, .ref 76), (1, bI v1), (2, bI v2)]) (st' := [bI 0]) l182_29 (fun _ => rfl) ?_
    exact b_retz l182_30 rfl (by decide) (hr _)
  · refine b_s (pc' := 8) (lv1 := [(0, .ref 76), (1, bI v1), (2, bI v2)]) (st' := [bI v2]) l182_7 (fun _ => rfl) ?_
    refine b_i2l l182_8 h2 (b_pc (pc' := 9) rfl ?_)
    refine b_lconst (e := 0) l182_9 (by decide) (b_pc (pc' := 10) rfl ?_)
    refine b_s (pc' := 11) (lv1 := [(0, .ref 76), (1, bI v1), (2, bI v2)]) (st' := [.ref 76, bLg 0, bLg v2]) l182_10 (fun _ => rfl) ?_
    refine b_gp (q' := 94) (j := 18) l182_11 (by rfl) (by decide) (by decide) rfl hk rfl rfl (b_pc (pc' := 14) rfl ?_)
    refine b_s (pc' := 15) (lv1 := [(0, .ref 76), (1, bI v1), (2, bI v2)]) (st' := [bI v1, .ref 94, bLg 0, bLg v2]) l182_14 (fun _ => rfl) ?_
    refine b_g fun g6 => ?_
    refine b_ial l182_15 (by rfl) g6 (b_pc (pc' := 16) rfl ?_)
    refine b_s (pc' := 17) (lv1 := [(0, .ref 76), (1, bI v1), (2, bI v2)]) (st' := [bI 1, bI (μ 94 v1.toNat), bLg 0, bLg v2]) l182_16 (fun _ => rfl) ?_
    refine b_isub l182_17 fun g3 => (b_pc (pc' := 18) rfl ?_)
    refine b_i2l l182_18 g3 (b_pc (pc' := 19) rfl ?_)
    refine b_cPz l182_19 rfl (fun _ => trivial) (Nat.le_of_ble_eq_true rfl) (Nat.le_of_ble_eq_true rfl) rfl (r_X11_in v2 (bR_L h2) 0 (by decide) ((μ 94 v1.toNat) - 1) (bR_L g3)) fun w4 hw4 => b_pc (pc' := 22) rfl ?_
    refine b_zeq (pt := 29) l182_22 (bZ_R hw4) (by decide) rfl (fun c5 => ?_) (fun c5 => b_pc (pc' := 25) rfl ?_)
    · refine b_s (pc' := 30) (lv1 := [(0, .ref 76), (1, bI v1), (2, bI v2)]) (st' := [bI 0]) l182_29 (fun _ => rfl) ?_
      exact b_retz l182_30 rfl (by decide) (hr _)
    · refine b_s (pc' := 26) (lv1 := [(0, .ref 76), (1, bI v1), (2, bI v2)]) (st' := [bI 1]) l182_25 (fun _ => rfl) ?_
      refine b_s (pc' := 30) (lv1 := [(0, .ref 76), (1, bI v1), (2, bI v2)]) (st' := [bI 1]) l182_26 (fun _ => rfl) ?_
      exact b_retz l182_30 rfl (by decide) (hr _)
/-! ETModel.octet -/
theorem l183_0 : (ax_dt (ax_T 183)).lookup 0 = some (.aload_n 0, 1, 0, 0, 0) := by decide +kernel
theorem l183_1 : (ax_dt (ax_T 183)).lookup 1 = some (.aload_n 0, 1, 0, 0, 0) := by decide +kernel
theorem l183_2 : (ax_dt (ax_T 183)).lookup 2 = some (.iload_n 1, 1, 0, 0, 0) := by decide +kernel
theorem l183_3 : (ax_dt (ax_T 183)).lookup 3 = some (.iload_n 2, 1, 0, 0, 0) := by decide +kernel
theorem l183_4 : (ax_dt (ax_T 183)).lookup 4 = some (.invokevirtual 297, 3, 182, 2, 0) := by decide +kernel
theorem l183_7 : (ax_dt (ax_T 183)).lookup 7 = some (.invokevirtual 127, 3, 134, 1, 0) := by decide +kernel
theorem l183_10 : (ax_dt (ax_T 183)).lookup 10 = some (.ifCond .eq 21, 3, 0, 0, 0) := by decide +kernel
theorem l183_13 : (ax_dt (ax_T 183)).lookup 13 = some (.aload_n 0, 1, 0, 0, 0) := by decide +kernel
theorem l183_14 : (ax_dt (ax_T 183)).lookup 14 = some (.getfield 62, 3, 9, 19, 0) := by decide +kernel
theorem l183_17 : (ax_dt (ax_T 183)).lookup 17 = some (.iload_n 1, 1, 0, 0, 0) := by decide +kernel
theorem l183_18 : (ax_dt (ax_T 183)).lookup 18 = some (.invokestatic 284, 3, 135, 1, 0) := by decide +kernel
theorem l183_21 : (ax_dt (ax_T 183)).lookup 21 = some (.iload_n 2, 1, 0, 0, 0) := by decide +kernel
theorem l183_22 : (ax_dt (ax_T 183)).lookup 22 = some (.iadd, 1, 0, 0, 0) := by decide +kernel
theorem l183_23 : (ax_dt (ax_T 183)).lookup 23 = some (.baload, 1, 0, 0, 0) := by decide +kernel
theorem l183_24 : (ax_dt (ax_T 183)).lookup 24 = some (.sipush 255, 3, 0, 0, 0) := by decide +kernel
theorem l183_27 : (ax_dt (ax_T 183)).lookup 27 = some (.iand, 1, 0, 0, 0) := by decide +kernel
theorem l183_28 : (ax_dt (ax_T 183)).lookup 28 = some (.goto 4, 3, 0, 0, 0) := by decide +kernel
theorem l183_31 : (ax_dt (ax_T 183)).lookup 31 = some (.iconst 0, 1, 0, 0, 0) := by decide +kernel
theorem l183_32 : (ax_dt (ax_T 183)).lookup 32 = some (.ireturn, 1, 0, 0, 0) := by decide +kernel
noncomputable def F_X11_octet (v1 : Int) (v2 : Int) (μ : bM) : Option (Int × bM) := (F_X11_isOctet v1 v2 μ).bind fun w1 => bMm (F_X11_goes w1 μ) (fun w2 μ3 => if w2 = 0 then some (0, μ3) else (F_X11_from v1 μ3).bind fun w6 => bG (bR (w6 + v2)) (bG (0 ≤ (w6 + v2) ∧ (w6 + v2) < 40000) (some ((bAnd (μ3 93 (w6 + v2).toNat) 255), μ3))))
theorem r_X11_octet {L : Nat} {xs : Nat → Int32} {d : Nat} {μ : bM}  (v1 : Int) (h1 : bR v1) (v2 : Int) (h2 : bR v2) : bD L xs (d + 3) 183 0 [(0, .ref 76), (1, bI v1), (2, bI v2)] [] μ ((F_X11_octet v1 v2 μ).bind (bMc)) := by
  have hr : ∀ r, (bMc) r = (bMc) r := fun _ => rfl
  unfold F_X11_octet
  refine bD.ok fun hk => ?_
  refine b_s (pc' := 1) (lv1 := [(0, .ref 76), (1, bI v1), (2, bI v2)]) (st' := [.ref 76]) l183_0 (fun _ => rfl) ?_
  refine b_s (pc' := 2) (lv1 := [(0, .ref 76), (1, bI v1), (2, bI v2)]) (st' := [.ref 76, .ref 76]) l183_1 (fun _ => rfl) ?_
  refine b_s (pc' := 3) (lv1 := [(0, .ref 76), (1, bI v1), (2, bI v2)]) (st' := [bI v1, .ref 76, .ref 76]) l183_2 (fun _ => rfl) ?_
  refine b_s (pc' := 4) (lv1 := [(0, .ref 76), (1, bI v1), (2, bI v2)]) (st' := [bI v2, bI v1, .ref 76, .ref 76]) l183_3 (fun _ => rfl) ?_
  refine b_cPz l183_4 rfl (b_rc (ci := 9) (by rfl) (by decide) (by decide +kernel)) (Nat.le_of_ble_eq_true rfl) (Nat.le_of_ble_eq_true rfl) rfl (r_X11_isOctet v1 h1 v2 h2) fun w1 hw1 => b_pc (pc' := 7) rfl ?_
  refine b_cMz l183_7 rfl (b_rc (ci := 9) (by rfl) (by decide) (by decide +kernel)) (Nat.le_of_ble_eq_true rfl) (Nat.le_of_ble_eq_true rfl) rfl (r_X11_goes w1 (bZ_R hw1)) fun w2 μ3 hw2 => bD.ok fun hk4 => b_pc (pc' := 10) rfl ?_
  refine b_zeq (pt := 31) l183_10 (bZ_R hw2) (by decide) rfl (fun c5 => ?_) (fun c5 => b_pc (pc' := 13) rfl ?_)
  · refine b_s (pc' := 32) (lv1 := [(0, .ref 76), (1, bI v1), (2, bI v2)]) (st' := [bI 0]) l183_31 (fun _ => rfl) ?_
    exact b_reti l183_32 rfl (by decide) (hr _)
  · refine b_s (pc' := 14) (lv1 := [(0, .ref 76), (1, bI v1), (2, bI v2)]) (st' := [.ref 76]) l183_13 (fun _ => rfl) ?_
    refine b_gp (q' := 93) (j := 17) l183_14 (by rfl) (by decide) (by decide) rfl hk4 rfl rfl (b_pc (pc' := 17) rfl ?_)
    refine b_s (pc' := 18) (lv1 := [(0, .ref 76), (1, bI v1), (2, bI v2)]) (st' := [bI v1, .ref 93]) l183_17 (fun _ => rfl) ?_
    refine b_cPi l183_18 rfl (fun _ => trivial) (Nat.le_of_ble_eq_true rfl) (Nat.le_of_ble_eq_true rfl) rfl (r_X11_from v1 h1) fun w6 hw6 => b_pc (pc' := 21) rfl ?_
    refine b_s (pc' := 22) (lv1 := [(0, .ref 76), (1, bI v1), (2, bI v2)]) (st' := [bI v2, bI w6, .ref 93]) l183_21 (fun _ => rfl) ?_
    refine b_iadd l183_22 fun g7 => (b_pc (pc' := 23) rfl ?_)
    refine b_g fun g8 => ?_
    refine b_bal l183_23 (by rfl) g8 (b_pc (pc' := 24) rfl ?_)
    refine b_sipush l183_24 (by decide) (b_pc (pc' := 27) rfl ?_)
    refine b_iand l183_27 (b_pc (pc' := 28) rfl ?_)
    refine b_s (pc' := 32) (lv1 := [(0, .ref 76), (1, bI v1), (2, bI v2)]) (st' := [bI (bAnd (μ3 93 (w6 + v2).toNat) 255)]) l183_28 (fun _ => rfl) ?_
    exact b_reti l183_32 rfl (bi_rg _) (hr _)
/-! ETModel.load -/
theorem l184_0 : (ax_dt (ax_T 184)).lookup 0 = some (.aload_n 0, 1, 0, 0, 0) := by decide +kernel
theorem l184_1 : (ax_dt (ax_T 184)).lookup 1 = some (.iload_n 1, 1, 0, 0, 0) := by decide +kernel
theorem l184_2 : (ax_dt (ax_T 184)).lookup 2 = some (.invokestatic 294, 3, 180, 1, 0) := by decide +kernel
theorem l184_5 : (ax_dt (ax_T 184)).lookup 5 = some (.ifCond .ne 7, 3, 0, 0, 0) := by decide +kernel
theorem l184_8 : (ax_dt (ax_T 184)).lookup 8 = some (.iconst 1, 1, 0, 0, 0) := by decide +kernel
theorem l184_9 : (ax_dt (ax_T 184)).lookup 9 = some (.goto 19, 3, 0, 0, 0) := by decide +kernel
theorem l184_12 : (ax_dt (ax_T 184)).lookup 12 = some (.aload_n 0, 1, 0, 0, 0) := by decide +kernel
theorem l184_13 : (ax_dt (ax_T 184)).lookup 13 = some (.getfield 124, 3, 9, 2, 0) := by decide +kernel
theorem l184_16 : (ax_dt (ax_T 184)).lookup 16 = some (.iload_n 1, 1, 0, 0, 0) := by decide +kernel
theorem l184_17 : (ax_dt (ax_T 184)).lookup 17 = some (.invokestatic 281, 3, 136, 1, 0) := by decide +kernel
theorem l184_20 : (ax_dt (ax_T 184)).lookup 20 = some (.if_icmp .le 7, 3, 0, 0, 0) := by decide +kernel
theorem l184_23 : (ax_dt (ax_T 184)).lookup 23 = some (.iconst 2, 1, 0, 0, 0) := by decide +kernel
theorem l184_24 : (ax_dt (ax_T 184)).lookup 24 = some (.goto 4, 3, 0, 0, 0) := by decide +kernel
theorem l184_27 : (ax_dt (ax_T 184)).lookup 27 = some (.iconst 0, 1, 0, 0, 0) := by decide +kernel
theorem l184_28 : (ax_dt (ax_T 184)).lookup 28 = some (.putfield 120, 3, 9, 0, 0) := by decide +kernel
theorem l184_31 : (ax_dt (ax_T 184)).lookup 31 = some (.aload_n 0, 1, 0, 0, 0) := by decide +kernel
theorem l184_32 : (ax_dt (ax_T 184)).lookup 32 = some (.getfield 120, 3, 9, 0, 0) := by decide +kernel
theorem l184_35 : (ax_dt (ax_T 184)).lookup 35 = some (.ifCond .le 5, 3, 0, 0, 0) := by decide +kernel
theorem l184_38 : (ax_dt (ax_T 184)).lookup 38 = some (.iconst 0, 1, 0, 0, 0) := by decide +kernel
theorem l184_39 : (ax_dt (ax_T 184)).lookup 39 = some (.ireturn, 1, 0, 0, 0) := by decide +kernel
theorem l184_40 : (ax_dt (ax_T 184)).lookup 40 = some (.iconst 0, 1, 0, 0, 0) := by decide +kernel
theorem l184_41 : (ax_dt (ax_T 184)).lookup 41 = some (.istore_n 2, 1, 0, 0, 0) := by decide +kernel
theorem l184_42 : (ax_dt (ax_T 184)).lookup 42 = some (.iload_n 2, 1, 0, 0, 0) := by decide +kernel
theorem l184_43 : (ax_dt (ax_T 184)).lookup 43 = some (.aload_n 0, 1, 0, 0, 0) := by decide +kernel
theorem l184_44 : (ax_dt (ax_T 184)).lookup 44 = some (.getfield 124, 3, 9, 2, 0) := by decide +kernel
theorem l184_47 : (ax_dt (ax_T 184)).lookup 47 = some (.if_icmp .ge 26, 3, 0, 0, 0) := by decide +kernel
theorem l184_50 : (ax_dt (ax_T 184)).lookup 50 = some (.aload_n 0, 1, 0, 0, 0) := by decide +kernel
theorem l184_51 : (ax_dt (ax_T 184)).lookup 51 = some (.getfield 62, 3, 9, 19, 0) := by decide +kernel
theorem l184_54 : (ax_dt (ax_T 184)).lookup 54 = some (.iload_n 1, 1, 0, 0, 0) := by decide +kernel
theorem l184_55 : (ax_dt (ax_T 184)).lookup 55 = some (.invokestatic 284, 3, 135, 1, 0) := by decide +kernel
theorem l184_58 : (ax_dt (ax_T 184)).lookup 58 = some (.iload_n 2, 1, 0, 0, 0) := by decide +kernel
theorem l184_59 : (ax_dt (ax_T 184)).lookup 59 = some (.iadd, 1, 0, 0, 0) := by decide +kernel
theorem l184_60 : (ax_dt (ax_T 184)).lookup 60 = some (.aload_n 0, 1, 0, 0, 0) := by decide +kernel
theorem l184_61 : (ax_dt (ax_T 184)).lookup 61 = some (.getfield 7, 3, 9, 1, 0) := by decide +kernel
theorem l184_64 : (ax_dt (ax_T 184)).lookup 64 = some (.iload_n 2, 1, 0, 0, 0) := by decide +kernel
theorem l184_65 : (ax_dt (ax_T 184)).lookup 65 = some (.baload, 1, 0, 0, 0) := by decide +kernel
theorem l184_66 : (ax_dt (ax_T 184)).lookup 66 = some (.bastore, 1, 0, 0, 0) := by decide +kernel
theorem l184_67 : (ax_dt (ax_T 184)).lookup 67 = some (.iinc 2 1, 3, 0, 0, 0) := by decide +kernel
theorem l184_70 : (ax_dt (ax_T 184)).lookup 70 = some (.goto (-28), 3, 0, 0, 0) := by decide +kernel
theorem l184_73 : (ax_dt (ax_T 184)).lookup 73 = some (.aload_n 0, 1, 0, 0, 0) := by decide +kernel
theorem l184_74 : (ax_dt (ax_T 184)).lookup 74 = some (.getfield 65, 3, 9, 20, 0) := by decide +kernel
theorem l184_77 : (ax_dt (ax_T 184)).lookup 77 = some (.iload_n 1, 1, 0, 0, 0) := by decide +kernel
theorem l184_78 : (ax_dt (ax_T 184)).lookup 78 = some (.aload_n 0, 1, 0, 0, 0) := by decide +kernel
theorem l184_79 : (ax_dt (ax_T 184)).lookup 79 = some (.getfield 124, 3, 9, 2, 0) := by decide +kernel
theorem l184_82 : (ax_dt (ax_T 184)).lookup 82 = some (.iastore, 1, 0, 0, 0) := by decide +kernel
theorem l184_83 : (ax_dt (ax_T 184)).lookup 83 = some (.aload_n 0, 1, 0, 0, 0) := by decide +kernel
theorem l184_84 : (ax_dt (ax_T 184)).lookup 84 = some (.iconst 0, 1, 0, 0, 0) := by decide +kernel
theorem l184_85 : (ax_dt (ax_T 184)).lookup 85 = some (.putfield 124, 3, 9, 2, 0) := by decide +kernel
theorem l184_88 : (ax_dt (ax_T 184)).lookup 88 = some (.aload_n 0, 1, 0, 0, 0) := by decide +kernel
theorem l184_89 : (ax_dt (ax_T 184)).lookup 89 = some (.getfield 65, 3, 9, 20, 0) := by decide +kernel
theorem l184_92 : (ax_dt (ax_T 184)).lookup 92 = some (.iload_n 1, 1, 0, 0, 0) := by decide +kernel
theorem l184_93 : (ax_dt (ax_T 184)).lookup 93 = some (.iaload, 1, 0, 0, 0) := by decide +kernel
theorem l184_94 : (ax_dt (ax_T 184)).lookup 94 = some (.ireturn, 1, 0, 0, 0) := by decide +kernel
noncomputable def F_X11_load_73 (v1 : Int) (μ : bM) : Option (Int × bM) := bG (0 ≤ v1 ∧ v1 < 3) (bG (0 ≤ v1 ∧ v1 < 3) (some (((bset (bset μ 94 v1.toNat (μ 76 2)) 76 2 0) 94 v1.toNat), (bset (bset μ 94 v1.toNat (μ 76 2)) 76 2 0))))
noncomputable def F_X11_load_42 (v1 : Int) (v2 : Int) (μ : bM) : Option ((Int × bM) ⊕ (Int × bM)) := if (μ 76 2) ≤ v2 then bUp (F_X11_load_73 v1 μ) else (F_X11_from v1 μ).bind fun w2 => bG (bR (w2 + v2)) (bG (0 ≤ v2 ∧ v2 < 12000) (bG (0 ≤ (w2 + v2) ∧ (w2 + v2) < 40000) (bG (bR (v2 + 1)) (some (.inl ((v2 + 1), (bset μ 93 (w2 + v2).toNat (μ 77 v2.toNat))))))))
noncomputable def F_X11_load (v1 : Int) (μ : bM) : Option (Int × bM) := (F_X11_isSection v1 μ).bind fun w1 => if ¬ w1 = 0 then (F_X11_most v1 μ).bind fun w3 => if (μ 76 2) ≤ w3 then if ((bset μ 76 0 0) 76 0) ≤ 0 then bLoop (fun z => F_X11_load_42 v1 z.1 z.2) (0, (bset μ 76 0 0)) else some (0, (bset μ 76 0 0)) else if ((bset μ 76 0 2) 76 0) ≤ 0 then bLoop (fun z => F_X11_load_42 v1 z.1 z.2) (0, (bset μ 76 0 2)) else some (0, (bset μ 76 0 2)) else if ((bset μ 76 0 1) 76 0) ≤ 0 then bLoop (fun z => F_X11_load_42 v1 z.1 z.2) (0, (bset μ 76 0 1)) else some (0, (bset μ 76 0 1))
theorem p_X11_load_73 {L : Nat} {xs : Nat → Int32} {d : Nat} {μ : bM}  {κ : (Int × bM) → Option bX} (hr : ∀ r : Int × bM, κ r = (bMc) r)  {v1 : Int} (h1 : bR v1) : bD L xs (d + 2) 184 73 [(0, .ref 76), (1, bI v1)] [] μ ((F_X11_load_73 v1 μ).bind κ) := by
  unfold F_X11_load_73
  refine bD.ok fun hk => ?_
  refine b_s (pc' := 74) (lv1 := [(0, .ref 76), (1, bI v1)]) (st' := [.ref 76]) l184_73 (fun _ => rfl) ?_
  refine b_gp (q' := 94) (j := 18) l184_74 (by rfl) (by decide) (by decide) rfl hk rfl rfl (b_pc (pc' := 77) rfl ?_)
  refine b_s (pc' := 78) (lv1 := [(0, .ref 76), (1, bI v1)]) (st' := [bI v1, .ref 94]) l184_77 (fun _ => rfl) ?_
  refine b_s (pc' := 79) (lv1 := [(0, .ref 76), (1, bI v1)]) (st' := [.ref 76, bI v1, .ref 94]) l184_78 (fun _ => rfl) ?_
  refine b_gi l184_79 (by rfl) (by decide) (by decide) rfl (b_pc (pc' := 82) rfl ?_)
  refine b_g fun g4 => ?_
  refine b_ias l184_82 (by rfl) g4 (bO_f hk (ci := 9) (by rfl) rfl) (bD.ok fun hk1 => b_pc (pc' := 83) rfl ?_)
  refine b_s (pc' := 84) (lv1 := [(0, .ref 76), (1, bI v1)]) (st' := [.ref 76]) l184_83 (fun _ => rfl) ?_
  refine b_s (pc' := 85) (lv1 := [(0, .ref 76), (1, bI v1)]) (st' := [bI 0, .ref 76]) l184_84 (fun _ => rfl) ?_
  refine b_pi l184_85 (by rfl) (by decide) (by decide) rfl rfl (by decide) (bD.ok fun hk2 => b_pc (pc' := 88) rfl ?_)
  refine b_s (pc' := 89) (lv1 := [(0, .ref 76), (1, bI v1)]) (st' := [.ref 76]) l184_88 (fun _ => rfl) ?_
  refine b_gp (q' := 94) (j := 18) l184_89 (by rfl) (by decide) (by decide) rfl hk2 rfl rfl (b_pc (pc' := 92) rfl ?_)
  refine b_s (pc' := 93) (lv1 := [(0, .ref 76), (1, bI v1)]) (st' := [bI v1, .ref 94]) l184_92 (fun _ => rfl) ?_
  refine b_g fun g3 => ?_
  refine b_ial l184_93 (by rfl) g3 (b_pc (pc' := 94) rfl ?_)
  exact b_reti l184_94 rfl (bO_i hk2 (by rfl)) (hr _)
theorem q_X11_load_42 {L : Nat} {xs : Nat → Int32} {d : Nat} {μ : bM} {v1 : Int} {κ : ((Int × bM) ⊕ (Int × bM)) → Option bX} (hr : ∀ r : Int × bM, κ (.inr r) = (bMc) r) (H42 : ∀ (v2 : Int) (μ : bM), bR v2 → bD L xs (d + 2) 184 42 [(0, .ref 76), (1, bI v1), (2, bI v2)] [] μ (κ (.inl (v2, μ))))  (h1 : bR v1) {v2 : Int} (h2 : bR v2) : bD L xs (d + 2) 184 42 [(0, .ref 76), (1, bI v1), (2, bI v2)] [] μ ((F_X11_load_42 v1 v2 μ).bind κ) := by
  unfold F_X11_load_42
  refine bD.ok fun hk => ?_
  refine b_s (pc' := 43) (lv1 := [(0, .ref 76), (1, bI v1), (2, bI v2)]) (st' := [bI v2]) l184_42 (fun _ => rfl) ?_
  refine b_s (pc' := 44) (lv1 := [(0, .ref 76), (1, bI v1), (2, bI v2)]) (st' := [.ref 76, bI v2]) l184_43 (fun _ => rfl) ?_
  refine b_gi l184_44 (by rfl) (by decide) (by decide) rfl (b_pc (pc' := 47) rfl ?_)
  refine b_ige (pt := 73) l184_47 h2 (bO_f hk (ci := 9) (by rfl) rfl) (by decide) rfl (fun c1 => ?_) (fun c1 => b_pc (pc' := 50) rfl ?_)
  · refine b_up (fun _ => rfl) ?_
    refine bD.wk (lv' := [(0, .ref 76), (1, bI v1)]) (bSb rfl (bSb rfl bSn)) ?_
    exact p_X11_load_73 hr h1
  · refine b_s (pc' := 51) (lv1 := [(0, .ref 76), (1, bI v1), (2, bI v2)]) (st' := [.ref 76]) l184_50 (fun _ => rfl) ?_
    refine b_gp (q' := 93) (j := 17) l184_51 (by rfl) (by decide) (by decide) rfl hk rfl rfl (b_pc (pc' := 54) rfl ?_)
    refine b_s (pc' := 55) (lv1 := [(0, .ref 76), (1, bI v1), (2, bI v2)]) (st' := [bI v1, .ref 93]) l184_54 (fun _ => rfl) ?_
    refine b_cPi l184_55 rfl (fun _ => trivial) (Nat.le_of_ble_eq_true rfl) (Nat.le_of_ble_eq_true rfl) rfl (r_X11_from v1 h1) fun w2 hw2 => b_pc (pc' := 58) rfl ?_
    refine b_s (pc' := 59) (lv1 := [(0, .ref 76), (1, bI v1), (2, bI v2)]) (st' := [bI v2, bI w2, .ref 93]) l184_58 (fun _ => rfl) ?_
    refine b_iadd l184_59 fun g3 => (b_pc (pc' := 60) rfl ?_)
    refine b_s (pc' := 61) (lv1 := [(0, .ref 76), (1, bI v1), (2, bI v2)]) (st' := [.ref 76, bI (w2 + v2), .ref 93]) l184_60 (fun _ => rfl) ?_
    refine b_gp (q' := 77) (j := 1) l184_61 (by rfl) (by decide) (by decide) rfl hk rfl rfl (b_pc (pc' := 64) rfl ?_)
    refine b_s (pc' := 65) (lv1 := [(0, .ref 76), (1, bI v1), (2, bI v2)]) (st' := [bI v2, .ref 77, bI (w2 + v2), .ref 93]) l184_64 (fun _ => rfl) ?_
    refine b_g fun g7 => ?_
    refine b_bal l184_65 (by rfl) g7 (b_pc (pc' := 66) rfl ?_)
    refine b_g fun g6 => ?_
    refine b_bas l184_66 (by rfl) g6 (bO_b hk (by rfl)) (bD.ok fun hk4 => b_pc (pc' := 67) rfl ?_)
    refine b_inc (lv' := [(0, .ref 76), (1, bI v1), (2, bI (v2 + 1))]) l184_67 rfl (by decide +kernel) (bSb rfl (bSb rfl (bSb rfl bSn))) fun g5 => (b_pc (pc' := 70) rfl ?_)
    refine b_s (pc' := 42) (lv1 := [(0, .ref 76), (1, bI v1), (2, bI (v2 + 1))]) (st' := []) l184_70 (fun _ => rfl) ?_
    refine bD.wk (lv' := [(0, .ref 76), (1, bI v1), (2, bI (v2 + 1))]) (bSb rfl (bSb rfl (bSb rfl bSn))) ?_
    exact H42 (v2 + 1) (bset μ 93 (w2 + v2).toNat (μ 77 v2.toNat)) g5
theorem p_X11_load_42 {L : Nat} {xs : Nat → Int32} {d : Nat} {μ : bM}  {κ : (Int × bM) → Option bX} (hr : ∀ r : Int × bM, κ r = (bMc) r)  {v1 : Int} (h1 : bR v1) {v2 : Int} (h2 : bR v2) : bD L xs (d + 2) 184 42 [(0, .ref 76), (1, bI v1), (2, bI v2)] [] μ ((bLoop (fun z => F_X11_load_42 v1 z.1 z.2) (v2, μ)).bind κ) :=
  b_loop (fun z => [(0, .ref 76), (1, bI v1), (2, bI z.1)]) (fun z => z.2) (fun z => bR z.1) (fun κ' hκ HH z hz => q_X11_load_42 (κ := κ') (fun r => (hκ _).trans (hr r)) (fun a2 am b2 => HH (a2, am) b2)  h1 hz) (v2, μ) h2
theorem r_X11_load {L : Nat} {xs : Nat → Int32} {d : Nat} {μ : bM}  (v1 : Int) (h1 : bR v1) : bD L xs (d + 2) 184 0 [(0, .ref 76), (1, bI v1)] [] μ ((F_X11_load v1 μ).bind (bMc)) := by
  have hr : ∀ r, (bMc) r = (bMc) r := fun _ => rfl
  unfold F_X11_load
  refine bD.ok fun hk => ?_
  refine b_s (pc' := 1) (lv1 := [(0, .ref 76), (1, bI v1)]) (st' := [.ref 76]) l184_0 (fun _ => rfl) ?_
  refine b_s (pc' := 2) (lv1 := [(0, .ref 76), (1, bI v1)]) (st' := [bI v1, .ref 76]) l184_1 (fun _ => rfl) ?_
  refine b_cPz l184_2 rfl (fun _ => trivial) (Nat.le_of_ble_eq_true rfl) (Nat.le_of_ble_eq_true rfl) rfl (r_X11_isSection v1 h1) fun w1 hw1 => b_pc (pc' := 5) rfl ?_
  refine b_zne (pt := 12) l184_5 (bZ_R hw1) (by decide) rfl (fun c2 => ?_) (fun c2 => b_pc (pc' := 8) rfl ?_)
  · refine b_s (pc' := 13) (lv1 := [(0, .ref 76), (1, bI v1)]) (st' := [.ref 76, .ref 76]) l184_12 (fun _ => rfl) ?_
    refine b_gi l184_13 (by rfl) (by decide) (by decide) rfl (b_pc (pc' := 16) rfl ?_)
    refine b_s (pc' := 17) (lv1 := [(0, .ref 76), (1, bI v1)]) (st' := [bI v1, bI (μ 76 2), .ref 76]) l184_16 (fun _ => rfl) ?_
    refine b_cPi l184_17 rfl (fun _ => trivial) (Nat.le_of_ble_eq_true rfl) (Nat.le_of_ble_eq_true rfl) rfl (r_X11_most v1 h1) fun w3 hw3 => b_pc (pc' := 20) rfl ?_
    refine b_ile (pt := 27) l184_20 (bO_f hk (ci := 9) (by rfl) rfl) hw3 (by decide) rfl (fun c4 => ?_) (fun c4 => b_pc (pc' := 23) rfl ?_)
    · refine b_s (pc' := 28) (lv1 := [(0, .ref 76), (1, bI v1)]) (st' := [bI 0, .ref 76]) l184_27 (fun _ => rfl) ?_
      refine b_pi l184_28 (by rfl) (by decide) (by decide) rfl rfl (by decide) (bD.ok fun hk5 => b_pc (pc' := 31) rfl ?_)
      refine b_s (pc' := 32) (lv1 := [(0, .ref 76), (1, bI v1)]) (st' := [.ref 76]) l184_31 (fun _ => rfl) ?_
      refine b_gi l184_32 (by rfl) (by decide) (by decide) rfl (b_pc (pc' := 35) rfl ?_)
      refine b_zle (pt := 40) l184_35 (bO_f hk5 (ci := 9) (by rfl) rfl) (by decide) rfl (fun c6 => ?_) (fun c6 => b_pc (pc' := 38) rfl ?_)
      · refine b_s (pc' := 41) (lv1 := [(0, .ref 76), (1, bI v1)]) (st' := [bI 0]) l184_40 (fun _ => rfl) ?_
        refine b_w (pc' := 42) (lv1 := ax_st1 [(0, .ref 76), (1, bI v1)] 2 (bI 0)) (lv' := [(0, .ref 76), (1, bI v1), (2, bI 0)]) (st' := []) l184_41 (fun _ => rfl) (bSb rfl (bSb rfl (bSb rfl bSn))) ?_
        refine bD.wk (lv' := [(0, .ref 76), (1, bI v1), (2, bI 0)]) (bSb rfl (bSb rfl (bSb rfl bSn))) ?_
        exact p_X11_load_42 hr h1 (by decide)
      · refine b_s (pc' := 39) (lv1 := [(0, .ref 76), (1, bI v1)]) (st' := [bI 0]) l184_38 (fun _ => rfl) ?_
        exact b_reti l184_39 rfl (by decide) (hr _)
    · refine b_s (pc' := 24) (lv1 := [(0, .ref 76), (1, bI v1)]) (st' := [bI 2, .ref 76]) l184_23 (fun _ => rfl) ?_
      refine b_s (pc' := 28) (lv1 := [(0, .ref 76), (1, bI v1)]) (st' := [bI 2, .ref 76]) l184_24 (fun _ => rfl) ?_
      refine b_pi l184_28 (by rfl) (by decide) (by decide) rfl rfl (by decide) (bD.ok fun hk7 => b_pc (pc' := 31) rfl ?_)
      refine b_s (pc' := 32) (lv1 := [(0, .ref 76), (1, bI v1)]) (st' := [.ref 76]) l184_31 (fun _ => rfl) ?_
      refine b_gi l184_32 (by rfl) (by decide) (by decide) rfl (b_pc (pc' := 35) rfl ?_)
      refine b_zle (pt := 40) l184_35 (bO_f hk7 (ci := 9) (by rfl) rfl) (by decide) rfl (fun c8 => ?_) (fun c8 => b_pc (pc' := 38) rfl ?_)
      · refine b_s (pc' := 41) (lv1 := [(0, .ref 76), (1, bI v1)]) (st' := [bI 0]) l184_40 (fun _ => rfl) ?_
        refine b_w (pc' := 42) (lv1 := ax_st1 [(0, .ref 76), (1, bI v1)] 2 (bI 0)) (lv' := [(0, .ref 76), (1, bI v1), (2, bI 0)]) (st' := []) l184_41 (fun _ => rfl) (bSb rfl (bSb rfl (bSb rfl bSn))) ?_
        refine bD.wk (lv' := [(0, .ref 76), (1, bI v1), (2, bI 0)]) (bSb rfl (bSb rfl (bSb rfl bSn))) ?_
        exact p_X11_load_42 hr h1 (by decide)
      · refine b_s (pc' := 39) (lv1 := [(0, .ref 76), (1, bI v1)]) (st' := [bI 0]) l184_38 (fun _ => rfl) ?_
        exact b_reti l184_39 rfl (by decide) (hr _)
  · refine b_s (pc' := 9) (lv1 := [(0, .ref 76), (1, bI v1)]) (st' := [bI 1, .ref 76]) l184_8 (fun _ => rfl) ?_
    refine b_s (pc' := 28) (lv1 := [(0, .ref 76), (1, bI v1)]) (st' := [bI 1, .ref 76]) l184_9 (fun _ => rfl) ?_
    refine b_pi l184_28 (by rfl) (by decide) (by decide) rfl rfl (by decide) (bD.ok fun hk9 => b_pc (pc' := 31) rfl ?_)
    refine b_s (pc' := 32) (lv1 := [(0, .ref 76), (1, bI v1)]) (st' := [.ref 76]) l184_31 (fun _ => rfl) ?_
    refine b_gi l184_32 (by rfl) (by decide) (by decide) rfl (b_pc (pc' := 35) rfl ?_)
    refine b_zle (pt := 40) l184_35 (bO_f hk9 (ci := 9) (by rfl) rfl) (by decide) rfl (fun c10 => ?_) (fun c10 => b_pc (pc' := 38) rfl ?_)
    · refine b_s (pc' := 41) (lv1 := [(0, .ref 76), (1, bI v1)]) (st' := [bI 0]) l184_40 (fun _ => rfl) ?_
      refine b_w (pc' := 42) (lv1 := ax_st1 [(0, .ref 76), (1, bI v1)] 2 (bI 0)) (lv' := [(0, .ref 76), (1, bI v1), (2, bI 0)]) (st' := []) l184_41 (fun _ => rfl) (bSb rfl (bSb rfl (bSb rfl bSn))) ?_
      refine bD.wk (lv' := [(0, .ref 76), (1, bI v1), (2, bI 0)]) (bSb rfl (bSb rfl (bSb rfl bSn))) ?_
      exact p_X11_load_42 hr h1 (by decide)
    · refine b_s (pc' := 39) (lv1 := [(0, .ref 76), (1, bI v1)]) (st' := [bI 0]) l184_38 (fun _ => rfl) ?_
      exact b_reti l184_39 rfl (by decide) (hr _)
/-! ETModel.alter -/
theorem l185_0 : (ax_dt (ax_T 185)).lookup 0 = some (.aload_n 0, 1, 0, 0, 0) := by decide +kernel
theorem l185_1 : (ax_dt (ax_T 185)).lookup 1 = some (.aload_n 0, 1, 0, 0, 0) := by decide +kernel
theorem l185_2 : (ax_dt (ax_T 185)).lookup 2 = some (.iload_n 1, 1, 0, 0, 0) := by decide +kernel
theorem l185_3 : (ax_dt (ax_T 185)).lookup 3 = some (.iload_n 2, 1, 0, 0, 0) := by decide +kernel
theorem l185_4 : (ax_dt (ax_T 185)).lookup 4 = some (.invokevirtual 297, 3, 182, 2, 0) := by decide +kernel
theorem l185_7 : (ax_dt (ax_T 185)).lookup 7 = some (.invokevirtual 127, 3, 134, 1, 0) := by decide +kernel
theorem l185_10 : (ax_dt (ax_T 185)).lookup 10 = some (.ifCond .ne 5, 3, 0, 0, 0) := by decide +kernel
theorem l185_13 : (ax_dt (ax_T 185)).lookup 13 = some (.iconst 0, 1, 0, 0, 0) := by decide +kernel
theorem l185_14 : (ax_dt (ax_T 185)).lookup 14 = some (.ireturn, 1, 0, 0, 0) := by decide +kernel
theorem l185_15 : (ax_dt (ax_T 185)).lookup 15 = some (.iload_n 1, 1, 0, 0, 0) := by decide +kernel
theorem l185_16 : (ax_dt (ax_T 185)).lookup 16 = some (.invokestatic 284, 3, 135, 1, 0) := by decide +kernel
theorem l185_19 : (ax_dt (ax_T 185)).lookup 19 = some (.iload_n 2, 1, 0, 0, 0) := by decide +kernel
theorem l185_20 : (ax_dt (ax_T 185)).lookup 20 = some (.iadd, 1, 0, 0, 0) := by decide +kernel
theorem l185_21 : (ax_dt (ax_T 185)).lookup 21 = some (.istore 4, 2, 0, 0, 0) := by decide +kernel
theorem l185_23 : (ax_dt (ax_T 185)).lookup 23 = some (.aload_n 0, 1, 0, 0, 0) := by decide +kernel
theorem l185_24 : (ax_dt (ax_T 185)).lookup 24 = some (.getfield 62, 3, 9, 19, 0) := by decide +kernel
theorem l185_27 : (ax_dt (ax_T 185)).lookup 27 = some (.iload 4, 2, 0, 0, 0) := by decide +kernel
theorem l185_29 : (ax_dt (ax_T 185)).lookup 29 = some (.aload_n 0, 1, 0, 0, 0) := by decide +kernel
theorem l185_30 : (ax_dt (ax_T 185)).lookup 30 = some (.getfield 62, 3, 9, 19, 0) := by decide +kernel
theorem l185_33 : (ax_dt (ax_T 185)).lookup 33 = some (.iload 4, 2, 0, 0, 0) := by decide +kernel
theorem l185_35 : (ax_dt (ax_T 185)).lookup 35 = some (.baload, 1, 0, 0, 0) := by decide +kernel
theorem l185_36 : (ax_dt (ax_T 185)).lookup 36 = some (.iload_n 3, 1, 0, 0, 0) := by decide +kernel
theorem l185_37 : (ax_dt (ax_T 185)).lookup 37 = some (.ixor, 1, 0, 0, 0) := by decide +kernel
theorem l185_38 : (ax_dt (ax_T 185)).lookup 38 = some (.i2b, 1, 0, 0, 0) := by decide +kernel
theorem l185_39 : (ax_dt (ax_T 185)).lookup 39 = some (.bastore, 1, 0, 0, 0) := by decide +kernel
theorem l185_40 : (ax_dt (ax_T 185)).lookup 40 = some (.aload_n 0, 1, 0, 0, 0) := by decide +kernel
theorem l185_41 : (ax_dt (ax_T 185)).lookup 41 = some (.getfield 62, 3, 9, 19, 0) := by decide +kernel
theorem l185_44 : (ax_dt (ax_T 185)).lookup 44 = some (.iload 4, 2, 0, 0, 0) := by decide +kernel
theorem l185_46 : (ax_dt (ax_T 185)).lookup 46 = some (.baload, 1, 0, 0, 0) := by decide +kernel
theorem l185_47 : (ax_dt (ax_T 185)).lookup 47 = some (.sipush 255, 3, 0, 0, 0) := by decide +kernel
theorem l185_50 : (ax_dt (ax_T 185)).lookup 50 = some (.iand, 1, 0, 0, 0) := by decide +kernel
theorem l185_51 : (ax_dt (ax_T 185)).lookup 51 = some (.ireturn, 1, 0, 0, 0) := by decide +kernel
noncomputable def F_X11_alter (v1 : Int) (v2 : Int) (v3 : Int) (μ : bM) : Option (Int × bM) := (F_X11_isOctet v1 v2 μ).bind fun w1 => bMm (F_X11_goes w1 μ) (fun w2 μ3 => if ¬ w2 = 0 then (F_X11_from v1 μ3).bind fun w6 => bG (bR (w6 + v2)) (bG (0 ≤ (w6 + v2) ∧ (w6 + v2) < 40000) (bG (0 ≤ (w6 + v2) ∧ (w6 + v2) < 40000) (bG (0 ≤ (w6 + v2) ∧ (w6 + v2) < 40000) (some ((bAnd ((bset μ3 93 (w6 + v2).toNat (b8 (bXor (μ3 93 (w6 + v2).toNat) v3))) 93 (w6 + v2).toNat) 255), (bset μ3 93 (w6 + v2).toNat (b8 (bXor (μ3 93 (w6 + v2).toNat) v3)))))))) else some (0, μ3))
theorem r_X11_alter {L : Nat} {xs : Nat → Int32} {d : Nat} {μ : bM}  (v1 : Int) (h1 : bR v1) (v2 : Int) (h2 : bR v2) (v3 : Int) (h3 : bR v3) : bD L xs (d + 3) 185 0 [(0, .ref 76), (1, bI v1), (2, bI v2), (3, bI v3)] [] μ ((F_X11_alter v1 v2 v3 μ).bind (bMc)) := by
  have hr : ∀ r, (bMc) r = (bMc) r := fun _ => rfl
  unfold F_X11_alter
  refine bD.ok fun hk => ?_
  refine b_s (pc' := 1) (lv1 := [(0, .ref 76), (1, bI v1), (2, bI v2), (3, bI v3)]) (st' := [.ref 76]) l185_0 (fun _ => rfl) ?_
  refine b_s (pc' := 2) (lv1 := [(0, .ref 76), (1, bI v1), (2, bI v2), (3, bI v3)]) (st' := [.ref 76, .ref 76]) l185_1 (fun _ => rfl) ?_
  refine b_s (pc' := 3) (lv1 := [(0, .ref 76), (1, bI v1), (2, bI v2), (3, bI v3)]) (st' := [bI v1, .ref 76, .ref 76]) l185_2 (fun _ => rfl) ?_
  refine b_s (pc' := 4) (lv1 := [(0, .ref 76), (1, bI v1), (2, bI v2), (3, bI v3)]) (st' := [bI v2, bI v1, .ref 76, .ref 76]) l185_3 (fun _ => rfl) ?_
  refine b_cPz l185_4 rfl (b_rc (ci := 9) (by rfl) (by decide) (by decide +kernel)) (Nat.le_of_ble_eq_true rfl) (Nat.le_of_ble_eq_true rfl) rfl (r_X11_isOctet v1 h1 v2 h2) fun w1 hw1 => b_pc (pc' := 7) rfl ?_
  refine b_cMz l185_7 rfl (b_rc (ci := 9) (by rfl) (by decide) (by decide +kernel)) (Nat.le_of_ble_eq_true rfl) (Nat.le_of_ble_eq_true rfl) rfl (r_X11_goes w1 (bZ_R hw1)) fun w2 μ3 hw2 => bD.ok fun hk4 => b_pc (pc' := 10) rfl ?_
  refine b_zne (pt := 15) l185_10 (bZ_R hw2) (by decide) rfl (fun c5 => ?_) (fun c5 => b_pc (pc' := 13) rfl ?_)
  · refine b_s (pc' := 16) (lv1 := [(0, .ref 76), (1, bI v1), (2, bI v2), (3, bI v3)]) (st' := [bI v1]) l185_15 (fun _ => rfl) ?_
    refine b_cPi l185_16 rfl (fun _ => trivial) (Nat.le_of_ble_eq_true rfl) (Nat.le_of_ble_eq_true rfl) rfl (r_X11_from v1 h1) fun w6 hw6 => b_pc (pc' := 19) rfl ?_
    refine b_s (pc' := 20) (lv1 := [(0, .ref 76), (1, bI v1), (2, bI v2), (3, bI v3)]) (st' := [bI v2, bI w6]) l185_19 (fun _ => rfl) ?_
    refine b_iadd l185_20 fun g7 => (b_pc (pc' := 21) rfl ?_)
    refine b_w (pc' := 23) (lv1 := ax_st1 [(0, .ref 76), (1, bI v1), (2, bI v2), (3, bI v3)] 4 (bI (w6 + v2))) (lv' := [(0, .ref 76), (3, bI v3), (4, bI (w6 + v2))]) (st' := []) l185_21 (fun _ => rfl) (bSb rfl (bSb rfl (bSb rfl bSn))) ?_
    refine b_s (pc' := 24) (lv1 := [(0, .ref 76), (3, bI v3), (4, bI (w6 + v2))]) (st' := [.ref 76]) l185_23 (fun _ => rfl) ?_
    refine b_gp (q' := 93) (j := 17) l185_24 (by rfl) (by decide) (by decide) rfl hk4 rfl rfl (b_pc (pc' := 27) rfl ?_)
    refine b_s (pc' := 29) (lv1 := [(0, .ref 76), (3, bI v3), (4, bI (w6 + v2))]) (st' := [bI (w6 + v2), .ref 93]) l185_27 (fun _ => rfl) ?_
    refine b_s (pc' := 30) (lv1 := [(0, .ref 76), (3, bI v3), (4, bI (w6 + v2))]) (st' := [.ref 76, bI (w6 + v2), .ref 93]) l185_29 (fun _ => rfl) ?_
    refine b_gp (q' := 93) (j := 17) l185_30 (by rfl) (by decide) (by decide) rfl hk4 rfl rfl (b_pc (pc' := 33) rfl ?_)
    refine b_s (pc' := 35) (lv1 := [(0, .ref 76), (3, bI v3), (4, bI (w6 + v2))]) (st' := [bI (w6 + v2), .ref 93, bI (w6 + v2), .ref 93]) l185_33 (fun _ => rfl) ?_
    refine b_g fun g11 => ?_
    refine b_bal l185_35 (by rfl) g11 (b_pc (pc' := 36) rfl ?_)
    refine b_s (pc' := 37) (lv1 := [(0, .ref 76), (3, bI v3), (4, bI (w6 + v2))]) (st' := [bI v3, bI (μ3 93 (w6 + v2).toNat), bI (w6 + v2), .ref 93]) l185_36 (fun _ => rfl) ?_
    refine b_ixor l185_37 (b_pc (pc' := 38) rfl ?_)
    refine b_i2b l185_38 (b_pc (pc' := 39) rfl ?_)
    refine b_g fun g10 => ?_
    refine b_bas l185_39 (by rfl) g10 (b8_B _) (bD.ok fun hk8 => b_pc (pc' := 40) rfl ?_)
    refine b_s (pc' := 41) (lv1 := [(0, .ref 76), (3, bI v3), (4, bI (w6 + v2))]) (st' := [.ref 76]) l185_40 (fun _ => rfl) ?_
    refine b_gp (q' := 93) (j := 17) l185_41 (by rfl) (by decide) (by decide) rfl hk8 rfl rfl (b_pc (pc' := 44) rfl ?_)
    refine b_s (pc' := 46) (lv1 := [(0, .ref 76), (3, bI v3), (4, bI (w6 + v2))]) (st' := [bI (w6 + v2), .ref 93]) l185_44 (fun _ => rfl) ?_
    refine b_g fun g9 => ?_
    refine b_bal l185_46 (by rfl) g9 (b_pc (pc' := 47) rfl ?_)
    refine b_sipush l185_47 (by decide) (b_pc (pc' := 50) rfl ?_)
    refine b_iand l185_50 (b_pc (pc' := 51) rfl ?_)
    exact b_reti l185_51 rfl (bi_rg _) (hr _)
  · refine b_s (pc' := 14) (lv1 := [(0, .ref 76), (1, bI v1), (2, bI v2), (3, bI v3)]) (st' := [bI 0]) l185_13 (fun _ => rfl) ?_
    exact b_reti l185_14 rfl (by decide) (hr _)
/-! ETModel.bad -/
theorem l186_0 : (ax_dt (ax_T 186)).lookup 0 = some (.aload_n 0, 1, 0, 0, 0) := by decide +kernel
theorem l186_1 : (ax_dt (ax_T 186)).lookup 1 = some (.getfield 300, 3, 9, 37, 0) := by decide +kernel
theorem l186_4 : (ax_dt (ax_T 186)).lookup 4 = some (.iconst (-1), 1, 0, 0, 0) := by decide +kernel
theorem l186_5 : (ax_dt (ax_T 186)).lookup 5 = some (.if_icmp .ne 18, 3, 0, 0, 0) := by decide +kernel
theorem l186_8 : (ax_dt (ax_T 186)).lookup 8 = some (.aload_n 0, 1, 0, 0, 0) := by decide +kernel
theorem l186_9 : (ax_dt (ax_T 186)).lookup 9 = some (.iload_n 3, 1, 0, 0, 0) := by decide +kernel
theorem l186_10 : (ax_dt (ax_T 186)).lookup 10 = some (.putfield 300, 3, 9, 37, 0) := by decide +kernel
theorem l186_13 : (ax_dt (ax_T 186)).lookup 13 = some (.aload_n 0, 1, 0, 0, 0) := by decide +kernel
theorem l186_14 : (ax_dt (ax_T 186)).lookup 14 = some (.iload_n 1, 1, 0, 0, 0) := by decide +kernel
theorem l186_15 : (ax_dt (ax_T 186)).lookup 15 = some (.putfield 303, 3, 9, 38, 0) := by decide +kernel
theorem l186_18 : (ax_dt (ax_T 186)).lookup 18 = some (.aload_n 0, 1, 0, 0, 0) := by decide +kernel
theorem l186_19 : (ax_dt (ax_T 186)).lookup 19 = some (.iload_n 2, 1, 0, 0, 0) := by decide +kernel
theorem l186_20 : (ax_dt (ax_T 186)).lookup 20 = some (.putfield 306, 3, 9, 39, 0) := by decide +kernel
theorem l186_23 : (ax_dt (ax_T 186)).lookup 23 = some (.return_, 1, 0, 0, 0) := by decide +kernel
noncomputable def F_X11_bad (v1 : Int) (v2 : Int) (v3 : Int) (μ : bM) : Option (Int × bM) := if ¬ (μ 76 37) = (-1) then some (0, μ) else some (0, (bset (bset (bset μ 76 37 v3) 76 38 v1) 76 39 v2))
theorem r_X11_bad {L : Nat} {xs : Nat → Int32} {d : Nat} {μ : bM}  (v1 : Int) (h1 : bR v1) (v2 : Int) (h2 : bR v2) (v3 : Int) (h3 : bR v3) : bD L xs (d + 0) 186 0 [(0, .ref 76), (1, bI v1), (2, bI v2), (3, bI v3)] [] μ ((F_X11_bad v1 v2 v3 μ).bind (bMc)) := by
  have hr : ∀ r, (bMc) r = (bMc) r := fun _ => rfl
  unfold F_X11_bad
  refine bD.ok fun hk => ?_
  refine b_s (pc' := 1) (lv1 := [(0, .ref 76), (1, bI v1), (2, bI v2), (3, bI v3)]) (st' := [.ref 76]) l186_0 (fun _ => rfl) ?_
  refine b_gi l186_1 (by rfl) (by decide) (by decide) rfl (b_pc (pc' := 4) rfl ?_)
  refine b_s (pc' := 5) (lv1 := [(0, .ref 76), (1, bI v1), (2, bI v2), (3, bI v3)]) (st' := [bI (-1), bI (μ 76 37)]) l186_4 (fun _ => rfl) ?_
  refine b_ine (pt := 23) l186_5 (bO_f hk (ci := 9) (by rfl) rfl) (by decide) (by decide) rfl (fun c1 => ?_) (fun c1 => b_pc (pc' := 8) rfl ?_)
  · exact b_retv l186_23 rfl (hr _)
  · refine b_s (pc' := 9) (lv1 := [(0, .ref 76), (1, bI v1), (2, bI v2), (3, bI v3)]) (st' := [.ref 76]) l186_8 (fun _ => rfl) ?_
    refine b_s (pc' := 10) (lv1 := [(0, .ref 76), (1, bI v1), (2, bI v2), (3, bI v3)]) (st' := [bI v3, .ref 76]) l186_9 (fun _ => rfl) ?_
    refine b_pi l186_10 (by rfl) (by decide) (by decide) rfl rfl h3 (bD.ok fun hk2 => b_pc (pc' := 13) rfl ?_)
    refine b_s (pc' := 14) (lv1 := [(0, .ref 76), (1, bI v1), (2, bI v2), (3, bI v3)]) (st' := [.ref 76]) l186_13 (fun _ => rfl) ?_
    refine b_s (pc' := 15) (lv1 := [(0, .ref 76), (1, bI v1), (2, bI v2), (3, bI v3)]) (st' := [bI v1, .ref 76]) l186_14 (fun _ => rfl) ?_
    refine b_pi l186_15 (by rfl) (by decide) (by decide) rfl rfl h1 (bD.ok fun hk3 => b_pc (pc' := 18) rfl ?_)
    refine b_s (pc' := 19) (lv1 := [(0, .ref 76), (1, bI v1), (2, bI v2), (3, bI v3)]) (st' := [.ref 76]) l186_18 (fun _ => rfl) ?_
    refine b_s (pc' := 20) (lv1 := [(0, .ref 76), (1, bI v1), (2, bI v2), (3, bI v3)]) (st' := [bI v2, .ref 76]) l186_19 (fun _ => rfl) ?_
    refine b_pi l186_20 (by rfl) (by decide) (by decide) rfl rfl h2 (bD.ok fun hk4 => b_pc (pc' := 23) rfl ?_)
    exact b_retv l186_23 rfl (hr _)
/-! ETModel.byteAt -/
theorem l187_0 : (ax_dt (ax_T 187)).lookup 0 = some (.aload_n 0, 1, 0, 0, 0) := by decide +kernel
theorem l187_1 : (ax_dt (ax_T 187)).lookup 1 = some (.getfield 62, 3, 9, 19, 0) := by decide +kernel
theorem l187_4 : (ax_dt (ax_T 187)).lookup 4 = some (.aload_n 0, 1, 0, 0, 0) := by decide +kernel
theorem l187_5 : (ax_dt (ax_T 187)).lookup 5 = some (.getfield 309, 3, 9, 42, 0) := by decide +kernel
theorem l187_8 : (ax_dt (ax_T 187)).lookup 8 = some (.invokestatic 284, 3, 135, 1, 0) := by decide +kernel
theorem l187_11 : (ax_dt (ax_T 187)).lookup 11 = some (.iload_n 1, 1, 0, 0, 0) := by decide +kernel
theorem l187_12 : (ax_dt (ax_T 187)).lookup 12 = some (.iadd, 1, 0, 0, 0) := by decide +kernel
theorem l187_13 : (ax_dt (ax_T 187)).lookup 13 = some (.baload, 1, 0, 0, 0) := by decide +kernel
theorem l187_14 : (ax_dt (ax_T 187)).lookup 14 = some (.sipush 255, 3, 0, 0, 0) := by decide +kernel
theorem l187_17 : (ax_dt (ax_T 187)).lookup 17 = some (.iand, 1, 0, 0, 0) := by decide +kernel
theorem l187_18 : (ax_dt (ax_T 187)).lookup 18 = some (.ireturn, 1, 0, 0, 0) := by decide +kernel
noncomputable def F_X11_byteAt (v1 : Int) (μ : bM) : Option (Int) := (F_X11_from (μ 76 42) μ).bind fun w1 => bG (bR (w1 + v1)) (bG (0 ≤ (w1 + v1) ∧ (w1 + v1) < 40000) (some ((bAnd (μ 93 (w1 + v1).toNat) 255))))
theorem r_X11_byteAt {L : Nat} {xs : Nat → Int32} {d : Nat} {μ : bM}  (v1 : Int) (h1 : bR v1) : bD L xs (d + 1) 187 0 [(0, .ref 76), (1, bI v1)] [] μ ((F_X11_byteAt v1 μ).bind (bPc μ)) := by
  have hr : ∀ r, (bPc μ) r = (bPc μ) r := fun _ => rfl
  unfold F_X11_byteAt
  refine bD.ok fun hk => ?_
  refine b_s (pc' := 1) (lv1 := [(0, .ref 76), (1, bI v1)]) (st' := [.ref 76]) l187_0 (fun _ => rfl) ?_
  refine b_gp (q' := 93) (j := 17) l187_1 (by rfl) (by decide) (by decide) rfl hk rfl rfl (b_pc (pc' := 4) rfl ?_)
  refine b_s (pc' := 5) (lv1 := [(0, .ref 76), (1, bI v1)]) (st' := [.ref 76, .ref 93]) l187_4 (fun _ => rfl) ?_
  refine b_gi l187_5 (by rfl) (by decide) (by decide) rfl (b_pc (pc' := 8) rfl ?_)
  refine b_cPi l187_8 rfl (fun _ => trivial) (Nat.le_of_ble_eq_true rfl) (Nat.le_of_ble_eq_true rfl) rfl (r_X11_from (μ 76 42) (bO_f hk (ci := 9) (by rfl) rfl)) fun w1 hw1 => b_pc (pc' := 11) rfl ?_
  refine b_s (pc' := 12) (lv1 := [(0, .ref 76), (1, bI v1)]) (st' := [bI v1, bI w1, .ref 93]) l187_11 (fun _ => rfl) ?_
  refine b_iadd l187_12 fun g2 => (b_pc (pc' := 13) rfl ?_)
  refine b_g fun g3 => ?_
  refine b_bal l187_13 (by rfl) g3 (b_pc (pc' := 14) rfl ?_)
  refine b_sipush l187_14 (by decide) (b_pc (pc' := 17) rfl ?_)
  refine b_iand l187_17 (b_pc (pc' := 18) rfl ?_)
  exact b_reti l187_18 rfl (bi_rg _) (hr _)
/-! ETModel.has -/
theorem l188_0 : (ax_dt (ax_T 188)).lookup 0 = some (.aload_n 0, 1, 0, 0, 0) := by decide +kernel
theorem l188_1 : (ax_dt (ax_T 188)).lookup 1 = some (.getfield 300, 3, 9, 37, 0) := by decide +kernel
theorem l188_4 : (ax_dt (ax_T 188)).lookup 4 = some (.iconst (-1), 1, 0, 0, 0) := by decide +kernel
theorem l188_5 : (ax_dt (ax_T 188)).lookup 5 = some (.if_icmp .ne 29, 3, 0, 0, 0) := by decide +kernel
theorem l188_8 : (ax_dt (ax_T 188)).lookup 8 = some (.aload_n 0, 1, 0, 0, 0) := by decide +kernel
theorem l188_9 : (ax_dt (ax_T 188)).lookup 9 = some (.getfield 312, 3, 9, 40, 0) := by decide +kernel
theorem l188_12 : (ax_dt (ax_T 188)).lookup 12 = some (.iload_n 1, 1, 0, 0, 0) := by decide +kernel
theorem l188_13 : (ax_dt (ax_T 188)).lookup 13 = some (.iadd, 1, 0, 0, 0) := by decide +kernel
theorem l188_14 : (ax_dt (ax_T 188)).lookup 14 = some (.aload_n 0, 1, 0, 0, 0) := by decide +kernel
theorem l188_15 : (ax_dt (ax_T 188)).lookup 15 = some (.getfield 315, 3, 9, 41, 0) := by decide +kernel
theorem l188_18 : (ax_dt (ax_T 188)).lookup 18 = some (.if_icmp .le 16, 3, 0, 0, 0) := by decide +kernel
theorem l188_21 : (ax_dt (ax_T 188)).lookup 21 = some (.aload_n 0, 1, 0, 0, 0) := by decide +kernel
theorem l188_22 : (ax_dt (ax_T 188)).lookup 22 = some (.iconst 1, 1, 0, 0, 0) := by decide +kernel
theorem l188_23 : (ax_dt (ax_T 188)).lookup 23 = some (.aload_n 0, 1, 0, 0, 0) := by decide +kernel
theorem l188_24 : (ax_dt (ax_T 188)).lookup 24 = some (.getfield 309, 3, 9, 42, 0) := by decide +kernel
theorem l188_27 : (ax_dt (ax_T 188)).lookup 27 = some (.aload_n 0, 1, 0, 0, 0) := by decide +kernel
theorem l188_28 : (ax_dt (ax_T 188)).lookup 28 = some (.getfield 315, 3, 9, 41, 0) := by decide +kernel
theorem l188_31 : (ax_dt (ax_T 188)).lookup 31 = some (.invokevirtual 318, 3, 186, 3, 0) := by decide +kernel
theorem l188_34 : (ax_dt (ax_T 188)).lookup 34 = some (.aload_n 0, 1, 0, 0, 0) := by decide +kernel
theorem l188_35 : (ax_dt (ax_T 188)).lookup 35 = some (.getfield 300, 3, 9, 37, 0) := by decide +kernel
theorem l188_38 : (ax_dt (ax_T 188)).lookup 38 = some (.iconst (-1), 1, 0, 0, 0) := by decide +kernel
theorem l188_39 : (ax_dt (ax_T 188)).lookup 39 = some (.if_icmp .ne 7, 3, 0, 0, 0) := by decide +kernel
theorem l188_42 : (ax_dt (ax_T 188)).lookup 42 = some (.iconst 1, 1, 0, 0, 0) := by decide +kernel
theorem l188_43 : (ax_dt (ax_T 188)).lookup 43 = some (.goto 4, 3, 0, 0, 0) := by decide +kernel
theorem l188_46 : (ax_dt (ax_T 188)).lookup 46 = some (.iconst 0, 1, 0, 0, 0) := by decide +kernel
theorem l188_47 : (ax_dt (ax_T 188)).lookup 47 = some (.ireturn, 1, 0, 0, 0) := by decide +kernel
noncomputable def F_X11_has (v1 : Int) (μ : bM) : Option (Int × bM) := if ¬ (μ 76 37) = (-1) then if ¬ (μ 76 37) = (-1) then some (0, μ) else some (1, μ) else bG (bR ((μ 76 40) + v1)) (if ((μ 76 40) + v1) ≤ (μ 76 41) then if ¬ (μ 76 37) = (-1) then some (0, μ) else some (1, μ) else bMm (F_X11_bad 1 (μ 76 42) (μ 76 41) μ) (fun w6 μ7 => if ¬ (μ7 76 37) = (-1) then some (0, μ7) else some (1, μ7)))
theorem r_X11_has {L : Nat} {xs : Nat → Int32} {d : Nat} {μ : bM}  (v1 : Int) (h1 : bR v1) : bD L xs (d + 1) 188 0 [(0, .ref 76), (1, bI v1)] [] μ ((F_X11_has v1 μ).bind (bMc)) := by
  have hr : ∀ r, (bMc) r = (bMc) r := fun _ => rfl
  unfold F_X11_has
  refine bD.ok fun hk => ?_
  refine b_s (pc' := 1) (lv1 := [(0, .ref 76), (1, bI v1)]) (st' := [.ref 76]) l188_0 (fun _ => rfl) ?_
  refine b_gi l188_1 (by rfl) (by decide) (by decide) rfl (b_pc (pc' := 4) rfl ?_)
  refine b_s (pc' := 5) (lv1 := [(0, .ref 76), (1, bI v1)]) (st' := [bI (-1), bI (μ 76 37)]) l188_4 (fun _ => rfl) ?_
  refine b_ine (pt := 34) l188_5 (bO_f hk (ci := 9) (by rfl) rfl) (by decide) (by decide) rfl (fun c1 => ?_) (fun c1 => b_pc (pc' := 8) rfl ?_)
  · refine b_s (pc' := 35) (lv1 := [(0, .ref 76), (1, bI v1)]) (st' := [.ref 76]) l188_34 (fun _ => rfl) ?_
    refine b_gi l188_35 (by rfl) (by decide) (by decide) rfl (b_pc (pc' := 38) rfl ?_)
    refine b_s (pc' := 39) (lv1 := [(0, .ref 76), (1, bI v1)]) (st' := [bI (-1), bI (μ 76 37)]) l188_38 (fun _ => rfl) ?_
    refine b_ine (pt := 46) l188_39 (bO_f hk (ci := 9) (by rfl) rfl) (by decide) (by decide) rfl (fun c2 => ?_) (fun c2 => b_pc (pc' := 42) rfl ?_)
    · refine b_s (pc' := 47) (lv1 := [(0, .ref 76), (1, bI v1)]) (st' := [bI 0]) l188_46 (fun _ => rfl) ?_
      exact b_retz l188_47 rfl (by decide) (hr _)
    · refine b_s (pc' := 43) (lv1 := [(0, .ref 76), (1, bI v1)]) (st' := [bI 1]) l188_42 (fun _ => rfl) ?_
      refine b_s (pc' := 47) (lv1 := [(0, .ref 76), (1, bI v1)]) (st' := [bI 1]) l188_43 (fun _ => rfl) ?_
      exact b_retz l188_47 rfl (by decide) (hr _)
  · refine b_s (pc' := 9) (lv1 := [(0, .ref 76), (1, bI v1)]) (st' := [.ref 76]) l188_8 (fun _ => rfl) ?_
    refine b_gi l188_9 (by rfl) (by decide) (by decide) rfl (b_pc (pc' := 12) rfl ?_)
    refine b_s (pc' := 13) (lv1 := [(0, .ref 76), (1, bI v1)]) (st' := [bI v1, bI (μ 76 40)]) l188_12 (fun _ => rfl) ?_
    refine b_iadd l188_13 fun g3 => (b_pc (pc' := 14) rfl ?_)
    refine b_s (pc' := 15) (lv1 := [(0, .ref 76), (1, bI v1)]) (st' := [.ref 76, bI ((μ 76 40) + v1)]) l188_14 (fun _ => rfl) ?_
    refine b_gi l188_15 (by rfl) (by decide) (by decide) rfl (b_pc (pc' := 18) rfl ?_)
    refine b_ile (pt := 34) l188_18 g3 (bO_f hk (ci := 9) (by rfl) rfl) (by decide) rfl (fun c4 => ?_) (fun c4 => b_pc (pc' := 21) rfl ?_)
    · refine b_s (pc' := 35) (lv1 := [(0, .ref 76), (1, bI v1)]) (st' := [.ref 76]) l188_34 (fun _ => rfl) ?_
      refine b_gi l188_35 (by rfl) (by decide) (by decide) rfl (b_pc (pc' := 38) rfl ?_)
      refine b_s (pc' := 39) (lv1 := [(0, .ref 76), (1, bI v1)]) (st' := [bI (-1), bI (μ 76 37)]) l188_38 (fun _ => rfl) ?_
      refine b_ine (pt := 46) l188_39 (bO_f hk (ci := 9) (by rfl) rfl) (by decide) (by decide) rfl (fun c5 => ?_) (fun c5 => b_pc (pc' := 42) rfl ?_)
      · refine b_s (pc' := 47) (lv1 := [(0, .ref 76), (1, bI v1)]) (st' := [bI 0]) l188_46 (fun _ => rfl) ?_
        exact b_retz l188_47 rfl (by decide) (hr _)
      · refine b_s (pc' := 43) (lv1 := [(0, .ref 76), (1, bI v1)]) (st' := [bI 1]) l188_42 (fun _ => rfl) ?_
        refine b_s (pc' := 47) (lv1 := [(0, .ref 76), (1, bI v1)]) (st' := [bI 1]) l188_43 (fun _ => rfl) ?_
        exact b_retz l188_47 rfl (by decide) (hr _)
    · refine b_s (pc' := 22) (lv1 := [(0, .ref 76), (1, bI v1)]) (st' := [.ref 76]) l188_21 (fun _ => rfl) ?_
      refine b_s (pc' := 23) (lv1 := [(0, .ref 76), (1, bI v1)]) (st' := [bI 1, .ref 76]) l188_22 (fun _ => rfl) ?_
      refine b_s (pc' := 24) (lv1 := [(0, .ref 76), (1, bI v1)]) (st' := [.ref 76, bI 1, .ref 76]) l188_23 (fun _ => rfl) ?_
      refine b_gi l188_24 (by rfl) (by decide) (by decide) rfl (b_pc (pc' := 27) rfl ?_)
      refine b_s (pc' := 28) (lv1 := [(0, .ref 76), (1, bI v1)]) (st' := [.ref 76, bI (μ 76 42), bI 1, .ref 76]) l188_27 (fun _ => rfl) ?_
      refine b_gi l188_28 (by rfl) (by decide) (by decide) rfl (b_pc (pc' := 31) rfl ?_)
      refine b_cMv l188_31 rfl (b_rc (ci := 9) (by rfl) (by decide) (by decide +kernel)) (Nat.le_of_ble_eq_true rfl) (Nat.le_of_ble_eq_true rfl) rfl (r_X11_bad 1 (by decide) (μ 76 42) (bO_f hk (ci := 9) (by rfl) rfl) (μ 76 41) (bO_f hk (ci := 9) (by rfl) rfl)) fun w6 μ7 hw6 => bD.ok fun hk8 => b_pc (pc' := 34) rfl ?_
      refine b_s (pc' := 35) (lv1 := [(0, .ref 76), (1, bI v1)]) (st' := [.ref 76]) l188_34 (fun _ => rfl) ?_
      refine b_gi l188_35 (by rfl) (by decide) (by decide) rfl (b_pc (pc' := 38) rfl ?_)
      refine b_s (pc' := 39) (lv1 := [(0, .ref 76), (1, bI v1)]) (st' := [bI (-1), bI (μ7 76 37)]) l188_38 (fun _ => rfl) ?_
      refine b_ine (pt := 46) l188_39 (bO_f hk8 (ci := 9) (by rfl) rfl) (by decide) (by decide) rfl (fun c9 => ?_) (fun c9 => b_pc (pc' := 42) rfl ?_)
      · refine b_s (pc' := 47) (lv1 := [(0, .ref 76), (1, bI v1)]) (st' := [bI 0]) l188_46 (fun _ => rfl) ?_
        exact b_retz l188_47 rfl (by decide) (hr _)
      · refine b_s (pc' := 43) (lv1 := [(0, .ref 76), (1, bI v1)]) (st' := [bI 1]) l188_42 (fun _ => rfl) ?_
        refine b_s (pc' := 47) (lv1 := [(0, .ref 76), (1, bI v1)]) (st' := [bI 1]) l188_43 (fun _ => rfl) ?_
        exact b_retz l188_47 rfl (by decide) (hr _)
/-! ETModel.fixed -/
theorem l189_0 : (ax_dt (ax_T 189)).lookup 0 = some (.aload_n 0, 1, 0, 0, 0) := by decide +kernel
theorem l189_1 : (ax_dt (ax_T 189)).lookup 1 = some (.iload_n 1, 1, 0, 0, 0) := by decide +kernel
theorem l189_2 : (ax_dt (ax_T 189)).lookup 2 = some (.invokevirtual 322, 3, 188, 1, 0) := by decide +kernel
theorem l189_5 : (ax_dt (ax_T 189)).lookup 5 = some (.ifCond .ne 5, 3, 0, 0, 0) := by decide +kernel
theorem l189_8 : (ax_dt (ax_T 189)).lookup 8 = some (.lconst 0, 1, 0, 0, 0) := by decide +kernel
theorem l189_9 : (ax_dt (ax_T 189)).lookup 9 = some (.lreturn, 1, 0, 0, 0) := by decide +kernel
theorem l189_10 : (ax_dt (ax_T 189)).lookup 10 = some (.lconst 0, 1, 0, 0, 0) := by decide +kernel
theorem l189_11 : (ax_dt (ax_T 189)).lookup 11 = some (.lstore_n 2, 1, 0, 0, 0) := by decide +kernel
theorem l189_12 : (ax_dt (ax_T 189)).lookup 12 = some (.iload_n 1, 1, 0, 0, 0) := by decide +kernel
theorem l189_13 : (ax_dt (ax_T 189)).lookup 13 = some (.iconst 1, 1, 0, 0, 0) := by decide +kernel
theorem l189_14 : (ax_dt (ax_T 189)).lookup 14 = some (.isub, 1, 0, 0, 0) := by decide +kernel
theorem l189_15 : (ax_dt (ax_T 189)).lookup 15 = some (.istore 4, 2, 0, 0, 0) := by decide +kernel
theorem l189_17 : (ax_dt (ax_T 189)).lookup 17 = some (.iload 4, 2, 0, 0, 0) := by decide +kernel
theorem l189_19 : (ax_dt (ax_T 189)).lookup 19 = some (.ifCond .lt 27, 3, 0, 0, 0) := by decide +kernel
theorem l189_22 : (ax_dt (ax_T 189)).lookup 22 = some (.lload_n 2, 1, 0, 0, 0) := by decide +kernel
theorem l189_23 : (ax_dt (ax_T 189)).lookup 23 = some (.bipush 8, 2, 0, 0, 0) := by decide +kernel
theorem l189_25 : (ax_dt (ax_T 189)).lookup 25 = some (.lshl, 1, 0, 0, 0) := by decide +kernel
theorem l189_26 : (ax_dt (ax_T 189)).lookup 26 = some (.aload_n 0, 1, 0, 0, 0) := by decide +kernel
theorem l189_27 : (ax_dt (ax_T 189)).lookup 27 = some (.aload_n 0, 1, 0, 0, 0) := by decide +kernel
theorem l189_28 : (ax_dt (ax_T 189)).lookup 28 = some (.getfield 312, 3, 9, 40, 0) := by decide +kernel
theorem l189_31 : (ax_dt (ax_T 189)).lookup 31 = some (.iload 4, 2, 0, 0, 0) := by decide +kernel
theorem l189_33 : (ax_dt (ax_T 189)).lookup 33 = some (.iadd, 1, 0, 0, 0) := by decide +kernel
theorem l189_34 : (ax_dt (ax_T 189)).lookup 34 = some (.invokevirtual 325, 3, 187, 1, 0) := by decide +kernel
theorem l189_37 : (ax_dt (ax_T 189)).lookup 37 = some (.i2l, 1, 0, 0, 0) := by decide +kernel
theorem l189_38 : (ax_dt (ax_T 189)).lookup 38 = some (.lor, 1, 0, 0, 0) := by decide +kernel
theorem l189_39 : (ax_dt (ax_T 189)).lookup 39 = some (.lstore_n 2, 1, 0, 0, 0) := by decide +kernel
theorem l189_40 : (ax_dt (ax_T 189)).lookup 40 = some (.iinc 4 (-1), 3, 0, 0, 0) := by decide +kernel
theorem l189_43 : (ax_dt (ax_T 189)).lookup 43 = some (.goto (-26), 3, 0, 0, 0) := by decide +kernel
theorem l189_46 : (ax_dt (ax_T 189)).lookup 46 = some (.aload_n 0, 1, 0, 0, 0) := by decide +kernel
theorem l189_47 : (ax_dt (ax_T 189)).lookup 47 = some (.aload_n 0, 1, 0, 0, 0) := by decide +kernel
theorem l189_48 : (ax_dt (ax_T 189)).lookup 48 = some (.getfield 312, 3, 9, 40, 0) := by decide +kernel
theorem l189_51 : (ax_dt (ax_T 189)).lookup 51 = some (.iload_n 1, 1, 0, 0, 0) := by decide +kernel
theorem l189_52 : (ax_dt (ax_T 189)).lookup 52 = some (.iadd, 1, 0, 0, 0) := by decide +kernel
theorem l189_53 : (ax_dt (ax_T 189)).lookup 53 = some (.putfield 312, 3, 9, 40, 0) := by decide +kernel
theorem l189_56 : (ax_dt (ax_T 189)).lookup 56 = some (.lload_n 2, 1, 0, 0, 0) := by decide +kernel
theorem l189_57 : (ax_dt (ax_T 189)).lookup 57 = some (.lreturn, 1, 0, 0, 0) := by decide +kernel
noncomputable def F_X11_fixed_17 (v1 : Int) (μ : bM) (v2 : Int) (v4 : Int) : Option ((Int × Int) ⊕ (Int × bM)) := if v4 < 0 then bG (bR ((μ 76 40) + v1)) (some (.inr (v2, (bset μ 76 40 ((μ 76 40) + v1))))) else bG (bR ((μ 76 40) + v4)) ((F_X11_byteAt ((μ 76 40) + v4) μ).bind fun w5 => bG (bR (v4 + (-1))) (some (.inl ((bOrL (bShlL v2 8) w5), (v4 + (-1))))))
noncomputable def F_X11_fixed (v1 : Int) (μ : bM) : Option (Int × bM) := bMm (F_X11_has v1 μ) (fun w1 μ2 => if ¬ w1 = 0 then bG (bR (v1 - 1)) (bLoop (fun z => F_X11_fixed_17 v1 μ2 z.1 z.2) (0, (v1 - 1))) else some (0, μ2))
theorem q_X11_fixed_17 {L : Nat} {xs : Nat → Int32} {d : Nat} {μ : bM} {v1 : Int} {κ : ((Int × Int) ⊕ (Int × bM)) → Option bX} (hr : ∀ r : Int × bM, κ (.inr r) = (bMc) r) (H17 : ∀ (v2 : Int) (v4 : Int), bRL v2 → bR v4 → bD L xs (d + 2) 189 17 [(0, .ref 76), (1, bI v1), (2, bLg v2), (4, bI v4)] [] μ (κ (.inl (v2, v4))))  (h1 : bR v1) {v2 : Int} (h2 : bRL v2) {v4 : Int} (h4 : bR v4) : bD L xs (d + 2) 189 17 [(0, .ref 76), (1, bI v1), (2, bLg v2), (4, bI v4)] [] μ ((F_X11_fixed_17 v1 μ v2 v4).bind κ) := by
  unfold F_X11_fixed_17
  refine bD.ok fun hk => ?_
  refine b_s (pc' := 19) (lv1 := [(0, .ref 76), (1, bI v1), (2, bLg v2), (4, bI v4)]) (st' := [bI v4]) l189_17 (fun _ => rfl) ?_
  refine b_zlt (pt := 46) l189_19 h4 (by decide) rfl (fun c1 => ?_) (fun c1 => b_pc (pc' := 22) rfl ?_)
  · refine b_s (pc' := 47) (lv1 := [(0, .ref 76), (1, bI v1), (2, bLg v2), (4, bI v4)]) (st' := [.ref 76]) l189_46 (fun _ => rfl) ?_
    refine b_s (pc' := 48) (lv1 := [(0, .ref 76), (1, bI v1), (2, bLg v2), (4, bI v4)]) (st' := [.ref 76, .ref 76]) l189_47 (fun _ => rfl) ?_
    refine b_gi l189_48 (by rfl) (by decide) (by decide) rfl (b_pc (pc' := 51) rfl ?_)
    refine b_s (pc' := 52) (lv1 := [(0, .ref 76), (1, bI v1), (2, bLg v2), (4, bI v4)]) (st' := [bI v1, bI (μ 76 40), .ref 76]) l189_51 (fun _ => rfl) ?_
    refine b_iadd l189_52 fun g2 => (b_pc (pc' := 53) rfl ?_)
    refine b_pi l189_53 (by rfl) (by decide) (by decide) rfl rfl g2 (bD.ok fun hk3 => b_pc (pc' := 56) rfl ?_)
    refine b_s (pc' := 57) (lv1 := [(0, .ref 76), (1, bI v1), (2, bLg v2), (4, bI v4)]) (st' := [bLg v2]) l189_56 (fun _ => rfl) ?_
    exact b_retl l189_57 rfl h2 (hr _)
  · refine b_s (pc' := 23) (lv1 := [(0, .ref 76), (1, bI v1), (2, bLg v2), (4, bI v4)]) (st' := [bLg v2]) l189_22 (fun _ => rfl) ?_
    refine b_bipush l189_23 (by decide) (b_pc (pc' := 25) rfl ?_)
    refine b_lshl l189_25 (b_pc (pc' := 26) rfl ?_)
    refine b_s (pc' := 27) (lv1 := [(0, .ref 76), (1, bI v1), (2, bLg v2), (4, bI v4)]) (st' := [.ref 76, bLg (bShlL v2 8)]) l189_26 (fun _ => rfl) ?_
    refine b_s (pc' := 28) (lv1 := [(0, .ref 76), (1, bI v1), (2, bLg v2), (4, bI v4)]) (st' := [.ref 76, .ref 76, bLg (bShlL v2 8)]) l189_27 (fun _ => rfl) ?_
    refine b_gi l189_28 (by rfl) (by decide) (by decide) rfl (b_pc (pc' := 31) rfl ?_)
    refine b_s (pc' := 33) (lv1 := [(0, .ref 76), (1, bI v1), (2, bLg v2), (4, bI v4)]) (st' := [bI v4, bI (μ 76 40), .ref 76, bLg (bShlL v2 8)]) l189_31 (fun _ => rfl) ?_
    refine b_iadd l189_33 fun g4 => (b_pc (pc' := 34) rfl ?_)
    refine b_cPi l189_34 rfl (b_rc (ci := 9) (by rfl) (by decide) (by decide +kernel)) (Nat.le_of_ble_eq_true rfl) (Nat.le_of_ble_eq_true rfl) rfl (r_X11_byteAt ((μ 76 40) + v4) g4) fun w5 hw5 => b_pc (pc' := 37) rfl ?_
    refine b_i2l l189_37 hw5 (b_pc (pc' := 38) rfl ?_)
    refine b_lor l189_38 (b_pc (pc' := 39) rfl ?_)
    refine b_w (pc' := 40) (lv1 := ax_st2 [(0, .ref 76), (1, bI v1), (2, bLg v2), (4, bI v4)] 2 (bLg (bOrL (bShlL v2 8) w5))) (lv' := [(0, .ref 76), (1, bI v1), (2, bLg (bOrL (bShlL v2 8) w5)), (4, bI v4)]) (st' := []) l189_39 (fun _ => rfl) (bSb rfl (bSb rfl (bSb rfl (bSb rfl bSn)))) ?_
    refine b_inc (lv' := [(0, .ref 76), (1, bI v1), (2, bLg (bOrL (bShlL v2 8) w5)), (4, bI (v4 + (-1)))]) l189_40 rfl (by decide +kernel) (bSb rfl (bSb rfl (bSb rfl (bSb rfl bSn)))) fun g6 => (b_pc (pc' := 43) rfl ?_)
    refine b_s (pc' := 17) (lv1 := [(0, .ref 76), (1, bI v1), (2, bLg (bOrL (bShlL v2 8) w5)), (4, bI (v4 + (-1)))]) (st' := []) l189_43 (fun _ => rfl) ?_
    refine bD.wk (lv' := [(0, .ref 76), (1, bI v1), (2, bLg (bOrL (bShlL v2 8) w5)), (4, bI (v4 + (-1)))]) (bSb rfl (bSb rfl (bSb rfl (bSb rfl bSn)))) ?_
    exact H17 (bOrL (bShlL v2 8) w5) (v4 + (-1)) (bl_rg _) g6
theorem p_X11_fixed_17 {L : Nat} {xs : Nat → Int32} {d : Nat} {μ : bM}  {κ : (Int × bM) → Option bX} (hr : ∀ r : Int × bM, κ r = (bMc) r)  {v1 : Int} (h1 : bR v1) {v2 : Int} (h2 : bRL v2) {v4 : Int} (h4 : bR v4) : bD L xs (d + 2) 189 17 [(0, .ref 76), (1, bI v1), (2, bLg v2), (4, bI v4)] [] μ ((bLoop (fun z => F_X11_fixed_17 v1 μ z.1 z.2) (v2, v4)).bind κ) :=
  b_loop (fun z => [(0, .ref 76), (1, bI v1), (2, bLg z.1), (4, bI z.2)]) (fun z => μ) (fun z => bRL z.1 ∧ bR z.2) (fun κ' hκ HH z hz => q_X11_fixed_17 (κ := κ') (fun r => (hκ _).trans (hr r)) (fun a2 a4 b2 b4 => HH (a2, a4) ⟨b2, b4⟩)  h1 hz.1 hz.2) (v2, v4) ⟨h2, h4⟩
theorem r_X11_fixed {L : Nat} {xs : Nat → Int32} {d : Nat} {μ : bM}  (v1 : Int) (h1 : bR v1) : bD L xs (d + 2) 189 0 [(0, .ref 76), (1, bI v1)] [] μ ((F_X11_fixed v1 μ).bind (bMc)) := by
  have hr : ∀ r, (bMc) r = (bMc) r := fun _ => rfl
  unfold F_X11_fixed
  refine bD.ok fun hk => ?_
  refine b_s (pc' := 1) (lv1 := [(0, .ref 76), (1, bI v1)]) (st' := [.ref 76]) l189_0 (fun _ => rfl) ?_
  refine b_s (pc' := 2) (lv1 := [(0, .ref 76), (1, bI v1)]) (st' := [bI v1, .ref 76]) l189_1 (fun _ => rfl) ?_
  refine b_cMz l189_2 rfl (b_rc (ci := 9) (by rfl) (by decide) (by decide +kernel)) (Nat.le_of_ble_eq_true rfl) (Nat.le_of_ble_eq_true rfl) rfl (r_X11_has v1 h1) fun w1 μ2 hw1 => bD.ok fun hk3 => b_pc (pc' := 5) rfl ?_
  refine b_zne (pt := 10) l189_5 (bZ_R hw1) (by decide) rfl (fun c4 => ?_) (fun c4 => b_pc (pc' := 8) rfl ?_)
  · refine b_lconst (e := 0) l189_10 (by decide) (b_pc (pc' := 11) rfl ?_)
    refine b_w (pc' := 12) (lv1 := ax_st2 [(0, .ref 76), (1, bI v1)] 2 (bLg 0)) (lv' := [(0, .ref 76), (1, bI v1), (2, bLg 0)]) (st' := []) l189_11 (fun _ => rfl) (bSb rfl (bSb rfl (bSb rfl bSn))) ?_
    refine b_s (pc' := 13) (lv1 := [(0, .ref 76), (1, bI v1), (2, bLg 0)]) (st' := [bI v1]) l189_12 (fun _ => rfl) ?_
    refine b_s (pc' := 14) (lv1 := [(0, .ref 76), (1, bI v1), (2, bLg 0)]) (st' := [bI 1, bI v1]) l189_13 (fun _ => rfl) ?_
    refine b_isub l189_14 fun g5 => (b_pc (pc' := 15) rfl ?_)
    refine b_w (pc' := 17) (lv1 := ax_st1 [(0, .ref 76), (1, bI v1), (2, bLg 0)] 4 (bI (v1 - 1))) (lv' := [(0, .ref 76), (1, bI v1), (2, bLg 0), (4, bI (v1 - 1))]) (st' := []) l189_15 (fun _ => rfl) (bSb rfl (bSb rfl (bSb rfl (bSb rfl bSn)))) ?_
    refine bD.wk (lv' := [(0, .ref 76), (1, bI v1), (2, bLg 0), (4, bI (v1 - 1))]) (bSb rfl (bSb rfl (bSb rfl (bSb rfl bSn)))) ?_
    exact p_X11_fixed_17 hr h1 (by decide) g5
  · refine b_lconst (e := 0) l189_8 (by decide) (b_pc (pc' := 9) rfl ?_)
    exact b_retl l189_9 rfl (by decide) (hr _)
/-! ETModel.row -/
theorem l190_0 : (ax_dt (ax_T 190)).lookup 0 = some (.aload_n 0, 1, 0, 0, 0) := by decide +kernel
theorem l190_1 : (ax_dt (ax_T 190)).lookup 1 = some (.getfield 312, 3, 9, 40, 0) := by decide +kernel
theorem l190_4 : (ax_dt (ax_T 190)).lookup 4 = some (.istore 4, 2, 0, 0, 0) := by decide +kernel
theorem l190_6 : (ax_dt (ax_T 190)).lookup 6 = some (.lconst 0, 1, 0, 0, 0) := by decide +kernel
theorem l190_7 : (ax_dt (ax_T 190)).lookup 7 = some (.lstore 5, 2, 0, 0, 0) := by decide +kernel
theorem l190_9 : (ax_dt (ax_T 190)).lookup 9 = some (.iconst 0, 1, 0, 0, 0) := by decide +kernel
theorem l190_10 : (ax_dt (ax_T 190)).lookup 10 = some (.istore 7, 2, 0, 0, 0) := by decide +kernel
theorem l190_12 : (ax_dt (ax_T 190)).lookup 12 = some (.iload 7, 2, 0, 0, 0) := by decide +kernel
theorem l190_14 : (ax_dt (ax_T 190)).lookup 14 = some (.bipush 10, 2, 0, 0, 0) := by decide +kernel
theorem l190_16 : (ax_dt (ax_T 190)).lookup 16 = some (.if_icmp .ge 173, 3, 0, 0, 0) := by decide +kernel
theorem l190_19 : (ax_dt (ax_T 190)).lookup 19 = some (.aload_n 0, 1, 0, 0, 0) := by decide +kernel
theorem l190_20 : (ax_dt (ax_T 190)).lookup 20 = some (.iconst 1, 1, 0, 0, 0) := by decide +kernel
theorem l190_21 : (ax_dt (ax_T 190)).lookup 21 = some (.invokevirtual 322, 3, 188, 1, 0) := by decide +kernel
theorem l190_24 : (ax_dt (ax_T 190)).lookup 24 = some (.ifCond .ne 5, 3, 0, 0, 0) := by decide +kernel
theorem l190_27 : (ax_dt (ax_T 190)).lookup 27 = some (.lconst 0, 1, 0, 0, 0) := by decide +kernel
theorem l190_28 : (ax_dt (ax_T 190)).lookup 28 = some (.lreturn, 1, 0, 0, 0) := by decide +kernel
theorem l190_29 : (ax_dt (ax_T 190)).lookup 29 = some (.aload_n 0, 1, 0, 0, 0) := by decide +kernel
theorem l190_30 : (ax_dt (ax_T 190)).lookup 30 = some (.aload_n 0, 1, 0, 0, 0) := by decide +kernel
theorem l190_31 : (ax_dt (ax_T 190)).lookup 31 = some (.getfield 312, 3, 9, 40, 0) := by decide +kernel
theorem l190_34 : (ax_dt (ax_T 190)).lookup 34 = some (.invokevirtual 325, 3, 187, 1, 0) := by decide +kernel
theorem l190_37 : (ax_dt (ax_T 190)).lookup 37 = some (.istore 8, 2, 0, 0, 0) := by decide +kernel
theorem l190_39 : (ax_dt (ax_T 190)).lookup 39 = some (.aload_n 0, 1, 0, 0, 0) := by decide +kernel
theorem l190_40 : (ax_dt (ax_T 190)).lookup 40 = some (.dup, 1, 0, 0, 0) := by decide +kernel
theorem l190_41 : (ax_dt (ax_T 190)).lookup 41 = some (.getfield 312, 3, 9, 40, 0) := by decide +kernel
theorem l190_44 : (ax_dt (ax_T 190)).lookup 44 = some (.iconst 1, 1, 0, 0, 0) := by decide +kernel
theorem l190_45 : (ax_dt (ax_T 190)).lookup 45 = some (.iadd, 1, 0, 0, 0) := by decide +kernel
theorem l190_46 : (ax_dt (ax_T 190)).lookup 46 = some (.putfield 312, 3, 9, 40, 0) := by decide +kernel
theorem l190_49 : (ax_dt (ax_T 190)).lookup 49 = some (.iload 7, 2, 0, 0, 0) := by decide +kernel
theorem l190_51 : (ax_dt (ax_T 190)).lookup 51 = some (.bipush 9, 2, 0, 0, 0) := by decide +kernel
theorem l190_53 : (ax_dt (ax_T 190)).lookup 53 = some (.if_icmp .ne 36, 3, 0, 0, 0) := by decide +kernel
theorem l190_56 : (ax_dt (ax_T 190)).lookup 56 = some (.iload 8, 2, 0, 0, 0) := by decide +kernel
theorem l190_58 : (ax_dt (ax_T 190)).lookup 58 = some (.ifCond .eq 31, 3, 0, 0, 0) := by decide +kernel
theorem l190_61 : (ax_dt (ax_T 190)).lookup 61 = some (.iload 8, 2, 0, 0, 0) := by decide +kernel
theorem l190_63 : (ax_dt (ax_T 190)).lookup 63 = some (.iload_n 1, 1, 0, 0, 0) := by decide +kernel
theorem l190_64 : (ax_dt (ax_T 190)).lookup 64 = some (.ifCond .eq 8, 3, 0, 0, 0) := by decide +kernel
theorem l190_67 : (ax_dt (ax_T 190)).lookup 67 = some (.bipush 127, 2, 0, 0, 0) := by decide +kernel
theorem l190_69 : (ax_dt (ax_T 190)).lookup 69 = some (.goto 4, 3, 0, 0, 0) := by decide +kernel
theorem l190_72 : (ax_dt (ax_T 190)).lookup 72 = some (.iconst 1, 1, 0, 0, 0) := by decide +kernel
theorem l190_73 : (ax_dt (ax_T 190)).lookup 73 = some (.if_icmp .eq 16, 3, 0, 0, 0) := by decide +kernel
theorem l190_76 : (ax_dt (ax_T 190)).lookup 76 = some (.aload_n 0, 1, 0, 0, 0) := by decide +kernel
theorem l190_77 : (ax_dt (ax_T 190)).lookup 77 = some (.iconst 4, 1, 0, 0, 0) := by decide +kernel
theorem l190_78 : (ax_dt (ax_T 190)).lookup 78 = some (.aload_n 0, 1, 0, 0, 0) := by decide +kernel
theorem l190_79 : (ax_dt (ax_T 190)).lookup 79 = some (.getfield 309, 3, 9, 42, 0) := by decide +kernel
theorem l190_82 : (ax_dt (ax_T 190)).lookup 82 = some (.iload 4, 2, 0, 0, 0) := by decide +kernel
theorem l190_84 : (ax_dt (ax_T 190)).lookup 84 = some (.invokevirtual 318, 3, 186, 3, 0) := by decide +kernel
theorem l190_87 : (ax_dt (ax_T 190)).lookup 87 = some (.lconst 0, 1, 0, 0, 0) := by decide +kernel
theorem l190_88 : (ax_dt (ax_T 190)).lookup 88 = some (.lreturn, 1, 0, 0, 0) := by decide +kernel
theorem l190_89 : (ax_dt (ax_T 190)).lookup 89 = some (.lload 5, 2, 0, 0, 0) := by decide +kernel
theorem l190_91 : (ax_dt (ax_T 190)).lookup 91 = some (.iload 8, 2, 0, 0, 0) := by decide +kernel
theorem l190_93 : (ax_dt (ax_T 190)).lookup 93 = some (.i2l, 1, 0, 0, 0) := by decide +kernel
theorem l190_94 : (ax_dt (ax_T 190)).lookup 94 = some (.ldc2_w 223, 3, 0, 0, 127) := by decide +kernel
theorem l190_97 : (ax_dt (ax_T 190)).lookup 97 = some (.land, 1, 0, 0, 0) := by decide +kernel
theorem l190_98 : (ax_dt (ax_T 190)).lookup 98 = some (.bipush 7, 2, 0, 0, 0) := by decide +kernel
theorem l190_100 : (ax_dt (ax_T 190)).lookup 100 = some (.iload 7, 2, 0, 0, 0) := by decide +kernel
theorem l190_102 : (ax_dt (ax_T 190)).lookup 102 = some (.imul, 1, 0, 0, 0) := by decide +kernel
theorem l190_103 : (ax_dt (ax_T 190)).lookup 103 = some (.lshl, 1, 0, 0, 0) := by decide +kernel
theorem l190_104 : (ax_dt (ax_T 190)).lookup 104 = some (.lor, 1, 0, 0, 0) := by decide +kernel
theorem l190_105 : (ax_dt (ax_T 190)).lookup 105 = some (.lstore 5, 2, 0, 0, 0) := by decide +kernel
theorem l190_107 : (ax_dt (ax_T 190)).lookup 107 = some (.iload 8, 2, 0, 0, 0) := by decide +kernel
theorem l190_109 : (ax_dt (ax_T 190)).lookup 109 = some (.sipush 128, 3, 0, 0, 0) := by decide +kernel
theorem l190_112 : (ax_dt (ax_T 190)).lookup 112 = some (.if_icmp .ge 71, 3, 0, 0, 0) := by decide +kernel
theorem l190_115 : (ax_dt (ax_T 190)).lookup 115 = some (.iload_n 1, 1, 0, 0, 0) := by decide +kernel
theorem l190_116 : (ax_dt (ax_T 190)).lookup 116 = some (.ifCond .eq 35, 3, 0, 0, 0) := by decide +kernel
theorem l190_119 : (ax_dt (ax_T 190)).lookup 119 = some (.iload 8, 2, 0, 0, 0) := by decide +kernel
theorem l190_121 : (ax_dt (ax_T 190)).lookup 121 = some (.bipush 64, 2, 0, 0, 0) := by decide +kernel
theorem l190_123 : (ax_dt (ax_T 190)).lookup 123 = some (.iand, 1, 0, 0, 0) := by decide +kernel
theorem l190_124 : (ax_dt (ax_T 190)).lookup 124 = some (.ifCond .eq 27, 3, 0, 0, 0) := by decide +kernel
theorem l190_127 : (ax_dt (ax_T 190)).lookup 127 = some (.iload 7, 2, 0, 0, 0) := by decide +kernel
theorem l190_129 : (ax_dt (ax_T 190)).lookup 129 = some (.bipush 9, 2, 0, 0, 0) := by decide +kernel
theorem l190_131 : (ax_dt (ax_T 190)).lookup 131 = some (.if_icmp .ge 20, 3, 0, 0, 0) := by decide +kernel
theorem l190_134 : (ax_dt (ax_T 190)).lookup 134 = some (.lload 5, 2, 0, 0, 0) := by decide +kernel
theorem l190_136 : (ax_dt (ax_T 190)).lookup 136 = some (.ldc2_w 328, 3, 0, 0, (-1)) := by decide +kernel
theorem l190_139 : (ax_dt (ax_T 190)).lookup 139 = some (.bipush 7, 2, 0, 0, 0) := by decide +kernel
theorem l190_141 : (ax_dt (ax_T 190)).lookup 141 = some (.iload 7, 2, 0, 0, 0) := by decide +kernel
theorem l190_143 : (ax_dt (ax_T 190)).lookup 143 = some (.imul, 1, 0, 0, 0) := by decide +kernel
theorem l190_144 : (ax_dt (ax_T 190)).lookup 144 = some (.bipush 7, 2, 0, 0, 0) := by decide +kernel
theorem l190_146 : (ax_dt (ax_T 190)).lookup 146 = some (.iadd, 1, 0, 0, 0) := by decide +kernel
theorem l190_147 : (ax_dt (ax_T 190)).lookup 147 = some (.lshl, 1, 0, 0, 0) := by decide +kernel
theorem l190_148 : (ax_dt (ax_T 190)).lookup 148 = some (.lor, 1, 0, 0, 0) := by decide +kernel
theorem l190_149 : (ax_dt (ax_T 190)).lookup 149 = some (.lstore 5, 2, 0, 0, 0) := by decide +kernel
theorem l190_151 : (ax_dt (ax_T 190)).lookup 151 = some (.iload_n 1, 1, 0, 0, 0) := by decide +kernel
theorem l190_152 : (ax_dt (ax_T 190)).lookup 152 = some (.ifCond .ne 28, 3, 0, 0, 0) := by decide +kernel
theorem l190_155 : (ax_dt (ax_T 190)).lookup 155 = some (.lload 5, 2, 0, 0, 0) := by decide +kernel
theorem l190_157 : (ax_dt (ax_T 190)).lookup 157 = some (.lconst 0, 1, 0, 0, 0) := by decide +kernel
theorem l190_158 : (ax_dt (ax_T 190)).lookup 158 = some (.lcmp, 1, 0, 0, 0) := by decide +kernel
theorem l190_159 : (ax_dt (ax_T 190)).lookup 159 = some (.ifCond .lt 10, 3, 0, 0, 0) := by decide +kernel
theorem l190_162 : (ax_dt (ax_T 190)).lookup 162 = some (.lload 5, 2, 0, 0, 0) := by decide +kernel
theorem l190_164 : (ax_dt (ax_T 190)).lookup 164 = some (.lload_n 2, 1, 0, 0, 0) := by decide +kernel
theorem l190_165 : (ax_dt (ax_T 190)).lookup 165 = some (.lcmp, 1, 0, 0, 0) := by decide +kernel
theorem l190_166 : (ax_dt (ax_T 190)).lookup 166 = some (.ifCond .le 14, 3, 0, 0, 0) := by decide +kernel
theorem l190_169 : (ax_dt (ax_T 190)).lookup 169 = some (.aload_n 0, 1, 0, 0, 0) := by decide +kernel
theorem l190_170 : (ax_dt (ax_T 190)).lookup 170 = some (.iconst 4, 1, 0, 0, 0) := by decide +kernel
theorem l190_171 : (ax_dt (ax_T 190)).lookup 171 = some (.aload_n 0, 1, 0, 0, 0) := by decide +kernel
theorem l190_172 : (ax_dt (ax_T 190)).lookup 172 = some (.getfield 309, 3, 9, 42, 0) := by decide +kernel
theorem l190_175 : (ax_dt (ax_T 190)).lookup 175 = some (.iload 4, 2, 0, 0, 0) := by decide +kernel
theorem l190_177 : (ax_dt (ax_T 190)).lookup 177 = some (.invokevirtual 318, 3, 186, 3, 0) := by decide +kernel
theorem l190_180 : (ax_dt (ax_T 190)).lookup 180 = some (.lload 5, 2, 0, 0, 0) := by decide +kernel
theorem l190_182 : (ax_dt (ax_T 190)).lookup 182 = some (.lreturn, 1, 0, 0, 0) := by decide +kernel
theorem l190_183 : (ax_dt (ax_T 190)).lookup 183 = some (.iinc 7 1, 3, 0, 0, 0) := by decide +kernel
theorem l190_186 : (ax_dt (ax_T 190)).lookup 186 = some (.goto (-174), 3, 0, 0, 0) := by decide +kernel
theorem l190_189 : (ax_dt (ax_T 190)).lookup 189 = some (.aload_n 0, 1, 0, 0, 0) := by decide +kernel
theorem l190_190 : (ax_dt (ax_T 190)).lookup 190 = some (.iconst 4, 1, 0, 0, 0) := by decide +kernel
theorem l190_191 : (ax_dt (ax_T 190)).lookup 191 = some (.aload_n 0, 1, 0, 0, 0) := by decide +kernel
theorem l190_192 : (ax_dt (ax_T 190)).lookup 192 = some (.getfield 309, 3, 9, 42, 0) := by decide +kernel
theorem l190_195 : (ax_dt (ax_T 190)).lookup 195 = some (.iload 4, 2, 0, 0, 0) := by decide +kernel
theorem l190_197 : (ax_dt (ax_T 190)).lookup 197 = some (.invokevirtual 318, 3, 186, 3, 0) := by decide +kernel
theorem l190_200 : (ax_dt (ax_T 190)).lookup 200 = some (.lconst 0, 1, 0, 0, 0) := by decide +kernel
theorem l190_201 : (ax_dt (ax_T 190)).lookup 201 = some (.lreturn, 1, 0, 0, 0) := by decide +kernel
noncomputable def F_X11_row_151 (v1 : Int) (v2 : Int) (v4 : Int) (v5 : Int) (μ : bM) : Option (Int × bM) := if ¬ v1 = 0 then some (v5, μ) else if (bCmp v5 0) < 0 then bMm (F_X11_bad 4 (μ 76 42) v4 μ) (fun w3 μ4 => some (v5, μ4)) else if (bCmp v5 v2) ≤ 0 then some (v5, μ) else bMm (F_X11_bad 4 (μ 76 42) v4 μ) (fun w7 μ8 => some (v5, μ8))
noncomputable def F_X11_row_115 (v1 : Int) (v2 : Int) (v4 : Int) (v5 : Int) (v7 : Int) (v8 : Int) (μ : bM) : Option (Int × bM) := if v1 = 0 then F_X11_row_151 v1 v2 v4 v5 μ else if (bAnd v8 64) = 0 then F_X11_row_151 v1 v2 v4 v5 μ else if 9 ≤ v7 then F_X11_row_151 v1 v2 v4 v5 μ else bG (bR (7 * v7)) (bG (bR ((7 * v7) + 7)) (F_X11_row_151 v1 v2 v4 (bOrL v5 (bShlL (-1) ((7 * v7) + 7))) μ))
noncomputable def F_X11_row_89 (v1 : Int) (v2 : Int) (v4 : Int) (v5 : Int) (v7 : Int) (v8 : Int) (μ : bM) : Option ((Int × Int × bM) ⊕ (Int × bM)) := bG (bR (7 * v7)) (if 128 ≤ v8 then bG (bR (v7 + 1)) (some (.inl ((bOrL v5 (bShlL (bAndL v8 127) (7 * v7))), (v7 + 1), μ))) else bUp (F_X11_row_115 v1 v2 v4 (bOrL v5 (bShlL (bAndL v8 127) (7 * v7))) v7 v8 μ))
noncomputable def F_X11_row_73 (v1 : Int) (v2 : Int) (v4 : Int) (v5 : Int) (v7 : Int) (v8 : Int) (y0 : Int) (y1 : Int) (μ : bM) : Option ((Int × Int × bM) ⊕ (Int × bM)) := if y0 = y1 then F_X11_row_89 v1 v2 v4 v5 v7 v8 μ else bMm (F_X11_bad 4 (μ 76 42) v4 μ) (fun w2 μ3 => some (.inr (0, μ3)))
noncomputable def F_X11_row_12 (v1 : Int) (v2 : Int) (v4 : Int) (v5 : Int) (v7 : Int) (μ : bM) : Option ((Int × Int × bM) ⊕ (Int × bM)) := if 10 ≤ v7 then bMm (F_X11_bad 4 (μ 76 42) v4 μ) (fun w2 μ3 => some (.inr (0, μ3))) else bMm (F_X11_has 1 μ) (fun w5 μ6 => if ¬ w5 = 0 then (F_X11_byteAt (μ6 76 40) μ6).bind fun w9 => bG (bR ((μ6 76 40) + 1)) (if ¬ v7 = 9 then F_X11_row_89 v1 v2 v4 v5 v7 w9 (bset μ6 76 40 ((μ6 76 40) + 1)) else if w9 = 0 then F_X11_row_89 v1 v2 v4 v5 v7 w9 (bset μ6 76 40 ((μ6 76 40) + 1)) else if v1 = 0 then F_X11_row_73 v1 v2 v4 v5 v7 w9 w9 1 (bset μ6 76 40 ((μ6 76 40) + 1)) else F_X11_row_73 v1 v2 v4 v5 v7 w9 w9 127 (bset μ6 76 40 ((μ6 76 40) + 1))) else some (.inr (0, μ6)))
noncomputable def F_X11_row (v1 : Int) (v2 : Int) (μ : bM) : Option (Int × bM) := bLoop (fun z => F_X11_row_12 v1 v2 (μ 76 40) z.1 z.2.1 z.2.2) (0, 0, μ)
theorem p_X11_row_151 {L : Nat} {xs : Nat → Int32} {d : Nat} {μ : bM}  {κ : (Int × bM) → Option bX} (hr : ∀ r : Int × bM, κ r = (bMc) r)  {v1 : Int} (h1 : bR v1) {v2 : Int} (h2 : bRL v2) {v4 : Int} (h4 : bR v4) {v5 : Int} (h5 : bRL v5) : bD L xs (d + 2) 190 151 [(0, .ref 76), (1, bI v1), (2, bLg v2), (4, bI v4), (5, bLg v5)] [] μ ((F_X11_row_151 v1 v2 v4 v5 μ).bind κ) := by
  unfold F_X11_row_151
  refine bD.ok fun hk => ?_
  refine b_s (pc' := 152) (lv1 := [(0, .ref 76), (1, bI v1), (2, bLg v2), (4, bI v4), (5, bLg v5)]) (st' := [bI v1]) l190_151 (fun _ => rfl) ?_
  refine b_zne (pt := 180) l190_152 h1 (by decide) rfl (fun c1 => ?_) (fun c1 => b_pc (pc' := 155) rfl ?_)
  · refine b_s (pc' := 182) (lv1 := [(0, .ref 76), (1, bI v1), (2, bLg v2), (4, bI v4), (5, bLg v5)]) (st' := [bLg v5]) l190_180 (fun _ => rfl) ?_
    exact b_retl l190_182 rfl h5 (hr _)
  · refine b_s (pc' := 157) (lv1 := [(0, .ref 76), (1, bI v1), (2, bLg v2), (4, bI v4), (5, bLg v5)]) (st' := [bLg v5]) l190_155 (fun _ => rfl) ?_
    refine b_lconst (e := 0) l190_157 (by decide) (b_pc (pc' := 158) rfl ?_)
    refine b_lcmp l190_158 h5 (by decide) (b_pc (pc' := 159) rfl ?_)
    refine b_zlt (pt := 169) l190_159 (bCmp_R _ _) (by decide) rfl (fun c2 => ?_) (fun c2 => b_pc (pc' := 162) rfl ?_)
    · refine b_s (pc' := 170) (lv1 := [(0, .ref 76), (1, bI v1), (2, bLg v2), (4, bI v4), (5, bLg v5)]) (st' := [.ref 76]) l190_169 (fun _ => rfl) ?_
      refine b_s (pc' := 171) (lv1 := [(0, .ref 76), (1, bI v1), (2, bLg v2), (4, bI v4), (5, bLg v5)]) (st' := [bI 4, .ref 76]) l190_170 (fun _ => rfl) ?_
      refine b_s (pc' := 172) (lv1 := [(0, .ref 76), (1, bI v1), (2, bLg v2), (4, bI v4), (5, bLg v5)]) (st' := [.ref 76, bI 4, .ref 76]) l190_171 (fun _ => rfl) ?_
      refine b_gi l190_172 (by rfl) (by decide) (by decide) rfl (b_pc (pc' := 175) rfl ?_)
      refine b_s (pc' := 177) (lv1 := [(0, .ref 76), (1, bI v1), (2, bLg v2), (4, bI v4), (5, bLg v5)]) (st' := [bI v4, bI (μ 76 42), bI 4, .ref 76]) l190_175 (fun _ => rfl) ?_
      refine b_cMv l190_177 rfl (b_rc (ci := 9) (by rfl) (by decide) (by decide +kernel)) (Nat.le_of_ble_eq_true rfl) (Nat.le_of_ble_eq_true rfl) rfl (r_X11_bad 4 (by decide) (μ 76 42) (bO_f hk (ci := 9) (by rfl) rfl) v4 h4) fun w3 μ4 hw3 => bD.ok fun hk5 => b_pc (pc' := 180) rfl ?_
      refine b_s (pc' := 182) (lv1 := [(0, .ref 76), (1, bI v1), (2, bLg v2), (4, bI v4), (5, bLg v5)]) (st' := [bLg v5]) l190_180 (fun _ => rfl) ?_
      exact b_retl l190_182 rfl h5 (hr _)
    · refine b_s (pc' := 164) (lv1 := [(0, .ref 76), (1, bI v1), (2, bLg v2), (4, bI v4), (5, bLg v5)]) (st' := [bLg v5]) l190_162 (fun _ => rfl) ?_
      refine b_s (pc' := 165) (lv1 := [(0, .ref 76), (1, bI v1), (2, bLg v2), (4, bI v4), (5, bLg v5)]) (st' := [bLg v2, bLg v5]) l190_164 (fun _ => rfl) ?_
      refine b_lcmp l190_165 h5 h2 (b_pc (pc' := 166) rfl ?_)
      refine b_zle (pt := 180) l190_166 (bCmp_R _ _) (by decide) rfl (fun c6 => ?_) (fun c6 => b_pc (pc' := 169) rfl ?_)
      · refine b_s (pc' := 182) (lv1 := [(0, .ref 76), (1, bI v1), (2, bLg v2), (4, bI v4), (5, bLg v5)]) (st' := [bLg v5]) l190_180 (fun _ => rfl) ?_
        exact b_retl l190_182 rfl h5 (hr _)
      · refine b_s (pc' := 170) (lv1 := [(0, .ref 76), (1, bI v1), (2, bLg v2), (4, bI v4), (5, bLg v5)]) (st' := [.ref 76]) l190_169 (fun _ => rfl) ?_
        refine b_s (pc' := 171) (lv1 := [(0, .ref 76), (1, bI v1), (2, bLg v2), (4, bI v4), (5, bLg v5)]) (st' := [bI 4, .ref 76]) l190_170 (fun _ => rfl) ?_
        refine b_s (pc' := 172) (lv1 := [(0, .ref 76), (1, bI v1), (2, bLg v2), (4, bI v4), (5, bLg v5)]) (st' := [.ref 76, bI 4, .ref 76]) l190_171 (fun _ => rfl) ?_
        refine b_gi l190_172 (by rfl) (by decide) (by decide) rfl (b_pc (pc' := 175) rfl ?_)
        refine b_s (pc' := 177) (lv1 := [(0, .ref 76), (1, bI v1), (2, bLg v2), (4, bI v4), (5, bLg v5)]) (st' := [bI v4, bI (μ 76 42), bI 4, .ref 76]) l190_175 (fun _ => rfl) ?_
        refine b_cMv l190_177 rfl (b_rc (ci := 9) (by rfl) (by decide) (by decide +kernel)) (Nat.le_of_ble_eq_true rfl) (Nat.le_of_ble_eq_true rfl) rfl (r_X11_bad 4 (by decide) (μ 76 42) (bO_f hk (ci := 9) (by rfl) rfl) v4 h4) fun w7 μ8 hw7 => bD.ok fun hk9 => b_pc (pc' := 180) rfl ?_
        refine b_s (pc' := 182) (lv1 := [(0, .ref 76), (1, bI v1), (2, bLg v2), (4, bI v4), (5, bLg v5)]) (st' := [bLg v5]) l190_180 (fun _ => rfl) ?_
        exact b_retl l190_182 rfl h5 (hr _)
theorem p_X11_row_115 {L : Nat} {xs : Nat → Int32} {d : Nat} {μ : bM}  {κ : (Int × bM) → Option bX} (hr : ∀ r : Int × bM, κ r = (bMc) r)  {v1 : Int} (h1 : bR v1) {v2 : Int} (h2 : bRL v2) {v4 : Int} (h4 : bR v4) {v5 : Int} (h5 : bRL v5) {v7 : Int} (h7 : bR v7) {v8 : Int} (h8 : bR v8) : bD L xs (d + 2) 190 115 [(0, .ref 76), (1, bI v1), (2, bLg v2), (4, bI v4), (5, bLg v5), (7, bI v7), (8, bI v8)] [] μ ((F_X11_row_115 v1 v2 v4 v5 v7 v8 μ).bind κ) := by
  unfold F_X11_row_115
  refine bD.ok fun hk => ?_
  refine b_s (pc' := 116) (lv1 := [(0, .ref 76), (1, bI v1), (2, bLg v2), (4, bI v4), (5, bLg v5), (7, bI v7), (8, bI v8)]) (st' := [bI v1]) l190_115 (fun _ => rfl) ?_
  refine b_zeq (pt := 151) l190_116 h1 (by decide) rfl (fun c1 => ?_) (fun c1 => b_pc (pc' := 119) rfl ?_)
  · refine bD.wk (lv' := [(0, .ref 76), (1, bI v1), (2, bLg v2), (4, bI v4), (5, bLg v5)]) (bSb rfl (bSb rfl (bSb rfl (bSb rfl (bSb rfl bSn))))) ?_
    exact p_X11_row_151 hr h1 h2 h4 h5
  · refine b_s (pc' := 121) (lv1 := [(0, .ref 76), (1, bI v1), (2, bLg v2), (4, bI v4), (5, bLg v5), (7, bI v7), (8, bI v8)]) (st' := [bI v8]) l190_119 (fun _ => rfl) ?_
    refine b_bipush l190_121 (by decide) (b_pc (pc' := 123) rfl ?_)
    refine b_iand l190_123 (b_pc (pc' := 124) rfl ?_)
    refine b_zeq (pt := 151) l190_124 (bi_rg _) (by decide) rfl (fun c2 => ?_) (fun c2 => b_pc (pc' := 127) rfl ?_)
    · refine bD.wk (lv' := [(0, .ref 76), (1, bI v1), (2, bLg v2), (4, bI v4), (5, bLg v5)]) (bSb rfl (bSb rfl (bSb rfl (bSb rfl (bSb rfl bSn))))) ?_
      exact p_X11_row_151 hr h1 h2 h4 h5
    · refine b_s (pc' := 129) (lv1 := [(0, .ref 76), (1, bI v1), (2, bLg v2), (4, bI v4), (5, bLg v5), (7, bI v7), (8, bI v8)]) (st' := [bI v7]) l190_127 (fun _ => rfl) ?_
      refine b_bipush l190_129 (by decide) (b_pc (pc' := 131) rfl ?_)
      refine b_ige (pt := 151) l190_131 h7 (by decide) (by decide) rfl (fun c3 => ?_) (fun c3 => b_pc (pc' := 134) rfl ?_)
      · refine bD.wk (lv' := [(0, .ref 76), (1, bI v1), (2, bLg v2), (4, bI v4), (5, bLg v5)]) (bSb rfl (bSb rfl (bSb rfl (bSb rfl (bSb rfl bSn))))) ?_
        exact p_X11_row_151 hr h1 h2 h4 h5
      · refine b_s (pc' := 136) (lv1 := [(0, .ref 76), (1, bI v1), (2, bLg v2), (4, bI v4), (5, bLg v5), (7, bI v7), (8, bI v8)]) (st' := [bLg v5]) l190_134 (fun _ => rfl) ?_
        refine b_s (pc' := 139) (lv1 := [(0, .ref 76), (1, bI v1), (2, bLg v2), (4, bI v4), (5, bLg v5), (7, bI v7), (8, bI v8)]) (st' := [bLg (-1), bLg v5]) l190_136 (fun _ => rfl) ?_
        refine b_bipush l190_139 (by decide) (b_pc (pc' := 141) rfl ?_)
        refine b_s (pc' := 143) (lv1 := [(0, .ref 76), (1, bI v1), (2, bLg v2), (4, bI v4), (5, bLg v5), (7, bI v7), (8, bI v8)]) (st' := [bI v7, bI 7, bLg (-1), bLg v5]) l190_141 (fun _ => rfl) ?_
        refine b_imul l190_143 fun g4 => (b_pc (pc' := 144) rfl ?_)
        refine b_bipush l190_144 (by decide) (b_pc (pc' := 146) rfl ?_)
        refine b_iadd l190_146 fun g5 => (b_pc (pc' := 147) rfl ?_)
        refine b_lshl l190_147 (b_pc (pc' := 148) rfl ?_)
        refine b_lor l190_148 (b_pc (pc' := 149) rfl ?_)
        refine b_w (pc' := 151) (lv1 := ax_st2 [(0, .ref 76), (1, bI v1), (2, bLg v2), (4, bI v4), (5, bLg v5), (7, bI v7), (8, bI v8)] 5 (bLg (bOrL v5 (bShlL (-1) ((7 * v7) + 7))))) (lv' := [(0, .ref 76), (1, bI v1), (2, bLg v2), (4, bI v4), (5, bLg (bOrL v5 (bShlL (-1) ((7 * v7) + 7))))]) (st' := []) l190_149 (fun _ => rfl) (bSb rfl (bSb rfl (bSb rfl (bSb rfl (bSb rfl bSn))))) ?_
        refine bD.wk (lv' := [(0, .ref 76), (1, bI v1), (2, bLg v2), (4, bI v4), (5, bLg (bOrL v5 (bShlL (-1) ((7 * v7) + 7))))]) (bSb rfl (bSb rfl (bSb rfl (bSb rfl (bSb rfl bSn))))) ?_
        exact p_X11_row_151 hr h1 h2 h4 (bl_rg _)
theorem p_X11_row_89 {L : Nat} {xs : Nat → Int32} {d : Nat} {μ : bM} {v1 : Int} {v2 : Int} {v4 : Int} {κ : ((Int × Int × bM) ⊕ (Int × bM)) → Option bX} (hr : ∀ r : Int × bM, κ (.inr r) = (bMc) r) (H12 : ∀ (v5 : Int) (v7 : Int) (μ : bM), bRL v5 → bR v7 → bD L xs (d + 2) 190 12 [(0, .ref 76), (1, bI v1), (2, bLg v2), (4, bI v4), (5, bLg v5), (7, bI v7)] [] μ (κ (.inl (v5, v7, μ))))  (h1 : bR v1) (h2 : bRL v2) (h4 : bR v4) {v5 : Int} (h5 : bRL v5) {v7 : Int} (h7 : bR v7) {v8 : Int} (h8 : bR v8) : bD L xs (d + 2) 190 89 [(0, .ref 76), (1, bI v1), (2, bLg v2), (4, bI v4), (5, bLg v5), (7, bI v7), (8, bI v8)] [] μ ((F_X11_row_89 v1 v2 v4 v5 v7 v8 μ).bind κ) := by
  unfold F_X11_row_89
  refine bD.ok fun hk => ?_
  refine b_s (pc' := 91) (lv1 := [(0, .ref 76), (1, bI v1), (2, bLg v2), (4, bI v4), (5, bLg v5), (7, bI v7), (8, bI v8)]) (st' := [bLg v5]) l190_89 (fun _ => rfl) ?_
  refine b_s (pc' := 93) (lv1 := [(0, .ref 76), (1, bI v1), (2, bLg v2), (4, bI v4), (5, bLg v5), (7, bI v7), (8, bI v8)]) (st' := [bI v8, bLg v5]) l190_91 (fun _ => rfl) ?_
  refine b_i2l l190_93 h8 (b_pc (pc' := 94) rfl ?_)
  refine b_s (pc' := 97) (lv1 := [(0, .ref 76), (1, bI v1), (2, bLg v2), (4, bI v4), (5, bLg v5), (7, bI v7), (8, bI v8)]) (st' := [bLg 127, bLg v8, bLg v5]) l190_94 (fun _ => rfl) ?_
  refine b_land l190_97 (b_pc (pc' := 98) rfl ?_)
  refine b_bipush l190_98 (by decide) (b_pc (pc' := 100) rfl ?_)
  refine b_s (pc' := 102) (lv1 := [(0, .ref 76), (1, bI v1), (2, bLg v2), (4, bI v4), (5, bLg v5), (7, bI v7), (8, bI v8)]) (st' := [bI v7, bI 7, bLg (bAndL v8 127), bLg v5]) l190_100 (fun _ => rfl) ?_
  refine b_imul l190_102 fun g1 => (b_pc (pc' := 103) rfl ?_)
  refine b_lshl l190_103 (b_pc (pc' := 104) rfl ?_)
  refine b_lor l190_104 (b_pc (pc' := 105) rfl ?_)
  refine b_w (pc' := 107) (lv1 := ax_st2 [(0, .ref 76), (1, bI v1), (2, bLg v2), (4, bI v4), (5, bLg v5), (7, bI v7), (8, bI v8)] 5 (bLg (bOrL v5 (bShlL (bAndL v8 127) (7 * v7))))) (lv' := [(0, .ref 76), (1, bI v1), (2, bLg v2), (4, bI v4), (5, bLg (bOrL v5 (bShlL (bAndL v8 127) (7 * v7)))), (7, bI v7), (8, bI v8)]) (st' := []) l190_105 (fun _ => rfl) (bSb rfl (bSb rfl (bSb rfl (bSb rfl (bSb rfl (bSb rfl (bSb rfl bSn))))))) ?_
  refine b_s (pc' := 109) (lv1 := [(0, .ref 76), (1, bI v1), (2, bLg v2), (4, bI v4), (5, bLg (bOrL v5 (bShlL (bAndL v8 127) (7 * v7)))), (7, bI v7), (8, bI v8)]) (st' := [bI v8]) l190_107 (fun _ => rfl) ?_
  refine b_sipush l190_109 (by decide) (b_pc (pc' := 112) rfl ?_)
  refine b_ige (pt := 183) l190_112 h8 (by decide) (by decide) rfl (fun c2 => ?_) (fun c2 => b_pc (pc' := 115) rfl ?_)
  · refine b_inc (lv' := [(0, .ref 76), (1, bI v1), (2, bLg v2), (4, bI v4), (5, bLg (bOrL v5 (bShlL (bAndL v8 127) (7 * v7)))), (7, bI (v7 + 1))]) l190_183 rfl (by decide +kernel) (bSb rfl (bSb rfl (bSb rfl (bSb rfl (bSb rfl (bSb rfl bSn)))))) fun g3 => (b_pc (pc' := 186) rfl ?_)
    refine b_s (pc' := 12) (lv1 := [(0, .ref 76), (1, bI v1), (2, bLg v2), (4, bI v4), (5, bLg (bOrL v5 (bShlL (bAndL v8 127) (7 * v7)))), (7, bI (v7 + 1))]) (st' := []) l190_186 (fun _ => rfl) ?_
    refine bD.wk (lv' := [(0, .ref 76), (1, bI v1), (2, bLg v2), (4, bI v4), (5, bLg (bOrL v5 (bShlL (bAndL v8 127) (7 * v7)))), (7, bI (v7 + 1))]) (bSb rfl (bSb rfl (bSb rfl (bSb rfl (bSb rfl (bSb rfl bSn)))))) ?_
    exact H12 (bOrL v5 (bShlL (bAndL v8 127) (7 * v7))) (v7 + 1) μ (bl_rg _) g3
  · refine b_up (fun _ => rfl) ?_
    refine bD.wk (lv' := [(0, .ref 76), (1, bI v1), (2, bLg v2), (4, bI v4), (5, bLg (bOrL v5 (bShlL (bAndL v8 127) (7 * v7)))), (7, bI v7), (8, bI v8)]) (bSb rfl (bSb rfl (bSb rfl (bSb rfl (bSb rfl (bSb rfl (bSb rfl bSn))))))) ?_
    exact p_X11_row_115 hr h1 h2 h4 (bl_rg _) h7 h8
theorem p_X11_row_73 {L : Nat} {xs : Nat → Int32} {d : Nat} {μ : bM} {v1 : Int} {v2 : Int} {v4 : Int} {κ : ((Int × Int × bM) ⊕ (Int × bM)) → Option bX} (hr : ∀ r : Int × bM, κ (.inr r) = (bMc) r) (H12 : ∀ (v5 : Int) (v7 : Int) (μ : bM), bRL v5 → bR v7 → bD L xs (d + 2) 190 12 [(0, .ref 76), (1, bI v1), (2, bLg v2), (4, bI v4), (5, bLg v5), (7, bI v7)] [] μ (κ (.inl (v5, v7, μ))))  (h1 : bR v1) (h2 : bRL v2) (h4 : bR v4) {v5 : Int} (h5 : bRL v5) {v7 : Int} (h7 : bR v7) {v8 : Int} (h8 : bR v8) {y0 : Int} (hy0 : bR y0) {y1 : Int} (hy1 : bR y1) : bD L xs (d + 2) 190 73 [(0, .ref 76), (1, bI v1), (2, bLg v2), (4, bI v4), (5, bLg v5), (7, bI v7), (8, bI v8)] [bI y1, bI y0] μ ((F_X11_row_73 v1 v2 v4 v5 v7 v8 y0 y1 μ).bind κ) := by
  unfold F_X11_row_73
  refine bD.ok fun hk => ?_
  refine b_ieq (pt := 89) l190_73 hy0 hy1 (by decide) rfl (fun c1 => ?_) (fun c1 => b_pc (pc' := 76) rfl ?_)
  · refine bD.wk (lv' := [(0, .ref 76), (1, bI v1), (2, bLg v2), (4, bI v4), (5, bLg v5), (7, bI v7), (8, bI v8)]) (bSb rfl (bSb rfl (bSb rfl (bSb rfl (bSb rfl (bSb rfl (bSb rfl bSn))))))) ?_
    exact p_X11_row_89 hr H12 h1 h2 h4 h5 h7 h8
  · refine b_s (pc' := 77) (lv1 := [(0, .ref 76), (1, bI v1), (2, bLg v2), (4, bI v4), (5, bLg v5), (7, bI v7), (8, bI v8)]) (st' := [.ref 76]) l190_76 (fun _ => rfl) ?_
    refine b_s (pc' := 78) (lv1 := [(0, .ref 76), (1, bI v1), (2, bLg v2), (4, bI v4), (5, bLg v5), (7, bI v7), (8, bI v8)]) (st' := [bI 4, .ref 76]) l190_77 (fun _ => rfl) ?_
    refine b_s (pc' := 79) (lv1 := [(0, .ref 76), (1, bI v1), (2, bLg v2), (4, bI v4), (5, bLg v5), (7, bI v7), (8, bI v8)]) (st' := [.ref 76, bI 4, .ref 76]) l190_78 (fun _ => rfl) ?_
    refine b_gi l190_79 (by rfl) (by decide) (by decide) rfl (b_pc (pc' := 82) rfl ?_)
    refine b_s (pc' := 84) (lv1 := [(0, .ref 76), (1, bI v1), (2, bLg v2), (4, bI v4), (5, bLg v5), (7, bI v7), (8, bI v8)]) (st' := [bI v4, bI (μ 76 42), bI 4, .ref 76]) l190_82 (fun _ => rfl) ?_
    refine b_cMv l190_84 rfl (b_rc (ci := 9) (by rfl) (by decide) (by decide +kernel)) (Nat.le_of_ble_eq_true rfl) (Nat.le_of_ble_eq_true rfl) rfl (r_X11_bad 4 (by decide) (μ 76 42) (bO_f hk (ci := 9) (by rfl) rfl) v4 h4) fun w2 μ3 hw2 => bD.ok fun hk4 => b_pc (pc' := 87) rfl ?_
    refine b_lconst (e := 0) l190_87 (by decide) (b_pc (pc' := 88) rfl ?_)
    exact b_retl l190_88 rfl (by decide) (hr _)
theorem q_X11_row_12 {L : Nat} {xs : Nat → Int32} {d : Nat} {μ : bM} {v1 : Int} {v2 : Int} {v4 : Int} {κ : ((Int × Int × bM) ⊕ (Int × bM)) → Option bX} (hr : ∀ r : Int × bM, κ (.inr r) = (bMc) r) (H12 : ∀ (v5 : Int) (v7 : Int) (μ : bM), bRL v5 → bR v7 → bD L xs (d + 2) 190 12 [(0, .ref 76), (1, bI v1), (2, bLg v2), (4, bI v4), (5, bLg v5), (7, bI v7)] [] μ (κ (.inl (v5, v7, μ))))  (h1 : bR v1) (h2 : bRL v2) (h4 : bR v4) {v5 : Int} (h5 : bRL v5) {v7 : Int} (h7 : bR v7) : bD L xs (d + 2) 190 12 [(0, .ref 76), (1, bI v1), (2, bLg v2), (4, bI v4), (5, bLg v5), (7, bI v7)] [] μ ((F_X11_row_12 v1 v2 v4 v5 v7 μ).bind κ) := by
  unfold F_X11_row_12
  refine bD.ok fun hk => ?_
  refine b_s (pc' := 14) (lv1 := [(0, .ref 76), (1, bI v1), (2, bLg v2), (4, bI v4), (5, bLg v5), (7, bI v7)]) (st' := [bI v7]) l190_12 (fun _ => rfl) ?_
  refine b_bipush l190_14 (by decide) (b_pc (pc' := 16) rfl ?_)
  refine b_ige (pt := 189) l190_16 h7 (by decide) (by decide) rfl (fun c1 => ?_) (fun c1 => b_pc (pc' := 19) rfl ?_)
  · refine b_s (pc' := 190) (lv1 := [(0, .ref 76), (1, bI v1), (2, bLg v2), (4, bI v4), (5, bLg v5), (7, bI v7)]) (st' := [.ref 76]) l190_189 (fun _ => rfl) ?_
    refine b_s (pc' := 191) (lv1 := [(0, .ref 76), (1, bI v1), (2, bLg v2), (4, bI v4), (5, bLg v5), (7, bI v7)]) (st' := [bI 4, .ref 76]) l190_190 (fun _ => rfl) ?_
    refine b_s (pc' := 192) (lv1 := [(0, .ref 76), (1, bI v1), (2, bLg v2), (4, bI v4), (5, bLg v5), (7, bI v7)]) (st' := [.ref 76, bI 4, .ref 76]) l190_191 (fun _ => rfl) ?_
    refine b_gi l190_192 (by rfl) (by decide) (by decide) rfl (b_pc (pc' := 195) rfl ?_)
    refine b_s (pc' := 197) (lv1 := [(0, .ref 76), (1, bI v1), (2, bLg v2), (4, bI v4), (5, bLg v5), (7, bI v7)]) (st' := [bI v4, bI (μ 76 42), bI 4, .ref 76]) l190_195 (fun _ => rfl) ?_
    refine b_cMv l190_197 rfl (b_rc (ci := 9) (by rfl) (by decide) (by decide +kernel)) (Nat.le_of_ble_eq_true rfl) (Nat.le_of_ble_eq_true rfl) rfl (r_X11_bad 4 (by decide) (μ 76 42) (bO_f hk (ci := 9) (by rfl) rfl) v4 h4) fun w2 μ3 hw2 => bD.ok fun hk4 => b_pc (pc' := 200) rfl ?_
    refine b_lconst (e := 0) l190_200 (by decide) (b_pc (pc' := 201) rfl ?_)
    exact b_retl l190_201 rfl (by decide) (hr _)
  · refine b_s (pc' := 20) (lv1 := [(0, .ref 76), (1, bI v1), (2, bLg v2), (4, bI v4), (5, bLg v5), (7, bI v7)]) (st' := [.ref 76]) l190_19 (fun _ => rfl) ?_
    refine b_s (pc' := 21) (lv1 := [(0, .ref 76), (1, bI v1), (2, bLg v2), (4, bI v4), (5, bLg v5), (7, bI v7)]) (st' := [bI 1, .ref 76]) l190_20 (fun _ => rfl) ?_
    refine b_cMz l190_21 rfl (b_rc (ci := 9) (by rfl) (by decide) (by decide +kernel)) (Nat.le_of_ble_eq_true rfl) (Nat.le_of_ble_eq_true rfl) rfl (r_X11_has 1 (by decide)) fun w5 μ6 hw5 => bD.ok fun hk7 => b_pc (pc' := 24) rfl ?_
    refine b_zne (pt := 29) l190_24 (bZ_R hw5) (by decide) rfl (fun c8 => ?_) (fun c8 => b_pc (pc' := 27) rfl ?_)
    · refine b_s (pc' := 30) (lv1 := [(0, .ref 76), (1, bI v1), (2, bLg v2), (4, bI v4), (5, bLg v5), (7, bI v7)]) (st' := [.ref 76]) l190_29 (fun _ => rfl) ?_
      refine b_s (pc' := 31) (lv1 := [(0, .ref 76), (1, bI v1), (2, bLg v2), (4, bI v4), (5, bLg v5), (7, bI v7)]) (st' := [.ref 76, .ref 76]) l190_30 (fun _ => rfl) ?_
      refine b_gi l190_31 (by rfl) (by decide) (by decide) rfl (b_pc (pc' := 34) rfl ?_)
      refine b_cPi l190_34 rfl (b_rc (ci := 9) (by rfl) (by decide) (by decide +kernel)) (Nat.le_of_ble_eq_true rfl) (Nat.le_of_ble_eq_true rfl) rfl (r_X11_byteAt (μ6 76 40) (bO_f hk7 (ci := 9) (by rfl) rfl)) fun w9 hw9 => b_pc (pc' := 37) rfl ?_
      refine b_w (pc' := 39) (lv1 := ax_st1 [(0, .ref 76), (1, bI v1), (2, bLg v2), (4, bI v4), (5, bLg v5), (7, bI v7)] 8 (bI w9)) (lv' := [(0, .ref 76), (1, bI v1), (2, bLg v2), (4, bI v4), (5, bLg v5), (7, bI v7), (8, bI w9)]) (st' := []) l190_37 (fun _ => rfl) (bSb rfl (bSb rfl (bSb rfl (bSb rfl (bSb rfl (bSb rfl (bSb rfl bSn))))))) ?_
      refine b_s (pc' := 40) (lv1 := [(0, .ref 76), (1, bI v1), (2, bLg v2), (4, bI v4), (5, bLg v5), (7, bI v7), (8, bI w9)]) (st' := [.ref 76]) l190_39 (fun _ => rfl) ?_
      refine b_s (pc' := 41) (lv1 := [(0, .ref 76), (1, bI v1), (2, bLg v2), (4, bI v4), (5, bLg v5), (7, bI v7), (8, bI w9)]) (st' := [.ref 76, .ref 76]) l190_40 (fun _ => rfl) ?_
      refine b_gi l190_41 (by rfl) (by decide) (by decide) rfl (b_pc (pc' := 44) rfl ?_)
      refine b_s (pc' := 45) (lv1 := [(0, .ref 76), (1, bI v1), (2, bLg v2), (4, bI v4), (5, bLg v5), (7, bI v7), (8, bI w9)]) (st' := [bI 1, bI (μ6 76 40), .ref 76]) l190_44 (fun _ => rfl) ?_
      refine b_iadd l190_45 fun g10 => (b_pc (pc' := 46) rfl ?_)
      refine b_pi l190_46 (by rfl) (by decide) (by decide) rfl rfl g10 (bD.ok fun hk11 => b_pc (pc' := 49) rfl ?_)
      refine b_s (pc' := 51) (lv1 := [(0, .ref 76), (1, bI v1), (2, bLg v2), (4, bI v4), (5, bLg v5), (7, bI v7), (8, bI w9)]) (st' := [bI v7]) l190_49 (fun _ => rfl) ?_
      refine b_bipush l190_51 (by decide) (b_pc (pc' := 53) rfl ?_)
      refine b_ine (pt := 89) l190_53 h7 (by decide) (by decide) rfl (fun c12 => ?_) (fun c12 => b_pc (pc' := 56) rfl ?_)
      · refine bD.wk (lv' := [(0, .ref 76), (1, bI v1), (2, bLg v2), (4, bI v4), (5, bLg v5), (7, bI v7), (8, bI w9)]) (bSb rfl (bSb rfl (bSb rfl (bSb rfl (bSb rfl (bSb rfl (bSb rfl bSn))))))) ?_
        exact p_X11_row_89 hr H12 h1 h2 h4 h5 h7 hw9
      · refine b_s (pc' := 58) (lv1 := [(0, .ref 76), (1, bI v1), (2, bLg v2), (4, bI v4), (5, bLg v5), (7, bI v7), (8, bI w9)]) (st' := [bI w9]) l190_56 (fun _ => rfl) ?_
        refine b_zeq (pt := 89) l190_58 hw9 (by decide) rfl (fun c13 => ?_) (fun c13 => b_pc (pc' := 61) rfl ?_)
        · refine bD.wk (lv' := [(0, .ref 76), (1, bI v1), (2, bLg v2), (4, bI v4), (5, bLg v5), (7, bI v7), (8, bI w9)]) (bSb rfl (bSb rfl (bSb rfl (bSb rfl (bSb rfl (bSb rfl (bSb rfl bSn))))))) ?_
          exact p_X11_row_89 hr H12 h1 h2 h4 h5 h7 hw9
        · refine b_s (pc' := 63) (lv1 := [(0, .ref 76), (1, bI v1), (2, bLg v2), (4, bI v4), (5, bLg v5), (7, bI v7), (8, bI w9)]) (st' := [bI w9]) l190_61 (fun _ => rfl) ?_
          refine b_s (pc' := 64) (lv1 := [(0, .ref 76), (1, bI v1), (2, bLg v2), (4, bI v4), (5, bLg v5), (7, bI v7), (8, bI w9)]) (st' := [bI v1, bI w9]) l190_63 (fun _ => rfl) ?_
          refine b_zeq (pt := 72) l190_64 h1 (by decide) rfl (fun c14 => ?_) (fun c14 => b_pc (pc' := 67) rfl ?_)
          · refine b_s (pc' := 73) (lv1 := [(0, .ref 76), (1, bI v1), (2, bLg v2), (4, bI v4), (5, bLg v5), (7, bI v7), (8, bI w9)]) (st' := [bI 1, bI w9]) l190_72 (fun _ => rfl) ?_
            refine bD.wk (lv' := [(0, .ref 76), (1, bI v1), (2, bLg v2), (4, bI v4), (5, bLg v5), (7, bI v7), (8, bI w9)]) (bSb rfl (bSb rfl (bSb rfl (bSb rfl (bSb rfl (bSb rfl (bSb rfl bSn))))))) ?_
            exact p_X11_row_73 hr H12 h1 h2 h4 h5 h7 hw9 hw9 (by decide)
          · refine b_bipush l190_67 (by decide) (b_pc (pc' := 69) rfl ?_)
            refine b_s (pc' := 73) (lv1 := [(0, .ref 76), (1, bI v1), (2, bLg v2), (4, bI v4), (5, bLg v5), (7, bI v7), (8, bI w9)]) (st' := [bI 127, bI w9]) l190_69 (fun _ => rfl) ?_
            refine bD.wk (lv' := [(0, .ref 76), (1, bI v1), (2, bLg v2), (4, bI v4), (5, bLg v5), (7, bI v7), (8, bI w9)]) (bSb rfl (bSb rfl (bSb rfl (bSb rfl (bSb rfl (bSb rfl (bSb rfl bSn))))))) ?_
            exact p_X11_row_73 hr H12 h1 h2 h4 h5 h7 hw9 hw9 (by decide)
    · refine b_lconst (e := 0) l190_27 (by decide) (b_pc (pc' := 28) rfl ?_)
      exact b_retl l190_28 rfl (by decide) (hr _)
theorem p_X11_row_12 {L : Nat} {xs : Nat → Int32} {d : Nat} {μ : bM}  {κ : (Int × bM) → Option bX} (hr : ∀ r : Int × bM, κ r = (bMc) r)  {v1 : Int} (h1 : bR v1) {v2 : Int} (h2 : bRL v2) {v4 : Int} (h4 : bR v4) {v5 : Int} (h5 : bRL v5) {v7 : Int} (h7 : bR v7) : bD L xs (d + 2) 190 12 [(0, .ref 76), (1, bI v1), (2, bLg v2), (4, bI v4), (5, bLg v5), (7, bI v7)] [] μ ((bLoop (fun z => F_X11_row_12 v1 v2 v4 z.1 z.2.1 z.2.2) (v5, v7, μ)).bind κ) :=
  b_loop (fun z => [(0, .ref 76), (1, bI v1), (2, bLg v2), (4, bI v4), (5, bLg z.1), (7, bI z.2.1)]) (fun z => z.2.2) (fun z => bRL z.1 ∧ bR z.2.1) (fun κ' hκ HH z hz => q_X11_row_12 (κ := κ') (fun r => (hκ _).trans (hr r)) (fun a5 a7 am b5 b7 => HH (a5, a7, am) ⟨b5, b7⟩)  h1 h2 h4 hz.1 hz.2) (v5, v7, μ) ⟨h5, h7⟩
theorem r_X11_row {L : Nat} {xs : Nat → Int32} {d : Nat} {μ : bM}  (v1 : Int) (h1 : bR v1) (v2 : Int) (h2 : bRL v2) : bD L xs (d + 2) 190 0 [(0, .ref 76), (1, bI v1), (2, bLg v2)] [] μ ((F_X11_row v1 v2 μ).bind (bMc)) := by
  have hr : ∀ r, (bMc) r = (bMc) r := fun _ => rfl
  unfold F_X11_row
  refine bD.ok fun hk => ?_
  refine b_s (pc' := 1) (lv1 := [(0, .ref 76), (1, bI v1), (2, bLg v2)]) (st' := [.ref 76]) l190_0 (fun _ => rfl) ?_
  refine b_gi l190_1 (by rfl) (by decide) (by decide) rfl (b_pc (pc' := 4) rfl ?_)
  refine b_w (pc' := 6) (lv1 := ax_st1 [(0, .ref 76), (1, bI v1), (2, bLg v2)] 4 (bI (μ 76 40))) (lv' := [(0, .ref 76), (1, bI v1), (2, bLg v2), (4, bI (μ 76 40))]) (st' := []) l190_4 (fun _ => rfl) (bSb rfl (bSb rfl (bSb rfl (bSb rfl bSn)))) ?_
  refine b_lconst (e := 0) l190_6 (by decide) (b_pc (pc' := 7) rfl ?_)
  refine b_w (pc' := 9) (lv1 := ax_st2 [(0, .ref 76), (1, bI v1), (2, bLg v2), (4, bI (μ 76 40))] 5 (bLg 0)) (lv' := [(0, .ref 76), (1, bI v1), (2, bLg v2), (4, bI (μ 76 40)), (5, bLg 0)]) (st' := []) l190_7 (fun _ => rfl) (bSb rfl (bSb rfl (bSb rfl (bSb rfl (bSb rfl bSn))))) ?_
  refine b_s (pc' := 10) (lv1 := [(0, .ref 76), (1, bI v1), (2, bLg v2), (4, bI (μ 76 40)), (5, bLg 0)]) (st' := [bI 0]) l190_9 (fun _ => rfl) ?_
  refine b_w (pc' := 12) (lv1 := ax_st1 [(0, .ref 76), (1, bI v1), (2, bLg v2), (4, bI (μ 76 40)), (5, bLg 0)] 7 (bI 0)) (lv' := [(0, .ref 76), (1, bI v1), (2, bLg v2), (4, bI (μ 76 40)), (5, bLg 0), (7, bI 0)]) (st' := []) l190_10 (fun _ => rfl) (bSb rfl (bSb rfl (bSb rfl (bSb rfl (bSb rfl (bSb rfl bSn)))))) ?_
  refine bD.wk (lv' := [(0, .ref 76), (1, bI v1), (2, bLg v2), (4, bI (μ 76 40)), (5, bLg 0), (7, bI 0)]) (bSb rfl (bSb rfl (bSb rfl (bSb rfl (bSb rfl (bSb rfl bSn)))))) ?_
  exact p_X11_row_12 hr h1 h2 (bO_f hk (ci := 9) (by rfl) rfl) (by decide) (by decide)
/-! ETModel.readPair -/
theorem l193_0 : (ax_dt (ax_T 193)).lookup 0 = some (.aload_n 0, 1, 0, 0, 0) := by decide +kernel
theorem l193_1 : (ax_dt (ax_T 193)).lookup 1 = some (.getfield 312, 3, 9, 40, 0) := by decide +kernel
theorem l193_4 : (ax_dt (ax_T 193)).lookup 4 = some (.istore_n 1, 1, 0, 0, 0) := by decide +kernel
theorem l193_5 : (ax_dt (ax_T 193)).lookup 5 = some (.aload_n 0, 1, 0, 0, 0) := by decide +kernel
theorem l193_6 : (ax_dt (ax_T 193)).lookup 6 = some (.iconst 0, 1, 0, 0, 0) := by decide +kernel
theorem l193_7 : (ax_dt (ax_T 193)).lookup 7 = some (.ldc2_w 337, 3, 0, 0, 2147483647) := by decide +kernel
theorem l193_10 : (ax_dt (ax_T 193)).lookup 10 = some (.invokevirtual 339, 3, 190, 2, 0) := by decide +kernel
theorem l193_13 : (ax_dt (ax_T 193)).lookup 13 = some (.l2i, 1, 0, 0, 0) := by decide +kernel
theorem l193_14 : (ax_dt (ax_T 193)).lookup 14 = some (.istore_n 2, 1, 0, 0, 0) := by decide +kernel
theorem l193_15 : (ax_dt (ax_T 193)).lookup 15 = some (.aload_n 0, 1, 0, 0, 0) := by decide +kernel
theorem l193_16 : (ax_dt (ax_T 193)).lookup 16 = some (.getfield 300, 3, 9, 37, 0) := by decide +kernel
theorem l193_19 : (ax_dt (ax_T 193)).lookup 19 = some (.iconst (-1), 1, 0, 0, 0) := by decide +kernel
theorem l193_20 : (ax_dt (ax_T 193)).lookup 20 = some (.if_icmp .eq 5, 3, 0, 0, 0) := by decide +kernel
theorem l193_23 : (ax_dt (ax_T 193)).lookup 23 = some (.iconst 0, 1, 0, 0, 0) := by decide +kernel
theorem l193_24 : (ax_dt (ax_T 193)).lookup 24 = some (.ireturn, 1, 0, 0, 0) := by decide +kernel
theorem l193_25 : (ax_dt (ax_T 193)).lookup 25 = some (.aload_n 0, 1, 0, 0, 0) := by decide +kernel
theorem l193_26 : (ax_dt (ax_T 193)).lookup 26 = some (.getfield 105, 3, 9, 47, 0) := by decide +kernel
theorem l193_29 : (ax_dt (ax_T 193)).lookup 29 = some (.aload_n 0, 1, 0, 0, 0) := by decide +kernel
theorem l193_30 : (ax_dt (ax_T 193)).lookup 30 = some (.getfield 330, 3, 9, 43, 0) := by decide +kernel
theorem l193_33 : (ax_dt (ax_T 193)).lookup 33 = some (.iaload, 1, 0, 0, 0) := by decide +kernel
theorem l193_34 : (ax_dt (ax_T 193)).lookup 34 = some (.istore_n 3, 1, 0, 0, 0) := by decide +kernel
theorem l193_35 : (ax_dt (ax_T 193)).lookup 35 = some (.iload_n 2, 1, 0, 0, 0) := by decide +kernel
theorem l193_36 : (ax_dt (ax_T 193)).lookup 36 = some (.ifCond .le 64, 3, 0, 0, 0) := by decide +kernel
theorem l193_39 : (ax_dt (ax_T 193)).lookup 39 = some (.iconst 0, 1, 0, 0, 0) := by decide +kernel
theorem l193_40 : (ax_dt (ax_T 193)).lookup 40 = some (.istore 4, 2, 0, 0, 0) := by decide +kernel
theorem l193_42 : (ax_dt (ax_T 193)).lookup 42 = some (.iload 4, 2, 0, 0, 0) := by decide +kernel
theorem l193_44 : (ax_dt (ax_T 193)).lookup 44 = some (.iload_n 3, 1, 0, 0, 0) := by decide +kernel
theorem l193_45 : (ax_dt (ax_T 193)).lookup 45 = some (.if_icmp .ge 35, 3, 0, 0, 0) := by decide +kernel
theorem l193_48 : (ax_dt (ax_T 193)).lookup 48 = some (.aload_n 0, 1, 0, 0, 0) := by decide +kernel
theorem l193_49 : (ax_dt (ax_T 193)).lookup 49 = some (.getfield 108, 3, 9, 48, 0) := by decide +kernel
theorem l193_52 : (ax_dt (ax_T 193)).lookup 52 = some (.bipush 8, 2, 0, 0, 0) := by decide +kernel
theorem l193_54 : (ax_dt (ax_T 193)).lookup 54 = some (.aload_n 0, 1, 0, 0, 0) := by decide +kernel
theorem l193_55 : (ax_dt (ax_T 193)).lookup 55 = some (.getfield 330, 3, 9, 43, 0) := by decide +kernel
theorem l193_58 : (ax_dt (ax_T 193)).lookup 58 = some (.imul, 1, 0, 0, 0) := by decide +kernel
theorem l193_59 : (ax_dt (ax_T 193)).lookup 59 = some (.iload 4, 2, 0, 0, 0) := by decide +kernel
theorem l193_61 : (ax_dt (ax_T 193)).lookup 61 = some (.iadd, 1, 0, 0, 0) := by decide +kernel
theorem l193_62 : (ax_dt (ax_T 193)).lookup 62 = some (.iaload, 1, 0, 0, 0) := by decide +kernel
theorem l193_63 : (ax_dt (ax_T 193)).lookup 63 = some (.iload_n 2, 1, 0, 0, 0) := by decide +kernel
theorem l193_64 : (ax_dt (ax_T 193)).lookup 64 = some (.if_icmp .ne 10, 3, 0, 0, 0) := by decide +kernel
theorem l193_67 : (ax_dt (ax_T 193)).lookup 67 = some (.aload_n 0, 1, 0, 0, 0) := by decide +kernel
theorem l193_68 : (ax_dt (ax_T 193)).lookup 68 = some (.iconst 3, 1, 0, 0, 0) := by decide +kernel
theorem l193_69 : (ax_dt (ax_T 193)).lookup 69 = some (.iconst 1, 1, 0, 0, 0) := by decide +kernel
theorem l193_70 : (ax_dt (ax_T 193)).lookup 70 = some (.iload_n 1, 1, 0, 0, 0) := by decide +kernel
theorem l193_71 : (ax_dt (ax_T 193)).lookup 71 = some (.invokevirtual 318, 3, 186, 3, 0) := by decide +kernel
theorem l193_74 : (ax_dt (ax_T 193)).lookup 74 = some (.iinc 4 1, 3, 0, 0, 0) := by decide +kernel
theorem l193_77 : (ax_dt (ax_T 193)).lookup 77 = some (.goto (-35), 3, 0, 0, 0) := by decide +kernel
theorem l193_80 : (ax_dt (ax_T 193)).lookup 80 = some (.iload_n 2, 1, 0, 0, 0) := by decide +kernel
theorem l193_81 : (ax_dt (ax_T 193)).lookup 81 = some (.sipush 16383, 3, 0, 0, 0) := by decide +kernel
theorem l193_84 : (ax_dt (ax_T 193)).lookup 84 = some (.if_icmp .gt 9, 3, 0, 0, 0) := by decide +kernel
theorem l193_87 : (ax_dt (ax_T 193)).lookup 87 = some (.iload_n 3, 1, 0, 0, 0) := by decide +kernel
theorem l193_88 : (ax_dt (ax_T 193)).lookup 88 = some (.bipush 8, 2, 0, 0, 0) := by decide +kernel
theorem l193_90 : (ax_dt (ax_T 193)).lookup 90 = some (.if_icmp .ne 10, 3, 0, 0, 0) := by decide +kernel
theorem l193_93 : (ax_dt (ax_T 193)).lookup 93 = some (.aload_n 0, 1, 0, 0, 0) := by decide +kernel
theorem l193_94 : (ax_dt (ax_T 193)).lookup 94 = some (.iconst 3, 1, 0, 0, 0) := by decide +kernel
theorem l193_95 : (ax_dt (ax_T 193)).lookup 95 = some (.iconst 1, 1, 0, 0, 0) := by decide +kernel
theorem l193_96 : (ax_dt (ax_T 193)).lookup 96 = some (.iload_n 1, 1, 0, 0, 0) := by decide +kernel
theorem l193_97 : (ax_dt (ax_T 193)).lookup 97 = some (.invokevirtual 318, 3, 186, 3, 0) := by decide +kernel
theorem l193_100 : (ax_dt (ax_T 193)).lookup 100 = some (.aload_n 0, 1, 0, 0, 0) := by decide +kernel
theorem l193_101 : (ax_dt (ax_T 193)).lookup 101 = some (.getfield 300, 3, 9, 37, 0) := by decide +kernel
theorem l193_104 : (ax_dt (ax_T 193)).lookup 104 = some (.iconst (-1), 1, 0, 0, 0) := by decide +kernel
theorem l193_105 : (ax_dt (ax_T 193)).lookup 105 = some (.if_icmp .eq 5, 3, 0, 0, 0) := by decide +kernel
theorem l193_108 : (ax_dt (ax_T 193)).lookup 108 = some (.iconst 0, 1, 0, 0, 0) := by decide +kernel
theorem l193_109 : (ax_dt (ax_T 193)).lookup 109 = some (.ireturn, 1, 0, 0, 0) := by decide +kernel
theorem l193_110 : (ax_dt (ax_T 193)).lookup 110 = some (.aload_n 0, 1, 0, 0, 0) := by decide +kernel
theorem l193_111 : (ax_dt (ax_T 193)).lookup 111 = some (.getfield 312, 3, 9, 40, 0) := by decide +kernel
theorem l193_114 : (ax_dt (ax_T 193)).lookup 114 = some (.istore 4, 2, 0, 0, 0) := by decide +kernel
theorem l193_116 : (ax_dt (ax_T 193)).lookup 116 = some (.aload_n 0, 1, 0, 0, 0) := by decide +kernel
theorem l193_117 : (ax_dt (ax_T 193)).lookup 117 = some (.iconst 0, 1, 0, 0, 0) := by decide +kernel
theorem l193_118 : (ax_dt (ax_T 193)).lookup 118 = some (.ldc2_w 337, 3, 0, 0, 2147483647) := by decide +kernel
theorem l193_121 : (ax_dt (ax_T 193)).lookup 121 = some (.invokevirtual 339, 3, 190, 2, 0) := by decide +kernel
theorem l193_124 : (ax_dt (ax_T 193)).lookup 124 = some (.lstore 5, 2, 0, 0, 0) := by decide +kernel
theorem l193_126 : (ax_dt (ax_T 193)).lookup 126 = some (.aload_n 0, 1, 0, 0, 0) := by decide +kernel
theorem l193_127 : (ax_dt (ax_T 193)).lookup 127 = some (.getfield 300, 3, 9, 37, 0) := by decide +kernel
theorem l193_130 : (ax_dt (ax_T 193)).lookup 130 = some (.iconst (-1), 1, 0, 0, 0) := by decide +kernel
theorem l193_131 : (ax_dt (ax_T 193)).lookup 131 = some (.if_icmp .ne 14, 3, 0, 0, 0) := by decide +kernel
theorem l193_134 : (ax_dt (ax_T 193)).lookup 134 = some (.iload_n 2, 1, 0, 0, 0) := by decide +kernel
theorem l193_135 : (ax_dt (ax_T 193)).lookup 135 = some (.ifCond .ne 12, 3, 0, 0, 0) := by decide +kernel
theorem l193_138 : (ax_dt (ax_T 193)).lookup 138 = some (.lload 5, 2, 0, 0, 0) := by decide +kernel
theorem l193_140 : (ax_dt (ax_T 193)).lookup 140 = some (.lconst 0, 1, 0, 0, 0) := by decide +kernel
theorem l193_141 : (ax_dt (ax_T 193)).lookup 141 = some (.lcmp, 1, 0, 0, 0) := by decide +kernel
theorem l193_142 : (ax_dt (ax_T 193)).lookup 142 = some (.ifCond .ne 5, 3, 0, 0, 0) := by decide +kernel
theorem l193_145 : (ax_dt (ax_T 193)).lookup 145 = some (.iconst 0, 1, 0, 0, 0) := by decide +kernel
theorem l193_146 : (ax_dt (ax_T 193)).lookup 146 = some (.ireturn, 1, 0, 0, 0) := by decide +kernel
theorem l193_147 : (ax_dt (ax_T 193)).lookup 147 = some (.iload_n 2, 1, 0, 0, 0) := by decide +kernel
theorem l193_148 : (ax_dt (ax_T 193)).lookup 148 = some (.ifCond .ne 10, 3, 0, 0, 0) := by decide +kernel
theorem l193_151 : (ax_dt (ax_T 193)).lookup 151 = some (.aload_n 0, 1, 0, 0, 0) := by decide +kernel
theorem l193_152 : (ax_dt (ax_T 193)).lookup 152 = some (.iconst 3, 1, 0, 0, 0) := by decide +kernel
theorem l193_153 : (ax_dt (ax_T 193)).lookup 153 = some (.iconst 1, 1, 0, 0, 0) := by decide +kernel
theorem l193_154 : (ax_dt (ax_T 193)).lookup 154 = some (.iload_n 1, 1, 0, 0, 0) := by decide +kernel
theorem l193_155 : (ax_dt (ax_T 193)).lookup 155 = some (.invokevirtual 318, 3, 186, 3, 0) := by decide +kernel
theorem l193_158 : (ax_dt (ax_T 193)).lookup 158 = some (.lload 5, 2, 0, 0, 0) := by decide +kernel
theorem l193_160 : (ax_dt (ax_T 193)).lookup 160 = some (.invokestatic 350, 3, 149, 1, 0) := by decide +kernel
theorem l193_163 : (ax_dt (ax_T 193)).lookup 163 = some (.ifCond .ne 11, 3, 0, 0, 0) := by decide +kernel
theorem l193_166 : (ax_dt (ax_T 193)).lookup 166 = some (.aload_n 0, 1, 0, 0, 0) := by decide +kernel
theorem l193_167 : (ax_dt (ax_T 193)).lookup 167 = some (.iconst 3, 1, 0, 0, 0) := by decide +kernel
theorem l193_168 : (ax_dt (ax_T 193)).lookup 168 = some (.iconst 1, 1, 0, 0, 0) := by decide +kernel
theorem l193_169 : (ax_dt (ax_T 193)).lookup 169 = some (.iload 4, 2, 0, 0, 0) := by decide +kernel
theorem l193_171 : (ax_dt (ax_T 193)).lookup 171 = some (.invokevirtual 318, 3, 186, 3, 0) := by decide +kernel
theorem l193_174 : (ax_dt (ax_T 193)).lookup 174 = some (.aload_n 0, 1, 0, 0, 0) := by decide +kernel
theorem l193_175 : (ax_dt (ax_T 193)).lookup 175 = some (.getfield 300, 3, 9, 37, 0) := by decide +kernel
theorem l193_178 : (ax_dt (ax_T 193)).lookup 178 = some (.iconst (-1), 1, 0, 0, 0) := by decide +kernel
theorem l193_179 : (ax_dt (ax_T 193)).lookup 179 = some (.if_icmp .eq 5, 3, 0, 0, 0) := by decide +kernel
theorem l193_182 : (ax_dt (ax_T 193)).lookup 182 = some (.iconst 0, 1, 0, 0, 0) := by decide +kernel
theorem l193_183 : (ax_dt (ax_T 193)).lookup 183 = some (.ireturn, 1, 0, 0, 0) := by decide +kernel
theorem l193_184 : (ax_dt (ax_T 193)).lookup 184 = some (.aload_n 0, 1, 0, 0, 0) := by decide +kernel
theorem l193_185 : (ax_dt (ax_T 193)).lookup 185 = some (.getfield 108, 3, 9, 48, 0) := by decide +kernel
theorem l193_188 : (ax_dt (ax_T 193)).lookup 188 = some (.bipush 8, 2, 0, 0, 0) := by decide +kernel
theorem l193_190 : (ax_dt (ax_T 193)).lookup 190 = some (.aload_n 0, 1, 0, 0, 0) := by decide +kernel
theorem l193_191 : (ax_dt (ax_T 193)).lookup 191 = some (.getfield 330, 3, 9, 43, 0) := by decide +kernel
theorem l193_194 : (ax_dt (ax_T 193)).lookup 194 = some (.imul, 1, 0, 0, 0) := by decide +kernel
theorem l193_195 : (ax_dt (ax_T 193)).lookup 195 = some (.iload_n 3, 1, 0, 0, 0) := by decide +kernel
theorem l193_196 : (ax_dt (ax_T 193)).lookup 196 = some (.iadd, 1, 0, 0, 0) := by decide +kernel
theorem l193_197 : (ax_dt (ax_T 193)).lookup 197 = some (.iload_n 2, 1, 0, 0, 0) := by decide +kernel
theorem l193_198 : (ax_dt (ax_T 193)).lookup 198 = some (.iastore, 1, 0, 0, 0) := by decide +kernel
theorem l193_199 : (ax_dt (ax_T 193)).lookup 199 = some (.aload_n 0, 1, 0, 0, 0) := by decide +kernel
theorem l193_200 : (ax_dt (ax_T 193)).lookup 200 = some (.getfield 111, 3, 9, 49, 0) := by decide +kernel
theorem l193_203 : (ax_dt (ax_T 193)).lookup 203 = some (.bipush 8, 2, 0, 0, 0) := by decide +kernel
theorem l193_205 : (ax_dt (ax_T 193)).lookup 205 = some (.aload_n 0, 1, 0, 0, 0) := by decide +kernel
theorem l193_206 : (ax_dt (ax_T 193)).lookup 206 = some (.getfield 330, 3, 9, 43, 0) := by decide +kernel
theorem l193_209 : (ax_dt (ax_T 193)).lookup 209 = some (.imul, 1, 0, 0, 0) := by decide +kernel
theorem l193_210 : (ax_dt (ax_T 193)).lookup 210 = some (.iload_n 3, 1, 0, 0, 0) := by decide +kernel
theorem l193_211 : (ax_dt (ax_T 193)).lookup 211 = some (.iadd, 1, 0, 0, 0) := by decide +kernel
theorem l193_212 : (ax_dt (ax_T 193)).lookup 212 = some (.lload 5, 2, 0, 0, 0) := by decide +kernel
theorem l193_214 : (ax_dt (ax_T 193)).lookup 214 = some (.l2i, 1, 0, 0, 0) := by decide +kernel
theorem l193_215 : (ax_dt (ax_T 193)).lookup 215 = some (.iastore, 1, 0, 0, 0) := by decide +kernel
theorem l193_216 : (ax_dt (ax_T 193)).lookup 216 = some (.aload_n 0, 1, 0, 0, 0) := by decide +kernel
theorem l193_217 : (ax_dt (ax_T 193)).lookup 217 = some (.getfield 105, 3, 9, 47, 0) := by decide +kernel
theorem l193_220 : (ax_dt (ax_T 193)).lookup 220 = some (.aload_n 0, 1, 0, 0, 0) := by decide +kernel
theorem l193_221 : (ax_dt (ax_T 193)).lookup 221 = some (.getfield 330, 3, 9, 43, 0) := by decide +kernel
theorem l193_224 : (ax_dt (ax_T 193)).lookup 224 = some (.dup2, 1, 0, 0, 0) := by decide +kernel
theorem l193_225 : (ax_dt (ax_T 193)).lookup 225 = some (.iaload, 1, 0, 0, 0) := by decide +kernel
theorem l193_226 : (ax_dt (ax_T 193)).lookup 226 = some (.iconst 1, 1, 0, 0, 0) := by decide +kernel
theorem l193_227 : (ax_dt (ax_T 193)).lookup 227 = some (.iadd, 1, 0, 0, 0) := by decide +kernel
theorem l193_228 : (ax_dt (ax_T 193)).lookup 228 = some (.iastore, 1, 0, 0, 0) := by decide +kernel
theorem l193_229 : (ax_dt (ax_T 193)).lookup 229 = some (.iconst 1, 1, 0, 0, 0) := by decide +kernel
theorem l193_230 : (ax_dt (ax_T 193)).lookup 230 = some (.ireturn, 1, 0, 0, 0) := by decide +kernel
noncomputable def F_X11_readPair_174 (v2 : Int) (v3 : Int) (v5 : Int) (μ : bM) : Option (Int × bM) := if (μ 76 37) = (-1) then bG (bR (8 * (μ 76 43))) (bG (bR ((8 * (μ 76 43)) + v3)) (bG (0 ≤ ((8 * (μ 76 43)) + v3) ∧ ((8 * (μ 76 43)) + v3) < 1600) (bG (bR (8 * ((bset μ 108 ((8 * (μ 76 43)) + v3).toNat v2) 76 43))) (bG (bR ((8 * ((bset μ 108 ((8 * (μ 76 43)) + v3).toNat v2) 76 43)) + v3)) (bG (0 ≤ ((8 * ((bset μ 108 ((8 * (μ 76 43)) + v3).toNat v2) 76 43)) + v3) ∧ ((8 * ((bset μ 108 ((8 * (μ 76 43)) + v3).toNat v2) 76 43)) + v3) < 1600) (bG (0 ≤ ((bset (bset μ 108 ((8 * (μ 76 43)) + v3).toNat v2) 109 ((8 * ((bset μ 108 ((8 * (μ 76 43)) + v3).toNat v2) 76 43)) + v3).toNat (b32 v5)) 76 43) ∧ ((bset (bset μ 108 ((8 * (μ 76 43)) + v3).toNat v2) 109 ((8 * ((bset μ 108 ((8 * (μ 76 43)) + v3).toNat v2) 76 43)) + v3).toNat (b32 v5)) 76 43) < 200) (bG (bR (((bset (bset μ 108 ((8 * (μ 76 43)) + v3).toNat v2) 109 ((8 * ((bset μ 108 ((8 * (μ 76 43)) + v3).toNat v2) 76 43)) + v3).toNat (b32 v5)) 107 ((bset (bset μ 108 ((8 * (μ 76 43)) + v3).toNat v2) 109 ((8 * ((bset μ 108 ((8 * (μ 76 43)) + v3).toNat v2) 76 43)) + v3).toNat (b32 v5)) 76 43).toNat) + 1)) (bG (0 ≤ ((bset (bset μ 108 ((8 * (μ 76 43)) + v3).toNat v2) 109 ((8 * ((bset μ 108 ((8 * (μ 76 43)) + v3).toNat v2) 76 43)) + v3).toNat (b32 v5)) 76 43) ∧ ((bset (bset μ 108 ((8 * (μ 76 43)) + v3).toNat v2) 109 ((8 * ((bset μ 108 ((8 * (μ 76 43)) + v3).toNat v2) 76 43)) + v3).toNat (b32 v5)) 76 43) < 200) (some (1, (bset (bset (bset μ 108 ((8 * (μ 76 43)) + v3).toNat v2) 109 ((8 * ((bset μ 108 ((8 * (μ 76 43)) + v3).toNat v2) 76 43)) + v3).toNat (b32 v5)) 107 ((bset (bset μ 108 ((8 * (μ 76 43)) + v3).toNat v2) 109 ((8 * ((bset μ 108 ((8 * (μ 76 43)) + v3).toNat v2) 76 43)) + v3).toNat (b32 v5)) 76 43).toNat (((bset (bset μ 108 ((8 * (μ 76 43)) + v3).toNat v2) 109 ((8 * ((bset μ 108 ((8 * (μ 76 43)) + v3).toNat v2) 76 43)) + v3).toNat (b32 v5)) 107 ((bset (bset μ 108 ((8 * (μ 76 43)) + v3).toNat v2) 109 ((8 * ((bset μ 108 ((8 * (μ 76 43)) + v3).toNat v2) 76 43)) + v3).toNat (b32 v5)) 76 43).toNat) + 1)))))))))))) else some (0, μ)
noncomputable def F_X11_readPair_158 (v2 : Int) (v3 : Int) (v4 : Int) (v5 : Int) (μ : bM) : Option (Int × bM) := (F_X11_isForm v5 μ).bind fun w1 => if ¬ w1 = 0 then F_X11_readPair_174 v2 v3 v5 μ else bMm (F_X11_bad 3 1 v4 μ) (fun w3 μ4 => F_X11_readPair_174 v2 v3 v5 μ4)
noncomputable def F_X11_readPair_147 (v1 : Int) (v2 : Int) (v3 : Int) (v4 : Int) (v5 : Int) (μ : bM) : Option (Int × bM) := if ¬ v2 = 0 then F_X11_readPair_158 v2 v3 v4 v5 μ else bMm (F_X11_bad 3 1 v1 μ) (fun w2 μ3 => F_X11_readPair_158 v2 v3 v4 v5 μ3)
noncomputable def F_X11_readPair_100 (v1 : Int) (v2 : Int) (v3 : Int) (μ : bM) : Option (Int × bM) := if (μ 76 37) = (-1) then bMm (F_X11_row 0 2147483647 μ) (fun w2 μ3 => if ¬ (μ3 76 37) = (-1) then some (0, μ3) else if ¬ v2 = 0 then F_X11_readPair_147 v1 v2 v3 (μ 76 40) w2 μ3 else if ¬ (bCmp w2 0) = 0 then F_X11_readPair_147 v1 v2 v3 (μ 76 40) w2 μ3 else some (0, μ3)) else some (0, μ)
noncomputable def F_X11_readPair_93 (v1 : Int) (v2 : Int) (v3 : Int) (μ : bM) : Option (Int × bM) := bMm (F_X11_bad 3 1 v1 μ) (fun w1 μ2 => F_X11_readPair_100 v1 v2 v3 μ2)
noncomputable def F_X11_readPair_80 (v1 : Int) (v2 : Int) (v3 : Int) (μ : bM) : Option (Int × bM) := if 16383 < v2 then F_X11_readPair_93 v1 v2 v3 μ else if ¬ v3 = 8 then F_X11_readPair_100 v1 v2 v3 μ else F_X11_readPair_93 v1 v2 v3 μ
noncomputable def F_X11_readPair_42 (v1 : Int) (v2 : Int) (v3 : Int) (v4 : Int) (μ : bM) : Option ((Int × bM) ⊕ (Int × bM)) := if v3 ≤ v4 then bUp (F_X11_readPair_80 v1 v2 v3 μ) else bG (bR (8 * (μ 76 43))) (bG (bR ((8 * (μ 76 43)) + v4)) (bG (0 ≤ ((8 * (μ 76 43)) + v4) ∧ ((8 * (μ 76 43)) + v4) < 1600) (if ¬ (μ 108 ((8 * (μ 76 43)) + v4).toNat) = v2 then bG (bR (v4 + 1)) (some (.inl ((v4 + 1), μ))) else bMm (F_X11_bad 3 1 v1 μ) (fun w6 μ7 => bG (bR (v4 + 1)) (some (.inl ((v4 + 1), μ7)))))))
noncomputable def F_X11_readPair (μ : bM) : Option (Int × bM) := bMm (F_X11_row 0 2147483647 μ) (fun w1 μ2 => if (μ2 76 37) = (-1) then bG (0 ≤ (μ2 76 43) ∧ (μ2 76 43) < 200) (if (b32 w1) ≤ 0 then F_X11_readPair_100 (μ 76 40) (b32 w1) (μ2 107 (μ2 76 43).toNat) μ2 else bLoop (fun z => F_X11_readPair_42 (μ 76 40) (b32 w1) (μ2 107 (μ2 76 43).toNat) z.1 z.2) (0, μ2)) else some (0, μ2))
theorem p_X11_readPair_174 {L : Nat} {xs : Nat → Int32} {d : Nat} {μ : bM}  {κ : (Int × bM) → Option bX} (hr : ∀ r : Int × bM, κ r = (bMc) r)  {v2 : Int} (h2 : bR v2) {v3 : Int} (h3 : bR v3) {v5 : Int} (h5 : bRL v5) : bD L xs (d + 3) 193 174 [(0, .ref 76), (2, bI v2), (3, bI v3), (5, bLg v5)] [] μ ((F_X11_readPair_174 v2 v3 v5 μ).bind κ) := by
  unfold F_X11_readPair_174
  refine bD.ok fun hk => ?_
  refine b_s (pc' := 175) (lv1 := [(0, .ref 76), (2, bI v2), (3, bI v3), (5, bLg v5)]) (st' := [.ref 76]) l193_174 (fun _ => rfl) ?_
  refine b_gi l193_175 (by rfl) (by decide) (by decide) rfl (b_pc (pc' := 178) rfl ?_)
  refine b_s (pc' := 179) (lv1 := [(0, .ref 76), (2, bI v2), (3, bI v3), (5, bLg v5)]) (st' := [bI (-1), bI (μ 76 37)]) l193_178 (fun _ => rfl) ?_
  refine b_ieq (pt := 184) l193_179 (bO_f hk (ci := 9) (by rfl) rfl) (by decide) (by decide) rfl (fun c1 => ?_) (fun c1 => b_pc (pc' := 182) rfl ?_)
  · refine b_s (pc' := 185) (lv1 := [(0, .ref 76), (2, bI v2), (3, bI v3), (5, bLg v5)]) (st' := [.ref 76]) l193_184 (fun _ => rfl) ?_
    refine b_gp (q' := 108) (j := 32) l193_185 (by rfl) (by decide) (by decide) rfl hk rfl rfl (b_pc (pc' := 188) rfl ?_)
    refine b_bipush l193_188 (by decide) (b_pc (pc' := 190) rfl ?_)
    refine b_s (pc' := 191) (lv1 := [(0, .ref 76), (2, bI v2), (3, bI v3), (5, bLg v5)]) (st' := [.ref 76, bI 8, .ref 108]) l193_190 (fun _ => rfl) ?_
    refine b_gi l193_191 (by rfl) (by decide) (by decide) rfl (b_pc (pc' := 194) rfl ?_)
    refine b_imul l193_194 fun g2 => (b_pc (pc' := 195) rfl ?_)
    refine b_s (pc' := 196) (lv1 := [(0, .ref 76), (2, bI v2), (3, bI v3), (5, bLg v5)]) (st' := [bI v3, bI (8 * (μ 76 43)), .ref 108]) l193_195 (fun _ => rfl) ?_
    refine b_iadd l193_196 fun g3 => (b_pc (pc' := 197) rfl ?_)
    refine b_s (pc' := 198) (lv1 := [(0, .ref 76), (2, bI v2), (3, bI v3), (5, bLg v5)]) (st' := [bI v2, bI ((8 * (μ 76 43)) + v3), .ref 108]) l193_197 (fun _ => rfl) ?_
    refine b_g fun g13 => ?_
    refine b_ias l193_198 (by rfl) g13 h2 (bD.ok fun hk4 => b_pc (pc' := 199) rfl ?_)
    refine b_s (pc' := 200) (lv1 := [(0, .ref 76), (2, bI v2), (3, bI v3), (5, bLg v5)]) (st' := [.ref 76]) l193_199 (fun _ => rfl) ?_
    refine b_gp (q' := 109) (j := 33) l193_200 (by rfl) (by decide) (by decide) rfl hk4 rfl rfl (b_pc (pc' := 203) rfl ?_)
    refine b_bipush l193_203 (by decide) (b_pc (pc' := 205) rfl ?_)
    refine b_s (pc' := 206) (lv1 := [(0, .ref 76), (2, bI v2), (3, bI v3), (5, bLg v5)]) (st' := [.ref 76, bI 8, .ref 109]) l193_205 (fun _ => rfl) ?_
    refine b_gi l193_206 (by rfl) (by decide) (by decide) rfl (b_pc (pc' := 209) rfl ?_)
    refine b_imul l193_209 fun g5 => (b_pc (pc' := 210) rfl ?_)
    refine b_s (pc' := 211) (lv1 := [(0, .ref 76), (2, bI v2), (3, bI v3), (5, bLg v5)]) (st' := [bI v3, bI (8 * ((bset μ 108 ((8 * (μ 76 43)) + v3).toNat v2) 76 43)), .ref 109]) l193_210 (fun _ => rfl) ?_
    refine b_iadd l193_211 fun g6 => (b_pc (pc' := 212) rfl ?_)
    refine b_s (pc' := 214) (lv1 := [(0, .ref 76), (2, bI v2), (3, bI v3), (5, bLg v5)]) (st' := [bLg v5, bI ((8 * ((bset μ 108 ((8 * (μ 76 43)) + v3).toNat v2) 76 43)) + v3), .ref 109]) l193_212 (fun _ => rfl) ?_
    refine b_l2i l193_214 (b_pc (pc' := 215) rfl ?_)
    refine b_g fun g12 => ?_
    refine b_ias l193_215 (by rfl) g12 (b32_R _) (bD.ok fun hk7 => b_pc (pc' := 216) rfl ?_)
    refine b_s (pc' := 217) (lv1 := [(0, .ref 76), (2, bI v2), (3, bI v3), (5, bLg v5)]) (st' := [.ref 76]) l193_216 (fun _ => rfl) ?_
    refine b_gp (q' := 107) (j := 31) l193_217 (by rfl) (by decide) (by decide) rfl hk7 rfl rfl (b_pc (pc' := 220) rfl ?_)
    refine b_s (pc' := 221) (lv1 := [(0, .ref 76), (2, bI v2), (3, bI v3), (5, bLg v5)]) (st' := [.ref 76, .ref 107]) l193_220 (fun _ => rfl) ?_
    refine b_gi l193_221 (by rfl) (by decide) (by decide) rfl (b_pc (pc' := 224) rfl ?_)
    refine b_s (pc' := 225) (lv1 := [(0, .ref 76), (2, bI v2), (3, bI v3), (5, bLg v5)]) (st' := [bI ((bset (bset μ 108 ((8 * (μ 76 43)) + v3).toNat v2) 109 ((8 * ((bset μ 108 ((8 * (μ 76 43)) + v3).toNat v2) 76 43)) + v3).toNat (b32 v5)) 76 43), .ref 107, bI ((bset (bset μ 108 ((8 * (μ 76 43)) + v3).toNat v2) 109 ((8 * ((bset μ 108 ((8 * (μ 76 43)) + v3).toNat v2) 76 43)) + v3).toNat (b32 v5)) 76 43), .ref 107]) l193_224 (fun _ => rfl) ?_
    refine b_g fun g11 => ?_
    refine b_ial l193_225 (by rfl) g11 (b_pc (pc' := 226) rfl ?_)
    refine b_s (pc' := 227) (lv1 := [(0, .ref 76), (2, bI v2), (3, bI v3), (5, bLg v5)]) (st' := [bI 1, bI ((bset (bset μ 108 ((8 * (μ 76 43)) + v3).toNat v2) 109 ((8 * ((bset μ 108 ((8 * (μ 76 43)) + v3).toNat v2) 76 43)) + v3).toNat (b32 v5)) 107 ((bset (bset μ 108 ((8 * (μ 76 43)) + v3).toNat v2) 109 ((8 * ((bset μ 108 ((8 * (μ 76 43)) + v3).toNat v2) 76 43)) + v3).toNat (b32 v5)) 76 43).toNat), bI ((bset (bset μ 108 ((8 * (μ 76 43)) + v3).toNat v2) 109 ((8 * ((bset μ 108 ((8 * (μ 76 43)) + v3).toNat v2) 76 43)) + v3).toNat (b32 v5)) 76 43), .ref 107]) l193_226 (fun _ => rfl) ?_
    refine b_iadd l193_227 fun g8 => (b_pc (pc' := 228) rfl ?_)
    refine b_g fun g10 => ?_
    refine b_ias l193_228 (by rfl) g10 g8 (bD.ok fun hk9 => b_pc (pc' := 229) rfl ?_)
    refine b_s (pc' := 230) (lv1 := [(0, .ref 76), (2, bI v2), (3, bI v3), (5, bLg v5)]) (st' := [bI 1]) l193_229 (fun _ => rfl) ?_
    exact b_retz l193_230 rfl (by decide) (hr _)
  · refine b_s (pc' := 183) (lv1 := [(0, .ref 76), (2, bI v2), (3, bI v3), (5, bLg v5)]) (st' := [bI 0]) l193_182 (fun _ => rfl) ?_
    exact b_retz l193_183 rfl (by decide) (hr _)
theorem p_X11_readPair_158 {L : Nat} {xs : Nat → Int32} {d : Nat} {μ : bM}  {κ : (Int × bM) → Option bX} (hr : ∀ r : Int × bM, κ r = (bMc) r)  {v2 : Int} (h2 : bR v2) {v3 : Int} (h3 : bR v3) {v4 : Int} (h4 : bR v4) {v5 : Int} (h5 : bRL v5) : bD L xs (d + 3) 193 158 [(0, .ref 76), (2, bI v2), (3, bI v3), (4, bI v4), (5, bLg v5)] [] μ ((F_X11_readPair_158 v2 v3 v4 v5 μ).bind κ) := by
  unfold F_X11_readPair_158
  refine bD.ok fun hk => ?_
  refine b_s (pc' := 160) (lv1 := [(0, .ref 76), (2, bI v2), (3, bI v3), (4, bI v4), (5, bLg v5)]) (st' := [bLg v5]) l193_158 (fun _ => rfl) ?_
  refine b_cPz l193_160 rfl (fun _ => trivial) (Nat.le_of_ble_eq_true rfl) (Nat.le_of_ble_eq_true rfl) rfl (r_X11_isForm v5 h5) fun w1 hw1 => b_pc (pc' := 163) rfl ?_
  refine b_zne (pt := 174) l193_163 (bZ_R hw1) (by decide) rfl (fun c2 => ?_) (fun c2 => b_pc (pc' := 166) rfl ?_)
  · refine bD.wk (lv' := [(0, .ref 76), (2, bI v2), (3, bI v3), (5, bLg v5)]) (bSb rfl (bSb rfl (bSb rfl (bSb rfl bSn)))) ?_
    exact p_X11_readPair_174 hr h2 h3 h5
  · refine b_s (pc' := 167) (lv1 := [(0, .ref 76), (2, bI v2), (3, bI v3), (4, bI v4), (5, bLg v5)]) (st' := [.ref 76]) l193_166 (fun _ => rfl) ?_
    refine b_s (pc' := 168) (lv1 := [(0, .ref 76), (2, bI v2), (3, bI v3), (4, bI v4), (5, bLg v5)]) (st' := [bI 3, .ref 76]) l193_167 (fun _ => rfl) ?_
    refine b_s (pc' := 169) (lv1 := [(0, .ref 76), (2, bI v2), (3, bI v3), (4, bI v4), (5, bLg v5)]) (st' := [bI 1, bI 3, .ref 76]) l193_168 (fun _ => rfl) ?_
    refine b_s (pc' := 171) (lv1 := [(0, .ref 76), (2, bI v2), (3, bI v3), (4, bI v4), (5, bLg v5)]) (st' := [bI v4, bI 1, bI 3, .ref 76]) l193_169 (fun _ => rfl) ?_
    refine b_cMv l193_171 rfl (b_rc (ci := 9) (by rfl) (by decide) (by decide +kernel)) (Nat.le_of_ble_eq_true rfl) (Nat.le_of_ble_eq_true rfl) rfl (r_X11_bad 3 (by decide) 1 (by decide) v4 h4) fun w3 μ4 hw3 => bD.ok fun hk5 => b_pc (pc' := 174) rfl ?_
    refine bD.wk (lv' := [(0, .ref 76), (2, bI v2), (3, bI v3), (5, bLg v5)]) (bSb rfl (bSb rfl (bSb rfl (bSb rfl bSn)))) ?_
    exact p_X11_readPair_174 hr h2 h3 h5
theorem p_X11_readPair_147 {L : Nat} {xs : Nat → Int32} {d : Nat} {μ : bM}  {κ : (Int × bM) → Option bX} (hr : ∀ r : Int × bM, κ r = (bMc) r)  {v1 : Int} (h1 : bR v1) {v2 : Int} (h2 : bR v2) {v3 : Int} (h3 : bR v3) {v4 : Int} (h4 : bR v4) {v5 : Int} (h5 : bRL v5) : bD L xs (d + 3) 193 147 [(0, .ref 76), (1, bI v1), (2, bI v2), (3, bI v3), (4, bI v4), (5, bLg v5)] [] μ ((F_X11_readPair_147 v1 v2 v3 v4 v5 μ).bind κ) := by
  unfold F_X11_readPair_147
  refine bD.ok fun hk => ?_
  refine b_s (pc' := 148) (lv1 := [(0, .ref 76), (1, bI v1), (2, bI v2), (3, bI v3), (4, bI v4), (5, bLg v5)]) (st' := [bI v2]) l193_147 (fun _ => rfl) ?_
  refine b_zne (pt := 158) l193_148 h2 (by decide) rfl (fun c1 => ?_) (fun c1 => b_pc (pc' := 151) rfl ?_)
  · refine bD.wk (lv' := [(0, .ref 76), (2, bI v2), (3, bI v3), (4, bI v4), (5, bLg v5)]) (bSb rfl (bSb rfl (bSb rfl (bSb rfl (bSb rfl bSn))))) ?_
    exact p_X11_readPair_158 hr h2 h3 h4 h5
  · refine b_s (pc' := 152) (lv1 := [(0, .ref 76), (1, bI v1), (2, bI v2), (3, bI v3), (4, bI v4), (5, bLg v5)]) (st' := [.ref 76]) l193_151 (fun _ => rfl) ?_
    refine b_s (pc' := 153) (lv1 := [(0, .ref 76), (1, bI v1), (2, bI v2), (3, bI v3), (4, bI v4), (5, bLg v5)]) (st' := [bI 3, .ref 76]) l193_152 (fun _ => rfl) ?_
    refine b_s (pc' := 154) (lv1 := [(0, .ref 76), (1, bI v1), (2, bI v2), (3, bI v3), (4, bI v4), (5, bLg v5)]) (st' := [bI 1, bI 3, .ref 76]) l193_153 (fun _ => rfl) ?_
    refine b_s (pc' := 155) (lv1 := [(0, .ref 76), (1, bI v1), (2, bI v2), (3, bI v3), (4, bI v4), (5, bLg v5)]) (st' := [bI v1, bI 1, bI 3, .ref 76]) l193_154 (fun _ => rfl) ?_
    refine b_cMv l193_155 rfl (b_rc (ci := 9) (by rfl) (by decide) (by decide +kernel)) (Nat.le_of_ble_eq_true rfl) (Nat.le_of_ble_eq_true rfl) rfl (r_X11_bad 3 (by decide) 1 (by decide) v1 h1) fun w2 μ3 hw2 => bD.ok fun hk4 => b_pc (pc' := 158) rfl ?_
    refine bD.wk (lv' := [(0, .ref 76), (2, bI v2), (3, bI v3), (4, bI v4), (5, bLg v5)]) (bSb rfl (bSb rfl (bSb rfl (bSb rfl (bSb rfl bSn))))) ?_
    exact p_X11_readPair_158 hr h2 h3 h4 h5
theorem p_X11_readPair_100 {L : Nat} {xs : Nat → Int32} {d : Nat} {μ : bM}  {κ : (Int × bM) → Option bX} (hr : ∀ r : Int × bM, κ r = (bMc) r)  {v1 : Int} (h1 : bR v1) {v2 : Int} (h2 : bR v2) {v3 : Int} (h3 : bR v3) : bD L xs (d + 3) 193 100 [(0, .ref 76), (1, bI v1), (2, bI v2), (3, bI v3)] [] μ ((F_X11_readPair_100 v1 v2 v3 μ).bind κ) := by
  unfold F_X11_readPair_100
  refine bD.ok fun hk => ?_
  refine b_s (pc' := 101) (lv1 := [(0, .ref 76), (1, bI v1), (2, bI v2), (3, bI v3)]) (st' := [.ref 76]) l193_100 (fun _ => rfl) ?_
  refine b_gi l193_101 (by rfl) (by decide) (by decide) rfl (b_pc (pc' := 104) rfl ?_)
  refine b_s (pc' := 105) (lv1 := [(0, .ref 76), (1, bI v1), (2, bI v2), (3, bI v3)]) (st' := [bI (-1), bI (μ 76 37)]) l193_104 (fun _ => rfl) ?_
  refine b_ieq (pt := 110) l193_105 (bO_f hk (ci := 9) (by rfl) rfl) (by decide) (by decide) rfl (fun c1 => ?_) (fun c1 => b_pc (pc' := 108) rfl ?_)
  · refine b_s (pc' := 111) (lv1 := [(0, .ref 76), (1, bI v1), (2, bI v2), (3, bI v3)]) (st' := [.ref 76]) l193_110 (fun _ => rfl) ?_
    refine b_gi l193_111 (by rfl) (by decide) (by decide) rfl (b_pc (pc' := 114) rfl ?_)
    refine b_w (pc' := 116) (lv1 := ax_st1 [(0, .ref 76), (1, bI v1), (2, bI v2), (3, bI v3)] 4 (bI (μ 76 40))) (lv' := [(0, .ref 76), (1, bI v1), (2, bI v2), (3, bI v3), (4, bI (μ 76 40))]) (st' := []) l193_114 (fun _ => rfl) (bSb rfl (bSb rfl (bSb rfl (bSb rfl (bSb rfl bSn))))) ?_
    refine b_s (pc' := 117) (lv1 := [(0, .ref 76), (1, bI v1), (2, bI v2), (3, bI v3), (4, bI (μ 76 40))]) (st' := [.ref 76]) l193_116 (fun _ => rfl) ?_
    refine b_s (pc' := 118) (lv1 := [(0, .ref 76), (1, bI v1), (2, bI v2), (3, bI v3), (4, bI (μ 76 40))]) (st' := [bI 0, .ref 76]) l193_117 (fun _ => rfl) ?_
    refine b_s (pc' := 121) (lv1 := [(0, .ref 76), (1, bI v1), (2, bI v2), (3, bI v3), (4, bI (μ 76 40))]) (st' := [bLg 2147483647, bI 0, .ref 76]) l193_118 (fun _ => rfl) ?_
    refine b_cMl l193_121 rfl (b_rc (ci := 9) (by rfl) (by decide) (by decide +kernel)) (Nat.le_of_ble_eq_true rfl) (Nat.le_of_ble_eq_true rfl) rfl (r_X11_row 0 (by decide) 2147483647 (by decide)) fun w2 μ3 hw2 => bD.ok fun hk4 => b_pc (pc' := 124) rfl ?_
    refine b_w (pc' := 126) (lv1 := ax_st2 [(0, .ref 76), (1, bI v1), (2, bI v2), (3, bI v3), (4, bI (μ 76 40))] 5 (bLg w2)) (lv' := [(0, .ref 76), (1, bI v1), (2, bI v2), (3, bI v3), (4, bI (μ 76 40)), (5, bLg w2)]) (st' := []) l193_124 (fun _ => rfl) (bSb rfl (bSb rfl (bSb rfl (bSb rfl (bSb rfl (bSb rfl bSn)))))) ?_
    refine b_s (pc' := 127) (lv1 := [(0, .ref 76), (1, bI v1), (2, bI v2), (3, bI v3), (4, bI (μ 76 40)), (5, bLg w2)]) (st' := [.ref 76]) l193_126 (fun _ => rfl) ?_
    refine b_gi l193_127 (by rfl) (by decide) (by decide) rfl (b_pc (pc' := 130) rfl ?_)
    refine b_s (pc' := 131) (lv1 := [(0, .ref 76), (1, bI v1), (2, bI v2), (3, bI v3), (4, bI (μ 76 40)), (5, bLg w2)]) (st' := [bI (-1), bI (μ3 76 37)]) l193_130 (fun _ => rfl) ?_
    refine b_ine (pt := 145) l193_131 (bO_f hk4 (ci := 9) (by rfl) rfl) (by decide) (by decide) rfl (fun c5 => ?_) (fun c5 => b_pc (pc' := 134) rfl ?_)
    · refine b_s (pc' := 146) (lv1 := [(0, .ref 76), (1, bI v1), (2, bI v2), (3, bI v3), (4, bI (μ 76 40)), (5, bLg w2)]) (st' := [bI 0]) l193_145 (fun _ => rfl) ?_
      exact b_retz l193_146 rfl (by decide) (hr _)
    · refine b_s (pc' := 135) (lv1 := [(0, .ref 76), (1, bI v1), (2, bI v2), (3, bI v3), (4, bI (μ 76 40)), (5, bLg w2)]) (st' := [bI v2]) l193_134 (fun _ => rfl) ?_
      refine b_zne (pt := 147) l193_135 h2 (by decide) rfl (fun c6 => ?_) (fun c6 => b_pc (pc' := 138) rfl ?_)
      · refine bD.wk (lv' := [(0, .ref 76), (1, bI v1), (2, bI v2), (3, bI v3), (4, bI (μ 76 40)), (5, bLg w2)]) (bSb rfl (bSb rfl (bSb rfl (bSb rfl (bSb rfl (bSb rfl bSn)))))) ?_
        exact p_X11_readPair_147 hr h1 h2 h3 (bO_f hk (ci := 9) (by rfl) rfl) hw2
      · refine b_s (pc' := 140) (lv1 := [(0, .ref 76), (1, bI v1), (2, bI v2), (3, bI v3), (4, bI (μ 76 40)), (5, bLg w2)]) (st' := [bLg w2]) l193_138 (fun _ => rfl) ?_
        refine b_lconst (e := 0) l193_140 (by decide) (b_pc (pc' := 141) rfl ?_)
        refine b_lcmp l193_141 hw2 (by decide) (b_pc (pc' := 142) rfl ?_)
        refine b_zne (pt := 147) l193_142 (bCmp_R _ _) (by decide) rfl (fun c7 => ?_) (fun c7 => b_pc (pc' := 145) rfl ?_)
        · refine bD.wk (lv' := [(0, .ref 76), (1, bI v1), (2, bI v2), (3, bI v3), (4, bI (μ 76 40)), (5, bLg w2)]) (bSb rfl (bSb rfl (bSb rfl (bSb rfl (bSb rfl (bSb rfl bSn)))))) ?_
          exact p_X11_readPair_147 hr h1 h2 h3 (bO_f hk (ci := 9) (by rfl) rfl) hw2
        · refine b_s (pc' := 146) (lv1 := [(0, .ref 76), (1, bI v1), (2, bI v2), (3, bI v3), (4, bI (μ 76 40)), (5, bLg w2)]) (st' := [bI 0]) l193_145 (fun _ => rfl) ?_
          exact b_retz l193_146 rfl (by decide) (hr _)
  · refine b_s (pc' := 109) (lv1 := [(0, .ref 76), (1, bI v1), (2, bI v2), (3, bI v3)]) (st' := [bI 0]) l193_108 (fun _ => rfl) ?_
    exact b_retz l193_109 rfl (by decide) (hr _)
theorem p_X11_readPair_93 {L : Nat} {xs : Nat → Int32} {d : Nat} {μ : bM}  {κ : (Int × bM) → Option bX} (hr : ∀ r : Int × bM, κ r = (bMc) r)  {v1 : Int} (h1 : bR v1) {v2 : Int} (h2 : bR v2) {v3 : Int} (h3 : bR v3) : bD L xs (d + 3) 193 93 [(0, .ref 76), (1, bI v1), (2, bI v2), (3, bI v3)] [] μ ((F_X11_readPair_93 v1 v2 v3 μ).bind κ) := by
  unfold F_X11_readPair_93
  refine bD.ok fun hk => ?_
  refine b_s (pc' := 94) (lv1 := [(0, .ref 76), (1, bI v1), (2, bI v2), (3, bI v3)]) (st' := [.ref 76]) l193_93 (fun _ => rfl) ?_
  refine b_s (pc' := 95) (lv1 := [(0, .ref 76), (1, bI v1), (2, bI v2), (3, bI v3)]) (st' := [bI 3, .ref 76]) l193_94 (fun _ => rfl) ?_
  refine b_s (pc' := 96) (lv1 := [(0, .ref 76), (1, bI v1), (2, bI v2), (3, bI v3)]) (st' := [bI 1, bI 3, .ref 76]) l193_95 (fun _ => rfl) ?_
  refine b_s (pc' := 97) (lv1 := [(0, .ref 76), (1, bI v1), (2, bI v2), (3, bI v3)]) (st' := [bI v1, bI 1, bI 3, .ref 76]) l193_96 (fun _ => rfl) ?_
  refine b_cMv l193_97 rfl (b_rc (ci := 9) (by rfl) (by decide) (by decide +kernel)) (Nat.le_of_ble_eq_true rfl) (Nat.le_of_ble_eq_true rfl) rfl (r_X11_bad 3 (by decide) 1 (by decide) v1 h1) fun w1 μ2 hw1 => bD.ok fun hk3 => b_pc (pc' := 100) rfl ?_
  refine bD.wk (lv' := [(0, .ref 76), (1, bI v1), (2, bI v2), (3, bI v3)]) (bSb rfl (bSb rfl (bSb rfl (bSb rfl bSn)))) ?_
  exact p_X11_readPair_100 hr h1 h2 h3
theorem p_X11_readPair_80 {L : Nat} {xs : Nat → Int32} {d : Nat} {μ : bM}  {κ : (Int × bM) → Option bX} (hr : ∀ r : Int × bM, κ r = (bMc) r)  {v1 : Int} (h1 : bR v1) {v2 : Int} (h2 : bR v2) {v3 : Int} (h3 : bR v3) : bD L xs (d + 3) 193 80 [(0, .ref 76), (1, bI v1), (2, bI v2), (3, bI v3)] [] μ ((F_X11_readPair_80 v1 v2 v3 μ).bind κ) := by
  unfold F_X11_readPair_80
  refine bD.ok fun hk => ?_
  refine b_s (pc' := 81) (lv1 := [(0, .ref 76), (1, bI v1), (2, bI v2), (3, bI v3)]) (st' := [bI v2]) l193_80 (fun _ => rfl) ?_
  refine b_sipush l193_81 (by decide) (b_pc (pc' := 84) rfl ?_)
  refine b_igt (pt := 93) l193_84 h2 (by decide) (by decide) rfl (fun c1 => ?_) (fun c1 => b_pc (pc' := 87) rfl ?_)
  · refine bD.wk (lv' := [(0, .ref 76), (1, bI v1), (2, bI v2), (3, bI v3)]) (bSb rfl (bSb rfl (bSb rfl (bSb rfl bSn)))) ?_
    exact p_X11_readPair_93 hr h1 h2 h3
  · refine b_s (pc' := 88) (lv1 := [(0, .ref 76), (1, bI v1), (2, bI v2), (3, bI v3)]) (st' := [bI v3]) l193_87 (fun _ => rfl) ?_
    refine b_bipush l193_88 (by decide) (b_pc (pc' := 90) rfl ?_)
    refine b_ine (pt := 100) l193_90 h3 (by decide) (by decide) rfl (fun c2 => ?_) (fun c2 => b_pc (pc' := 93) rfl ?_)
    · refine bD.wk (lv' := [(0, .ref 76), (1, bI v1), (2, bI v2), (3, bI v3)]) (bSb rfl (bSb rfl (bSb rfl (bSb rfl bSn)))) ?_
      exact p_X11_readPair_100 hr h1 h2 h3
    · refine bD.wk (lv' := [(0, .ref 76), (1, bI v1), (2, bI v2), (3, bI v3)]) (bSb rfl (bSb rfl (bSb rfl (bSb rfl bSn)))) ?_
      exact p_X11_readPair_93 hr h1 h2 h3
theorem q_X11_readPair_42 {L : Nat} {xs : Nat → Int32} {d : Nat} {μ : bM} {v1 : Int} {v2 : Int} {v3 : Int} {κ : ((Int × bM) ⊕ (Int × bM)) → Option bX} (hr : ∀ r : Int × bM, κ (.inr r) = (bMc) r) (H42 : ∀ (v4 : Int) (μ : bM), bR v4 → bD L xs (d + 3) 193 42 [(0, .ref 76), (1, bI v1), (2, bI v2), (3, bI v3), (4, bI v4)] [] μ (κ (.inl (v4, μ))))  (h1 : bR v1) (h2 : bR v2) (h3 : bR v3) {v4 : Int} (h4 : bR v4) : bD L xs (d + 3) 193 42 [(0, .ref 76), (1, bI v1), (2, bI v2), (3, bI v3), (4, bI v4)] [] μ ((F_X11_readPair_42 v1 v2 v3 v4 μ).bind κ) := by
  unfold F_X11_readPair_42
  refine bD.ok fun hk => ?_
  refine b_s (pc' := 44) (lv1 := [(0, .ref 76), (1, bI v1), (2, bI v2), (3, bI v3), (4, bI v4)]) (st' := [bI v4]) l193_42 (fun _ => rfl) ?_
  refine b_s (pc' := 45) (lv1 := [(0, .ref 76), (1, bI v1), (2, bI v2), (3, bI v3), (4, bI v4)]) (st' := [bI v3, bI v4]) l193_44 (fun _ => rfl) ?_
  refine b_ige (pt := 80) l193_45 h4 h3 (by decide) rfl (fun c1 => ?_) (fun c1 => b_pc (pc' := 48) rfl ?_)
  · refine b_up (fun _ => rfl) ?_
    refine bD.wk (lv' := [(0, .ref 76), (1, bI v1), (2, bI v2), (3, bI v3)]) (bSb rfl (bSb rfl (bSb rfl (bSb rfl bSn)))) ?_
    exact p_X11_readPair_80 hr h1 h2 h3
  · refine b_s (pc' := 49) (lv1 := [(0, .ref 76), (1, bI v1), (2, bI v2), (3, bI v3), (4, bI v4)]) (st' := [.ref 76]) l193_48 (fun _ => rfl) ?_
    refine b_gp (q' := 108) (j := 32) l193_49 (by rfl) (by decide) (by decide) rfl hk rfl rfl (b_pc (pc' := 52) rfl ?_)
    refine b_bipush l193_52 (by decide) (b_pc (pc' := 54) rfl ?_)
    refine b_s (pc' := 55) (lv1 := [(0, .ref 76), (1, bI v1), (2, bI v2), (3, bI v3), (4, bI v4)]) (st' := [.ref 76, bI 8, .ref 108]) l193_54 (fun _ => rfl) ?_
    refine b_gi l193_55 (by rfl) (by decide) (by decide) rfl (b_pc (pc' := 58) rfl ?_)
    refine b_imul l193_58 fun g2 => (b_pc (pc' := 59) rfl ?_)
    refine b_s (pc' := 61) (lv1 := [(0, .ref 76), (1, bI v1), (2, bI v2), (3, bI v3), (4, bI v4)]) (st' := [bI v4, bI (8 * (μ 76 43)), .ref 108]) l193_59 (fun _ => rfl) ?_
    refine b_iadd l193_61 fun g3 => (b_pc (pc' := 62) rfl ?_)
    refine b_g fun g10 => ?_
    refine b_ial l193_62 (by rfl) g10 (b_pc (pc' := 63) rfl ?_)
    refine b_s (pc' := 64) (lv1 := [(0, .ref 76), (1, bI v1), (2, bI v2), (3, bI v3), (4, bI v4)]) (st' := [bI v2, bI (μ 108 ((8 * (μ 76 43)) + v4).toNat)]) l193_63 (fun _ => rfl) ?_
    refine b_ine (pt := 74) l193_64 (bO_i hk (by rfl)) h2 (by decide) rfl (fun c4 => ?_) (fun c4 => b_pc (pc' := 67) rfl ?_)
    · refine b_inc (lv' := [(0, .ref 76), (1, bI v1), (2, bI v2), (3, bI v3), (4, bI (v4 + 1))]) l193_74 rfl (by decide +kernel) (bSb rfl (bSb rfl (bSb rfl (bSb rfl (bSb rfl bSn))))) fun g5 => (b_pc (pc' := 77) rfl ?_)
      refine b_s (pc' := 42) (lv1 := [(0, .ref 76), (1, bI v1), (2, bI v2), (3, bI v3), (4, bI (v4 + 1))]) (st' := []) l193_77 (fun _ => rfl) ?_
      refine bD.wk (lv' := [(0, .ref 76), (1, bI v1), (2, bI v2), (3, bI v3), (4, bI (v4 + 1))]) (bSb rfl (bSb rfl (bSb rfl (bSb rfl (bSb rfl bSn))))) ?_
      exact H42 (v4 + 1) μ g5
    · refine b_s (pc' := 68) (lv1 := [(0, .ref 76), (1, bI v1), (2, bI v2), (3, bI v3), (4, bI v4)]) (st' := [.ref 76]) l193_67 (fun _ => rfl) ?_
      refine b_s (pc' := 69) (lv1 := [(0, .ref 76), (1, bI v1), (2, bI v2), (3, bI v3), (4, bI v4)]) (st' := [bI 3, .ref 76]) l193_68 (fun _ => rfl) ?_
      refine b_s (pc' := 70) (lv1 := [(0, .ref 76), (1, bI v1), (2, bI v2), (3, bI v3), (4, bI v4)]) (st' := [bI 1, bI 3, .ref 76]) l193_69 (fun _ => rfl) ?_
      refine b_s (pc' := 71) (lv1 := [(0, .ref 76), (1, bI v1), (2, bI v2), (3, bI v3), (4, bI v4)]) (st' := [bI v1, bI 1, bI 3, .ref 76]) l193_70 (fun _ => rfl) ?_
      refine b_cMv l193_71 rfl (b_rc (ci := 9) (by rfl) (by decide) (by decide +kernel)) (Nat.le_of_ble_eq_true rfl) (Nat.le_of_ble_eq_true rfl) rfl (r_X11_bad 3 (by decide) 1 (by decide) v1 h1) fun w6 μ7 hw6 => bD.ok fun hk8 => b_pc (pc' := 74) rfl ?_
      refine b_inc (lv' := [(0, .ref 76), (1, bI v1), (2, bI v2), (3, bI v3), (4, bI (v4 + 1))]) l193_74 rfl (by decide +kernel) (bSb rfl (bSb rfl (bSb rfl (bSb rfl (bSb rfl bSn))))) fun g9 => (b_pc (pc' := 77) rfl ?_)
      refine b_s (pc' := 42) (lv1 := [(0, .ref 76), (1, bI v1), (2, bI v2), (3, bI v3), (4, bI (v4 + 1))]) (st' := []) l193_77 (fun _ => rfl) ?_
      refine bD.wk (lv' := [(0, .ref 76), (1, bI v1), (2, bI v2), (3, bI v3), (4, bI (v4 + 1))]) (bSb rfl (bSb rfl (bSb rfl (bSb rfl (bSb rfl bSn))))) ?_
      exact H42 (v4 + 1) μ7 g9
theorem p_X11_readPair_42 {L : Nat} {xs : Nat → Int32} {d : Nat} {μ : bM}  {κ : (Int × bM) → Option bX} (hr : ∀ r : Int × bM, κ r = (bMc) r)  {v1 : Int} (h1 : bR v1) {v2 : Int} (h2 : bR v2) {v3 : Int} (h3 : bR v3) {v4 : Int} (h4 : bR v4) : bD L xs (d + 3) 193 42 [(0, .ref 76), (1, bI v1), (2, bI v2), (3, bI v3), (4, bI v4)] [] μ ((bLoop (fun z => F_X11_readPair_42 v1 v2 v3 z.1 z.2) (v4, μ)).bind κ) :=
  b_loop (fun z => [(0, .ref 76), (1, bI v1), (2, bI v2), (3, bI v3), (4, bI z.1)]) (fun z => z.2) (fun z => bR z.1) (fun κ' hκ HH z hz => q_X11_readPair_42 (κ := κ') (fun r => (hκ _).trans (hr r)) (fun a4 am b4 => HH (a4, am) b4)  h1 h2 h3 hz) (v4, μ) h4
theorem r_X11_readPair {L : Nat} {xs : Nat → Int32} {d : Nat} {μ : bM}   : bD L xs (d + 3) 193 0 [(0, .ref 76)] [] μ ((F_X11_readPair μ).bind (bMc)) := by
  have hr : ∀ r, (bMc) r = (bMc) r := fun _ => rfl
  unfold F_X11_readPair
  refine bD.ok fun hk => ?_
  refine b_s (pc' := 1) (lv1 := [(0, .ref 76)]) (st' := [.ref 76]) l193_0 (fun _ => rfl) ?_
  refine b_gi l193_1 (by rfl) (by decide) (by decide) rfl (b_pc (pc' := 4) rfl ?_)
  refine b_w (pc' := 5) (lv1 := ax_st1 [(0, .ref 76)] 1 (bI (μ 76 40))) (lv' := [(0, .ref 76), (1, bI (μ 76 40))]) (st' := []) l193_4 (fun _ => rfl) (bSb rfl (bSb rfl bSn)) ?_
  refine b_s (pc' := 6) (lv1 := [(0, .ref 76), (1, bI (μ 76 40))]) (st' := [.ref 76]) l193_5 (fun _ => rfl) ?_
  refine b_s (pc' := 7) (lv1 := [(0, .ref 76), (1, bI (μ 76 40))]) (st' := [bI 0, .ref 76]) l193_6 (fun _ => rfl) ?_
  refine b_s (pc' := 10) (lv1 := [(0, .ref 76), (1, bI (μ 76 40))]) (st' := [bLg 2147483647, bI 0, .ref 76]) l193_7 (fun _ => rfl) ?_
  refine b_cMl l193_10 rfl (b_rc (ci := 9) (by rfl) (by decide) (by decide +kernel)) (Nat.le_of_ble_eq_true rfl) (Nat.le_of_ble_eq_true rfl) rfl (r_X11_row 0 (by decide) 2147483647 (by decide)) fun w1 μ2 hw1 => bD.ok fun hk3 => b_pc (pc' := 13) rfl ?_
  refine b_l2i l193_13 (b_pc (pc' := 14) rfl ?_)
  refine b_w (pc' := 15) (lv1 := ax_st1 [(0, .ref 76), (1, bI (μ 76 40))] 2 (bI (b32 w1))) (lv' := [(0, .ref 76), (1, bI (μ 76 40)), (2, bI (b32 w1))]) (st' := []) l193_14 (fun _ => rfl) (bSb rfl (bSb rfl (bSb rfl bSn))) ?_
  refine b_s (pc' := 16) (lv1 := [(0, .ref 76), (1, bI (μ 76 40)), (2, bI (b32 w1))]) (st' := [.ref 76]) l193_15 (fun _ => rfl) ?_
  refine b_gi l193_16 (by rfl) (by decide) (by decide) rfl (b_pc (pc' := 19) rfl ?_)
  refine b_s (pc' := 20) (lv1 := [(0, .ref 76), (1, bI (μ 76 40)), (2, bI (b32 w1))]) (st' := [bI (-1), bI (μ2 76 37)]) l193_19 (fun _ => rfl) ?_
  refine b_ieq (pt := 25) l193_20 (bO_f hk3 (ci := 9) (by rfl) rfl) (by decide) (by decide) rfl (fun c4 => ?_) (fun c4 => b_pc (pc' := 23) rfl ?_)
  · refine b_s (pc' := 26) (lv1 := [(0, .ref 76), (1, bI (μ 76 40)), (2, bI (b32 w1))]) (st' := [.ref 76]) l193_25 (fun _ => rfl) ?_
    refine b_gp (q' := 107) (j := 31) l193_26 (by rfl) (by decide) (by decide) rfl hk3 rfl rfl (b_pc (pc' := 29) rfl ?_)
    refine b_s (pc' := 30) (lv1 := [(0, .ref 76), (1, bI (μ 76 40)), (2, bI (b32 w1))]) (st' := [.ref 76, .ref 107]) l193_29 (fun _ => rfl) ?_
    refine b_gi l193_30 (by rfl) (by decide) (by decide) rfl (b_pc (pc' := 33) rfl ?_)
    refine b_g fun g6 => ?_
    refine b_ial l193_33 (by rfl) g6 (b_pc (pc' := 34) rfl ?_)
    refine b_w (pc' := 35) (lv1 := ax_st1 [(0, .ref 76), (1, bI (μ 76 40)), (2, bI (b32 w1))] 3 (bI (μ2 107 (μ2 76 43).toNat))) (lv' := [(0, .ref 76), (1, bI (μ 76 40)), (2, bI (b32 w1)), (3, bI (μ2 107 (μ2 76 43).toNat))]) (st' := []) l193_34 (fun _ => rfl) (bSb rfl (bSb rfl (bSb rfl (bSb rfl bSn)))) ?_
    refine b_s (pc' := 36) (lv1 := [(0, .ref 76), (1, bI (μ 76 40)), (2, bI (b32 w1)), (3, bI (μ2 107 (μ2 76 43).toNat))]) (st' := [bI (b32 w1)]) l193_35 (fun _ => rfl) ?_
    refine b_zle (pt := 100) l193_36 (b32_R _) (by decide) rfl (fun c5 => ?_) (fun c5 => b_pc (pc' := 39) rfl ?_)
    · refine bD.wk (lv' := [(0, .ref 76), (1, bI (μ 76 40)), (2, bI (b32 w1)), (3, bI (μ2 107 (μ2 76 43).toNat))]) (bSb rfl (bSb rfl (bSb rfl (bSb rfl bSn)))) ?_
      exact p_X11_readPair_100 hr (bO_f hk (ci := 9) (by rfl) rfl) (b32_R _) (bO_i hk3 (by rfl))
    · refine b_s (pc' := 40) (lv1 := [(0, .ref 76), (1, bI (μ 76 40)), (2, bI (b32 w1)), (3, bI (μ2 107 (μ2 76 43).toNat))]) (st' := [bI 0]) l193_39 (fun _ => rfl) ?_
      refine b_w (pc' := 42) (lv1 := ax_st1 [(0, .ref 76), (1, bI (μ 76 40)), (2, bI (b32 w1)), (3, bI (μ2 107 (μ2 76 43).toNat))] 4 (bI 0)) (lv' := [(0, .ref 76), (1, bI (μ 76 40)), (2, bI (b32 w1)), (3, bI (μ2 107 (μ2 76 43).toNat)), (4, bI 0)]) (st' := []) l193_40 (fun _ => rfl) (bSb rfl (bSb rfl (bSb rfl (bSb rfl (bSb rfl bSn))))) ?_
      refine bD.wk (lv' := [(0, .ref 76), (1, bI (μ 76 40)), (2, bI (b32 w1)), (3, bI (μ2 107 (μ2 76 43).toNat)), (4, bI 0)]) (bSb rfl (bSb rfl (bSb rfl (bSb rfl (bSb rfl bSn))))) ?_
      exact p_X11_readPair_42 hr (bO_f hk (ci := 9) (by rfl) rfl) (b32_R _) (bO_i hk3 (by rfl)) (by decide)
  · refine b_s (pc' := 24) (lv1 := [(0, .ref 76), (1, bI (μ 76 40)), (2, bI (b32 w1))]) (st' := [bI 0]) l193_23 (fun _ => rfl) ?_
    exact b_retz l193_24 rfl (by decide) (hr _)
/-! ETModel.readShape -/
theorem l192_0 : (ax_dt (ax_T 192)).lookup 0 = some (.aload_n 0, 1, 0, 0, 0) := by decide +kernel
theorem l192_1 : (ax_dt (ax_T 192)).lookup 1 = some (.getfield 312, 3, 9, 40, 0) := by decide +kernel
theorem l192_4 : (ax_dt (ax_T 192)).lookup 4 = some (.istore_n 1, 1, 0, 0, 0) := by decide +kernel
theorem l192_5 : (ax_dt (ax_T 192)).lookup 5 = some (.aload_n 0, 1, 0, 0, 0) := by decide +kernel
theorem l192_6 : (ax_dt (ax_T 192)).lookup 6 = some (.iconst 0, 1, 0, 0, 0) := by decide +kernel
theorem l192_7 : (ax_dt (ax_T 192)).lookup 7 = some (.ldc2_w 337, 3, 0, 0, 2147483647) := by decide +kernel
theorem l192_10 : (ax_dt (ax_T 192)).lookup 10 = some (.invokevirtual 339, 3, 190, 2, 0) := by decide +kernel
theorem l192_13 : (ax_dt (ax_T 192)).lookup 13 = some (.l2i, 1, 0, 0, 0) := by decide +kernel
theorem l192_14 : (ax_dt (ax_T 192)).lookup 14 = some (.istore_n 2, 1, 0, 0, 0) := by decide +kernel
theorem l192_15 : (ax_dt (ax_T 192)).lookup 15 = some (.aload_n 0, 1, 0, 0, 0) := by decide +kernel
theorem l192_16 : (ax_dt (ax_T 192)).lookup 16 = some (.getfield 300, 3, 9, 37, 0) := by decide +kernel
theorem l192_19 : (ax_dt (ax_T 192)).lookup 19 = some (.iconst (-1), 1, 0, 0, 0) := by decide +kernel
theorem l192_20 : (ax_dt (ax_T 192)).lookup 20 = some (.if_icmp .ne 7, 3, 0, 0, 0) := by decide +kernel
theorem l192_23 : (ax_dt (ax_T 192)).lookup 23 = some (.iload_n 2, 1, 0, 0, 0) := by decide +kernel
theorem l192_24 : (ax_dt (ax_T 192)).lookup 24 = some (.ifCond .ne 5, 3, 0, 0, 0) := by decide +kernel
theorem l192_27 : (ax_dt (ax_T 192)).lookup 27 = some (.iconst 0, 1, 0, 0, 0) := by decide +kernel
theorem l192_28 : (ax_dt (ax_T 192)).lookup 28 = some (.ireturn, 1, 0, 0, 0) := by decide +kernel
theorem l192_29 : (ax_dt (ax_T 192)).lookup 29 = some (.iconst 0, 1, 0, 0, 0) := by decide +kernel
theorem l192_30 : (ax_dt (ax_T 192)).lookup 30 = some (.istore_n 3, 1, 0, 0, 0) := by decide +kernel
theorem l192_31 : (ax_dt (ax_T 192)).lookup 31 = some (.iload_n 3, 1, 0, 0, 0) := by decide +kernel
theorem l192_32 : (ax_dt (ax_T 192)).lookup 32 = some (.aload_n 0, 1, 0, 0, 0) := by decide +kernel
theorem l192_33 : (ax_dt (ax_T 192)).lookup 33 = some (.getfield 330, 3, 9, 43, 0) := by decide +kernel
theorem l192_36 : (ax_dt (ax_T 192)).lookup 36 = some (.if_icmp .ge 26, 3, 0, 0, 0) := by decide +kernel
theorem l192_39 : (ax_dt (ax_T 192)).lookup 39 = some (.aload_n 0, 1, 0, 0, 0) := by decide +kernel
theorem l192_40 : (ax_dt (ax_T 192)).lookup 40 = some (.getfield 95, 3, 9, 44, 0) := by decide +kernel
theorem l192_43 : (ax_dt (ax_T 192)).lookup 43 = some (.iload_n 3, 1, 0, 0, 0) := by decide +kernel
theorem l192_44 : (ax_dt (ax_T 192)).lookup 44 = some (.iaload, 1, 0, 0, 0) := by decide +kernel
theorem l192_45 : (ax_dt (ax_T 192)).lookup 45 = some (.iload_n 2, 1, 0, 0, 0) := by decide +kernel
theorem l192_46 : (ax_dt (ax_T 192)).lookup 46 = some (.if_icmp .ne 10, 3, 0, 0, 0) := by decide +kernel
theorem l192_49 : (ax_dt (ax_T 192)).lookup 49 = some (.aload_n 0, 1, 0, 0, 0) := by decide +kernel
theorem l192_50 : (ax_dt (ax_T 192)).lookup 50 = some (.iconst 3, 1, 0, 0, 0) := by decide +kernel
theorem l192_51 : (ax_dt (ax_T 192)).lookup 51 = some (.iconst 1, 1, 0, 0, 0) := by decide +kernel
theorem l192_52 : (ax_dt (ax_T 192)).lookup 52 = some (.iload_n 1, 1, 0, 0, 0) := by decide +kernel
theorem l192_53 : (ax_dt (ax_T 192)).lookup 53 = some (.invokevirtual 318, 3, 186, 3, 0) := by decide +kernel
theorem l192_56 : (ax_dt (ax_T 192)).lookup 56 = some (.iinc 3 1, 3, 0, 0, 0) := by decide +kernel
theorem l192_59 : (ax_dt (ax_T 192)).lookup 59 = some (.goto (-28), 3, 0, 0, 0) := by decide +kernel
theorem l192_62 : (ax_dt (ax_T 192)).lookup 62 = some (.aload_n 0, 1, 0, 0, 0) := by decide +kernel
theorem l192_63 : (ax_dt (ax_T 192)).lookup 63 = some (.getfield 330, 3, 9, 43, 0) := by decide +kernel
theorem l192_66 : (ax_dt (ax_T 192)).lookup 66 = some (.sipush 200, 3, 0, 0, 0) := by decide +kernel
theorem l192_69 : (ax_dt (ax_T 192)).lookup 69 = some (.if_icmp .ne 10, 3, 0, 0, 0) := by decide +kernel
theorem l192_72 : (ax_dt (ax_T 192)).lookup 72 = some (.aload_n 0, 1, 0, 0, 0) := by decide +kernel
theorem l192_73 : (ax_dt (ax_T 192)).lookup 73 = some (.iconst 3, 1, 0, 0, 0) := by decide +kernel
theorem l192_74 : (ax_dt (ax_T 192)).lookup 74 = some (.iconst 1, 1, 0, 0, 0) := by decide +kernel
theorem l192_75 : (ax_dt (ax_T 192)).lookup 75 = some (.iload_n 1, 1, 0, 0, 0) := by decide +kernel
theorem l192_76 : (ax_dt (ax_T 192)).lookup 76 = some (.invokevirtual 318, 3, 186, 3, 0) := by decide +kernel
theorem l192_79 : (ax_dt (ax_T 192)).lookup 79 = some (.aload_n 0, 1, 0, 0, 0) := by decide +kernel
theorem l192_80 : (ax_dt (ax_T 192)).lookup 80 = some (.getfield 300, 3, 9, 37, 0) := by decide +kernel
theorem l192_83 : (ax_dt (ax_T 192)).lookup 83 = some (.iconst (-1), 1, 0, 0, 0) := by decide +kernel
theorem l192_84 : (ax_dt (ax_T 192)).lookup 84 = some (.if_icmp .eq 5, 3, 0, 0, 0) := by decide +kernel
theorem l192_87 : (ax_dt (ax_T 192)).lookup 87 = some (.iconst 0, 1, 0, 0, 0) := by decide +kernel
theorem l192_88 : (ax_dt (ax_T 192)).lookup 88 = some (.ireturn, 1, 0, 0, 0) := by decide +kernel
theorem l192_89 : (ax_dt (ax_T 192)).lookup 89 = some (.aload_n 0, 1, 0, 0, 0) := by decide +kernel
theorem l192_90 : (ax_dt (ax_T 192)).lookup 90 = some (.getfield 95, 3, 9, 44, 0) := by decide +kernel
theorem l192_93 : (ax_dt (ax_T 192)).lookup 93 = some (.aload_n 0, 1, 0, 0, 0) := by decide +kernel
theorem l192_94 : (ax_dt (ax_T 192)).lookup 94 = some (.getfield 330, 3, 9, 43, 0) := by decide +kernel
theorem l192_97 : (ax_dt (ax_T 192)).lookup 97 = some (.iload_n 2, 1, 0, 0, 0) := by decide +kernel
theorem l192_98 : (ax_dt (ax_T 192)).lookup 98 = some (.iastore, 1, 0, 0, 0) := by decide +kernel
theorem l192_99 : (ax_dt (ax_T 192)).lookup 99 = some (.aload_n 0, 1, 0, 0, 0) := by decide +kernel
theorem l192_100 : (ax_dt (ax_T 192)).lookup 100 = some (.getfield 312, 3, 9, 40, 0) := by decide +kernel
theorem l192_103 : (ax_dt (ax_T 192)).lookup 103 = some (.istore_n 1, 1, 0, 0, 0) := by decide +kernel
theorem l192_104 : (ax_dt (ax_T 192)).lookup 104 = some (.aload_n 0, 1, 0, 0, 0) := by decide +kernel
theorem l192_105 : (ax_dt (ax_T 192)).lookup 105 = some (.iconst 0, 1, 0, 0, 0) := by decide +kernel
theorem l192_106 : (ax_dt (ax_T 192)).lookup 106 = some (.ldc2_w 337, 3, 0, 0, 2147483647) := by decide +kernel
theorem l192_109 : (ax_dt (ax_T 192)).lookup 109 = some (.invokevirtual 339, 3, 190, 2, 0) := by decide +kernel
theorem l192_112 : (ax_dt (ax_T 192)).lookup 112 = some (.l2i, 1, 0, 0, 0) := by decide +kernel
theorem l192_113 : (ax_dt (ax_T 192)).lookup 113 = some (.istore_n 3, 1, 0, 0, 0) := by decide +kernel
theorem l192_114 : (ax_dt (ax_T 192)).lookup 114 = some (.aload_n 0, 1, 0, 0, 0) := by decide +kernel
theorem l192_115 : (ax_dt (ax_T 192)).lookup 115 = some (.getfield 300, 3, 9, 37, 0) := by decide +kernel
theorem l192_118 : (ax_dt (ax_T 192)).lookup 118 = some (.iconst (-1), 1, 0, 0, 0) := by decide +kernel
theorem l192_119 : (ax_dt (ax_T 192)).lookup 119 = some (.if_icmp .ne 17, 3, 0, 0, 0) := by decide +kernel
theorem l192_122 : (ax_dt (ax_T 192)).lookup 122 = some (.iload_n 3, 1, 0, 0, 0) := by decide +kernel
theorem l192_123 : (ax_dt (ax_T 192)).lookup 123 = some (.invokestatic 144, 3, 139, 1, 0) := by decide +kernel
theorem l192_126 : (ax_dt (ax_T 192)).lookup 126 = some (.ifCond .ne 10, 3, 0, 0, 0) := by decide +kernel
theorem l192_129 : (ax_dt (ax_T 192)).lookup 129 = some (.aload_n 0, 1, 0, 0, 0) := by decide +kernel
theorem l192_130 : (ax_dt (ax_T 192)).lookup 130 = some (.iconst 3, 1, 0, 0, 0) := by decide +kernel
theorem l192_131 : (ax_dt (ax_T 192)).lookup 131 = some (.iconst 1, 1, 0, 0, 0) := by decide +kernel
theorem l192_132 : (ax_dt (ax_T 192)).lookup 132 = some (.iload_n 1, 1, 0, 0, 0) := by decide +kernel
theorem l192_133 : (ax_dt (ax_T 192)).lookup 133 = some (.invokevirtual 318, 3, 186, 3, 0) := by decide +kernel
theorem l192_136 : (ax_dt (ax_T 192)).lookup 136 = some (.aload_n 0, 1, 0, 0, 0) := by decide +kernel
theorem l192_137 : (ax_dt (ax_T 192)).lookup 137 = some (.getfield 98, 3, 9, 45, 0) := by decide +kernel
theorem l192_140 : (ax_dt (ax_T 192)).lookup 140 = some (.aload_n 0, 1, 0, 0, 0) := by decide +kernel
theorem l192_141 : (ax_dt (ax_T 192)).lookup 141 = some (.getfield 330, 3, 9, 43, 0) := by decide +kernel
theorem l192_144 : (ax_dt (ax_T 192)).lookup 144 = some (.iload_n 3, 1, 0, 0, 0) := by decide +kernel
theorem l192_145 : (ax_dt (ax_T 192)).lookup 145 = some (.iastore, 1, 0, 0, 0) := by decide +kernel
theorem l192_146 : (ax_dt (ax_T 192)).lookup 146 = some (.aload_n 0, 1, 0, 0, 0) := by decide +kernel
theorem l192_147 : (ax_dt (ax_T 192)).lookup 147 = some (.getfield 312, 3, 9, 40, 0) := by decide +kernel
theorem l192_150 : (ax_dt (ax_T 192)).lookup 150 = some (.istore_n 1, 1, 0, 0, 0) := by decide +kernel
theorem l192_151 : (ax_dt (ax_T 192)).lookup 151 = some (.aload_n 0, 1, 0, 0, 0) := by decide +kernel
theorem l192_152 : (ax_dt (ax_T 192)).lookup 152 = some (.iconst 1, 1, 0, 0, 0) := by decide +kernel
theorem l192_153 : (ax_dt (ax_T 192)).lookup 153 = some (.invokevirtual 343, 3, 189, 1, 0) := by decide +kernel
theorem l192_156 : (ax_dt (ax_T 192)).lookup 156 = some (.l2i, 1, 0, 0, 0) := by decide +kernel
theorem l192_157 : (ax_dt (ax_T 192)).lookup 157 = some (.istore 4, 2, 0, 0, 0) := by decide +kernel
theorem l192_159 : (ax_dt (ax_T 192)).lookup 159 = some (.aload_n 0, 1, 0, 0, 0) := by decide +kernel
theorem l192_160 : (ax_dt (ax_T 192)).lookup 160 = some (.getfield 300, 3, 9, 37, 0) := by decide +kernel
theorem l192_163 : (ax_dt (ax_T 192)).lookup 163 = some (.iconst (-1), 1, 0, 0, 0) := by decide +kernel
theorem l192_164 : (ax_dt (ax_T 192)).lookup 164 = some (.if_icmp .ne 16, 3, 0, 0, 0) := by decide +kernel
theorem l192_167 : (ax_dt (ax_T 192)).lookup 167 = some (.iload 4, 2, 0, 0, 0) := by decide +kernel
theorem l192_169 : (ax_dt (ax_T 192)).lookup 169 = some (.iconst 1, 1, 0, 0, 0) := by decide +kernel
theorem l192_170 : (ax_dt (ax_T 192)).lookup 170 = some (.if_icmp .le 10, 3, 0, 0, 0) := by decide +kernel
theorem l192_173 : (ax_dt (ax_T 192)).lookup 173 = some (.aload_n 0, 1, 0, 0, 0) := by decide +kernel
theorem l192_174 : (ax_dt (ax_T 192)).lookup 174 = some (.iconst 3, 1, 0, 0, 0) := by decide +kernel
theorem l192_175 : (ax_dt (ax_T 192)).lookup 175 = some (.iconst 1, 1, 0, 0, 0) := by decide +kernel
theorem l192_176 : (ax_dt (ax_T 192)).lookup 176 = some (.iload_n 1, 1, 0, 0, 0) := by decide +kernel
theorem l192_177 : (ax_dt (ax_T 192)).lookup 177 = some (.invokevirtual 318, 3, 186, 3, 0) := by decide +kernel
theorem l192_180 : (ax_dt (ax_T 192)).lookup 180 = some (.aload_n 0, 1, 0, 0, 0) := by decide +kernel
theorem l192_181 : (ax_dt (ax_T 192)).lookup 181 = some (.getfield 101, 3, 9, 46, 0) := by decide +kernel
theorem l192_184 : (ax_dt (ax_T 192)).lookup 184 = some (.aload_n 0, 1, 0, 0, 0) := by decide +kernel
theorem l192_185 : (ax_dt (ax_T 192)).lookup 185 = some (.getfield 330, 3, 9, 43, 0) := by decide +kernel
theorem l192_188 : (ax_dt (ax_T 192)).lookup 188 = some (.iload 4, 2, 0, 0, 0) := by decide +kernel
theorem l192_190 : (ax_dt (ax_T 192)).lookup 190 = some (.iconst 1, 1, 0, 0, 0) := by decide +kernel
theorem l192_191 : (ax_dt (ax_T 192)).lookup 191 = some (.if_icmp .ne 7, 3, 0, 0, 0) := by decide +kernel
theorem l192_194 : (ax_dt (ax_T 192)).lookup 194 = some (.iconst 1, 1, 0, 0, 0) := by decide +kernel
theorem l192_195 : (ax_dt (ax_T 192)).lookup 195 = some (.goto 4, 3, 0, 0, 0) := by decide +kernel
theorem l192_198 : (ax_dt (ax_T 192)).lookup 198 = some (.iconst 0, 1, 0, 0, 0) := by decide +kernel
theorem l192_199 : (ax_dt (ax_T 192)).lookup 199 = some (.bastore, 1, 0, 0, 0) := by decide +kernel
theorem l192_200 : (ax_dt (ax_T 192)).lookup 200 = some (.aload_n 0, 1, 0, 0, 0) := by decide +kernel
theorem l192_201 : (ax_dt (ax_T 192)).lookup 201 = some (.getfield 105, 3, 9, 47, 0) := by decide +kernel
theorem l192_204 : (ax_dt (ax_T 192)).lookup 204 = some (.aload_n 0, 1, 0, 0, 0) := by decide +kernel
theorem l192_205 : (ax_dt (ax_T 192)).lookup 205 = some (.getfield 330, 3, 9, 43, 0) := by decide +kernel
theorem l192_208 : (ax_dt (ax_T 192)).lookup 208 = some (.iconst 0, 1, 0, 0, 0) := by decide +kernel
theorem l192_209 : (ax_dt (ax_T 192)).lookup 209 = some (.iastore, 1, 0, 0, 0) := by decide +kernel
theorem l192_210 : (ax_dt (ax_T 192)).lookup 210 = some (.iconst 1, 1, 0, 0, 0) := by decide +kernel
theorem l192_211 : (ax_dt (ax_T 192)).lookup 211 = some (.istore 5, 2, 0, 0, 0) := by decide +kernel
theorem l192_213 : (ax_dt (ax_T 192)).lookup 213 = some (.iload 5, 2, 0, 0, 0) := by decide +kernel
theorem l192_215 : (ax_dt (ax_T 192)).lookup 215 = some (.ifCond .eq 20, 3, 0, 0, 0) := by decide +kernel
theorem l192_218 : (ax_dt (ax_T 192)).lookup 218 = some (.aload_n 0, 1, 0, 0, 0) := by decide +kernel
theorem l192_219 : (ax_dt (ax_T 192)).lookup 219 = some (.getfield 300, 3, 9, 37, 0) := by decide +kernel
theorem l192_222 : (ax_dt (ax_T 192)).lookup 222 = some (.iconst (-1), 1, 0, 0, 0) := by decide +kernel
theorem l192_223 : (ax_dt (ax_T 192)).lookup 223 = some (.if_icmp .ne 12, 3, 0, 0, 0) := by decide +kernel
theorem l192_226 : (ax_dt (ax_T 192)).lookup 226 = some (.aload_n 0, 1, 0, 0, 0) := by decide +kernel
theorem l192_227 : (ax_dt (ax_T 192)).lookup 227 = some (.invokevirtual 347, 3, 193, 0, 0) := by decide +kernel
theorem l192_230 : (ax_dt (ax_T 192)).lookup 230 = some (.istore 5, 2, 0, 0, 0) := by decide +kernel
theorem l192_232 : (ax_dt (ax_T 192)).lookup 232 = some (.goto (-19), 3, 0, 0, 0) := by decide +kernel
theorem l192_235 : (ax_dt (ax_T 192)).lookup 235 = some (.aload_n 0, 1, 0, 0, 0) := by decide +kernel
theorem l192_236 : (ax_dt (ax_T 192)).lookup 236 = some (.dup, 1, 0, 0, 0) := by decide +kernel
theorem l192_237 : (ax_dt (ax_T 192)).lookup 237 = some (.getfield 330, 3, 9, 43, 0) := by decide +kernel
theorem l192_240 : (ax_dt (ax_T 192)).lookup 240 = some (.iconst 1, 1, 0, 0, 0) := by decide +kernel
theorem l192_241 : (ax_dt (ax_T 192)).lookup 241 = some (.iadd, 1, 0, 0, 0) := by decide +kernel
theorem l192_242 : (ax_dt (ax_T 192)).lookup 242 = some (.putfield 330, 3, 9, 43, 0) := by decide +kernel
theorem l192_245 : (ax_dt (ax_T 192)).lookup 245 = some (.iconst 1, 1, 0, 0, 0) := by decide +kernel
theorem l192_246 : (ax_dt (ax_T 192)).lookup 246 = some (.ireturn, 1, 0, 0, 0) := by decide +kernel
noncomputable def F_X11_readShape_213 (v5 : Int) (μ : bM) : Option ((Int × bM) ⊕ (Int × bM)) := if v5 = 0 then bG (bR ((μ 76 43) + 1)) (some (.inr (1, (bset μ 76 43 ((μ 76 43) + 1))))) else if ¬ (μ 76 37) = (-1) then bG (bR ((μ 76 43) + 1)) (some (.inr (1, (bset μ 76 43 ((μ 76 43) + 1))))) else bMm (F_X11_readPair μ) (fun w7 μ8 => some (.inl (w7, μ8)))
noncomputable def F_X11_readShape_180 (v4 : Int) (μ : bM) : Option (Int × bM) := if ¬ v4 = 1 then bG (0 ≤ (μ 76 43) ∧ (μ 76 43) < 200) (bG (0 ≤ ((bset μ 106 (μ 76 43).toNat 0) 76 43) ∧ ((bset μ 106 (μ 76 43).toNat 0) 76 43) < 200) (bLoop (fun z => F_X11_readShape_213 z.1 z.2) (1, (bset (bset μ 106 (μ 76 43).toNat 0) 107 ((bset μ 106 (μ 76 43).toNat 0) 76 43).toNat 0)))) else bG (0 ≤ (μ 76 43) ∧ (μ 76 43) < 200) (bG (0 ≤ ((bset μ 106 (μ 76 43).toNat 1) 76 43) ∧ ((bset μ 106 (μ 76 43).toNat 1) 76 43) < 200) (bLoop (fun z => F_X11_readShape_213 z.1 z.2) (1, (bset (bset μ 106 (μ 76 43).toNat 1) 107 ((bset μ 106 (μ 76 43).toNat 1) 76 43).toNat 0))))
noncomputable def F_X11_readShape_136 (v3 : Int) (μ : bM) : Option (Int × bM) := bG (0 ≤ (μ 76 43) ∧ (μ 76 43) < 200) (bMm (F_X11_fixed 1 (bset μ 105 (μ 76 43).toNat v3)) (fun w2 μ3 => if ¬ (μ3 76 37) = (-1) then F_X11_readShape_180 (b32 w2) μ3 else if (b32 w2) ≤ 1 then F_X11_readShape_180 (b32 w2) μ3 else bMm (F_X11_bad 3 1 ((bset μ 105 (μ 76 43).toNat v3) 76 40) μ3) (fun w7 μ8 => F_X11_readShape_180 (b32 w2) μ8)))
noncomputable def F_X11_readShape_79 (v2 : Int) (μ : bM) : Option (Int × bM) := if (μ 76 37) = (-1) then bG (0 ≤ (μ 76 43) ∧ (μ 76 43) < 200) (bMm (F_X11_row 0 2147483647 (bset μ 104 (μ 76 43).toNat v2)) (fun w3 μ4 => if ¬ (μ4 76 37) = (-1) then F_X11_readShape_136 (b32 w3) μ4 else (F_X11_isName (b32 w3) μ4).bind fun w7 => if ¬ w7 = 0 then F_X11_readShape_136 (b32 w3) μ4 else bMm (F_X11_bad 3 1 ((bset μ 104 (μ 76 43).toNat v2) 76 40) μ4) (fun w9 μ10 => F_X11_readShape_136 (b32 w3) μ10))) else some (0, μ)
noncomputable def F_X11_readShape_62 (v1 : Int) (v2 : Int) (μ : bM) : Option (Int × bM) := if ¬ (μ 76 43) = 200 then F_X11_readShape_79 v2 μ else bMm (F_X11_bad 3 1 v1 μ) (fun w2 μ3 => F_X11_readShape_79 v2 μ3)
noncomputable def F_X11_readShape_31 (v1 : Int) (v2 : Int) (v3 : Int) (μ : bM) : Option ((Int × bM) ⊕ (Int × bM)) := if (μ 76 43) ≤ v3 then bUp (F_X11_readShape_62 v1 v2 μ) else bG (0 ≤ v3 ∧ v3 < 200) (if ¬ (μ 104 v3.toNat) = v2 then bG (bR (v3 + 1)) (some (.inl ((v3 + 1), μ))) else bMm (F_X11_bad 3 1 v1 μ) (fun w4 μ5 => bG (bR (v3 + 1)) (some (.inl ((v3 + 1), μ5)))))
noncomputable def F_X11_readShape (μ : bM) : Option (Int × bM) := bMm (F_X11_row 0 2147483647 μ) (fun w1 μ2 => if ¬ (μ2 76 37) = (-1) then some (0, μ2) else if ¬ (b32 w1) = 0 then bLoop (fun z => F_X11_readShape_31 (μ 76 40) (b32 w1) z.1 z.2) (0, μ2) else some (0, μ2))
theorem q_X11_readShape_213 {L : Nat} {xs : Nat → Int32} {d : Nat} {μ : bM}  {κ : ((Int × bM) ⊕ (Int × bM)) → Option bX} (hr : ∀ r : Int × bM, κ (.inr r) = (bMc) r) (H213 : ∀ (v5 : Int) (μ : bM), bR v5 → bD L xs (d + 4) 192 213 [(0, .ref 76), (5, bI v5)] [] μ (κ (.inl (v5, μ))))  {v5 : Int} (h5 : bR v5) : bD L xs (d + 4) 192 213 [(0, .ref 76), (5, bI v5)] [] μ ((F_X11_readShape_213 v5 μ).bind κ) := by
  unfold F_X11_readShape_213
  refine bD.ok fun hk => ?_
  refine b_s (pc' := 215) (lv1 := [(0, .ref 76), (5, bI v5)]) (st' := [bI v5]) l192_213 (fun _ => rfl) ?_
  refine b_zeq (pt := 235) l192_215 h5 (by decide) rfl (fun c1 => ?_) (fun c1 => b_pc (pc' := 218) rfl ?_)
  · refine b_s (pc' := 236) (lv1 := [(0, .ref 76), (5, bI v5)]) (st' := [.ref 76]) l192_235 (fun _ => rfl) ?_
    refine b_s (pc' := 237) (lv1 := [(0, .ref 76), (5, bI v5)]) (st' := [.ref 76, .ref 76]) l192_236 (fun _ => rfl) ?_
    refine b_gi l192_237 (by rfl) (by decide) (by decide) rfl (b_pc (pc' := 240) rfl ?_)
    refine b_s (pc' := 241) (lv1 := [(0, .ref 76), (5, bI v5)]) (st' := [bI 1, bI (μ 76 43), .ref 76]) l192_240 (fun _ => rfl) ?_
    refine b_iadd l192_241 fun g2 => (b_pc (pc' := 242) rfl ?_)
    refine b_pi l192_242 (by rfl) (by decide) (by decide) rfl rfl g2 (bD.ok fun hk3 => b_pc (pc' := 245) rfl ?_)
    refine b_s (pc' := 246) (lv1 := [(0, .ref 76), (5, bI v5)]) (st' := [bI 1]) l192_245 (fun _ => rfl) ?_
    exact b_retz l192_246 rfl (by decide) (hr _)
  · refine b_s (pc' := 219) (lv1 := [(0, .ref 76), (5, bI v5)]) (st' := [.ref 76]) l192_218 (fun _ => rfl) ?_
    refine b_gi l192_219 (by rfl) (by decide) (by decide) rfl (b_pc (pc' := 222) rfl ?_)
    refine b_s (pc' := 223) (lv1 := [(0, .ref 76), (5, bI v5)]) (st' := [bI (-1), bI (μ 76 37)]) l192_222 (fun _ => rfl) ?_
    refine b_ine (pt := 235) l192_223 (bO_f hk (ci := 9) (by rfl) rfl) (by decide) (by decide) rfl (fun c4 => ?_) (fun c4 => b_pc (pc' := 226) rfl ?_)
    · refine b_s (pc' := 236) (lv1 := [(0, .ref 76), (5, bI v5)]) (st' := [.ref 76]) l192_235 (fun _ => rfl) ?_
      refine b_s (pc' := 237) (lv1 := [(0, .ref 76), (5, bI v5)]) (st' := [.ref 76, .ref 76]) l192_236 (fun _ => rfl) ?_
      refine b_gi l192_237 (by rfl) (by decide) (by decide) rfl (b_pc (pc' := 240) rfl ?_)
      refine b_s (pc' := 241) (lv1 := [(0, .ref 76), (5, bI v5)]) (st' := [bI 1, bI (μ 76 43), .ref 76]) l192_240 (fun _ => rfl) ?_
      refine b_iadd l192_241 fun g5 => (b_pc (pc' := 242) rfl ?_)
      refine b_pi l192_242 (by rfl) (by decide) (by decide) rfl rfl g5 (bD.ok fun hk6 => b_pc (pc' := 245) rfl ?_)
      refine b_s (pc' := 246) (lv1 := [(0, .ref 76), (5, bI v5)]) (st' := [bI 1]) l192_245 (fun _ => rfl) ?_
      exact b_retz l192_246 rfl (by decide) (hr _)
    · refine b_s (pc' := 227) (lv1 := [(0, .ref 76), (5, bI v5)]) (st' := [.ref 76]) l192_226 (fun _ => rfl) ?_
      refine b_cMz l192_227 rfl (b_rc (ci := 9) (by rfl) (by decide) (by decide +kernel)) (Nat.le_of_ble_eq_true rfl) (Nat.le_of_ble_eq_true rfl) rfl (r_X11_readPair ) fun w7 μ8 hw7 => bD.ok fun hk9 => b_pc (pc' := 230) rfl ?_
      refine b_w (pc' := 232) (lv1 := ax_st1 [(0, .ref 76), (5, bI v5)] 5 (bI w7)) (lv' := [(0, .ref 76), (5, bI w7)]) (st' := []) l192_230 (fun _ => rfl) (bSb rfl (bSb rfl bSn)) ?_
      refine b_s (pc' := 213) (lv1 := [(0, .ref 76), (5, bI w7)]) (st' := []) l192_232 (fun _ => rfl) ?_
      refine bD.wk (lv' := [(0, .ref 76), (5, bI w7)]) (bSb rfl (bSb rfl bSn)) ?_
      exact H213 w7 μ8 (bZ_R hw7)
theorem p_X11_readShape_213 {L : Nat} {xs : Nat → Int32} {d : Nat} {μ : bM}  {κ : (Int × bM) → Option bX} (hr : ∀ r : Int × bM, κ r = (bMc) r)  {v5 : Int} (h5 : bR v5) : bD L xs (d + 4) 192 213 [(0, .ref 76), (5, bI v5)] [] μ ((bLoop (fun z => F_X11_readShape_213 z.1 z.2) (v5, μ)).bind κ) :=
  b_loop (fun z => [(0, .ref 76), (5, bI z.1)]) (fun z => z.2) (fun z => bR z.1) (fun κ' hκ HH z hz => q_X11_readShape_213 (κ := κ') (fun r => (hκ _).trans (hr r)) (fun a5 am b5 => HH (a5, am) b5)  hz) (v5, μ) h5
theorem p_X11_readShape_180 {L : Nat} {xs : Nat → Int32} {d : Nat} {μ : bM}  {κ : (Int × bM) → Option bX} (hr : ∀ r : Int × bM, κ r = (bMc) r)  {v4 : Int} (h4 : bR v4) : bD L xs (d + 4) 192 180 [(0, .ref 76), (4, bI v4)] [] μ ((F_X11_readShape_180 v4 μ).bind κ) := by
  unfold F_X11_readShape_180
  refine bD.ok fun hk => ?_
  refine b_s (pc' := 181) (lv1 := [(0, .ref 76), (4, bI v4)]) (st' := [.ref 76]) l192_180 (fun _ => rfl) ?_
  refine b_gp (q' := 106) (j := 30) l192_181 (by rfl) (by decide) (by decide) rfl hk rfl rfl (b_pc (pc' := 184) rfl ?_)
  refine b_s (pc' := 185) (lv1 := [(0, .ref 76), (4, bI v4)]) (st' := [.ref 76, .ref 106]) l192_184 (fun _ => rfl) ?_
  refine b_gi l192_185 (by rfl) (by decide) (by decide) rfl (b_pc (pc' := 188) rfl ?_)
  refine b_s (pc' := 190) (lv1 := [(0, .ref 76), (4, bI v4)]) (st' := [bI v4, bI (μ 76 43), .ref 106]) l192_188 (fun _ => rfl) ?_
  refine b_s (pc' := 191) (lv1 := [(0, .ref 76), (4, bI v4)]) (st' := [bI 1, bI v4, bI (μ 76 43), .ref 106]) l192_190 (fun _ => rfl) ?_
  refine b_ine (pt := 198) l192_191 h4 (by decide) (by decide) rfl (fun c1 => ?_) (fun c1 => b_pc (pc' := 194) rfl ?_)
  · refine b_s (pc' := 199) (lv1 := [(0, .ref 76), (4, bI v4)]) (st' := [bI 0, bI (μ 76 43), .ref 106]) l192_198 (fun _ => rfl) ?_
    refine b_g fun g5 => ?_
    refine b_zas l192_199 (by rfl) g5 (by decide) (bD.ok fun hk2 => b_pc (pc' := 200) rfl ?_)
    refine b_s (pc' := 201) (lv1 := [(0, .ref 76), (4, bI v4)]) (st' := [.ref 76]) l192_200 (fun _ => rfl) ?_
    refine b_gp (q' := 107) (j := 31) l192_201 (by rfl) (by decide) (by decide) rfl hk2 rfl rfl (b_pc (pc' := 204) rfl ?_)
    refine b_s (pc' := 205) (lv1 := [(0, .ref 76), (4, bI v4)]) (st' := [.ref 76, .ref 107]) l192_204 (fun _ => rfl) ?_
    refine b_gi l192_205 (by rfl) (by decide) (by decide) rfl (b_pc (pc' := 208) rfl ?_)
    refine b_s (pc' := 209) (lv1 := [(0, .ref 76), (4, bI v4)]) (st' := [bI 0, bI ((bset μ 106 (μ 76 43).toNat 0) 76 43), .ref 107]) l192_208 (fun _ => rfl) ?_
    refine b_g fun g4 => ?_
    refine b_ias l192_209 (by rfl) g4 (by decide) (bD.ok fun hk3 => b_pc (pc' := 210) rfl ?_)
    refine b_s (pc' := 211) (lv1 := [(0, .ref 76), (4, bI v4)]) (st' := [bI 1]) l192_210 (fun _ => rfl) ?_
    refine b_w (pc' := 213) (lv1 := ax_st1 [(0, .ref 76), (4, bI v4)] 5 (bI 1)) (lv' := [(0, .ref 76), (5, bI 1)]) (st' := []) l192_211 (fun _ => rfl) (bSb rfl (bSb rfl bSn)) ?_
    refine bD.wk (lv' := [(0, .ref 76), (5, bI 1)]) (bSb rfl (bSb rfl bSn)) ?_
    exact p_X11_readShape_213 hr (by decide)
  · refine b_s (pc' := 195) (lv1 := [(0, .ref 76), (4, bI v4)]) (st' := [bI 1, bI (μ 76 43), .ref 106]) l192_194 (fun _ => rfl) ?_
    refine b_s (pc' := 199) (lv1 := [(0, .ref 76), (4, bI v4)]) (st' := [bI 1, bI (μ 76 43), .ref 106]) l192_195 (fun _ => rfl) ?_
    refine b_g fun g9 => ?_
    refine b_zas l192_199 (by rfl) g9 (by decide) (bD.ok fun hk6 => b_pc (pc' := 200) rfl ?_)
    refine b_s (pc' := 201) (lv1 := [(0, .ref 76), (4, bI v4)]) (st' := [.ref 76]) l192_200 (fun _ => rfl) ?_
    refine b_gp (q' := 107) (j := 31) l192_201 (by rfl) (by decide) (by decide) rfl hk6 rfl rfl (b_pc (pc' := 204) rfl ?_)
    refine b_s (pc' := 205) (lv1 := [(0, .ref 76), (4, bI v4)]) (st' := [.ref 76, .ref 107]) l192_204 (fun _ => rfl) ?_
    refine b_gi l192_205 (by rfl) (by decide) (by decide) rfl (b_pc (pc' := 208) rfl ?_)
    refine b_s (pc' := 209) (lv1 := [(0, .ref 76), (4, bI v4)]) (st' := [bI 0, bI ((bset μ 106 (μ 76 43).toNat 1) 76 43), .ref 107]) l192_208 (fun _ => rfl) ?_
    refine b_g fun g8 => ?_
    refine b_ias l192_209 (by rfl) g8 (by decide) (bD.ok fun hk7 => b_pc (pc' := 210) rfl ?_)
    refine b_s (pc' := 211) (lv1 := [(0, .ref 76), (4, bI v4)]) (st' := [bI 1]) l192_210 (fun _ => rfl) ?_
    refine b_w (pc' := 213) (lv1 := ax_st1 [(0, .ref 76), (4, bI v4)] 5 (bI 1)) (lv' := [(0, .ref 76), (5, bI 1)]) (st' := []) l192_211 (fun _ => rfl) (bSb rfl (bSb rfl bSn)) ?_
    refine bD.wk (lv' := [(0, .ref 76), (5, bI 1)]) (bSb rfl (bSb rfl bSn)) ?_
    exact p_X11_readShape_213 hr (by decide)
theorem p_X11_readShape_136 {L : Nat} {xs : Nat → Int32} {d : Nat} {μ : bM}  {κ : (Int × bM) → Option bX} (hr : ∀ r : Int × bM, κ r = (bMc) r)  {v3 : Int} (h3 : bR v3) : bD L xs (d + 4) 192 136 [(0, .ref 76), (3, bI v3)] [] μ ((F_X11_readShape_136 v3 μ).bind κ) := by
  unfold F_X11_readShape_136
  refine bD.ok fun hk => ?_
  refine b_s (pc' := 137) (lv1 := [(0, .ref 76), (3, bI v3)]) (st' := [.ref 76]) l192_136 (fun _ => rfl) ?_
  refine b_gp (q' := 105) (j := 29) l192_137 (by rfl) (by decide) (by decide) rfl hk rfl rfl (b_pc (pc' := 140) rfl ?_)
  refine b_s (pc' := 141) (lv1 := [(0, .ref 76), (3, bI v3)]) (st' := [.ref 76, .ref 105]) l192_140 (fun _ => rfl) ?_
  refine b_gi l192_141 (by rfl) (by decide) (by decide) rfl (b_pc (pc' := 144) rfl ?_)
  refine b_s (pc' := 145) (lv1 := [(0, .ref 76), (3, bI v3)]) (st' := [bI v3, bI (μ 76 43), .ref 105]) l192_144 (fun _ => rfl) ?_
  refine b_g fun g10 => ?_
  refine b_ias l192_145 (by rfl) g10 h3 (bD.ok fun hk1 => b_pc (pc' := 146) rfl ?_)
  refine b_s (pc' := 147) (lv1 := [(0, .ref 76), (3, bI v3)]) (st' := [.ref 76]) l192_146 (fun _ => rfl) ?_
  refine b_gi l192_147 (by rfl) (by decide) (by decide) rfl (b_pc (pc' := 150) rfl ?_)
  refine b_w (pc' := 151) (lv1 := ax_st1 [(0, .ref 76), (3, bI v3)] 1 (bI ((bset μ 105 (μ 76 43).toNat v3) 76 40))) (lv' := [(0, .ref 76), (1, bI ((bset μ 105 (μ 76 43).toNat v3) 76 40))]) (st' := []) l192_150 (fun _ => rfl) (bSb rfl (bSb rfl bSn)) ?_
  refine b_s (pc' := 152) (lv1 := [(0, .ref 76), (1, bI ((bset μ 105 (μ 76 43).toNat v3) 76 40))]) (st' := [.ref 76]) l192_151 (fun _ => rfl) ?_
  refine b_s (pc' := 153) (lv1 := [(0, .ref 76), (1, bI ((bset μ 105 (μ 76 43).toNat v3) 76 40))]) (st' := [bI 1, .ref 76]) l192_152 (fun _ => rfl) ?_
  refine b_cMl l192_153 rfl (b_rc (ci := 9) (by rfl) (by decide) (by decide +kernel)) (Nat.le_of_ble_eq_true rfl) (Nat.le_of_ble_eq_true rfl) rfl (r_X11_fixed 1 (by decide)) fun w2 μ3 hw2 => bD.ok fun hk4 => b_pc (pc' := 156) rfl ?_
  refine b_l2i l192_156 (b_pc (pc' := 157) rfl ?_)
  refine b_w (pc' := 159) (lv1 := ax_st1 [(0, .ref 76), (1, bI ((bset μ 105 (μ 76 43).toNat v3) 76 40))] 4 (bI (b32 w2))) (lv' := [(0, .ref 76), (1, bI ((bset μ 105 (μ 76 43).toNat v3) 76 40)), (4, bI (b32 w2))]) (st' := []) l192_157 (fun _ => rfl) (bSb rfl (bSb rfl (bSb rfl bSn))) ?_
  refine b_s (pc' := 160) (lv1 := [(0, .ref 76), (1, bI ((bset μ 105 (μ 76 43).toNat v3) 76 40)), (4, bI (b32 w2))]) (st' := [.ref 76]) l192_159 (fun _ => rfl) ?_
  refine b_gi l192_160 (by rfl) (by decide) (by decide) rfl (b_pc (pc' := 163) rfl ?_)
  refine b_s (pc' := 164) (lv1 := [(0, .ref 76), (1, bI ((bset μ 105 (μ 76 43).toNat v3) 76 40)), (4, bI (b32 w2))]) (st' := [bI (-1), bI (μ3 76 37)]) l192_163 (fun _ => rfl) ?_
  refine b_ine (pt := 180) l192_164 (bO_f hk4 (ci := 9) (by rfl) rfl) (by decide) (by decide) rfl (fun c5 => ?_) (fun c5 => b_pc (pc' := 167) rfl ?_)
  · refine bD.wk (lv' := [(0, .ref 76), (4, bI (b32 w2))]) (bSb rfl (bSb rfl bSn)) ?_
    exact p_X11_readShape_180 hr (b32_R _)
  · refine b_s (pc' := 169) (lv1 := [(0, .ref 76), (1, bI ((bset μ 105 (μ 76 43).toNat v3) 76 40)), (4, bI (b32 w2))]) (st' := [bI (b32 w2)]) l192_167 (fun _ => rfl) ?_
    refine b_s (pc' := 170) (lv1 := [(0, .ref 76), (1, bI ((bset μ 105 (μ 76 43).toNat v3) 76 40)), (4, bI (b32 w2))]) (st' := [bI 1, bI (b32 w2)]) l192_169 (fun _ => rfl) ?_
    refine b_ile (pt := 180) l192_170 (b32_R _) (by decide) (by decide) rfl (fun c6 => ?_) (fun c6 => b_pc (pc' := 173) rfl ?_)
    · refine bD.wk (lv' := [(0, .ref 76), (4, bI (b32 w2))]) (bSb rfl (bSb rfl bSn)) ?_
      exact p_X11_readShape_180 hr (b32_R _)
    · refine b_s (pc' := 174) (lv1 := [(0, .ref 76), (1, bI ((bset μ 105 (μ 76 43).toNat v3) 76 40)), (4, bI (b32 w2))]) (st' := [.ref 76]) l192_173 (fun _ => rfl) ?_
      refine b_s (pc' := 175) (lv1 := [(0, .ref 76), (1, bI ((bset μ 105 (μ 76 43).toNat v3) 76 40)), (4, bI (b32 w2))]) (st' := [bI 3, .ref 76]) l192_174 (fun _ => rfl) ?_
      refine b_s (pc' := 176) (lv1 := [(0, .ref 76), (1, bI ((bset μ 105 (μ 76 43).toNat v3) 76 40)), (4, bI (b32 w2))]) (st' := [bI 1, bI 3, .ref 76]) l192_175 (fun _ => rfl) ?_
      refine b_s (pc' := 177) (lv1 := [(0, .ref 76), (1, bI ((bset μ 105 (μ 76 43).toNat v3) 76 40)), (4, bI (b32 w2))]) (st' := [bI ((bset μ 105 (μ 76 43).toNat v3) 76 40), bI 1, bI 3, .ref 76]) l192_176 (fun _ => rfl) ?_
      refine b_cMv l192_177 rfl (b_rc (ci := 9) (by rfl) (by decide) (by decide +kernel)) (Nat.le_of_ble_eq_true rfl) (Nat.le_of_ble_eq_true rfl) rfl (r_X11_bad 3 (by decide) 1 (by decide) ((bset μ 105 (μ 76 43).toNat v3) 76 40) (bO_f hk1 (ci := 9) (by rfl) rfl)) fun w7 μ8 hw7 => bD.ok fun hk9 => b_pc (pc' := 180) rfl ?_
      refine bD.wk (lv' := [(0, .ref 76), (4, bI (b32 w2))]) (bSb rfl (bSb rfl bSn)) ?_
      exact p_X11_readShape_180 hr (b32_R _)
theorem p_X11_readShape_79 {L : Nat} {xs : Nat → Int32} {d : Nat} {μ : bM}  {κ : (Int × bM) → Option bX} (hr : ∀ r : Int × bM, κ r = (bMc) r)  {v2 : Int} (h2 : bR v2) : bD L xs (d + 4) 192 79 [(0, .ref 76), (2, bI v2)] [] μ ((F_X11_readShape_79 v2 μ).bind κ) := by
  unfold F_X11_readShape_79
  refine bD.ok fun hk => ?_
  refine b_s (pc' := 80) (lv1 := [(0, .ref 76), (2, bI v2)]) (st' := [.ref 76]) l192_79 (fun _ => rfl) ?_
  refine b_gi l192_80 (by rfl) (by decide) (by decide) rfl (b_pc (pc' := 83) rfl ?_)
  refine b_s (pc' := 84) (lv1 := [(0, .ref 76), (2, bI v2)]) (st' := [bI (-1), bI (μ 76 37)]) l192_83 (fun _ => rfl) ?_
  refine b_ieq (pt := 89) l192_84 (bO_f hk (ci := 9) (by rfl) rfl) (by decide) (by decide) rfl (fun c1 => ?_) (fun c1 => b_pc (pc' := 87) rfl ?_)
  · refine b_s (pc' := 90) (lv1 := [(0, .ref 76), (2, bI v2)]) (st' := [.ref 76]) l192_89 (fun _ => rfl) ?_
    refine b_gp (q' := 104) (j := 28) l192_90 (by rfl) (by decide) (by decide) rfl hk rfl rfl (b_pc (pc' := 93) rfl ?_)
    refine b_s (pc' := 94) (lv1 := [(0, .ref 76), (2, bI v2)]) (st' := [.ref 76, .ref 104]) l192_93 (fun _ => rfl) ?_
    refine b_gi l192_94 (by rfl) (by decide) (by decide) rfl (b_pc (pc' := 97) rfl ?_)
    refine b_s (pc' := 98) (lv1 := [(0, .ref 76), (2, bI v2)]) (st' := [bI v2, bI (μ 76 43), .ref 104]) l192_97 (fun _ => rfl) ?_
    refine b_g fun g12 => ?_
    refine b_ias l192_98 (by rfl) g12 h2 (bD.ok fun hk2 => b_pc (pc' := 99) rfl ?_)
    refine b_s (pc' := 100) (lv1 := [(0, .ref 76), (2, bI v2)]) (st' := [.ref 76]) l192_99 (fun _ => rfl) ?_
    refine b_gi l192_100 (by rfl) (by decide) (by decide) rfl (b_pc (pc' := 103) rfl ?_)
    refine b_w (pc' := 104) (lv1 := ax_st1 [(0, .ref 76), (2, bI v2)] 1 (bI ((bset μ 104 (μ 76 43).toNat v2) 76 40))) (lv' := [(0, .ref 76), (1, bI ((bset μ 104 (μ 76 43).toNat v2) 76 40))]) (st' := []) l192_103 (fun _ => rfl) (bSb rfl (bSb rfl bSn)) ?_
    refine b_s (pc' := 105) (lv1 := [(0, .ref 76), (1, bI ((bset μ 104 (μ 76 43).toNat v2) 76 40))]) (st' := [.ref 76]) l192_104 (fun _ => rfl) ?_
    refine b_s (pc' := 106) (lv1 := [(0, .ref 76), (1, bI ((bset μ 104 (μ 76 43).toNat v2) 76 40))]) (st' := [bI 0, .ref 76]) l192_105 (fun _ => rfl) ?_
    refine b_s (pc' := 109) (lv1 := [(0, .ref 76), (1, bI ((bset μ 104 (μ 76 43).toNat v2) 76 40))]) (st' := [bLg 2147483647, bI 0, .ref 76]) l192_106 (fun _ => rfl) ?_
    refine b_cMl l192_109 rfl (b_rc (ci := 9) (by rfl) (by decide) (by decide +kernel)) (Nat.le_of_ble_eq_true rfl) (Nat.le_of_ble_eq_true rfl) rfl (r_X11_row 0 (by decide) 2147483647 (by decide)) fun w3 μ4 hw3 => bD.ok fun hk5 => b_pc (pc' := 112) rfl ?_
    refine b_l2i l192_112 (b_pc (pc' := 113) rfl ?_)
    refine b_w (pc' := 114) (lv1 := ax_st1 [(0, .ref 76), (1, bI ((bset μ 104 (μ 76 43).toNat v2) 76 40))] 3 (bI (b32 w3))) (lv' := [(0, .ref 76), (1, bI ((bset μ 104 (μ 76 43).toNat v2) 76 40)), (3, bI (b32 w3))]) (st' := []) l192_113 (fun _ => rfl) (bSb rfl (bSb rfl (bSb rfl bSn))) ?_
    refine b_s (pc' := 115) (lv1 := [(0, .ref 76), (1, bI ((bset μ 104 (μ 76 43).toNat v2) 76 40)), (3, bI (b32 w3))]) (st' := [.ref 76]) l192_114 (fun _ => rfl) ?_
    refine b_gi l192_115 (by rfl) (by decide) (by decide) rfl (b_pc (pc' := 118) rfl ?_)
    refine b_s (pc' := 119) (lv1 := [(0, .ref 76), (1, bI ((bset μ 104 (μ 76 43).toNat v2) 76 40)), (3, bI (b32 w3))]) (st' := [bI (-1), bI (μ4 76 37)]) l192_118 (fun _ => rfl) ?_
    refine b_ine (pt := 136) l192_119 (bO_f hk5 (ci := 9) (by rfl) rfl) (by decide) (by decide) rfl (fun c6 => ?_) (fun c6 => b_pc (pc' := 122) rfl ?_)
    · refine bD.wk (lv' := [(0, .ref 76), (3, bI (b32 w3))]) (bSb rfl (bSb rfl bSn)) ?_
      exact p_X11_readShape_136 hr (b32_R _)
    · refine b_s (pc' := 123) (lv1 := [(0, .ref 76), (1, bI ((bset μ 104 (μ 76 43).toNat v2) 76 40)), (3, bI (b32 w3))]) (st' := [bI (b32 w3)]) l192_122 (fun _ => rfl) ?_
      refine b_cPz l192_123 rfl (fun _ => trivial) (Nat.le_of_ble_eq_true rfl) (Nat.le_of_ble_eq_true rfl) rfl (r_X11_isName (b32 w3) (b32_R _)) fun w7 hw7 => b_pc (pc' := 126) rfl ?_
      refine b_zne (pt := 136) l192_126 (bZ_R hw7) (by decide) rfl (fun c8 => ?_) (fun c8 => b_pc (pc' := 129) rfl ?_)
      · refine bD.wk (lv' := [(0, .ref 76), (3, bI (b32 w3))]) (bSb rfl (bSb rfl bSn)) ?_
        exact p_X11_readShape_136 hr (b32_R _)
      · refine b_s (pc' := 130) (lv1 := [(0, .ref 76), (1, bI ((bset μ 104 (μ 76 43).toNat v2) 76 40)), (3, bI (b32 w3))]) (st' := [.ref 76]) l192_129 (fun _ => rfl) ?_
        refine b_s (pc' := 131) (lv1 := [(0, .ref 76), (1, bI ((bset μ 104 (μ 76 43).toNat v2) 76 40)), (3, bI (b32 w3))]) (st' := [bI 3, .ref 76]) l192_130 (fun _ => rfl) ?_
        refine b_s (pc' := 132) (lv1 := [(0, .ref 76), (1, bI ((bset μ 104 (μ 76 43).toNat v2) 76 40)), (3, bI (b32 w3))]) (st' := [bI 1, bI 3, .ref 76]) l192_131 (fun _ => rfl) ?_
        refine b_s (pc' := 133) (lv1 := [(0, .ref 76), (1, bI ((bset μ 104 (μ 76 43).toNat v2) 76 40)), (3, bI (b32 w3))]) (st' := [bI ((bset μ 104 (μ 76 43).toNat v2) 76 40), bI 1, bI 3, .ref 76]) l192_132 (fun _ => rfl) ?_
        refine b_cMv l192_133 rfl (b_rc (ci := 9) (by rfl) (by decide) (by decide +kernel)) (Nat.le_of_ble_eq_true rfl) (Nat.le_of_ble_eq_true rfl) rfl (r_X11_bad 3 (by decide) 1 (by decide) ((bset μ 104 (μ 76 43).toNat v2) 76 40) (bO_f hk2 (ci := 9) (by rfl) rfl)) fun w9 μ10 hw9 => bD.ok fun hk11 => b_pc (pc' := 136) rfl ?_
        refine bD.wk (lv' := [(0, .ref 76), (3, bI (b32 w3))]) (bSb rfl (bSb rfl bSn)) ?_
        exact p_X11_readShape_136 hr (b32_R _)
  · refine b_s (pc' := 88) (lv1 := [(0, .ref 76), (2, bI v2)]) (st' := [bI 0]) l192_87 (fun _ => rfl) ?_
    exact b_retz l192_88 rfl (by decide) (hr _)
theorem p_X11_readShape_62 {L : Nat} {xs : Nat → Int32} {d : Nat} {μ : bM}  {κ : (Int × bM) → Option bX} (hr : ∀ r : Int × bM, κ r = (bMc) r)  {v1 : Int} (h1 : bR v1) {v2 : Int} (h2 : bR v2) : bD L xs (d + 4) 192 62 [(0, .ref 76), (1, bI v1), (2, bI v2)] [] μ ((F_X11_readShape_62 v1 v2 μ).bind κ) := by
  unfold F_X11_readShape_62
  refine bD.ok fun hk => ?_
  refine b_s (pc' := 63) (lv1 := [(0, .ref 76), (1, bI v1), (2, bI v2)]) (st' := [.ref 76]) l192_62 (fun _ => rfl) ?_
  refine b_gi l192_63 (by rfl) (by decide) (by decide) rfl (b_pc (pc' := 66) rfl ?_)
  refine b_sipush l192_66 (by decide) (b_pc (pc' := 69) rfl ?_)
  refine b_ine (pt := 79) l192_69 (bO_f hk (ci := 9) (by rfl) rfl) (by decide) (by decide) rfl (fun c1 => ?_) (fun c1 => b_pc (pc' := 72) rfl ?_)
  · refine bD.wk (lv' := [(0, .ref 76), (2, bI v2)]) (bSb rfl (bSb rfl bSn)) ?_
    exact p_X11_readShape_79 hr h2
  · refine b_s (pc' := 73) (lv1 := [(0, .ref 76), (1, bI v1), (2, bI v2)]) (st' := [.ref 76]) l192_72 (fun _ => rfl) ?_
    refine b_s (pc' := 74) (lv1 := [(0, .ref 76), (1, bI v1), (2, bI v2)]) (st' := [bI 3, .ref 76]) l192_73 (fun _ => rfl) ?_
    refine b_s (pc' := 75) (lv1 := [(0, .ref 76), (1, bI v1), (2, bI v2)]) (st' := [bI 1, bI 3, .ref 76]) l192_74 (fun _ => rfl) ?_
    refine b_s (pc' := 76) (lv1 := [(0, .ref 76), (1, bI v1), (2, bI v2)]) (st' := [bI v1, bI 1, bI 3, .ref 76]) l192_75 (fun _ => rfl) ?_
    refine b_cMv l192_76 rfl (b_rc (ci := 9) (by rfl) (by decide) (by decide +kernel)) (Nat.le_of_ble_eq_true rfl) (Nat.le_of_ble_eq_true rfl) rfl (r_X11_bad 3 (by decide) 1 (by decide) v1 h1) fun w2 μ3 hw2 => bD.ok fun hk4 => b_pc (pc' := 79) rfl ?_
    refine bD.wk (lv' := [(0, .ref 76), (2, bI v2)]) (bSb rfl (bSb rfl bSn)) ?_
    exact p_X11_readShape_79 hr h2
theorem q_X11_readShape_31 {L : Nat} {xs : Nat → Int32} {d : Nat} {μ : bM} {v1 : Int} {v2 : Int} {κ : ((Int × bM) ⊕ (Int × bM)) → Option bX} (hr : ∀ r : Int × bM, κ (.inr r) = (bMc) r) (H31 : ∀ (v3 : Int) (μ : bM), bR v3 → bD L xs (d + 4) 192 31 [(0, .ref 76), (1, bI v1), (2, bI v2), (3, bI v3)] [] μ (κ (.inl (v3, μ))))  (h1 : bR v1) (h2 : bR v2) {v3 : Int} (h3 : bR v3) : bD L xs (d + 4) 192 31 [(0, .ref 76), (1, bI v1), (2, bI v2), (3, bI v3)] [] μ ((F_X11_readShape_31 v1 v2 v3 μ).bind κ) := by
  unfold F_X11_readShape_31
  refine bD.ok fun hk => ?_
  refine b_s (pc' := 32) (lv1 := [(0, .ref 76), (1, bI v1), (2, bI v2), (3, bI v3)]) (st' := [bI v3]) l192_31 (fun _ => rfl) ?_
  refine b_s (pc' := 33) (lv1 := [(0, .ref 76), (1, bI v1), (2, bI v2), (3, bI v3)]) (st' := [.ref 76, bI v3]) l192_32 (fun _ => rfl) ?_
  refine b_gi l192_33 (by rfl) (by decide) (by decide) rfl (b_pc (pc' := 36) rfl ?_)
  refine b_ige (pt := 62) l192_36 h3 (bO_f hk (ci := 9) (by rfl) rfl) (by decide) rfl (fun c1 => ?_) (fun c1 => b_pc (pc' := 39) rfl ?_)
  · refine b_up (fun _ => rfl) ?_
    refine bD.wk (lv' := [(0, .ref 76), (1, bI v1), (2, bI v2)]) (bSb rfl (bSb rfl (bSb rfl bSn))) ?_
    exact p_X11_readShape_62 hr h1 h2
  · refine b_s (pc' := 40) (lv1 := [(0, .ref 76), (1, bI v1), (2, bI v2), (3, bI v3)]) (st' := [.ref 76]) l192_39 (fun _ => rfl) ?_
    refine b_gp (q' := 104) (j := 28) l192_40 (by rfl) (by decide) (by decide) rfl hk rfl rfl (b_pc (pc' := 43) rfl ?_)
    refine b_s (pc' := 44) (lv1 := [(0, .ref 76), (1, bI v1), (2, bI v2), (3, bI v3)]) (st' := [bI v3, .ref 104]) l192_43 (fun _ => rfl) ?_
    refine b_g fun g8 => ?_
    refine b_ial l192_44 (by rfl) g8 (b_pc (pc' := 45) rfl ?_)
    refine b_s (pc' := 46) (lv1 := [(0, .ref 76), (1, bI v1), (2, bI v2), (3, bI v3)]) (st' := [bI v2, bI (μ 104 v3.toNat)]) l192_45 (fun _ => rfl) ?_
    refine b_ine (pt := 56) l192_46 (bO_i hk (by rfl)) h2 (by decide) rfl (fun c2 => ?_) (fun c2 => b_pc (pc' := 49) rfl ?_)
    · refine b_inc (lv' := [(0, .ref 76), (1, bI v1), (2, bI v2), (3, bI (v3 + 1))]) l192_56 rfl (by decide +kernel) (bSb rfl (bSb rfl (bSb rfl (bSb rfl bSn)))) fun g3 => (b_pc (pc' := 59) rfl ?_)
      refine b_s (pc' := 31) (lv1 := [(0, .ref 76), (1, bI v1), (2, bI v2), (3, bI (v3 + 1))]) (st' := []) l192_59 (fun _ => rfl) ?_
      refine bD.wk (lv' := [(0, .ref 76), (1, bI v1), (2, bI v2), (3, bI (v3 + 1))]) (bSb rfl (bSb rfl (bSb rfl (bSb rfl bSn)))) ?_
      exact H31 (v3 + 1) μ g3
    · refine b_s (pc' := 50) (lv1 := [(0, .ref 76), (1, bI v1), (2, bI v2), (3, bI v3)]) (st' := [.ref 76]) l192_49 (fun _ => rfl) ?_
      refine b_s (pc' := 51) (lv1 := [(0, .ref 76), (1, bI v1), (2, bI v2), (3, bI v3)]) (st' := [bI 3, .ref 76]) l192_50 (fun _ => rfl) ?_
      refine b_s (pc' := 52) (lv1 := [(0, .ref 76), (1, bI v1), (2, bI v2), (3, bI v3)]) (st' := [bI 1, bI 3, .ref 76]) l192_51 (fun _ => rfl) ?_
      refine b_s (pc' := 53) (lv1 := [(0, .ref 76), (1, bI v1), (2, bI v2), (3, bI v3)]) (st' := [bI v1, bI 1, bI 3, .ref 76]) l192_52 (fun _ => rfl) ?_
      refine b_cMv l192_53 rfl (b_rc (ci := 9) (by rfl) (by decide) (by decide +kernel)) (Nat.le_of_ble_eq_true rfl) (Nat.le_of_ble_eq_true rfl) rfl (r_X11_bad 3 (by decide) 1 (by decide) v1 h1) fun w4 μ5 hw4 => bD.ok fun hk6 => b_pc (pc' := 56) rfl ?_
      refine b_inc (lv' := [(0, .ref 76), (1, bI v1), (2, bI v2), (3, bI (v3 + 1))]) l192_56 rfl (by decide +kernel) (bSb rfl (bSb rfl (bSb rfl (bSb rfl bSn)))) fun g7 => (b_pc (pc' := 59) rfl ?_)
      refine b_s (pc' := 31) (lv1 := [(0, .ref 76), (1, bI v1), (2, bI v2), (3, bI (v3 + 1))]) (st' := []) l192_59 (fun _ => rfl) ?_
      refine bD.wk (lv' := [(0, .ref 76), (1, bI v1), (2, bI v2), (3, bI (v3 + 1))]) (bSb rfl (bSb rfl (bSb rfl (bSb rfl bSn)))) ?_
      exact H31 (v3 + 1) μ5 g7
theorem p_X11_readShape_31 {L : Nat} {xs : Nat → Int32} {d : Nat} {μ : bM}  {κ : (Int × bM) → Option bX} (hr : ∀ r : Int × bM, κ r = (bMc) r)  {v1 : Int} (h1 : bR v1) {v2 : Int} (h2 : bR v2) {v3 : Int} (h3 : bR v3) : bD L xs (d + 4) 192 31 [(0, .ref 76), (1, bI v1), (2, bI v2), (3, bI v3)] [] μ ((bLoop (fun z => F_X11_readShape_31 v1 v2 z.1 z.2) (v3, μ)).bind κ) :=
  b_loop (fun z => [(0, .ref 76), (1, bI v1), (2, bI v2), (3, bI z.1)]) (fun z => z.2) (fun z => bR z.1) (fun κ' hκ HH z hz => q_X11_readShape_31 (κ := κ') (fun r => (hκ _).trans (hr r)) (fun a3 am b3 => HH (a3, am) b3)  h1 h2 hz) (v3, μ) h3
theorem r_X11_readShape {L : Nat} {xs : Nat → Int32} {d : Nat} {μ : bM}   : bD L xs (d + 4) 192 0 [(0, .ref 76)] [] μ ((F_X11_readShape μ).bind (bMc)) := by
  have hr : ∀ r, (bMc) r = (bMc) r := fun _ => rfl
  unfold F_X11_readShape
  refine bD.ok fun hk => ?_
  refine b_s (pc' := 1) (lv1 := [(0, .ref 76)]) (st' := [.ref 76]) l192_0 (fun _ => rfl) ?_
  refine b_gi l192_1 (by rfl) (by decide) (by decide) rfl (b_pc (pc' := 4) rfl ?_)
  refine b_w (pc' := 5) (lv1 := ax_st1 [(0, .ref 76)] 1 (bI (μ 76 40))) (lv' := [(0, .ref 76), (1, bI (μ 76 40))]) (st' := []) l192_4 (fun _ => rfl) (bSb rfl (bSb rfl bSn)) ?_
  refine b_s (pc' := 6) (lv1 := [(0, .ref 76), (1, bI (μ 76 40))]) (st' := [.ref 76]) l192_5 (fun _ => rfl) ?_
  refine b_s (pc' := 7) (lv1 := [(0, .ref 76), (1, bI (μ 76 40))]) (st' := [bI 0, .ref 76]) l192_6 (fun _ => rfl) ?_
  refine b_s (pc' := 10) (lv1 := [(0, .ref 76), (1, bI (μ 76 40))]) (st' := [bLg 2147483647, bI 0, .ref 76]) l192_7 (fun _ => rfl) ?_
  refine b_cMl l192_10 rfl (b_rc (ci := 9) (by rfl) (by decide) (by decide +kernel)) (Nat.le_of_ble_eq_true rfl) (Nat.le_of_ble_eq_true rfl) rfl (r_X11_row 0 (by decide) 2147483647 (by decide)) fun w1 μ2 hw1 => bD.ok fun hk3 => b_pc (pc' := 13) rfl ?_
  refine b_l2i l192_13 (b_pc (pc' := 14) rfl ?_)
  refine b_w (pc' := 15) (lv1 := ax_st1 [(0, .ref 76), (1, bI (μ 76 40))] 2 (bI (b32 w1))) (lv' := [(0, .ref 76), (1, bI (μ 76 40)), (2, bI (b32 w1))]) (st' := []) l192_14 (fun _ => rfl) (bSb rfl (bSb rfl (bSb rfl bSn))) ?_
  refine b_s (pc' := 16) (lv1 := [(0, .ref 76), (1, bI (μ 76 40)), (2, bI (b32 w1))]) (st' := [.ref 76]) l192_15 (fun _ => rfl) ?_
  refine b_gi l192_16 (by rfl) (by decide) (by decide) rfl (b_pc (pc' := 19) rfl ?_)
  refine b_s (pc' := 20) (lv1 := [(0, .ref 76), (1, bI (μ 76 40)), (2, bI (b32 w1))]) (st' := [bI (-1), bI (μ2 76 37)]) l192_19 (fun _ => rfl) ?_
  refine b_ine (pt := 27) l192_20 (bO_f hk3 (ci := 9) (by rfl) rfl) (by decide) (by decide) rfl (fun c4 => ?_) (fun c4 => b_pc (pc' := 23) rfl ?_)
  · refine b_s (pc' := 28) (lv1 := [(0, .ref 76), (1, bI (μ 76 40)), (2, bI (b32 w1))]) (st' := [bI 0]) l192_27 (fun _ => rfl) ?_
    exact b_retz l192_28 rfl (by decide) (hr _)
  · refine b_s (pc' := 24) (lv1 := [(0, .ref 76), (1, bI (μ 76 40)), (2, bI (b32 w1))]) (st' := [bI (b32 w1)]) l192_23 (fun _ => rfl) ?_
    refine b_zne (pt := 29) l192_24 (b32_R _) (by decide) rfl (fun c5 => ?_) (fun c5 => b_pc (pc' := 27) rfl ?_)
    · refine b_s (pc' := 30) (lv1 := [(0, .ref 76), (1, bI (μ 76 40)), (2, bI (b32 w1))]) (st' := [bI 0]) l192_29 (fun _ => rfl) ?_
      refine b_w (pc' := 31) (lv1 := ax_st1 [(0, .ref 76), (1, bI (μ 76 40)), (2, bI (b32 w1))] 3 (bI 0)) (lv' := [(0, .ref 76), (1, bI (μ 76 40)), (2, bI (b32 w1)), (3, bI 0)]) (st' := []) l192_30 (fun _ => rfl) (bSb rfl (bSb rfl (bSb rfl (bSb rfl bSn)))) ?_
      refine bD.wk (lv' := [(0, .ref 76), (1, bI (μ 76 40)), (2, bI (b32 w1)), (3, bI 0)]) (bSb rfl (bSb rfl (bSb rfl (bSb rfl bSn)))) ?_
      exact p_X11_readShape_31 hr (bO_f hk (ci := 9) (by rfl) rfl) (b32_R _) (by decide)
    · refine b_s (pc' := 28) (lv1 := [(0, .ref 76), (1, bI (μ 76 40)), (2, bI (b32 w1))]) (st' := [bI 0]) l192_27 (fun _ => rfl) ?_
      exact b_retz l192_28 rfl (by decide) (hr _)
/-! ETModel.readTable -/
theorem l191_0 : (ax_dt (ax_T 191)).lookup 0 = some (.aload_n 0, 1, 0, 0, 0) := by decide +kernel
theorem l191_1 : (ax_dt (ax_T 191)).lookup 1 = some (.iconst 1, 1, 0, 0, 0) := by decide +kernel
theorem l191_2 : (ax_dt (ax_T 191)).lookup 2 = some (.putfield 309, 3, 9, 42, 0) := by decide +kernel
theorem l191_5 : (ax_dt (ax_T 191)).lookup 5 = some (.aload_n 0, 1, 0, 0, 0) := by decide +kernel
theorem l191_6 : (ax_dt (ax_T 191)).lookup 6 = some (.iload_n 1, 1, 0, 0, 0) := by decide +kernel
theorem l191_7 : (ax_dt (ax_T 191)).lookup 7 = some (.putfield 312, 3, 9, 40, 0) := by decide +kernel
theorem l191_10 : (ax_dt (ax_T 191)).lookup 10 = some (.aload_n 0, 1, 0, 0, 0) := by decide +kernel
theorem l191_11 : (ax_dt (ax_T 191)).lookup 11 = some (.aload_n 0, 1, 0, 0, 0) := by decide +kernel
theorem l191_12 : (ax_dt (ax_T 191)).lookup 12 = some (.getfield 65, 3, 9, 20, 0) := by decide +kernel
theorem l191_15 : (ax_dt (ax_T 191)).lookup 15 = some (.iconst 1, 1, 0, 0, 0) := by decide +kernel
theorem l191_16 : (ax_dt (ax_T 191)).lookup 16 = some (.iaload, 1, 0, 0, 0) := by decide +kernel
theorem l191_17 : (ax_dt (ax_T 191)).lookup 17 = some (.putfield 315, 3, 9, 41, 0) := by decide +kernel
theorem l191_20 : (ax_dt (ax_T 191)).lookup 20 = some (.aload_n 0, 1, 0, 0, 0) := by decide +kernel
theorem l191_21 : (ax_dt (ax_T 191)).lookup 21 = some (.iconst 0, 1, 0, 0, 0) := by decide +kernel
theorem l191_22 : (ax_dt (ax_T 191)).lookup 22 = some (.putfield 330, 3, 9, 43, 0) := by decide +kernel
theorem l191_25 : (ax_dt (ax_T 191)).lookup 25 = some (.iconst 1, 1, 0, 0, 0) := by decide +kernel
theorem l191_26 : (ax_dt (ax_T 191)).lookup 26 = some (.istore_n 2, 1, 0, 0, 0) := by decide +kernel
theorem l191_27 : (ax_dt (ax_T 191)).lookup 27 = some (.iload_n 2, 1, 0, 0, 0) := by decide +kernel
theorem l191_28 : (ax_dt (ax_T 191)).lookup 28 = some (.ifCond .eq 19, 3, 0, 0, 0) := by decide +kernel
theorem l191_31 : (ax_dt (ax_T 191)).lookup 31 = some (.aload_n 0, 1, 0, 0, 0) := by decide +kernel
theorem l191_32 : (ax_dt (ax_T 191)).lookup 32 = some (.getfield 300, 3, 9, 37, 0) := by decide +kernel
theorem l191_35 : (ax_dt (ax_T 191)).lookup 35 = some (.iconst (-1), 1, 0, 0, 0) := by decide +kernel
theorem l191_36 : (ax_dt (ax_T 191)).lookup 36 = some (.if_icmp .ne 11, 3, 0, 0, 0) := by decide +kernel
theorem l191_39 : (ax_dt (ax_T 191)).lookup 39 = some (.aload_n 0, 1, 0, 0, 0) := by decide +kernel
theorem l191_40 : (ax_dt (ax_T 191)).lookup 40 = some (.invokevirtual 333, 3, 192, 0, 0) := by decide +kernel
theorem l191_43 : (ax_dt (ax_T 191)).lookup 43 = some (.istore_n 2, 1, 0, 0, 0) := by decide +kernel
theorem l191_44 : (ax_dt (ax_T 191)).lookup 44 = some (.goto (-17), 3, 0, 0, 0) := by decide +kernel
theorem l191_47 : (ax_dt (ax_T 191)).lookup 47 = some (.return_, 1, 0, 0, 0) := by decide +kernel
noncomputable def F_X11_readTable_27 (v2 : Int) (μ : bM) : Option ((Int × bM) ⊕ (Int × bM)) := if v2 = 0 then some (.inr (0, μ)) else if ¬ (μ 76 37) = (-1) then some (.inr (0, μ)) else bMm (F_X11_readShape μ) (fun w3 μ4 => some (.inl (w3, μ4)))
noncomputable def F_X11_readTable (v1 : Int) (μ : bM) : Option (Int × bM) := bLoop (fun z => F_X11_readTable_27 z.1 z.2) (1, (bset (bset (bset (bset μ 76 42 1) 76 40 v1) 76 41 ((bset (bset μ 76 42 1) 76 40 v1) 94 1)) 76 43 0))
theorem q_X11_readTable_27 {L : Nat} {xs : Nat → Int32} {d : Nat} {μ : bM}  {κ : ((Int × bM) ⊕ (Int × bM)) → Option bX} (hr : ∀ r : Int × bM, κ (.inr r) = (bMc) r) (H27 : ∀ (v2 : Int) (μ : bM), bR v2 → bD L xs (d + 5) 191 27 [(0, .ref 76), (2, bI v2)] [] μ (κ (.inl (v2, μ))))  {v2 : Int} (h2 : bR v2) : bD L xs (d + 5) 191 27 [(0, .ref 76), (2, bI v2)] [] μ ((F_X11_readTable_27 v2 μ).bind κ) := by
  unfold F_X11_readTable_27
  refine bD.ok fun hk => ?_
  refine b_s (pc' := 28) (lv1 := [(0, .ref 76), (2, bI v2)]) (st' := [bI v2]) l191_27 (fun _ => rfl) ?_
  refine b_zeq (pt := 47) l191_28 h2 (by decide) rfl (fun c1 => ?_) (fun c1 => b_pc (pc' := 31) rfl ?_)
  · exact b_retv l191_47 rfl (hr _)
  · refine b_s (pc' := 32) (lv1 := [(0, .ref 76), (2, bI v2)]) (st' := [.ref 76]) l191_31 (fun _ => rfl) ?_
    refine b_gi l191_32 (by rfl) (by decide) (by decide) rfl (b_pc (pc' := 35) rfl ?_)
    refine b_s (pc' := 36) (lv1 := [(0, .ref 76), (2, bI v2)]) (st' := [bI (-1), bI (μ 76 37)]) l191_35 (fun _ => rfl) ?_
    refine b_ine (pt := 47) l191_36 (bO_f hk (ci := 9) (by rfl) rfl) (by decide) (by decide) rfl (fun c2 => ?_) (fun c2 => b_pc (pc' := 39) rfl ?_)
    · exact b_retv l191_47 rfl (hr _)
    · refine b_s (pc' := 40) (lv1 := [(0, .ref 76), (2, bI v2)]) (st' := [.ref 76]) l191_39 (fun _ => rfl) ?_
      refine b_cMz l191_40 rfl (b_rc (ci := 9) (by rfl) (by decide) (by decide +kernel)) (Nat.le_of_ble_eq_true rfl) (Nat.le_of_ble_eq_true rfl) rfl (r_X11_readShape ) fun w3 μ4 hw3 => bD.ok fun hk5 => b_pc (pc' := 43) rfl ?_
      refine b_w (pc' := 44) (lv1 := ax_st1 [(0, .ref 76), (2, bI v2)] 2 (bI w3)) (lv' := [(0, .ref 76), (2, bI w3)]) (st' := []) l191_43 (fun _ => rfl) (bSb rfl (bSb rfl bSn)) ?_
      refine b_s (pc' := 27) (lv1 := [(0, .ref 76), (2, bI w3)]) (st' := []) l191_44 (fun _ => rfl) ?_
      refine bD.wk (lv' := [(0, .ref 76), (2, bI w3)]) (bSb rfl (bSb rfl bSn)) ?_
      exact H27 w3 μ4 (bZ_R hw3)
theorem p_X11_readTable_27 {L : Nat} {xs : Nat → Int32} {d : Nat} {μ : bM}  {κ : (Int × bM) → Option bX} (hr : ∀ r : Int × bM, κ r = (bMc) r)  {v2 : Int} (h2 : bR v2) : bD L xs (d + 5) 191 27 [(0, .ref 76), (2, bI v2)] [] μ ((bLoop (fun z => F_X11_readTable_27 z.1 z.2) (v2, μ)).bind κ) :=
  b_loop (fun z => [(0, .ref 76), (2, bI z.1)]) (fun z => z.2) (fun z => bR z.1) (fun κ' hκ HH z hz => q_X11_readTable_27 (κ := κ') (fun r => (hκ _).trans (hr r)) (fun a2 am b2 => HH (a2, am) b2)  hz) (v2, μ) h2
theorem r_X11_readTable {L : Nat} {xs : Nat → Int32} {d : Nat} {μ : bM}  (v1 : Int) (h1 : bR v1) : bD L xs (d + 5) 191 0 [(0, .ref 76), (1, bI v1)] [] μ ((F_X11_readTable v1 μ).bind (bMc)) := by
  have hr : ∀ r, (bMc) r = (bMc) r := fun _ => rfl
  unfold F_X11_readTable
  refine bD.ok fun hk => ?_
  refine b_s (pc' := 1) (lv1 := [(0, .ref 76), (1, bI v1)]) (st' := [.ref 76]) l191_0 (fun _ => rfl) ?_
  refine b_s (pc' := 2) (lv1 := [(0, .ref 76), (1, bI v1)]) (st' := [bI 1, .ref 76]) l191_1 (fun _ => rfl) ?_
  refine b_pi l191_2 (by rfl) (by decide) (by decide) rfl rfl (by decide) (bD.ok fun hk1 => b_pc (pc' := 5) rfl ?_)
  refine b_s (pc' := 6) (lv1 := [(0, .ref 76), (1, bI v1)]) (st' := [.ref 76]) l191_5 (fun _ => rfl) ?_
  refine b_s (pc' := 7) (lv1 := [(0, .ref 76), (1, bI v1)]) (st' := [bI v1, .ref 76]) l191_6 (fun _ => rfl) ?_
  refine b_pi l191_7 (by rfl) (by decide) (by decide) rfl rfl h1 (bD.ok fun hk2 => b_pc (pc' := 10) rfl ?_)
  refine b_s (pc' := 11) (lv1 := [(0, .ref 76), (1, bI v1)]) (st' := [.ref 76]) l191_10 (fun _ => rfl) ?_
  refine b_s (pc' := 12) (lv1 := [(0, .ref 76), (1, bI v1)]) (st' := [.ref 76, .ref 76]) l191_11 (fun _ => rfl) ?_
  refine b_gp (q' := 94) (j := 18) l191_12 (by rfl) (by decide) (by decide) rfl hk2 rfl rfl (b_pc (pc' := 15) rfl ?_)
  refine b_s (pc' := 16) (lv1 := [(0, .ref 76), (1, bI v1)]) (st' := [bI 1, .ref 94, .ref 76]) l191_15 (fun _ => rfl) ?_
  refine b_ial l191_16 (by rfl) (by decide) (b_pc (pc' := 17) rfl ?_)
  refine b_pi l191_17 (by rfl) (by decide) (by decide) rfl rfl (bO_i hk2 (by rfl)) (bD.ok fun hk3 => b_pc (pc' := 20) rfl ?_)
  refine b_s (pc' := 21) (lv1 := [(0, .ref 76), (1, bI v1)]) (st' := [.ref 76]) l191_20 (fun _ => rfl) ?_
  refine b_s (pc' := 22) (lv1 := [(0, .ref 76), (1, bI v1)]) (st' := [bI 0, .ref 76]) l191_21 (fun _ => rfl) ?_
  refine b_pi l191_22 (by rfl) (by decide) (by decide) rfl rfl (by decide) (bD.ok fun hk4 => b_pc (pc' := 25) rfl ?_)
  refine b_s (pc' := 26) (lv1 := [(0, .ref 76), (1, bI v1)]) (st' := [bI 1]) l191_25 (fun _ => rfl) ?_
  refine b_w (pc' := 27) (lv1 := ax_st1 [(0, .ref 76), (1, bI v1)] 2 (bI 1)) (lv' := [(0, .ref 76), (2, bI 1)]) (st' := []) l191_26 (fun _ => rfl) (bSb rfl (bSb rfl bSn)) ?_
  refine bD.wk (lv' := [(0, .ref 76), (2, bI 1)]) (bSb rfl (bSb rfl bSn)) ?_
  exact p_X11_readTable_27 hr (by decide)
/-! ETModel.shapeNumbered -/
theorem l194_0 : (ax_dt (ax_T 194)).lookup 0 = some (.iconst 0, 1, 0, 0, 0) := by decide +kernel
theorem l194_1 : (ax_dt (ax_T 194)).lookup 1 = some (.istore_n 3, 1, 0, 0, 0) := by decide +kernel
theorem l194_2 : (ax_dt (ax_T 194)).lookup 2 = some (.iload_n 3, 1, 0, 0, 0) := by decide +kernel
theorem l194_3 : (ax_dt (ax_T 194)).lookup 3 = some (.aload_n 0, 1, 0, 0, 0) := by decide +kernel
theorem l194_4 : (ax_dt (ax_T 194)).lookup 4 = some (.getfield 330, 3, 9, 43, 0) := by decide +kernel
theorem l194_7 : (ax_dt (ax_T 194)).lookup 7 = some (.if_icmp .ge 23, 3, 0, 0, 0) := by decide +kernel
theorem l194_10 : (ax_dt (ax_T 194)).lookup 10 = some (.aload_n 0, 1, 0, 0, 0) := by decide +kernel
theorem l194_11 : (ax_dt (ax_T 194)).lookup 11 = some (.getfield 95, 3, 9, 44, 0) := by decide +kernel
theorem l194_14 : (ax_dt (ax_T 194)).lookup 14 = some (.iload_n 3, 1, 0, 0, 0) := by decide +kernel
theorem l194_15 : (ax_dt (ax_T 194)).lookup 15 = some (.iaload, 1, 0, 0, 0) := by decide +kernel
theorem l194_16 : (ax_dt (ax_T 194)).lookup 16 = some (.i2l, 1, 0, 0, 0) := by decide +kernel
theorem l194_17 : (ax_dt (ax_T 194)).lookup 17 = some (.lload_n 1, 1, 0, 0, 0) := by decide +kernel
theorem l194_18 : (ax_dt (ax_T 194)).lookup 18 = some (.lcmp, 1, 0, 0, 0) := by decide +kernel
theorem l194_19 : (ax_dt (ax_T 194)).lookup 19 = some (.ifCond .ne 5, 3, 0, 0, 0) := by decide +kernel
theorem l194_22 : (ax_dt (ax_T 194)).lookup 22 = some (.iload_n 3, 1, 0, 0, 0) := by decide +kernel
theorem l194_23 : (ax_dt (ax_T 194)).lookup 23 = some (.ireturn, 1, 0, 0, 0) := by decide +kernel
theorem l194_24 : (ax_dt (ax_T 194)).lookup 24 = some (.iinc 3 1, 3, 0, 0, 0) := by decide +kernel
theorem l194_27 : (ax_dt (ax_T 194)).lookup 27 = some (.goto (-25), 3, 0, 0, 0) := by decide +kernel
theorem l194_30 : (ax_dt (ax_T 194)).lookup 30 = some (.iconst (-1), 1, 0, 0, 0) := by decide +kernel
theorem l194_31 : (ax_dt (ax_T 194)).lookup 31 = some (.ireturn, 1, 0, 0, 0) := by decide +kernel
noncomputable def F_X11_shapeNumbered_2 (v1 : Int) (μ : bM) (v3 : Int) : Option ((Int) ⊕ (Int)) := if (μ 76 43) ≤ v3 then some (.inr ((-1))) else bG (0 ≤ v3 ∧ v3 < 200) (if ¬ (bCmp (μ 104 v3.toNat) v1) = 0 then bG (bR (v3 + 1)) (some (.inl (v3 + 1))) else some (.inr (v3)))
noncomputable def F_X11_shapeNumbered (v1 : Int) (μ : bM) : Option (Int) := bLoop (fun z => F_X11_shapeNumbered_2 v1 μ z) 0
theorem q_X11_shapeNumbered_2 {L : Nat} {xs : Nat → Int32} {d : Nat} {μ : bM} {v1 : Int} {κ : ((Int) ⊕ (Int)) → Option bX} (hr : ∀ r : Int, κ (.inr r) = (bPc μ) r) (H2 : ∀ (v3 : Int), bR v3 → bD L xs (d + 0) 194 2 [(0, .ref 76), (1, bLg v1), (3, bI v3)] [] μ (κ (.inl v3)))  (h1 : bRL v1) {v3 : Int} (h3 : bR v3) : bD L xs (d + 0) 194 2 [(0, .ref 76), (1, bLg v1), (3, bI v3)] [] μ ((F_X11_shapeNumbered_2 v1 μ v3).bind κ) := by
  unfold F_X11_shapeNumbered_2
  refine bD.ok fun hk => ?_
  refine b_s (pc' := 3) (lv1 := [(0, .ref 76), (1, bLg v1), (3, bI v3)]) (st' := [bI v3]) l194_2 (fun _ => rfl) ?_
  refine b_s (pc' := 4) (lv1 := [(0, .ref 76), (1, bLg v1), (3, bI v3)]) (st' := [.ref 76, bI v3]) l194_3 (fun _ => rfl) ?_
  refine b_gi l194_4 (by rfl) (by decide) (by decide) rfl (b_pc (pc' := 7) rfl ?_)
  refine b_ige (pt := 30) l194_7 h3 (bO_f hk (ci := 9) (by rfl) rfl) (by decide) rfl (fun c1 => ?_) (fun c1 => b_pc (pc' := 10) rfl ?_)
  · refine b_s (pc' := 31) (lv1 := [(0, .ref 76), (1, bLg v1), (3, bI v3)]) (st' := [bI (-1)]) l194_30 (fun _ => rfl) ?_
    exact b_reti l194_31 rfl (by decide) (hr _)
  · refine b_s (pc' := 11) (lv1 := [(0, .ref 76), (1, bLg v1), (3, bI v3)]) (st' := [.ref 76]) l194_10 (fun _ => rfl) ?_
    refine b_gp (q' := 104) (j := 28) l194_11 (by rfl) (by decide) (by decide) rfl hk rfl rfl (b_pc (pc' := 14) rfl ?_)
    refine b_s (pc' := 15) (lv1 := [(0, .ref 76), (1, bLg v1), (3, bI v3)]) (st' := [bI v3, .ref 104]) l194_14 (fun _ => rfl) ?_
    refine b_g fun g4 => ?_
    refine b_ial l194_15 (by rfl) g4 (b_pc (pc' := 16) rfl ?_)
    refine b_i2l l194_16 (bO_i hk (by rfl)) (b_pc (pc' := 17) rfl ?_)
    refine b_s (pc' := 18) (lv1 := [(0, .ref 76), (1, bLg v1), (3, bI v3)]) (st' := [bLg v1, bLg (μ 104 v3.toNat)]) l194_17 (fun _ => rfl) ?_
    refine b_lcmp l194_18 (bR_L (bO_i hk (by rfl))) h1 (b_pc (pc' := 19) rfl ?_)
    refine b_zne (pt := 24) l194_19 (bCmp_R _ _) (by decide) rfl (fun c2 => ?_) (fun c2 => b_pc (pc' := 22) rfl ?_)
    · refine b_inc (lv' := [(0, .ref 76), (1, bLg v1), (3, bI (v3 + 1))]) l194_24 rfl (by decide +kernel) (bSb rfl (bSb rfl (bSb rfl bSn))) fun g3 => (b_pc (pc' := 27) rfl ?_)
      refine b_s (pc' := 2) (lv1 := [(0, .ref 76), (1, bLg v1), (3, bI (v3 + 1))]) (st' := []) l194_27 (fun _ => rfl) ?_
      refine bD.wk (lv' := [(0, .ref 76), (1, bLg v1), (3, bI (v3 + 1))]) (bSb rfl (bSb rfl (bSb rfl bSn))) ?_
      exact H2 (v3 + 1) g3
    · refine b_s (pc' := 23) (lv1 := [(0, .ref 76), (1, bLg v1), (3, bI v3)]) (st' := [bI v3]) l194_22 (fun _ => rfl) ?_
      exact b_reti l194_23 rfl h3 (hr _)
theorem p_X11_shapeNumbered_2 {L : Nat} {xs : Nat → Int32} {d : Nat} {μ : bM}  {κ : (Int) → Option bX} (hr : ∀ r : Int, κ r = (bPc μ) r)  {v1 : Int} (h1 : bRL v1) {v3 : Int} (h3 : bR v3) : bD L xs (d + 0) 194 2 [(0, .ref 76), (1, bLg v1), (3, bI v3)] [] μ ((bLoop (fun z => F_X11_shapeNumbered_2 v1 μ z) v3).bind κ) :=
  b_loop (fun z => [(0, .ref 76), (1, bLg v1), (3, bI z)]) (fun z => μ) (fun z => bR z) (fun κ' hκ HH z hz => q_X11_shapeNumbered_2 (κ := κ') (fun r => (hκ _).trans (hr r)) (fun a3 b3 => HH a3 b3)  h1 hz) v3 h3
theorem r_X11_shapeNumbered {L : Nat} {xs : Nat → Int32} {d : Nat} {μ : bM}  (v1 : Int) (h1 : bRL v1) : bD L xs (d + 0) 194 0 [(0, .ref 76), (1, bLg v1)] [] μ ((F_X11_shapeNumbered v1 μ).bind (bPc μ)) := by
  have hr : ∀ r, (bPc μ) r = (bPc μ) r := fun _ => rfl
  unfold F_X11_shapeNumbered
  refine bD.ok fun hk => ?_
  refine b_s (pc' := 1) (lv1 := [(0, .ref 76), (1, bLg v1)]) (st' := [bI 0]) l194_0 (fun _ => rfl) ?_
  refine b_w (pc' := 2) (lv1 := ax_st1 [(0, .ref 76), (1, bLg v1)] 3 (bI 0)) (lv' := [(0, .ref 76), (1, bLg v1), (3, bI 0)]) (st' := []) l194_1 (fun _ => rfl) (bSb rfl (bSb rfl (bSb rfl bSn))) ?_
  refine bD.wk (lv' := [(0, .ref 76), (1, bLg v1), (3, bI 0)]) (bSb rfl (bSb rfl (bSb rfl bSn))) ?_
  exact p_X11_shapeNumbered_2 hr h1 (by decide)
/-! ETModel.textIs -/
theorem l195_0 : (ax_dt (ax_T 195)).lookup 0 = some (.aload_n 0, 1, 0, 0, 0) := by decide +kernel
theorem l195_1 : (ax_dt (ax_T 195)).lookup 1 = some (.getfield 45, 3, 9, 14, 0) := by decide +kernel
theorem l195_4 : (ax_dt (ax_T 195)).lookup 4 = some (.iload_n 1, 1, 0, 0, 0) := by decide +kernel
theorem l195_5 : (ax_dt (ax_T 195)).lookup 5 = some (.iload_n 2, 1, 0, 0, 0) := by decide +kernel
theorem l195_6 : (ax_dt (ax_T 195)).lookup 6 = some (.iastore, 1, 0, 0, 0) := by decide +kernel
theorem l195_7 : (ax_dt (ax_T 195)).lookup 7 = some (.aload_n 0, 1, 0, 0, 0) := by decide +kernel
theorem l195_8 : (ax_dt (ax_T 195)).lookup 8 = some (.getfield 48, 3, 9, 15, 0) := by decide +kernel
theorem l195_11 : (ax_dt (ax_T 195)).lookup 11 = some (.iload_n 1, 1, 0, 0, 0) := by decide +kernel
theorem l195_12 : (ax_dt (ax_T 195)).lookup 12 = some (.iload_n 3, 1, 0, 0, 0) := by decide +kernel
theorem l195_13 : (ax_dt (ax_T 195)).lookup 13 = some (.iastore, 1, 0, 0, 0) := by decide +kernel
theorem l195_14 : (ax_dt (ax_T 195)).lookup 14 = some (.return_, 1, 0, 0, 0) := by decide +kernel
noncomputable def F_X11_textIs (v1 : Int) (v2 : Int) (v3 : Int) (μ : bM) : Option (Int × bM) := bG (0 ≤ v1 ∧ v1 < 6400) (bG (0 ≤ v1 ∧ v1 < 6400) (some (0, (bset (bset μ 88 v1.toNat v2) 89 v1.toNat v3))))
theorem r_X11_textIs {L : Nat} {xs : Nat → Int32} {d : Nat} {μ : bM}  (v1 : Int) (h1 : bR v1) (v2 : Int) (h2 : bR v2) (v3 : Int) (h3 : bR v3) : bD L xs (d + 0) 195 0 [(0, .ref 76), (1, bI v1), (2, bI v2), (3, bI v3)] [] μ ((F_X11_textIs v1 v2 v3 μ).bind (bMc)) := by
  have hr : ∀ r, (bMc) r = (bMc) r := fun _ => rfl
  unfold F_X11_textIs
  refine bD.ok fun hk => ?_
  refine b_s (pc' := 1) (lv1 := [(0, .ref 76), (1, bI v1), (2, bI v2), (3, bI v3)]) (st' := [.ref 76]) l195_0 (fun _ => rfl) ?_
  refine b_gp (q' := 88) (j := 12) l195_1 (by rfl) (by decide) (by decide) rfl hk rfl rfl (b_pc (pc' := 4) rfl ?_)
  refine b_s (pc' := 5) (lv1 := [(0, .ref 76), (1, bI v1), (2, bI v2), (3, bI v3)]) (st' := [bI v1, .ref 88]) l195_4 (fun _ => rfl) ?_
  refine b_s (pc' := 6) (lv1 := [(0, .ref 76), (1, bI v1), (2, bI v2), (3, bI v3)]) (st' := [bI v2, bI v1, .ref 88]) l195_5 (fun _ => rfl) ?_
  refine b_g fun g4 => ?_
  refine b_ias l195_6 (by rfl) g4 h2 (bD.ok fun hk1 => b_pc (pc' := 7) rfl ?_)
  refine b_s (pc' := 8) (lv1 := [(0, .ref 76), (1, bI v1), (2, bI v2), (3, bI v3)]) (st' := [.ref 76]) l195_7 (fun _ => rfl) ?_
  refine b_gp (q' := 89) (j := 13) l195_8 (by rfl) (by decide) (by decide) rfl hk1 rfl rfl (b_pc (pc' := 11) rfl ?_)
  refine b_s (pc' := 12) (lv1 := [(0, .ref 76), (1, bI v1), (2, bI v2), (3, bI v3)]) (st' := [bI v1, .ref 89]) l195_11 (fun _ => rfl) ?_
  refine b_s (pc' := 13) (lv1 := [(0, .ref 76), (1, bI v1), (2, bI v2), (3, bI v3)]) (st' := [bI v3, bI v1, .ref 89]) l195_12 (fun _ => rfl) ?_
  refine b_g fun g3 => ?_
  refine b_ias l195_13 (by rfl) g3 h3 (bD.ok fun hk2 => b_pc (pc' := 14) rfl ?_)
  exact b_retv l195_14 rfl (hr _)
/-! ETModel.keep -/
theorem l196_0 : (ax_dt (ax_T 196)).lookup 0 = some (.ldc 195, 2, 0, 0, 90000) := by decide +kernel
theorem l196_2 : (ax_dt (ax_T 196)).lookup 2 = some (.aload_n 0, 1, 0, 0, 0) := by decide +kernel
theorem l196_3 : (ax_dt (ax_T 196)).lookup 3 = some (.getfield 137, 3, 9, 3, 0) := by decide +kernel
theorem l196_6 : (ax_dt (ax_T 196)).lookup 6 = some (.imul, 1, 0, 0, 0) := by decide +kernel
theorem l196_7 : (ax_dt (ax_T 196)).lookup 7 = some (.aload_n 0, 1, 0, 0, 0) := by decide +kernel
theorem l196_8 : (ax_dt (ax_T 196)).lookup 8 = some (.getfield 54, 3, 9, 17, 0) := by decide +kernel
theorem l196_11 : (ax_dt (ax_T 196)).lookup 11 = some (.aload_n 0, 1, 0, 0, 0) := by decide +kernel
theorem l196_12 : (ax_dt (ax_T 196)).lookup 12 = some (.getfield 137, 3, 9, 3, 0) := by decide +kernel
theorem l196_15 : (ax_dt (ax_T 196)).lookup 15 = some (.iaload, 1, 0, 0, 0) := by decide +kernel
theorem l196_16 : (ax_dt (ax_T 196)).lookup 16 = some (.iadd, 1, 0, 0, 0) := by decide +kernel
theorem l196_17 : (ax_dt (ax_T 196)).lookup 17 = some (.istore_n 3, 1, 0, 0, 0) := by decide +kernel
theorem l196_18 : (ax_dt (ax_T 196)).lookup 18 = some (.iconst 0, 1, 0, 0, 0) := by decide +kernel
theorem l196_19 : (ax_dt (ax_T 196)).lookup 19 = some (.istore 4, 2, 0, 0, 0) := by decide +kernel
theorem l196_21 : (ax_dt (ax_T 196)).lookup 21 = some (.iload 4, 2, 0, 0, 0) := by decide +kernel
theorem l196_23 : (ax_dt (ax_T 196)).lookup 23 = some (.iload_n 2, 1, 0, 0, 0) := by decide +kernel
theorem l196_24 : (ax_dt (ax_T 196)).lookup 24 = some (.if_icmp .ge 27, 3, 0, 0, 0) := by decide +kernel
theorem l196_27 : (ax_dt (ax_T 196)).lookup 27 = some (.aload_n 0, 1, 0, 0, 0) := by decide +kernel
theorem l196_28 : (ax_dt (ax_T 196)).lookup 28 = some (.getfield 58, 3, 9, 18, 0) := by decide +kernel
theorem l196_31 : (ax_dt (ax_T 196)).lookup 31 = some (.iload_n 3, 1, 0, 0, 0) := by decide +kernel
theorem l196_32 : (ax_dt (ax_T 196)).lookup 32 = some (.iload 4, 2, 0, 0, 0) := by decide +kernel
theorem l196_34 : (ax_dt (ax_T 196)).lookup 34 = some (.iadd, 1, 0, 0, 0) := by decide +kernel
theorem l196_35 : (ax_dt (ax_T 196)).lookup 35 = some (.aload_n 0, 1, 0, 0, 0) := by decide +kernel
theorem l196_36 : (ax_dt (ax_T 196)).lookup 36 = some (.getfield 62, 3, 9, 19, 0) := by decide +kernel
theorem l196_39 : (ax_dt (ax_T 196)).lookup 39 = some (.iload_n 1, 1, 0, 0, 0) := by decide +kernel
theorem l196_40 : (ax_dt (ax_T 196)).lookup 40 = some (.iload 4, 2, 0, 0, 0) := by decide +kernel
theorem l196_42 : (ax_dt (ax_T 196)).lookup 42 = some (.iadd, 1, 0, 0, 0) := by decide +kernel
theorem l196_43 : (ax_dt (ax_T 196)).lookup 43 = some (.baload, 1, 0, 0, 0) := by decide +kernel
theorem l196_44 : (ax_dt (ax_T 196)).lookup 44 = some (.bastore, 1, 0, 0, 0) := by decide +kernel
theorem l196_45 : (ax_dt (ax_T 196)).lookup 45 = some (.iinc 4 1, 3, 0, 0, 0) := by decide +kernel
theorem l196_48 : (ax_dt (ax_T 196)).lookup 48 = some (.goto (-27), 3, 0, 0, 0) := by decide +kernel
theorem l196_51 : (ax_dt (ax_T 196)).lookup 51 = some (.aload_n 0, 1, 0, 0, 0) := by decide +kernel
theorem l196_52 : (ax_dt (ax_T 196)).lookup 52 = some (.getfield 54, 3, 9, 17, 0) := by decide +kernel
theorem l196_55 : (ax_dt (ax_T 196)).lookup 55 = some (.aload_n 0, 1, 0, 0, 0) := by decide +kernel
theorem l196_56 : (ax_dt (ax_T 196)).lookup 56 = some (.getfield 137, 3, 9, 3, 0) := by decide +kernel
theorem l196_59 : (ax_dt (ax_T 196)).lookup 59 = some (.aload_n 0, 1, 0, 0, 0) := by decide +kernel
theorem l196_60 : (ax_dt (ax_T 196)).lookup 60 = some (.getfield 54, 3, 9, 17, 0) := by decide +kernel
theorem l196_63 : (ax_dt (ax_T 196)).lookup 63 = some (.aload_n 0, 1, 0, 0, 0) := by decide +kernel
theorem l196_64 : (ax_dt (ax_T 196)).lookup 64 = some (.getfield 137, 3, 9, 3, 0) := by decide +kernel
theorem l196_67 : (ax_dt (ax_T 196)).lookup 67 = some (.iaload, 1, 0, 0, 0) := by decide +kernel
theorem l196_68 : (ax_dt (ax_T 196)).lookup 68 = some (.iload_n 2, 1, 0, 0, 0) := by decide +kernel
theorem l196_69 : (ax_dt (ax_T 196)).lookup 69 = some (.iadd, 1, 0, 0, 0) := by decide +kernel
theorem l196_70 : (ax_dt (ax_T 196)).lookup 70 = some (.iastore, 1, 0, 0, 0) := by decide +kernel
theorem l196_71 : (ax_dt (ax_T 196)).lookup 71 = some (.iload_n 3, 1, 0, 0, 0) := by decide +kernel
theorem l196_72 : (ax_dt (ax_T 196)).lookup 72 = some (.ireturn, 1, 0, 0, 0) := by decide +kernel
noncomputable def F_X11_keep_51 (v2 : Int) (v3 : Int) (μ : bM) : Option (Int × bM) := bG (0 ≤ (μ 76 3) ∧ (μ 76 3) < 2) (bG (bR ((μ 91 (μ 76 3).toNat) + v2)) (bG (0 ≤ (μ 76 3) ∧ (μ 76 3) < 2) (some (v3, (bset μ 91 (μ 76 3).toNat ((μ 91 (μ 76 3).toNat) + v2))))))
noncomputable def F_X11_keep_21 (v1 : Int) (v2 : Int) (v3 : Int) (v4 : Int) (μ : bM) : Option ((Int × bM) ⊕ (Int × bM)) := if v2 ≤ v4 then bUp (F_X11_keep_51 v2 v3 μ) else bG (bR (v3 + v4)) (bG (bR (v1 + v4)) (bG (0 ≤ (v1 + v4) ∧ (v1 + v4) < 40000) (bG (0 ≤ (v3 + v4) ∧ (v3 + v4) < 180000) (bG (bR (v4 + 1)) (some (.inl ((v4 + 1), (bset μ 92 (v3 + v4).toNat (μ 93 (v1 + v4).toNat)))))))))
noncomputable def F_X11_keep (v1 : Int) (v2 : Int) (μ : bM) : Option (Int × bM) := bG (bR (90000 * (μ 76 3))) (bG (0 ≤ (μ 76 3) ∧ (μ 76 3) < 2) (bG (bR ((90000 * (μ 76 3)) + (μ 91 (μ 76 3).toNat))) (bLoop (fun z => F_X11_keep_21 v1 v2 ((90000 * (μ 76 3)) + (μ 91 (μ 76 3).toNat)) z.1 z.2) (0, μ))))
theorem p_X11_keep_51 {L : Nat} {xs : Nat → Int32} {d : Nat} {μ : bM}  {κ : (Int × bM) → Option bX} (hr : ∀ r : Int × bM, κ r = (bMc) r)  {v2 : Int} (h2 : bR v2) {v3 : Int} (h3 : bR v3) : bD L xs (d + 0) 196 51 [(0, .ref 76), (2, bI v2), (3, bI v3)] [] μ ((F_X11_keep_51 v2 v3 μ).bind κ) := by
  unfold F_X11_keep_51
  refine bD.ok fun hk => ?_
  refine b_s (pc' := 52) (lv1 := [(0, .ref 76), (2, bI v2), (3, bI v3)]) (st' := [.ref 76]) l196_51 (fun _ => rfl) ?_
  refine b_gp (q' := 91) (j := 15) l196_52 (by rfl) (by decide) (by decide) rfl hk rfl rfl (b_pc (pc' := 55) rfl ?_)
  refine b_s (pc' := 56) (lv1 := [(0, .ref 76), (2, bI v2), (3, bI v3)]) (st' := [.ref 76, .ref 91]) l196_55 (fun _ => rfl) ?_
  refine b_gi l196_56 (by rfl) (by decide) (by decide) rfl (b_pc (pc' := 59) rfl ?_)
  refine b_s (pc' := 60) (lv1 := [(0, .ref 76), (2, bI v2), (3, bI v3)]) (st' := [.ref 76, bI (μ 76 3), .ref 91]) l196_59 (fun _ => rfl) ?_
  refine b_gp (q' := 91) (j := 15) l196_60 (by rfl) (by decide) (by decide) rfl hk rfl rfl (b_pc (pc' := 63) rfl ?_)
  refine b_s (pc' := 64) (lv1 := [(0, .ref 76), (2, bI v2), (3, bI v3)]) (st' := [.ref 76, .ref 91, bI (μ 76 3), .ref 91]) l196_63 (fun _ => rfl) ?_
  refine b_gi l196_64 (by rfl) (by decide) (by decide) rfl (b_pc (pc' := 67) rfl ?_)
  refine b_g fun g4 => ?_
  refine b_ial l196_67 (by rfl) g4 (b_pc (pc' := 68) rfl ?_)
  refine b_s (pc' := 69) (lv1 := [(0, .ref 76), (2, bI v2), (3, bI v3)]) (st' := [bI v2, bI (μ 91 (μ 76 3).toNat), bI (μ 76 3), .ref 91]) l196_68 (fun _ => rfl) ?_
  refine b_iadd l196_69 fun g1 => (b_pc (pc' := 70) rfl ?_)
  refine b_g fun g3 => ?_
  refine b_ias l196_70 (by rfl) g3 g1 (bD.ok fun hk2 => b_pc (pc' := 71) rfl ?_)
  refine b_s (pc' := 72) (lv1 := [(0, .ref 76), (2, bI v2), (3, bI v3)]) (st' := [bI v3]) l196_71 (fun _ => rfl) ?_
  exact b_reti l196_72 rfl h3 (hr _)
theorem q_X11_keep_21 {L : Nat} {xs : Nat → Int32} {d : Nat} {μ : bM} {v1 : Int} {v2 : Int} {v3 : Int} {κ : ((Int × bM) ⊕ (Int × bM)) → Option bX} (hr : ∀ r : Int × bM, κ (.inr r) = (bMc) r) (H21 : ∀ (v4 : Int) (μ : bM), bR v4 → bD L xs (d + 0) 196 21 [(0, .ref 76), (1, bI v1), (2, bI v2), (3, bI v3), (4, bI v4)] [] μ (κ (.inl (v4, μ))))  (h1 : bR v1) (h2 : bR v2) (h3 : bR v3) {v4 : Int} (h4 : bR v4) : bD L xs (d + 0) 196 21 [(0, .ref 76), (1, bI v1), (2, bI v2), (3, bI v3), (4, bI v4)] [] μ ((F_X11_keep_21 v1 v2 v3 v4 μ).bind κ) := by
  unfold F_X11_keep_21
  refine bD.ok fun hk => ?_
  refine b_s (pc' := 23) (lv1 := [(0, .ref 76), (1, bI v1), (2, bI v2), (3, bI v3), (4, bI v4)]) (st' := [bI v4]) l196_21 (fun _ => rfl) ?_
  refine b_s (pc' := 24) (lv1 := [(0, .ref 76), (1, bI v1), (2, bI v2), (3, bI v3), (4, bI v4)]) (st' := [bI v2, bI v4]) l196_23 (fun _ => rfl) ?_
  refine b_ige (pt := 51) l196_24 h4 h2 (by decide) rfl (fun c1 => ?_) (fun c1 => b_pc (pc' := 27) rfl ?_)
  · refine b_up (fun _ => rfl) ?_
    refine bD.wk (lv' := [(0, .ref 76), (2, bI v2), (3, bI v3)]) (bSb rfl (bSb rfl (bSb rfl bSn))) ?_
    exact p_X11_keep_51 hr h2 h3
  · refine b_s (pc' := 28) (lv1 := [(0, .ref 76), (1, bI v1), (2, bI v2), (3, bI v3), (4, bI v4)]) (st' := [.ref 76]) l196_27 (fun _ => rfl) ?_
    refine b_gp (q' := 92) (j := 16) l196_28 (by rfl) (by decide) (by decide) rfl hk rfl rfl (b_pc (pc' := 31) rfl ?_)
    refine b_s (pc' := 32) (lv1 := [(0, .ref 76), (1, bI v1), (2, bI v2), (3, bI v3), (4, bI v4)]) (st' := [bI v3, .ref 92]) l196_31 (fun _ => rfl) ?_
    refine b_s (pc' := 34) (lv1 := [(0, .ref 76), (1, bI v1), (2, bI v2), (3, bI v3), (4, bI v4)]) (st' := [bI v4, bI v3, .ref 92]) l196_32 (fun _ => rfl) ?_
    refine b_iadd l196_34 fun g2 => (b_pc (pc' := 35) rfl ?_)
    refine b_s (pc' := 36) (lv1 := [(0, .ref 76), (1, bI v1), (2, bI v2), (3, bI v3), (4, bI v4)]) (st' := [.ref 76, bI (v3 + v4), .ref 92]) l196_35 (fun _ => rfl) ?_
    refine b_gp (q' := 93) (j := 17) l196_36 (by rfl) (by decide) (by decide) rfl hk rfl rfl (b_pc (pc' := 39) rfl ?_)
    refine b_s (pc' := 40) (lv1 := [(0, .ref 76), (1, bI v1), (2, bI v2), (3, bI v3), (4, bI v4)]) (st' := [bI v1, .ref 93, bI (v3 + v4), .ref 92]) l196_39 (fun _ => rfl) ?_
    refine b_s (pc' := 42) (lv1 := [(0, .ref 76), (1, bI v1), (2, bI v2), (3, bI v3), (4, bI v4)]) (st' := [bI v4, bI v1, .ref 93, bI (v3 + v4), .ref 92]) l196_40 (fun _ => rfl) ?_
    refine b_iadd l196_42 fun g3 => (b_pc (pc' := 43) rfl ?_)
    refine b_g fun g7 => ?_
    refine b_bal l196_43 (by rfl) g7 (b_pc (pc' := 44) rfl ?_)
    refine b_g fun g6 => ?_
    refine b_bas l196_44 (by rfl) g6 (bO_b hk (by rfl)) (bD.ok fun hk4 => b_pc (pc' := 45) rfl ?_)
    refine b_inc (lv' := [(0, .ref 76), (1, bI v1), (2, bI v2), (3, bI v3), (4, bI (v4 + 1))]) l196_45 rfl (by decide +kernel) (bSb rfl (bSb rfl (bSb rfl (bSb rfl (bSb rfl bSn))))) fun g5 => (b_pc (pc' := 48) rfl ?_)
    refine b_s (pc' := 21) (lv1 := [(0, .ref 76), (1, bI v1), (2, bI v2), (3, bI v3), (4, bI (v4 + 1))]) (st' := []) l196_48 (fun _ => rfl) ?_
    refine bD.wk (lv' := [(0, .ref 76), (1, bI v1), (2, bI v2), (3, bI v3), (4, bI (v4 + 1))]) (bSb rfl (bSb rfl (bSb rfl (bSb rfl (bSb rfl bSn))))) ?_
    exact H21 (v4 + 1) (bset μ 92 (v3 + v4).toNat (μ 93 (v1 + v4).toNat)) g5
theorem p_X11_keep_21 {L : Nat} {xs : Nat → Int32} {d : Nat} {μ : bM}  {κ : (Int × bM) → Option bX} (hr : ∀ r : Int × bM, κ r = (bMc) r)  {v1 : Int} (h1 : bR v1) {v2 : Int} (h2 : bR v2) {v3 : Int} (h3 : bR v3) {v4 : Int} (h4 : bR v4) : bD L xs (d + 0) 196 21 [(0, .ref 76), (1, bI v1), (2, bI v2), (3, bI v3), (4, bI v4)] [] μ ((bLoop (fun z => F_X11_keep_21 v1 v2 v3 z.1 z.2) (v4, μ)).bind κ) :=
  b_loop (fun z => [(0, .ref 76), (1, bI v1), (2, bI v2), (3, bI v3), (4, bI z.1)]) (fun z => z.2) (fun z => bR z.1) (fun κ' hκ HH z hz => q_X11_keep_21 (κ := κ') (fun r => (hκ _).trans (hr r)) (fun a4 am b4 => HH (a4, am) b4)  h1 h2 h3 hz) (v4, μ) h4
theorem r_X11_keep {L : Nat} {xs : Nat → Int32} {d : Nat} {μ : bM}  (v1 : Int) (h1 : bR v1) (v2 : Int) (h2 : bR v2) : bD L xs (d + 0) 196 0 [(0, .ref 76), (1, bI v1), (2, bI v2)] [] μ ((F_X11_keep v1 v2 μ).bind (bMc)) := by
  have hr : ∀ r, (bMc) r = (bMc) r := fun _ => rfl
  unfold F_X11_keep
  refine bD.ok fun hk => ?_
  refine b_s (pc' := 2) (lv1 := [(0, .ref 76), (1, bI v1), (2, bI v2)]) (st' := [bI 90000]) l196_0 (fun _ => rfl) ?_
  refine b_s (pc' := 3) (lv1 := [(0, .ref 76), (1, bI v1), (2, bI v2)]) (st' := [.ref 76, bI 90000]) l196_2 (fun _ => rfl) ?_
  refine b_gi l196_3 (by rfl) (by decide) (by decide) rfl (b_pc (pc' := 6) rfl ?_)
  refine b_imul l196_6 fun g1 => (b_pc (pc' := 7) rfl ?_)
  refine b_s (pc' := 8) (lv1 := [(0, .ref 76), (1, bI v1), (2, bI v2)]) (st' := [.ref 76, bI (90000 * (μ 76 3))]) l196_7 (fun _ => rfl) ?_
  refine b_gp (q' := 91) (j := 15) l196_8 (by rfl) (by decide) (by decide) rfl hk rfl rfl (b_pc (pc' := 11) rfl ?_)
  refine b_s (pc' := 12) (lv1 := [(0, .ref 76), (1, bI v1), (2, bI v2)]) (st' := [.ref 76, .ref 91, bI (90000 * (μ 76 3))]) l196_11 (fun _ => rfl) ?_
  refine b_gi l196_12 (by rfl) (by decide) (by decide) rfl (b_pc (pc' := 15) rfl ?_)
  refine b_g fun g3 => ?_
  refine b_ial l196_15 (by rfl) g3 (b_pc (pc' := 16) rfl ?_)
  refine b_iadd l196_16 fun g2 => (b_pc (pc' := 17) rfl ?_)
  refine b_w (pc' := 18) (lv1 := ax_st1 [(0, .ref 76), (1, bI v1), (2, bI v2)] 3 (bI ((90000 * (μ 76 3)) + (μ 91 (μ 76 3).toNat)))) (lv' := [(0, .ref 76), (1, bI v1), (2, bI v2), (3, bI ((90000 * (μ 76 3)) + (μ 91 (μ 76 3).toNat)))]) (st' := []) l196_17 (fun _ => rfl) (bSb rfl (bSb rfl (bSb rfl (bSb rfl bSn)))) ?_
  refine b_s (pc' := 19) (lv1 := [(0, .ref 76), (1, bI v1), (2, bI v2), (3, bI ((90000 * (μ 76 3)) + (μ 91 (μ 76 3).toNat)))]) (st' := [bI 0]) l196_18 (fun _ => rfl) ?_
  refine b_w (pc' := 21) (lv1 := ax_st1 [(0, .ref 76), (1, bI v1), (2, bI v2), (3, bI ((90000 * (μ 76 3)) + (μ 91 (μ 76 3).toNat)))] 4 (bI 0)) (lv' := [(0, .ref 76), (1, bI v1), (2, bI v2), (3, bI ((90000 * (μ 76 3)) + (μ 91 (μ 76 3).toNat))), (4, bI 0)]) (st' := []) l196_19 (fun _ => rfl) (bSb rfl (bSb rfl (bSb rfl (bSb rfl (bSb rfl bSn))))) ?_
  refine bD.wk (lv' := [(0, .ref 76), (1, bI v1), (2, bI v2), (3, bI ((90000 * (μ 76 3)) + (μ 91 (μ 76 3).toNat))), (4, bI 0)]) (bSb rfl (bSb rfl (bSb rfl (bSb rfl (bSb rfl bSn))))) ?_
  exact p_X11_keep_21 hr h1 h2 g2 (by decide)
/-! ETModel.readText8 -/
theorem l197_0 : (ax_dt (ax_T 197)).lookup 0 = some (.aload_n 0, 1, 0, 0, 0) := by decide +kernel
theorem l197_1 : (ax_dt (ax_T 197)).lookup 1 = some (.getfield 312, 3, 9, 40, 0) := by decide +kernel
theorem l197_4 : (ax_dt (ax_T 197)).lookup 4 = some (.istore_n 2, 1, 0, 0, 0) := by decide +kernel
theorem l197_5 : (ax_dt (ax_T 197)).lookup 5 = some (.iconst 0, 1, 0, 0, 0) := by decide +kernel
theorem l197_6 : (ax_dt (ax_T 197)).lookup 6 = some (.istore_n 3, 1, 0, 0, 0) := by decide +kernel
theorem l197_7 : (ax_dt (ax_T 197)).lookup 7 = some (.aload_n 0, 1, 0, 0, 0) := by decide +kernel
theorem l197_8 : (ax_dt (ax_T 197)).lookup 8 = some (.getfield 300, 3, 9, 37, 0) := by decide +kernel
theorem l197_11 : (ax_dt (ax_T 197)).lookup 11 = some (.iconst (-1), 1, 0, 0, 0) := by decide +kernel
theorem l197_12 : (ax_dt (ax_T 197)).lookup 12 = some (.if_icmp .ne 85, 3, 0, 0, 0) := by decide +kernel
theorem l197_15 : (ax_dt (ax_T 197)).lookup 15 = some (.aload_n 0, 1, 0, 0, 0) := by decide +kernel
theorem l197_16 : (ax_dt (ax_T 197)).lookup 16 = some (.iconst 1, 1, 0, 0, 0) := by decide +kernel
theorem l197_17 : (ax_dt (ax_T 197)).lookup 17 = some (.invokevirtual 322, 3, 188, 1, 0) := by decide +kernel
theorem l197_20 : (ax_dt (ax_T 197)).lookup 20 = some (.ifCond .ne 4, 3, 0, 0, 0) := by decide +kernel
theorem l197_23 : (ax_dt (ax_T 197)).lookup 23 = some (.return_, 1, 0, 0, 0) := by decide +kernel
theorem l197_24 : (ax_dt (ax_T 197)).lookup 24 = some (.aload_n 0, 1, 0, 0, 0) := by decide +kernel
theorem l197_25 : (ax_dt (ax_T 197)).lookup 25 = some (.aload_n 0, 1, 0, 0, 0) := by decide +kernel
theorem l197_26 : (ax_dt (ax_T 197)).lookup 26 = some (.getfield 312, 3, 9, 40, 0) := by decide +kernel
theorem l197_29 : (ax_dt (ax_T 197)).lookup 29 = some (.invokevirtual 325, 3, 187, 1, 0) := by decide +kernel
theorem l197_32 : (ax_dt (ax_T 197)).lookup 32 = some (.ifCond .ne 49, 3, 0, 0, 0) := by decide +kernel
theorem l197_35 : (ax_dt (ax_T 197)).lookup 35 = some (.iload_n 3, 1, 0, 0, 0) := by decide +kernel
theorem l197_36 : (ax_dt (ax_T 197)).lookup 36 = some (.sipush 255, 3, 0, 0, 0) := by decide +kernel
theorem l197_39 : (ax_dt (ax_T 197)).lookup 39 = some (.if_icmp .le 14, 3, 0, 0, 0) := by decide +kernel
theorem l197_42 : (ax_dt (ax_T 197)).lookup 42 = some (.aload_n 0, 1, 0, 0, 0) := by decide +kernel
theorem l197_43 : (ax_dt (ax_T 197)).lookup 43 = some (.bipush 6, 2, 0, 0, 0) := by decide +kernel
theorem l197_45 : (ax_dt (ax_T 197)).lookup 45 = some (.iconst 0, 1, 0, 0, 0) := by decide +kernel
theorem l197_46 : (ax_dt (ax_T 197)).lookup 46 = some (.iload_n 2, 1, 0, 0, 0) := by decide +kernel
theorem l197_47 : (ax_dt (ax_T 197)).lookup 47 = some (.invokevirtual 318, 3, 186, 3, 0) := by decide +kernel
theorem l197_50 : (ax_dt (ax_T 197)).lookup 50 = some (.goto 20, 3, 0, 0, 0) := by decide +kernel
theorem l197_53 : (ax_dt (ax_T 197)).lookup 53 = some (.aload_n 0, 1, 0, 0, 0) := by decide +kernel
theorem l197_54 : (ax_dt (ax_T 197)).lookup 54 = some (.iload_n 1, 1, 0, 0, 0) := by decide +kernel
theorem l197_55 : (ax_dt (ax_T 197)).lookup 55 = some (.aload_n 0, 1, 0, 0, 0) := by decide +kernel
theorem l197_56 : (ax_dt (ax_T 197)).lookup 56 = some (.iconst 0, 1, 0, 0, 0) := by decide +kernel
theorem l197_57 : (ax_dt (ax_T 197)).lookup 57 = some (.invokestatic 284, 3, 135, 1, 0) := by decide +kernel
theorem l197_60 : (ax_dt (ax_T 197)).lookup 60 = some (.iload_n 2, 1, 0, 0, 0) := by decide +kernel
theorem l197_61 : (ax_dt (ax_T 197)).lookup 61 = some (.iadd, 1, 0, 0, 0) := by decide +kernel
theorem l197_62 : (ax_dt (ax_T 197)).lookup 62 = some (.iload_n 3, 1, 0, 0, 0) := by decide +kernel
theorem l197_63 : (ax_dt (ax_T 197)).lookup 63 = some (.invokevirtual 354, 3, 196, 2, 0) := by decide +kernel
theorem l197_66 : (ax_dt (ax_T 197)).lookup 66 = some (.iload_n 3, 1, 0, 0, 0) := by decide +kernel
theorem l197_67 : (ax_dt (ax_T 197)).lookup 67 = some (.invokevirtual 358, 3, 195, 3, 0) := by decide +kernel
theorem l197_70 : (ax_dt (ax_T 197)).lookup 70 = some (.aload_n 0, 1, 0, 0, 0) := by decide +kernel
theorem l197_71 : (ax_dt (ax_T 197)).lookup 71 = some (.dup, 1, 0, 0, 0) := by decide +kernel
theorem l197_72 : (ax_dt (ax_T 197)).lookup 72 = some (.getfield 312, 3, 9, 40, 0) := by decide +kernel
theorem l197_75 : (ax_dt (ax_T 197)).lookup 75 = some (.iconst 1, 1, 0, 0, 0) := by decide +kernel
theorem l197_76 : (ax_dt (ax_T 197)).lookup 76 = some (.iadd, 1, 0, 0, 0) := by decide +kernel
theorem l197_77 : (ax_dt (ax_T 197)).lookup 77 = some (.putfield 312, 3, 9, 40, 0) := by decide +kernel
theorem l197_80 : (ax_dt (ax_T 197)).lookup 80 = some (.return_, 1, 0, 0, 0) := by decide +kernel
theorem l197_81 : (ax_dt (ax_T 197)).lookup 81 = some (.iinc 3 1, 3, 0, 0, 0) := by decide +kernel
theorem l197_84 : (ax_dt (ax_T 197)).lookup 84 = some (.aload_n 0, 1, 0, 0, 0) := by decide +kernel
theorem l197_85 : (ax_dt (ax_T 197)).lookup 85 = some (.dup, 1, 0, 0, 0) := by decide +kernel
theorem l197_86 : (ax_dt (ax_T 197)).lookup 86 = some (.getfield 312, 3, 9, 40, 0) := by decide +kernel
theorem l197_89 : (ax_dt (ax_T 197)).lookup 89 = some (.iconst 1, 1, 0, 0, 0) := by decide +kernel
theorem l197_90 : (ax_dt (ax_T 197)).lookup 90 = some (.iadd, 1, 0, 0, 0) := by decide +kernel
theorem l197_91 : (ax_dt (ax_T 197)).lookup 91 = some (.putfield 312, 3, 9, 40, 0) := by decide +kernel
theorem l197_94 : (ax_dt (ax_T 197)).lookup 94 = some (.goto (-87), 3, 0, 0, 0) := by decide +kernel
theorem l197_97 : (ax_dt (ax_T 197)).lookup 97 = some (.return_, 1, 0, 0, 0) := by decide +kernel
noncomputable def F_X11_readText8_35 (v1 : Int) (v2 : Int) (v3 : Int) (μ : bM) : Option (Int × bM) := if v3 ≤ 255 then (F_X11_from 0 μ).bind fun w2 => bG (bR (w2 + v2)) (bMm (F_X11_keep (w2 + v2) v3 μ) (fun w4 μ5 => bMm (F_X11_textIs v1 w4 v3 μ5) (fun w7 μ8 => bG (bR ((μ8 76 40) + 1)) (some (0, (bset μ8 76 40 ((μ8 76 40) + 1))))))) else bMm (F_X11_bad 6 0 v2 μ) (fun w12 μ13 => bG (bR ((μ13 76 40) + 1)) (some (0, (bset μ13 76 40 ((μ13 76 40) + 1)))))
noncomputable def F_X11_readText8_7 (v1 : Int) (v2 : Int) (v3 : Int) (μ : bM) : Option ((Int × bM) ⊕ (Int × bM)) := if ¬ (μ 76 37) = (-1) then some (.inr (0, μ)) else bMm (F_X11_has 1 μ) (fun w2 μ3 => if ¬ w2 = 0 then (F_X11_byteAt (μ3 76 40) μ3).bind fun w6 => if ¬ w6 = 0 then bG (bR (v3 + 1)) (bG (bR ((μ3 76 40) + 1)) (some (.inl ((v3 + 1), (bset μ3 76 40 ((μ3 76 40) + 1)))))) else bUp (F_X11_readText8_35 v1 v2 v3 μ3) else some (.inr (0, μ3)))
noncomputable def F_X11_readText8 (v1 : Int) (μ : bM) : Option (Int × bM) := bLoop (fun z => F_X11_readText8_7 v1 (μ 76 40) z.1 z.2) (0, μ)
theorem p_X11_readText8_35 {L : Nat} {xs : Nat → Int32} {d : Nat} {μ : bM}  {κ : (Int × bM) → Option bX} (hr : ∀ r : Int × bM, κ r = (bMc) r)  {v1 : Int} (h1 : bR v1) {v2 : Int} (h2 : bR v2) {v3 : Int} (h3 : bR v3) : bD L xs (d + 2) 197 35 [(0, .ref 76), (1, bI v1), (2, bI v2), (3, bI v3)] [] μ ((F_X11_readText8_35 v1 v2 v3 μ).bind κ) := by
  unfold F_X11_readText8_35
  refine bD.ok fun hk => ?_
  refine b_s (pc' := 36) (lv1 := [(0, .ref 76), (1, bI v1), (2, bI v2), (3, bI v3)]) (st' := [bI v3]) l197_35 (fun _ => rfl) ?_
  refine b_sipush l197_36 (by decide) (b_pc (pc' := 39) rfl ?_)
  refine b_ile (pt := 53) l197_39 h3 (by decide) (by decide) rfl (fun c1 => ?_) (fun c1 => b_pc (pc' := 42) rfl ?_)
  · refine b_s (pc' := 54) (lv1 := [(0, .ref 76), (1, bI v1), (2, bI v2), (3, bI v3)]) (st' := [.ref 76]) l197_53 (fun _ => rfl) ?_
    refine b_s (pc' := 55) (lv1 := [(0, .ref 76), (1, bI v1), (2, bI v2), (3, bI v3)]) (st' := [bI v1, .ref 76]) l197_54 (fun _ => rfl) ?_
    refine b_s (pc' := 56) (lv1 := [(0, .ref 76), (1, bI v1), (2, bI v2), (3, bI v3)]) (st' := [.ref 76, bI v1, .ref 76]) l197_55 (fun _ => rfl) ?_
    refine b_s (pc' := 57) (lv1 := [(0, .ref 76), (1, bI v1), (2, bI v2), (3, bI v3)]) (st' := [bI 0, .ref 76, bI v1, .ref 76]) l197_56 (fun _ => rfl) ?_
    refine b_cPi l197_57 rfl (fun _ => trivial) (Nat.le_of_ble_eq_true rfl) (Nat.le_of_ble_eq_true rfl) rfl (r_X11_from 0 (by decide)) fun w2 hw2 => b_pc (pc' := 60) rfl ?_
    refine b_s (pc' := 61) (lv1 := [(0, .ref 76), (1, bI v1), (2, bI v2), (3, bI v3)]) (st' := [bI v2, bI w2, .ref 76, bI v1, .ref 76]) l197_60 (fun _ => rfl) ?_
    refine b_iadd l197_61 fun g3 => (b_pc (pc' := 62) rfl ?_)
    refine b_s (pc' := 63) (lv1 := [(0, .ref 76), (1, bI v1), (2, bI v2), (3, bI v3)]) (st' := [bI v3, bI (w2 + v2), .ref 76, bI v1, .ref 76]) l197_62 (fun _ => rfl) ?_
    refine b_cMi l197_63 rfl (b_rc (ci := 9) (by rfl) (by decide) (by decide +kernel)) (Nat.le_of_ble_eq_true rfl) (Nat.le_of_ble_eq_true rfl) rfl (r_X11_keep (w2 + v2) g3 v3 h3) fun w4 μ5 hw4 => bD.ok fun hk6 => b_pc (pc' := 66) rfl ?_
    refine b_s (pc' := 67) (lv1 := [(0, .ref 76), (1, bI v1), (2, bI v2), (3, bI v3)]) (st' := [bI v3, bI w4, bI v1, .ref 76]) l197_66 (fun _ => rfl) ?_
    refine b_cMv l197_67 rfl (b_rc (ci := 9) (by rfl) (by decide) (by decide +kernel)) (Nat.le_of_ble_eq_true rfl) (Nat.le_of_ble_eq_true rfl) rfl (r_X11_textIs v1 h1 w4 hw4 v3 h3) fun w7 μ8 hw7 => bD.ok fun hk9 => b_pc (pc' := 70) rfl ?_
    refine b_s (pc' := 71) (lv1 := [(0, .ref 76), (1, bI v1), (2, bI v2), (3, bI v3)]) (st' := [.ref 76]) l197_70 (fun _ => rfl) ?_
    refine b_s (pc' := 72) (lv1 := [(0, .ref 76), (1, bI v1), (2, bI v2), (3, bI v3)]) (st' := [.ref 76, .ref 76]) l197_71 (fun _ => rfl) ?_
    refine b_gi l197_72 (by rfl) (by decide) (by decide) rfl (b_pc (pc' := 75) rfl ?_)
    refine b_s (pc' := 76) (lv1 := [(0, .ref 76), (1, bI v1), (2, bI v2), (3, bI v3)]) (st' := [bI 1, bI (μ8 76 40), .ref 76]) l197_75 (fun _ => rfl) ?_
    refine b_iadd l197_76 fun g10 => (b_pc (pc' := 77) rfl ?_)
    refine b_pi l197_77 (by rfl) (by decide) (by decide) rfl rfl g10 (bD.ok fun hk11 => b_pc (pc' := 80) rfl ?_)
    exact b_retv l197_80 rfl (hr _)
  · refine b_s (pc' := 43) (lv1 := [(0, .ref 76), (1, bI v1), (2, bI v2), (3, bI v3)]) (st' := [.ref 76]) l197_42 (fun _ => rfl) ?_
    refine b_bipush l197_43 (by decide) (b_pc (pc' := 45) rfl ?_)
    refine b_s (pc' := 46) (lv1 := [(0, .ref 76), (1, bI v1), (2, bI v2), (3, bI v3)]) (st' := [bI 0, bI 6, .ref 76]) l197_45 (fun _ => rfl) ?_
    refine b_s (pc' := 47) (lv1 := [(0, .ref 76), (1, bI v1), (2, bI v2), (3, bI v3)]) (st' := [bI v2, bI 0, bI 6, .ref 76]) l197_46 (fun _ => rfl) ?_
    refine b_cMv l197_47 rfl (b_rc (ci := 9) (by rfl) (by decide) (by decide +kernel)) (Nat.le_of_ble_eq_true rfl) (Nat.le_of_ble_eq_true rfl) rfl (r_X11_bad 6 (by decide) 0 (by decide) v2 h2) fun w12 μ13 hw12 => bD.ok fun hk14 => b_pc (pc' := 50) rfl ?_
    refine b_s (pc' := 70) (lv1 := [(0, .ref 76), (1, bI v1), (2, bI v2), (3, bI v3)]) (st' := []) l197_50 (fun _ => rfl) ?_
    refine b_s (pc' := 71) (lv1 := [(0, .ref 76), (1, bI v1), (2, bI v2), (3, bI v3)]) (st' := [.ref 76]) l197_70 (fun _ => rfl) ?_
    refine b_s (pc' := 72) (lv1 := [(0, .ref 76), (1, bI v1), (2, bI v2), (3, bI v3)]) (st' := [.ref 76, .ref 76]) l197_71 (fun _ => rfl) ?_
    refine b_gi l197_72 (by rfl) (by decide) (by decide) rfl (b_pc (pc' := 75) rfl ?_)
    refine b_s (pc' := 76) (lv1 := [(0, .ref 76), (1, bI v1), (2, bI v2), (3, bI v3)]) (st' := [bI 1, bI (μ13 76 40), .ref 76]) l197_75 (fun _ => rfl) ?_
    refine b_iadd l197_76 fun g15 => (b_pc (pc' := 77) rfl ?_)
    refine b_pi l197_77 (by rfl) (by decide) (by decide) rfl rfl g15 (bD.ok fun hk16 => b_pc (pc' := 80) rfl ?_)
    exact b_retv l197_80 rfl (hr _)
theorem q_X11_readText8_7 {L : Nat} {xs : Nat → Int32} {d : Nat} {μ : bM} {v1 : Int} {v2 : Int} {κ : ((Int × bM) ⊕ (Int × bM)) → Option bX} (hr : ∀ r : Int × bM, κ (.inr r) = (bMc) r) (H7 : ∀ (v3 : Int) (μ : bM), bR v3 → bD L xs (d + 2) 197 7 [(0, .ref 76), (1, bI v1), (2, bI v2), (3, bI v3)] [] μ (κ (.inl (v3, μ))))  (h1 : bR v1) (h2 : bR v2) {v3 : Int} (h3 : bR v3) : bD L xs (d + 2) 197 7 [(0, .ref 76), (1, bI v1), (2, bI v2), (3, bI v3)] [] μ ((F_X11_readText8_7 v1 v2 v3 μ).bind κ) := by
  unfold F_X11_readText8_7
  refine bD.ok fun hk => ?_
  refine b_s (pc' := 8) (lv1 := [(0, .ref 76), (1, bI v1), (2, bI v2), (3, bI v3)]) (st' := [.ref 76]) l197_7 (fun _ => rfl) ?_
  refine b_gi l197_8 (by rfl) (by decide) (by decide) rfl (b_pc (pc' := 11) rfl ?_)
  refine b_s (pc' := 12) (lv1 := [(0, .ref 76), (1, bI v1), (2, bI v2), (3, bI v3)]) (st' := [bI (-1), bI (μ 76 37)]) l197_11 (fun _ => rfl) ?_
  refine b_ine (pt := 97) l197_12 (bO_f hk (ci := 9) (by rfl) rfl) (by decide) (by decide) rfl (fun c1 => ?_) (fun c1 => b_pc (pc' := 15) rfl ?_)
  · exact b_retv l197_97 rfl (hr _)
  · refine b_s (pc' := 16) (lv1 := [(0, .ref 76), (1, bI v1), (2, bI v2), (3, bI v3)]) (st' := [.ref 76]) l197_15 (fun _ => rfl) ?_
    refine b_s (pc' := 17) (lv1 := [(0, .ref 76), (1, bI v1), (2, bI v2), (3, bI v3)]) (st' := [bI 1, .ref 76]) l197_16 (fun _ => rfl) ?_
    refine b_cMz l197_17 rfl (b_rc (ci := 9) (by rfl) (by decide) (by decide +kernel)) (Nat.le_of_ble_eq_true rfl) (Nat.le_of_ble_eq_true rfl) rfl (r_X11_has 1 (by decide)) fun w2 μ3 hw2 => bD.ok fun hk4 => b_pc (pc' := 20) rfl ?_
    refine b_zne (pt := 24) l197_20 (bZ_R hw2) (by decide) rfl (fun c5 => ?_) (fun c5 => b_pc (pc' := 23) rfl ?_)
    · refine b_s (pc' := 25) (lv1 := [(0, .ref 76), (1, bI v1), (2, bI v2), (3, bI v3)]) (st' := [.ref 76]) l197_24 (fun _ => rfl) ?_
      refine b_s (pc' := 26) (lv1 := [(0, .ref 76), (1, bI v1), (2, bI v2), (3, bI v3)]) (st' := [.ref 76, .ref 76]) l197_25 (fun _ => rfl) ?_
      refine b_gi l197_26 (by rfl) (by decide) (by decide) rfl (b_pc (pc' := 29) rfl ?_)
      refine b_cPi l197_29 rfl (b_rc (ci := 9) (by rfl) (by decide) (by decide +kernel)) (Nat.le_of_ble_eq_true rfl) (Nat.le_of_ble_eq_true rfl) rfl (r_X11_byteAt (μ3 76 40) (bO_f hk4 (ci := 9) (by rfl) rfl)) fun w6 hw6 => b_pc (pc' := 32) rfl ?_
      refine b_zne (pt := 81) l197_32 hw6 (by decide) rfl (fun c7 => ?_) (fun c7 => b_pc (pc' := 35) rfl ?_)
      · refine b_inc (lv' := [(0, .ref 76), (1, bI v1), (2, bI v2), (3, bI (v3 + 1))]) l197_81 rfl (by decide +kernel) (bSb rfl (bSb rfl (bSb rfl (bSb rfl bSn)))) fun g8 => (b_pc (pc' := 84) rfl ?_)
        refine b_s (pc' := 85) (lv1 := [(0, .ref 76), (1, bI v1), (2, bI v2), (3, bI (v3 + 1))]) (st' := [.ref 76]) l197_84 (fun _ => rfl) ?_
        refine b_s (pc' := 86) (lv1 := [(0, .ref 76), (1, bI v1), (2, bI v2), (3, bI (v3 + 1))]) (st' := [.ref 76, .ref 76]) l197_85 (fun _ => rfl) ?_
        refine b_gi l197_86 (by rfl) (by decide) (by decide) rfl (b_pc (pc' := 89) rfl ?_)
        refine b_s (pc' := 90) (lv1 := [(0, .ref 76), (1, bI v1), (2, bI v2), (3, bI (v3 + 1))]) (st' := [bI 1, bI (μ3 76 40), .ref 76]) l197_89 (fun _ => rfl) ?_
        refine b_iadd l197_90 fun g9 => (b_pc (pc' := 91) rfl ?_)
        refine b_pi l197_91 (by rfl) (by decide) (by decide) rfl rfl g9 (bD.ok fun hk10 => b_pc (pc' := 94) rfl ?_)
        refine b_s (pc' := 7) (lv1 := [(0, .ref 76), (1, bI v1), (2, bI v2), (3, bI (v3 + 1))]) (st' := []) l197_94 (fun _ => rfl) ?_
        refine bD.wk (lv' := [(0, .ref 76), (1, bI v1), (2, bI v2), (3, bI (v3 + 1))]) (bSb rfl (bSb rfl (bSb rfl (bSb rfl bSn)))) ?_
        exact H7 (v3 + 1) (bset μ3 76 40 ((μ3 76 40) + 1)) g8
      · refine b_up (fun _ => rfl) ?_
        refine bD.wk (lv' := [(0, .ref 76), (1, bI v1), (2, bI v2), (3, bI v3)]) (bSb rfl (bSb rfl (bSb rfl (bSb rfl bSn)))) ?_
        exact p_X11_readText8_35 hr h1 h2 h3
    · exact b_retv l197_23 rfl (hr _)
theorem p_X11_readText8_7 {L : Nat} {xs : Nat → Int32} {d : Nat} {μ : bM}  {κ : (Int × bM) → Option bX} (hr : ∀ r : Int × bM, κ r = (bMc) r)  {v1 : Int} (h1 : bR v1) {v2 : Int} (h2 : bR v2) {v3 : Int} (h3 : bR v3) : bD L xs (d + 2) 197 7 [(0, .ref 76), (1, bI v1), (2, bI v2), (3, bI v3)] [] μ ((bLoop (fun z => F_X11_readText8_7 v1 v2 z.1 z.2) (v3, μ)).bind κ) :=
  b_loop (fun z => [(0, .ref 76), (1, bI v1), (2, bI v2), (3, bI z.1)]) (fun z => z.2) (fun z => bR z.1) (fun κ' hκ HH z hz => q_X11_readText8_7 (κ := κ') (fun r => (hκ _).trans (hr r)) (fun a3 am b3 => HH (a3, am) b3)  h1 h2 hz) (v3, μ) h3
theorem r_X11_readText8 {L : Nat} {xs : Nat → Int32} {d : Nat} {μ : bM}  (v1 : Int) (h1 : bR v1) : bD L xs (d + 2) 197 0 [(0, .ref 76), (1, bI v1)] [] μ ((F_X11_readText8 v1 μ).bind (bMc)) := by
  have hr : ∀ r, (bMc) r = (bMc) r := fun _ => rfl
  unfold F_X11_readText8
  refine bD.ok fun hk => ?_
  refine b_s (pc' := 1) (lv1 := [(0, .ref 76), (1, bI v1)]) (st' := [.ref 76]) l197_0 (fun _ => rfl) ?_
  refine b_gi l197_1 (by rfl) (by decide) (by decide) rfl (b_pc (pc' := 4) rfl ?_)
  refine b_w (pc' := 5) (lv1 := ax_st1 [(0, .ref 76), (1, bI v1)] 2 (bI (μ 76 40))) (lv' := [(0, .ref 76), (1, bI v1), (2, bI (μ 76 40))]) (st' := []) l197_4 (fun _ => rfl) (bSb rfl (bSb rfl (bSb rfl bSn))) ?_
  refine b_s (pc' := 6) (lv1 := [(0, .ref 76), (1, bI v1), (2, bI (μ 76 40))]) (st' := [bI 0]) l197_5 (fun _ => rfl) ?_
  refine b_w (pc' := 7) (lv1 := ax_st1 [(0, .ref 76), (1, bI v1), (2, bI (μ 76 40))] 3 (bI 0)) (lv' := [(0, .ref 76), (1, bI v1), (2, bI (μ 76 40)), (3, bI 0)]) (st' := []) l197_6 (fun _ => rfl) (bSb rfl (bSb rfl (bSb rfl (bSb rfl bSn)))) ?_
  refine bD.wk (lv' := [(0, .ref 76), (1, bI v1), (2, bI (μ 76 40)), (3, bI 0)]) (bSb rfl (bSb rfl (bSb rfl (bSb rfl bSn)))) ?_
  exact p_X11_readText8_7 hr h1 (bO_f hk (ci := 9) (by rfl) rfl) (by decide)
/-! ETModel.readText14 -/
theorem l198_0 : (ax_dt (ax_T 198)).lookup 0 = some (.aload_n 0, 1, 0, 0, 0) := by decide +kernel
theorem l198_1 : (ax_dt (ax_T 198)).lookup 1 = some (.getfield 312, 3, 9, 40, 0) := by decide +kernel
theorem l198_4 : (ax_dt (ax_T 198)).lookup 4 = some (.istore_n 2, 1, 0, 0, 0) := by decide +kernel
theorem l198_5 : (ax_dt (ax_T 198)).lookup 5 = some (.aload_n 0, 1, 0, 0, 0) := by decide +kernel
theorem l198_6 : (ax_dt (ax_T 198)).lookup 6 = some (.iconst 4, 1, 0, 0, 0) := by decide +kernel
theorem l198_7 : (ax_dt (ax_T 198)).lookup 7 = some (.invokevirtual 343, 3, 189, 1, 0) := by decide +kernel
theorem l198_10 : (ax_dt (ax_T 198)).lookup 10 = some (.lstore_n 3, 1, 0, 0, 0) := by decide +kernel
theorem l198_11 : (ax_dt (ax_T 198)).lookup 11 = some (.aload_n 0, 1, 0, 0, 0) := by decide +kernel
theorem l198_12 : (ax_dt (ax_T 198)).lookup 12 = some (.getfield 300, 3, 9, 37, 0) := by decide +kernel
theorem l198_15 : (ax_dt (ax_T 198)).lookup 15 = some (.iconst (-1), 1, 0, 0, 0) := by decide +kernel
theorem l198_16 : (ax_dt (ax_T 198)).lookup 16 = some (.if_icmp .eq 4, 3, 0, 0, 0) := by decide +kernel
theorem l198_19 : (ax_dt (ax_T 198)).lookup 19 = some (.return_, 1, 0, 0, 0) := by decide +kernel
theorem l198_20 : (ax_dt (ax_T 198)).lookup 20 = some (.iconst 0, 1, 0, 0, 0) := by decide +kernel
theorem l198_21 : (ax_dt (ax_T 198)).lookup 21 = some (.istore 5, 2, 0, 0, 0) := by decide +kernel
theorem l198_23 : (ax_dt (ax_T 198)).lookup 23 = some (.lload_n 3, 1, 0, 0, 0) := by decide +kernel
theorem l198_24 : (ax_dt (ax_T 198)).lookup 24 = some (.iload 5, 2, 0, 0, 0) := by decide +kernel
theorem l198_26 : (ax_dt (ax_T 198)).lookup 26 = some (.i2l, 1, 0, 0, 0) := by decide +kernel
theorem l198_27 : (ax_dt (ax_T 198)).lookup 27 = some (.ladd, 1, 0, 0, 0) := by decide +kernel
theorem l198_28 : (ax_dt (ax_T 198)).lookup 28 = some (.aload_n 0, 1, 0, 0, 0) := by decide +kernel
theorem l198_29 : (ax_dt (ax_T 198)).lookup 29 = some (.getfield 65, 3, 9, 20, 0) := by decide +kernel
theorem l198_32 : (ax_dt (ax_T 198)).lookup 32 = some (.iconst 2, 1, 0, 0, 0) := by decide +kernel
theorem l198_33 : (ax_dt (ax_T 198)).lookup 33 = some (.iaload, 1, 0, 0, 0) := by decide +kernel
theorem l198_34 : (ax_dt (ax_T 198)).lookup 34 = some (.i2l, 1, 0, 0, 0) := by decide +kernel
theorem l198_35 : (ax_dt (ax_T 198)).lookup 35 = some (.lcmp, 1, 0, 0, 0) := by decide +kernel
theorem l198_36 : (ax_dt (ax_T 198)).lookup 36 = some (.ifCond .ge 35, 3, 0, 0, 0) := by decide +kernel
theorem l198_39 : (ax_dt (ax_T 198)).lookup 39 = some (.iload 5, 2, 0, 0, 0) := by decide +kernel
theorem l198_41 : (ax_dt (ax_T 198)).lookup 41 = some (.sipush 255, 3, 0, 0, 0) := by decide +kernel
theorem l198_44 : (ax_dt (ax_T 198)).lookup 44 = some (.if_icmp .gt 27, 3, 0, 0, 0) := by decide +kernel
theorem l198_47 : (ax_dt (ax_T 198)).lookup 47 = some (.aload_n 0, 1, 0, 0, 0) := by decide +kernel
theorem l198_48 : (ax_dt (ax_T 198)).lookup 48 = some (.getfield 62, 3, 9, 19, 0) := by decide +kernel
theorem l198_51 : (ax_dt (ax_T 198)).lookup 51 = some (.iconst 2, 1, 0, 0, 0) := by decide +kernel
theorem l198_52 : (ax_dt (ax_T 198)).lookup 52 = some (.invokestatic 284, 3, 135, 1, 0) := by decide +kernel
theorem l198_55 : (ax_dt (ax_T 198)).lookup 55 = some (.lload_n 3, 1, 0, 0, 0) := by decide +kernel
theorem l198_56 : (ax_dt (ax_T 198)).lookup 56 = some (.l2i, 1, 0, 0, 0) := by decide +kernel
theorem l198_57 : (ax_dt (ax_T 198)).lookup 57 = some (.iadd, 1, 0, 0, 0) := by decide +kernel
theorem l198_58 : (ax_dt (ax_T 198)).lookup 58 = some (.iload 5, 2, 0, 0, 0) := by decide +kernel
theorem l198_60 : (ax_dt (ax_T 198)).lookup 60 = some (.iadd, 1, 0, 0, 0) := by decide +kernel
theorem l198_61 : (ax_dt (ax_T 198)).lookup 61 = some (.baload, 1, 0, 0, 0) := by decide +kernel
theorem l198_62 : (ax_dt (ax_T 198)).lookup 62 = some (.ifCond .eq 9, 3, 0, 0, 0) := by decide +kernel
theorem l198_65 : (ax_dt (ax_T 198)).lookup 65 = some (.iinc 5 1, 3, 0, 0, 0) := by decide +kernel
theorem l198_68 : (ax_dt (ax_T 198)).lookup 68 = some (.goto (-45), 3, 0, 0, 0) := by decide +kernel
theorem l198_71 : (ax_dt (ax_T 198)).lookup 71 = some (.lload_n 3, 1, 0, 0, 0) := by decide +kernel
theorem l198_72 : (ax_dt (ax_T 198)).lookup 72 = some (.iload 5, 2, 0, 0, 0) := by decide +kernel
theorem l198_74 : (ax_dt (ax_T 198)).lookup 74 = some (.i2l, 1, 0, 0, 0) := by decide +kernel
theorem l198_75 : (ax_dt (ax_T 198)).lookup 75 = some (.ladd, 1, 0, 0, 0) := by decide +kernel
theorem l198_76 : (ax_dt (ax_T 198)).lookup 76 = some (.aload_n 0, 1, 0, 0, 0) := by decide +kernel
theorem l198_77 : (ax_dt (ax_T 198)).lookup 77 = some (.getfield 65, 3, 9, 20, 0) := by decide +kernel
theorem l198_80 : (ax_dt (ax_T 198)).lookup 80 = some (.iconst 2, 1, 0, 0, 0) := by decide +kernel
theorem l198_81 : (ax_dt (ax_T 198)).lookup 81 = some (.iaload, 1, 0, 0, 0) := by decide +kernel
theorem l198_82 : (ax_dt (ax_T 198)).lookup 82 = some (.i2l, 1, 0, 0, 0) := by decide +kernel
theorem l198_83 : (ax_dt (ax_T 198)).lookup 83 = some (.lcmp, 1, 0, 0, 0) := by decide +kernel
theorem l198_84 : (ax_dt (ax_T 198)).lookup 84 = some (.ifCond .ge 11, 3, 0, 0, 0) := by decide +kernel
theorem l198_87 : (ax_dt (ax_T 198)).lookup 87 = some (.iload 5, 2, 0, 0, 0) := by decide +kernel
theorem l198_89 : (ax_dt (ax_T 198)).lookup 89 = some (.sipush 255, 3, 0, 0, 0) := by decide +kernel
theorem l198_92 : (ax_dt (ax_T 198)).lookup 92 = some (.if_icmp .le 12, 3, 0, 0, 0) := by decide +kernel
theorem l198_95 : (ax_dt (ax_T 198)).lookup 95 = some (.aload_n 0, 1, 0, 0, 0) := by decide +kernel
theorem l198_96 : (ax_dt (ax_T 198)).lookup 96 = some (.bipush 6, 2, 0, 0, 0) := by decide +kernel
theorem l198_98 : (ax_dt (ax_T 198)).lookup 98 = some (.iconst 0, 1, 0, 0, 0) := by decide +kernel
theorem l198_99 : (ax_dt (ax_T 198)).lookup 99 = some (.iload_n 2, 1, 0, 0, 0) := by decide +kernel
theorem l198_100 : (ax_dt (ax_T 198)).lookup 100 = some (.invokevirtual 318, 3, 186, 3, 0) := by decide +kernel
theorem l198_103 : (ax_dt (ax_T 198)).lookup 103 = some (.return_, 1, 0, 0, 0) := by decide +kernel
theorem l198_104 : (ax_dt (ax_T 198)).lookup 104 = some (.aload_n 0, 1, 0, 0, 0) := by decide +kernel
theorem l198_105 : (ax_dt (ax_T 198)).lookup 105 = some (.iload_n 1, 1, 0, 0, 0) := by decide +kernel
theorem l198_106 : (ax_dt (ax_T 198)).lookup 106 = some (.ldc 195, 2, 0, 0, 90000) := by decide +kernel
theorem l198_108 : (ax_dt (ax_T 198)).lookup 108 = some (.aload_n 0, 1, 0, 0, 0) := by decide +kernel
theorem l198_109 : (ax_dt (ax_T 198)).lookup 109 = some (.getfield 137, 3, 9, 3, 0) := by decide +kernel
theorem l198_112 : (ax_dt (ax_T 198)).lookup 112 = some (.imul, 1, 0, 0, 0) := by decide +kernel
theorem l198_113 : (ax_dt (ax_T 198)).lookup 113 = some (.lload_n 3, 1, 0, 0, 0) := by decide +kernel
theorem l198_114 : (ax_dt (ax_T 198)).lookup 114 = some (.l2i, 1, 0, 0, 0) := by decide +kernel
theorem l198_115 : (ax_dt (ax_T 198)).lookup 115 = some (.iadd, 1, 0, 0, 0) := by decide +kernel
theorem l198_116 : (ax_dt (ax_T 198)).lookup 116 = some (.iload 5, 2, 0, 0, 0) := by decide +kernel
theorem l198_118 : (ax_dt (ax_T 198)).lookup 118 = some (.invokevirtual 358, 3, 195, 3, 0) := by decide +kernel
theorem l198_121 : (ax_dt (ax_T 198)).lookup 121 = some (.return_, 1, 0, 0, 0) := by decide +kernel
noncomputable def F_X11_readText14_71 (v1 : Int) (v2 : Int) (v3 : Int) (v5 : Int) (μ : bM) : Option (Int × bM) := bG (bRL (v3 + v5)) (if 0 ≤ (bCmp (v3 + v5) (μ 94 2)) then bMm (F_X11_bad 6 0 v2 μ) (fun w3 μ4 => some (0, μ4)) else if v5 ≤ 255 then bG (bR (90000 * (μ 76 3))) (bG (bR ((90000 * (μ 76 3)) + (b32 v3))) (bMm (F_X11_textIs v1 ((90000 * (μ 76 3)) + (b32 v3)) v5 μ) (fun w9 μ10 => some (0, μ10)))) else bMm (F_X11_bad 6 0 v2 μ) (fun w12 μ13 => some (0, μ13)))
noncomputable def F_X11_readText14_23 (v1 : Int) (v2 : Int) (v3 : Int) (μ : bM) (v5 : Int) : Option ((Int) ⊕ (Int × bM)) := bG (bRL (v3 + v5)) (if 0 ≤ (bCmp (v3 + v5) (μ 94 2)) then bUp (F_X11_readText14_71 v1 v2 v3 v5 μ) else if 255 < v5 then bUp (F_X11_readText14_71 v1 v2 v3 v5 μ) else (F_X11_from 2 μ).bind fun w4 => bG (bR (w4 + (b32 v3))) (bG (bR ((w4 + (b32 v3)) + v5)) (bG (0 ≤ ((w4 + (b32 v3)) + v5) ∧ ((w4 + (b32 v3)) + v5) < 40000) (if (μ 93 ((w4 + (b32 v3)) + v5).toNat) = 0 then bUp (F_X11_readText14_71 v1 v2 v3 v5 μ) else bG (bR (v5 + 1)) (some (.inl (v5 + 1)))))))
noncomputable def F_X11_readText14 (v1 : Int) (μ : bM) : Option (Int × bM) := bMm (F_X11_fixed 4 μ) (fun w1 μ2 => if (μ2 76 37) = (-1) then bLoop (fun z => F_X11_readText14_23 v1 (μ 76 40) w1 μ2 z) 0 else some (0, μ2))
theorem p_X11_readText14_71 {L : Nat} {xs : Nat → Int32} {d : Nat} {μ : bM}  {κ : (Int × bM) → Option bX} (hr : ∀ r : Int × bM, κ r = (bMc) r)  {v1 : Int} (h1 : bR v1) {v2 : Int} (h2 : bR v2) {v3 : Int} (h3 : bRL v3) {v5 : Int} (h5 : bR v5) : bD L xs (d + 3) 198 71 [(0, .ref 76), (1, bI v1), (2, bI v2), (3, bLg v3), (5, bI v5)] [] μ ((F_X11_readText14_71 v1 v2 v3 v5 μ).bind κ) := by
  unfold F_X11_readText14_71
  refine bD.ok fun hk => ?_
  refine b_s (pc' := 72) (lv1 := [(0, .ref 76), (1, bI v1), (2, bI v2), (3, bLg v3), (5, bI v5)]) (st' := [bLg v3]) l198_71 (fun _ => rfl) ?_
  refine b_s (pc' := 74) (lv1 := [(0, .ref 76), (1, bI v1), (2, bI v2), (3, bLg v3), (5, bI v5)]) (st' := [bI v5, bLg v3]) l198_72 (fun _ => rfl) ?_
  refine b_i2l l198_74 h5 (b_pc (pc' := 75) rfl ?_)
  refine b_ladd l198_75 fun g1 => (b_pc (pc' := 76) rfl ?_)
  refine b_s (pc' := 77) (lv1 := [(0, .ref 76), (1, bI v1), (2, bI v2), (3, bLg v3), (5, bI v5)]) (st' := [.ref 76, bLg (v3 + v5)]) l198_76 (fun _ => rfl) ?_
  refine b_gp (q' := 94) (j := 18) l198_77 (by rfl) (by decide) (by decide) rfl hk rfl rfl (b_pc (pc' := 80) rfl ?_)
  refine b_s (pc' := 81) (lv1 := [(0, .ref 76), (1, bI v1), (2, bI v2), (3, bLg v3), (5, bI v5)]) (st' := [bI 2, .ref 94, bLg (v3 + v5)]) l198_80 (fun _ => rfl) ?_
  refine b_ial l198_81 (by rfl) (by decide) (b_pc (pc' := 82) rfl ?_)
  refine b_i2l l198_82 (bO_i hk (by rfl)) (b_pc (pc' := 83) rfl ?_)
  refine b_lcmp l198_83 g1 (bR_L (bO_i hk (by rfl))) (b_pc (pc' := 84) rfl ?_)
  refine b_zge (pt := 95) l198_84 (bCmp_R _ _) (by decide) rfl (fun c2 => ?_) (fun c2 => b_pc (pc' := 87) rfl ?_)
  · refine b_s (pc' := 96) (lv1 := [(0, .ref 76), (1, bI v1), (2, bI v2), (3, bLg v3), (5, bI v5)]) (st' := [.ref 76]) l198_95 (fun _ => rfl) ?_
    refine b_bipush l198_96 (by decide) (b_pc (pc' := 98) rfl ?_)
    refine b_s (pc' := 99) (lv1 := [(0, .ref 76), (1, bI v1), (2, bI v2), (3, bLg v3), (5, bI v5)]) (st' := [bI 0, bI 6, .ref 76]) l198_98 (fun _ => rfl) ?_
    refine b_s (pc' := 100) (lv1 := [(0, .ref 76), (1, bI v1), (2, bI v2), (3, bLg v3), (5, bI v5)]) (st' := [bI v2, bI 0, bI 6, .ref 76]) l198_99 (fun _ => rfl) ?_
    refine b_cMv l198_100 rfl (b_rc (ci := 9) (by rfl) (by decide) (by decide +kernel)) (Nat.le_of_ble_eq_true rfl) (Nat.le_of_ble_eq_true rfl) rfl (r_X11_bad 6 (by decide) 0 (by decide) v2 h2) fun w3 μ4 hw3 => bD.ok fun hk5 => b_pc (pc' := 103) rfl ?_
    exact b_retv l198_103 rfl (hr _)
  · refine b_s (pc' := 89) (lv1 := [(0, .ref 76), (1, bI v1), (2, bI v2), (3, bLg v3), (5, bI v5)]) (st' := [bI v5]) l198_87 (fun _ => rfl) ?_
    refine b_sipush l198_89 (by decide) (b_pc (pc' := 92) rfl ?_)
    refine b_ile (pt := 104) l198_92 h5 (by decide) (by decide) rfl (fun c6 => ?_) (fun c6 => b_pc (pc' := 95) rfl ?_)
    · refine b_s (pc' := 105) (lv1 := [(0, .ref 76), (1, bI v1), (2, bI v2), (3, bLg v3), (5, bI v5)]) (st' := [.ref 76]) l198_104 (fun _ => rfl) ?_
      refine b_s (pc' := 106) (lv1 := [(0, .ref 76), (1, bI v1), (2, bI v2), (3, bLg v3), (5, bI v5)]) (st' := [bI v1, .ref 76]) l198_105 (fun _ => rfl) ?_
      refine b_s (pc' := 108) (lv1 := [(0, .ref 76), (1, bI v1), (2, bI v2), (3, bLg v3), (5, bI v5)]) (st' := [bI 90000, bI v1, .ref 76]) l198_106 (fun _ => rfl) ?_
      refine b_s (pc' := 109) (lv1 := [(0, .ref 76), (1, bI v1), (2, bI v2), (3, bLg v3), (5, bI v5)]) (st' := [.ref 76, bI 90000, bI v1, .ref 76]) l198_108 (fun _ => rfl) ?_
      refine b_gi l198_109 (by rfl) (by decide) (by decide) rfl (b_pc (pc' := 112) rfl ?_)
      refine b_imul l198_112 fun g7 => (b_pc (pc' := 113) rfl ?_)
      refine b_s (pc' := 114) (lv1 := [(0, .ref 76), (1, bI v1), (2, bI v2), (3, bLg v3), (5, bI v5)]) (st' := [bLg v3, bI (90000 * (μ 76 3)), bI v1, .ref 76]) l198_113 (fun _ => rfl) ?_
      refine b_l2i l198_114 (b_pc (pc' := 115) rfl ?_)
      refine b_iadd l198_115 fun g8 => (b_pc (pc' := 116) rfl ?_)
      refine b_s (pc' := 118) (lv1 := [(0, .ref 76), (1, bI v1), (2, bI v2), (3, bLg v3), (5, bI v5)]) (st' := [bI v5, bI ((90000 * (μ 76 3)) + (b32 v3)), bI v1, .ref 76]) l198_116 (fun _ => rfl) ?_
      refine b_cMv l198_118 rfl (b_rc (ci := 9) (by rfl) (by decide) (by decide +kernel)) (Nat.le_of_ble_eq_true rfl) (Nat.le_of_ble_eq_true rfl) rfl (r_X11_textIs v1 h1 ((90000 * (μ 76 3)) + (b32 v3)) g8 v5 h5) fun w9 μ10 hw9 => bD.ok fun hk11 => b_pc (pc' := 121) rfl ?_
      exact b_retv l198_121 rfl (hr _)
    · refine b_s (pc' := 96) (lv1 := [(0, .ref 76), (1, bI v1), (2, bI v2), (3, bLg v3), (5, bI v5)]) (st' := [.ref 76]) l198_95 (fun _ => rfl) ?_
      refine b_bipush l198_96 (by decide) (b_pc (pc' := 98) rfl ?_)
      refine b_s (pc' := 99) (lv1 := [(0, .ref 76), (1, bI v1), (2, bI v2), (3, bLg v3), (5, bI v5)]) (st' := [bI 0, bI 6, .ref 76]) l198_98 (fun _ => rfl) ?_
      refine b_s (pc' := 100) (lv1 := [(0, .ref 76), (1, bI v1), (2, bI v2), (3, bLg v3), (5, bI v5)]) (st' := [bI v2, bI 0, bI 6, .ref 76]) l198_99 (fun _ => rfl) ?_
      refine b_cMv l198_100 rfl (b_rc (ci := 9) (by rfl) (by decide) (by decide +kernel)) (Nat.le_of_ble_eq_true rfl) (Nat.le_of_ble_eq_true rfl) rfl (r_X11_bad 6 (by decide) 0 (by decide) v2 h2) fun w12 μ13 hw12 => bD.ok fun hk14 => b_pc (pc' := 103) rfl ?_
      exact b_retv l198_103 rfl (hr _)
theorem q_X11_readText14_23 {L : Nat} {xs : Nat → Int32} {d : Nat} {μ : bM} {v1 : Int} {v2 : Int} {v3 : Int} {κ : ((Int) ⊕ (Int × bM)) → Option bX} (hr : ∀ r : Int × bM, κ (.inr r) = (bMc) r) (H23 : ∀ (v5 : Int), bR v5 → bD L xs (d + 3) 198 23 [(0, .ref 76), (1, bI v1), (2, bI v2), (3, bLg v3), (5, bI v5)] [] μ (κ (.inl v5)))  (h1 : bR v1) (h2 : bR v2) (h3 : bRL v3) {v5 : Int} (h5 : bR v5) : bD L xs (d + 3) 198 23 [(0, .ref 76), (1, bI v1), (2, bI v2), (3, bLg v3), (5, bI v5)] [] μ ((F_X11_readText14_23 v1 v2 v3 μ v5).bind κ) := by
  unfold F_X11_readText14_23
  refine bD.ok fun hk => ?_
  refine b_s (pc' := 24) (lv1 := [(0, .ref 76), (1, bI v1), (2, bI v2), (3, bLg v3), (5, bI v5)]) (st' := [bLg v3]) l198_23 (fun _ => rfl) ?_
  refine b_s (pc' := 26) (lv1 := [(0, .ref 76), (1, bI v1), (2, bI v2), (3, bLg v3), (5, bI v5)]) (st' := [bI v5, bLg v3]) l198_24 (fun _ => rfl) ?_
  refine b_i2l l198_26 h5 (b_pc (pc' := 27) rfl ?_)
  refine b_ladd l198_27 fun g1 => (b_pc (pc' := 28) rfl ?_)
  refine b_s (pc' := 29) (lv1 := [(0, .ref 76), (1, bI v1), (2, bI v2), (3, bLg v3), (5, bI v5)]) (st' := [.ref 76, bLg (v3 + v5)]) l198_28 (fun _ => rfl) ?_
  refine b_gp (q' := 94) (j := 18) l198_29 (by rfl) (by decide) (by decide) rfl hk rfl rfl (b_pc (pc' := 32) rfl ?_)
  refine b_s (pc' := 33) (lv1 := [(0, .ref 76), (1, bI v1), (2, bI v2), (3, bLg v3), (5, bI v5)]) (st' := [bI 2, .ref 94, bLg (v3 + v5)]) l198_32 (fun _ => rfl) ?_
  refine b_ial l198_33 (by rfl) (by decide) (b_pc (pc' := 34) rfl ?_)
  refine b_i2l l198_34 (bO_i hk (by rfl)) (b_pc (pc' := 35) rfl ?_)
  refine b_lcmp l198_35 g1 (bR_L (bO_i hk (by rfl))) (b_pc (pc' := 36) rfl ?_)
  refine b_zge (pt := 71) l198_36 (bCmp_R _ _) (by decide) rfl (fun c2 => ?_) (fun c2 => b_pc (pc' := 39) rfl ?_)
  · refine b_up (fun _ => rfl) ?_
    refine bD.wk (lv' := [(0, .ref 76), (1, bI v1), (2, bI v2), (3, bLg v3), (5, bI v5)]) (bSb rfl (bSb rfl (bSb rfl (bSb rfl (bSb rfl bSn))))) ?_
    exact p_X11_readText14_71 hr h1 h2 h3 h5
  · refine b_s (pc' := 41) (lv1 := [(0, .ref 76), (1, bI v1), (2, bI v2), (3, bLg v3), (5, bI v5)]) (st' := [bI v5]) l198_39 (fun _ => rfl) ?_
    refine b_sipush l198_41 (by decide) (b_pc (pc' := 44) rfl ?_)
    refine b_igt (pt := 71) l198_44 h5 (by decide) (by decide) rfl (fun c3 => ?_) (fun c3 => b_pc (pc' := 47) rfl ?_)
    · refine b_up (fun _ => rfl) ?_
      refine bD.wk (lv' := [(0, .ref 76), (1, bI v1), (2, bI v2), (3, bLg v3), (5, bI v5)]) (bSb rfl (bSb rfl (bSb rfl (bSb rfl (bSb rfl bSn))))) ?_
      exact p_X11_readText14_71 hr h1 h2 h3 h5
    · refine b_s (pc' := 48) (lv1 := [(0, .ref 76), (1, bI v1), (2, bI v2), (3, bLg v3), (5, bI v5)]) (st' := [.ref 76]) l198_47 (fun _ => rfl) ?_
      refine b_gp (q' := 93) (j := 17) l198_48 (by rfl) (by decide) (by decide) rfl hk rfl rfl (b_pc (pc' := 51) rfl ?_)
      refine b_s (pc' := 52) (lv1 := [(0, .ref 76), (1, bI v1), (2, bI v2), (3, bLg v3), (5, bI v5)]) (st' := [bI 2, .ref 93]) l198_51 (fun _ => rfl) ?_
      refine b_cPi l198_52 rfl (fun _ => trivial) (Nat.le_of_ble_eq_true rfl) (Nat.le_of_ble_eq_true rfl) rfl (r_X11_from 2 (by decide)) fun w4 hw4 => b_pc (pc' := 55) rfl ?_
      refine b_s (pc' := 56) (lv1 := [(0, .ref 76), (1, bI v1), (2, bI v2), (3, bLg v3), (5, bI v5)]) (st' := [bLg v3, bI w4, .ref 93]) l198_55 (fun _ => rfl) ?_
      refine b_l2i l198_56 (b_pc (pc' := 57) rfl ?_)
      refine b_iadd l198_57 fun g5 => (b_pc (pc' := 58) rfl ?_)
      refine b_s (pc' := 60) (lv1 := [(0, .ref 76), (1, bI v1), (2, bI v2), (3, bLg v3), (5, bI v5)]) (st' := [bI v5, bI (w4 + (b32 v3)), .ref 93]) l198_58 (fun _ => rfl) ?_
      refine b_iadd l198_60 fun g6 => (b_pc (pc' := 61) rfl ?_)
      refine b_g fun g9 => ?_
      refine b_bal l198_61 (by rfl) g9 (b_pc (pc' := 62) rfl ?_)
      refine b_zeq (pt := 71) l198_62 (bO_br hk (by rfl)) (by decide) rfl (fun c7 => ?_) (fun c7 => b_pc (pc' := 65) rfl ?_)
      · refine b_up (fun _ => rfl) ?_
        refine bD.wk (lv' := [(0, .ref 76), (1, bI v1), (2, bI v2), (3, bLg v3), (5, bI v5)]) (bSb rfl (bSb rfl (bSb rfl (bSb rfl (bSb rfl bSn))))) ?_
        exact p_X11_readText14_71 hr h1 h2 h3 h5
      · refine b_inc (lv' := [(0, .ref 76), (1, bI v1), (2, bI v2), (3, bLg v3), (5, bI (v5 + 1))]) l198_65 rfl (by decide +kernel) (bSb rfl (bSb rfl (bSb rfl (bSb rfl (bSb rfl bSn))))) fun g8 => (b_pc (pc' := 68) rfl ?_)
        refine b_s (pc' := 23) (lv1 := [(0, .ref 76), (1, bI v1), (2, bI v2), (3, bLg v3), (5, bI (v5 + 1))]) (st' := []) l198_68 (fun _ => rfl) ?_
        refine bD.wk (lv' := [(0, .ref 76), (1, bI v1), (2, bI v2), (3, bLg v3), (5, bI (v5 + 1))]) (bSb rfl (bSb rfl (bSb rfl (bSb rfl (bSb rfl bSn))))) ?_
        exact H23 (v5 + 1) g8
theorem p_X11_readText14_23 {L : Nat} {xs : Nat → Int32} {d : Nat} {μ : bM}  {κ : (Int × bM) → Option bX} (hr : ∀ r : Int × bM, κ r = (bMc) r)  {v1 : Int} (h1 : bR v1) {v2 : Int} (h2 : bR v2) {v3 : Int} (h3 : bRL v3) {v5 : Int} (h5 : bR v5) : bD L xs (d + 3) 198 23 [(0, .ref 76), (1, bI v1), (2, bI v2), (3, bLg v3), (5, bI v5)] [] μ ((bLoop (fun z => F_X11_readText14_23 v1 v2 v3 μ z) v5).bind κ) :=
  b_loop (fun z => [(0, .ref 76), (1, bI v1), (2, bI v2), (3, bLg v3), (5, bI z)]) (fun z => μ) (fun z => bR z) (fun κ' hκ HH z hz => q_X11_readText14_23 (κ := κ') (fun r => (hκ _).trans (hr r)) (fun a5 b5 => HH a5 b5)  h1 h2 h3 hz) v5 h5
theorem r_X11_readText14 {L : Nat} {xs : Nat → Int32} {d : Nat} {μ : bM}  (v1 : Int) (h1 : bR v1) : bD L xs (d + 3) 198 0 [(0, .ref 76), (1, bI v1)] [] μ ((F_X11_readText14 v1 μ).bind (bMc)) := by
  have hr : ∀ r, (bMc) r = (bMc) r := fun _ => rfl
  unfold F_X11_readText14
  refine bD.ok fun hk => ?_
  refine b_s (pc' := 1) (lv1 := [(0, .ref 76), (1, bI v1)]) (st' := [.ref 76]) l198_0 (fun _ => rfl) ?_
  refine b_gi l198_1 (by rfl) (by decide) (by decide) rfl (b_pc (pc' := 4) rfl ?_)
  refine b_w (pc' := 5) (lv1 := ax_st1 [(0, .ref 76), (1, bI v1)] 2 (bI (μ 76 40))) (lv' := [(0, .ref 76), (1, bI v1), (2, bI (μ 76 40))]) (st' := []) l198_4 (fun _ => rfl) (bSb rfl (bSb rfl (bSb rfl bSn))) ?_
  refine b_s (pc' := 6) (lv1 := [(0, .ref 76), (1, bI v1), (2, bI (μ 76 40))]) (st' := [.ref 76]) l198_5 (fun _ => rfl) ?_
  refine b_s (pc' := 7) (lv1 := [(0, .ref 76), (1, bI v1), (2, bI (μ 76 40))]) (st' := [bI 4, .ref 76]) l198_6 (fun _ => rfl) ?_
  refine b_cMl l198_7 rfl (b_rc (ci := 9) (by rfl) (by decide) (by decide +kernel)) (Nat.le_of_ble_eq_true rfl) (Nat.le_of_ble_eq_true rfl) rfl (r_X11_fixed 4 (by decide)) fun w1 μ2 hw1 => bD.ok fun hk3 => b_pc (pc' := 10) rfl ?_
  refine b_w (pc' := 11) (lv1 := ax_st2 [(0, .ref 76), (1, bI v1), (2, bI (μ 76 40))] 3 (bLg w1)) (lv' := [(0, .ref 76), (1, bI v1), (2, bI (μ 76 40)), (3, bLg w1)]) (st' := []) l198_10 (fun _ => rfl) (bSb rfl (bSb rfl (bSb rfl (bSb rfl bSn)))) ?_
  refine b_s (pc' := 12) (lv1 := [(0, .ref 76), (1, bI v1), (2, bI (μ 76 40)), (3, bLg w1)]) (st' := [.ref 76]) l198_11 (fun _ => rfl) ?_
  refine b_gi l198_12 (by rfl) (by decide) (by decide) rfl (b_pc (pc' := 15) rfl ?_)
  refine b_s (pc' := 16) (lv1 := [(0, .ref 76), (1, bI v1), (2, bI (μ 76 40)), (3, bLg w1)]) (st' := [bI (-1), bI (μ2 76 37)]) l198_15 (fun _ => rfl) ?_
  refine b_ieq (pt := 20) l198_16 (bO_f hk3 (ci := 9) (by rfl) rfl) (by decide) (by decide) rfl (fun c4 => ?_) (fun c4 => b_pc (pc' := 19) rfl ?_)
  · refine b_s (pc' := 21) (lv1 := [(0, .ref 76), (1, bI v1), (2, bI (μ 76 40)), (3, bLg w1)]) (st' := [bI 0]) l198_20 (fun _ => rfl) ?_
    refine b_w (pc' := 23) (lv1 := ax_st1 [(0, .ref 76), (1, bI v1), (2, bI (μ 76 40)), (3, bLg w1)] 5 (bI 0)) (lv' := [(0, .ref 76), (1, bI v1), (2, bI (μ 76 40)), (3, bLg w1), (5, bI 0)]) (st' := []) l198_21 (fun _ => rfl) (bSb rfl (bSb rfl (bSb rfl (bSb rfl (bSb rfl bSn))))) ?_
    refine bD.wk (lv' := [(0, .ref 76), (1, bI v1), (2, bI (μ 76 40)), (3, bLg w1), (5, bI 0)]) (bSb rfl (bSb rfl (bSb rfl (bSb rfl (bSb rfl bSn))))) ?_
    exact p_X11_readText14_23 hr h1 (bO_f hk (ci := 9) (by rfl) rfl) hw1 (by decide)
  · exact b_retv l198_19 rfl (hr _)
end
