section
/-! ET.feed -/
theorem l92_0 : (ax_dt (ax_T 92)).lookup 0 = some (.aload_n 0, 1, 0, 0, 0) := by decide +kernel
theorem l92_1 : (ax_dt (ax_T 92)).lookup 1 = some (.getfield 14, 3, 8, 0, 0) := by decide +kernel
theorem l92_4 : (ax_dt (ax_T 92)).lookup 4 = some (.invokevirtual 49, 3, 54, 0, 0) := by decide +kernel
theorem l92_7 : (ax_dt (ax_T 92)).lookup 7 = some (.bipush 20, 2, 0, 0, 0) := by decide +kernel
theorem l92_9 : (ax_dt (ax_T 92)).lookup 9 = some (.if_icmp .ge 13, 3, 0, 0, 0) := by decide +kernel
theorem l92_22 : (ax_dt (ax_T 92)).lookup 22 = some (.aload_n 0, 1, 0, 0, 0) := by decide +kernel
theorem l92_23 : (ax_dt (ax_T 92)).lookup 23 = some (.getfield 14, 3, 8, 0, 0) := by decide +kernel
theorem l92_26 : (ax_dt (ax_T 92)).lookup 26 = some (.iload_n 1, 1, 0, 0, 0) := by decide +kernel
theorem l92_27 : (ax_dt (ax_T 92)).lookup 27 = some (.invokevirtual 60, 3, 59, 1, 0) := by decide +kernel
theorem l92_30 : (ax_dt (ax_T 92)).lookup 30 = some (.aload_n 0, 1, 0, 0, 0) := by decide +kernel
theorem l92_31 : (ax_dt (ax_T 92)).lookup 31 = some (.getfield 14, 3, 8, 0, 0) := by decide +kernel
theorem l92_34 : (ax_dt (ax_T 92)).lookup 34 = some (.iload_n 2, 1, 0, 0, 0) := by decide +kernel
theorem l92_35 : (ax_dt (ax_T 92)).lookup 35 = some (.invokevirtual 60, 3, 59, 1, 0) := by decide +kernel
theorem l92_38 : (ax_dt (ax_T 92)).lookup 38 = some (.aload_n 0, 1, 0, 0, 0) := by decide +kernel
theorem l92_39 : (ax_dt (ax_T 92)).lookup 39 = some (.getfield 14, 3, 8, 0, 0) := by decide +kernel
theorem l92_42 : (ax_dt (ax_T 92)).lookup 42 = some (.iload_n 3, 1, 0, 0, 0) := by decide +kernel
theorem l92_43 : (ax_dt (ax_T 92)).lookup 43 = some (.invokevirtual 60, 3, 59, 1, 0) := by decide +kernel
theorem l92_46 : (ax_dt (ax_T 92)).lookup 46 = some (.aload_n 0, 1, 0, 0, 0) := by decide +kernel
theorem l92_47 : (ax_dt (ax_T 92)).lookup 47 = some (.getfield 14, 3, 8, 0, 0) := by decide +kernel
theorem l92_50 : (ax_dt (ax_T 92)).lookup 50 = some (.iload 4, 2, 0, 0, 0) := by decide +kernel
theorem l92_52 : (ax_dt (ax_T 92)).lookup 52 = some (.invokevirtual 60, 3, 59, 1, 0) := by decide +kernel
theorem l92_55 : (ax_dt (ax_T 92)).lookup 55 = some (.aload_n 0, 1, 0, 0, 0) := by decide +kernel
theorem l92_56 : (ax_dt (ax_T 92)).lookup 56 = some (.getfield 14, 3, 8, 0, 0) := by decide +kernel
theorem l92_59 : (ax_dt (ax_T 92)).lookup 59 = some (.iload 5, 2, 0, 0, 0) := by decide +kernel
theorem l92_61 : (ax_dt (ax_T 92)).lookup 61 = some (.invokevirtual 60, 3, 59, 1, 0) := by decide +kernel
theorem l92_64 : (ax_dt (ax_T 92)).lookup 64 = some (.aload_n 0, 1, 0, 0, 0) := by decide +kernel
theorem l92_65 : (ax_dt (ax_T 92)).lookup 65 = some (.getfield 14, 3, 8, 0, 0) := by decide +kernel
theorem l92_68 : (ax_dt (ax_T 92)).lookup 68 = some (.invokevirtual 63, 3, 52, 0, 0) := by decide +kernel
theorem l92_71 : (ax_dt (ax_T 92)).lookup 71 = some (.ireturn, 1, 0, 0, 0) := by decide +kernel
theorem x92_12 : (ax_dx (ax_T 92)).lookup 12 = some ("java/lang/IllegalStateException", "the tape is full", 53, 55, 57, false) := by decide +kernel
noncomputable def F_X10_feed (v1 : Int) (v2 : Int) (v3 : Int) (v4 : Int) (v5 : Int) (μ : bM) : Option ((Int ⊕ String) × bM) := (F_X6_room 2 μ).bind fun w1 => if 20 ≤ w1 then bMm (F_X6_addHighFirst 2 v1 μ) (fun w3 μ4 => bMm (F_X6_addHighFirst 2 v2 μ4) (fun w6 μ7 => bMm (F_X6_addHighFirst 2 v3 μ7) (fun w9 μ10 => bMm (F_X6_addHighFirst 2 v4 μ10) (fun w12 μ13 => bMm (F_X6_addHighFirst 2 v5 μ13) (fun w15 μ16 => (F_X6_used 2 μ16).bind fun w18 => some (.inl w18, μ16)))))) else some (.inr "java/lang/IllegalStateException", μ)
theorem r_X10_feed {L : Nat} {xs : Nat → Int32} {d : Nat} {μ : bM}  (v1 : Int) (h1 : bR v1) (v2 : Int) (h2 : bR v2) (v3 : Int) (h3 : bR v3) (v4 : Int) (h4 : bR v4) (v5 : Int) (h5 : bR v5) : bD L xs (d + 2) 92 0 [(0, .ref 1), (1, bI v1), (2, bI v2), (3, bI v3), (4, bI v4), (5, bI v5)] [] μ ((F_X10_feed v1 v2 v3 v4 v5 μ).bind (bXc)) := by
  have hr : ∀ r, (bXc) r = (bXc) r := fun _ => rfl
  unfold F_X10_feed
  refine bD.ok fun hk => ?_
  refine b_s (pc' := 1) (lv1 := [(0, .ref 1), (1, bI v1), (2, bI v2), (3, bI v3), (4, bI v4), (5, bI v5)]) (st' := [.ref 1]) l92_0 (fun _ => rfl) ?_
  refine b_gp (q' := 2) (j := 1) l92_1 (by rfl) (by decide) (by decide) rfl hk rfl rfl (b_pc (pc' := 4) rfl ?_)
  refine b_cPi l92_4 rfl (b_rc (ci := 5) (by rfl) (by decide) (by decide +kernel)) (Nat.le_of_ble_eq_true rfl) (Nat.le_of_ble_eq_true rfl) rfl (r_X6_room 2 (by rfl)) fun w1 hw1 => b_pc (pc' := 7) rfl ?_
  refine b_bipush l92_7 (by decide) (b_pc (pc' := 9) rfl ?_)
  refine b_ige (pt := 22) l92_9 hw1 (by decide) (by decide) rfl (fun c2 => ?_) (fun c2 => b_pc (pc' := 12) rfl ?_)
  · refine b_s (pc' := 23) (lv1 := [(0, .ref 1), (1, bI v1), (2, bI v2), (3, bI v3), (4, bI v4), (5, bI v5)]) (st' := [.ref 1]) l92_22 (fun _ => rfl) ?_
    refine b_gp (q' := 2) (j := 1) l92_23 (by rfl) (by decide) (by decide) rfl hk rfl rfl (b_pc (pc' := 26) rfl ?_)
    refine b_s (pc' := 27) (lv1 := [(0, .ref 1), (1, bI v1), (2, bI v2), (3, bI v3), (4, bI v4), (5, bI v5)]) (st' := [bI v1, .ref 2]) l92_26 (fun _ => rfl) ?_
    refine b_cMv l92_27 rfl (b_rc (ci := 5) (by rfl) (by decide) (by decide +kernel)) (Nat.le_of_ble_eq_true rfl) (Nat.le_of_ble_eq_true rfl) rfl (r_X6_addHighFirst 2 (by rfl) v1 h1) fun w3 μ4 hw3 => bD.ok fun hk5 => b_pc (pc' := 30) rfl ?_
    refine b_s (pc' := 31) (lv1 := [(0, .ref 1), (1, bI v1), (2, bI v2), (3, bI v3), (4, bI v4), (5, bI v5)]) (st' := [.ref 1]) l92_30 (fun _ => rfl) ?_
    refine b_gp (q' := 2) (j := 1) l92_31 (by rfl) (by decide) (by decide) rfl hk5 rfl rfl (b_pc (pc' := 34) rfl ?_)
    refine b_s (pc' := 35) (lv1 := [(0, .ref 1), (1, bI v1), (2, bI v2), (3, bI v3), (4, bI v4), (5, bI v5)]) (st' := [bI v2, .ref 2]) l92_34 (fun _ => rfl) ?_
    refine b_cMv l92_35 rfl (b_rc (ci := 5) (by rfl) (by decide) (by decide +kernel)) (Nat.le_of_ble_eq_true rfl) (Nat.le_of_ble_eq_true rfl) rfl (r_X6_addHighFirst 2 (by rfl) v2 h2) fun w6 μ7 hw6 => bD.ok fun hk8 => b_pc (pc' := 38) rfl ?_
    refine b_s (pc' := 39) (lv1 := [(0, .ref 1), (1, bI v1), (2, bI v2), (3, bI v3), (4, bI v4), (5, bI v5)]) (st' := [.ref 1]) l92_38 (fun _ => rfl) ?_
    refine b_gp (q' := 2) (j := 1) l92_39 (by rfl) (by decide) (by decide) rfl hk8 rfl rfl (b_pc (pc' := 42) rfl ?_)
    refine b_s (pc' := 43) (lv1 := [(0, .ref 1), (1, bI v1), (2, bI v2), (3, bI v3), (4, bI v4), (5, bI v5)]) (st' := [bI v3, .ref 2]) l92_42 (fun _ => rfl) ?_
    refine b_cMv l92_43 rfl (b_rc (ci := 5) (by rfl) (by decide) (by decide +kernel)) (Nat.le_of_ble_eq_true rfl) (Nat.le_of_ble_eq_true rfl) rfl (r_X6_addHighFirst 2 (by rfl) v3 h3) fun w9 μ10 hw9 => bD.ok fun hk11 => b_pc (pc' := 46) rfl ?_
    refine b_s (pc' := 47) (lv1 := [(0, .ref 1), (1, bI v1), (2, bI v2), (3, bI v3), (4, bI v4), (5, bI v5)]) (st' := [.ref 1]) l92_46 (fun _ => rfl) ?_
    refine b_gp (q' := 2) (j := 1) l92_47 (by rfl) (by decide) (by decide) rfl hk11 rfl rfl (b_pc (pc' := 50) rfl ?_)
    refine b_s (pc' := 52) (lv1 := [(0, .ref 1), (1, bI v1), (2, bI v2), (3, bI v3), (4, bI v4), (5, bI v5)]) (st' := [bI v4, .ref 2]) l92_50 (fun _ => rfl) ?_
    refine b_cMv l92_52 rfl (b_rc (ci := 5) (by rfl) (by decide) (by decide +kernel)) (Nat.le_of_ble_eq_true rfl) (Nat.le_of_ble_eq_true rfl) rfl (r_X6_addHighFirst 2 (by rfl) v4 h4) fun w12 μ13 hw12 => bD.ok fun hk14 => b_pc (pc' := 55) rfl ?_
    refine b_s (pc' := 56) (lv1 := [(0, .ref 1), (1, bI v1), (2, bI v2), (3, bI v3), (4, bI v4), (5, bI v5)]) (st' := [.ref 1]) l92_55 (fun _ => rfl) ?_
    refine b_gp (q' := 2) (j := 1) l92_56 (by rfl) (by decide) (by decide) rfl hk14 rfl rfl (b_pc (pc' := 59) rfl ?_)
    refine b_s (pc' := 61) (lv1 := [(0, .ref 1), (1, bI v1), (2, bI v2), (3, bI v3), (4, bI v4), (5, bI v5)]) (st' := [bI v5, .ref 2]) l92_59 (fun _ => rfl) ?_
    refine b_cMv l92_61 rfl (b_rc (ci := 5) (by rfl) (by decide) (by decide +kernel)) (Nat.le_of_ble_eq_true rfl) (Nat.le_of_ble_eq_true rfl) rfl (r_X6_addHighFirst 2 (by rfl) v5 h5) fun w15 μ16 hw15 => bD.ok fun hk17 => b_pc (pc' := 64) rfl ?_
    refine b_s (pc' := 65) (lv1 := [(0, .ref 1), (1, bI v1), (2, bI v2), (3, bI v3), (4, bI v4), (5, bI v5)]) (st' := [.ref 1]) l92_64 (fun _ => rfl) ?_
    refine b_gp (q' := 2) (j := 1) l92_65 (by rfl) (by decide) (by decide) rfl hk17 rfl rfl (b_pc (pc' := 68) rfl ?_)
    refine b_cPi l92_68 rfl (b_rc (ci := 5) (by rfl) (by decide) (by decide +kernel)) (Nat.le_of_ble_eq_true rfl) (Nat.le_of_ble_eq_true rfl) rfl (r_X6_used 2 (by rfl)) fun w18 hw18 => b_pc (pc' := 71) rfl ?_
    exact b_reti l92_71 rfl hw18 (hr _)
  · exact b_thr x92_12 (by decide) (Nat.le_of_ble_eq_true rfl) (hr _)
/-! ET.end -/
theorem l93_0 : (ax_dt (ax_T 93)).lookup 0 = some (.iload_n 1, 1, 0, 0, 0) := by decide +kernel
theorem l93_1 : (ax_dt (ax_T 93)).lookup 1 = some (.ifCond .lt 14, 3, 0, 0, 0) := by decide +kernel
theorem l93_4 : (ax_dt (ax_T 93)).lookup 4 = some (.iload_n 1, 1, 0, 0, 0) := by decide +kernel
theorem l93_5 : (ax_dt (ax_T 93)).lookup 5 = some (.aload_n 0, 1, 0, 0, 0) := by decide +kernel
theorem l93_6 : (ax_dt (ax_T 93)).lookup 6 = some (.getfield 14, 3, 8, 0, 0) := by decide +kernel
theorem l93_9 : (ax_dt (ax_T 93)).lookup 9 = some (.invokevirtual 63, 3, 52, 0, 0) := by decide +kernel
theorem l93_12 : (ax_dt (ax_T 93)).lookup 12 = some (.if_icmp .le 13, 3, 0, 0, 0) := by decide +kernel
theorem l93_25 : (ax_dt (ax_T 93)).lookup 25 = some (.aload_n 0, 1, 0, 0, 0) := by decide +kernel
theorem l93_26 : (ax_dt (ax_T 93)).lookup 26 = some (.getfield 14, 3, 8, 0, 0) := by decide +kernel
theorem l93_29 : (ax_dt (ax_T 93)).lookup 29 = some (.iload_n 1, 1, 0, 0, 0) := by decide +kernel
theorem l93_30 : (ax_dt (ax_T 93)).lookup 30 = some (.invokevirtual 71, 3, 57, 1, 0) := by decide +kernel
theorem l93_33 : (ax_dt (ax_T 93)).lookup 33 = some (.return_, 1, 0, 0, 0) := by decide +kernel
theorem x93_15 : (ax_dx (ax_T 93)).lookup 15 = some ("java/lang/IllegalArgumentException", "the tape has no such end", 66, 68, 70, false) := by decide +kernel
noncomputable def F_X10_end (v1 : Int) (μ : bM) : Option ((Int ⊕ String) × bM) := if v1 < 0 then some (.inr "java/lang/IllegalArgumentException", μ) else (F_X6_used 2 μ).bind fun w2 => if v1 ≤ w2 then bMm (F_X6_cut 2 v1 μ) (fun w4 μ5 => some (.inl 0, μ5)) else some (.inr "java/lang/IllegalArgumentException", μ)
theorem r_X10_end {L : Nat} {xs : Nat → Int32} {d : Nat} {μ : bM}  (v1 : Int) (h1 : bR v1) : bD L xs (d + 1) 93 0 [(0, .ref 1), (1, bI v1)] [] μ ((F_X10_end v1 μ).bind (bXc)) := by
  have hr : ∀ r, (bXc) r = (bXc) r := fun _ => rfl
  unfold F_X10_end
  refine bD.ok fun hk => ?_
  refine b_s (pc' := 1) (lv1 := [(0, .ref 1), (1, bI v1)]) (st' := [bI v1]) l93_0 (fun _ => rfl) ?_
  refine b_zlt (pt := 15) l93_1 h1 (by decide) rfl (fun c1 => ?_) (fun c1 => b_pc (pc' := 4) rfl ?_)
  · exact b_thr x93_15 (by decide) (Nat.le_of_ble_eq_true rfl) (hr _)
  · refine b_s (pc' := 5) (lv1 := [(0, .ref 1), (1, bI v1)]) (st' := [bI v1]) l93_4 (fun _ => rfl) ?_
    refine b_s (pc' := 6) (lv1 := [(0, .ref 1), (1, bI v1)]) (st' := [.ref 1, bI v1]) l93_5 (fun _ => rfl) ?_
    refine b_gp (q' := 2) (j := 1) l93_6 (by rfl) (by decide) (by decide) rfl hk rfl rfl (b_pc (pc' := 9) rfl ?_)
    refine b_cPi l93_9 rfl (b_rc (ci := 5) (by rfl) (by decide) (by decide +kernel)) (Nat.le_of_ble_eq_true rfl) (Nat.le_of_ble_eq_true rfl) rfl (r_X6_used 2 (by rfl)) fun w2 hw2 => b_pc (pc' := 12) rfl ?_
    refine b_ile (pt := 25) l93_12 h1 hw2 (by decide) rfl (fun c3 => ?_) (fun c3 => b_pc (pc' := 15) rfl ?_)
    · refine b_s (pc' := 26) (lv1 := [(0, .ref 1), (1, bI v1)]) (st' := [.ref 1]) l93_25 (fun _ => rfl) ?_
      refine b_gp (q' := 2) (j := 1) l93_26 (by rfl) (by decide) (by decide) rfl hk rfl rfl (b_pc (pc' := 29) rfl ?_)
      refine b_s (pc' := 30) (lv1 := [(0, .ref 1), (1, bI v1)]) (st' := [bI v1, .ref 2]) l93_29 (fun _ => rfl) ?_
      refine b_cMv l93_30 rfl (b_rc (ci := 5) (by rfl) (by decide) (by decide +kernel)) (Nat.le_of_ble_eq_true rfl) (Nat.le_of_ble_eq_true rfl) rfl (r_X6_cut 2 (by rfl) v1 h1) fun w4 μ5 hw4 => bD.ok fun hk6 => b_pc (pc' := 33) rfl ?_
      exact b_retv l93_33 rfl (hr _)
    · exact b_thr x93_15 (by decide) (Nat.le_of_ble_eq_true rfl) (hr _)
/-! ET.needCode -/
theorem l117_0 : (ax_dt (ax_T 117)).lookup 0 = some (.iload_n 1, 1, 0, 0, 0) := by decide +kernel
theorem l117_1 : (ax_dt (ax_T 117)).lookup 1 = some (.invokestatic 301, 3, 130, 1, 0) := by decide +kernel
theorem l117_4 : (ax_dt (ax_T 117)).lookup 4 = some (.ifCond .ne 14, 3, 0, 0, 0) := by decide +kernel
theorem l117_18 : (ax_dt (ax_T 117)).lookup 18 = some (.return_, 1, 0, 0, 0) := by decide +kernel
theorem x117_7 : (ax_dx (ax_T 117)).lookup 7 = some ("java/lang/IllegalArgumentException", "no tag or name", 66, 304, 70, true) := by decide +kernel
noncomputable def F_X10_needCode (v1 : Int) (μ : bM) : Option ((Int ⊕ String) × bM) := (F_X10_isCode v1 μ).bind fun w1 => if ¬ w1 = 0 then some (.inl 0, μ) else some (.inr "java/lang/IllegalArgumentException", μ)
theorem r_X10_needCode {L : Nat} {xs : Nat → Int32} {d : Nat} {μ : bM}  (v1 : Int) (h1 : bR v1) : bD L xs (d + 1) 117 0 [(0, .ref 1), (1, bI v1)] [] μ ((F_X10_needCode v1 μ).bind (bXc)) := by
  have hr : ∀ r, (bXc) r = (bXc) r := fun _ => rfl
  unfold F_X10_needCode
  refine bD.ok fun hk => ?_
  refine b_s (pc' := 1) (lv1 := [(0, .ref 1), (1, bI v1)]) (st' := [bI v1]) l117_0 (fun _ => rfl) ?_
  refine b_cPz l117_1 rfl (fun _ => trivial) (Nat.le_of_ble_eq_true rfl) (Nat.le_of_ble_eq_true rfl) rfl (r_X10_isCode v1 h1) fun w1 hw1 => b_pc (pc' := 4) rfl ?_
  refine b_zne (pt := 18) l117_4 (bZ_R hw1) (by decide) rfl (fun c2 => ?_) (fun c2 => b_pc (pc' := 7) rfl ?_)
  · exact b_retv l117_18 rfl (hr _)
  · exact b_thr x117_7 (by decide) (Nat.le_of_ble_eq_true rfl) (hr _)
/-! ET.unit -/
theorem l94_0 : (ax_dt (ax_T 94)).lookup 0 = some (.aload_n 0, 1, 0, 0, 0) := by decide +kernel
theorem l94_1 : (ax_dt (ax_T 94)).lookup 1 = some (.iload_n 1, 1, 0, 0, 0) := by decide +kernel
theorem l94_2 : (ax_dt (ax_T 94)).lookup 2 = some (.invokevirtual 74, 3, 117, 1, 0) := by decide +kernel
theorem l94_5 : (ax_dt (ax_T 94)).lookup 5 = some (.aload_n 0, 1, 0, 0, 0) := by decide +kernel
theorem l94_6 : (ax_dt (ax_T 94)).lookup 6 = some (.getfield 45, 3, 8, 5, 0) := by decide +kernel
theorem l94_9 : (ax_dt (ax_T 94)).lookup 9 = some (.getfield 77, 3, 7, 0, 0) := by decide +kernel
theorem l94_12 : (ax_dt (ax_T 94)).lookup 12 = some (.bipush 6, 2, 0, 0, 0) := by decide +kernel
theorem l94_14 : (ax_dt (ax_T 94)).lookup 14 = some (.if_icmp .eq 16, 3, 0, 0, 0) := by decide +kernel
theorem l94_17 : (ax_dt (ax_T 94)).lookup 17 = some (.aload_n 0, 1, 0, 0, 0) := by decide +kernel
theorem l94_18 : (ax_dt (ax_T 94)).lookup 18 = some (.getfield 45, 3, 8, 5, 0) := by decide +kernel
theorem l94_21 : (ax_dt (ax_T 94)).lookup 21 = some (.getfield 81, 3, 7, 1, 0) := by decide +kernel
theorem l94_24 : (ax_dt (ax_T 94)).lookup 24 = some (.sipush 400, 3, 0, 0, 0) := by decide +kernel
theorem l94_27 : (ax_dt (ax_T 94)).lookup 27 = some (.if_icmp .ne 13, 3, 0, 0, 0) := by decide +kernel
theorem l94_40 : (ax_dt (ax_T 94)).lookup 40 = some (.aload_n 0, 1, 0, 0, 0) := by decide +kernel
theorem l94_41 : (ax_dt (ax_T 94)).lookup 41 = some (.getfield 31, 3, 8, 3, 0) := by decide +kernel
theorem l94_44 : (ax_dt (ax_T 94)).lookup 44 = some (.invokevirtual 89, 3, 23, 0, 0) := by decide +kernel
theorem l94_47 : (ax_dt (ax_T 94)).lookup 47 = some (.aload_n 0, 1, 0, 0, 0) := by decide +kernel
theorem l94_48 : (ax_dt (ax_T 94)).lookup 48 = some (.getfield 45, 3, 8, 5, 0) := by decide +kernel
theorem l94_51 : (ax_dt (ax_T 94)).lookup 51 = some (.iload_n 1, 1, 0, 0, 0) := by decide +kernel
theorem l94_52 : (ax_dt (ax_T 94)).lookup 52 = some (.invokevirtual 92, 3, 79, 1, 0) := by decide +kernel
theorem l94_55 : (ax_dt (ax_T 94)).lookup 55 = some (.ireturn, 1, 0, 0, 0) := by decide +kernel
theorem x94_30 : (ax_dx (ax_T 94)).lookup 30 = some ("java/lang/UnsupportedOperationException", "no room for a unit", 84, 86, 88, false) := by decide +kernel
noncomputable def F_X10_unit (v1 : Int) (μ : bM) : Option ((Int ⊕ String) × bM) := bXm (F_X10_needCode v1 μ) (fun w1 μ2 => if (μ2 (μ2 1 5).toNat 0) = 6 then some (.inr "java/lang/UnsupportedOperationException", μ2) else if ¬ (μ2 (μ2 1 5).toNat 1) = 400 then bMm (F_X3_forget μ2) (fun w6 μ7 => bMm (F_X8_addRoot (μ7 1 5).toNat v1 μ7) (fun w9 μ10 => some (.inl w9, μ10))) else some (.inr "java/lang/UnsupportedOperationException", μ2)) (fun e μ => some (.inr e, μ))
theorem r_X10_unit {L : Nat} {xs : Nat → Int32} {d : Nat} {μ : bM}  (v1 : Int) (h1 : bR v1) : bD L xs (d + 2) 94 0 [(0, .ref 1), (1, bI v1)] [] μ ((F_X10_unit v1 μ).bind (bXc)) := by
  have hr : ∀ r, (bXc) r = (bXc) r := fun _ => rfl
  unfold F_X10_unit
  refine bD.ok fun hk => ?_
  refine b_s (pc' := 1) (lv1 := [(0, .ref 1), (1, bI v1)]) (st' := [.ref 1]) l94_0 (fun _ => rfl) ?_
  refine b_s (pc' := 2) (lv1 := [(0, .ref 1), (1, bI v1)]) (st' := [bI v1, .ref 1]) l94_1 (fun _ => rfl) ?_
  refine b_cXv l94_2 rfl (b_rc (ci := 8) (by rfl) (by decide) (by decide +kernel)) (Nat.le_of_ble_eq_true rfl) (Nat.le_of_ble_eq_true rfl) rfl (r_X10_needCode v1 h1) ⟨fun _ z => (by cases z), (by decide +kernel)⟩ rfl (fun _ _ => hr _) fun w1 μ2 hw1 => bD.ok fun hk3 => b_pc (pc' := 5) rfl ?_
  refine b_s (pc' := 6) (lv1 := [(0, .ref 1), (1, bI v1)]) (st' := [.ref 1]) l94_5 (fun _ => rfl) ?_
  refine b_gr l94_6 (by rfl) (by decide) (by decide) rfl (b_pc (pc' := 9) rfl ?_)
  refine b_gi l94_9 (bO_ft hk3 (ci := 8) (by rfl) rfl) (by decide) (by decide) rfl (b_pc (pc' := 12) rfl ?_)
  refine b_bipush l94_12 (by decide) (b_pc (pc' := 14) rfl ?_)
  refine b_ieq (pt := 30) l94_14 (bO_f hk3 (ci := 7) (bO_ft hk3 (ci := 8) (by rfl) rfl) rfl) (by decide) (by decide) rfl (fun c4 => ?_) (fun c4 => b_pc (pc' := 17) rfl ?_)
  · exact b_thr x94_30 (by decide) (Nat.le_of_ble_eq_true rfl) (hr _)
  · refine b_s (pc' := 18) (lv1 := [(0, .ref 1), (1, bI v1)]) (st' := [.ref 1]) l94_17 (fun _ => rfl) ?_
    refine b_gr l94_18 (by rfl) (by decide) (by decide) rfl (b_pc (pc' := 21) rfl ?_)
    refine b_gi l94_21 (bO_ft hk3 (ci := 8) (by rfl) rfl) (by decide) (by decide) rfl (b_pc (pc' := 24) rfl ?_)
    refine b_sipush l94_24 (by decide) (b_pc (pc' := 27) rfl ?_)
    refine b_ine (pt := 40) l94_27 (bO_f hk3 (ci := 7) (bO_ft hk3 (ci := 8) (by rfl) rfl) rfl) (by decide) (by decide) rfl (fun c5 => ?_) (fun c5 => b_pc (pc' := 30) rfl ?_)
    · refine b_s (pc' := 41) (lv1 := [(0, .ref 1), (1, bI v1)]) (st' := [.ref 1]) l94_40 (fun _ => rfl) ?_
      refine b_gp (q' := 13) (j := 12) l94_41 (by rfl) (by decide) (by decide) rfl hk3 rfl rfl (b_pc (pc' := 44) rfl ?_)
      refine b_cMv l94_44 rfl (b_rc (ci := 2) (by rfl) (by decide) (by decide +kernel)) (Nat.le_of_ble_eq_true rfl) (Nat.le_of_ble_eq_true rfl) rfl (r_X3_forget ) fun w6 μ7 hw6 => bD.ok fun hk8 => b_pc (pc' := 47) rfl ?_
      refine b_s (pc' := 48) (lv1 := [(0, .ref 1), (1, bI v1)]) (st' := [.ref 1]) l94_47 (fun _ => rfl) ?_
      refine b_gr l94_48 (by rfl) (by decide) (by decide) rfl (b_pc (pc' := 51) rfl ?_)
      refine b_s (pc' := 52) (lv1 := [(0, .ref 1), (1, bI v1)]) (st' := [bI v1, .ref (μ7 1 5).toNat]) l94_51 (fun _ => rfl) ?_
      refine b_cMi l94_52 rfl (b_rc (ci := 7) (bO_ft hk8 (ci := 8) (by rfl) rfl) (by decide) (by decide +kernel)) (Nat.le_of_ble_eq_true rfl) (Nat.le_of_ble_eq_true rfl) rfl (r_X8_addRoot (μ7 1 5).toNat (bO_ft hk8 (ci := 8) (by rfl) rfl) v1 h1) fun w9 μ10 hw9 => bD.ok fun hk11 => b_pc (pc' := 55) rfl ?_
      exact b_reti l94_55 rfl hw9 (hr _)
    · exact b_thr x94_30 (by decide) (Nat.le_of_ble_eq_true rfl) (hr _)
/-! ET.needEntry -/
theorem l116_0 : (ax_dt (ax_T 116)).lookup 0 = some (.iload_n 1, 1, 0, 0, 0) := by decide +kernel
theorem l116_1 : (ax_dt (ax_T 116)).lookup 1 = some (.ifCond .lt 14, 3, 0, 0, 0) := by decide +kernel
theorem l116_4 : (ax_dt (ax_T 116)).lookup 4 = some (.iload_n 1, 1, 0, 0, 0) := by decide +kernel
theorem l116_5 : (ax_dt (ax_T 116)).lookup 5 = some (.aload_n 0, 1, 0, 0, 0) := by decide +kernel
theorem l116_6 : (ax_dt (ax_T 116)).lookup 6 = some (.getfield 45, 3, 8, 5, 0) := by decide +kernel
theorem l116_9 : (ax_dt (ax_T 116)).lookup 9 = some (.getfield 81, 3, 7, 1, 0) := by decide +kernel
theorem l116_12 : (ax_dt (ax_T 116)).lookup 12 = some (.if_icmp .lt 14, 3, 0, 0, 0) := by decide +kernel
theorem l116_26 : (ax_dt (ax_T 116)).lookup 26 = some (.return_, 1, 0, 0, 0) := by decide +kernel
theorem x116_15 : (ax_dx (ax_T 116)).lookup 15 = some ("java/lang/IndexOutOfBoundsException", "no such entry", 222, 299, 226, true) := by decide +kernel
noncomputable def F_X10_needEntry (v1 : Int) (μ : bM) : Option ((Int ⊕ String) × bM) := if v1 < 0 then some (.inr "java/lang/IndexOutOfBoundsException", μ) else if v1 < (μ (μ 1 5).toNat 1) then some (.inl 0, μ) else some (.inr "java/lang/IndexOutOfBoundsException", μ)
theorem r_X10_needEntry {L : Nat} {xs : Nat → Int32} {d : Nat} {μ : bM}  (v1 : Int) (h1 : bR v1) : bD L xs (d + 0) 116 0 [(0, .ref 1), (1, bI v1)] [] μ ((F_X10_needEntry v1 μ).bind (bXc)) := by
  have hr : ∀ r, (bXc) r = (bXc) r := fun _ => rfl
  unfold F_X10_needEntry
  refine bD.ok fun hk => ?_
  refine b_s (pc' := 1) (lv1 := [(0, .ref 1), (1, bI v1)]) (st' := [bI v1]) l116_0 (fun _ => rfl) ?_
  refine b_zlt (pt := 15) l116_1 h1 (by decide) rfl (fun c1 => ?_) (fun c1 => b_pc (pc' := 4) rfl ?_)
  · exact b_thr x116_15 (by decide) (Nat.le_of_ble_eq_true rfl) (hr _)
  · refine b_s (pc' := 5) (lv1 := [(0, .ref 1), (1, bI v1)]) (st' := [bI v1]) l116_4 (fun _ => rfl) ?_
    refine b_s (pc' := 6) (lv1 := [(0, .ref 1), (1, bI v1)]) (st' := [.ref 1, bI v1]) l116_5 (fun _ => rfl) ?_
    refine b_gr l116_6 (by rfl) (by decide) (by decide) rfl (b_pc (pc' := 9) rfl ?_)
    refine b_gi l116_9 (bO_ft hk (ci := 8) (by rfl) rfl) (by decide) (by decide) rfl (b_pc (pc' := 12) rfl ?_)
    refine b_ilt (pt := 26) l116_12 h1 (bO_f hk (ci := 7) (bO_ft hk (ci := 8) (by rfl) rfl) rfl) (by decide) rfl (fun c2 => ?_) (fun c2 => b_pc (pc' := 15) rfl ?_)
    · exact b_retv l116_26 rfl (hr _)
    · exact b_thr x116_15 (by decide) (Nat.le_of_ble_eq_true rfl) (hr _)
/-! ET.entry -/
theorem l95_0 : (ax_dt (ax_T 95)).lookup 0 = some (.aload_n 0, 1, 0, 0, 0) := by decide +kernel
theorem l95_1 : (ax_dt (ax_T 95)).lookup 1 = some (.iload_n 1, 1, 0, 0, 0) := by decide +kernel
theorem l95_2 : (ax_dt (ax_T 95)).lookup 2 = some (.invokevirtual 96, 3, 116, 1, 0) := by decide +kernel
theorem l95_5 : (ax_dt (ax_T 95)).lookup 5 = some (.aload_n 0, 1, 0, 0, 0) := by decide +kernel
theorem l95_6 : (ax_dt (ax_T 95)).lookup 6 = some (.iload_n 2, 1, 0, 0, 0) := by decide +kernel
theorem l95_7 : (ax_dt (ax_T 95)).lookup 7 = some (.invokevirtual 74, 3, 117, 1, 0) := by decide +kernel
theorem l95_10 : (ax_dt (ax_T 95)).lookup 10 = some (.aload_n 0, 1, 0, 0, 0) := by decide +kernel
theorem l95_11 : (ax_dt (ax_T 95)).lookup 11 = some (.getfield 45, 3, 8, 5, 0) := by decide +kernel
theorem l95_14 : (ax_dt (ax_T 95)).lookup 14 = some (.getfield 81, 3, 7, 1, 0) := by decide +kernel
theorem l95_17 : (ax_dt (ax_T 95)).lookup 17 = some (.sipush 400, 3, 0, 0, 0) := by decide +kernel
theorem l95_20 : (ax_dt (ax_T 95)).lookup 20 = some (.if_icmp .eq 17, 3, 0, 0, 0) := by decide +kernel
theorem l95_23 : (ax_dt (ax_T 95)).lookup 23 = some (.aload_n 0, 1, 0, 0, 0) := by decide +kernel
theorem l95_24 : (ax_dt (ax_T 95)).lookup 24 = some (.getfield 45, 3, 8, 5, 0) := by decide +kernel
theorem l95_27 : (ax_dt (ax_T 95)).lookup 27 = some (.getfield 99, 3, 7, 6, 0) := by decide +kernel
theorem l95_30 : (ax_dt (ax_T 95)).lookup 30 = some (.iload_n 1, 1, 0, 0, 0) := by decide +kernel
theorem l95_31 : (ax_dt (ax_T 95)).lookup 31 = some (.iaload, 1, 0, 0, 0) := by decide +kernel
theorem l95_32 : (ax_dt (ax_T 95)).lookup 32 = some (.bipush 30, 2, 0, 0, 0) := by decide +kernel
theorem l95_34 : (ax_dt (ax_T 95)).lookup 34 = some (.if_icmp .ne 13, 3, 0, 0, 0) := by decide +kernel
theorem l95_47 : (ax_dt (ax_T 95)).lookup 47 = some (.aload_n 0, 1, 0, 0, 0) := by decide +kernel
theorem l95_48 : (ax_dt (ax_T 95)).lookup 48 = some (.getfield 31, 3, 8, 3, 0) := by decide +kernel
theorem l95_51 : (ax_dt (ax_T 95)).lookup 51 = some (.invokevirtual 89, 3, 23, 0, 0) := by decide +kernel
theorem l95_54 : (ax_dt (ax_T 95)).lookup 54 = some (.aload_n 0, 1, 0, 0, 0) := by decide +kernel
theorem l95_55 : (ax_dt (ax_T 95)).lookup 55 = some (.getfield 45, 3, 8, 5, 0) := by decide +kernel
theorem l95_58 : (ax_dt (ax_T 95)).lookup 58 = some (.iload_n 1, 1, 0, 0, 0) := by decide +kernel
theorem l95_59 : (ax_dt (ax_T 95)).lookup 59 = some (.iload_n 2, 1, 0, 0, 0) := by decide +kernel
theorem l95_60 : (ax_dt (ax_T 95)).lookup 60 = some (.invokevirtual 105, 3, 80, 2, 0) := by decide +kernel
theorem l95_63 : (ax_dt (ax_T 95)).lookup 63 = some (.ireturn, 1, 0, 0, 0) := by decide +kernel
theorem x95_37 : (ax_dx (ax_T 95)).lookup 37 = some ("java/lang/UnsupportedOperationException", "no room for an entry", 84, 103, 88, false) := by decide +kernel
noncomputable def F_X10_entry (v1 : Int) (v2 : Int) (μ : bM) : Option ((Int ⊕ String) × bM) := bXm (F_X10_needEntry v1 μ) (fun w1 μ2 => bXm (F_X10_needCode v2 μ2) (fun w4 μ5 => if (μ5 (μ5 1 5).toNat 1) = 400 then some (.inr "java/lang/UnsupportedOperationException", μ5) else bG (0 ≤ v1 ∧ v1 < 400) (if ¬ (μ5 ((μ5 1 5).toNat + 5) v1.toNat) = 30 then bMm (F_X3_forget μ5) (fun w9 μ10 => bMm (F_X8_addChild (μ10 1 5).toNat v1 v2 μ10) (fun w12 μ13 => some (.inl w12, μ13))) else some (.inr "java/lang/UnsupportedOperationException", μ5))) (fun e μ => some (.inr e, μ))) (fun e μ => some (.inr e, μ))
theorem r_X10_entry {L : Nat} {xs : Nat → Int32} {d : Nat} {μ : bM}  (v1 : Int) (h1 : bR v1) (v2 : Int) (h2 : bR v2) : bD L xs (d + 2) 95 0 [(0, .ref 1), (1, bI v1), (2, bI v2)] [] μ ((F_X10_entry v1 v2 μ).bind (bXc)) := by
  have hr : ∀ r, (bXc) r = (bXc) r := fun _ => rfl
  unfold F_X10_entry
  refine bD.ok fun hk => ?_
  refine b_s (pc' := 1) (lv1 := [(0, .ref 1), (1, bI v1), (2, bI v2)]) (st' := [.ref 1]) l95_0 (fun _ => rfl) ?_
  refine b_s (pc' := 2) (lv1 := [(0, .ref 1), (1, bI v1), (2, bI v2)]) (st' := [bI v1, .ref 1]) l95_1 (fun _ => rfl) ?_
  refine b_cXv l95_2 rfl (b_rc (ci := 8) (by rfl) (by decide) (by decide +kernel)) (Nat.le_of_ble_eq_true rfl) (Nat.le_of_ble_eq_true rfl) rfl (r_X10_needEntry v1 h1) ⟨fun _ z => (by cases z), (by decide +kernel)⟩ rfl (fun _ _ => hr _) fun w1 μ2 hw1 => bD.ok fun hk3 => b_pc (pc' := 5) rfl ?_
  refine b_s (pc' := 6) (lv1 := [(0, .ref 1), (1, bI v1), (2, bI v2)]) (st' := [.ref 1]) l95_5 (fun _ => rfl) ?_
  refine b_s (pc' := 7) (lv1 := [(0, .ref 1), (1, bI v1), (2, bI v2)]) (st' := [bI v2, .ref 1]) l95_6 (fun _ => rfl) ?_
  refine b_cXv l95_7 rfl (b_rc (ci := 8) (by rfl) (by decide) (by decide +kernel)) (Nat.le_of_ble_eq_true rfl) (Nat.le_of_ble_eq_true rfl) rfl (r_X10_needCode v2 h2) ⟨fun _ z => (by cases z), (by decide +kernel)⟩ rfl (fun _ _ => hr _) fun w4 μ5 hw4 => bD.ok fun hk6 => b_pc (pc' := 10) rfl ?_
  refine b_s (pc' := 11) (lv1 := [(0, .ref 1), (1, bI v1), (2, bI v2)]) (st' := [.ref 1]) l95_10 (fun _ => rfl) ?_
  refine b_gr l95_11 (by rfl) (by decide) (by decide) rfl (b_pc (pc' := 14) rfl ?_)
  refine b_gi l95_14 (bO_ft hk6 (ci := 8) (by rfl) rfl) (by decide) (by decide) rfl (b_pc (pc' := 17) rfl ?_)
  refine b_sipush l95_17 (by decide) (b_pc (pc' := 20) rfl ?_)
  refine b_ieq (pt := 37) l95_20 (bO_f hk6 (ci := 7) (bO_ft hk6 (ci := 8) (by rfl) rfl) rfl) (by decide) (by decide) rfl (fun c7 => ?_) (fun c7 => b_pc (pc' := 23) rfl ?_)
  · exact b_thr x95_37 (by decide) (Nat.le_of_ble_eq_true rfl) (hr _)
  · refine b_s (pc' := 24) (lv1 := [(0, .ref 1), (1, bI v1), (2, bI v2)]) (st' := [.ref 1]) l95_23 (fun _ => rfl) ?_
    refine b_gr l95_24 (by rfl) (by decide) (by decide) rfl (b_pc (pc' := 27) rfl ?_)
    refine b_gp (q' := ((μ5 1 5).toNat + 5)) (j := 5) l95_27 (bO_ft hk6 (ci := 8) (by rfl) rfl) (by decide) (by decide) rfl hk6 rfl rfl (b_pc (pc' := 30) rfl ?_)
    refine b_s (pc' := 31) (lv1 := [(0, .ref 1), (1, bI v1), (2, bI v2)]) (st' := [bI v1, .ref ((μ5 1 5).toNat + 5)]) l95_30 (fun _ => rfl) ?_
    refine b_g fun g15 => ?_
    refine b_ial l95_31 (bTree_e (bO_ft hk6 (ci := 8) (by rfl) rfl) 5 (by decide)) g15 (b_pc (pc' := 32) rfl ?_)
    refine b_bipush l95_32 (by decide) (b_pc (pc' := 34) rfl ?_)
    refine b_ine (pt := 47) l95_34 (bO_i hk6 (bTree_e (bO_ft hk6 (ci := 8) (by rfl) rfl) 5 (by decide))) (by decide) (by decide) rfl (fun c8 => ?_) (fun c8 => b_pc (pc' := 37) rfl ?_)
    · refine b_s (pc' := 48) (lv1 := [(0, .ref 1), (1, bI v1), (2, bI v2)]) (st' := [.ref 1]) l95_47 (fun _ => rfl) ?_
      refine b_gp (q' := 13) (j := 12) l95_48 (by rfl) (by decide) (by decide) rfl hk6 rfl rfl (b_pc (pc' := 51) rfl ?_)
      refine b_cMv l95_51 rfl (b_rc (ci := 2) (by rfl) (by decide) (by decide +kernel)) (Nat.le_of_ble_eq_true rfl) (Nat.le_of_ble_eq_true rfl) rfl (r_X3_forget ) fun w9 μ10 hw9 => bD.ok fun hk11 => b_pc (pc' := 54) rfl ?_
      refine b_s (pc' := 55) (lv1 := [(0, .ref 1), (1, bI v1), (2, bI v2)]) (st' := [.ref 1]) l95_54 (fun _ => rfl) ?_
      refine b_gr l95_55 (by rfl) (by decide) (by decide) rfl (b_pc (pc' := 58) rfl ?_)
      refine b_s (pc' := 59) (lv1 := [(0, .ref 1), (1, bI v1), (2, bI v2)]) (st' := [bI v1, .ref (μ10 1 5).toNat]) l95_58 (fun _ => rfl) ?_
      refine b_s (pc' := 60) (lv1 := [(0, .ref 1), (1, bI v1), (2, bI v2)]) (st' := [bI v2, bI v1, .ref (μ10 1 5).toNat]) l95_59 (fun _ => rfl) ?_
      refine b_cMi l95_60 rfl (b_rc (ci := 7) (bO_ft hk11 (ci := 8) (by rfl) rfl) (by decide) (by decide +kernel)) (Nat.le_of_ble_eq_true rfl) (Nat.le_of_ble_eq_true rfl) rfl (r_X8_addChild (μ10 1 5).toNat (bO_ft hk11 (ci := 8) (by rfl) rfl) v1 h1 v2 h2) fun w12 μ13 hw12 => bD.ok fun hk14 => b_pc (pc' := 63) rfl ?_
      exact b_reti l95_63 rfl hw12 (hr _)
    · exact b_thr x95_37 (by decide) (Nat.le_of_ble_eq_true rfl) (hr _)
/-! ET.needNewName -/
theorem l118_0 : (ax_dt (ax_T 118)).lookup 0 = some (.aload_n 0, 1, 0, 0, 0) := by decide +kernel
theorem l118_1 : (ax_dt (ax_T 118)).lookup 1 = some (.iload_n 2, 1, 0, 0, 0) := by decide +kernel
theorem l118_2 : (ax_dt (ax_T 118)).lookup 2 = some (.invokevirtual 74, 3, 117, 1, 0) := by decide +kernel
theorem l118_5 : (ax_dt (ax_T 118)).lookup 5 = some (.aload_n 0, 1, 0, 0, 0) := by decide +kernel
theorem l118_6 : (ax_dt (ax_T 118)).lookup 6 = some (.getfield 45, 3, 8, 5, 0) := by decide +kernel
theorem l118_9 : (ax_dt (ax_T 118)).lookup 9 = some (.iload_n 1, 1, 0, 0, 0) := by decide +kernel
theorem l118_10 : (ax_dt (ax_T 118)).lookup 10 = some (.iload_n 2, 1, 0, 0, 0) := by decide +kernel
theorem l118_11 : (ax_dt (ax_T 118)).lookup 11 = some (.invokevirtual 306, 3, 83, 2, 0) := by decide +kernel
theorem l118_14 : (ax_dt (ax_T 118)).lookup 14 = some (.iconst (-1), 1, 0, 0, 0) := by decide +kernel
theorem l118_15 : (ax_dt (ax_T 118)).lookup 15 = some (.if_icmp .eq 14, 3, 0, 0, 0) := by decide +kernel
theorem l118_29 : (ax_dt (ax_T 118)).lookup 29 = some (.return_, 1, 0, 0, 0) := by decide +kernel
theorem x118_18 : (ax_dx (ax_T 118)).lookup 18 = some ("java/lang/IllegalArgumentException", "the name is told", 66, 309, 70, true) := by decide +kernel
noncomputable def F_X10_needNewName (v1 : Int) (v2 : Int) (μ : bM) : Option ((Int ⊕ String) × bM) := bXm (F_X10_needCode v2 μ) (fun w1 μ2 => (F_X8_slotOf (μ2 1 5).toNat v1 v2 μ2).bind fun w4 => if w4 = (-1) then some (.inl 0, μ2) else some (.inr "java/lang/IllegalArgumentException", μ2)) (fun e μ => some (.inr e, μ))
theorem r_X10_needNewName {L : Nat} {xs : Nat → Int32} {d : Nat} {μ : bM}  (v1 : Int) (h1 : bR v1) (v2 : Int) (h2 : bR v2) : bD L xs (d + 2) 118 0 [(0, .ref 1), (1, bI v1), (2, bI v2)] [] μ ((F_X10_needNewName v1 v2 μ).bind (bXc)) := by
  have hr : ∀ r, (bXc) r = (bXc) r := fun _ => rfl
  unfold F_X10_needNewName
  refine bD.ok fun hk => ?_
  refine b_s (pc' := 1) (lv1 := [(0, .ref 1), (1, bI v1), (2, bI v2)]) (st' := [.ref 1]) l118_0 (fun _ => rfl) ?_
  refine b_s (pc' := 2) (lv1 := [(0, .ref 1), (1, bI v1), (2, bI v2)]) (st' := [bI v2, .ref 1]) l118_1 (fun _ => rfl) ?_
  refine b_cXv l118_2 rfl (b_rc (ci := 8) (by rfl) (by decide) (by decide +kernel)) (Nat.le_of_ble_eq_true rfl) (Nat.le_of_ble_eq_true rfl) rfl (r_X10_needCode v2 h2) ⟨fun _ z => (by cases z), (by decide +kernel)⟩ rfl (fun _ _ => hr _) fun w1 μ2 hw1 => bD.ok fun hk3 => b_pc (pc' := 5) rfl ?_
  refine b_s (pc' := 6) (lv1 := [(0, .ref 1), (1, bI v1), (2, bI v2)]) (st' := [.ref 1]) l118_5 (fun _ => rfl) ?_
  refine b_gr l118_6 (by rfl) (by decide) (by decide) rfl (b_pc (pc' := 9) rfl ?_)
  refine b_s (pc' := 10) (lv1 := [(0, .ref 1), (1, bI v1), (2, bI v2)]) (st' := [bI v1, .ref (μ2 1 5).toNat]) l118_9 (fun _ => rfl) ?_
  refine b_s (pc' := 11) (lv1 := [(0, .ref 1), (1, bI v1), (2, bI v2)]) (st' := [bI v2, bI v1, .ref (μ2 1 5).toNat]) l118_10 (fun _ => rfl) ?_
  refine b_cPi l118_11 rfl (b_rc (ci := 7) (bO_ft hk3 (ci := 8) (by rfl) rfl) (by decide) (by decide +kernel)) (Nat.le_of_ble_eq_true rfl) (Nat.le_of_ble_eq_true rfl) rfl (r_X8_slotOf (μ2 1 5).toNat (bO_ft hk3 (ci := 8) (by rfl) rfl) v1 h1 v2 h2) fun w4 hw4 => b_pc (pc' := 14) rfl ?_
  refine b_s (pc' := 15) (lv1 := [(0, .ref 1), (1, bI v1), (2, bI v2)]) (st' := [bI (-1), bI w4]) l118_14 (fun _ => rfl) ?_
  refine b_ieq (pt := 29) l118_15 hw4 (by decide) (by decide) rfl (fun c5 => ?_) (fun c5 => b_pc (pc' := 18) rfl ?_)
  · exact b_retv l118_29 rfl (hr _)
  · exact b_thr x118_18 (by decide) (Nat.le_of_ble_eq_true rfl) (hr _)
/-! ET.needRoom -/
theorem l120_0 : (ax_dt (ax_T 120)).lookup 0 = some (.aload_n 0, 1, 0, 0, 0) := by decide +kernel
theorem l120_1 : (ax_dt (ax_T 120)).lookup 1 = some (.getfield 45, 3, 8, 5, 0) := by decide +kernel
theorem l120_4 : (ax_dt (ax_T 120)).lookup 4 = some (.getfield 248, 3, 7, 11, 0) := by decide +kernel
theorem l120_7 : (ax_dt (ax_T 120)).lookup 7 = some (.iload_n 1, 1, 0, 0, 0) := by decide +kernel
theorem l120_8 : (ax_dt (ax_T 120)).lookup 8 = some (.iaload, 1, 0, 0, 0) := by decide +kernel
theorem l120_9 : (ax_dt (ax_T 120)).lookup 9 = some (.bipush 8, 2, 0, 0, 0) := by decide +kernel
theorem l120_11 : (ax_dt (ax_T 120)).lookup 11 = some (.if_icmp .eq 14, 3, 0, 0, 0) := by decide +kernel
theorem l120_14 : (ax_dt (ax_T 120)).lookup 14 = some (.aload_n 0, 1, 0, 0, 0) := by decide +kernel
theorem l120_15 : (ax_dt (ax_T 120)).lookup 15 = some (.getfield 18, 3, 8, 1, 0) := by decide +kernel
theorem l120_18 : (ax_dt (ax_T 120)).lookup 18 = some (.invokevirtual 49, 3, 54, 0, 0) := by decide +kernel
theorem l120_21 : (ax_dt (ax_T 120)).lookup 21 = some (.iload_n 2, 1, 0, 0, 0) := by decide +kernel
theorem l120_22 : (ax_dt (ax_T 120)).lookup 22 = some (.if_icmp .ge 14, 3, 0, 0, 0) := by decide +kernel
theorem l120_36 : (ax_dt (ax_T 120)).lookup 36 = some (.return_, 1, 0, 0, 0) := by decide +kernel
theorem x120_25 : (ax_dx (ax_T 120)).lookup 25 = some ("java/lang/UnsupportedOperationException", "no room for an attribute", 84, 319, 88, true) := by decide +kernel
noncomputable def F_X10_needRoom (v1 : Int) (v2 : Int) (μ : bM) : Option ((Int ⊕ String) × bM) := bG (0 ≤ v1 ∧ v1 < 400) (if (μ ((μ 1 5).toNat + 10) v1.toNat) = 8 then some (.inr "java/lang/UnsupportedOperationException", μ) else (F_X6_room 4 μ).bind fun w2 => if v2 ≤ w2 then some (.inl 0, μ) else some (.inr "java/lang/UnsupportedOperationException", μ))
theorem r_X10_needRoom {L : Nat} {xs : Nat → Int32} {d : Nat} {μ : bM}  (v1 : Int) (h1 : bR v1) (v2 : Int) (h2 : bR v2) : bD L xs (d + 1) 120 0 [(0, .ref 1), (1, bI v1), (2, bI v2)] [] μ ((F_X10_needRoom v1 v2 μ).bind (bXc)) := by
  have hr : ∀ r, (bXc) r = (bXc) r := fun _ => rfl
  unfold F_X10_needRoom
  refine bD.ok fun hk => ?_
  refine b_s (pc' := 1) (lv1 := [(0, .ref 1), (1, bI v1), (2, bI v2)]) (st' := [.ref 1]) l120_0 (fun _ => rfl) ?_
  refine b_gr l120_1 (by rfl) (by decide) (by decide) rfl (b_pc (pc' := 4) rfl ?_)
  refine b_gp (q' := ((μ 1 5).toNat + 10)) (j := 10) l120_4 (bO_ft hk (ci := 8) (by rfl) rfl) (by decide) (by decide) rfl hk rfl rfl (b_pc (pc' := 7) rfl ?_)
  refine b_s (pc' := 8) (lv1 := [(0, .ref 1), (1, bI v1), (2, bI v2)]) (st' := [bI v1, .ref ((μ 1 5).toNat + 10)]) l120_7 (fun _ => rfl) ?_
  refine b_g fun g4 => ?_
  refine b_ial l120_8 (bTree_e (bO_ft hk (ci := 8) (by rfl) rfl) 10 (by decide)) g4 (b_pc (pc' := 9) rfl ?_)
  refine b_bipush l120_9 (by decide) (b_pc (pc' := 11) rfl ?_)
  refine b_ieq (pt := 25) l120_11 (bO_i hk (bTree_e (bO_ft hk (ci := 8) (by rfl) rfl) 10 (by decide))) (by decide) (by decide) rfl (fun c1 => ?_) (fun c1 => b_pc (pc' := 14) rfl ?_)
  · exact b_thr x120_25 (by decide) (Nat.le_of_ble_eq_true rfl) (hr _)
  · refine b_s (pc' := 15) (lv1 := [(0, .ref 1), (1, bI v1), (2, bI v2)]) (st' := [.ref 1]) l120_14 (fun _ => rfl) ?_
    refine b_gp (q' := 4) (j := 3) l120_15 (by rfl) (by decide) (by decide) rfl hk rfl rfl (b_pc (pc' := 18) rfl ?_)
    refine b_cPi l120_18 rfl (b_rc (ci := 5) (by rfl) (by decide) (by decide +kernel)) (Nat.le_of_ble_eq_true rfl) (Nat.le_of_ble_eq_true rfl) rfl (r_X6_room 4 (by rfl)) fun w2 hw2 => b_pc (pc' := 21) rfl ?_
    refine b_s (pc' := 22) (lv1 := [(0, .ref 1), (1, bI v1), (2, bI v2)]) (st' := [bI v2, bI w2]) l120_21 (fun _ => rfl) ?_
    refine b_ige (pt := 36) l120_22 hw2 h2 (by decide) rfl (fun c3 => ?_) (fun c3 => b_pc (pc' := 25) rfl ?_)
    · exact b_retv l120_36 rfl (hr _)
    · exact b_thr x120_25 (by decide) (Nat.le_of_ble_eq_true rfl) (hr _)
/-! ET.number -/
theorem l96_0 : (ax_dt (ax_T 96)).lookup 0 = some (.aload_n 0, 1, 0, 0, 0) := by decide +kernel
theorem l96_1 : (ax_dt (ax_T 96)).lookup 1 = some (.iload_n 1, 1, 0, 0, 0) := by decide +kernel
theorem l96_2 : (ax_dt (ax_T 96)).lookup 2 = some (.invokevirtual 96, 3, 116, 1, 0) := by decide +kernel
theorem l96_5 : (ax_dt (ax_T 96)).lookup 5 = some (.aload_n 0, 1, 0, 0, 0) := by decide +kernel
theorem l96_6 : (ax_dt (ax_T 96)).lookup 6 = some (.iload_n 1, 1, 0, 0, 0) := by decide +kernel
theorem l96_7 : (ax_dt (ax_T 96)).lookup 7 = some (.iload_n 2, 1, 0, 0, 0) := by decide +kernel
theorem l96_8 : (ax_dt (ax_T 96)).lookup 8 = some (.invokevirtual 109, 3, 118, 2, 0) := by decide +kernel
theorem l96_11 : (ax_dt (ax_T 96)).lookup 11 = some (.iload_n 3, 1, 0, 0, 0) := by decide +kernel
theorem l96_12 : (ax_dt (ax_T 96)).lookup 12 = some (.invokestatic 113, 3, 18, 1, 0) := by decide +kernel
theorem l96_15 : (ax_dt (ax_T 96)).lookup 15 = some (.ifCond .eq 12, 3, 0, 0, 0) := by decide +kernel
theorem l96_18 : (ax_dt (ax_T 96)).lookup 18 = some (.iload_n 3, 1, 0, 0, 0) := by decide +kernel
theorem l96_19 : (ax_dt (ax_T 96)).lookup 19 = some (.lload 4, 2, 0, 0, 0) := by decide +kernel
theorem l96_21 : (ax_dt (ax_T 96)).lookup 21 = some (.invokestatic 119, 3, 20, 2, 0) := by decide +kernel
theorem l96_24 : (ax_dt (ax_T 96)).lookup 24 = some (.ifCond .ne 13, 3, 0, 0, 0) := by decide +kernel
theorem l96_37 : (ax_dt (ax_T 96)).lookup 37 = some (.aload_n 0, 1, 0, 0, 0) := by decide +kernel
theorem l96_38 : (ax_dt (ax_T 96)).lookup 38 = some (.iload_n 1, 1, 0, 0, 0) := by decide +kernel
theorem l96_39 : (ax_dt (ax_T 96)).lookup 39 = some (.iconst 0, 1, 0, 0, 0) := by decide +kernel
theorem l96_40 : (ax_dt (ax_T 96)).lookup 40 = some (.invokevirtual 125, 3, 120, 2, 0) := by decide +kernel
theorem l96_43 : (ax_dt (ax_T 96)).lookup 43 = some (.aload_n 0, 1, 0, 0, 0) := by decide +kernel
theorem l96_44 : (ax_dt (ax_T 96)).lookup 44 = some (.getfield 31, 3, 8, 3, 0) := by decide +kernel
theorem l96_47 : (ax_dt (ax_T 96)).lookup 47 = some (.invokevirtual 89, 3, 23, 0, 0) := by decide +kernel
theorem l96_50 : (ax_dt (ax_T 96)).lookup 50 = some (.aload_n 0, 1, 0, 0, 0) := by decide +kernel
theorem l96_51 : (ax_dt (ax_T 96)).lookup 51 = some (.getfield 45, 3, 8, 5, 0) := by decide +kernel
theorem l96_54 : (ax_dt (ax_T 96)).lookup 54 = some (.iload_n 1, 1, 0, 0, 0) := by decide +kernel
theorem l96_55 : (ax_dt (ax_T 96)).lookup 55 = some (.iload_n 2, 1, 0, 0, 0) := by decide +kernel
theorem l96_56 : (ax_dt (ax_T 96)).lookup 56 = some (.iload_n 3, 1, 0, 0, 0) := by decide +kernel
theorem l96_57 : (ax_dt (ax_T 96)).lookup 57 = some (.lload 4, 2, 0, 0, 0) := by decide +kernel
theorem l96_59 : (ax_dt (ax_T 96)).lookup 59 = some (.iconst 0, 1, 0, 0, 0) := by decide +kernel
theorem l96_60 : (ax_dt (ax_T 96)).lookup 60 = some (.invokevirtual 128, 3, 82, 5, 0) := by decide +kernel
theorem l96_63 : (ax_dt (ax_T 96)).lookup 63 = some (.ireturn, 1, 0, 0, 0) := by decide +kernel
theorem x96_27 : (ax_dx (ax_T 96)).lookup 27 = some ("java/lang/IllegalArgumentException", "no such number", 66, 123, 70, false) := by decide +kernel
noncomputable def F_X10_number (v1 : Int) (v2 : Int) (v3 : Int) (v4 : Int) (μ : bM) : Option ((Int ⊕ String) × bM) := bXm (F_X10_needEntry v1 μ) (fun w1 μ2 => bXm (F_X10_needNewName v1 v2 μ2) (fun w4 μ5 => (F_X2_isNumber v3 μ5).bind fun w7 => if w7 = 0 then some (.inr "java/lang/IllegalArgumentException", μ5) else (F_X2_holds v3 v4 μ5).bind fun w9 => if ¬ w9 = 0 then bXm (F_X10_needRoom v1 0 μ5) (fun w11 μ12 => bMm (F_X3_forget μ12) (fun w14 μ15 => bMm (F_X8_addAttribute (μ15 1 5).toNat v1 v2 v3 v4 0 μ15) (fun w17 μ18 => some (.inl w17, μ18)))) (fun e μ => some (.inr e, μ)) else some (.inr "java/lang/IllegalArgumentException", μ5)) (fun e μ => some (.inr e, μ))) (fun e μ => some (.inr e, μ))
theorem r_X10_number {L : Nat} {xs : Nat → Int32} {d : Nat} {μ : bM}  (v1 : Int) (h1 : bR v1) (v2 : Int) (h2 : bR v2) (v3 : Int) (h3 : bR v3) (v4 : Int) (h4 : bRL v4) : bD L xs (d + 3) 96 0 [(0, .ref 1), (1, bI v1), (2, bI v2), (3, bI v3), (4, bLg v4)] [] μ ((F_X10_number v1 v2 v3 v4 μ).bind (bXc)) := by
  have hr : ∀ r, (bXc) r = (bXc) r := fun _ => rfl
  unfold F_X10_number
  refine bD.ok fun hk => ?_
  refine b_s (pc' := 1) (lv1 := [(0, .ref 1), (1, bI v1), (2, bI v2), (3, bI v3), (4, bLg v4)]) (st' := [.ref 1]) l96_0 (fun _ => rfl) ?_
  refine b_s (pc' := 2) (lv1 := [(0, .ref 1), (1, bI v1), (2, bI v2), (3, bI v3), (4, bLg v4)]) (st' := [bI v1, .ref 1]) l96_1 (fun _ => rfl) ?_
  refine b_cXv l96_2 rfl (b_rc (ci := 8) (by rfl) (by decide) (by decide +kernel)) (Nat.le_of_ble_eq_true rfl) (Nat.le_of_ble_eq_true rfl) rfl (r_X10_needEntry v1 h1) ⟨fun _ z => (by cases z), (by decide +kernel)⟩ rfl (fun _ _ => hr _) fun w1 μ2 hw1 => bD.ok fun hk3 => b_pc (pc' := 5) rfl ?_
  refine b_s (pc' := 6) (lv1 := [(0, .ref 1), (1, bI v1), (2, bI v2), (3, bI v3), (4, bLg v4)]) (st' := [.ref 1]) l96_5 (fun _ => rfl) ?_
  refine b_s (pc' := 7) (lv1 := [(0, .ref 1), (1, bI v1), (2, bI v2), (3, bI v3), (4, bLg v4)]) (st' := [bI v1, .ref 1]) l96_6 (fun _ => rfl) ?_
  refine b_s (pc' := 8) (lv1 := [(0, .ref 1), (1, bI v1), (2, bI v2), (3, bI v3), (4, bLg v4)]) (st' := [bI v2, bI v1, .ref 1]) l96_7 (fun _ => rfl) ?_
  refine b_cXv l96_8 rfl (b_rc (ci := 8) (by rfl) (by decide) (by decide +kernel)) (Nat.le_of_ble_eq_true rfl) (Nat.le_of_ble_eq_true rfl) rfl (r_X10_needNewName v1 h1 v2 h2) ⟨fun _ z => (by cases z), (by decide +kernel)⟩ rfl (fun _ _ => hr _) fun w4 μ5 hw4 => bD.ok fun hk6 => b_pc (pc' := 11) rfl ?_
  refine b_s (pc' := 12) (lv1 := [(0, .ref 1), (1, bI v1), (2, bI v2), (3, bI v3), (4, bLg v4)]) (st' := [bI v3]) l96_11 (fun _ => rfl) ?_
  refine b_cPz l96_12 rfl (fun _ => trivial) (Nat.le_of_ble_eq_true rfl) (Nat.le_of_ble_eq_true rfl) rfl (r_X2_isNumber v3 h3) fun w7 hw7 => b_pc (pc' := 15) rfl ?_
  refine b_zeq (pt := 27) l96_15 (bZ_R hw7) (by decide) rfl (fun c8 => ?_) (fun c8 => b_pc (pc' := 18) rfl ?_)
  · exact b_thr x96_27 (by decide) (Nat.le_of_ble_eq_true rfl) (hr _)
  · refine b_s (pc' := 19) (lv1 := [(0, .ref 1), (1, bI v1), (2, bI v2), (3, bI v3), (4, bLg v4)]) (st' := [bI v3]) l96_18 (fun _ => rfl) ?_
    refine b_s (pc' := 21) (lv1 := [(0, .ref 1), (1, bI v1), (2, bI v2), (3, bI v3), (4, bLg v4)]) (st' := [bLg v4, bI v3]) l96_19 (fun _ => rfl) ?_
    refine b_cPz l96_21 rfl (fun _ => trivial) (Nat.le_of_ble_eq_true rfl) (Nat.le_of_ble_eq_true rfl) rfl (r_X2_holds v3 h3 v4 h4) fun w9 hw9 => b_pc (pc' := 24) rfl ?_
    refine b_zne (pt := 37) l96_24 (bZ_R hw9) (by decide) rfl (fun c10 => ?_) (fun c10 => b_pc (pc' := 27) rfl ?_)
    · refine b_s (pc' := 38) (lv1 := [(0, .ref 1), (1, bI v1), (2, bI v2), (3, bI v3), (4, bLg v4)]) (st' := [.ref 1]) l96_37 (fun _ => rfl) ?_
      refine b_s (pc' := 39) (lv1 := [(0, .ref 1), (1, bI v1), (2, bI v2), (3, bI v3), (4, bLg v4)]) (st' := [bI v1, .ref 1]) l96_38 (fun _ => rfl) ?_
      refine b_s (pc' := 40) (lv1 := [(0, .ref 1), (1, bI v1), (2, bI v2), (3, bI v3), (4, bLg v4)]) (st' := [bI 0, bI v1, .ref 1]) l96_39 (fun _ => rfl) ?_
      refine b_cXv l96_40 rfl (b_rc (ci := 8) (by rfl) (by decide) (by decide +kernel)) (Nat.le_of_ble_eq_true rfl) (Nat.le_of_ble_eq_true rfl) rfl (r_X10_needRoom v1 h1 0 (by decide)) ⟨fun _ z => (by cases z), (by decide +kernel)⟩ rfl (fun _ _ => hr _) fun w11 μ12 hw11 => bD.ok fun hk13 => b_pc (pc' := 43) rfl ?_
      refine b_s (pc' := 44) (lv1 := [(0, .ref 1), (1, bI v1), (2, bI v2), (3, bI v3), (4, bLg v4)]) (st' := [.ref 1]) l96_43 (fun _ => rfl) ?_
      refine b_gp (q' := 13) (j := 12) l96_44 (by rfl) (by decide) (by decide) rfl hk13 rfl rfl (b_pc (pc' := 47) rfl ?_)
      refine b_cMv l96_47 rfl (b_rc (ci := 2) (by rfl) (by decide) (by decide +kernel)) (Nat.le_of_ble_eq_true rfl) (Nat.le_of_ble_eq_true rfl) rfl (r_X3_forget ) fun w14 μ15 hw14 => bD.ok fun hk16 => b_pc (pc' := 50) rfl ?_
      refine b_s (pc' := 51) (lv1 := [(0, .ref 1), (1, bI v1), (2, bI v2), (3, bI v3), (4, bLg v4)]) (st' := [.ref 1]) l96_50 (fun _ => rfl) ?_
      refine b_gr l96_51 (by rfl) (by decide) (by decide) rfl (b_pc (pc' := 54) rfl ?_)
      refine b_s (pc' := 55) (lv1 := [(0, .ref 1), (1, bI v1), (2, bI v2), (3, bI v3), (4, bLg v4)]) (st' := [bI v1, .ref (μ15 1 5).toNat]) l96_54 (fun _ => rfl) ?_
      refine b_s (pc' := 56) (lv1 := [(0, .ref 1), (1, bI v1), (2, bI v2), (3, bI v3), (4, bLg v4)]) (st' := [bI v2, bI v1, .ref (μ15 1 5).toNat]) l96_55 (fun _ => rfl) ?_
      refine b_s (pc' := 57) (lv1 := [(0, .ref 1), (1, bI v1), (2, bI v2), (3, bI v3), (4, bLg v4)]) (st' := [bI v3, bI v2, bI v1, .ref (μ15 1 5).toNat]) l96_56 (fun _ => rfl) ?_
      refine b_s (pc' := 59) (lv1 := [(0, .ref 1), (1, bI v1), (2, bI v2), (3, bI v3), (4, bLg v4)]) (st' := [bLg v4, bI v3, bI v2, bI v1, .ref (μ15 1 5).toNat]) l96_57 (fun _ => rfl) ?_
      refine b_s (pc' := 60) (lv1 := [(0, .ref 1), (1, bI v1), (2, bI v2), (3, bI v3), (4, bLg v4)]) (st' := [bI 0, bLg v4, bI v3, bI v2, bI v1, .ref (μ15 1 5).toNat]) l96_59 (fun _ => rfl) ?_
      refine b_cMi l96_60 rfl (b_rc (ci := 7) (bO_ft hk16 (ci := 8) (by rfl) rfl) (by decide) (by decide +kernel)) (Nat.le_of_ble_eq_true rfl) (Nat.le_of_ble_eq_true rfl) rfl (r_X8_addAttribute (μ15 1 5).toNat (bO_ft hk16 (ci := 8) (by rfl) rfl) v1 h1 v2 h2 v3 h3 v4 h4 0 (by decide)) fun w17 μ18 hw17 => bD.ok fun hk19 => b_pc (pc' := 63) rfl ?_
      exact b_reti l96_63 rfl hw17 (hr _)
    · exact b_thr x96_27 (by decide) (Nat.le_of_ble_eq_true rfl) (hr _)
/-! ET.needLetters -/
theorem l119_0 : (ax_dt (ax_T 119)).lookup 0 = some (.iload_n 1, 1, 0, 0, 0) := by decide +kernel
theorem l119_1 : (ax_dt (ax_T 119)).lookup 1 = some (.invokestatic 278, 3, 16, 1, 0) := by decide +kernel
theorem l119_4 : (ax_dt (ax_T 119)).lookup 4 = some (.ifCond .eq 42, 3, 0, 0, 0) := by decide +kernel
theorem l119_7 : (ax_dt (ax_T 119)).lookup 7 = some (.aload_n 0, 1, 0, 0, 0) := by decide +kernel
theorem l119_8 : (ax_dt (ax_T 119)).lookup 8 = some (.getfield 14, 3, 8, 0, 0) := by decide +kernel
theorem l119_11 : (ax_dt (ax_T 119)).lookup 11 = some (.invokevirtual 63, 3, 52, 0, 0) := by decide +kernel
theorem l119_14 : (ax_dt (ax_T 119)).lookup 14 = some (.sipush 255, 3, 0, 0, 0) := by decide +kernel
theorem l119_17 : (ax_dt (ax_T 119)).lookup 17 = some (.if_icmp .gt 29, 3, 0, 0, 0) := by decide +kernel
theorem l119_20 : (ax_dt (ax_T 119)).lookup 20 = some (.iload_n 1, 1, 0, 0, 0) := by decide +kernel
theorem l119_21 : (ax_dt (ax_T 119)).lookup 21 = some (.invokestatic 311, 3, 15, 1, 0) := by decide +kernel
theorem l119_24 : (ax_dt (ax_T 119)).lookup 24 = some (.ifCond .eq 26, 3, 0, 0, 0) := by decide +kernel
theorem l119_27 : (ax_dt (ax_T 119)).lookup 27 = some (.aload_n 0, 1, 0, 0, 0) := by decide +kernel
theorem l119_28 : (ax_dt (ax_T 119)).lookup 28 = some (.getfield 14, 3, 8, 0, 0) := by decide +kernel
theorem l119_31 : (ax_dt (ax_T 119)).lookup 31 = some (.iconst 0, 1, 0, 0, 0) := by decide +kernel
theorem l119_32 : (ax_dt (ax_T 119)).lookup 32 = some (.aload_n 0, 1, 0, 0, 0) := by decide +kernel
theorem l119_33 : (ax_dt (ax_T 119)).lookup 33 = some (.getfield 14, 3, 8, 0, 0) := by decide +kernel
theorem l119_36 : (ax_dt (ax_T 119)).lookup 36 = some (.invokevirtual 63, 3, 52, 0, 0) := by decide +kernel
theorem l119_39 : (ax_dt (ax_T 119)).lookup 39 = some (.invokevirtual 314, 3, 67, 2, 0) := by decide +kernel
theorem l119_42 : (ax_dt (ax_T 119)).lookup 42 = some (.iconst (-1), 1, 0, 0, 0) := by decide +kernel
theorem l119_43 : (ax_dt (ax_T 119)).lookup 43 = some (.if_icmp .eq 7, 3, 0, 0, 0) := by decide +kernel
theorem l119_46 : (ax_dt (ax_T 119)).lookup 46 = some (.iconst 1, 1, 0, 0, 0) := by decide +kernel
theorem l119_47 : (ax_dt (ax_T 119)).lookup 47 = some (.goto 4, 3, 0, 0, 0) := by decide +kernel
theorem l119_50 : (ax_dt (ax_T 119)).lookup 50 = some (.iconst 0, 1, 0, 0, 0) := by decide +kernel
theorem l119_51 : (ax_dt (ax_T 119)).lookup 51 = some (.istore_n 2, 1, 0, 0, 0) := by decide +kernel
theorem l119_52 : (ax_dt (ax_T 119)).lookup 52 = some (.iload_n 2, 1, 0, 0, 0) := by decide +kernel
theorem l119_53 : (ax_dt (ax_T 119)).lookup 53 = some (.ifCond .eq 14, 3, 0, 0, 0) := by decide +kernel
theorem l119_67 : (ax_dt (ax_T 119)).lookup 67 = some (.return_, 1, 0, 0, 0) := by decide +kernel
theorem x119_56 : (ax_dx (ax_T 119)).lookup 56 = some ("java/lang/IllegalArgumentException", "no such text or block", 66, 317, 70, true) := by decide +kernel
noncomputable def F_X10_needLetters (v1 : Int) (μ : bM) : Option ((Int ⊕ String) × bM) := (F_X2_isLetters v1 μ).bind fun w1 => if w1 = 0 then some (.inr "java/lang/IllegalArgumentException", μ) else (F_X6_used 2 μ).bind fun w3 => if 255 < w3 then some (.inr "java/lang/IllegalArgumentException", μ) else (F_X2_isText v1 μ).bind fun w5 => if w5 = 0 then some (.inl 0, μ) else (F_X6_used 2 μ).bind fun w7 => (F_X6_zeroFrom 2 0 w7 μ).bind fun w8 => if w8 = (-1) then some (.inl 0, μ) else some (.inr "java/lang/IllegalArgumentException", μ)
theorem r_X10_needLetters {L : Nat} {xs : Nat → Int32} {d : Nat} {μ : bM}  (v1 : Int) (h1 : bR v1) : bD L xs (d + 2) 119 0 [(0, .ref 1), (1, bI v1)] [] μ ((F_X10_needLetters v1 μ).bind (bXc)) := by
  have hr : ∀ r, (bXc) r = (bXc) r := fun _ => rfl
  unfold F_X10_needLetters
  refine bD.ok fun hk => ?_
  refine b_s (pc' := 1) (lv1 := [(0, .ref 1), (1, bI v1)]) (st' := [bI v1]) l119_0 (fun _ => rfl) ?_
  refine b_cPz l119_1 rfl (fun _ => trivial) (Nat.le_of_ble_eq_true rfl) (Nat.le_of_ble_eq_true rfl) rfl (r_X2_isLetters v1 h1) fun w1 hw1 => b_pc (pc' := 4) rfl ?_
  refine b_zeq (pt := 46) l119_4 (bZ_R hw1) (by decide) rfl (fun c2 => ?_) (fun c2 => b_pc (pc' := 7) rfl ?_)
  · refine b_s (pc' := 47) (lv1 := [(0, .ref 1), (1, bI v1)]) (st' := [bI 1]) l119_46 (fun _ => rfl) ?_
    refine b_s (pc' := 51) (lv1 := [(0, .ref 1), (1, bI v1)]) (st' := [bI 1]) l119_47 (fun _ => rfl) ?_
    refine b_w (pc' := 52) (lv1 := ax_st1 [(0, .ref 1), (1, bI v1)] 2 (bI 1)) (lv' := [(2, bI 1)]) (st' := []) l119_51 (fun _ => rfl) (bSb rfl bSn) ?_
    refine b_s (pc' := 53) (lv1 := [(2, bI 1)]) (st' := [bI 1]) l119_52 (fun _ => rfl) ?_
    refine b_neg (c := (1 : Int) = 0) (E1 := none) (by decide) ?_
    refine b_zeq (pt := 67) l119_53 (by decide) (by decide) rfl (fun z => absurd z (by decide)) (fun _ => b_pc (pc' := 56) rfl ?_)
    exact b_thr x119_56 (by decide) (Nat.le_of_ble_eq_true rfl) (hr _)
  · refine b_s (pc' := 8) (lv1 := [(0, .ref 1), (1, bI v1)]) (st' := [.ref 1]) l119_7 (fun _ => rfl) ?_
    refine b_gp (q' := 2) (j := 1) l119_8 (by rfl) (by decide) (by decide) rfl hk rfl rfl (b_pc (pc' := 11) rfl ?_)
    refine b_cPi l119_11 rfl (b_rc (ci := 5) (by rfl) (by decide) (by decide +kernel)) (Nat.le_of_ble_eq_true rfl) (Nat.le_of_ble_eq_true rfl) rfl (r_X6_used 2 (by rfl)) fun w3 hw3 => b_pc (pc' := 14) rfl ?_
    refine b_sipush l119_14 (by decide) (b_pc (pc' := 17) rfl ?_)
    refine b_igt (pt := 46) l119_17 hw3 (by decide) (by decide) rfl (fun c4 => ?_) (fun c4 => b_pc (pc' := 20) rfl ?_)
    · refine b_s (pc' := 47) (lv1 := [(0, .ref 1), (1, bI v1)]) (st' := [bI 1]) l119_46 (fun _ => rfl) ?_
      refine b_s (pc' := 51) (lv1 := [(0, .ref 1), (1, bI v1)]) (st' := [bI 1]) l119_47 (fun _ => rfl) ?_
      refine b_w (pc' := 52) (lv1 := ax_st1 [(0, .ref 1), (1, bI v1)] 2 (bI 1)) (lv' := [(2, bI 1)]) (st' := []) l119_51 (fun _ => rfl) (bSb rfl bSn) ?_
      refine b_s (pc' := 53) (lv1 := [(2, bI 1)]) (st' := [bI 1]) l119_52 (fun _ => rfl) ?_
      refine b_neg (c := (1 : Int) = 0) (E1 := none) (by decide) ?_
      refine b_zeq (pt := 67) l119_53 (by decide) (by decide) rfl (fun z => absurd z (by decide)) (fun _ => b_pc (pc' := 56) rfl ?_)
      exact b_thr x119_56 (by decide) (Nat.le_of_ble_eq_true rfl) (hr _)
    · refine b_s (pc' := 21) (lv1 := [(0, .ref 1), (1, bI v1)]) (st' := [bI v1]) l119_20 (fun _ => rfl) ?_
      refine b_cPz l119_21 rfl (fun _ => trivial) (Nat.le_of_ble_eq_true rfl) (Nat.le_of_ble_eq_true rfl) rfl (r_X2_isText v1 h1) fun w5 hw5 => b_pc (pc' := 24) rfl ?_
      refine b_zeq (pt := 50) l119_24 (bZ_R hw5) (by decide) rfl (fun c6 => ?_) (fun c6 => b_pc (pc' := 27) rfl ?_)
      · refine b_s (pc' := 51) (lv1 := [(0, .ref 1), (1, bI v1)]) (st' := [bI 0]) l119_50 (fun _ => rfl) ?_
        refine b_w (pc' := 52) (lv1 := ax_st1 [(0, .ref 1), (1, bI v1)] 2 (bI 0)) (lv' := [(2, bI 0)]) (st' := []) l119_51 (fun _ => rfl) (bSb rfl bSn) ?_
        refine b_s (pc' := 53) (lv1 := [(2, bI 0)]) (st' := [bI 0]) l119_52 (fun _ => rfl) ?_
        refine b_pos (c := (0 : Int) = 0) (E2 := none) (by decide) ?_
        refine b_zeq (pt := 67) l119_53 (by decide) (by decide) rfl (fun _ => ?_) (fun z => absurd (show (0 : Int) = 0 by decide) z)
        exact b_retv l119_67 rfl (hr _)
      · refine b_s (pc' := 28) (lv1 := [(0, .ref 1), (1, bI v1)]) (st' := [.ref 1]) l119_27 (fun _ => rfl) ?_
        refine b_gp (q' := 2) (j := 1) l119_28 (by rfl) (by decide) (by decide) rfl hk rfl rfl (b_pc (pc' := 31) rfl ?_)
        refine b_s (pc' := 32) (lv1 := [(0, .ref 1), (1, bI v1)]) (st' := [bI 0, .ref 2]) l119_31 (fun _ => rfl) ?_
        refine b_s (pc' := 33) (lv1 := [(0, .ref 1), (1, bI v1)]) (st' := [.ref 1, bI 0, .ref 2]) l119_32 (fun _ => rfl) ?_
        refine b_gp (q' := 2) (j := 1) l119_33 (by rfl) (by decide) (by decide) rfl hk rfl rfl (b_pc (pc' := 36) rfl ?_)
        refine b_cPi l119_36 rfl (b_rc (ci := 5) (by rfl) (by decide) (by decide +kernel)) (Nat.le_of_ble_eq_true rfl) (Nat.le_of_ble_eq_true rfl) rfl (r_X6_used 2 (by rfl)) fun w7 hw7 => b_pc (pc' := 39) rfl ?_
        refine b_cPi l119_39 rfl (b_rc (ci := 5) (by rfl) (by decide) (by decide +kernel)) (Nat.le_of_ble_eq_true rfl) (Nat.le_of_ble_eq_true rfl) rfl (r_X6_zeroFrom 2 (by rfl) 0 (by decide) w7 hw7) fun w8 hw8 => b_pc (pc' := 42) rfl ?_
        refine b_s (pc' := 43) (lv1 := [(0, .ref 1), (1, bI v1)]) (st' := [bI (-1), bI w8]) l119_42 (fun _ => rfl) ?_
        refine b_ieq (pt := 50) l119_43 hw8 (by decide) (by decide) rfl (fun c9 => ?_) (fun c9 => b_pc (pc' := 46) rfl ?_)
        · refine b_s (pc' := 51) (lv1 := [(0, .ref 1), (1, bI v1)]) (st' := [bI 0]) l119_50 (fun _ => rfl) ?_
          refine b_w (pc' := 52) (lv1 := ax_st1 [(0, .ref 1), (1, bI v1)] 2 (bI 0)) (lv' := [(2, bI 0)]) (st' := []) l119_51 (fun _ => rfl) (bSb rfl bSn) ?_
          refine b_s (pc' := 53) (lv1 := [(2, bI 0)]) (st' := [bI 0]) l119_52 (fun _ => rfl) ?_
          refine b_pos (c := (0 : Int) = 0) (E2 := none) (by decide) ?_
          refine b_zeq (pt := 67) l119_53 (by decide) (by decide) rfl (fun _ => ?_) (fun z => absurd (show (0 : Int) = 0 by decide) z)
          exact b_retv l119_67 rfl (hr _)
        · refine b_s (pc' := 47) (lv1 := [(0, .ref 1), (1, bI v1)]) (st' := [bI 1]) l119_46 (fun _ => rfl) ?_
          refine b_s (pc' := 51) (lv1 := [(0, .ref 1), (1, bI v1)]) (st' := [bI 1]) l119_47 (fun _ => rfl) ?_
          refine b_w (pc' := 52) (lv1 := ax_st1 [(0, .ref 1), (1, bI v1)] 2 (bI 1)) (lv' := [(2, bI 1)]) (st' := []) l119_51 (fun _ => rfl) (bSb rfl bSn) ?_
          refine b_s (pc' := 53) (lv1 := [(2, bI 1)]) (st' := [bI 1]) l119_52 (fun _ => rfl) ?_
          refine b_neg (c := (1 : Int) = 0) (E1 := none) (by decide) ?_
          refine b_zeq (pt := 67) l119_53 (by decide) (by decide) rfl (fun z => absurd z (by decide)) (fun _ => b_pc (pc' := 56) rfl ?_)
          exact b_thr x119_56 (by decide) (Nat.le_of_ble_eq_true rfl) (hr _)
/-! ET.bytes -/
theorem l97_0 : (ax_dt (ax_T 97)).lookup 0 = some (.aload_n 0, 1, 0, 0, 0) := by decide +kernel
theorem l97_1 : (ax_dt (ax_T 97)).lookup 1 = some (.iload_n 1, 1, 0, 0, 0) := by decide +kernel
theorem l97_2 : (ax_dt (ax_T 97)).lookup 2 = some (.invokevirtual 96, 3, 116, 1, 0) := by decide +kernel
theorem l97_5 : (ax_dt (ax_T 97)).lookup 5 = some (.aload_n 0, 1, 0, 0, 0) := by decide +kernel
theorem l97_6 : (ax_dt (ax_T 97)).lookup 6 = some (.iload_n 1, 1, 0, 0, 0) := by decide +kernel
theorem l97_7 : (ax_dt (ax_T 97)).lookup 7 = some (.iload_n 2, 1, 0, 0, 0) := by decide +kernel
theorem l97_8 : (ax_dt (ax_T 97)).lookup 8 = some (.invokevirtual 109, 3, 118, 2, 0) := by decide +kernel
theorem l97_11 : (ax_dt (ax_T 97)).lookup 11 = some (.aload_n 0, 1, 0, 0, 0) := by decide +kernel
theorem l97_12 : (ax_dt (ax_T 97)).lookup 12 = some (.iload_n 3, 1, 0, 0, 0) := by decide +kernel
theorem l97_13 : (ax_dt (ax_T 97)).lookup 13 = some (.invokevirtual 132, 3, 119, 1, 0) := by decide +kernel
theorem l97_16 : (ax_dt (ax_T 97)).lookup 16 = some (.aload_n 0, 1, 0, 0, 0) := by decide +kernel
theorem l97_17 : (ax_dt (ax_T 97)).lookup 17 = some (.getfield 14, 3, 8, 0, 0) := by decide +kernel
theorem l97_20 : (ax_dt (ax_T 97)).lookup 20 = some (.invokevirtual 63, 3, 52, 0, 0) := by decide +kernel
theorem l97_23 : (ax_dt (ax_T 97)).lookup 23 = some (.istore 4, 2, 0, 0, 0) := by decide +kernel
theorem l97_25 : (ax_dt (ax_T 97)).lookup 25 = some (.aload_n 0, 1, 0, 0, 0) := by decide +kernel
theorem l97_26 : (ax_dt (ax_T 97)).lookup 26 = some (.iload_n 1, 1, 0, 0, 0) := by decide +kernel
theorem l97_27 : (ax_dt (ax_T 97)).lookup 27 = some (.iload 4, 2, 0, 0, 0) := by decide +kernel
theorem l97_29 : (ax_dt (ax_T 97)).lookup 29 = some (.invokevirtual 125, 3, 120, 2, 0) := by decide +kernel
theorem l97_32 : (ax_dt (ax_T 97)).lookup 32 = some (.aload_n 0, 1, 0, 0, 0) := by decide +kernel
theorem l97_33 : (ax_dt (ax_T 97)).lookup 33 = some (.getfield 18, 3, 8, 1, 0) := by decide +kernel
theorem l97_36 : (ax_dt (ax_T 97)).lookup 36 = some (.invokevirtual 63, 3, 52, 0, 0) := by decide +kernel
theorem l97_39 : (ax_dt (ax_T 97)).lookup 39 = some (.istore 5, 2, 0, 0, 0) := by decide +kernel
theorem l97_41 : (ax_dt (ax_T 97)).lookup 41 = some (.aload_n 0, 1, 0, 0, 0) := by decide +kernel
theorem l97_42 : (ax_dt (ax_T 97)).lookup 42 = some (.getfield 18, 3, 8, 1, 0) := by decide +kernel
theorem l97_45 : (ax_dt (ax_T 97)).lookup 45 = some (.aload_n 0, 1, 0, 0, 0) := by decide +kernel
theorem l97_46 : (ax_dt (ax_T 97)).lookup 46 = some (.getfield 14, 3, 8, 0, 0) := by decide +kernel
theorem l97_49 : (ax_dt (ax_T 97)).lookup 49 = some (.iconst 0, 1, 0, 0, 0) := by decide +kernel
theorem l97_50 : (ax_dt (ax_T 97)).lookup 50 = some (.iload 4, 2, 0, 0, 0) := by decide +kernel
theorem l97_52 : (ax_dt (ax_T 97)).lookup 52 = some (.invokevirtual 135, 3, 64, 3, 0) := by decide +kernel
theorem l97_55 : (ax_dt (ax_T 97)).lookup 55 = some (.aload_n 0, 1, 0, 0, 0) := by decide +kernel
theorem l97_56 : (ax_dt (ax_T 97)).lookup 56 = some (.getfield 14, 3, 8, 0, 0) := by decide +kernel
theorem l97_59 : (ax_dt (ax_T 97)).lookup 59 = some (.iconst 0, 1, 0, 0, 0) := by decide +kernel
theorem l97_60 : (ax_dt (ax_T 97)).lookup 60 = some (.invokevirtual 71, 3, 57, 1, 0) := by decide +kernel
theorem l97_63 : (ax_dt (ax_T 97)).lookup 63 = some (.aload_n 0, 1, 0, 0, 0) := by decide +kernel
theorem l97_64 : (ax_dt (ax_T 97)).lookup 64 = some (.getfield 31, 3, 8, 3, 0) := by decide +kernel
theorem l97_67 : (ax_dt (ax_T 97)).lookup 67 = some (.invokevirtual 89, 3, 23, 0, 0) := by decide +kernel
theorem l97_70 : (ax_dt (ax_T 97)).lookup 70 = some (.aload_n 0, 1, 0, 0, 0) := by decide +kernel
theorem l97_71 : (ax_dt (ax_T 97)).lookup 71 = some (.getfield 45, 3, 8, 5, 0) := by decide +kernel
theorem l97_74 : (ax_dt (ax_T 97)).lookup 74 = some (.iload_n 1, 1, 0, 0, 0) := by decide +kernel
theorem l97_75 : (ax_dt (ax_T 97)).lookup 75 = some (.iload_n 2, 1, 0, 0, 0) := by decide +kernel
theorem l97_76 : (ax_dt (ax_T 97)).lookup 76 = some (.iload_n 3, 1, 0, 0, 0) := by decide +kernel
theorem l97_77 : (ax_dt (ax_T 97)).lookup 77 = some (.iload 5, 2, 0, 0, 0) := by decide +kernel
theorem l97_79 : (ax_dt (ax_T 97)).lookup 79 = some (.i2l, 1, 0, 0, 0) := by decide +kernel
theorem l97_80 : (ax_dt (ax_T 97)).lookup 80 = some (.iload 4, 2, 0, 0, 0) := by decide +kernel
theorem l97_82 : (ax_dt (ax_T 97)).lookup 82 = some (.invokevirtual 128, 3, 82, 5, 0) := by decide +kernel
theorem l97_85 : (ax_dt (ax_T 97)).lookup 85 = some (.ireturn, 1, 0, 0, 0) := by decide +kernel
noncomputable def F_X10_bytes (v1 : Int) (v2 : Int) (v3 : Int) (μ : bM) : Option ((Int ⊕ String) × bM) := bXm (F_X10_needEntry v1 μ) (fun w1 μ2 => bXm (F_X10_needNewName v1 v2 μ2) (fun w4 μ5 => bXm (F_X10_needLetters v3 μ5) (fun w7 μ8 => (F_X6_used 2 μ8).bind fun w10 => bXm (F_X10_needRoom v1 w10 μ8) (fun w11 μ12 => (F_X6_used 4 μ12).bind fun w14 => bMm (F_X6_addFrom 4 2 0 w10 μ12) (fun w15 μ16 => bMm (F_X6_cut 2 0 μ16) (fun w18 μ19 => bMm (F_X3_forget μ19) (fun w21 μ22 => bMm (F_X8_addAttribute (μ22 1 5).toNat v1 v2 v3 w14 w10 μ22) (fun w24 μ25 => some (.inl w24, μ25)))))) (fun e μ => some (.inr e, μ))) (fun e μ => some (.inr e, μ))) (fun e μ => some (.inr e, μ))) (fun e μ => some (.inr e, μ))
theorem r_X10_bytes {L : Nat} {xs : Nat → Int32} {d : Nat} {μ : bM}  (v1 : Int) (h1 : bR v1) (v2 : Int) (h2 : bR v2) (v3 : Int) (h3 : bR v3) : bD L xs (d + 3) 97 0 [(0, .ref 1), (1, bI v1), (2, bI v2), (3, bI v3)] [] μ ((F_X10_bytes v1 v2 v3 μ).bind (bXc)) := by
  have hr : ∀ r, (bXc) r = (bXc) r := fun _ => rfl
  unfold F_X10_bytes
  refine bD.ok fun hk => ?_
  refine b_s (pc' := 1) (lv1 := [(0, .ref 1), (1, bI v1), (2, bI v2), (3, bI v3)]) (st' := [.ref 1]) l97_0 (fun _ => rfl) ?_
  refine b_s (pc' := 2) (lv1 := [(0, .ref 1), (1, bI v1), (2, bI v2), (3, bI v3)]) (st' := [bI v1, .ref 1]) l97_1 (fun _ => rfl) ?_
  refine b_cXv l97_2 rfl (b_rc (ci := 8) (by rfl) (by decide) (by decide +kernel)) (Nat.le_of_ble_eq_true rfl) (Nat.le_of_ble_eq_true rfl) rfl (r_X10_needEntry v1 h1) ⟨fun _ z => (by cases z), (by decide +kernel)⟩ rfl (fun _ _ => hr _) fun w1 μ2 hw1 => bD.ok fun hk3 => b_pc (pc' := 5) rfl ?_
  refine b_s (pc' := 6) (lv1 := [(0, .ref 1), (1, bI v1), (2, bI v2), (3, bI v3)]) (st' := [.ref 1]) l97_5 (fun _ => rfl) ?_
  refine b_s (pc' := 7) (lv1 := [(0, .ref 1), (1, bI v1), (2, bI v2), (3, bI v3)]) (st' := [bI v1, .ref 1]) l97_6 (fun _ => rfl) ?_
  refine b_s (pc' := 8) (lv1 := [(0, .ref 1), (1, bI v1), (2, bI v2), (3, bI v3)]) (st' := [bI v2, bI v1, .ref 1]) l97_7 (fun _ => rfl) ?_
  refine b_cXv l97_8 rfl (b_rc (ci := 8) (by rfl) (by decide) (by decide +kernel)) (Nat.le_of_ble_eq_true rfl) (Nat.le_of_ble_eq_true rfl) rfl (r_X10_needNewName v1 h1 v2 h2) ⟨fun _ z => (by cases z), (by decide +kernel)⟩ rfl (fun _ _ => hr _) fun w4 μ5 hw4 => bD.ok fun hk6 => b_pc (pc' := 11) rfl ?_
  refine b_s (pc' := 12) (lv1 := [(0, .ref 1), (1, bI v1), (2, bI v2), (3, bI v3)]) (st' := [.ref 1]) l97_11 (fun _ => rfl) ?_
  refine b_s (pc' := 13) (lv1 := [(0, .ref 1), (1, bI v1), (2, bI v2), (3, bI v3)]) (st' := [bI v3, .ref 1]) l97_12 (fun _ => rfl) ?_
  refine b_cXv l97_13 rfl (b_rc (ci := 8) (by rfl) (by decide) (by decide +kernel)) (Nat.le_of_ble_eq_true rfl) (Nat.le_of_ble_eq_true rfl) rfl (r_X10_needLetters v3 h3) ⟨fun _ z => (by cases z), (by decide +kernel)⟩ rfl (fun _ _ => hr _) fun w7 μ8 hw7 => bD.ok fun hk9 => b_pc (pc' := 16) rfl ?_
  refine b_s (pc' := 17) (lv1 := [(0, .ref 1), (1, bI v1), (2, bI v2), (3, bI v3)]) (st' := [.ref 1]) l97_16 (fun _ => rfl) ?_
  refine b_gp (q' := 2) (j := 1) l97_17 (by rfl) (by decide) (by decide) rfl hk9 rfl rfl (b_pc (pc' := 20) rfl ?_)
  refine b_cPi l97_20 rfl (b_rc (ci := 5) (by rfl) (by decide) (by decide +kernel)) (Nat.le_of_ble_eq_true rfl) (Nat.le_of_ble_eq_true rfl) rfl (r_X6_used 2 (by rfl)) fun w10 hw10 => b_pc (pc' := 23) rfl ?_
  refine b_w (pc' := 25) (lv1 := ax_st1 [(0, .ref 1), (1, bI v1), (2, bI v2), (3, bI v3)] 4 (bI w10)) (lv' := [(0, .ref 1), (1, bI v1), (2, bI v2), (3, bI v3), (4, bI w10)]) (st' := []) l97_23 (fun _ => rfl) (bSb rfl (bSb rfl (bSb rfl (bSb rfl (bSb rfl bSn))))) ?_
  refine b_s (pc' := 26) (lv1 := [(0, .ref 1), (1, bI v1), (2, bI v2), (3, bI v3), (4, bI w10)]) (st' := [.ref 1]) l97_25 (fun _ => rfl) ?_
  refine b_s (pc' := 27) (lv1 := [(0, .ref 1), (1, bI v1), (2, bI v2), (3, bI v3), (4, bI w10)]) (st' := [bI v1, .ref 1]) l97_26 (fun _ => rfl) ?_
  refine b_s (pc' := 29) (lv1 := [(0, .ref 1), (1, bI v1), (2, bI v2), (3, bI v3), (4, bI w10)]) (st' := [bI w10, bI v1, .ref 1]) l97_27 (fun _ => rfl) ?_
  refine b_cXv l97_29 rfl (b_rc (ci := 8) (by rfl) (by decide) (by decide +kernel)) (Nat.le_of_ble_eq_true rfl) (Nat.le_of_ble_eq_true rfl) rfl (r_X10_needRoom v1 h1 w10 hw10) ⟨fun _ z => (by cases z), (by decide +kernel)⟩ rfl (fun _ _ => hr _) fun w11 μ12 hw11 => bD.ok fun hk13 => b_pc (pc' := 32) rfl ?_
  refine b_s (pc' := 33) (lv1 := [(0, .ref 1), (1, bI v1), (2, bI v2), (3, bI v3), (4, bI w10)]) (st' := [.ref 1]) l97_32 (fun _ => rfl) ?_
  refine b_gp (q' := 4) (j := 3) l97_33 (by rfl) (by decide) (by decide) rfl hk13 rfl rfl (b_pc (pc' := 36) rfl ?_)
  refine b_cPi l97_36 rfl (b_rc (ci := 5) (by rfl) (by decide) (by decide +kernel)) (Nat.le_of_ble_eq_true rfl) (Nat.le_of_ble_eq_true rfl) rfl (r_X6_used 4 (by rfl)) fun w14 hw14 => b_pc (pc' := 39) rfl ?_
  refine b_w (pc' := 41) (lv1 := ax_st1 [(0, .ref 1), (1, bI v1), (2, bI v2), (3, bI v3), (4, bI w10)] 5 (bI w14)) (lv' := [(0, .ref 1), (1, bI v1), (2, bI v2), (3, bI v3), (4, bI w10), (5, bI w14)]) (st' := []) l97_39 (fun _ => rfl) (bSb rfl (bSb rfl (bSb rfl (bSb rfl (bSb rfl (bSb rfl bSn)))))) ?_
  refine b_s (pc' := 42) (lv1 := [(0, .ref 1), (1, bI v1), (2, bI v2), (3, bI v3), (4, bI w10), (5, bI w14)]) (st' := [.ref 1]) l97_41 (fun _ => rfl) ?_
  refine b_gp (q' := 4) (j := 3) l97_42 (by rfl) (by decide) (by decide) rfl hk13 rfl rfl (b_pc (pc' := 45) rfl ?_)
  refine b_s (pc' := 46) (lv1 := [(0, .ref 1), (1, bI v1), (2, bI v2), (3, bI v3), (4, bI w10), (5, bI w14)]) (st' := [.ref 1, .ref 4]) l97_45 (fun _ => rfl) ?_
  refine b_gp (q' := 2) (j := 1) l97_46 (by rfl) (by decide) (by decide) rfl hk13 rfl rfl (b_pc (pc' := 49) rfl ?_)
  refine b_s (pc' := 50) (lv1 := [(0, .ref 1), (1, bI v1), (2, bI v2), (3, bI v3), (4, bI w10), (5, bI w14)]) (st' := [bI 0, .ref 2, .ref 4]) l97_49 (fun _ => rfl) ?_
  refine b_s (pc' := 52) (lv1 := [(0, .ref 1), (1, bI v1), (2, bI v2), (3, bI v3), (4, bI w10), (5, bI w14)]) (st' := [bI w10, bI 0, .ref 2, .ref 4]) l97_50 (fun _ => rfl) ?_
  refine b_cMv l97_52 rfl (b_rc (ci := 5) (by rfl) (by decide) (by decide +kernel)) (Nat.le_of_ble_eq_true rfl) (Nat.le_of_ble_eq_true rfl) rfl (r_X6_addFrom 4 (by rfl) 2 (by rfl) 0 (by decide) w10 hw10) fun w15 μ16 hw15 => bD.ok fun hk17 => b_pc (pc' := 55) rfl ?_
  refine b_s (pc' := 56) (lv1 := [(0, .ref 1), (1, bI v1), (2, bI v2), (3, bI v3), (4, bI w10), (5, bI w14)]) (st' := [.ref 1]) l97_55 (fun _ => rfl) ?_
  refine b_gp (q' := 2) (j := 1) l97_56 (by rfl) (by decide) (by decide) rfl hk17 rfl rfl (b_pc (pc' := 59) rfl ?_)
  refine b_s (pc' := 60) (lv1 := [(0, .ref 1), (1, bI v1), (2, bI v2), (3, bI v3), (4, bI w10), (5, bI w14)]) (st' := [bI 0, .ref 2]) l97_59 (fun _ => rfl) ?_
  refine b_cMv l97_60 rfl (b_rc (ci := 5) (by rfl) (by decide) (by decide +kernel)) (Nat.le_of_ble_eq_true rfl) (Nat.le_of_ble_eq_true rfl) rfl (r_X6_cut 2 (by rfl) 0 (by decide)) fun w18 μ19 hw18 => bD.ok fun hk20 => b_pc (pc' := 63) rfl ?_
  refine b_s (pc' := 64) (lv1 := [(0, .ref 1), (1, bI v1), (2, bI v2), (3, bI v3), (4, bI w10), (5, bI w14)]) (st' := [.ref 1]) l97_63 (fun _ => rfl) ?_
  refine b_gp (q' := 13) (j := 12) l97_64 (by rfl) (by decide) (by decide) rfl hk20 rfl rfl (b_pc (pc' := 67) rfl ?_)
  refine b_cMv l97_67 rfl (b_rc (ci := 2) (by rfl) (by decide) (by decide +kernel)) (Nat.le_of_ble_eq_true rfl) (Nat.le_of_ble_eq_true rfl) rfl (r_X3_forget ) fun w21 μ22 hw21 => bD.ok fun hk23 => b_pc (pc' := 70) rfl ?_
  refine b_s (pc' := 71) (lv1 := [(0, .ref 1), (1, bI v1), (2, bI v2), (3, bI v3), (4, bI w10), (5, bI w14)]) (st' := [.ref 1]) l97_70 (fun _ => rfl) ?_
  refine b_gr l97_71 (by rfl) (by decide) (by decide) rfl (b_pc (pc' := 74) rfl ?_)
  refine b_s (pc' := 75) (lv1 := [(0, .ref 1), (1, bI v1), (2, bI v2), (3, bI v3), (4, bI w10), (5, bI w14)]) (st' := [bI v1, .ref (μ22 1 5).toNat]) l97_74 (fun _ => rfl) ?_
  refine b_s (pc' := 76) (lv1 := [(0, .ref 1), (1, bI v1), (2, bI v2), (3, bI v3), (4, bI w10), (5, bI w14)]) (st' := [bI v2, bI v1, .ref (μ22 1 5).toNat]) l97_75 (fun _ => rfl) ?_
  refine b_s (pc' := 77) (lv1 := [(0, .ref 1), (1, bI v1), (2, bI v2), (3, bI v3), (4, bI w10), (5, bI w14)]) (st' := [bI v3, bI v2, bI v1, .ref (μ22 1 5).toNat]) l97_76 (fun _ => rfl) ?_
  refine b_s (pc' := 79) (lv1 := [(0, .ref 1), (1, bI v1), (2, bI v2), (3, bI v3), (4, bI w10), (5, bI w14)]) (st' := [bI w14, bI v3, bI v2, bI v1, .ref (μ22 1 5).toNat]) l97_77 (fun _ => rfl) ?_
  refine b_i2l l97_79 hw14 (b_pc (pc' := 80) rfl ?_)
  refine b_s (pc' := 82) (lv1 := [(0, .ref 1), (1, bI v1), (2, bI v2), (3, bI v3), (4, bI w10), (5, bI w14)]) (st' := [bI w10, bLg w14, bI v3, bI v2, bI v1, .ref (μ22 1 5).toNat]) l97_80 (fun _ => rfl) ?_
  refine b_cMi l97_82 rfl (b_rc (ci := 7) (bO_ft hk23 (ci := 8) (by rfl) rfl) (by decide) (by decide +kernel)) (Nat.le_of_ble_eq_true rfl) (Nat.le_of_ble_eq_true rfl) rfl (r_X8_addAttribute (μ22 1 5).toNat (bO_ft hk23 (ci := 8) (by rfl) rfl) v1 h1 v2 h2 v3 h3 w14 (bR_L hw14) w10 hw10) fun w24 μ25 hw24 => bD.ok fun hk26 => b_pc (pc' := 85) rfl ?_
  exact b_reti l97_85 rfl hw24 (hr _)
/-! ET.reference -/
theorem l98_0 : (ax_dt (ax_T 98)).lookup 0 = some (.aload_n 0, 1, 0, 0, 0) := by decide +kernel
theorem l98_1 : (ax_dt (ax_T 98)).lookup 1 = some (.iload_n 1, 1, 0, 0, 0) := by decide +kernel
theorem l98_2 : (ax_dt (ax_T 98)).lookup 2 = some (.invokevirtual 96, 3, 116, 1, 0) := by decide +kernel
theorem l98_5 : (ax_dt (ax_T 98)).lookup 5 = some (.aload_n 0, 1, 0, 0, 0) := by decide +kernel
theorem l98_6 : (ax_dt (ax_T 98)).lookup 6 = some (.iload 4, 2, 0, 0, 0) := by decide +kernel
theorem l98_8 : (ax_dt (ax_T 98)).lookup 8 = some (.invokevirtual 96, 3, 116, 1, 0) := by decide +kernel
theorem l98_11 : (ax_dt (ax_T 98)).lookup 11 = some (.aload_n 0, 1, 0, 0, 0) := by decide +kernel
theorem l98_12 : (ax_dt (ax_T 98)).lookup 12 = some (.getfield 45, 3, 8, 5, 0) := by decide +kernel
theorem l98_15 : (ax_dt (ax_T 98)).lookup 15 = some (.getfield 139, 3, 7, 5, 0) := by decide +kernel
theorem l98_18 : (ax_dt (ax_T 98)).lookup 18 = some (.iload_n 1, 1, 0, 0, 0) := by decide +kernel
theorem l98_19 : (ax_dt (ax_T 98)).lookup 19 = some (.iaload, 1, 0, 0, 0) := by decide +kernel
theorem l98_20 : (ax_dt (ax_T 98)).lookup 20 = some (.aload_n 0, 1, 0, 0, 0) := by decide +kernel
theorem l98_21 : (ax_dt (ax_T 98)).lookup 21 = some (.getfield 45, 3, 8, 5, 0) := by decide +kernel
theorem l98_24 : (ax_dt (ax_T 98)).lookup 24 = some (.getfield 139, 3, 7, 5, 0) := by decide +kernel
theorem l98_27 : (ax_dt (ax_T 98)).lookup 27 = some (.iload 4, 2, 0, 0, 0) := by decide +kernel
theorem l98_29 : (ax_dt (ax_T 98)).lookup 29 = some (.iaload, 1, 0, 0, 0) := by decide +kernel
theorem l98_30 : (ax_dt (ax_T 98)).lookup 30 = some (.if_icmp .eq 13, 3, 0, 0, 0) := by decide +kernel
theorem l98_43 : (ax_dt (ax_T 98)).lookup 43 = some (.aload_n 0, 1, 0, 0, 0) := by decide +kernel
theorem l98_44 : (ax_dt (ax_T 98)).lookup 44 = some (.iload_n 1, 1, 0, 0, 0) := by decide +kernel
theorem l98_45 : (ax_dt (ax_T 98)).lookup 45 = some (.iload_n 2, 1, 0, 0, 0) := by decide +kernel
theorem l98_46 : (ax_dt (ax_T 98)).lookup 46 = some (.invokevirtual 109, 3, 118, 2, 0) := by decide +kernel
theorem l98_49 : (ax_dt (ax_T 98)).lookup 49 = some (.iload_n 3, 1, 0, 0, 0) := by decide +kernel
theorem l98_50 : (ax_dt (ax_T 98)).lookup 50 = some (.invokestatic 144, 3, 17, 1, 0) := by decide +kernel
theorem l98_53 : (ax_dt (ax_T 98)).lookup 53 = some (.ifCond .ne 13, 3, 0, 0, 0) := by decide +kernel
theorem l98_66 : (ax_dt (ax_T 98)).lookup 66 = some (.aload_n 0, 1, 0, 0, 0) := by decide +kernel
theorem l98_67 : (ax_dt (ax_T 98)).lookup 67 = some (.iload_n 1, 1, 0, 0, 0) := by decide +kernel
theorem l98_68 : (ax_dt (ax_T 98)).lookup 68 = some (.iconst 0, 1, 0, 0, 0) := by decide +kernel
theorem l98_69 : (ax_dt (ax_T 98)).lookup 69 = some (.invokevirtual 125, 3, 120, 2, 0) := by decide +kernel
theorem l98_72 : (ax_dt (ax_T 98)).lookup 72 = some (.aload_n 0, 1, 0, 0, 0) := by decide +kernel
theorem l98_73 : (ax_dt (ax_T 98)).lookup 73 = some (.getfield 31, 3, 8, 3, 0) := by decide +kernel
theorem l98_76 : (ax_dt (ax_T 98)).lookup 76 = some (.invokevirtual 89, 3, 23, 0, 0) := by decide +kernel
theorem l98_79 : (ax_dt (ax_T 98)).lookup 79 = some (.aload_n 0, 1, 0, 0, 0) := by decide +kernel
theorem l98_80 : (ax_dt (ax_T 98)).lookup 80 = some (.getfield 45, 3, 8, 5, 0) := by decide +kernel
theorem l98_83 : (ax_dt (ax_T 98)).lookup 83 = some (.iload_n 1, 1, 0, 0, 0) := by decide +kernel
theorem l98_84 : (ax_dt (ax_T 98)).lookup 84 = some (.iload_n 2, 1, 0, 0, 0) := by decide +kernel
theorem l98_85 : (ax_dt (ax_T 98)).lookup 85 = some (.iload_n 3, 1, 0, 0, 0) := by decide +kernel
theorem l98_86 : (ax_dt (ax_T 98)).lookup 86 = some (.iload 4, 2, 0, 0, 0) := by decide +kernel
theorem l98_88 : (ax_dt (ax_T 98)).lookup 88 = some (.i2l, 1, 0, 0, 0) := by decide +kernel
theorem l98_89 : (ax_dt (ax_T 98)).lookup 89 = some (.iconst 0, 1, 0, 0, 0) := by decide +kernel
theorem l98_90 : (ax_dt (ax_T 98)).lookup 90 = some (.invokevirtual 128, 3, 82, 5, 0) := by decide +kernel
theorem l98_93 : (ax_dt (ax_T 98)).lookup 93 = some (.ireturn, 1, 0, 0, 0) := by decide +kernel
theorem x98_33 : (ax_dx (ax_T 98)).lookup 33 = some ("java/lang/IllegalStateException", "an entry of another unit", 53, 142, 57, false) := by decide +kernel
theorem x98_56 : (ax_dx (ax_T 98)).lookup 56 = some ("java/lang/IllegalArgumentException", "no form of a reference", 66, 147, 70, false) := by decide +kernel
noncomputable def F_X10_reference (v1 : Int) (v2 : Int) (v3 : Int) (v4 : Int) (μ : bM) : Option ((Int ⊕ String) × bM) := bXm (F_X10_needEntry v1 μ) (fun w1 μ2 => bXm (F_X10_needEntry v4 μ2) (fun w4 μ5 => bG (0 ≤ v1 ∧ v1 < 400) (bG (0 ≤ v4 ∧ v4 < 400) (if (μ5 ((μ5 1 5).toNat + 4) v1.toNat) = (μ5 ((μ5 1 5).toNat + 4) v4.toNat) then bXm (F_X10_needNewName v1 v2 μ5) (fun w8 μ9 => (F_X2_isReference v3 μ9).bind fun w11 => if ¬ w11 = 0 then bXm (F_X10_needRoom v1 0 μ9) (fun w13 μ14 => bMm (F_X3_forget μ14) (fun w16 μ17 => bMm (F_X8_addAttribute (μ17 1 5).toNat v1 v2 v3 v4 0 μ17) (fun w19 μ20 => some (.inl w19, μ20)))) (fun e μ => some (.inr e, μ)) else some (.inr "java/lang/IllegalArgumentException", μ9)) (fun e μ => some (.inr e, μ)) else some (.inr "java/lang/IllegalStateException", μ5)))) (fun e μ => some (.inr e, μ))) (fun e μ => some (.inr e, μ))
theorem r_X10_reference {L : Nat} {xs : Nat → Int32} {d : Nat} {μ : bM}  (v1 : Int) (h1 : bR v1) (v2 : Int) (h2 : bR v2) (v3 : Int) (h3 : bR v3) (v4 : Int) (h4 : bR v4) : bD L xs (d + 3) 98 0 [(0, .ref 1), (1, bI v1), (2, bI v2), (3, bI v3), (4, bI v4)] [] μ ((F_X10_reference v1 v2 v3 v4 μ).bind (bXc)) := by
  have hr : ∀ r, (bXc) r = (bXc) r := fun _ => rfl
  unfold F_X10_reference
  refine bD.ok fun hk => ?_
  refine b_s (pc' := 1) (lv1 := [(0, .ref 1), (1, bI v1), (2, bI v2), (3, bI v3), (4, bI v4)]) (st' := [.ref 1]) l98_0 (fun _ => rfl) ?_
  refine b_s (pc' := 2) (lv1 := [(0, .ref 1), (1, bI v1), (2, bI v2), (3, bI v3), (4, bI v4)]) (st' := [bI v1, .ref 1]) l98_1 (fun _ => rfl) ?_
  refine b_cXv l98_2 rfl (b_rc (ci := 8) (by rfl) (by decide) (by decide +kernel)) (Nat.le_of_ble_eq_true rfl) (Nat.le_of_ble_eq_true rfl) rfl (r_X10_needEntry v1 h1) ⟨fun _ z => (by cases z), (by decide +kernel)⟩ rfl (fun _ _ => hr _) fun w1 μ2 hw1 => bD.ok fun hk3 => b_pc (pc' := 5) rfl ?_
  refine b_s (pc' := 6) (lv1 := [(0, .ref 1), (1, bI v1), (2, bI v2), (3, bI v3), (4, bI v4)]) (st' := [.ref 1]) l98_5 (fun _ => rfl) ?_
  refine b_s (pc' := 8) (lv1 := [(0, .ref 1), (1, bI v1), (2, bI v2), (3, bI v3), (4, bI v4)]) (st' := [bI v4, .ref 1]) l98_6 (fun _ => rfl) ?_
  refine b_cXv l98_8 rfl (b_rc (ci := 8) (by rfl) (by decide) (by decide +kernel)) (Nat.le_of_ble_eq_true rfl) (Nat.le_of_ble_eq_true rfl) rfl (r_X10_needEntry v4 h4) ⟨fun _ z => (by cases z), (by decide +kernel)⟩ rfl (fun _ _ => hr _) fun w4 μ5 hw4 => bD.ok fun hk6 => b_pc (pc' := 11) rfl ?_
  refine b_s (pc' := 12) (lv1 := [(0, .ref 1), (1, bI v1), (2, bI v2), (3, bI v3), (4, bI v4)]) (st' := [.ref 1]) l98_11 (fun _ => rfl) ?_
  refine b_gr l98_12 (by rfl) (by decide) (by decide) rfl (b_pc (pc' := 15) rfl ?_)
  refine b_gp (q' := ((μ5 1 5).toNat + 4)) (j := 4) l98_15 (bO_ft hk6 (ci := 8) (by rfl) rfl) (by decide) (by decide) rfl hk6 rfl rfl (b_pc (pc' := 18) rfl ?_)
  refine b_s (pc' := 19) (lv1 := [(0, .ref 1), (1, bI v1), (2, bI v2), (3, bI v3), (4, bI v4)]) (st' := [bI v1, .ref ((μ5 1 5).toNat + 4)]) l98_18 (fun _ => rfl) ?_
  refine b_g fun g23 => ?_
  refine b_ial l98_19 (bTree_e (bO_ft hk6 (ci := 8) (by rfl) rfl) 4 (by decide)) g23 (b_pc (pc' := 20) rfl ?_)
  refine b_s (pc' := 21) (lv1 := [(0, .ref 1), (1, bI v1), (2, bI v2), (3, bI v3), (4, bI v4)]) (st' := [.ref 1, bI (μ5 ((μ5 1 5).toNat + 4) v1.toNat)]) l98_20 (fun _ => rfl) ?_
  refine b_gr l98_21 (by rfl) (by decide) (by decide) rfl (b_pc (pc' := 24) rfl ?_)
  refine b_gp (q' := ((μ5 1 5).toNat + 4)) (j := 4) l98_24 (bO_ft hk6 (ci := 8) (by rfl) rfl) (by decide) (by decide) rfl hk6 rfl rfl (b_pc (pc' := 27) rfl ?_)
  refine b_s (pc' := 29) (lv1 := [(0, .ref 1), (1, bI v1), (2, bI v2), (3, bI v3), (4, bI v4)]) (st' := [bI v4, .ref ((μ5 1 5).toNat + 4), bI (μ5 ((μ5 1 5).toNat + 4) v1.toNat)]) l98_27 (fun _ => rfl) ?_
  refine b_g fun g22 => ?_
  refine b_ial l98_29 (bTree_e (bO_ft hk6 (ci := 8) (by rfl) rfl) 4 (by decide)) g22 (b_pc (pc' := 30) rfl ?_)
  refine b_ieq (pt := 43) l98_30 (bO_i hk6 (bTree_e (bO_ft hk6 (ci := 8) (by rfl) rfl) 4 (by decide))) (bO_i hk6 (bTree_e (bO_ft hk6 (ci := 8) (by rfl) rfl) 4 (by decide))) (by decide) rfl (fun c7 => ?_) (fun c7 => b_pc (pc' := 33) rfl ?_)
  · refine b_s (pc' := 44) (lv1 := [(0, .ref 1), (1, bI v1), (2, bI v2), (3, bI v3), (4, bI v4)]) (st' := [.ref 1]) l98_43 (fun _ => rfl) ?_
    refine b_s (pc' := 45) (lv1 := [(0, .ref 1), (1, bI v1), (2, bI v2), (3, bI v3), (4, bI v4)]) (st' := [bI v1, .ref 1]) l98_44 (fun _ => rfl) ?_
    refine b_s (pc' := 46) (lv1 := [(0, .ref 1), (1, bI v1), (2, bI v2), (3, bI v3), (4, bI v4)]) (st' := [bI v2, bI v1, .ref 1]) l98_45 (fun _ => rfl) ?_
    refine b_cXv l98_46 rfl (b_rc (ci := 8) (by rfl) (by decide) (by decide +kernel)) (Nat.le_of_ble_eq_true rfl) (Nat.le_of_ble_eq_true rfl) rfl (r_X10_needNewName v1 h1 v2 h2) ⟨fun _ z => (by cases z), (by decide +kernel)⟩ rfl (fun _ _ => hr _) fun w8 μ9 hw8 => bD.ok fun hk10 => b_pc (pc' := 49) rfl ?_
    refine b_s (pc' := 50) (lv1 := [(0, .ref 1), (1, bI v1), (2, bI v2), (3, bI v3), (4, bI v4)]) (st' := [bI v3]) l98_49 (fun _ => rfl) ?_
    refine b_cPz l98_50 rfl (fun _ => trivial) (Nat.le_of_ble_eq_true rfl) (Nat.le_of_ble_eq_true rfl) rfl (r_X2_isReference v3 h3) fun w11 hw11 => b_pc (pc' := 53) rfl ?_
    refine b_zne (pt := 66) l98_53 (bZ_R hw11) (by decide) rfl (fun c12 => ?_) (fun c12 => b_pc (pc' := 56) rfl ?_)
    · refine b_s (pc' := 67) (lv1 := [(0, .ref 1), (1, bI v1), (2, bI v2), (3, bI v3), (4, bI v4)]) (st' := [.ref 1]) l98_66 (fun _ => rfl) ?_
      refine b_s (pc' := 68) (lv1 := [(0, .ref 1), (1, bI v1), (2, bI v2), (3, bI v3), (4, bI v4)]) (st' := [bI v1, .ref 1]) l98_67 (fun _ => rfl) ?_
      refine b_s (pc' := 69) (lv1 := [(0, .ref 1), (1, bI v1), (2, bI v2), (3, bI v3), (4, bI v4)]) (st' := [bI 0, bI v1, .ref 1]) l98_68 (fun _ => rfl) ?_
      refine b_cXv l98_69 rfl (b_rc (ci := 8) (by rfl) (by decide) (by decide +kernel)) (Nat.le_of_ble_eq_true rfl) (Nat.le_of_ble_eq_true rfl) rfl (r_X10_needRoom v1 h1 0 (by decide)) ⟨fun _ z => (by cases z), (by decide +kernel)⟩ rfl (fun _ _ => hr _) fun w13 μ14 hw13 => bD.ok fun hk15 => b_pc (pc' := 72) rfl ?_
      refine b_s (pc' := 73) (lv1 := [(0, .ref 1), (1, bI v1), (2, bI v2), (3, bI v3), (4, bI v4)]) (st' := [.ref 1]) l98_72 (fun _ => rfl) ?_
      refine b_gp (q' := 13) (j := 12) l98_73 (by rfl) (by decide) (by decide) rfl hk15 rfl rfl (b_pc (pc' := 76) rfl ?_)
      refine b_cMv l98_76 rfl (b_rc (ci := 2) (by rfl) (by decide) (by decide +kernel)) (Nat.le_of_ble_eq_true rfl) (Nat.le_of_ble_eq_true rfl) rfl (r_X3_forget ) fun w16 μ17 hw16 => bD.ok fun hk18 => b_pc (pc' := 79) rfl ?_
      refine b_s (pc' := 80) (lv1 := [(0, .ref 1), (1, bI v1), (2, bI v2), (3, bI v3), (4, bI v4)]) (st' := [.ref 1]) l98_79 (fun _ => rfl) ?_
      refine b_gr l98_80 (by rfl) (by decide) (by decide) rfl (b_pc (pc' := 83) rfl ?_)
      refine b_s (pc' := 84) (lv1 := [(0, .ref 1), (1, bI v1), (2, bI v2), (3, bI v3), (4, bI v4)]) (st' := [bI v1, .ref (μ17 1 5).toNat]) l98_83 (fun _ => rfl) ?_
      refine b_s (pc' := 85) (lv1 := [(0, .ref 1), (1, bI v1), (2, bI v2), (3, bI v3), (4, bI v4)]) (st' := [bI v2, bI v1, .ref (μ17 1 5).toNat]) l98_84 (fun _ => rfl) ?_
      refine b_s (pc' := 86) (lv1 := [(0, .ref 1), (1, bI v1), (2, bI v2), (3, bI v3), (4, bI v4)]) (st' := [bI v3, bI v2, bI v1, .ref (μ17 1 5).toNat]) l98_85 (fun _ => rfl) ?_
      refine b_s (pc' := 88) (lv1 := [(0, .ref 1), (1, bI v1), (2, bI v2), (3, bI v3), (4, bI v4)]) (st' := [bI v4, bI v3, bI v2, bI v1, .ref (μ17 1 5).toNat]) l98_86 (fun _ => rfl) ?_
      refine b_i2l l98_88 h4 (b_pc (pc' := 89) rfl ?_)
      refine b_s (pc' := 90) (lv1 := [(0, .ref 1), (1, bI v1), (2, bI v2), (3, bI v3), (4, bI v4)]) (st' := [bI 0, bLg v4, bI v3, bI v2, bI v1, .ref (μ17 1 5).toNat]) l98_89 (fun _ => rfl) ?_
      refine b_cMi l98_90 rfl (b_rc (ci := 7) (bO_ft hk18 (ci := 8) (by rfl) rfl) (by decide) (by decide +kernel)) (Nat.le_of_ble_eq_true rfl) (Nat.le_of_ble_eq_true rfl) rfl (r_X8_addAttribute (μ17 1 5).toNat (bO_ft hk18 (ci := 8) (by rfl) rfl) v1 h1 v2 h2 v3 h3 v4 (bR_L h4) 0 (by decide)) fun w19 μ20 hw19 => bD.ok fun hk21 => b_pc (pc' := 93) rfl ?_
      exact b_reti l98_93 rfl hw19 (hr _)
    · exact b_thr x98_56 (by decide) (Nat.le_of_ble_eq_true rfl) (hr _)
  · exact b_thr x98_33 (by decide) (Nat.le_of_ble_eq_true rfl) (hr _)
/-! ET.clear -/
theorem l99_0 : (ax_dt (ax_T 99)).lookup 0 = some (.aload_n 0, 1, 0, 0, 0) := by decide +kernel
theorem l99_1 : (ax_dt (ax_T 99)).lookup 1 = some (.getfield 45, 3, 8, 5, 0) := by decide +kernel
theorem l99_4 : (ax_dt (ax_T 99)).lookup 4 = some (.getfield 81, 3, 7, 1, 0) := by decide +kernel
theorem l99_7 : (ax_dt (ax_T 99)).lookup 7 = some (.istore_n 1, 1, 0, 0, 0) := by decide +kernel
theorem l99_8 : (ax_dt (ax_T 99)).lookup 8 = some (.aload_n 0, 1, 0, 0, 0) := by decide +kernel
theorem l99_9 : (ax_dt (ax_T 99)).lookup 9 = some (.getfield 45, 3, 8, 5, 0) := by decide +kernel
theorem l99_12 : (ax_dt (ax_T 99)).lookup 12 = some (.invokevirtual 149, 3, 78, 0, 0) := by decide +kernel
theorem l99_15 : (ax_dt (ax_T 99)).lookup 15 = some (.aload_n 0, 1, 0, 0, 0) := by decide +kernel
theorem l99_16 : (ax_dt (ax_T 99)).lookup 16 = some (.getfield 18, 3, 8, 1, 0) := by decide +kernel
theorem l99_19 : (ax_dt (ax_T 99)).lookup 19 = some (.iconst 0, 1, 0, 0, 0) := by decide +kernel
theorem l99_20 : (ax_dt (ax_T 99)).lookup 20 = some (.invokevirtual 71, 3, 57, 1, 0) := by decide +kernel
theorem l99_23 : (ax_dt (ax_T 99)).lookup 23 = some (.aload_n 0, 1, 0, 0, 0) := by decide +kernel
theorem l99_24 : (ax_dt (ax_T 99)).lookup 24 = some (.getfield 31, 3, 8, 3, 0) := by decide +kernel
theorem l99_27 : (ax_dt (ax_T 99)).lookup 27 = some (.invokevirtual 89, 3, 23, 0, 0) := by decide +kernel
theorem l99_30 : (ax_dt (ax_T 99)).lookup 30 = some (.iload_n 1, 1, 0, 0, 0) := by decide +kernel
theorem l99_31 : (ax_dt (ax_T 99)).lookup 31 = some (.ireturn, 1, 0, 0, 0) := by decide +kernel
noncomputable def F_X10_clear (μ : bM) : Option (Int × bM) := bMm (F_X8_forget (μ 1 5).toNat μ) (fun w1 μ2 => bMm (F_X6_cut 4 0 μ2) (fun w4 μ5 => bMm (F_X3_forget μ5) (fun w7 μ8 => some ((μ (μ 1 5).toNat 1), μ8))))
theorem r_X10_clear {L : Nat} {xs : Nat → Int32} {d : Nat} {μ : bM}   : bD L xs (d + 1) 99 0 [(0, .ref 1)] [] μ ((F_X10_clear μ).bind (bMc)) := by
  have hr : ∀ r, (bMc) r = (bMc) r := fun _ => rfl
  unfold F_X10_clear
  refine bD.ok fun hk => ?_
  refine b_s (pc' := 1) (lv1 := [(0, .ref 1)]) (st' := [.ref 1]) l99_0 (fun _ => rfl) ?_
  refine b_gr l99_1 (by rfl) (by decide) (by decide) rfl (b_pc (pc' := 4) rfl ?_)
  refine b_gi l99_4 (bO_ft hk (ci := 8) (by rfl) rfl) (by decide) (by decide) rfl (b_pc (pc' := 7) rfl ?_)
  refine b_w (pc' := 8) (lv1 := ax_st1 [(0, .ref 1)] 1 (bI (μ (μ 1 5).toNat 1))) (lv' := [(0, .ref 1), (1, bI (μ (μ 1 5).toNat 1))]) (st' := []) l99_7 (fun _ => rfl) (bSb rfl (bSb rfl bSn)) ?_
  refine b_s (pc' := 9) (lv1 := [(0, .ref 1), (1, bI (μ (μ 1 5).toNat 1))]) (st' := [.ref 1]) l99_8 (fun _ => rfl) ?_
  refine b_gr l99_9 (by rfl) (by decide) (by decide) rfl (b_pc (pc' := 12) rfl ?_)
  refine b_cMv l99_12 rfl (b_rc (ci := 7) (bO_ft hk (ci := 8) (by rfl) rfl) (by decide) (by decide +kernel)) (Nat.le_of_ble_eq_true rfl) (Nat.le_of_ble_eq_true rfl) rfl (r_X8_forget (μ 1 5).toNat (bO_ft hk (ci := 8) (by rfl) rfl)) fun w1 μ2 hw1 => bD.ok fun hk3 => b_pc (pc' := 15) rfl ?_
  refine b_s (pc' := 16) (lv1 := [(0, .ref 1), (1, bI (μ (μ 1 5).toNat 1))]) (st' := [.ref 1]) l99_15 (fun _ => rfl) ?_
  refine b_gp (q' := 4) (j := 3) l99_16 (by rfl) (by decide) (by decide) rfl hk3 rfl rfl (b_pc (pc' := 19) rfl ?_)
  refine b_s (pc' := 20) (lv1 := [(0, .ref 1), (1, bI (μ (μ 1 5).toNat 1))]) (st' := [bI 0, .ref 4]) l99_19 (fun _ => rfl) ?_
  refine b_cMv l99_20 rfl (b_rc (ci := 5) (by rfl) (by decide) (by decide +kernel)) (Nat.le_of_ble_eq_true rfl) (Nat.le_of_ble_eq_true rfl) rfl (r_X6_cut 4 (by rfl) 0 (by decide)) fun w4 μ5 hw4 => bD.ok fun hk6 => b_pc (pc' := 23) rfl ?_
  refine b_s (pc' := 24) (lv1 := [(0, .ref 1), (1, bI (μ (μ 1 5).toNat 1))]) (st' := [.ref 1]) l99_23 (fun _ => rfl) ?_
  refine b_gp (q' := 13) (j := 12) l99_24 (by rfl) (by decide) (by decide) rfl hk6 rfl rfl (b_pc (pc' := 27) rfl ?_)
  refine b_cMv l99_27 rfl (b_rc (ci := 2) (by rfl) (by decide) (by decide +kernel)) (Nat.le_of_ble_eq_true rfl) (Nat.le_of_ble_eq_true rfl) rfl (r_X3_forget ) fun w7 μ8 hw7 => bD.ok fun hk9 => b_pc (pc' := 30) rfl ?_
  refine b_s (pc' := 31) (lv1 := [(0, .ref 1), (1, bI (μ (μ 1 5).toNat 1))]) (st' := [bI (μ (μ 1 5).toNat 1)]) l99_30 (fun _ => rfl) ?_
  exact b_reti l99_31 rfl (bO_f hk (ci := 7) (bO_ft hk (ci := 8) (by rfl) rfl) rfl) (hr _)
/-! ET.write -/
theorem l100_0 : (ax_dt (ax_T 100)).lookup 0 = some (.aload_n 0, 1, 0, 0, 0) := by decide +kernel
theorem l100_1 : (ax_dt (ax_T 100)).lookup 1 = some (.getfield 31, 3, 8, 3, 0) := by decide +kernel
theorem l100_4 : (ax_dt (ax_T 100)).lookup 4 = some (.aload_n 0, 1, 0, 0, 0) := by decide +kernel
theorem l100_5 : (ax_dt (ax_T 100)).lookup 5 = some (.getfield 45, 3, 8, 5, 0) := by decide +kernel
theorem l100_8 : (ax_dt (ax_T 100)).lookup 8 = some (.aload_n 0, 1, 0, 0, 0) := by decide +kernel
theorem l100_9 : (ax_dt (ax_T 100)).lookup 9 = some (.getfield 18, 3, 8, 1, 0) := by decide +kernel
theorem l100_12 : (ax_dt (ax_T 100)).lookup 12 = some (.invokevirtual 150, 3, 24, 2, 0) := by decide +kernel
theorem l100_15 : (ax_dt (ax_T 100)).lookup 15 = some (.aload_n 0, 1, 0, 0, 0) := by decide +kernel
theorem l100_16 : (ax_dt (ax_T 100)).lookup 16 = some (.getfield 31, 3, 8, 3, 0) := by decide +kernel
theorem l100_19 : (ax_dt (ax_T 100)).lookup 19 = some (.getfield 154, 3, 2, 2, 0) := by decide +kernel
theorem l100_22 : (ax_dt (ax_T 100)).lookup 22 = some (.sipush 24000, 3, 0, 0, 0) := by decide +kernel
theorem l100_25 : (ax_dt (ax_T 100)).lookup 25 = some (.if_icmp .gt 29, 3, 0, 0, 0) := by decide +kernel
theorem l100_28 : (ax_dt (ax_T 100)).lookup 28 = some (.aload_n 0, 1, 0, 0, 0) := by decide +kernel
theorem l100_29 : (ax_dt (ax_T 100)).lookup 29 = some (.getfield 31, 3, 8, 3, 0) := by decide +kernel
theorem l100_32 : (ax_dt (ax_T 100)).lookup 32 = some (.getfield 157, 3, 2, 3, 0) := by decide +kernel
theorem l100_35 : (ax_dt (ax_T 100)).lookup 35 = some (.sipush 8000, 3, 0, 0, 0) := by decide +kernel
theorem l100_38 : (ax_dt (ax_T 100)).lookup 38 = some (.if_icmp .gt 16, 3, 0, 0, 0) := by decide +kernel
theorem l100_41 : (ax_dt (ax_T 100)).lookup 41 = some (.aload_n 0, 1, 0, 0, 0) := by decide +kernel
theorem l100_42 : (ax_dt (ax_T 100)).lookup 42 = some (.getfield 31, 3, 8, 3, 0) := by decide +kernel
theorem l100_45 : (ax_dt (ax_T 100)).lookup 45 = some (.getfield 160, 3, 2, 4, 0) := by decide +kernel
theorem l100_48 : (ax_dt (ax_T 100)).lookup 48 = some (.sipush 8000, 3, 0, 0, 0) := by decide +kernel
theorem l100_51 : (ax_dt (ax_T 100)).lookup 51 = some (.if_icmp .le 6, 3, 0, 0, 0) := by decide +kernel
theorem l100_54 : (ax_dt (ax_T 100)).lookup 54 = some (.bipush (-2), 2, 0, 0, 0) := by decide +kernel
theorem l100_56 : (ax_dt (ax_T 100)).lookup 56 = some (.ireturn, 1, 0, 0, 0) := by decide +kernel
theorem l100_57 : (ax_dt (ax_T 100)).lookup 57 = some (.aload_n 0, 1, 0, 0, 0) := by decide +kernel
theorem l100_58 : (ax_dt (ax_T 100)).lookup 58 = some (.getfield 45, 3, 8, 5, 0) := by decide +kernel
theorem l100_61 : (ax_dt (ax_T 100)).lookup 61 = some (.aload_n 0, 1, 0, 0, 0) := by decide +kernel
theorem l100_62 : (ax_dt (ax_T 100)).lookup 62 = some (.getfield 18, 3, 8, 1, 0) := by decide +kernel
theorem l100_65 : (ax_dt (ax_T 100)).lookup 65 = some (.aload_n 0, 1, 0, 0, 0) := by decide +kernel
theorem l100_66 : (ax_dt (ax_T 100)).lookup 66 = some (.getfield 31, 3, 8, 3, 0) := by decide +kernel
theorem l100_69 : (ax_dt (ax_T 100)).lookup 69 = some (.aload_n 0, 1, 0, 0, 0) := by decide +kernel
theorem l100_70 : (ax_dt (ax_T 100)).lookup 70 = some (.getfield 24, 3, 8, 2, 0) := by decide +kernel
theorem l100_73 : (ax_dt (ax_T 100)).lookup 73 = some (.getfield 163, 3, 4, 0, 0) := by decide +kernel
theorem l100_76 : (ax_dt (ax_T 100)).lookup 76 = some (.invokestatic 165, 3, 86, 4, 0) := by decide +kernel
theorem l100_79 : (ax_dt (ax_T 100)).lookup 79 = some (.aload_n 0, 1, 0, 0, 0) := by decide +kernel
theorem l100_80 : (ax_dt (ax_T 100)).lookup 80 = some (.getfield 45, 3, 8, 5, 0) := by decide +kernel
theorem l100_83 : (ax_dt (ax_T 100)).lookup 83 = some (.aload_n 0, 1, 0, 0, 0) := by decide +kernel
theorem l100_84 : (ax_dt (ax_T 100)).lookup 84 = some (.getfield 31, 3, 8, 3, 0) := by decide +kernel
theorem l100_87 : (ax_dt (ax_T 100)).lookup 87 = some (.aload_n 0, 1, 0, 0, 0) := by decide +kernel
theorem l100_88 : (ax_dt (ax_T 100)).lookup 88 = some (.getfield 24, 3, 8, 2, 0) := by decide +kernel
theorem l100_91 : (ax_dt (ax_T 100)).lookup 91 = some (.getfield 171, 3, 4, 1, 0) := by decide +kernel
theorem l100_94 : (ax_dt (ax_T 100)).lookup 94 = some (.invokestatic 174, 3, 89, 3, 0) := by decide +kernel
theorem l100_97 : (ax_dt (ax_T 100)).lookup 97 = some (.aload_n 0, 1, 0, 0, 0) := by decide +kernel
theorem l100_98 : (ax_dt (ax_T 100)).lookup 98 = some (.getfield 45, 3, 8, 5, 0) := by decide +kernel
theorem l100_101 : (ax_dt (ax_T 100)).lookup 101 = some (.aload_n 0, 1, 0, 0, 0) := by decide +kernel
theorem l100_102 : (ax_dt (ax_T 100)).lookup 102 = some (.getfield 18, 3, 8, 1, 0) := by decide +kernel
theorem l100_105 : (ax_dt (ax_T 100)).lookup 105 = some (.aload_n 0, 1, 0, 0, 0) := by decide +kernel
theorem l100_106 : (ax_dt (ax_T 100)).lookup 106 = some (.getfield 31, 3, 8, 3, 0) := by decide +kernel
theorem l100_109 : (ax_dt (ax_T 100)).lookup 109 = some (.aload_n 0, 1, 0, 0, 0) := by decide +kernel
theorem l100_110 : (ax_dt (ax_T 100)).lookup 110 = some (.getfield 24, 3, 8, 2, 0) := by decide +kernel
theorem l100_113 : (ax_dt (ax_T 100)).lookup 113 = some (.getfield 178, 3, 4, 2, 0) := by decide +kernel
theorem l100_116 : (ax_dt (ax_T 100)).lookup 116 = some (.invokestatic 181, 3, 90, 4, 0) := by decide +kernel
theorem l100_119 : (ax_dt (ax_T 100)).lookup 119 = some (.aload_n 0, 1, 0, 0, 0) := by decide +kernel
theorem l100_120 : (ax_dt (ax_T 100)).lookup 120 = some (.getfield 24, 3, 8, 2, 0) := by decide +kernel
theorem l100_123 : (ax_dt (ax_T 100)).lookup 123 = some (.getfield 163, 3, 4, 0, 0) := by decide +kernel
theorem l100_126 : (ax_dt (ax_T 100)).lookup 126 = some (.invokevirtual 63, 3, 52, 0, 0) := by decide +kernel
theorem l100_129 : (ax_dt (ax_T 100)).lookup 129 = some (.aload_n 0, 1, 0, 0, 0) := by decide +kernel
theorem l100_130 : (ax_dt (ax_T 100)).lookup 130 = some (.getfield 24, 3, 8, 2, 0) := by decide +kernel
theorem l100_133 : (ax_dt (ax_T 100)).lookup 133 = some (.getfield 171, 3, 4, 1, 0) := by decide +kernel
theorem l100_136 : (ax_dt (ax_T 100)).lookup 136 = some (.invokevirtual 63, 3, 52, 0, 0) := by decide +kernel
theorem l100_139 : (ax_dt (ax_T 100)).lookup 139 = some (.iadd, 1, 0, 0, 0) := by decide +kernel
theorem l100_140 : (ax_dt (ax_T 100)).lookup 140 = some (.aload_n 0, 1, 0, 0, 0) := by decide +kernel
theorem l100_141 : (ax_dt (ax_T 100)).lookup 141 = some (.getfield 24, 3, 8, 2, 0) := by decide +kernel
theorem l100_144 : (ax_dt (ax_T 100)).lookup 144 = some (.getfield 178, 3, 4, 2, 0) := by decide +kernel
theorem l100_147 : (ax_dt (ax_T 100)).lookup 147 = some (.invokevirtual 63, 3, 52, 0, 0) := by decide +kernel
theorem l100_150 : (ax_dt (ax_T 100)).lookup 150 = some (.iadd, 1, 0, 0, 0) := by decide +kernel
theorem l100_151 : (ax_dt (ax_T 100)).lookup 151 = some (.ireturn, 1, 0, 0, 0) := by decide +kernel
noncomputable def F_X10_write (μ : bM) : Option (Int × bM) := bMm (F_X3_reckon (μ 1 5).toNat 4 μ) (fun w1 μ2 => if 24000 < (μ2 13 2) then some ((-2), μ2) else if 8000 < (μ2 13 3) then some ((-2), μ2) else if (μ2 13 4) ≤ 8000 then bMm (F_X9_writeUnits (μ2 1 5).toNat 4 7 μ2) (fun w7 μ8 => bMm (F_X9_writeShapes (μ8 1 5).toNat 9 μ8) (fun w10 μ11 => bMm (F_X9_writeTexts (μ11 1 5).toNat 4 11 μ11) (fun w13 μ14 => (F_X6_used 7 μ14).bind fun w16 => (F_X6_used 9 μ14).bind fun w17 => bG (bR (w16 + w17)) ((F_X6_used 11 μ14).bind fun w19 => bG (bR ((w16 + w17) + w19)) (some (((w16 + w17) + w19), μ14)))))) else some ((-2), μ2))
theorem r_X10_write {L : Nat} {xs : Nat → Int32} {d : Nat} {μ : bM}   : bD L xs (d + 6) 100 0 [(0, .ref 1)] [] μ ((F_X10_write μ).bind (bMc)) := by
  have hr : ∀ r, (bMc) r = (bMc) r := fun _ => rfl
  unfold F_X10_write
  refine bD.ok fun hk => ?_
  refine b_s (pc' := 1) (lv1 := [(0, .ref 1)]) (st' := [.ref 1]) l100_0 (fun _ => rfl) ?_
  refine b_gp (q' := 13) (j := 12) l100_1 (by rfl) (by decide) (by decide) rfl hk rfl rfl (b_pc (pc' := 4) rfl ?_)
  refine b_s (pc' := 5) (lv1 := [(0, .ref 1)]) (st' := [.ref 1, .ref 13]) l100_4 (fun _ => rfl) ?_
  refine b_gr l100_5 (by rfl) (by decide) (by decide) rfl (b_pc (pc' := 8) rfl ?_)
  refine b_s (pc' := 9) (lv1 := [(0, .ref 1)]) (st' := [.ref 1, .ref (μ 1 5).toNat, .ref 13]) l100_8 (fun _ => rfl) ?_
  refine b_gp (q' := 4) (j := 3) l100_9 (by rfl) (by decide) (by decide) rfl hk rfl rfl (b_pc (pc' := 12) rfl ?_)
  refine b_cMv l100_12 rfl (b_rc (ci := 2) (by rfl) (by decide) (by decide +kernel)) (Nat.le_of_ble_eq_true rfl) (Nat.le_of_ble_eq_true rfl) rfl (r_X3_reckon (μ 1 5).toNat (bO_ft hk (ci := 8) (by rfl) rfl) 4 (by rfl)) fun w1 μ2 hw1 => bD.ok fun hk3 => b_pc (pc' := 15) rfl ?_
  refine b_s (pc' := 16) (lv1 := [(0, .ref 1)]) (st' := [.ref 1]) l100_15 (fun _ => rfl) ?_
  refine b_gp (q' := 13) (j := 12) l100_16 (by rfl) (by decide) (by decide) rfl hk3 rfl rfl (b_pc (pc' := 19) rfl ?_)
  refine b_gi l100_19 (by rfl) (by decide) (by decide) rfl (b_pc (pc' := 22) rfl ?_)
  refine b_sipush l100_22 (by decide) (b_pc (pc' := 25) rfl ?_)
  refine b_igt (pt := 54) l100_25 (bO_f hk3 (ci := 2) (by rfl) rfl) (by decide) (by decide) rfl (fun c4 => ?_) (fun c4 => b_pc (pc' := 28) rfl ?_)
  · refine b_bipush l100_54 (by decide) (b_pc (pc' := 56) rfl ?_)
    exact b_reti l100_56 rfl (by decide) (hr _)
  · refine b_s (pc' := 29) (lv1 := [(0, .ref 1)]) (st' := [.ref 1]) l100_28 (fun _ => rfl) ?_
    refine b_gp (q' := 13) (j := 12) l100_29 (by rfl) (by decide) (by decide) rfl hk3 rfl rfl (b_pc (pc' := 32) rfl ?_)
    refine b_gi l100_32 (by rfl) (by decide) (by decide) rfl (b_pc (pc' := 35) rfl ?_)
    refine b_sipush l100_35 (by decide) (b_pc (pc' := 38) rfl ?_)
    refine b_igt (pt := 54) l100_38 (bO_f hk3 (ci := 2) (by rfl) rfl) (by decide) (by decide) rfl (fun c5 => ?_) (fun c5 => b_pc (pc' := 41) rfl ?_)
    · refine b_bipush l100_54 (by decide) (b_pc (pc' := 56) rfl ?_)
      exact b_reti l100_56 rfl (by decide) (hr _)
    · refine b_s (pc' := 42) (lv1 := [(0, .ref 1)]) (st' := [.ref 1]) l100_41 (fun _ => rfl) ?_
      refine b_gp (q' := 13) (j := 12) l100_42 (by rfl) (by decide) (by decide) rfl hk3 rfl rfl (b_pc (pc' := 45) rfl ?_)
      refine b_gi l100_45 (by rfl) (by decide) (by decide) rfl (b_pc (pc' := 48) rfl ?_)
      refine b_sipush l100_48 (by decide) (b_pc (pc' := 51) rfl ?_)
      refine b_ile (pt := 57) l100_51 (bO_f hk3 (ci := 2) (by rfl) rfl) (by decide) (by decide) rfl (fun c6 => ?_) (fun c6 => b_pc (pc' := 54) rfl ?_)
      · refine b_s (pc' := 58) (lv1 := [(0, .ref 1)]) (st' := [.ref 1]) l100_57 (fun _ => rfl) ?_
        refine b_gr l100_58 (by rfl) (by decide) (by decide) rfl (b_pc (pc' := 61) rfl ?_)
        refine b_s (pc' := 62) (lv1 := [(0, .ref 1)]) (st' := [.ref 1, .ref (μ2 1 5).toNat]) l100_61 (fun _ => rfl) ?_
        refine b_gp (q' := 4) (j := 3) l100_62 (by rfl) (by decide) (by decide) rfl hk3 rfl rfl (b_pc (pc' := 65) rfl ?_)
        refine b_s (pc' := 66) (lv1 := [(0, .ref 1)]) (st' := [.ref 1, .ref 4, .ref (μ2 1 5).toNat]) l100_65 (fun _ => rfl) ?_
        refine b_gp (q' := 13) (j := 12) l100_66 (by rfl) (by decide) (by decide) rfl hk3 rfl rfl (b_pc (pc' := 69) rfl ?_)
        refine b_s (pc' := 70) (lv1 := [(0, .ref 1)]) (st' := [.ref 1, .ref 13, .ref 4, .ref (μ2 1 5).toNat]) l100_69 (fun _ => rfl) ?_
        refine b_gp (q' := 6) (j := 5) l100_70 (by rfl) (by decide) (by decide) rfl hk3 rfl rfl (b_pc (pc' := 73) rfl ?_)
        refine b_gp (q' := 7) (j := 1) l100_73 (by rfl) (by decide) (by decide) rfl hk3 rfl rfl (b_pc (pc' := 76) rfl ?_)
        refine b_cMv l100_76 rfl (fun _ => trivial) (Nat.le_of_ble_eq_true rfl) (Nat.le_of_ble_eq_true rfl) rfl (r_X9_writeUnits (μ2 1 5).toNat (bO_ft hk3 (ci := 8) (by rfl) rfl) 4 (by rfl) 7 (by rfl)) fun w7 μ8 hw7 => bD.ok fun hk9 => b_pc (pc' := 79) rfl ?_
        refine b_s (pc' := 80) (lv1 := [(0, .ref 1)]) (st' := [.ref 1]) l100_79 (fun _ => rfl) ?_
        refine b_gr l100_80 (by rfl) (by decide) (by decide) rfl (b_pc (pc' := 83) rfl ?_)
        refine b_s (pc' := 84) (lv1 := [(0, .ref 1)]) (st' := [.ref 1, .ref (μ8 1 5).toNat]) l100_83 (fun _ => rfl) ?_
        refine b_gp (q' := 13) (j := 12) l100_84 (by rfl) (by decide) (by decide) rfl hk9 rfl rfl (b_pc (pc' := 87) rfl ?_)
        refine b_s (pc' := 88) (lv1 := [(0, .ref 1)]) (st' := [.ref 1, .ref 13, .ref (μ8 1 5).toNat]) l100_87 (fun _ => rfl) ?_
        refine b_gp (q' := 6) (j := 5) l100_88 (by rfl) (by decide) (by decide) rfl hk9 rfl rfl (b_pc (pc' := 91) rfl ?_)
        refine b_gp (q' := 9) (j := 3) l100_91 (by rfl) (by decide) (by decide) rfl hk9 rfl rfl (b_pc (pc' := 94) rfl ?_)
        refine b_cMv l100_94 rfl (fun _ => trivial) (Nat.le_of_ble_eq_true rfl) (Nat.le_of_ble_eq_true rfl) rfl (r_X9_writeShapes (μ8 1 5).toNat (bO_ft hk9 (ci := 8) (by rfl) rfl) 9 (by rfl)) fun w10 μ11 hw10 => bD.ok fun hk12 => b_pc (pc' := 97) rfl ?_
        refine b_s (pc' := 98) (lv1 := [(0, .ref 1)]) (st' := [.ref 1]) l100_97 (fun _ => rfl) ?_
        refine b_gr l100_98 (by rfl) (by decide) (by decide) rfl (b_pc (pc' := 101) rfl ?_)
        refine b_s (pc' := 102) (lv1 := [(0, .ref 1)]) (st' := [.ref 1, .ref (μ11 1 5).toNat]) l100_101 (fun _ => rfl) ?_
        refine b_gp (q' := 4) (j := 3) l100_102 (by rfl) (by decide) (by decide) rfl hk12 rfl rfl (b_pc (pc' := 105) rfl ?_)
        refine b_s (pc' := 106) (lv1 := [(0, .ref 1)]) (st' := [.ref 1, .ref 4, .ref (μ11 1 5).toNat]) l100_105 (fun _ => rfl) ?_
        refine b_gp (q' := 13) (j := 12) l100_106 (by rfl) (by decide) (by decide) rfl hk12 rfl rfl (b_pc (pc' := 109) rfl ?_)
        refine b_s (pc' := 110) (lv1 := [(0, .ref 1)]) (st' := [.ref 1, .ref 13, .ref 4, .ref (μ11 1 5).toNat]) l100_109 (fun _ => rfl) ?_
        refine b_gp (q' := 6) (j := 5) l100_110 (by rfl) (by decide) (by decide) rfl hk12 rfl rfl (b_pc (pc' := 113) rfl ?_)
        refine b_gp (q' := 11) (j := 5) l100_113 (by rfl) (by decide) (by decide) rfl hk12 rfl rfl (b_pc (pc' := 116) rfl ?_)
        refine b_cMv l100_116 rfl (fun _ => trivial) (Nat.le_of_ble_eq_true rfl) (Nat.le_of_ble_eq_true rfl) rfl (r_X9_writeTexts (μ11 1 5).toNat (bO_ft hk12 (ci := 8) (by rfl) rfl) 4 (by rfl) 11 (by rfl)) fun w13 μ14 hw13 => bD.ok fun hk15 => b_pc (pc' := 119) rfl ?_
        refine b_s (pc' := 120) (lv1 := [(0, .ref 1)]) (st' := [.ref 1]) l100_119 (fun _ => rfl) ?_
        refine b_gp (q' := 6) (j := 5) l100_120 (by rfl) (by decide) (by decide) rfl hk15 rfl rfl (b_pc (pc' := 123) rfl ?_)
        refine b_gp (q' := 7) (j := 1) l100_123 (by rfl) (by decide) (by decide) rfl hk15 rfl rfl (b_pc (pc' := 126) rfl ?_)
        refine b_cPi l100_126 rfl (b_rc (ci := 5) (by rfl) (by decide) (by decide +kernel)) (Nat.le_of_ble_eq_true rfl) (Nat.le_of_ble_eq_true rfl) rfl (r_X6_used 7 (by rfl)) fun w16 hw16 => b_pc (pc' := 129) rfl ?_
        refine b_s (pc' := 130) (lv1 := [(0, .ref 1)]) (st' := [.ref 1, bI w16]) l100_129 (fun _ => rfl) ?_
        refine b_gp (q' := 6) (j := 5) l100_130 (by rfl) (by decide) (by decide) rfl hk15 rfl rfl (b_pc (pc' := 133) rfl ?_)
        refine b_gp (q' := 9) (j := 3) l100_133 (by rfl) (by decide) (by decide) rfl hk15 rfl rfl (b_pc (pc' := 136) rfl ?_)
        refine b_cPi l100_136 rfl (b_rc (ci := 5) (by rfl) (by decide) (by decide +kernel)) (Nat.le_of_ble_eq_true rfl) (Nat.le_of_ble_eq_true rfl) rfl (r_X6_used 9 (by rfl)) fun w17 hw17 => b_pc (pc' := 139) rfl ?_
        refine b_iadd l100_139 fun g18 => (b_pc (pc' := 140) rfl ?_)
        refine b_s (pc' := 141) (lv1 := [(0, .ref 1)]) (st' := [.ref 1, bI (w16 + w17)]) l100_140 (fun _ => rfl) ?_
        refine b_gp (q' := 6) (j := 5) l100_141 (by rfl) (by decide) (by decide) rfl hk15 rfl rfl (b_pc (pc' := 144) rfl ?_)
        refine b_gp (q' := 11) (j := 5) l100_144 (by rfl) (by decide) (by decide) rfl hk15 rfl rfl (b_pc (pc' := 147) rfl ?_)
        refine b_cPi l100_147 rfl (b_rc (ci := 5) (by rfl) (by decide) (by decide +kernel)) (Nat.le_of_ble_eq_true rfl) (Nat.le_of_ble_eq_true rfl) rfl (r_X6_used 11 (by rfl)) fun w19 hw19 => b_pc (pc' := 150) rfl ?_
        refine b_iadd l100_150 fun g20 => (b_pc (pc' := 151) rfl ?_)
        exact b_reti l100_151 rfl g20 (hr _)
      · refine b_bipush l100_54 (by decide) (b_pc (pc' := 56) rfl ?_)
        exact b_reti l100_56 rfl (by decide) (hr _)
/-! ET.needSection -/
theorem l121_0 : (ax_dt (ax_T 121)).lookup 0 = some (.iload_n 1, 1, 0, 0, 0) := by decide +kernel
theorem l121_1 : (ax_dt (ax_T 121)).lookup 1 = some (.ifCond .lt 8, 3, 0, 0, 0) := by decide +kernel
theorem l121_4 : (ax_dt (ax_T 121)).lookup 4 = some (.iload_n 1, 1, 0, 0, 0) := by decide +kernel
theorem l121_5 : (ax_dt (ax_T 121)).lookup 5 = some (.iconst 2, 1, 0, 0, 0) := by decide +kernel
theorem l121_6 : (ax_dt (ax_T 121)).lookup 6 = some (.if_icmp .le 14, 3, 0, 0, 0) := by decide +kernel
theorem l121_20 : (ax_dt (ax_T 121)).lookup 20 = some (.return_, 1, 0, 0, 0) := by decide +kernel
theorem x121_9 : (ax_dx (ax_T 121)).lookup 9 = some ("java/lang/IndexOutOfBoundsException", "no such section", 222, 321, 226, true) := by decide +kernel
noncomputable def F_X10_needSection (v1 : Int) (μ : bM) : Option ((Int ⊕ String) × bM) := if v1 < 0 then some (.inr "java/lang/IndexOutOfBoundsException", μ) else if v1 ≤ 2 then some (.inl 0, μ) else some (.inr "java/lang/IndexOutOfBoundsException", μ)
theorem r_X10_needSection {L : Nat} {xs : Nat → Int32} {d : Nat} {μ : bM}  (v1 : Int) (h1 : bR v1) : bD L xs (d + 0) 121 0 [(0, .ref 1), (1, bI v1)] [] μ ((F_X10_needSection v1 μ).bind (bXc)) := by
  have hr : ∀ r, (bXc) r = (bXc) r := fun _ => rfl
  unfold F_X10_needSection
  refine bD.ok fun hk => ?_
  refine b_s (pc' := 1) (lv1 := [(0, .ref 1), (1, bI v1)]) (st' := [bI v1]) l121_0 (fun _ => rfl) ?_
  refine b_zlt (pt := 9) l121_1 h1 (by decide) rfl (fun c1 => ?_) (fun c1 => b_pc (pc' := 4) rfl ?_)
  · exact b_thr x121_9 (by decide) (Nat.le_of_ble_eq_true rfl) (hr _)
  · refine b_s (pc' := 5) (lv1 := [(0, .ref 1), (1, bI v1)]) (st' := [bI v1]) l121_4 (fun _ => rfl) ?_
    refine b_s (pc' := 6) (lv1 := [(0, .ref 1), (1, bI v1)]) (st' := [bI 2, bI v1]) l121_5 (fun _ => rfl) ?_
    refine b_ile (pt := 20) l121_6 h1 (by decide) (by decide) rfl (fun c2 => ?_) (fun c2 => b_pc (pc' := 9) rfl ?_)
    · exact b_retv l121_20 rfl (hr _)
    · exact b_thr x121_9 (by decide) (Nat.le_of_ble_eq_true rfl) (hr _)
/-! ET.size -/
theorem l101_0 : (ax_dt (ax_T 101)).lookup 0 = some (.aload_n 0, 1, 0, 0, 0) := by decide +kernel
theorem l101_1 : (ax_dt (ax_T 101)).lookup 1 = some (.iload_n 1, 1, 0, 0, 0) := by decide +kernel
theorem l101_2 : (ax_dt (ax_T 101)).lookup 2 = some (.invokevirtual 184, 3, 121, 1, 0) := by decide +kernel
theorem l101_5 : (ax_dt (ax_T 101)).lookup 5 = some (.aload_n 0, 1, 0, 0, 0) := by decide +kernel
theorem l101_6 : (ax_dt (ax_T 101)).lookup 6 = some (.getfield 24, 3, 8, 2, 0) := by decide +kernel
theorem l101_9 : (ax_dt (ax_T 101)).lookup 9 = some (.iload_n 1, 1, 0, 0, 0) := by decide +kernel
theorem l101_10 : (ax_dt (ax_T 101)).lookup 10 = some (.invokevirtual 187, 3, 50, 1, 0) := by decide +kernel
theorem l101_13 : (ax_dt (ax_T 101)).lookup 13 = some (.invokevirtual 63, 3, 52, 0, 0) := by decide +kernel
theorem l101_16 : (ax_dt (ax_T 101)).lookup 16 = some (.ireturn, 1, 0, 0, 0) := by decide +kernel
noncomputable def F_X10_size (v1 : Int) (μ : bM) : Option ((Int ⊕ String) × bM) := bXm (F_X10_needSection v1 μ) (fun w1 μ2 => (F_X5_of v1 μ2).bind fun w4 => (F_X6_used w4.toNat μ2).bind fun w5 => some (.inl w5, μ2)) (fun e μ => some (.inr e, μ))
theorem r_X10_size {L : Nat} {xs : Nat → Int32} {d : Nat} {μ : bM}  (v1 : Int) (h1 : bR v1) : bD L xs (d + 1) 101 0 [(0, .ref 1), (1, bI v1)] [] μ ((F_X10_size v1 μ).bind (bXc)) := by
  have hr : ∀ r, (bXc) r = (bXc) r := fun _ => rfl
  unfold F_X10_size
  refine bD.ok fun hk => ?_
  refine b_s (pc' := 1) (lv1 := [(0, .ref 1), (1, bI v1)]) (st' := [.ref 1]) l101_0 (fun _ => rfl) ?_
  refine b_s (pc' := 2) (lv1 := [(0, .ref 1), (1, bI v1)]) (st' := [bI v1, .ref 1]) l101_1 (fun _ => rfl) ?_
  refine b_cXv l101_2 rfl (b_rc (ci := 8) (by rfl) (by decide) (by decide +kernel)) (Nat.le_of_ble_eq_true rfl) (Nat.le_of_ble_eq_true rfl) rfl (r_X10_needSection v1 h1) ⟨fun _ z => (by cases z), (by decide +kernel)⟩ rfl (fun _ _ => hr _) fun w1 μ2 hw1 => bD.ok fun hk3 => b_pc (pc' := 5) rfl ?_
  refine b_s (pc' := 6) (lv1 := [(0, .ref 1), (1, bI v1)]) (st' := [.ref 1]) l101_5 (fun _ => rfl) ?_
  refine b_gp (q' := 6) (j := 5) l101_6 (by rfl) (by decide) (by decide) rfl hk3 rfl rfl (b_pc (pc' := 9) rfl ?_)
  refine b_s (pc' := 10) (lv1 := [(0, .ref 1), (1, bI v1)]) (st' := [bI v1, .ref 6]) l101_9 (fun _ => rfl) ?_
  refine b_cPr l101_10 rfl (b_rc (ci := 4) (by rfl) (by decide) (by decide +kernel)) (Nat.le_of_ble_eq_true rfl) (Nat.le_of_ble_eq_true rfl) rfl (r_X5_of v1 h1) fun w4 hw4 => b_pc (pc' := 13) rfl ?_
  refine b_cPi l101_13 rfl (b_rc (ci := 5) hw4 (by decide) (by decide +kernel)) (Nat.le_of_ble_eq_true rfl) (Nat.le_of_ble_eq_true rfl) rfl (r_X6_used w4.toNat hw4) fun w5 hw5 => b_pc (pc' := 16) rfl ?_
  exact b_reti l101_16 rfl hw5 (hr _)
/-! ET.needByte -/
theorem l122_0 : (ax_dt (ax_T 122)).lookup 0 = some (.aload_n 0, 1, 0, 0, 0) := by decide +kernel
theorem l122_1 : (ax_dt (ax_T 122)).lookup 1 = some (.iload_n 1, 1, 0, 0, 0) := by decide +kernel
theorem l122_2 : (ax_dt (ax_T 122)).lookup 2 = some (.invokevirtual 184, 3, 121, 1, 0) := by decide +kernel
theorem l122_5 : (ax_dt (ax_T 122)).lookup 5 = some (.iload_n 2, 1, 0, 0, 0) := by decide +kernel
theorem l122_6 : (ax_dt (ax_T 122)).lookup 6 = some (.ifCond .lt 18, 3, 0, 0, 0) := by decide +kernel
theorem l122_9 : (ax_dt (ax_T 122)).lookup 9 = some (.iload_n 2, 1, 0, 0, 0) := by decide +kernel
theorem l122_10 : (ax_dt (ax_T 122)).lookup 10 = some (.aload_n 0, 1, 0, 0, 0) := by decide +kernel
theorem l122_11 : (ax_dt (ax_T 122)).lookup 11 = some (.getfield 24, 3, 8, 2, 0) := by decide +kernel
theorem l122_14 : (ax_dt (ax_T 122)).lookup 14 = some (.iload_n 1, 1, 0, 0, 0) := by decide +kernel
theorem l122_15 : (ax_dt (ax_T 122)).lookup 15 = some (.invokevirtual 187, 3, 50, 1, 0) := by decide +kernel
theorem l122_18 : (ax_dt (ax_T 122)).lookup 18 = some (.invokevirtual 63, 3, 52, 0, 0) := by decide +kernel
theorem l122_21 : (ax_dt (ax_T 122)).lookup 21 = some (.if_icmp .lt 14, 3, 0, 0, 0) := by decide +kernel
theorem l122_35 : (ax_dt (ax_T 122)).lookup 35 = some (.return_, 1, 0, 0, 0) := by decide +kernel
theorem x122_24 : (ax_dx (ax_T 122)).lookup 24 = some ("java/lang/IndexOutOfBoundsException", "no such byte of a section", 222, 323, 226, true) := by decide +kernel
noncomputable def F_X10_needByte (v1 : Int) (v2 : Int) (μ : bM) : Option ((Int ⊕ String) × bM) := bXm (F_X10_needSection v1 μ) (fun w1 μ2 => if v2 < 0 then some (.inr "java/lang/IndexOutOfBoundsException", μ2) else (F_X5_of v1 μ2).bind fun w5 => (F_X6_used w5.toNat μ2).bind fun w6 => if v2 < w6 then some (.inl 0, μ2) else some (.inr "java/lang/IndexOutOfBoundsException", μ2)) (fun e μ => some (.inr e, μ))
theorem r_X10_needByte {L : Nat} {xs : Nat → Int32} {d : Nat} {μ : bM}  (v1 : Int) (h1 : bR v1) (v2 : Int) (h2 : bR v2) : bD L xs (d + 1) 122 0 [(0, .ref 1), (1, bI v1), (2, bI v2)] [] μ ((F_X10_needByte v1 v2 μ).bind (bXc)) := by
  have hr : ∀ r, (bXc) r = (bXc) r := fun _ => rfl
  unfold F_X10_needByte
  refine bD.ok fun hk => ?_
  refine b_s (pc' := 1) (lv1 := [(0, .ref 1), (1, bI v1), (2, bI v2)]) (st' := [.ref 1]) l122_0 (fun _ => rfl) ?_
  refine b_s (pc' := 2) (lv1 := [(0, .ref 1), (1, bI v1), (2, bI v2)]) (st' := [bI v1, .ref 1]) l122_1 (fun _ => rfl) ?_
  refine b_cXv l122_2 rfl (b_rc (ci := 8) (by rfl) (by decide) (by decide +kernel)) (Nat.le_of_ble_eq_true rfl) (Nat.le_of_ble_eq_true rfl) rfl (r_X10_needSection v1 h1) ⟨fun _ z => (by cases z), (by decide +kernel)⟩ rfl (fun _ _ => hr _) fun w1 μ2 hw1 => bD.ok fun hk3 => b_pc (pc' := 5) rfl ?_
  refine b_s (pc' := 6) (lv1 := [(0, .ref 1), (1, bI v1), (2, bI v2)]) (st' := [bI v2]) l122_5 (fun _ => rfl) ?_
  refine b_zlt (pt := 24) l122_6 h2 (by decide) rfl (fun c4 => ?_) (fun c4 => b_pc (pc' := 9) rfl ?_)
  · exact b_thr x122_24 (by decide) (Nat.le_of_ble_eq_true rfl) (hr _)
  · refine b_s (pc' := 10) (lv1 := [(0, .ref 1), (1, bI v1), (2, bI v2)]) (st' := [bI v2]) l122_9 (fun _ => rfl) ?_
    refine b_s (pc' := 11) (lv1 := [(0, .ref 1), (1, bI v1), (2, bI v2)]) (st' := [.ref 1, bI v2]) l122_10 (fun _ => rfl) ?_
    refine b_gp (q' := 6) (j := 5) l122_11 (by rfl) (by decide) (by decide) rfl hk3 rfl rfl (b_pc (pc' := 14) rfl ?_)
    refine b_s (pc' := 15) (lv1 := [(0, .ref 1), (1, bI v1), (2, bI v2)]) (st' := [bI v1, .ref 6, bI v2]) l122_14 (fun _ => rfl) ?_
    refine b_cPr l122_15 rfl (b_rc (ci := 4) (by rfl) (by decide) (by decide +kernel)) (Nat.le_of_ble_eq_true rfl) (Nat.le_of_ble_eq_true rfl) rfl (r_X5_of v1 h1) fun w5 hw5 => b_pc (pc' := 18) rfl ?_
    refine b_cPi l122_18 rfl (b_rc (ci := 5) hw5 (by decide) (by decide +kernel)) (Nat.le_of_ble_eq_true rfl) (Nat.le_of_ble_eq_true rfl) rfl (r_X6_used w5.toNat hw5) fun w6 hw6 => b_pc (pc' := 21) rfl ?_
    refine b_ilt (pt := 35) l122_21 h2 hw6 (by decide) rfl (fun c7 => ?_) (fun c7 => b_pc (pc' := 24) rfl ?_)
    · exact b_retv l122_35 rfl (hr _)
    · exact b_thr x122_24 (by decide) (Nat.le_of_ble_eq_true rfl) (hr _)
/-! ET.octet -/
theorem l102_0 : (ax_dt (ax_T 102)).lookup 0 = some (.aload_n 0, 1, 0, 0, 0) := by decide +kernel
theorem l102_1 : (ax_dt (ax_T 102)).lookup 1 = some (.iload_n 1, 1, 0, 0, 0) := by decide +kernel
theorem l102_2 : (ax_dt (ax_T 102)).lookup 2 = some (.iload_n 2, 1, 0, 0, 0) := by decide +kernel
theorem l102_3 : (ax_dt (ax_T 102)).lookup 3 = some (.invokevirtual 191, 3, 122, 2, 0) := by decide +kernel
theorem l102_6 : (ax_dt (ax_T 102)).lookup 6 = some (.aload_n 0, 1, 0, 0, 0) := by decide +kernel
theorem l102_7 : (ax_dt (ax_T 102)).lookup 7 = some (.getfield 24, 3, 8, 2, 0) := by decide +kernel
theorem l102_10 : (ax_dt (ax_T 102)).lookup 10 = some (.iload_n 1, 1, 0, 0, 0) := by decide +kernel
theorem l102_11 : (ax_dt (ax_T 102)).lookup 11 = some (.invokevirtual 187, 3, 50, 1, 0) := by decide +kernel
theorem l102_14 : (ax_dt (ax_T 102)).lookup 14 = some (.iload_n 2, 1, 0, 0, 0) := by decide +kernel
theorem l102_15 : (ax_dt (ax_T 102)).lookup 15 = some (.invokevirtual 194, 3, 55, 1, 0) := by decide +kernel
theorem l102_18 : (ax_dt (ax_T 102)).lookup 18 = some (.ireturn, 1, 0, 0, 0) := by decide +kernel
noncomputable def F_X10_octet (v1 : Int) (v2 : Int) (μ : bM) : Option ((Int ⊕ String) × bM) := bXm (F_X10_needByte v1 v2 μ) (fun w1 μ2 => (F_X5_of v1 μ2).bind fun w4 => (F_X6_at w4.toNat v2 μ2).bind fun w5 => some (.inl w5, μ2)) (fun e μ => some (.inr e, μ))
theorem r_X10_octet {L : Nat} {xs : Nat → Int32} {d : Nat} {μ : bM}  (v1 : Int) (h1 : bR v1) (v2 : Int) (h2 : bR v2) : bD L xs (d + 2) 102 0 [(0, .ref 1), (1, bI v1), (2, bI v2)] [] μ ((F_X10_octet v1 v2 μ).bind (bXc)) := by
  have hr : ∀ r, (bXc) r = (bXc) r := fun _ => rfl
  unfold F_X10_octet
  refine bD.ok fun hk => ?_
  refine b_s (pc' := 1) (lv1 := [(0, .ref 1), (1, bI v1), (2, bI v2)]) (st' := [.ref 1]) l102_0 (fun _ => rfl) ?_
  refine b_s (pc' := 2) (lv1 := [(0, .ref 1), (1, bI v1), (2, bI v2)]) (st' := [bI v1, .ref 1]) l102_1 (fun _ => rfl) ?_
  refine b_s (pc' := 3) (lv1 := [(0, .ref 1), (1, bI v1), (2, bI v2)]) (st' := [bI v2, bI v1, .ref 1]) l102_2 (fun _ => rfl) ?_
  refine b_cXv l102_3 rfl (b_rc (ci := 8) (by rfl) (by decide) (by decide +kernel)) (Nat.le_of_ble_eq_true rfl) (Nat.le_of_ble_eq_true rfl) rfl (r_X10_needByte v1 h1 v2 h2) ⟨fun _ z => (by cases z), (by decide +kernel)⟩ rfl (fun _ _ => hr _) fun w1 μ2 hw1 => bD.ok fun hk3 => b_pc (pc' := 6) rfl ?_
  refine b_s (pc' := 7) (lv1 := [(0, .ref 1), (1, bI v1), (2, bI v2)]) (st' := [.ref 1]) l102_6 (fun _ => rfl) ?_
  refine b_gp (q' := 6) (j := 5) l102_7 (by rfl) (by decide) (by decide) rfl hk3 rfl rfl (b_pc (pc' := 10) rfl ?_)
  refine b_s (pc' := 11) (lv1 := [(0, .ref 1), (1, bI v1), (2, bI v2)]) (st' := [bI v1, .ref 6]) l102_10 (fun _ => rfl) ?_
  refine b_cPr l102_11 rfl (b_rc (ci := 4) (by rfl) (by decide) (by decide +kernel)) (Nat.le_of_ble_eq_true rfl) (Nat.le_of_ble_eq_true rfl) rfl (r_X5_of v1 h1) fun w4 hw4 => b_pc (pc' := 14) rfl ?_
  refine b_s (pc' := 15) (lv1 := [(0, .ref 1), (1, bI v1), (2, bI v2)]) (st' := [bI v2, .ref w4.toNat]) l102_14 (fun _ => rfl) ?_
  refine b_cPi l102_15 rfl (b_rc (ci := 5) hw4 (by decide) (by decide +kernel)) (Nat.le_of_ble_eq_true rfl) (Nat.le_of_ble_eq_true rfl) rfl (r_X6_at w4.toNat hw4 v2 h2) fun w5 hw5 => b_pc (pc' := 18) rfl ?_
  exact b_reti l102_18 rfl hw5 (hr _)
/-! ET.load -/
theorem l103_0 : (ax_dt (ax_T 103)).lookup 0 = some (.aload_n 0, 1, 0, 0, 0) := by decide +kernel
theorem l103_1 : (ax_dt (ax_T 103)).lookup 1 = some (.iload_n 1, 1, 0, 0, 0) := by decide +kernel
theorem l103_2 : (ax_dt (ax_T 103)).lookup 2 = some (.invokevirtual 184, 3, 121, 1, 0) := by decide +kernel
theorem l103_5 : (ax_dt (ax_T 103)).lookup 5 = some (.aload_n 0, 1, 0, 0, 0) := by decide +kernel
theorem l103_6 : (ax_dt (ax_T 103)).lookup 6 = some (.getfield 24, 3, 8, 2, 0) := by decide +kernel
theorem l103_9 : (ax_dt (ax_T 103)).lookup 9 = some (.iload_n 1, 1, 0, 0, 0) := by decide +kernel
theorem l103_10 : (ax_dt (ax_T 103)).lookup 10 = some (.invokevirtual 187, 3, 50, 1, 0) := by decide +kernel
theorem l103_13 : (ax_dt (ax_T 103)).lookup 13 = some (.astore_n 2, 1, 0, 0, 0) := by decide +kernel
theorem l103_14 : (ax_dt (ax_T 103)).lookup 14 = some (.aload_n 0, 1, 0, 0, 0) := by decide +kernel
theorem l103_15 : (ax_dt (ax_T 103)).lookup 15 = some (.getfield 14, 3, 8, 0, 0) := by decide +kernel
theorem l103_18 : (ax_dt (ax_T 103)).lookup 18 = some (.invokevirtual 63, 3, 52, 0, 0) := by decide +kernel
theorem l103_21 : (ax_dt (ax_T 103)).lookup 21 = some (.istore_n 3, 1, 0, 0, 0) := by decide +kernel
theorem l103_22 : (ax_dt (ax_T 103)).lookup 22 = some (.iload_n 3, 1, 0, 0, 0) := by decide +kernel
theorem l103_23 : (ax_dt (ax_T 103)).lookup 23 = some (.aload_n 2, 1, 0, 0, 0) := by decide +kernel
theorem l103_24 : (ax_dt (ax_T 103)).lookup 24 = some (.invokevirtual 197, 3, 53, 0, 0) := by decide +kernel
theorem l103_27 : (ax_dt (ax_T 103)).lookup 27 = some (.if_icmp .le 13, 3, 0, 0, 0) := by decide +kernel
theorem l103_40 : (ax_dt (ax_T 103)).lookup 40 = some (.aload_n 2, 1, 0, 0, 0) := by decide +kernel
theorem l103_41 : (ax_dt (ax_T 103)).lookup 41 = some (.iconst 0, 1, 0, 0, 0) := by decide +kernel
theorem l103_42 : (ax_dt (ax_T 103)).lookup 42 = some (.invokevirtual 71, 3, 57, 1, 0) := by decide +kernel
theorem l103_45 : (ax_dt (ax_T 103)).lookup 45 = some (.aload_n 2, 1, 0, 0, 0) := by decide +kernel
theorem l103_46 : (ax_dt (ax_T 103)).lookup 46 = some (.aload_n 0, 1, 0, 0, 0) := by decide +kernel
theorem l103_47 : (ax_dt (ax_T 103)).lookup 47 = some (.getfield 14, 3, 8, 0, 0) := by decide +kernel
theorem l103_50 : (ax_dt (ax_T 103)).lookup 50 = some (.iconst 0, 1, 0, 0, 0) := by decide +kernel
theorem l103_51 : (ax_dt (ax_T 103)).lookup 51 = some (.iload_n 3, 1, 0, 0, 0) := by decide +kernel
theorem l103_52 : (ax_dt (ax_T 103)).lookup 52 = some (.invokevirtual 135, 3, 64, 3, 0) := by decide +kernel
theorem l103_55 : (ax_dt (ax_T 103)).lookup 55 = some (.aload_n 0, 1, 0, 0, 0) := by decide +kernel
theorem l103_56 : (ax_dt (ax_T 103)).lookup 56 = some (.getfield 14, 3, 8, 0, 0) := by decide +kernel
theorem l103_59 : (ax_dt (ax_T 103)).lookup 59 = some (.iconst 0, 1, 0, 0, 0) := by decide +kernel
theorem l103_60 : (ax_dt (ax_T 103)).lookup 60 = some (.invokevirtual 71, 3, 57, 1, 0) := by decide +kernel
theorem l103_63 : (ax_dt (ax_T 103)).lookup 63 = some (.iload_n 3, 1, 0, 0, 0) := by decide +kernel
theorem l103_64 : (ax_dt (ax_T 103)).lookup 64 = some (.ireturn, 1, 0, 0, 0) := by decide +kernel
theorem x103_30 : (ax_dx (ax_T 103)).lookup 30 = some ("java/lang/UnsupportedOperationException", "too many bytes for the section", 84, 200, 88, false) := by decide +kernel
noncomputable def F_X10_load (v1 : Int) (μ : bM) : Option ((Int ⊕ String) × bM) := bXm (F_X10_needSection v1 μ) (fun w1 μ2 => (F_X5_of v1 μ2).bind fun w4 => (F_X6_used 2 μ2).bind fun w5 => (F_X6_most w4.toNat μ2).bind fun w6 => if w5 ≤ w6 then bMm (F_X6_cut w4.toNat 0 μ2) (fun w8 μ9 => bMm (F_X6_addFrom w4.toNat 2 0 w5 μ9) (fun w11 μ12 => bMm (F_X6_cut 2 0 μ12) (fun w14 μ15 => some (.inl w5, μ15)))) else some (.inr "java/lang/UnsupportedOperationException", μ2)) (fun e μ => some (.inr e, μ))
theorem r_X10_load {L : Nat} {xs : Nat → Int32} {d : Nat} {μ : bM}  (v1 : Int) (h1 : bR v1) : bD L xs (d + 2) 103 0 [(0, .ref 1), (1, bI v1)] [] μ ((F_X10_load v1 μ).bind (bXc)) := by
  have hr : ∀ r, (bXc) r = (bXc) r := fun _ => rfl
  unfold F_X10_load
  refine bD.ok fun hk => ?_
  refine b_s (pc' := 1) (lv1 := [(0, .ref 1), (1, bI v1)]) (st' := [.ref 1]) l103_0 (fun _ => rfl) ?_
  refine b_s (pc' := 2) (lv1 := [(0, .ref 1), (1, bI v1)]) (st' := [bI v1, .ref 1]) l103_1 (fun _ => rfl) ?_
  refine b_cXv l103_2 rfl (b_rc (ci := 8) (by rfl) (by decide) (by decide +kernel)) (Nat.le_of_ble_eq_true rfl) (Nat.le_of_ble_eq_true rfl) rfl (r_X10_needSection v1 h1) ⟨fun _ z => (by cases z), (by decide +kernel)⟩ rfl (fun _ _ => hr _) fun w1 μ2 hw1 => bD.ok fun hk3 => b_pc (pc' := 5) rfl ?_
  refine b_s (pc' := 6) (lv1 := [(0, .ref 1), (1, bI v1)]) (st' := [.ref 1]) l103_5 (fun _ => rfl) ?_
  refine b_gp (q' := 6) (j := 5) l103_6 (by rfl) (by decide) (by decide) rfl hk3 rfl rfl (b_pc (pc' := 9) rfl ?_)
  refine b_s (pc' := 10) (lv1 := [(0, .ref 1), (1, bI v1)]) (st' := [bI v1, .ref 6]) l103_9 (fun _ => rfl) ?_
  refine b_cPr l103_10 rfl (b_rc (ci := 4) (by rfl) (by decide) (by decide +kernel)) (Nat.le_of_ble_eq_true rfl) (Nat.le_of_ble_eq_true rfl) rfl (r_X5_of v1 h1) fun w4 hw4 => b_pc (pc' := 13) rfl ?_
  refine b_w (pc' := 14) (lv1 := ax_st1 [(0, .ref 1), (1, bI v1)] 2 (.ref w4.toNat)) (lv' := [(0, .ref 1), (2, .ref w4.toNat)]) (st' := []) l103_13 (fun _ => rfl) (bSb rfl (bSb rfl bSn)) ?_
  refine b_s (pc' := 15) (lv1 := [(0, .ref 1), (2, .ref w4.toNat)]) (st' := [.ref 1]) l103_14 (fun _ => rfl) ?_
  refine b_gp (q' := 2) (j := 1) l103_15 (by rfl) (by decide) (by decide) rfl hk3 rfl rfl (b_pc (pc' := 18) rfl ?_)
  refine b_cPi l103_18 rfl (b_rc (ci := 5) (by rfl) (by decide) (by decide +kernel)) (Nat.le_of_ble_eq_true rfl) (Nat.le_of_ble_eq_true rfl) rfl (r_X6_used 2 (by rfl)) fun w5 hw5 => b_pc (pc' := 21) rfl ?_
  refine b_w (pc' := 22) (lv1 := ax_st1 [(0, .ref 1), (2, .ref w4.toNat)] 3 (bI w5)) (lv' := [(0, .ref 1), (2, .ref w4.toNat), (3, bI w5)]) (st' := []) l103_21 (fun _ => rfl) (bSb rfl (bSb rfl (bSb rfl bSn))) ?_
  refine b_s (pc' := 23) (lv1 := [(0, .ref 1), (2, .ref w4.toNat), (3, bI w5)]) (st' := [bI w5]) l103_22 (fun _ => rfl) ?_
  refine b_s (pc' := 24) (lv1 := [(0, .ref 1), (2, .ref w4.toNat), (3, bI w5)]) (st' := [.ref w4.toNat, bI w5]) l103_23 (fun _ => rfl) ?_
  refine b_cPi l103_24 rfl (b_rc (ci := 5) hw4 (by decide) (by decide +kernel)) (Nat.le_of_ble_eq_true rfl) (Nat.le_of_ble_eq_true rfl) rfl (r_X6_most w4.toNat hw4) fun w6 hw6 => b_pc (pc' := 27) rfl ?_
  refine b_ile (pt := 40) l103_27 hw5 hw6 (by decide) rfl (fun c7 => ?_) (fun c7 => b_pc (pc' := 30) rfl ?_)
  · refine b_s (pc' := 41) (lv1 := [(0, .ref 1), (2, .ref w4.toNat), (3, bI w5)]) (st' := [.ref w4.toNat]) l103_40 (fun _ => rfl) ?_
    refine b_s (pc' := 42) (lv1 := [(0, .ref 1), (2, .ref w4.toNat), (3, bI w5)]) (st' := [bI 0, .ref w4.toNat]) l103_41 (fun _ => rfl) ?_
    refine b_cMv l103_42 rfl (b_rc (ci := 5) hw4 (by decide) (by decide +kernel)) (Nat.le_of_ble_eq_true rfl) (Nat.le_of_ble_eq_true rfl) rfl (r_X6_cut w4.toNat hw4 0 (by decide)) fun w8 μ9 hw8 => bD.ok fun hk10 => b_pc (pc' := 45) rfl ?_
    refine b_s (pc' := 46) (lv1 := [(0, .ref 1), (2, .ref w4.toNat), (3, bI w5)]) (st' := [.ref w4.toNat]) l103_45 (fun _ => rfl) ?_
    refine b_s (pc' := 47) (lv1 := [(0, .ref 1), (2, .ref w4.toNat), (3, bI w5)]) (st' := [.ref 1, .ref w4.toNat]) l103_46 (fun _ => rfl) ?_
    refine b_gp (q' := 2) (j := 1) l103_47 (by rfl) (by decide) (by decide) rfl hk10 rfl rfl (b_pc (pc' := 50) rfl ?_)
    refine b_s (pc' := 51) (lv1 := [(0, .ref 1), (2, .ref w4.toNat), (3, bI w5)]) (st' := [bI 0, .ref 2, .ref w4.toNat]) l103_50 (fun _ => rfl) ?_
    refine b_s (pc' := 52) (lv1 := [(0, .ref 1), (2, .ref w4.toNat), (3, bI w5)]) (st' := [bI w5, bI 0, .ref 2, .ref w4.toNat]) l103_51 (fun _ => rfl) ?_
    refine b_cMv l103_52 rfl (b_rc (ci := 5) hw4 (by decide) (by decide +kernel)) (Nat.le_of_ble_eq_true rfl) (Nat.le_of_ble_eq_true rfl) rfl (r_X6_addFrom w4.toNat hw4 2 (by rfl) 0 (by decide) w5 hw5) fun w11 μ12 hw11 => bD.ok fun hk13 => b_pc (pc' := 55) rfl ?_
    refine b_s (pc' := 56) (lv1 := [(0, .ref 1), (2, .ref w4.toNat), (3, bI w5)]) (st' := [.ref 1]) l103_55 (fun _ => rfl) ?_
    refine b_gp (q' := 2) (j := 1) l103_56 (by rfl) (by decide) (by decide) rfl hk13 rfl rfl (b_pc (pc' := 59) rfl ?_)
    refine b_s (pc' := 60) (lv1 := [(0, .ref 1), (2, .ref w4.toNat), (3, bI w5)]) (st' := [bI 0, .ref 2]) l103_59 (fun _ => rfl) ?_
    refine b_cMv l103_60 rfl (b_rc (ci := 5) (by rfl) (by decide) (by decide +kernel)) (Nat.le_of_ble_eq_true rfl) (Nat.le_of_ble_eq_true rfl) rfl (r_X6_cut 2 (by rfl) 0 (by decide)) fun w14 μ15 hw14 => bD.ok fun hk16 => b_pc (pc' := 63) rfl ?_
    refine b_s (pc' := 64) (lv1 := [(0, .ref 1), (2, .ref w4.toNat), (3, bI w5)]) (st' := [bI w5]) l103_63 (fun _ => rfl) ?_
    exact b_reti l103_64 rfl hw5 (hr _)
  · exact b_thr x103_30 (by decide) (Nat.le_of_ble_eq_true rfl) (hr _)
/-! ET.alter -/
theorem l104_0 : (ax_dt (ax_T 104)).lookup 0 = some (.aload_n 0, 1, 0, 0, 0) := by decide +kernel
theorem l104_1 : (ax_dt (ax_T 104)).lookup 1 = some (.iload_n 1, 1, 0, 0, 0) := by decide +kernel
theorem l104_2 : (ax_dt (ax_T 104)).lookup 2 = some (.iload_n 2, 1, 0, 0, 0) := by decide +kernel
theorem l104_3 : (ax_dt (ax_T 104)).lookup 3 = some (.invokevirtual 191, 3, 122, 2, 0) := by decide +kernel
theorem l104_6 : (ax_dt (ax_T 104)).lookup 6 = some (.aload_n 0, 1, 0, 0, 0) := by decide +kernel
theorem l104_7 : (ax_dt (ax_T 104)).lookup 7 = some (.getfield 24, 3, 8, 2, 0) := by decide +kernel
theorem l104_10 : (ax_dt (ax_T 104)).lookup 10 = some (.iload_n 1, 1, 0, 0, 0) := by decide +kernel
theorem l104_11 : (ax_dt (ax_T 104)).lookup 11 = some (.invokevirtual 187, 3, 50, 1, 0) := by decide +kernel
theorem l104_14 : (ax_dt (ax_T 104)).lookup 14 = some (.astore 4, 2, 0, 0, 0) := by decide +kernel
theorem l104_16 : (ax_dt (ax_T 104)).lookup 16 = some (.aload 4, 2, 0, 0, 0) := by decide +kernel
theorem l104_18 : (ax_dt (ax_T 104)).lookup 18 = some (.iload_n 2, 1, 0, 0, 0) := by decide +kernel
theorem l104_19 : (ax_dt (ax_T 104)).lookup 19 = some (.iload_n 3, 1, 0, 0, 0) := by decide +kernel
theorem l104_20 : (ax_dt (ax_T 104)).lookup 20 = some (.invokevirtual 202, 3, 56, 2, 0) := by decide +kernel
theorem l104_23 : (ax_dt (ax_T 104)).lookup 23 = some (.aload 4, 2, 0, 0, 0) := by decide +kernel
theorem l104_25 : (ax_dt (ax_T 104)).lookup 25 = some (.iload_n 2, 1, 0, 0, 0) := by decide +kernel
theorem l104_26 : (ax_dt (ax_T 104)).lookup 26 = some (.invokevirtual 194, 3, 55, 1, 0) := by decide +kernel
theorem l104_29 : (ax_dt (ax_T 104)).lookup 29 = some (.ireturn, 1, 0, 0, 0) := by decide +kernel
noncomputable def F_X10_alter (v1 : Int) (v2 : Int) (v3 : Int) (μ : bM) : Option ((Int ⊕ String) × bM) := bXm (F_X10_needByte v1 v2 μ) (fun w1 μ2 => (F_X5_of v1 μ2).bind fun w4 => bMm (F_X6_change w4.toNat v2 v3 μ2) (fun w5 μ6 => (F_X6_at w4.toNat v2 μ6).bind fun w8 => some (.inl w8, μ6))) (fun e μ => some (.inr e, μ))
theorem r_X10_alter {L : Nat} {xs : Nat → Int32} {d : Nat} {μ : bM}  (v1 : Int) (h1 : bR v1) (v2 : Int) (h2 : bR v2) (v3 : Int) (h3 : bR v3) : bD L xs (d + 2) 104 0 [(0, .ref 1), (1, bI v1), (2, bI v2), (3, bI v3)] [] μ ((F_X10_alter v1 v2 v3 μ).bind (bXc)) := by
  have hr : ∀ r, (bXc) r = (bXc) r := fun _ => rfl
  unfold F_X10_alter
  refine bD.ok fun hk => ?_
  refine b_s (pc' := 1) (lv1 := [(0, .ref 1), (1, bI v1), (2, bI v2), (3, bI v3)]) (st' := [.ref 1]) l104_0 (fun _ => rfl) ?_
  refine b_s (pc' := 2) (lv1 := [(0, .ref 1), (1, bI v1), (2, bI v2), (3, bI v3)]) (st' := [bI v1, .ref 1]) l104_1 (fun _ => rfl) ?_
  refine b_s (pc' := 3) (lv1 := [(0, .ref 1), (1, bI v1), (2, bI v2), (3, bI v3)]) (st' := [bI v2, bI v1, .ref 1]) l104_2 (fun _ => rfl) ?_
  refine b_cXv l104_3 rfl (b_rc (ci := 8) (by rfl) (by decide) (by decide +kernel)) (Nat.le_of_ble_eq_true rfl) (Nat.le_of_ble_eq_true rfl) rfl (r_X10_needByte v1 h1 v2 h2) ⟨fun _ z => (by cases z), (by decide +kernel)⟩ rfl (fun _ _ => hr _) fun w1 μ2 hw1 => bD.ok fun hk3 => b_pc (pc' := 6) rfl ?_
  refine b_s (pc' := 7) (lv1 := [(0, .ref 1), (1, bI v1), (2, bI v2), (3, bI v3)]) (st' := [.ref 1]) l104_6 (fun _ => rfl) ?_
  refine b_gp (q' := 6) (j := 5) l104_7 (by rfl) (by decide) (by decide) rfl hk3 rfl rfl (b_pc (pc' := 10) rfl ?_)
  refine b_s (pc' := 11) (lv1 := [(0, .ref 1), (1, bI v1), (2, bI v2), (3, bI v3)]) (st' := [bI v1, .ref 6]) l104_10 (fun _ => rfl) ?_
  refine b_cPr l104_11 rfl (b_rc (ci := 4) (by rfl) (by decide) (by decide +kernel)) (Nat.le_of_ble_eq_true rfl) (Nat.le_of_ble_eq_true rfl) rfl (r_X5_of v1 h1) fun w4 hw4 => b_pc (pc' := 14) rfl ?_
  refine b_w (pc' := 16) (lv1 := ax_st1 [(0, .ref 1), (1, bI v1), (2, bI v2), (3, bI v3)] 4 (.ref w4.toNat)) (lv' := [(2, bI v2), (3, bI v3), (4, .ref w4.toNat)]) (st' := []) l104_14 (fun _ => rfl) (bSb rfl (bSb rfl (bSb rfl bSn))) ?_
  refine b_s (pc' := 18) (lv1 := [(2, bI v2), (3, bI v3), (4, .ref w4.toNat)]) (st' := [.ref w4.toNat]) l104_16 (fun _ => rfl) ?_
  refine b_s (pc' := 19) (lv1 := [(2, bI v2), (3, bI v3), (4, .ref w4.toNat)]) (st' := [bI v2, .ref w4.toNat]) l104_18 (fun _ => rfl) ?_
  refine b_s (pc' := 20) (lv1 := [(2, bI v2), (3, bI v3), (4, .ref w4.toNat)]) (st' := [bI v3, bI v2, .ref w4.toNat]) l104_19 (fun _ => rfl) ?_
  refine b_cMv l104_20 rfl (b_rc (ci := 5) hw4 (by decide) (by decide +kernel)) (Nat.le_of_ble_eq_true rfl) (Nat.le_of_ble_eq_true rfl) rfl (r_X6_change w4.toNat hw4 v2 h2 v3 h3) fun w5 μ6 hw5 => bD.ok fun hk7 => b_pc (pc' := 23) rfl ?_
  refine b_s (pc' := 25) (lv1 := [(2, bI v2), (3, bI v3), (4, .ref w4.toNat)]) (st' := [.ref w4.toNat]) l104_23 (fun _ => rfl) ?_
  refine b_s (pc' := 26) (lv1 := [(2, bI v2), (3, bI v3), (4, .ref w4.toNat)]) (st' := [bI v2, .ref w4.toNat]) l104_25 (fun _ => rfl) ?_
  refine b_cPi l104_26 rfl (b_rc (ci := 5) hw4 (by decide) (by decide +kernel)) (Nat.le_of_ble_eq_true rfl) (Nat.le_of_ble_eq_true rfl) rfl (r_X6_at w4.toNat hw4 v2 h2) fun w8 hw8 => b_pc (pc' := 29) rfl ?_
  exact b_reti l104_29 rfl hw8 (hr _)
/-! ET.keepLetters -/
theorem l124_0 : (ax_dt (ax_T 124)).lookup 0 = some (.aload_n 0, 1, 0, 0, 0) := by decide +kernel
theorem l124_1 : (ax_dt (ax_T 124)).lookup 1 = some (.getfield 18, 3, 8, 1, 0) := by decide +kernel
theorem l124_4 : (ax_dt (ax_T 124)).lookup 4 = some (.iconst 0, 1, 0, 0, 0) := by decide +kernel
theorem l124_5 : (ax_dt (ax_T 124)).lookup 5 = some (.invokevirtual 71, 3, 57, 1, 0) := by decide +kernel
theorem l124_8 : (ax_dt (ax_T 124)).lookup 8 = some (.iconst 0, 1, 0, 0, 0) := by decide +kernel
theorem l124_9 : (ax_dt (ax_T 124)).lookup 9 = some (.istore_n 1, 1, 0, 0, 0) := by decide +kernel
theorem l124_10 : (ax_dt (ax_T 124)).lookup 10 = some (.iload_n 1, 1, 0, 0, 0) := by decide +kernel
theorem l124_11 : (ax_dt (ax_T 124)).lookup 11 = some (.aload_n 0, 1, 0, 0, 0) := by decide +kernel
theorem l124_12 : (ax_dt (ax_T 124)).lookup 12 = some (.getfield 45, 3, 8, 5, 0) := by decide +kernel
theorem l124_15 : (ax_dt (ax_T 124)).lookup 15 = some (.getfield 81, 3, 7, 1, 0) := by decide +kernel
theorem l124_18 : (ax_dt (ax_T 124)).lookup 18 = some (.if_icmp .ge 131, 3, 0, 0, 0) := by decide +kernel
theorem l124_21 : (ax_dt (ax_T 124)).lookup 21 = some (.iconst 0, 1, 0, 0, 0) := by decide +kernel
theorem l124_22 : (ax_dt (ax_T 124)).lookup 22 = some (.istore_n 2, 1, 0, 0, 0) := by decide +kernel
theorem l124_23 : (ax_dt (ax_T 124)).lookup 23 = some (.iload_n 2, 1, 0, 0, 0) := by decide +kernel
theorem l124_24 : (ax_dt (ax_T 124)).lookup 24 = some (.aload_n 0, 1, 0, 0, 0) := by decide +kernel
theorem l124_25 : (ax_dt (ax_T 124)).lookup 25 = some (.getfield 45, 3, 8, 5, 0) := by decide +kernel
theorem l124_28 : (ax_dt (ax_T 124)).lookup 28 = some (.getfield 248, 3, 7, 11, 0) := by decide +kernel
theorem l124_31 : (ax_dt (ax_T 124)).lookup 31 = some (.iload_n 1, 1, 0, 0, 0) := by decide +kernel
theorem l124_32 : (ax_dt (ax_T 124)).lookup 32 = some (.iaload, 1, 0, 0, 0) := by decide +kernel
theorem l124_33 : (ax_dt (ax_T 124)).lookup 33 = some (.if_icmp .ge 110, 3, 0, 0, 0) := by decide +kernel
theorem l124_36 : (ax_dt (ax_T 124)).lookup 36 = some (.iload_n 1, 1, 0, 0, 0) := by decide +kernel
theorem l124_37 : (ax_dt (ax_T 124)).lookup 37 = some (.iload_n 2, 1, 0, 0, 0) := by decide +kernel
theorem l124_38 : (ax_dt (ax_T 124)).lookup 38 = some (.invokestatic 327, 3, 77, 2, 0) := by decide +kernel
theorem l124_41 : (ax_dt (ax_T 124)).lookup 41 = some (.istore_n 3, 1, 0, 0, 0) := by decide +kernel
theorem l124_42 : (ax_dt (ax_T 124)).lookup 42 = some (.aload_n 0, 1, 0, 0, 0) := by decide +kernel
theorem l124_43 : (ax_dt (ax_T 124)).lookup 43 = some (.getfield 45, 3, 8, 5, 0) := by decide +kernel
theorem l124_46 : (ax_dt (ax_T 124)).lookup 46 = some (.getfield 270, 3, 7, 13, 0) := by decide +kernel
theorem l124_49 : (ax_dt (ax_T 124)).lookup 49 = some (.iload_n 3, 1, 0, 0, 0) := by decide +kernel
theorem l124_50 : (ax_dt (ax_T 124)).lookup 50 = some (.iaload, 1, 0, 0, 0) := by decide +kernel
theorem l124_51 : (ax_dt (ax_T 124)).lookup 51 = some (.invokestatic 278, 3, 16, 1, 0) := by decide +kernel
theorem l124_54 : (ax_dt (ax_T 124)).lookup 54 = some (.ifCond .eq 83, 3, 0, 0, 0) := by decide +kernel
theorem l124_57 : (ax_dt (ax_T 124)).lookup 57 = some (.aload_n 0, 1, 0, 0, 0) := by decide +kernel
theorem l124_58 : (ax_dt (ax_T 124)).lookup 58 = some (.getfield 45, 3, 8, 5, 0) := by decide +kernel
theorem l124_61 : (ax_dt (ax_T 124)).lookup 61 = some (.getfield 270, 3, 7, 13, 0) := by decide +kernel
theorem l124_64 : (ax_dt (ax_T 124)).lookup 64 = some (.iload_n 3, 1, 0, 0, 0) := by decide +kernel
theorem l124_65 : (ax_dt (ax_T 124)).lookup 65 = some (.iaload, 1, 0, 0, 0) := by decide +kernel
theorem l124_66 : (ax_dt (ax_T 124)).lookup 66 = some (.bipush 14, 2, 0, 0, 0) := by decide +kernel
theorem l124_68 : (ax_dt (ax_T 124)).lookup 68 = some (.if_icmp .ne 13, 3, 0, 0, 0) := by decide +kernel
theorem l124_71 : (ax_dt (ax_T 124)).lookup 71 = some (.aload_n 0, 1, 0, 0, 0) := by decide +kernel
theorem l124_72 : (ax_dt (ax_T 124)).lookup 72 = some (.getfield 24, 3, 8, 2, 0) := by decide +kernel
theorem l124_75 : (ax_dt (ax_T 124)).lookup 75 = some (.getfield 178, 3, 4, 2, 0) := by decide +kernel
theorem l124_78 : (ax_dt (ax_T 124)).lookup 78 = some (.goto 10, 3, 0, 0, 0) := by decide +kernel
theorem l124_81 : (ax_dt (ax_T 124)).lookup 81 = some (.aload_n 0, 1, 0, 0, 0) := by decide +kernel
theorem l124_82 : (ax_dt (ax_T 124)).lookup 82 = some (.getfield 24, 3, 8, 2, 0) := by decide +kernel
theorem l124_85 : (ax_dt (ax_T 124)).lookup 85 = some (.getfield 163, 3, 4, 0, 0) := by decide +kernel
theorem l124_88 : (ax_dt (ax_T 124)).lookup 88 = some (.astore 4, 2, 0, 0, 0) := by decide +kernel
theorem l124_90 : (ax_dt (ax_T 124)).lookup 90 = some (.aload_n 0, 1, 0, 0, 0) := by decide +kernel
theorem l124_91 : (ax_dt (ax_T 124)).lookup 91 = some (.getfield 18, 3, 8, 1, 0) := by decide +kernel
theorem l124_94 : (ax_dt (ax_T 124)).lookup 94 = some (.invokevirtual 63, 3, 52, 0, 0) := by decide +kernel
theorem l124_97 : (ax_dt (ax_T 124)).lookup 97 = some (.istore 5, 2, 0, 0, 0) := by decide +kernel
theorem l124_99 : (ax_dt (ax_T 124)).lookup 99 = some (.aload_n 0, 1, 0, 0, 0) := by decide +kernel
theorem l124_100 : (ax_dt (ax_T 124)).lookup 100 = some (.getfield 18, 3, 8, 1, 0) := by decide +kernel
theorem l124_103 : (ax_dt (ax_T 124)).lookup 103 = some (.aload 4, 2, 0, 0, 0) := by decide +kernel
theorem l124_105 : (ax_dt (ax_T 124)).lookup 105 = some (.aload_n 0, 1, 0, 0, 0) := by decide +kernel
theorem l124_106 : (ax_dt (ax_T 124)).lookup 106 = some (.getfield 45, 3, 8, 5, 0) := by decide +kernel
theorem l124_109 : (ax_dt (ax_T 124)).lookup 109 = some (.iload_n 3, 1, 0, 0, 0) := by decide +kernel
theorem l124_110 : (ax_dt (ax_T 124)).lookup 110 = some (.invokevirtual 287, 3, 84, 1, 0) := by decide +kernel
theorem l124_113 : (ax_dt (ax_T 124)).lookup 113 = some (.aload_n 0, 1, 0, 0, 0) := by decide +kernel
theorem l124_114 : (ax_dt (ax_T 124)).lookup 114 = some (.getfield 45, 3, 8, 5, 0) := by decide +kernel
theorem l124_117 : (ax_dt (ax_T 124)).lookup 117 = some (.getfield 273, 3, 7, 15, 0) := by decide +kernel
theorem l124_120 : (ax_dt (ax_T 124)).lookup 120 = some (.iload_n 3, 1, 0, 0, 0) := by decide +kernel
theorem l124_121 : (ax_dt (ax_T 124)).lookup 121 = some (.iaload, 1, 0, 0, 0) := by decide +kernel
theorem l124_122 : (ax_dt (ax_T 124)).lookup 122 = some (.invokevirtual 135, 3, 64, 3, 0) := by decide +kernel
theorem l124_125 : (ax_dt (ax_T 124)).lookup 125 = some (.aload_n 0, 1, 0, 0, 0) := by decide +kernel
theorem l124_126 : (ax_dt (ax_T 124)).lookup 126 = some (.getfield 45, 3, 8, 5, 0) := by decide +kernel
theorem l124_129 : (ax_dt (ax_T 124)).lookup 129 = some (.getfield 281, 3, 7, 14, 0) := by decide +kernel
theorem l124_132 : (ax_dt (ax_T 124)).lookup 132 = some (.iload_n 3, 1, 0, 0, 0) := by decide +kernel
theorem l124_133 : (ax_dt (ax_T 124)).lookup 133 = some (.iload 5, 2, 0, 0, 0) := by decide +kernel
theorem l124_135 : (ax_dt (ax_T 124)).lookup 135 = some (.i2l, 1, 0, 0, 0) := by decide +kernel
theorem l124_136 : (ax_dt (ax_T 124)).lookup 136 = some (.lastore, 1, 0, 0, 0) := by decide +kernel
theorem l124_137 : (ax_dt (ax_T 124)).lookup 137 = some (.iinc 2 1, 3, 0, 0, 0) := by decide +kernel
theorem l124_140 : (ax_dt (ax_T 124)).lookup 140 = some (.goto (-117), 3, 0, 0, 0) := by decide +kernel
theorem l124_143 : (ax_dt (ax_T 124)).lookup 143 = some (.iinc 1 1, 3, 0, 0, 0) := by decide +kernel
theorem l124_146 : (ax_dt (ax_T 124)).lookup 146 = some (.goto (-136), 3, 0, 0, 0) := by decide +kernel
theorem l124_149 : (ax_dt (ax_T 124)).lookup 149 = some (.return_, 1, 0, 0, 0) := by decide +kernel
noncomputable def F_X10_keepLetters_88 (v1 : Int) (v2 : Int) (v3 : Int) (y0 : Nat) (μ : bM) : Option ((Int × bM) ⊕ ((Int × bM) ⊕ (Int × bM))) := (F_X6_used 4 μ).bind fun w1 => (F_X8_start (μ 1 5).toNat v3 μ).bind fun w2 => bG (0 ≤ v3 ∧ v3 < 3200) (bMm (F_X6_addFrom 4 y0 w2 (μ ((μ 1 5).toNat + 14) v3.toNat) μ) (fun w3 μ4 => bG (0 ≤ v3 ∧ v3 < 3200) (bG (bR (v2 + 1)) (some (.inl ((v2 + 1), (bset μ4 ((μ4 1 5).toNat + 13) v3.toNat w1)))))))
noncomputable def F_X10_keepLetters_23 (v1 : Int) (v2 : Int) (μ : bM) : Option ((Int × bM) ⊕ ((Int × bM) ⊕ (Int × bM))) := bG (0 ≤ v1 ∧ v1 < 400) (if (μ ((μ 1 5).toNat + 10) v1.toNat) ≤ v2 then bG (bR (v1 + 1)) (some (.inr (.inl ((v1 + 1), μ)))) else (F_X8_slotAt v1 v2 μ).bind fun w3 => bG (0 ≤ w3 ∧ w3 < 3200) ((F_X2_isLetters (μ ((μ 1 5).toNat + 12) w3.toNat) μ).bind fun w4 => if w4 = 0 then bG (bR (v2 + 1)) (some (.inl ((v2 + 1), μ))) else bG (0 ≤ w3 ∧ w3 < 3200) (if ¬ (μ ((μ 1 5).toNat + 12) w3.toNat) = 14 then F_X10_keepLetters_88 v1 v2 w3 7 μ else F_X10_keepLetters_88 v1 v2 w3 11 μ)))
noncomputable def F_X10_keepLetters_10 (v1 : Int) (μ : bM) : Option ((Int × bM) ⊕ (Int × bM)) := if (μ (μ 1 5).toNat 1) ≤ v1 then some (.inr (0, μ)) else bLoop (fun z => F_X10_keepLetters_23 v1 z.1 z.2) (0, μ)
noncomputable def F_X10_keepLetters (μ : bM) : Option (Int × bM) := bMm (F_X6_cut 4 0 μ) (fun w1 μ2 => bLoop (fun z => F_X10_keepLetters_10 z.1 z.2) (0, μ2))
theorem p_X10_keepLetters_88 {L : Nat} {xs : Nat → Int32} {d : Nat} {μ : bM} {v1 : Int} {κ : ((Int × bM) ⊕ ((Int × bM) ⊕ (Int × bM))) → Option bX} (hr : ∀ r : Int × bM, κ (.inr (.inr r)) = (bMc) r) (H10 : ∀ (v1 : Int) (μ : bM), bR v1 → bD L xs (d + 2) 124 10 [(0, .ref 1), (1, bI v1)] [] μ (κ (.inr (.inl (v1, μ))))) (H23 : ∀ (v2 : Int) (μ : bM), bR v2 → bD L xs (d + 2) 124 23 [(0, .ref 1), (1, bI v1), (2, bI v2)] [] μ (κ (.inl (v2, μ))))  (h1 : bR v1) {v2 : Int} (h2 : bR v2) {v3 : Int} (h3 : bR v3) {y0 : Nat} (hy0 : bStore y0) : bD L xs (d + 2) 124 88 [(0, .ref 1), (1, bI v1), (2, bI v2), (3, bI v3)] [.ref y0] μ ((F_X10_keepLetters_88 v1 v2 v3 y0 μ).bind κ) := by
  unfold F_X10_keepLetters_88
  refine bD.ok fun hk => ?_
  refine b_w (pc' := 90) (lv1 := ax_st1 [(0, .ref 1), (1, bI v1), (2, bI v2), (3, bI v3)] 4 (.ref y0)) (lv' := [(0, .ref 1), (1, bI v1), (2, bI v2), (3, bI v3), (4, .ref y0)]) (st' := []) l124_88 (fun _ => rfl) (bSb rfl (bSb rfl (bSb rfl (bSb rfl (bSb rfl bSn))))) ?_
  refine b_s (pc' := 91) (lv1 := [(0, .ref 1), (1, bI v1), (2, bI v2), (3, bI v3), (4, .ref y0)]) (st' := [.ref 1]) l124_90 (fun _ => rfl) ?_
  refine b_gp (q' := 4) (j := 3) l124_91 (by rfl) (by decide) (by decide) rfl hk rfl rfl (b_pc (pc' := 94) rfl ?_)
  refine b_cPi l124_94 rfl (b_rc (ci := 5) (by rfl) (by decide) (by decide +kernel)) (Nat.le_of_ble_eq_true rfl) (Nat.le_of_ble_eq_true rfl) rfl (r_X6_used 4 (by rfl)) fun w1 hw1 => b_pc (pc' := 97) rfl ?_
  refine b_w (pc' := 99) (lv1 := ax_st1 [(0, .ref 1), (1, bI v1), (2, bI v2), (3, bI v3), (4, .ref y0)] 5 (bI w1)) (lv' := [(0, .ref 1), (1, bI v1), (2, bI v2), (3, bI v3), (4, .ref y0), (5, bI w1)]) (st' := []) l124_97 (fun _ => rfl) (bSb rfl (bSb rfl (bSb rfl (bSb rfl (bSb rfl (bSb rfl bSn)))))) ?_
  refine b_s (pc' := 100) (lv1 := [(0, .ref 1), (1, bI v1), (2, bI v2), (3, bI v3), (4, .ref y0), (5, bI w1)]) (st' := [.ref 1]) l124_99 (fun _ => rfl) ?_
  refine b_gp (q' := 4) (j := 3) l124_100 (by rfl) (by decide) (by decide) rfl hk rfl rfl (b_pc (pc' := 103) rfl ?_)
  refine b_s (pc' := 105) (lv1 := [(0, .ref 1), (1, bI v1), (2, bI v2), (3, bI v3), (4, .ref y0), (5, bI w1)]) (st' := [.ref y0, .ref 4]) l124_103 (fun _ => rfl) ?_
  refine b_s (pc' := 106) (lv1 := [(0, .ref 1), (1, bI v1), (2, bI v2), (3, bI v3), (4, .ref y0), (5, bI w1)]) (st' := [.ref 1, .ref y0, .ref 4]) l124_105 (fun _ => rfl) ?_
  refine b_gr l124_106 (by rfl) (by decide) (by decide) rfl (b_pc (pc' := 109) rfl ?_)
  refine b_s (pc' := 110) (lv1 := [(0, .ref 1), (1, bI v1), (2, bI v2), (3, bI v3), (4, .ref y0), (5, bI w1)]) (st' := [bI v3, .ref (μ 1 5).toNat, .ref y0, .ref 4]) l124_109 (fun _ => rfl) ?_
  refine b_cPi l124_110 rfl (b_rc (ci := 7) (bO_ft hk (ci := 8) (by rfl) rfl) (by decide) (by decide +kernel)) (Nat.le_of_ble_eq_true rfl) (Nat.le_of_ble_eq_true rfl) rfl (r_X8_start (μ 1 5).toNat (bO_ft hk (ci := 8) (by rfl) rfl) v3 h3) fun w2 hw2 => b_pc (pc' := 113) rfl ?_
  refine b_s (pc' := 114) (lv1 := [(0, .ref 1), (1, bI v1), (2, bI v2), (3, bI v3), (4, .ref y0), (5, bI w1)]) (st' := [.ref 1, bI w2, .ref y0, .ref 4]) l124_113 (fun _ => rfl) ?_
  refine b_gr l124_114 (by rfl) (by decide) (by decide) rfl (b_pc (pc' := 117) rfl ?_)
  refine b_gp (q' := ((μ 1 5).toNat + 14)) (j := 14) l124_117 (bO_ft hk (ci := 8) (by rfl) rfl) (by decide) (by decide) rfl hk rfl rfl (b_pc (pc' := 120) rfl ?_)
  refine b_s (pc' := 121) (lv1 := [(0, .ref 1), (1, bI v1), (2, bI v2), (3, bI v3), (4, .ref y0), (5, bI w1)]) (st' := [bI v3, .ref ((μ 1 5).toNat + 14), bI w2, .ref y0, .ref 4]) l124_120 (fun _ => rfl) ?_
  refine b_g fun g9 => ?_
  refine b_ial l124_121 (bTree_l (bO_ft hk (ci := 8) (by rfl) rfl)) g9 (b_pc (pc' := 122) rfl ?_)
  refine b_cMv l124_122 rfl (b_rc (ci := 5) (by rfl) (by decide) (by decide +kernel)) (Nat.le_of_ble_eq_true rfl) (Nat.le_of_ble_eq_true rfl) rfl (r_X6_addFrom 4 (by rfl) y0 hy0 w2 hw2 (μ ((μ 1 5).toNat + 14) v3.toNat) (bO_i hk (bTree_l (bO_ft hk (ci := 8) (by rfl) rfl)))) fun w3 μ4 hw3 => bD.ok fun hk5 => b_pc (pc' := 125) rfl ?_
  refine b_s (pc' := 126) (lv1 := [(0, .ref 1), (1, bI v1), (2, bI v2), (3, bI v3), (4, .ref y0), (5, bI w1)]) (st' := [.ref 1]) l124_125 (fun _ => rfl) ?_
  refine b_gr l124_126 (by rfl) (by decide) (by decide) rfl (b_pc (pc' := 129) rfl ?_)
  refine b_gp (q' := ((μ4 1 5).toNat + 13)) (j := 13) l124_129 (bO_ft hk5 (ci := 8) (by rfl) rfl) (by decide) (by decide) rfl hk5 rfl rfl (b_pc (pc' := 132) rfl ?_)
  refine b_s (pc' := 133) (lv1 := [(0, .ref 1), (1, bI v1), (2, bI v2), (3, bI v3), (4, .ref y0), (5, bI w1)]) (st' := [bI v3, .ref ((μ4 1 5).toNat + 13)]) l124_132 (fun _ => rfl) ?_
  refine b_s (pc' := 135) (lv1 := [(0, .ref 1), (1, bI v1), (2, bI v2), (3, bI v3), (4, .ref y0), (5, bI w1)]) (st' := [bI w1, bI v3, .ref ((μ4 1 5).toNat + 13)]) l124_133 (fun _ => rfl) ?_
  refine b_i2l l124_135 hw1 (b_pc (pc' := 136) rfl ?_)
  refine b_g fun g8 => ?_
  refine b_las l124_136 (bTree_v (bO_ft hk5 (ci := 8) (by rfl) rfl)) g8 (bR_L hw1) (bD.ok fun hk6 => b_pc (pc' := 137) rfl ?_)
  refine b_inc (lv' := [(0, .ref 1), (1, bI v1), (2, bI (v2 + 1))]) l124_137 rfl (by decide +kernel) (bSb rfl (bSb rfl (bSb rfl bSn))) fun g7 => (b_pc (pc' := 140) rfl ?_)
  refine b_s (pc' := 23) (lv1 := [(0, .ref 1), (1, bI v1), (2, bI (v2 + 1))]) (st' := []) l124_140 (fun _ => rfl) ?_
  refine bD.wk (lv' := [(0, .ref 1), (1, bI v1), (2, bI (v2 + 1))]) (bSb rfl (bSb rfl (bSb rfl bSn))) ?_
  exact H23 (v2 + 1) (bset μ4 ((μ4 1 5).toNat + 13) v3.toNat w1) g7
theorem q_X10_keepLetters_23 {L : Nat} {xs : Nat → Int32} {d : Nat} {μ : bM} {v1 : Int} {κ : ((Int × bM) ⊕ ((Int × bM) ⊕ (Int × bM))) → Option bX} (hr : ∀ r : Int × bM, κ (.inr (.inr r)) = (bMc) r) (H10 : ∀ (v1 : Int) (μ : bM), bR v1 → bD L xs (d + 2) 124 10 [(0, .ref 1), (1, bI v1)] [] μ (κ (.inr (.inl (v1, μ))))) (H23 : ∀ (v2 : Int) (μ : bM), bR v2 → bD L xs (d + 2) 124 23 [(0, .ref 1), (1, bI v1), (2, bI v2)] [] μ (κ (.inl (v2, μ))))  (h1 : bR v1) {v2 : Int} (h2 : bR v2) : bD L xs (d + 2) 124 23 [(0, .ref 1), (1, bI v1), (2, bI v2)] [] μ ((F_X10_keepLetters_23 v1 v2 μ).bind κ) := by
  unfold F_X10_keepLetters_23
  refine bD.ok fun hk => ?_
  refine b_s (pc' := 24) (lv1 := [(0, .ref 1), (1, bI v1), (2, bI v2)]) (st' := [bI v2]) l124_23 (fun _ => rfl) ?_
  refine b_s (pc' := 25) (lv1 := [(0, .ref 1), (1, bI v1), (2, bI v2)]) (st' := [.ref 1, bI v2]) l124_24 (fun _ => rfl) ?_
  refine b_gr l124_25 (by rfl) (by decide) (by decide) rfl (b_pc (pc' := 28) rfl ?_)
  refine b_gp (q' := ((μ 1 5).toNat + 10)) (j := 10) l124_28 (bO_ft hk (ci := 8) (by rfl) rfl) (by decide) (by decide) rfl hk rfl rfl (b_pc (pc' := 31) rfl ?_)
  refine b_s (pc' := 32) (lv1 := [(0, .ref 1), (1, bI v1), (2, bI v2)]) (st' := [bI v1, .ref ((μ 1 5).toNat + 10), bI v2]) l124_31 (fun _ => rfl) ?_
  refine b_g fun g10 => ?_
  refine b_ial l124_32 (bTree_e (bO_ft hk (ci := 8) (by rfl) rfl) 10 (by decide)) g10 (b_pc (pc' := 33) rfl ?_)
  refine b_ige (pt := 143) l124_33 h2 (bO_i hk (bTree_e (bO_ft hk (ci := 8) (by rfl) rfl) 10 (by decide))) (by decide) rfl (fun c1 => ?_) (fun c1 => b_pc (pc' := 36) rfl ?_)
  · refine b_inc (lv' := [(0, .ref 1), (1, bI (v1 + 1))]) l124_143 rfl (by decide +kernel) (bSb rfl (bSb rfl bSn)) fun g2 => (b_pc (pc' := 146) rfl ?_)
    refine b_s (pc' := 10) (lv1 := [(0, .ref 1), (1, bI (v1 + 1))]) (st' := []) l124_146 (fun _ => rfl) ?_
    refine bD.wk (lv' := [(0, .ref 1), (1, bI (v1 + 1))]) (bSb rfl (bSb rfl bSn)) ?_
    exact H10 (v1 + 1) μ g2
  · refine b_s (pc' := 37) (lv1 := [(0, .ref 1), (1, bI v1), (2, bI v2)]) (st' := [bI v1]) l124_36 (fun _ => rfl) ?_
    refine b_s (pc' := 38) (lv1 := [(0, .ref 1), (1, bI v1), (2, bI v2)]) (st' := [bI v2, bI v1]) l124_37 (fun _ => rfl) ?_
    refine b_cPi l124_38 rfl (fun _ => trivial) (Nat.le_of_ble_eq_true rfl) (Nat.le_of_ble_eq_true rfl) rfl (r_X8_slotAt v1 h1 v2 h2) fun w3 hw3 => b_pc (pc' := 41) rfl ?_
    refine b_w (pc' := 42) (lv1 := ax_st1 [(0, .ref 1), (1, bI v1), (2, bI v2)] 3 (bI w3)) (lv' := [(0, .ref 1), (1, bI v1), (2, bI v2), (3, bI w3)]) (st' := []) l124_41 (fun _ => rfl) (bSb rfl (bSb rfl (bSb rfl (bSb rfl bSn)))) ?_
    refine b_s (pc' := 43) (lv1 := [(0, .ref 1), (1, bI v1), (2, bI v2), (3, bI w3)]) (st' := [.ref 1]) l124_42 (fun _ => rfl) ?_
    refine b_gr l124_43 (by rfl) (by decide) (by decide) rfl (b_pc (pc' := 46) rfl ?_)
    refine b_gp (q' := ((μ 1 5).toNat + 12)) (j := 12) l124_46 (bO_ft hk (ci := 8) (by rfl) rfl) (by decide) (by decide) rfl hk rfl rfl (b_pc (pc' := 49) rfl ?_)
    refine b_s (pc' := 50) (lv1 := [(0, .ref 1), (1, bI v1), (2, bI v2), (3, bI w3)]) (st' := [bI w3, .ref ((μ 1 5).toNat + 12)]) l124_49 (fun _ => rfl) ?_
    refine b_g fun g9 => ?_
    refine b_ial l124_50 (bTree_f (bO_ft hk (ci := 8) (by rfl) rfl)) g9 (b_pc (pc' := 51) rfl ?_)
    refine b_cPz l124_51 rfl (fun _ => trivial) (Nat.le_of_ble_eq_true rfl) (Nat.le_of_ble_eq_true rfl) rfl (r_X2_isLetters (μ ((μ 1 5).toNat + 12) w3.toNat) (bO_i hk (bTree_f (bO_ft hk (ci := 8) (by rfl) rfl)))) fun w4 hw4 => b_pc (pc' := 54) rfl ?_
    refine b_zeq (pt := 137) l124_54 (bZ_R hw4) (by decide) rfl (fun c5 => ?_) (fun c5 => b_pc (pc' := 57) rfl ?_)
    · refine b_inc (lv' := [(0, .ref 1), (1, bI v1), (2, bI (v2 + 1))]) l124_137 rfl (by decide +kernel) (bSb rfl (bSb rfl (bSb rfl bSn))) fun g6 => (b_pc (pc' := 140) rfl ?_)
      refine b_s (pc' := 23) (lv1 := [(0, .ref 1), (1, bI v1), (2, bI (v2 + 1))]) (st' := []) l124_140 (fun _ => rfl) ?_
      refine bD.wk (lv' := [(0, .ref 1), (1, bI v1), (2, bI (v2 + 1))]) (bSb rfl (bSb rfl (bSb rfl bSn))) ?_
      exact H23 (v2 + 1) μ g6
    · refine b_s (pc' := 58) (lv1 := [(0, .ref 1), (1, bI v1), (2, bI v2), (3, bI w3)]) (st' := [.ref 1]) l124_57 (fun _ => rfl) ?_
      refine b_gr l124_58 (by rfl) (by decide) (by decide) rfl (b_pc (pc' := 61) rfl ?_)
      refine b_gp (q' := ((μ 1 5).toNat + 12)) (j := 12) l124_61 (bO_ft hk (ci := 8) (by rfl) rfl) (by decide) (by decide) rfl hk rfl rfl (b_pc (pc' := 64) rfl ?_)
      refine b_s (pc' := 65) (lv1 := [(0, .ref 1), (1, bI v1), (2, bI v2), (3, bI w3)]) (st' := [bI w3, .ref ((μ 1 5).toNat + 12)]) l124_64 (fun _ => rfl) ?_
      refine b_g fun g8 => ?_
      refine b_ial l124_65 (bTree_f (bO_ft hk (ci := 8) (by rfl) rfl)) g8 (b_pc (pc' := 66) rfl ?_)
      refine b_bipush l124_66 (by decide) (b_pc (pc' := 68) rfl ?_)
      refine b_ine (pt := 81) l124_68 (bO_i hk (bTree_f (bO_ft hk (ci := 8) (by rfl) rfl))) (by decide) (by decide) rfl (fun c7 => ?_) (fun c7 => b_pc (pc' := 71) rfl ?_)
      · refine b_s (pc' := 82) (lv1 := [(0, .ref 1), (1, bI v1), (2, bI v2), (3, bI w3)]) (st' := [.ref 1]) l124_81 (fun _ => rfl) ?_
        refine b_gp (q' := 6) (j := 5) l124_82 (by rfl) (by decide) (by decide) rfl hk rfl rfl (b_pc (pc' := 85) rfl ?_)
        refine b_gp (q' := 7) (j := 1) l124_85 (by rfl) (by decide) (by decide) rfl hk rfl rfl (b_pc (pc' := 88) rfl ?_)
        refine bD.wk (lv' := [(0, .ref 1), (1, bI v1), (2, bI v2), (3, bI w3)]) (bSb rfl (bSb rfl (bSb rfl (bSb rfl bSn)))) ?_
        exact p_X10_keepLetters_88 hr H10 H23 h1 h2 hw3 (by rfl)
      · refine b_s (pc' := 72) (lv1 := [(0, .ref 1), (1, bI v1), (2, bI v2), (3, bI w3)]) (st' := [.ref 1]) l124_71 (fun _ => rfl) ?_
        refine b_gp (q' := 6) (j := 5) l124_72 (by rfl) (by decide) (by decide) rfl hk rfl rfl (b_pc (pc' := 75) rfl ?_)
        refine b_gp (q' := 11) (j := 5) l124_75 (by rfl) (by decide) (by decide) rfl hk rfl rfl (b_pc (pc' := 78) rfl ?_)
        refine b_s (pc' := 88) (lv1 := [(0, .ref 1), (1, bI v1), (2, bI v2), (3, bI w3)]) (st' := [.ref 11]) l124_78 (fun _ => rfl) ?_
        refine bD.wk (lv' := [(0, .ref 1), (1, bI v1), (2, bI v2), (3, bI w3)]) (bSb rfl (bSb rfl (bSb rfl (bSb rfl bSn)))) ?_
        exact p_X10_keepLetters_88 hr H10 H23 h1 h2 hw3 (by rfl)
theorem p_X10_keepLetters_23 {L : Nat} {xs : Nat → Int32} {d : Nat} {μ : bM}  {κ : ((Int × bM) ⊕ (Int × bM)) → Option bX} (hr : ∀ r : Int × bM, κ (.inr r) = (bMc) r) (H10 : ∀ (v1 : Int) (μ : bM), bR v1 → bD L xs (d + 2) 124 10 [(0, .ref 1), (1, bI v1)] [] μ (κ (.inl (v1, μ))))  {v1 : Int} (h1 : bR v1) {v2 : Int} (h2 : bR v2) : bD L xs (d + 2) 124 23 [(0, .ref 1), (1, bI v1), (2, bI v2)] [] μ ((bLoop (fun z => F_X10_keepLetters_23 v1 z.1 z.2) (v2, μ)).bind κ) :=
  b_loop (fun z => [(0, .ref 1), (1, bI v1), (2, bI z.1)]) (fun z => z.2) (fun z => bR z.1) (fun κ' hκ HH z hz => q_X10_keepLetters_23 (κ := κ') (fun r => (hκ _).trans (hr r)) (fun a1 am b1 => b_eq (hκ _) (H10 a1 am b1)) (fun a2 am b2 => HH (a2, am) b2)  h1 hz) (v2, μ) h2
theorem q_X10_keepLetters_10 {L : Nat} {xs : Nat → Int32} {d : Nat} {μ : bM}  {κ : ((Int × bM) ⊕ (Int × bM)) → Option bX} (hr : ∀ r : Int × bM, κ (.inr r) = (bMc) r) (H10 : ∀ (v1 : Int) (μ : bM), bR v1 → bD L xs (d + 2) 124 10 [(0, .ref 1), (1, bI v1)] [] μ (κ (.inl (v1, μ))))  {v1 : Int} (h1 : bR v1) : bD L xs (d + 2) 124 10 [(0, .ref 1), (1, bI v1)] [] μ ((F_X10_keepLetters_10 v1 μ).bind κ) := by
  unfold F_X10_keepLetters_10
  refine bD.ok fun hk => ?_
  refine b_s (pc' := 11) (lv1 := [(0, .ref 1), (1, bI v1)]) (st' := [bI v1]) l124_10 (fun _ => rfl) ?_
  refine b_s (pc' := 12) (lv1 := [(0, .ref 1), (1, bI v1)]) (st' := [.ref 1, bI v1]) l124_11 (fun _ => rfl) ?_
  refine b_gr l124_12 (by rfl) (by decide) (by decide) rfl (b_pc (pc' := 15) rfl ?_)
  refine b_gi l124_15 (bO_ft hk (ci := 8) (by rfl) rfl) (by decide) (by decide) rfl (b_pc (pc' := 18) rfl ?_)
  refine b_ige (pt := 149) l124_18 h1 (bO_f hk (ci := 7) (bO_ft hk (ci := 8) (by rfl) rfl) rfl) (by decide) rfl (fun c1 => ?_) (fun c1 => b_pc (pc' := 21) rfl ?_)
  · exact b_retv l124_149 rfl (hr _)
  · refine b_s (pc' := 22) (lv1 := [(0, .ref 1), (1, bI v1)]) (st' := [bI 0]) l124_21 (fun _ => rfl) ?_
    refine b_w (pc' := 23) (lv1 := ax_st1 [(0, .ref 1), (1, bI v1)] 2 (bI 0)) (lv' := [(0, .ref 1), (1, bI v1), (2, bI 0)]) (st' := []) l124_22 (fun _ => rfl) (bSb rfl (bSb rfl (bSb rfl bSn))) ?_
    refine bD.wk (lv' := [(0, .ref 1), (1, bI v1), (2, bI 0)]) (bSb rfl (bSb rfl (bSb rfl bSn))) ?_
    exact p_X10_keepLetters_23 hr H10 h1 (by decide)
theorem p_X10_keepLetters_10 {L : Nat} {xs : Nat → Int32} {d : Nat} {μ : bM}  {κ : (Int × bM) → Option bX} (hr : ∀ r : Int × bM, κ r = (bMc) r)  {v1 : Int} (h1 : bR v1) : bD L xs (d + 2) 124 10 [(0, .ref 1), (1, bI v1)] [] μ ((bLoop (fun z => F_X10_keepLetters_10 z.1 z.2) (v1, μ)).bind κ) :=
  b_loop (fun z => [(0, .ref 1), (1, bI z.1)]) (fun z => z.2) (fun z => bR z.1) (fun κ' hκ HH z hz => q_X10_keepLetters_10 (κ := κ') (fun r => (hκ _).trans (hr r)) (fun a1 am b1 => HH (a1, am) b1)  hz) (v1, μ) h1
theorem r_X10_keepLetters {L : Nat} {xs : Nat → Int32} {d : Nat} {μ : bM}   : bD L xs (d + 2) 124 0 [(0, .ref 1)] [] μ ((F_X10_keepLetters μ).bind (bMc)) := by
  have hr : ∀ r, (bMc) r = (bMc) r := fun _ => rfl
  unfold F_X10_keepLetters
  refine bD.ok fun hk => ?_
  refine b_s (pc' := 1) (lv1 := [(0, .ref 1)]) (st' := [.ref 1]) l124_0 (fun _ => rfl) ?_
  refine b_gp (q' := 4) (j := 3) l124_1 (by rfl) (by decide) (by decide) rfl hk rfl rfl (b_pc (pc' := 4) rfl ?_)
  refine b_s (pc' := 5) (lv1 := [(0, .ref 1)]) (st' := [bI 0, .ref 4]) l124_4 (fun _ => rfl) ?_
  refine b_cMv l124_5 rfl (b_rc (ci := 5) (by rfl) (by decide) (by decide +kernel)) (Nat.le_of_ble_eq_true rfl) (Nat.le_of_ble_eq_true rfl) rfl (r_X6_cut 4 (by rfl) 0 (by decide)) fun w1 μ2 hw1 => bD.ok fun hk3 => b_pc (pc' := 8) rfl ?_
  refine b_s (pc' := 9) (lv1 := [(0, .ref 1)]) (st' := [bI 0]) l124_8 (fun _ => rfl) ?_
  refine b_w (pc' := 10) (lv1 := ax_st1 [(0, .ref 1)] 1 (bI 0)) (lv' := [(0, .ref 1), (1, bI 0)]) (st' := []) l124_9 (fun _ => rfl) (bSb rfl (bSb rfl bSn)) ?_
  refine bD.wk (lv' := [(0, .ref 1), (1, bI 0)]) (bSb rfl (bSb rfl bSn)) ?_
  exact p_X10_keepLetters_10 hr (by decide)
/-! ET.read -/
theorem l105_0 : (ax_dt (ax_T 105)).lookup 0 = some (.aload_n 0, 1, 0, 0, 0) := by decide +kernel
theorem l105_1 : (ax_dt (ax_T 105)).lookup 1 = some (.getfield 38, 3, 8, 4, 0) := by decide +kernel
theorem l105_4 : (ax_dt (ax_T 105)).lookup 4 = some (.aload_n 0, 1, 0, 0, 0) := by decide +kernel
theorem l105_5 : (ax_dt (ax_T 105)).lookup 5 = some (.getfield 24, 3, 8, 2, 0) := by decide +kernel
theorem l105_8 : (ax_dt (ax_T 105)).lookup 8 = some (.invokevirtual 205, 3, 40, 1, 0) := by decide +kernel
theorem l105_11 : (ax_dt (ax_T 105)).lookup 11 = some (.goto 17, 3, 0, 0, 0) := by decide +kernel
theorem l105_14 : (ax_dt (ax_T 105)).lookup 14 = some (.astore_n 1, 1, 0, 0, 0) := by decide +kernel
theorem l105_15 : (ax_dt (ax_T 105)).lookup 15 = some (.iconst (-1), 1, 0, 0, 0) := by decide +kernel
theorem l105_16 : (ax_dt (ax_T 105)).lookup 16 = some (.aload_n 0, 1, 0, 0, 0) := by decide +kernel
theorem l105_17 : (ax_dt (ax_T 105)).lookup 17 = some (.getfield 38, 3, 8, 4, 0) := by decide +kernel
theorem l105_20 : (ax_dt (ax_T 105)).lookup 20 = some (.getfield 209, 3, 3, 1, 0) := by decide +kernel
theorem l105_23 : (ax_dt (ax_T 105)).lookup 23 = some (.getfield 213, 3, 1, 4, 0) := by decide +kernel
theorem l105_26 : (ax_dt (ax_T 105)).lookup 26 = some (.isub, 1, 0, 0, 0) := by decide +kernel
theorem l105_27 : (ax_dt (ax_T 105)).lookup 27 = some (.ireturn, 1, 0, 0, 0) := by decide +kernel
theorem l105_28 : (ax_dt (ax_T 105)).lookup 28 = some (.aload_n 0, 1, 0, 0, 0) := by decide +kernel
theorem l105_29 : (ax_dt (ax_T 105)).lookup 29 = some (.getfield 45, 3, 8, 5, 0) := by decide +kernel
theorem l105_32 : (ax_dt (ax_T 105)).lookup 32 = some (.astore_n 1, 1, 0, 0, 0) := by decide +kernel
theorem l105_33 : (ax_dt (ax_T 105)).lookup 33 = some (.aload_n 0, 1, 0, 0, 0) := by decide +kernel
theorem l105_34 : (ax_dt (ax_T 105)).lookup 34 = some (.aload_n 0, 1, 0, 0, 0) := by decide +kernel
theorem l105_35 : (ax_dt (ax_T 105)).lookup 35 = some (.getfield 38, 3, 8, 4, 0) := by decide +kernel
theorem l105_38 : (ax_dt (ax_T 105)).lookup 38 = some (.getfield 218, 3, 3, 0, 0) := by decide +kernel
theorem l105_41 : (ax_dt (ax_T 105)).lookup 41 = some (.putfield 45, 3, 8, 5, 0) := by decide +kernel
theorem l105_44 : (ax_dt (ax_T 105)).lookup 44 = some (.aload_n 0, 1, 0, 0, 0) := by decide +kernel
theorem l105_45 : (ax_dt (ax_T 105)).lookup 45 = some (.getfield 38, 3, 8, 4, 0) := by decide +kernel
theorem l105_48 : (ax_dt (ax_T 105)).lookup 48 = some (.aload_n 1, 1, 0, 0, 0) := by decide +kernel
theorem l105_49 : (ax_dt (ax_T 105)).lookup 49 = some (.putfield 218, 3, 3, 0, 0) := by decide +kernel
theorem l105_52 : (ax_dt (ax_T 105)).lookup 52 = some (.aload_n 0, 1, 0, 0, 0) := by decide +kernel
theorem l105_53 : (ax_dt (ax_T 105)).lookup 53 = some (.invokevirtual 219, 3, 124, 0, 0) := by decide +kernel
theorem l105_56 : (ax_dt (ax_T 105)).lookup 56 = some (.aload_n 0, 1, 0, 0, 0) := by decide +kernel
theorem l105_57 : (ax_dt (ax_T 105)).lookup 57 = some (.getfield 31, 3, 8, 3, 0) := by decide +kernel
theorem l105_60 : (ax_dt (ax_T 105)).lookup 60 = some (.invokevirtual 89, 3, 23, 0, 0) := by decide +kernel
theorem l105_63 : (ax_dt (ax_T 105)).lookup 63 = some (.aload_n 0, 1, 0, 0, 0) := by decide +kernel
theorem l105_64 : (ax_dt (ax_T 105)).lookup 64 = some (.getfield 45, 3, 8, 5, 0) := by decide +kernel
theorem l105_67 : (ax_dt (ax_T 105)).lookup 67 = some (.getfield 81, 3, 7, 1, 0) := by decide +kernel
theorem l105_70 : (ax_dt (ax_T 105)).lookup 70 = some (.ireturn, 1, 0, 0, 0) := by decide +kernel
noncomputable def F_X10_read (μ : bM) : Option (Int × bM × Nat) := bXm (F_X4_readUnits μ) (fun w1 μ2 => bMm (F_X10_keepLetters (bset (bset μ2 1 5 (((μ2 30 0).toNat : Nat) : Int)) 30 0 (((μ2 1 5).toNat : Nat) : Int))) (fun w6 μ7 => bMm (F_X3_forget μ7) (fun w9 μ10 => some ((μ10 (μ10 1 5).toNat 1), μ10, 0)))) (fun e μ => if e = "java/lang/IllegalStateException" then ((fun μ13 => bG (bR ((-1) - (μ13 46 4))) (some (((-1) - (μ13 46 4)), μ13))) μ).bind (fun r => some (r.1, r.2, 1)) else none)
theorem r_X10_read {L : Nat} {xs : Nat → Int32} {d : Nat} {μ : bM}   : bD L xs (d + 7) 105 0 [(0, .ref 1)] [] μ ((F_X10_read μ).bind (bCc)) := by
  have hr : ∀ r, (bCc) r = (bCc) r := fun _ => rfl
  unfold F_X10_read
  refine bD.ok fun hk => ?_
  refine b_s (pc' := 1) (lv1 := [(0, .ref 1)]) (st' := [.ref 1]) l105_0 (fun _ => rfl) ?_
  refine b_gp (q' := 30) (j := 29) l105_1 (by rfl) (by decide) (by decide) rfl hk rfl rfl (b_pc (pc' := 4) rfl ?_)
  refine b_s (pc' := 5) (lv1 := [(0, .ref 1)]) (st' := [.ref 1, .ref 30]) l105_4 (fun _ => rfl) ?_
  refine b_gp (q' := 6) (j := 5) l105_5 (by rfl) (by decide) (by decide) rfl hk rfl rfl (b_pc (pc' := 8) rfl ?_)
  refine b_cCv l105_8 rfl (b_rc (ci := 3) (by rfl) (by decide) (by decide +kernel)) (Nat.le_of_ble_eq_true rfl) (Nat.le_of_ble_eq_true rfl) rfl (r_X4_readUnits ) ⟨fun _ z => (by cases z), (by decide +kernel)⟩ ?_ fun w1 μ2 hw1 => bD.ok fun hk3 => b_pc (pc' := 11) rfl ?_
  · intro e μ13
    by_cases z0 : e = "java/lang/IllegalStateException"
    · subst z0
      right
      refine ⟨14, 1, _, (fun μ13 => bG (bR ((-1) - (μ13 46 4))) (some (((-1) - (μ13 46 4)), μ13))) μ13, by decide +kernel, l105_14, rfl, by decide, ?_, ?_⟩
      · refine bD.wk (lv' := [(0, .ref 1)]) (bSb rfl bSn) ?_
        have hr : ∀ r, bMc r = bMc r := fun _ => rfl
        refine bD.ok fun hk12 => b_pc (pc' := 15) rfl ?_
        refine b_s (pc' := 16) (lv1 := [(0, .ref 1)]) (st' := [bI (-1)]) l105_15 (fun _ => rfl) ?_
        refine b_s (pc' := 17) (lv1 := [(0, .ref 1)]) (st' := [.ref 1, bI (-1)]) l105_16 (fun _ => rfl) ?_
        refine b_gp (q' := 30) (j := 29) l105_17 (by rfl) (by decide) (by decide) rfl hk12 rfl rfl (b_pc (pc' := 20) rfl ?_)
        refine b_gp (q' := 46) (j := 16) l105_20 (by rfl) (by decide) (by decide) rfl hk12 rfl rfl (b_pc (pc' := 23) rfl ?_)
        refine b_gi l105_23 (by rfl) (by decide) (by decide) rfl (b_pc (pc' := 26) rfl ?_)
        refine b_isub l105_26 fun g14 => (b_pc (pc' := 27) rfl ?_)
        exact b_reti l105_27 rfl g14 (hr _)
      · dsimp only
        rw [if_pos rfl]
        exact b_hz
    · left
      dsimp only
      rw [if_neg z0]
      rfl
  · refine b_s (pc' := 28) (lv1 := [(0, .ref 1)]) (st' := []) l105_11 (fun _ => rfl) ?_
    refine b_s (pc' := 29) (lv1 := [(0, .ref 1)]) (st' := [.ref 1]) l105_28 (fun _ => rfl) ?_
    refine b_gr l105_29 (by rfl) (by decide) (by decide) rfl (b_pc (pc' := 32) rfl ?_)
    refine b_w (pc' := 33) (lv1 := ax_st1 [(0, .ref 1)] 1 (.ref (μ2 1 5).toNat)) (lv' := [(0, .ref 1), (1, .ref (μ2 1 5).toNat)]) (st' := []) l105_32 (fun _ => rfl) (bSb rfl (bSb rfl bSn)) ?_
    refine b_s (pc' := 34) (lv1 := [(0, .ref 1), (1, .ref (μ2 1 5).toNat)]) (st' := [.ref 1]) l105_33 (fun _ => rfl) ?_
    refine b_s (pc' := 35) (lv1 := [(0, .ref 1), (1, .ref (μ2 1 5).toNat)]) (st' := [.ref 1, .ref 1]) l105_34 (fun _ => rfl) ?_
    refine b_gp (q' := 30) (j := 29) l105_35 (by rfl) (by decide) (by decide) rfl hk3 rfl rfl (b_pc (pc' := 38) rfl ?_)
    refine b_gr l105_38 (by rfl) (by decide) (by decide) rfl (b_pc (pc' := 41) rfl ?_)
    refine b_pt l105_41 (by rfl) (by decide) (by decide) rfl rfl (bO_ft hk3 (ci := 3) (by rfl) rfl) (bD.ok fun hk4 => b_pc (pc' := 44) rfl ?_)
    refine b_s (pc' := 45) (lv1 := [(0, .ref 1), (1, .ref (μ2 1 5).toNat)]) (st' := [.ref 1]) l105_44 (fun _ => rfl) ?_
    refine b_gp (q' := 30) (j := 29) l105_45 (by rfl) (by decide) (by decide) rfl hk4 rfl rfl (b_pc (pc' := 48) rfl ?_)
    refine b_s (pc' := 49) (lv1 := [(0, .ref 1), (1, .ref (μ2 1 5).toNat)]) (st' := [.ref (μ2 1 5).toNat, .ref 30]) l105_48 (fun _ => rfl) ?_
    refine b_pt l105_49 (by rfl) (by decide) (by decide) rfl rfl (bO_ft hk3 (ci := 8) (by rfl) rfl) (bD.ok fun hk5 => b_pc (pc' := 52) rfl ?_)
    refine b_s (pc' := 53) (lv1 := [(0, .ref 1), (1, .ref (μ2 1 5).toNat)]) (st' := [.ref 1]) l105_52 (fun _ => rfl) ?_
    refine b_cMv l105_53 rfl (b_rc (ci := 8) (by rfl) (by decide) (by decide +kernel)) (Nat.le_of_ble_eq_true rfl) (Nat.le_of_ble_eq_true rfl) rfl (r_X10_keepLetters ) fun w6 μ7 hw6 => bD.ok fun hk8 => b_pc (pc' := 56) rfl ?_
    refine b_s (pc' := 57) (lv1 := [(0, .ref 1), (1, .ref (μ2 1 5).toNat)]) (st' := [.ref 1]) l105_56 (fun _ => rfl) ?_
    refine b_gp (q' := 13) (j := 12) l105_57 (by rfl) (by decide) (by decide) rfl hk8 rfl rfl (b_pc (pc' := 60) rfl ?_)
    refine b_cMv l105_60 rfl (b_rc (ci := 2) (by rfl) (by decide) (by decide +kernel)) (Nat.le_of_ble_eq_true rfl) (Nat.le_of_ble_eq_true rfl) rfl (r_X3_forget ) fun w9 μ10 hw9 => bD.ok fun hk11 => b_pc (pc' := 63) rfl ?_
    refine b_s (pc' := 64) (lv1 := [(0, .ref 1), (1, .ref (μ2 1 5).toNat)]) (st' := [.ref 1]) l105_63 (fun _ => rfl) ?_
    refine b_gr l105_64 (by rfl) (by decide) (by decide) rfl (b_pc (pc' := 67) rfl ?_)
    refine b_gi l105_67 (bO_ft hk11 (ci := 8) (by rfl) rfl) (by decide) (by decide) rfl (b_pc (pc' := 70) rfl ?_)
    exact b_reti l105_70 rfl (bO_f hk11 (ci := 7) (bO_ft hk11 (ci := 8) (by rfl) rfl) rfl) (hr _)
/-! ET.fault -/
theorem l106_0 : (ax_dt (ax_T 106)).lookup 0 = some (.iload_n 1, 1, 0, 0, 0) := by decide +kernel
theorem l106_1 : (ax_dt (ax_T 106)).lookup 1 = some (.ifCond .lt 8, 3, 0, 0, 0) := by decide +kernel
theorem l106_4 : (ax_dt (ax_T 106)).lookup 4 = some (.iload_n 1, 1, 0, 0, 0) := by decide +kernel
theorem l106_5 : (ax_dt (ax_T 106)).lookup 5 = some (.iconst 1, 1, 0, 0, 0) := by decide +kernel
theorem l106_6 : (ax_dt (ax_T 106)).lookup 6 = some (.if_icmp .le 13, 3, 0, 0, 0) := by decide +kernel
theorem l106_19 : (ax_dt (ax_T 106)).lookup 19 = some (.iload_n 1, 1, 0, 0, 0) := by decide +kernel
theorem l106_20 : (ax_dt (ax_T 106)).lookup 20 = some (.ifCond .ne 16, 3, 0, 0, 0) := by decide +kernel
theorem l106_23 : (ax_dt (ax_T 106)).lookup 23 = some (.aload_n 0, 1, 0, 0, 0) := by decide +kernel
theorem l106_24 : (ax_dt (ax_T 106)).lookup 24 = some (.getfield 38, 3, 8, 4, 0) := by decide +kernel
theorem l106_27 : (ax_dt (ax_T 106)).lookup 27 = some (.getfield 209, 3, 3, 1, 0) := by decide +kernel
theorem l106_30 : (ax_dt (ax_T 106)).lookup 30 = some (.getfield 227, 3, 1, 2, 0) := by decide +kernel
theorem l106_33 : (ax_dt (ax_T 106)).lookup 33 = some (.goto 13, 3, 0, 0, 0) := by decide +kernel
theorem l106_36 : (ax_dt (ax_T 106)).lookup 36 = some (.aload_n 0, 1, 0, 0, 0) := by decide +kernel
theorem l106_37 : (ax_dt (ax_T 106)).lookup 37 = some (.getfield 38, 3, 8, 4, 0) := by decide +kernel
theorem l106_40 : (ax_dt (ax_T 106)).lookup 40 = some (.getfield 209, 3, 3, 1, 0) := by decide +kernel
theorem l106_43 : (ax_dt (ax_T 106)).lookup 43 = some (.getfield 230, 3, 1, 3, 0) := by decide +kernel
theorem l106_46 : (ax_dt (ax_T 106)).lookup 46 = some (.ireturn, 1, 0, 0, 0) := by decide +kernel
theorem x106_9 : (ax_dx (ax_T 106)).lookup 9 = some ("java/lang/IndexOutOfBoundsException", "no such part of a fault", 222, 224, 226, false) := by decide +kernel
noncomputable def F_X10_fault (v1 : Int) (μ : bM) : Option ((Int ⊕ String) × bM) := if v1 < 0 then some (.inr "java/lang/IndexOutOfBoundsException", μ) else if v1 ≤ 1 then if ¬ v1 = 0 then some (.inl (μ 46 3), μ) else some (.inl (μ 46 2), μ) else some (.inr "java/lang/IndexOutOfBoundsException", μ)
theorem r_X10_fault {L : Nat} {xs : Nat → Int32} {d : Nat} {μ : bM}  (v1 : Int) (h1 : bR v1) : bD L xs (d + 0) 106 0 [(0, .ref 1), (1, bI v1)] [] μ ((F_X10_fault v1 μ).bind (bXc)) := by
  have hr : ∀ r, (bXc) r = (bXc) r := fun _ => rfl
  unfold F_X10_fault
  refine bD.ok fun hk => ?_
  refine b_s (pc' := 1) (lv1 := [(0, .ref 1), (1, bI v1)]) (st' := [bI v1]) l106_0 (fun _ => rfl) ?_
  refine b_zlt (pt := 9) l106_1 h1 (by decide) rfl (fun c1 => ?_) (fun c1 => b_pc (pc' := 4) rfl ?_)
  · exact b_thr x106_9 (by decide) (Nat.le_of_ble_eq_true rfl) (hr _)
  · refine b_s (pc' := 5) (lv1 := [(0, .ref 1), (1, bI v1)]) (st' := [bI v1]) l106_4 (fun _ => rfl) ?_
    refine b_s (pc' := 6) (lv1 := [(0, .ref 1), (1, bI v1)]) (st' := [bI 1, bI v1]) l106_5 (fun _ => rfl) ?_
    refine b_ile (pt := 19) l106_6 h1 (by decide) (by decide) rfl (fun c2 => ?_) (fun c2 => b_pc (pc' := 9) rfl ?_)
    · refine b_s (pc' := 20) (lv1 := [(0, .ref 1), (1, bI v1)]) (st' := [bI v1]) l106_19 (fun _ => rfl) ?_
      refine b_zne (pt := 36) l106_20 h1 (by decide) rfl (fun c3 => ?_) (fun c3 => b_pc (pc' := 23) rfl ?_)
      · refine b_s (pc' := 37) (lv1 := [(0, .ref 1), (1, bI v1)]) (st' := [.ref 1]) l106_36 (fun _ => rfl) ?_
        refine b_gp (q' := 30) (j := 29) l106_37 (by rfl) (by decide) (by decide) rfl hk rfl rfl (b_pc (pc' := 40) rfl ?_)
        refine b_gp (q' := 46) (j := 16) l106_40 (by rfl) (by decide) (by decide) rfl hk rfl rfl (b_pc (pc' := 43) rfl ?_)
        refine b_gi l106_43 (by rfl) (by decide) (by decide) rfl (b_pc (pc' := 46) rfl ?_)
        exact b_reti l106_46 rfl (bO_f hk (ci := 1) (by rfl) rfl) (hr _)
      · refine b_s (pc' := 24) (lv1 := [(0, .ref 1), (1, bI v1)]) (st' := [.ref 1]) l106_23 (fun _ => rfl) ?_
        refine b_gp (q' := 30) (j := 29) l106_24 (by rfl) (by decide) (by decide) rfl hk rfl rfl (b_pc (pc' := 27) rfl ?_)
        refine b_gp (q' := 46) (j := 16) l106_27 (by rfl) (by decide) (by decide) rfl hk rfl rfl (b_pc (pc' := 30) rfl ?_)
        refine b_gi l106_30 (by rfl) (by decide) (by decide) rfl (b_pc (pc' := 33) rfl ?_)
        refine b_s (pc' := 46) (lv1 := [(0, .ref 1), (1, bI v1)]) (st' := [bI (μ 46 2)]) l106_33 (fun _ => rfl) ?_
        exact b_reti l106_46 rfl (bO_f hk (ci := 1) (by rfl) rfl) (hr _)
    · exact b_thr x106_9 (by decide) (Nat.le_of_ble_eq_true rfl) (hr _)
/-! ET.count -/
theorem l107_0 : (ax_dt (ax_T 107)).lookup 0 = some (.iload_n 1, 1, 0, 0, 0) := by decide +kernel
theorem l107_1 : (ax_dt (ax_T 107)).lookup 1 = some (.tableswitch 93 0 3 #[31, 39, 47, 70], 31, 0, 0, 0) := by decide +kernel
theorem l107_32 : (ax_dt (ax_T 107)).lookup 32 = some (.aload_n 0, 1, 0, 0, 0) := by decide +kernel
theorem l107_33 : (ax_dt (ax_T 107)).lookup 33 = some (.getfield 45, 3, 8, 5, 0) := by decide +kernel
theorem l107_36 : (ax_dt (ax_T 107)).lookup 36 = some (.getfield 81, 3, 7, 1, 0) := by decide +kernel
theorem l107_39 : (ax_dt (ax_T 107)).lookup 39 = some (.ireturn, 1, 0, 0, 0) := by decide +kernel
theorem l107_40 : (ax_dt (ax_T 107)).lookup 40 = some (.aload_n 0, 1, 0, 0, 0) := by decide +kernel
theorem l107_41 : (ax_dt (ax_T 107)).lookup 41 = some (.getfield 45, 3, 8, 5, 0) := by decide +kernel
theorem l107_44 : (ax_dt (ax_T 107)).lookup 44 = some (.getfield 77, 3, 7, 0, 0) := by decide +kernel
theorem l107_47 : (ax_dt (ax_T 107)).lookup 47 = some (.ireturn, 1, 0, 0, 0) := by decide +kernel
theorem l107_48 : (ax_dt (ax_T 107)).lookup 48 = some (.aload_n 0, 1, 0, 0, 0) := by decide +kernel
theorem l107_49 : (ax_dt (ax_T 107)).lookup 49 = some (.getfield 31, 3, 8, 3, 0) := by decide +kernel
theorem l107_52 : (ax_dt (ax_T 107)).lookup 52 = some (.aload_n 0, 1, 0, 0, 0) := by decide +kernel
theorem l107_53 : (ax_dt (ax_T 107)).lookup 53 = some (.getfield 45, 3, 8, 5, 0) := by decide +kernel
theorem l107_56 : (ax_dt (ax_T 107)).lookup 56 = some (.aload_n 0, 1, 0, 0, 0) := by decide +kernel
theorem l107_57 : (ax_dt (ax_T 107)).lookup 57 = some (.getfield 18, 3, 8, 1, 0) := by decide +kernel
theorem l107_60 : (ax_dt (ax_T 107)).lookup 60 = some (.invokevirtual 150, 3, 24, 2, 0) := by decide +kernel
theorem l107_63 : (ax_dt (ax_T 107)).lookup 63 = some (.aload_n 0, 1, 0, 0, 0) := by decide +kernel
theorem l107_64 : (ax_dt (ax_T 107)).lookup 64 = some (.getfield 31, 3, 8, 3, 0) := by decide +kernel
theorem l107_67 : (ax_dt (ax_T 107)).lookup 67 = some (.getfield 233, 3, 2, 0, 0) := by decide +kernel
theorem l107_70 : (ax_dt (ax_T 107)).lookup 70 = some (.ireturn, 1, 0, 0, 0) := by decide +kernel
theorem l107_71 : (ax_dt (ax_T 107)).lookup 71 = some (.aload_n 0, 1, 0, 0, 0) := by decide +kernel
theorem l107_72 : (ax_dt (ax_T 107)).lookup 72 = some (.getfield 31, 3, 8, 3, 0) := by decide +kernel
theorem l107_75 : (ax_dt (ax_T 107)).lookup 75 = some (.aload_n 0, 1, 0, 0, 0) := by decide +kernel
theorem l107_76 : (ax_dt (ax_T 107)).lookup 76 = some (.getfield 45, 3, 8, 5, 0) := by decide +kernel
theorem l107_79 : (ax_dt (ax_T 107)).lookup 79 = some (.aload_n 0, 1, 0, 0, 0) := by decide +kernel
theorem l107_80 : (ax_dt (ax_T 107)).lookup 80 = some (.getfield 18, 3, 8, 1, 0) := by decide +kernel
theorem l107_83 : (ax_dt (ax_T 107)).lookup 83 = some (.invokevirtual 150, 3, 24, 2, 0) := by decide +kernel
theorem l107_86 : (ax_dt (ax_T 107)).lookup 86 = some (.aload_n 0, 1, 0, 0, 0) := by decide +kernel
theorem l107_87 : (ax_dt (ax_T 107)).lookup 87 = some (.getfield 31, 3, 8, 3, 0) := by decide +kernel
theorem l107_90 : (ax_dt (ax_T 107)).lookup 90 = some (.getfield 235, 3, 2, 1, 0) := by decide +kernel
theorem l107_93 : (ax_dt (ax_T 107)).lookup 93 = some (.ireturn, 1, 0, 0, 0) := by decide +kernel
theorem x107_94 : (ax_dx (ax_T 107)).lookup 94 = some ("java/lang/IndexOutOfBoundsException", "no such count", 222, 237, 226, false) := by decide +kernel
noncomputable def F_X10_count (v1 : Int) (μ : bM) : Option ((Int ⊕ String) × bM) := if v1 = 0 then some (.inl (μ (μ 1 5).toNat 1), μ) else if v1 = 1 then some (.inl (μ (μ 1 5).toNat 0), μ) else if v1 = 2 then bMm (F_X3_reckon (μ 1 5).toNat 4 μ) (fun w1 μ2 => some (.inl (μ2 13 0), μ2)) else if v1 = 3 then bMm (F_X3_reckon (μ 1 5).toNat 4 μ) (fun w4 μ5 => some (.inl (μ5 13 1), μ5)) else some (.inr "java/lang/IndexOutOfBoundsException", μ)
theorem r_X10_count {L : Nat} {xs : Nat → Int32} {d : Nat} {μ : bM}  (v1 : Int) (h1 : bR v1) : bD L xs (d + 6) 107 0 [(0, .ref 1), (1, bI v1)] [] μ ((F_X10_count v1 μ).bind (bXc)) := by
  have hr : ∀ r, (bXc) r = (bXc) r := fun _ => rfl
  unfold F_X10_count
  refine bD.ok fun hk => ?_
  refine b_s (pc' := 1) (lv1 := [(0, .ref 1), (1, bI v1)]) (st' := [bI v1]) l107_0 (fun _ => rfl) ?_
  refine b_tsw l107_1 h1 (by decide) (by decide) (by decide) ?_
  refine b_pc (pc' := bTg [(0, 32), (1, 40), (2, 48), (3, 71)] 94 v1) rfl ?_
  refine b_tg (fun c10 => ?_) (fun c10 => ?_)
  · refine b_s (pc' := 33) (lv1 := [(0, .ref 1), (1, bI v1)]) (st' := [.ref 1]) l107_32 (fun _ => rfl) ?_
    refine b_gr l107_33 (by rfl) (by decide) (by decide) rfl (b_pc (pc' := 36) rfl ?_)
    refine b_gi l107_36 (bO_ft hk (ci := 8) (by rfl) rfl) (by decide) (by decide) rfl (b_pc (pc' := 39) rfl ?_)
    exact b_reti l107_39 rfl (bO_f hk (ci := 7) (bO_ft hk (ci := 8) (by rfl) rfl) rfl) (hr _)
  · refine b_tg (fun c9 => ?_) (fun c9 => ?_)
    · refine b_s (pc' := 41) (lv1 := [(0, .ref 1), (1, bI v1)]) (st' := [.ref 1]) l107_40 (fun _ => rfl) ?_
      refine b_gr l107_41 (by rfl) (by decide) (by decide) rfl (b_pc (pc' := 44) rfl ?_)
      refine b_gi l107_44 (bO_ft hk (ci := 8) (by rfl) rfl) (by decide) (by decide) rfl (b_pc (pc' := 47) rfl ?_)
      exact b_reti l107_47 rfl (bO_f hk (ci := 7) (bO_ft hk (ci := 8) (by rfl) rfl) rfl) (hr _)
    · refine b_tg (fun c8 => ?_) (fun c8 => ?_)
      · refine b_s (pc' := 49) (lv1 := [(0, .ref 1), (1, bI v1)]) (st' := [.ref 1]) l107_48 (fun _ => rfl) ?_
        refine b_gp (q' := 13) (j := 12) l107_49 (by rfl) (by decide) (by decide) rfl hk rfl rfl (b_pc (pc' := 52) rfl ?_)
        refine b_s (pc' := 53) (lv1 := [(0, .ref 1), (1, bI v1)]) (st' := [.ref 1, .ref 13]) l107_52 (fun _ => rfl) ?_
        refine b_gr l107_53 (by rfl) (by decide) (by decide) rfl (b_pc (pc' := 56) rfl ?_)
        refine b_s (pc' := 57) (lv1 := [(0, .ref 1), (1, bI v1)]) (st' := [.ref 1, .ref (μ 1 5).toNat, .ref 13]) l107_56 (fun _ => rfl) ?_
        refine b_gp (q' := 4) (j := 3) l107_57 (by rfl) (by decide) (by decide) rfl hk rfl rfl (b_pc (pc' := 60) rfl ?_)
        refine b_cMv l107_60 rfl (b_rc (ci := 2) (by rfl) (by decide) (by decide +kernel)) (Nat.le_of_ble_eq_true rfl) (Nat.le_of_ble_eq_true rfl) rfl (r_X3_reckon (μ 1 5).toNat (bO_ft hk (ci := 8) (by rfl) rfl) 4 (by rfl)) fun w1 μ2 hw1 => bD.ok fun hk3 => b_pc (pc' := 63) rfl ?_
        refine b_s (pc' := 64) (lv1 := [(0, .ref 1), (1, bI v1)]) (st' := [.ref 1]) l107_63 (fun _ => rfl) ?_
        refine b_gp (q' := 13) (j := 12) l107_64 (by rfl) (by decide) (by decide) rfl hk3 rfl rfl (b_pc (pc' := 67) rfl ?_)
        refine b_gi l107_67 (by rfl) (by decide) (by decide) rfl (b_pc (pc' := 70) rfl ?_)
        exact b_reti l107_70 rfl (bO_f hk3 (ci := 2) (by rfl) rfl) (hr _)
      · refine b_tg (fun c7 => ?_) (fun c7 => ?_)
        · refine b_s (pc' := 72) (lv1 := [(0, .ref 1), (1, bI v1)]) (st' := [.ref 1]) l107_71 (fun _ => rfl) ?_
          refine b_gp (q' := 13) (j := 12) l107_72 (by rfl) (by decide) (by decide) rfl hk rfl rfl (b_pc (pc' := 75) rfl ?_)
          refine b_s (pc' := 76) (lv1 := [(0, .ref 1), (1, bI v1)]) (st' := [.ref 1, .ref 13]) l107_75 (fun _ => rfl) ?_
          refine b_gr l107_76 (by rfl) (by decide) (by decide) rfl (b_pc (pc' := 79) rfl ?_)
          refine b_s (pc' := 80) (lv1 := [(0, .ref 1), (1, bI v1)]) (st' := [.ref 1, .ref (μ 1 5).toNat, .ref 13]) l107_79 (fun _ => rfl) ?_
          refine b_gp (q' := 4) (j := 3) l107_80 (by rfl) (by decide) (by decide) rfl hk rfl rfl (b_pc (pc' := 83) rfl ?_)
          refine b_cMv l107_83 rfl (b_rc (ci := 2) (by rfl) (by decide) (by decide +kernel)) (Nat.le_of_ble_eq_true rfl) (Nat.le_of_ble_eq_true rfl) rfl (r_X3_reckon (μ 1 5).toNat (bO_ft hk (ci := 8) (by rfl) rfl) 4 (by rfl)) fun w4 μ5 hw4 => bD.ok fun hk6 => b_pc (pc' := 86) rfl ?_
          refine b_s (pc' := 87) (lv1 := [(0, .ref 1), (1, bI v1)]) (st' := [.ref 1]) l107_86 (fun _ => rfl) ?_
          refine b_gp (q' := 13) (j := 12) l107_87 (by rfl) (by decide) (by decide) rfl hk6 rfl rfl (b_pc (pc' := 90) rfl ?_)
          refine b_gi l107_90 (by rfl) (by decide) (by decide) rfl (b_pc (pc' := 93) rfl ?_)
          exact b_reti l107_93 rfl (bO_f hk6 (ci := 2) (by rfl) rfl) (hr _)
        · refine b_pc (pc' := 94) rfl ?_
          exact b_thr x107_94 (by decide) (Nat.le_of_ble_eq_true rfl) (hr _)
/-! ET.about -/
theorem l108_0 : (ax_dt (ax_T 108)).lookup 0 = some (.aload_n 0, 1, 0, 0, 0) := by decide +kernel
theorem l108_1 : (ax_dt (ax_T 108)).lookup 1 = some (.iload_n 1, 1, 0, 0, 0) := by decide +kernel
theorem l108_2 : (ax_dt (ax_T 108)).lookup 2 = some (.invokevirtual 96, 3, 116, 1, 0) := by decide +kernel
theorem l108_5 : (ax_dt (ax_T 108)).lookup 5 = some (.iload_n 2, 1, 0, 0, 0) := by decide +kernel
theorem l108_6 : (ax_dt (ax_T 108)).lookup 6 = some (.tableswitch 113 0 5 #[38, 48, 58, 68, 78, 88], 38, 0, 0, 0) := by decide +kernel
theorem l108_44 : (ax_dt (ax_T 108)).lookup 44 = some (.aload_n 0, 1, 0, 0, 0) := by decide +kernel
theorem l108_45 : (ax_dt (ax_T 108)).lookup 45 = some (.getfield 45, 3, 8, 5, 0) := by decide +kernel
theorem l108_48 : (ax_dt (ax_T 108)).lookup 48 = some (.getfield 239, 3, 7, 3, 0) := by decide +kernel
theorem l108_51 : (ax_dt (ax_T 108)).lookup 51 = some (.iload_n 1, 1, 0, 0, 0) := by decide +kernel
theorem l108_52 : (ax_dt (ax_T 108)).lookup 52 = some (.iaload, 1, 0, 0, 0) := by decide +kernel
theorem l108_53 : (ax_dt (ax_T 108)).lookup 53 = some (.ireturn, 1, 0, 0, 0) := by decide +kernel
theorem l108_54 : (ax_dt (ax_T 108)).lookup 54 = some (.aload_n 0, 1, 0, 0, 0) := by decide +kernel
theorem l108_55 : (ax_dt (ax_T 108)).lookup 55 = some (.getfield 45, 3, 8, 5, 0) := by decide +kernel
theorem l108_58 : (ax_dt (ax_T 108)).lookup 58 = some (.getfield 242, 3, 7, 4, 0) := by decide +kernel
theorem l108_61 : (ax_dt (ax_T 108)).lookup 61 = some (.iload_n 1, 1, 0, 0, 0) := by decide +kernel
theorem l108_62 : (ax_dt (ax_T 108)).lookup 62 = some (.iaload, 1, 0, 0, 0) := by decide +kernel
theorem l108_63 : (ax_dt (ax_T 108)).lookup 63 = some (.ireturn, 1, 0, 0, 0) := by decide +kernel
theorem l108_64 : (ax_dt (ax_T 108)).lookup 64 = some (.aload_n 0, 1, 0, 0, 0) := by decide +kernel
theorem l108_65 : (ax_dt (ax_T 108)).lookup 65 = some (.getfield 45, 3, 8, 5, 0) := by decide +kernel
theorem l108_68 : (ax_dt (ax_T 108)).lookup 68 = some (.getfield 139, 3, 7, 5, 0) := by decide +kernel
theorem l108_71 : (ax_dt (ax_T 108)).lookup 71 = some (.iload_n 1, 1, 0, 0, 0) := by decide +kernel
theorem l108_72 : (ax_dt (ax_T 108)).lookup 72 = some (.iaload, 1, 0, 0, 0) := by decide +kernel
theorem l108_73 : (ax_dt (ax_T 108)).lookup 73 = some (.ireturn, 1, 0, 0, 0) := by decide +kernel
theorem l108_74 : (ax_dt (ax_T 108)).lookup 74 = some (.aload_n 0, 1, 0, 0, 0) := by decide +kernel
theorem l108_75 : (ax_dt (ax_T 108)).lookup 75 = some (.getfield 45, 3, 8, 5, 0) := by decide +kernel
theorem l108_78 : (ax_dt (ax_T 108)).lookup 78 = some (.getfield 245, 3, 7, 7, 0) := by decide +kernel
theorem l108_81 : (ax_dt (ax_T 108)).lookup 81 = some (.iload_n 1, 1, 0, 0, 0) := by decide +kernel
theorem l108_82 : (ax_dt (ax_T 108)).lookup 82 = some (.iaload, 1, 0, 0, 0) := by decide +kernel
theorem l108_83 : (ax_dt (ax_T 108)).lookup 83 = some (.ireturn, 1, 0, 0, 0) := by decide +kernel
theorem l108_84 : (ax_dt (ax_T 108)).lookup 84 = some (.aload_n 0, 1, 0, 0, 0) := by decide +kernel
theorem l108_85 : (ax_dt (ax_T 108)).lookup 85 = some (.getfield 45, 3, 8, 5, 0) := by decide +kernel
theorem l108_88 : (ax_dt (ax_T 108)).lookup 88 = some (.getfield 248, 3, 7, 11, 0) := by decide +kernel
theorem l108_91 : (ax_dt (ax_T 108)).lookup 91 = some (.iload_n 1, 1, 0, 0, 0) := by decide +kernel
theorem l108_92 : (ax_dt (ax_T 108)).lookup 92 = some (.iaload, 1, 0, 0, 0) := by decide +kernel
theorem l108_93 : (ax_dt (ax_T 108)).lookup 93 = some (.ireturn, 1, 0, 0, 0) := by decide +kernel
theorem l108_94 : (ax_dt (ax_T 108)).lookup 94 = some (.aload_n 0, 1, 0, 0, 0) := by decide +kernel
theorem l108_95 : (ax_dt (ax_T 108)).lookup 95 = some (.getfield 31, 3, 8, 3, 0) := by decide +kernel
theorem l108_98 : (ax_dt (ax_T 108)).lookup 98 = some (.aload_n 0, 1, 0, 0, 0) := by decide +kernel
theorem l108_99 : (ax_dt (ax_T 108)).lookup 99 = some (.getfield 45, 3, 8, 5, 0) := by decide +kernel
theorem l108_102 : (ax_dt (ax_T 108)).lookup 102 = some (.aload_n 0, 1, 0, 0, 0) := by decide +kernel
theorem l108_103 : (ax_dt (ax_T 108)).lookup 103 = some (.getfield 18, 3, 8, 1, 0) := by decide +kernel
theorem l108_106 : (ax_dt (ax_T 108)).lookup 106 = some (.invokevirtual 150, 3, 24, 2, 0) := by decide +kernel
theorem l108_109 : (ax_dt (ax_T 108)).lookup 109 = some (.aload_n 0, 1, 0, 0, 0) := by decide +kernel
theorem l108_110 : (ax_dt (ax_T 108)).lookup 110 = some (.getfield 31, 3, 8, 3, 0) := by decide +kernel
theorem l108_113 : (ax_dt (ax_T 108)).lookup 113 = some (.getfield 251, 3, 2, 12, 0) := by decide +kernel
theorem l108_116 : (ax_dt (ax_T 108)).lookup 116 = some (.iload_n 1, 1, 0, 0, 0) := by decide +kernel
theorem l108_117 : (ax_dt (ax_T 108)).lookup 117 = some (.iaload, 1, 0, 0, 0) := by decide +kernel
theorem l108_118 : (ax_dt (ax_T 108)).lookup 118 = some (.ireturn, 1, 0, 0, 0) := by decide +kernel
theorem x108_119 : (ax_dx (ax_T 108)).lookup 119 = some ("java/lang/IndexOutOfBoundsException", "nothing such about an entry", 222, 254, 226, false) := by decide +kernel
noncomputable def F_X10_about (v1 : Int) (v2 : Int) (μ : bM) : Option ((Int ⊕ String) × bM) := bXm (F_X10_needEntry v1 μ) (fun w1 μ2 => if v2 = 0 then bG (0 ≤ v1 ∧ v1 < 400) (some (.inl (μ2 ((μ2 1 5).toNat + 2) v1.toNat), μ2)) else if v2 = 1 then bG (0 ≤ v1 ∧ v1 < 400) (some (.inl (μ2 ((μ2 1 5).toNat + 3) v1.toNat), μ2)) else if v2 = 2 then bG (0 ≤ v1 ∧ v1 < 400) (some (.inl (μ2 ((μ2 1 5).toNat + 4) v1.toNat), μ2)) else if v2 = 3 then bG (0 ≤ v1 ∧ v1 < 400) (some (.inl (μ2 ((μ2 1 5).toNat + 6) v1.toNat), μ2)) else if v2 = 4 then bG (0 ≤ v1 ∧ v1 < 400) (some (.inl (μ2 ((μ2 1 5).toNat + 10) v1.toNat), μ2)) else if v2 = 5 then bMm (F_X3_reckon (μ2 1 5).toNat 4 μ2) (fun w9 μ10 => bG (0 ≤ v1 ∧ v1 < 400) (some (.inl (μ10 19 v1.toNat), μ10))) else some (.inr "java/lang/IndexOutOfBoundsException", μ2)) (fun e μ => some (.inr e, μ))
theorem r_X10_about {L : Nat} {xs : Nat → Int32} {d : Nat} {μ : bM}  (v1 : Int) (h1 : bR v1) (v2 : Int) (h2 : bR v2) : bD L xs (d + 6) 108 0 [(0, .ref 1), (1, bI v1), (2, bI v2)] [] μ ((F_X10_about v1 v2 μ).bind (bXc)) := by
  have hr : ∀ r, (bXc) r = (bXc) r := fun _ => rfl
  unfold F_X10_about
  refine bD.ok fun hk => ?_
  refine b_s (pc' := 1) (lv1 := [(0, .ref 1), (1, bI v1), (2, bI v2)]) (st' := [.ref 1]) l108_0 (fun _ => rfl) ?_
  refine b_s (pc' := 2) (lv1 := [(0, .ref 1), (1, bI v1), (2, bI v2)]) (st' := [bI v1, .ref 1]) l108_1 (fun _ => rfl) ?_
  refine b_cXv l108_2 rfl (b_rc (ci := 8) (by rfl) (by decide) (by decide +kernel)) (Nat.le_of_ble_eq_true rfl) (Nat.le_of_ble_eq_true rfl) rfl (r_X10_needEntry v1 h1) ⟨fun _ z => (by cases z), (by decide +kernel)⟩ rfl (fun _ _ => hr _) fun w1 μ2 hw1 => bD.ok fun hk3 => b_pc (pc' := 5) rfl ?_
  refine b_s (pc' := 6) (lv1 := [(0, .ref 1), (1, bI v1), (2, bI v2)]) (st' := [bI v2]) l108_5 (fun _ => rfl) ?_
  refine b_tsw l108_6 h2 (by decide) (by decide) (by decide) ?_
  refine b_pc (pc' := bTg [(0, 44), (1, 54), (2, 64), (3, 74), (4, 84), (5, 94)] 119 v2) rfl ?_
  refine b_tg (fun c18 => ?_) (fun c18 => ?_)
  · refine b_s (pc' := 45) (lv1 := [(0, .ref 1), (1, bI v1), (2, bI v2)]) (st' := [.ref 1]) l108_44 (fun _ => rfl) ?_
    refine b_gr l108_45 (by rfl) (by decide) (by decide) rfl (b_pc (pc' := 48) rfl ?_)
    refine b_gp (q' := ((μ2 1 5).toNat + 2)) (j := 2) l108_48 (bO_ft hk3 (ci := 8) (by rfl) rfl) (by decide) (by decide) rfl hk3 rfl rfl (b_pc (pc' := 51) rfl ?_)
    refine b_s (pc' := 52) (lv1 := [(0, .ref 1), (1, bI v1), (2, bI v2)]) (st' := [bI v1, .ref ((μ2 1 5).toNat + 2)]) l108_51 (fun _ => rfl) ?_
    refine b_g fun g4 => ?_
    refine b_ial l108_52 (bTree_e (bO_ft hk3 (ci := 8) (by rfl) rfl) 2 (by decide)) g4 (b_pc (pc' := 53) rfl ?_)
    exact b_reti l108_53 rfl (bO_i hk3 (bTree_e (bO_ft hk3 (ci := 8) (by rfl) rfl) 2 (by decide))) (hr _)
  · refine b_tg (fun c17 => ?_) (fun c17 => ?_)
    · refine b_s (pc' := 55) (lv1 := [(0, .ref 1), (1, bI v1), (2, bI v2)]) (st' := [.ref 1]) l108_54 (fun _ => rfl) ?_
      refine b_gr l108_55 (by rfl) (by decide) (by decide) rfl (b_pc (pc' := 58) rfl ?_)
      refine b_gp (q' := ((μ2 1 5).toNat + 3)) (j := 3) l108_58 (bO_ft hk3 (ci := 8) (by rfl) rfl) (by decide) (by decide) rfl hk3 rfl rfl (b_pc (pc' := 61) rfl ?_)
      refine b_s (pc' := 62) (lv1 := [(0, .ref 1), (1, bI v1), (2, bI v2)]) (st' := [bI v1, .ref ((μ2 1 5).toNat + 3)]) l108_61 (fun _ => rfl) ?_
      refine b_g fun g5 => ?_
      refine b_ial l108_62 (bTree_e (bO_ft hk3 (ci := 8) (by rfl) rfl) 3 (by decide)) g5 (b_pc (pc' := 63) rfl ?_)
      exact b_reti l108_63 rfl (bO_i hk3 (bTree_e (bO_ft hk3 (ci := 8) (by rfl) rfl) 3 (by decide))) (hr _)
    · refine b_tg (fun c16 => ?_) (fun c16 => ?_)
      · refine b_s (pc' := 65) (lv1 := [(0, .ref 1), (1, bI v1), (2, bI v2)]) (st' := [.ref 1]) l108_64 (fun _ => rfl) ?_
        refine b_gr l108_65 (by rfl) (by decide) (by decide) rfl (b_pc (pc' := 68) rfl ?_)
        refine b_gp (q' := ((μ2 1 5).toNat + 4)) (j := 4) l108_68 (bO_ft hk3 (ci := 8) (by rfl) rfl) (by decide) (by decide) rfl hk3 rfl rfl (b_pc (pc' := 71) rfl ?_)
        refine b_s (pc' := 72) (lv1 := [(0, .ref 1), (1, bI v1), (2, bI v2)]) (st' := [bI v1, .ref ((μ2 1 5).toNat + 4)]) l108_71 (fun _ => rfl) ?_
        refine b_g fun g6 => ?_
        refine b_ial l108_72 (bTree_e (bO_ft hk3 (ci := 8) (by rfl) rfl) 4 (by decide)) g6 (b_pc (pc' := 73) rfl ?_)
        exact b_reti l108_73 rfl (bO_i hk3 (bTree_e (bO_ft hk3 (ci := 8) (by rfl) rfl) 4 (by decide))) (hr _)
      · refine b_tg (fun c15 => ?_) (fun c15 => ?_)
        · refine b_s (pc' := 75) (lv1 := [(0, .ref 1), (1, bI v1), (2, bI v2)]) (st' := [.ref 1]) l108_74 (fun _ => rfl) ?_
          refine b_gr l108_75 (by rfl) (by decide) (by decide) rfl (b_pc (pc' := 78) rfl ?_)
          refine b_gp (q' := ((μ2 1 5).toNat + 6)) (j := 6) l108_78 (bO_ft hk3 (ci := 8) (by rfl) rfl) (by decide) (by decide) rfl hk3 rfl rfl (b_pc (pc' := 81) rfl ?_)
          refine b_s (pc' := 82) (lv1 := [(0, .ref 1), (1, bI v1), (2, bI v2)]) (st' := [bI v1, .ref ((μ2 1 5).toNat + 6)]) l108_81 (fun _ => rfl) ?_
          refine b_g fun g7 => ?_
          refine b_ial l108_82 (bTree_e (bO_ft hk3 (ci := 8) (by rfl) rfl) 6 (by decide)) g7 (b_pc (pc' := 83) rfl ?_)
          exact b_reti l108_83 rfl (bO_i hk3 (bTree_e (bO_ft hk3 (ci := 8) (by rfl) rfl) 6 (by decide))) (hr _)
        · refine b_tg (fun c14 => ?_) (fun c14 => ?_)
          · refine b_s (pc' := 85) (lv1 := [(0, .ref 1), (1, bI v1), (2, bI v2)]) (st' := [.ref 1]) l108_84 (fun _ => rfl) ?_
            refine b_gr l108_85 (by rfl) (by decide) (by decide) rfl (b_pc (pc' := 88) rfl ?_)
            refine b_gp (q' := ((μ2 1 5).toNat + 10)) (j := 10) l108_88 (bO_ft hk3 (ci := 8) (by rfl) rfl) (by decide) (by decide) rfl hk3 rfl rfl (b_pc (pc' := 91) rfl ?_)
            refine b_s (pc' := 92) (lv1 := [(0, .ref 1), (1, bI v1), (2, bI v2)]) (st' := [bI v1, .ref ((μ2 1 5).toNat + 10)]) l108_91 (fun _ => rfl) ?_
            refine b_g fun g8 => ?_
            refine b_ial l108_92 (bTree_e (bO_ft hk3 (ci := 8) (by rfl) rfl) 10 (by decide)) g8 (b_pc (pc' := 93) rfl ?_)
            exact b_reti l108_93 rfl (bO_i hk3 (bTree_e (bO_ft hk3 (ci := 8) (by rfl) rfl) 10 (by decide))) (hr _)
          · refine b_tg (fun c13 => ?_) (fun c13 => ?_)
            · refine b_s (pc' := 95) (lv1 := [(0, .ref 1), (1, bI v1), (2, bI v2)]) (st' := [.ref 1]) l108_94 (fun _ => rfl) ?_
              refine b_gp (q' := 13) (j := 12) l108_95 (by rfl) (by decide) (by decide) rfl hk3 rfl rfl (b_pc (pc' := 98) rfl ?_)
              refine b_s (pc' := 99) (lv1 := [(0, .ref 1), (1, bI v1), (2, bI v2)]) (st' := [.ref 1, .ref 13]) l108_98 (fun _ => rfl) ?_
              refine b_gr l108_99 (by rfl) (by decide) (by decide) rfl (b_pc (pc' := 102) rfl ?_)
              refine b_s (pc' := 103) (lv1 := [(0, .ref 1), (1, bI v1), (2, bI v2)]) (st' := [.ref 1, .ref (μ2 1 5).toNat, .ref 13]) l108_102 (fun _ => rfl) ?_
              refine b_gp (q' := 4) (j := 3) l108_103 (by rfl) (by decide) (by decide) rfl hk3 rfl rfl (b_pc (pc' := 106) rfl ?_)
              refine b_cMv l108_106 rfl (b_rc (ci := 2) (by rfl) (by decide) (by decide +kernel)) (Nat.le_of_ble_eq_true rfl) (Nat.le_of_ble_eq_true rfl) rfl (r_X3_reckon (μ2 1 5).toNat (bO_ft hk3 (ci := 8) (by rfl) rfl) 4 (by rfl)) fun w9 μ10 hw9 => bD.ok fun hk11 => b_pc (pc' := 109) rfl ?_
              refine b_s (pc' := 110) (lv1 := [(0, .ref 1), (1, bI v1), (2, bI v2)]) (st' := [.ref 1]) l108_109 (fun _ => rfl) ?_
              refine b_gp (q' := 13) (j := 12) l108_110 (by rfl) (by decide) (by decide) rfl hk11 rfl rfl (b_pc (pc' := 113) rfl ?_)
              refine b_gp (q' := 19) (j := 6) l108_113 (by rfl) (by decide) (by decide) rfl hk11 rfl rfl (b_pc (pc' := 116) rfl ?_)
              refine b_s (pc' := 117) (lv1 := [(0, .ref 1), (1, bI v1), (2, bI v2)]) (st' := [bI v1, .ref 19]) l108_116 (fun _ => rfl) ?_
              refine b_g fun g12 => ?_
              refine b_ial l108_117 (by rfl) g12 (b_pc (pc' := 118) rfl ?_)
              exact b_reti l108_118 rfl (bO_i hk11 (by rfl)) (hr _)
            · refine b_pc (pc' := 119) rfl ?_
              exact b_thr x108_119 (by decide) (Nat.le_of_ble_eq_true rfl) (hr _)
/-! ET.child -/
theorem l109_0 : (ax_dt (ax_T 109)).lookup 0 = some (.aload_n 0, 1, 0, 0, 0) := by decide +kernel
theorem l109_1 : (ax_dt (ax_T 109)).lookup 1 = some (.iload_n 1, 1, 0, 0, 0) := by decide +kernel
theorem l109_2 : (ax_dt (ax_T 109)).lookup 2 = some (.invokevirtual 96, 3, 116, 1, 0) := by decide +kernel
theorem l109_5 : (ax_dt (ax_T 109)).lookup 5 = some (.iload_n 2, 1, 0, 0, 0) := by decide +kernel
theorem l109_6 : (ax_dt (ax_T 109)).lookup 6 = some (.ifCond .lt 16, 3, 0, 0, 0) := by decide +kernel
theorem l109_9 : (ax_dt (ax_T 109)).lookup 9 = some (.iload_n 2, 1, 0, 0, 0) := by decide +kernel
theorem l109_10 : (ax_dt (ax_T 109)).lookup 10 = some (.aload_n 0, 1, 0, 0, 0) := by decide +kernel
theorem l109_11 : (ax_dt (ax_T 109)).lookup 11 = some (.getfield 45, 3, 8, 5, 0) := by decide +kernel
theorem l109_14 : (ax_dt (ax_T 109)).lookup 14 = some (.getfield 245, 3, 7, 7, 0) := by decide +kernel
theorem l109_17 : (ax_dt (ax_T 109)).lookup 17 = some (.iload_n 1, 1, 0, 0, 0) := by decide +kernel
theorem l109_18 : (ax_dt (ax_T 109)).lookup 18 = some (.iaload, 1, 0, 0, 0) := by decide +kernel
theorem l109_19 : (ax_dt (ax_T 109)).lookup 19 = some (.if_icmp .lt 7, 3, 0, 0, 0) := by decide +kernel
theorem l109_22 : (ax_dt (ax_T 109)).lookup 22 = some (.iconst (-1), 1, 0, 0, 0) := by decide +kernel
theorem l109_23 : (ax_dt (ax_T 109)).lookup 23 = some (.goto 12, 3, 0, 0, 0) := by decide +kernel
theorem l109_26 : (ax_dt (ax_T 109)).lookup 26 = some (.aload_n 0, 1, 0, 0, 0) := by decide +kernel
theorem l109_27 : (ax_dt (ax_T 109)).lookup 27 = some (.getfield 45, 3, 8, 5, 0) := by decide +kernel
theorem l109_30 : (ax_dt (ax_T 109)).lookup 30 = some (.iload_n 1, 1, 0, 0, 0) := by decide +kernel
theorem l109_31 : (ax_dt (ax_T 109)).lookup 31 = some (.iload_n 2, 1, 0, 0, 0) := by decide +kernel
theorem l109_32 : (ax_dt (ax_T 109)).lookup 32 = some (.invokevirtual 256, 3, 85, 2, 0) := by decide +kernel
theorem l109_35 : (ax_dt (ax_T 109)).lookup 35 = some (.ireturn, 1, 0, 0, 0) := by decide +kernel
noncomputable def F_X10_child (v1 : Int) (v2 : Int) (μ : bM) : Option ((Int ⊕ String) × bM) := bXm (F_X10_needEntry v1 μ) (fun w1 μ2 => if v2 < 0 then some (.inl (-1), μ2) else bG (0 ≤ v1 ∧ v1 < 400) (if v2 < (μ2 ((μ2 1 5).toNat + 6) v1.toNat) then (F_X8_childAt (μ2 1 5).toNat v1 v2 μ2).bind fun w6 => some (.inl w6, μ2) else some (.inl (-1), μ2))) (fun e μ => some (.inr e, μ))
theorem r_X10_child {L : Nat} {xs : Nat → Int32} {d : Nat} {μ : bM}  (v1 : Int) (h1 : bR v1) (v2 : Int) (h2 : bR v2) : bD L xs (d + 1) 109 0 [(0, .ref 1), (1, bI v1), (2, bI v2)] [] μ ((F_X10_child v1 v2 μ).bind (bXc)) := by
  have hr : ∀ r, (bXc) r = (bXc) r := fun _ => rfl
  unfold F_X10_child
  refine bD.ok fun hk => ?_
  refine b_s (pc' := 1) (lv1 := [(0, .ref 1), (1, bI v1), (2, bI v2)]) (st' := [.ref 1]) l109_0 (fun _ => rfl) ?_
  refine b_s (pc' := 2) (lv1 := [(0, .ref 1), (1, bI v1), (2, bI v2)]) (st' := [bI v1, .ref 1]) l109_1 (fun _ => rfl) ?_
  refine b_cXv l109_2 rfl (b_rc (ci := 8) (by rfl) (by decide) (by decide +kernel)) (Nat.le_of_ble_eq_true rfl) (Nat.le_of_ble_eq_true rfl) rfl (r_X10_needEntry v1 h1) ⟨fun _ z => (by cases z), (by decide +kernel)⟩ rfl (fun _ _ => hr _) fun w1 μ2 hw1 => bD.ok fun hk3 => b_pc (pc' := 5) rfl ?_
  refine b_s (pc' := 6) (lv1 := [(0, .ref 1), (1, bI v1), (2, bI v2)]) (st' := [bI v2]) l109_5 (fun _ => rfl) ?_
  refine b_zlt (pt := 22) l109_6 h2 (by decide) rfl (fun c4 => ?_) (fun c4 => b_pc (pc' := 9) rfl ?_)
  · refine b_s (pc' := 23) (lv1 := [(0, .ref 1), (1, bI v1), (2, bI v2)]) (st' := [bI (-1)]) l109_22 (fun _ => rfl) ?_
    refine b_s (pc' := 35) (lv1 := [(0, .ref 1), (1, bI v1), (2, bI v2)]) (st' := [bI (-1)]) l109_23 (fun _ => rfl) ?_
    exact b_reti l109_35 rfl (by decide) (hr _)
  · refine b_s (pc' := 10) (lv1 := [(0, .ref 1), (1, bI v1), (2, bI v2)]) (st' := [bI v2]) l109_9 (fun _ => rfl) ?_
    refine b_s (pc' := 11) (lv1 := [(0, .ref 1), (1, bI v1), (2, bI v2)]) (st' := [.ref 1, bI v2]) l109_10 (fun _ => rfl) ?_
    refine b_gr l109_11 (by rfl) (by decide) (by decide) rfl (b_pc (pc' := 14) rfl ?_)
    refine b_gp (q' := ((μ2 1 5).toNat + 6)) (j := 6) l109_14 (bO_ft hk3 (ci := 8) (by rfl) rfl) (by decide) (by decide) rfl hk3 rfl rfl (b_pc (pc' := 17) rfl ?_)
    refine b_s (pc' := 18) (lv1 := [(0, .ref 1), (1, bI v1), (2, bI v2)]) (st' := [bI v1, .ref ((μ2 1 5).toNat + 6), bI v2]) l109_17 (fun _ => rfl) ?_
    refine b_g fun g7 => ?_
    refine b_ial l109_18 (bTree_e (bO_ft hk3 (ci := 8) (by rfl) rfl) 6 (by decide)) g7 (b_pc (pc' := 19) rfl ?_)
    refine b_ilt (pt := 26) l109_19 h2 (bO_i hk3 (bTree_e (bO_ft hk3 (ci := 8) (by rfl) rfl) 6 (by decide))) (by decide) rfl (fun c5 => ?_) (fun c5 => b_pc (pc' := 22) rfl ?_)
    · refine b_s (pc' := 27) (lv1 := [(0, .ref 1), (1, bI v1), (2, bI v2)]) (st' := [.ref 1]) l109_26 (fun _ => rfl) ?_
      refine b_gr l109_27 (by rfl) (by decide) (by decide) rfl (b_pc (pc' := 30) rfl ?_)
      refine b_s (pc' := 31) (lv1 := [(0, .ref 1), (1, bI v1), (2, bI v2)]) (st' := [bI v1, .ref (μ2 1 5).toNat]) l109_30 (fun _ => rfl) ?_
      refine b_s (pc' := 32) (lv1 := [(0, .ref 1), (1, bI v1), (2, bI v2)]) (st' := [bI v2, bI v1, .ref (μ2 1 5).toNat]) l109_31 (fun _ => rfl) ?_
      refine b_cPi l109_32 rfl (b_rc (ci := 7) (bO_ft hk3 (ci := 8) (by rfl) rfl) (by decide) (by decide +kernel)) (Nat.le_of_ble_eq_true rfl) (Nat.le_of_ble_eq_true rfl) rfl (r_X8_childAt (μ2 1 5).toNat (bO_ft hk3 (ci := 8) (by rfl) rfl) v1 h1 v2 h2) fun w6 hw6 => b_pc (pc' := 35) rfl ?_
      exact b_reti l109_35 rfl hw6 (hr _)
    · refine b_s (pc' := 23) (lv1 := [(0, .ref 1), (1, bI v1), (2, bI v2)]) (st' := [bI (-1)]) l109_22 (fun _ => rfl) ?_
      refine b_s (pc' := 35) (lv1 := [(0, .ref 1), (1, bI v1), (2, bI v2)]) (st' := [bI (-1)]) l109_23 (fun _ => rfl) ?_
      exact b_reti l109_35 rfl (by decide) (hr _)
/-! ET.root -/
theorem l110_0 : (ax_dt (ax_T 110)).lookup 0 = some (.iload_n 1, 1, 0, 0, 0) := by decide +kernel
theorem l110_1 : (ax_dt (ax_T 110)).lookup 1 = some (.ifCond .lt 14, 3, 0, 0, 0) := by decide +kernel
theorem l110_4 : (ax_dt (ax_T 110)).lookup 4 = some (.iload_n 1, 1, 0, 0, 0) := by decide +kernel
theorem l110_5 : (ax_dt (ax_T 110)).lookup 5 = some (.aload_n 0, 1, 0, 0, 0) := by decide +kernel
theorem l110_6 : (ax_dt (ax_T 110)).lookup 6 = some (.getfield 45, 3, 8, 5, 0) := by decide +kernel
theorem l110_9 : (ax_dt (ax_T 110)).lookup 9 = some (.getfield 77, 3, 7, 0, 0) := by decide +kernel
theorem l110_12 : (ax_dt (ax_T 110)).lookup 12 = some (.if_icmp .lt 14, 3, 0, 0, 0) := by decide +kernel
theorem l110_26 : (ax_dt (ax_T 110)).lookup 26 = some (.aload_n 0, 1, 0, 0, 0) := by decide +kernel
theorem l110_27 : (ax_dt (ax_T 110)).lookup 27 = some (.getfield 45, 3, 8, 5, 0) := by decide +kernel
theorem l110_30 : (ax_dt (ax_T 110)).lookup 30 = some (.getfield 261, 3, 7, 2, 0) := by decide +kernel
theorem l110_33 : (ax_dt (ax_T 110)).lookup 33 = some (.iload_n 1, 1, 0, 0, 0) := by decide +kernel
theorem l110_34 : (ax_dt (ax_T 110)).lookup 34 = some (.iaload, 1, 0, 0, 0) := by decide +kernel
theorem l110_35 : (ax_dt (ax_T 110)).lookup 35 = some (.ireturn, 1, 0, 0, 0) := by decide +kernel
theorem x110_15 : (ax_dx (ax_T 110)).lookup 15 = some ("java/lang/IndexOutOfBoundsException", "no such unit", 222, 259, 226, true) := by decide +kernel
noncomputable def F_X10_root (v1 : Int) (μ : bM) : Option ((Int ⊕ String) × bM) := if v1 < 0 then some (.inr "java/lang/IndexOutOfBoundsException", μ) else if v1 < (μ (μ 1 5).toNat 0) then bG (0 ≤ v1 ∧ v1 < 6) (some (.inl (μ ((μ 1 5).toNat + 1) v1.toNat), μ)) else some (.inr "java/lang/IndexOutOfBoundsException", μ)
theorem r_X10_root {L : Nat} {xs : Nat → Int32} {d : Nat} {μ : bM}  (v1 : Int) (h1 : bR v1) : bD L xs (d + 0) 110 0 [(0, .ref 1), (1, bI v1)] [] μ ((F_X10_root v1 μ).bind (bXc)) := by
  have hr : ∀ r, (bXc) r = (bXc) r := fun _ => rfl
  unfold F_X10_root
  refine bD.ok fun hk => ?_
  refine b_s (pc' := 1) (lv1 := [(0, .ref 1), (1, bI v1)]) (st' := [bI v1]) l110_0 (fun _ => rfl) ?_
  refine b_zlt (pt := 15) l110_1 h1 (by decide) rfl (fun c1 => ?_) (fun c1 => b_pc (pc' := 4) rfl ?_)
  · exact b_thr x110_15 (by decide) (Nat.le_of_ble_eq_true rfl) (hr _)
  · refine b_s (pc' := 5) (lv1 := [(0, .ref 1), (1, bI v1)]) (st' := [bI v1]) l110_4 (fun _ => rfl) ?_
    refine b_s (pc' := 6) (lv1 := [(0, .ref 1), (1, bI v1)]) (st' := [.ref 1, bI v1]) l110_5 (fun _ => rfl) ?_
    refine b_gr l110_6 (by rfl) (by decide) (by decide) rfl (b_pc (pc' := 9) rfl ?_)
    refine b_gi l110_9 (bO_ft hk (ci := 8) (by rfl) rfl) (by decide) (by decide) rfl (b_pc (pc' := 12) rfl ?_)
    refine b_ilt (pt := 26) l110_12 h1 (bO_f hk (ci := 7) (bO_ft hk (ci := 8) (by rfl) rfl) rfl) (by decide) rfl (fun c2 => ?_) (fun c2 => b_pc (pc' := 15) rfl ?_)
    · refine b_s (pc' := 27) (lv1 := [(0, .ref 1), (1, bI v1)]) (st' := [.ref 1]) l110_26 (fun _ => rfl) ?_
      refine b_gr l110_27 (by rfl) (by decide) (by decide) rfl (b_pc (pc' := 30) rfl ?_)
      refine b_gp (q' := ((μ 1 5).toNat + 1)) (j := 1) l110_30 (bO_ft hk (ci := 8) (by rfl) rfl) (by decide) (by decide) rfl hk rfl rfl (b_pc (pc' := 33) rfl ?_)
      refine b_s (pc' := 34) (lv1 := [(0, .ref 1), (1, bI v1)]) (st' := [bI v1, .ref ((μ 1 5).toNat + 1)]) l110_33 (fun _ => rfl) ?_
      refine b_g fun g3 => ?_
      refine b_ial l110_34 (bTree_r (bO_ft hk (ci := 8) (by rfl) rfl)) g3 (b_pc (pc' := 35) rfl ?_)
      exact b_reti l110_35 rfl (bO_i hk (bTree_r (bO_ft hk (ci := 8) (by rfl) rfl))) (hr _)
    · exact b_thr x110_15 (by decide) (Nat.le_of_ble_eq_true rfl) (hr _)
/-! ET.neededSlot -/
theorem l123_0 : (ax_dt (ax_T 123)).lookup 0 = some (.aload_n 0, 1, 0, 0, 0) := by decide +kernel
theorem l123_1 : (ax_dt (ax_T 123)).lookup 1 = some (.iload_n 1, 1, 0, 0, 0) := by decide +kernel
theorem l123_2 : (ax_dt (ax_T 123)).lookup 2 = some (.invokevirtual 96, 3, 116, 1, 0) := by decide +kernel
theorem l123_5 : (ax_dt (ax_T 123)).lookup 5 = some (.iload_n 2, 1, 0, 0, 0) := by decide +kernel
theorem l123_6 : (ax_dt (ax_T 123)).lookup 6 = some (.ifCond .lt 16, 3, 0, 0, 0) := by decide +kernel
theorem l123_9 : (ax_dt (ax_T 123)).lookup 9 = some (.iload_n 2, 1, 0, 0, 0) := by decide +kernel
theorem l123_10 : (ax_dt (ax_T 123)).lookup 10 = some (.aload_n 0, 1, 0, 0, 0) := by decide +kernel
theorem l123_11 : (ax_dt (ax_T 123)).lookup 11 = some (.getfield 45, 3, 8, 5, 0) := by decide +kernel
theorem l123_14 : (ax_dt (ax_T 123)).lookup 14 = some (.getfield 248, 3, 7, 11, 0) := by decide +kernel
theorem l123_17 : (ax_dt (ax_T 123)).lookup 17 = some (.iload_n 1, 1, 0, 0, 0) := by decide +kernel
theorem l123_18 : (ax_dt (ax_T 123)).lookup 18 = some (.iaload, 1, 0, 0, 0) := by decide +kernel
theorem l123_19 : (ax_dt (ax_T 123)).lookup 19 = some (.if_icmp .lt 14, 3, 0, 0, 0) := by decide +kernel
theorem l123_33 : (ax_dt (ax_T 123)).lookup 33 = some (.iload_n 1, 1, 0, 0, 0) := by decide +kernel
theorem l123_34 : (ax_dt (ax_T 123)).lookup 34 = some (.iload_n 2, 1, 0, 0, 0) := by decide +kernel
theorem l123_35 : (ax_dt (ax_T 123)).lookup 35 = some (.invokestatic 327, 3, 77, 2, 0) := by decide +kernel
theorem l123_38 : (ax_dt (ax_T 123)).lookup 38 = some (.ireturn, 1, 0, 0, 0) := by decide +kernel
theorem x123_22 : (ax_dx (ax_T 123)).lookup 22 = some ("java/lang/IndexOutOfBoundsException", "no such attribute", 222, 325, 226, true) := by decide +kernel
noncomputable def F_X10_neededSlot (v1 : Int) (v2 : Int) (μ : bM) : Option ((Int ⊕ String) × bM) := bXm (F_X10_needEntry v1 μ) (fun w1 μ2 => if v2 < 0 then some (.inr "java/lang/IndexOutOfBoundsException", μ2) else bG (0 ≤ v1 ∧ v1 < 400) (if v2 < (μ2 ((μ2 1 5).toNat + 10) v1.toNat) then (F_X8_slotAt v1 v2 μ2).bind fun w6 => some (.inl w6, μ2) else some (.inr "java/lang/IndexOutOfBoundsException", μ2))) (fun e μ => some (.inr e, μ))
theorem r_X10_neededSlot {L : Nat} {xs : Nat → Int32} {d : Nat} {μ : bM}  (v1 : Int) (h1 : bR v1) (v2 : Int) (h2 : bR v2) : bD L xs (d + 1) 123 0 [(0, .ref 1), (1, bI v1), (2, bI v2)] [] μ ((F_X10_neededSlot v1 v2 μ).bind (bXc)) := by
  have hr : ∀ r, (bXc) r = (bXc) r := fun _ => rfl
  unfold F_X10_neededSlot
  refine bD.ok fun hk => ?_
  refine b_s (pc' := 1) (lv1 := [(0, .ref 1), (1, bI v1), (2, bI v2)]) (st' := [.ref 1]) l123_0 (fun _ => rfl) ?_
  refine b_s (pc' := 2) (lv1 := [(0, .ref 1), (1, bI v1), (2, bI v2)]) (st' := [bI v1, .ref 1]) l123_1 (fun _ => rfl) ?_
  refine b_cXv l123_2 rfl (b_rc (ci := 8) (by rfl) (by decide) (by decide +kernel)) (Nat.le_of_ble_eq_true rfl) (Nat.le_of_ble_eq_true rfl) rfl (r_X10_needEntry v1 h1) ⟨fun _ z => (by cases z), (by decide +kernel)⟩ rfl (fun _ _ => hr _) fun w1 μ2 hw1 => bD.ok fun hk3 => b_pc (pc' := 5) rfl ?_
  refine b_s (pc' := 6) (lv1 := [(0, .ref 1), (1, bI v1), (2, bI v2)]) (st' := [bI v2]) l123_5 (fun _ => rfl) ?_
  refine b_zlt (pt := 22) l123_6 h2 (by decide) rfl (fun c4 => ?_) (fun c4 => b_pc (pc' := 9) rfl ?_)
  · exact b_thr x123_22 (by decide) (Nat.le_of_ble_eq_true rfl) (hr _)
  · refine b_s (pc' := 10) (lv1 := [(0, .ref 1), (1, bI v1), (2, bI v2)]) (st' := [bI v2]) l123_9 (fun _ => rfl) ?_
    refine b_s (pc' := 11) (lv1 := [(0, .ref 1), (1, bI v1), (2, bI v2)]) (st' := [.ref 1, bI v2]) l123_10 (fun _ => rfl) ?_
    refine b_gr l123_11 (by rfl) (by decide) (by decide) rfl (b_pc (pc' := 14) rfl ?_)
    refine b_gp (q' := ((μ2 1 5).toNat + 10)) (j := 10) l123_14 (bO_ft hk3 (ci := 8) (by rfl) rfl) (by decide) (by decide) rfl hk3 rfl rfl (b_pc (pc' := 17) rfl ?_)
    refine b_s (pc' := 18) (lv1 := [(0, .ref 1), (1, bI v1), (2, bI v2)]) (st' := [bI v1, .ref ((μ2 1 5).toNat + 10), bI v2]) l123_17 (fun _ => rfl) ?_
    refine b_g fun g7 => ?_
    refine b_ial l123_18 (bTree_e (bO_ft hk3 (ci := 8) (by rfl) rfl) 10 (by decide)) g7 (b_pc (pc' := 19) rfl ?_)
    refine b_ilt (pt := 33) l123_19 h2 (bO_i hk3 (bTree_e (bO_ft hk3 (ci := 8) (by rfl) rfl) 10 (by decide))) (by decide) rfl (fun c5 => ?_) (fun c5 => b_pc (pc' := 22) rfl ?_)
    · refine b_s (pc' := 34) (lv1 := [(0, .ref 1), (1, bI v1), (2, bI v2)]) (st' := [bI v1]) l123_33 (fun _ => rfl) ?_
      refine b_s (pc' := 35) (lv1 := [(0, .ref 1), (1, bI v1), (2, bI v2)]) (st' := [bI v2, bI v1]) l123_34 (fun _ => rfl) ?_
      refine b_cPi l123_35 rfl (fun _ => trivial) (Nat.le_of_ble_eq_true rfl) (Nat.le_of_ble_eq_true rfl) rfl (r_X8_slotAt v1 h1 v2 h2) fun w6 hw6 => b_pc (pc' := 38) rfl ?_
      exact b_reti l123_38 rfl hw6 (hr _)
    · exact b_thr x123_22 (by decide) (Nat.le_of_ble_eq_true rfl) (hr _)
/-! ET.attribute -/
theorem l111_0 : (ax_dt (ax_T 111)).lookup 0 = some (.aload_n 0, 1, 0, 0, 0) := by decide +kernel
theorem l111_1 : (ax_dt (ax_T 111)).lookup 1 = some (.iload_n 1, 1, 0, 0, 0) := by decide +kernel
theorem l111_2 : (ax_dt (ax_T 111)).lookup 2 = some (.iload_n 2, 1, 0, 0, 0) := by decide +kernel
theorem l111_3 : (ax_dt (ax_T 111)).lookup 3 = some (.invokevirtual 264, 3, 123, 2, 0) := by decide +kernel
theorem l111_6 : (ax_dt (ax_T 111)).lookup 6 = some (.istore 4, 2, 0, 0, 0) := by decide +kernel
theorem l111_8 : (ax_dt (ax_T 111)).lookup 8 = some (.iload_n 3, 1, 0, 0, 0) := by decide +kernel
theorem l111_9 : (ax_dt (ax_T 111)).lookup 9 = some (.tableswitch 60 0 2 #[27, 38, 49], 27, 0, 0, 0) := by decide +kernel
theorem l111_36 : (ax_dt (ax_T 111)).lookup 36 = some (.aload_n 0, 1, 0, 0, 0) := by decide +kernel
theorem l111_37 : (ax_dt (ax_T 111)).lookup 37 = some (.getfield 45, 3, 8, 5, 0) := by decide +kernel
theorem l111_40 : (ax_dt (ax_T 111)).lookup 40 = some (.getfield 267, 3, 7, 12, 0) := by decide +kernel
theorem l111_43 : (ax_dt (ax_T 111)).lookup 43 = some (.iload 4, 2, 0, 0, 0) := by decide +kernel
theorem l111_45 : (ax_dt (ax_T 111)).lookup 45 = some (.iaload, 1, 0, 0, 0) := by decide +kernel
theorem l111_46 : (ax_dt (ax_T 111)).lookup 46 = some (.ireturn, 1, 0, 0, 0) := by decide +kernel
theorem l111_47 : (ax_dt (ax_T 111)).lookup 47 = some (.aload_n 0, 1, 0, 0, 0) := by decide +kernel
theorem l111_48 : (ax_dt (ax_T 111)).lookup 48 = some (.getfield 45, 3, 8, 5, 0) := by decide +kernel
theorem l111_51 : (ax_dt (ax_T 111)).lookup 51 = some (.getfield 270, 3, 7, 13, 0) := by decide +kernel
theorem l111_54 : (ax_dt (ax_T 111)).lookup 54 = some (.iload 4, 2, 0, 0, 0) := by decide +kernel
theorem l111_56 : (ax_dt (ax_T 111)).lookup 56 = some (.iaload, 1, 0, 0, 0) := by decide +kernel
theorem l111_57 : (ax_dt (ax_T 111)).lookup 57 = some (.ireturn, 1, 0, 0, 0) := by decide +kernel
theorem l111_58 : (ax_dt (ax_T 111)).lookup 58 = some (.aload_n 0, 1, 0, 0, 0) := by decide +kernel
theorem l111_59 : (ax_dt (ax_T 111)).lookup 59 = some (.getfield 45, 3, 8, 5, 0) := by decide +kernel
theorem l111_62 : (ax_dt (ax_T 111)).lookup 62 = some (.getfield 273, 3, 7, 15, 0) := by decide +kernel
theorem l111_65 : (ax_dt (ax_T 111)).lookup 65 = some (.iload 4, 2, 0, 0, 0) := by decide +kernel
theorem l111_67 : (ax_dt (ax_T 111)).lookup 67 = some (.iaload, 1, 0, 0, 0) := by decide +kernel
theorem l111_68 : (ax_dt (ax_T 111)).lookup 68 = some (.ireturn, 1, 0, 0, 0) := by decide +kernel
theorem x111_69 : (ax_dx (ax_T 111)).lookup 69 = some ("java/lang/IndexOutOfBoundsException", "nothing such of an attribute", 222, 276, 226, true) := by decide +kernel
noncomputable def F_X10_attribute (v1 : Int) (v2 : Int) (v3 : Int) (μ : bM) : Option ((Int ⊕ String) × bM) := bXm (F_X10_neededSlot v1 v2 μ) (fun w1 μ2 => if v3 = 0 then bG (0 ≤ w1 ∧ w1 < 3200) (some (.inl (μ2 ((μ2 1 5).toNat + 11) w1.toNat), μ2)) else if v3 = 1 then bG (0 ≤ w1 ∧ w1 < 3200) (some (.inl (μ2 ((μ2 1 5).toNat + 12) w1.toNat), μ2)) else if v3 = 2 then bG (0 ≤ w1 ∧ w1 < 3200) (some (.inl (μ2 ((μ2 1 5).toNat + 14) w1.toNat), μ2)) else some (.inr "java/lang/IndexOutOfBoundsException", μ2)) (fun e μ => some (.inr e, μ))
theorem r_X10_attribute {L : Nat} {xs : Nat → Int32} {d : Nat} {μ : bM}  (v1 : Int) (h1 : bR v1) (v2 : Int) (h2 : bR v2) (v3 : Int) (h3 : bR v3) : bD L xs (d + 2) 111 0 [(0, .ref 1), (1, bI v1), (2, bI v2), (3, bI v3)] [] μ ((F_X10_attribute v1 v2 v3 μ).bind (bXc)) := by
  have hr : ∀ r, (bXc) r = (bXc) r := fun _ => rfl
  unfold F_X10_attribute
  refine bD.ok fun hk => ?_
  refine b_s (pc' := 1) (lv1 := [(0, .ref 1), (1, bI v1), (2, bI v2), (3, bI v3)]) (st' := [.ref 1]) l111_0 (fun _ => rfl) ?_
  refine b_s (pc' := 2) (lv1 := [(0, .ref 1), (1, bI v1), (2, bI v2), (3, bI v3)]) (st' := [bI v1, .ref 1]) l111_1 (fun _ => rfl) ?_
  refine b_s (pc' := 3) (lv1 := [(0, .ref 1), (1, bI v1), (2, bI v2), (3, bI v3)]) (st' := [bI v2, bI v1, .ref 1]) l111_2 (fun _ => rfl) ?_
  refine b_cXi l111_3 rfl (b_rc (ci := 8) (by rfl) (by decide) (by decide +kernel)) (Nat.le_of_ble_eq_true rfl) (Nat.le_of_ble_eq_true rfl) rfl (r_X10_neededSlot v1 h1 v2 h2) ⟨fun _ z => (by cases z), (by decide +kernel)⟩ rfl (fun _ _ => hr _) fun w1 μ2 hw1 => bD.ok fun hk3 => b_pc (pc' := 6) rfl ?_
  refine b_w (pc' := 8) (lv1 := ax_st1 [(0, .ref 1), (1, bI v1), (2, bI v2), (3, bI v3)] 4 (bI w1)) (lv' := [(0, .ref 1), (3, bI v3), (4, bI w1)]) (st' := []) l111_6 (fun _ => rfl) (bSb rfl (bSb rfl (bSb rfl bSn))) ?_
  refine b_s (pc' := 9) (lv1 := [(0, .ref 1), (3, bI v3), (4, bI w1)]) (st' := [bI v3]) l111_8 (fun _ => rfl) ?_
  refine b_tsw l111_9 h3 (by decide) (by decide) (by decide) ?_
  refine b_pc (pc' := bTg [(0, 36), (1, 47), (2, 58)] 69 v3) rfl ?_
  refine b_tg (fun c9 => ?_) (fun c9 => ?_)
  · refine b_s (pc' := 37) (lv1 := [(0, .ref 1), (3, bI v3), (4, bI w1)]) (st' := [.ref 1]) l111_36 (fun _ => rfl) ?_
    refine b_gr l111_37 (by rfl) (by decide) (by decide) rfl (b_pc (pc' := 40) rfl ?_)
    refine b_gp (q' := ((μ2 1 5).toNat + 11)) (j := 11) l111_40 (bO_ft hk3 (ci := 8) (by rfl) rfl) (by decide) (by decide) rfl hk3 rfl rfl (b_pc (pc' := 43) rfl ?_)
    refine b_s (pc' := 45) (lv1 := [(0, .ref 1), (3, bI v3), (4, bI w1)]) (st' := [bI w1, .ref ((μ2 1 5).toNat + 11)]) l111_43 (fun _ => rfl) ?_
    refine b_g fun g4 => ?_
    refine b_ial l111_45 (bTree_n (bO_ft hk3 (ci := 8) (by rfl) rfl)) g4 (b_pc (pc' := 46) rfl ?_)
    exact b_reti l111_46 rfl (bO_i hk3 (bTree_n (bO_ft hk3 (ci := 8) (by rfl) rfl))) (hr _)
  · refine b_tg (fun c8 => ?_) (fun c8 => ?_)
    · refine b_s (pc' := 48) (lv1 := [(0, .ref 1), (3, bI v3), (4, bI w1)]) (st' := [.ref 1]) l111_47 (fun _ => rfl) ?_
      refine b_gr l111_48 (by rfl) (by decide) (by decide) rfl (b_pc (pc' := 51) rfl ?_)
      refine b_gp (q' := ((μ2 1 5).toNat + 12)) (j := 12) l111_51 (bO_ft hk3 (ci := 8) (by rfl) rfl) (by decide) (by decide) rfl hk3 rfl rfl (b_pc (pc' := 54) rfl ?_)
      refine b_s (pc' := 56) (lv1 := [(0, .ref 1), (3, bI v3), (4, bI w1)]) (st' := [bI w1, .ref ((μ2 1 5).toNat + 12)]) l111_54 (fun _ => rfl) ?_
      refine b_g fun g5 => ?_
      refine b_ial l111_56 (bTree_f (bO_ft hk3 (ci := 8) (by rfl) rfl)) g5 (b_pc (pc' := 57) rfl ?_)
      exact b_reti l111_57 rfl (bO_i hk3 (bTree_f (bO_ft hk3 (ci := 8) (by rfl) rfl))) (hr _)
    · refine b_tg (fun c7 => ?_) (fun c7 => ?_)
      · refine b_s (pc' := 59) (lv1 := [(0, .ref 1), (3, bI v3), (4, bI w1)]) (st' := [.ref 1]) l111_58 (fun _ => rfl) ?_
        refine b_gr l111_59 (by rfl) (by decide) (by decide) rfl (b_pc (pc' := 62) rfl ?_)
        refine b_gp (q' := ((μ2 1 5).toNat + 14)) (j := 14) l111_62 (bO_ft hk3 (ci := 8) (by rfl) rfl) (by decide) (by decide) rfl hk3 rfl rfl (b_pc (pc' := 65) rfl ?_)
        refine b_s (pc' := 67) (lv1 := [(0, .ref 1), (3, bI v3), (4, bI w1)]) (st' := [bI w1, .ref ((μ2 1 5).toNat + 14)]) l111_65 (fun _ => rfl) ?_
        refine b_g fun g6 => ?_
        refine b_ial l111_67 (bTree_l (bO_ft hk3 (ci := 8) (by rfl) rfl)) g6 (b_pc (pc' := 68) rfl ?_)
        exact b_reti l111_68 rfl (bO_i hk3 (bTree_l (bO_ft hk3 (ci := 8) (by rfl) rfl))) (hr _)
      · refine b_pc (pc' := 69) rfl ?_
        exact b_thr x111_69 (by decide) (Nat.le_of_ble_eq_true rfl) (hr _)
/-! ET.value -/
theorem l112_0 : (ax_dt (ax_T 112)).lookup 0 = some (.aload_n 0, 1, 0, 0, 0) := by decide +kernel
theorem l112_1 : (ax_dt (ax_T 112)).lookup 1 = some (.iload_n 1, 1, 0, 0, 0) := by decide +kernel
theorem l112_2 : (ax_dt (ax_T 112)).lookup 2 = some (.iload_n 2, 1, 0, 0, 0) := by decide +kernel
theorem l112_3 : (ax_dt (ax_T 112)).lookup 3 = some (.invokevirtual 264, 3, 123, 2, 0) := by decide +kernel
theorem l112_6 : (ax_dt (ax_T 112)).lookup 6 = some (.istore_n 3, 1, 0, 0, 0) := by decide +kernel
theorem l112_7 : (ax_dt (ax_T 112)).lookup 7 = some (.aload_n 0, 1, 0, 0, 0) := by decide +kernel
theorem l112_8 : (ax_dt (ax_T 112)).lookup 8 = some (.getfield 45, 3, 8, 5, 0) := by decide +kernel
theorem l112_11 : (ax_dt (ax_T 112)).lookup 11 = some (.getfield 270, 3, 7, 13, 0) := by decide +kernel
theorem l112_14 : (ax_dt (ax_T 112)).lookup 14 = some (.iload_n 3, 1, 0, 0, 0) := by decide +kernel
theorem l112_15 : (ax_dt (ax_T 112)).lookup 15 = some (.iaload, 1, 0, 0, 0) := by decide +kernel
theorem l112_16 : (ax_dt (ax_T 112)).lookup 16 = some (.invokestatic 278, 3, 16, 1, 0) := by decide +kernel
theorem l112_19 : (ax_dt (ax_T 112)).lookup 19 = some (.ifCond .eq 7, 3, 0, 0, 0) := by decide +kernel
theorem l112_22 : (ax_dt (ax_T 112)).lookup 22 = some (.lconst 0, 1, 0, 0, 0) := by decide +kernel
theorem l112_23 : (ax_dt (ax_T 112)).lookup 23 = some (.goto 12, 3, 0, 0, 0) := by decide +kernel
theorem l112_26 : (ax_dt (ax_T 112)).lookup 26 = some (.aload_n 0, 1, 0, 0, 0) := by decide +kernel
theorem l112_27 : (ax_dt (ax_T 112)).lookup 27 = some (.getfield 45, 3, 8, 5, 0) := by decide +kernel
theorem l112_30 : (ax_dt (ax_T 112)).lookup 30 = some (.getfield 281, 3, 7, 14, 0) := by decide +kernel
theorem l112_33 : (ax_dt (ax_T 112)).lookup 33 = some (.iload_n 3, 1, 0, 0, 0) := by decide +kernel
theorem l112_34 : (ax_dt (ax_T 112)).lookup 34 = some (.laload, 1, 0, 0, 0) := by decide +kernel
theorem l112_35 : (ax_dt (ax_T 112)).lookup 35 = some (.lreturn, 1, 0, 0, 0) := by decide +kernel
noncomputable def F_X10_value (v1 : Int) (v2 : Int) (μ : bM) : Option ((Int ⊕ String) × bM) := bXm (F_X10_neededSlot v1 v2 μ) (fun w1 μ2 => bG (0 ≤ w1 ∧ w1 < 3200) ((F_X2_isLetters (μ2 ((μ2 1 5).toNat + 12) w1.toNat) μ2).bind fun w4 => if w4 = 0 then bG (0 ≤ w1 ∧ w1 < 3200) (some (.inl (μ2 ((μ2 1 5).toNat + 13) w1.toNat), μ2)) else some (.inl 0, μ2))) (fun e μ => some (.inr e, μ))
theorem r_X10_value {L : Nat} {xs : Nat → Int32} {d : Nat} {μ : bM}  (v1 : Int) (h1 : bR v1) (v2 : Int) (h2 : bR v2) : bD L xs (d + 2) 112 0 [(0, .ref 1), (1, bI v1), (2, bI v2)] [] μ ((F_X10_value v1 v2 μ).bind (bXc)) := by
  have hr : ∀ r, (bXc) r = (bXc) r := fun _ => rfl
  unfold F_X10_value
  refine bD.ok fun hk => ?_
  refine b_s (pc' := 1) (lv1 := [(0, .ref 1), (1, bI v1), (2, bI v2)]) (st' := [.ref 1]) l112_0 (fun _ => rfl) ?_
  refine b_s (pc' := 2) (lv1 := [(0, .ref 1), (1, bI v1), (2, bI v2)]) (st' := [bI v1, .ref 1]) l112_1 (fun _ => rfl) ?_
  refine b_s (pc' := 3) (lv1 := [(0, .ref 1), (1, bI v1), (2, bI v2)]) (st' := [bI v2, bI v1, .ref 1]) l112_2 (fun _ => rfl) ?_
  refine b_cXi l112_3 rfl (b_rc (ci := 8) (by rfl) (by decide) (by decide +kernel)) (Nat.le_of_ble_eq_true rfl) (Nat.le_of_ble_eq_true rfl) rfl (r_X10_neededSlot v1 h1 v2 h2) ⟨fun _ z => (by cases z), (by decide +kernel)⟩ rfl (fun _ _ => hr _) fun w1 μ2 hw1 => bD.ok fun hk3 => b_pc (pc' := 6) rfl ?_
  refine b_w (pc' := 7) (lv1 := ax_st1 [(0, .ref 1), (1, bI v1), (2, bI v2)] 3 (bI w1)) (lv' := [(0, .ref 1), (3, bI w1)]) (st' := []) l112_6 (fun _ => rfl) (bSb rfl (bSb rfl bSn)) ?_
  refine b_s (pc' := 8) (lv1 := [(0, .ref 1), (3, bI w1)]) (st' := [.ref 1]) l112_7 (fun _ => rfl) ?_
  refine b_gr l112_8 (by rfl) (by decide) (by decide) rfl (b_pc (pc' := 11) rfl ?_)
  refine b_gp (q' := ((μ2 1 5).toNat + 12)) (j := 12) l112_11 (bO_ft hk3 (ci := 8) (by rfl) rfl) (by decide) (by decide) rfl hk3 rfl rfl (b_pc (pc' := 14) rfl ?_)
  refine b_s (pc' := 15) (lv1 := [(0, .ref 1), (3, bI w1)]) (st' := [bI w1, .ref ((μ2 1 5).toNat + 12)]) l112_14 (fun _ => rfl) ?_
  refine b_g fun g7 => ?_
  refine b_ial l112_15 (bTree_f (bO_ft hk3 (ci := 8) (by rfl) rfl)) g7 (b_pc (pc' := 16) rfl ?_)
  refine b_cPz l112_16 rfl (fun _ => trivial) (Nat.le_of_ble_eq_true rfl) (Nat.le_of_ble_eq_true rfl) rfl (r_X2_isLetters (μ2 ((μ2 1 5).toNat + 12) w1.toNat) (bO_i hk3 (bTree_f (bO_ft hk3 (ci := 8) (by rfl) rfl)))) fun w4 hw4 => b_pc (pc' := 19) rfl ?_
  refine b_zeq (pt := 26) l112_19 (bZ_R hw4) (by decide) rfl (fun c5 => ?_) (fun c5 => b_pc (pc' := 22) rfl ?_)
  · refine b_s (pc' := 27) (lv1 := [(0, .ref 1), (3, bI w1)]) (st' := [.ref 1]) l112_26 (fun _ => rfl) ?_
    refine b_gr l112_27 (by rfl) (by decide) (by decide) rfl (b_pc (pc' := 30) rfl ?_)
    refine b_gp (q' := ((μ2 1 5).toNat + 13)) (j := 13) l112_30 (bO_ft hk3 (ci := 8) (by rfl) rfl) (by decide) (by decide) rfl hk3 rfl rfl (b_pc (pc' := 33) rfl ?_)
    refine b_s (pc' := 34) (lv1 := [(0, .ref 1), (3, bI w1)]) (st' := [bI w1, .ref ((μ2 1 5).toNat + 13)]) l112_33 (fun _ => rfl) ?_
    refine b_g fun g6 => ?_
    refine b_lal l112_34 (bTree_v (bO_ft hk3 (ci := 8) (by rfl) rfl)) g6 (b_pc (pc' := 35) rfl ?_)
    exact b_retl l112_35 rfl (bO_l hk3 (bTree_v (bO_ft hk3 (ci := 8) (by rfl) rfl))) (hr _)
  · refine b_lconst (e := 0) l112_22 (by decide) (b_pc (pc' := 23) rfl ?_)
    refine b_s (pc' := 35) (lv1 := [(0, .ref 1), (3, bI w1)]) (st' := [bLg 0]) l112_23 (fun _ => rfl) ?_
    exact b_retl l112_35 rfl (by decide) (hr _)
/-! ET.letter -/
theorem l113_0 : (ax_dt (ax_T 113)).lookup 0 = some (.aload_n 0, 1, 0, 0, 0) := by decide +kernel
theorem l113_1 : (ax_dt (ax_T 113)).lookup 1 = some (.iload_n 1, 1, 0, 0, 0) := by decide +kernel
theorem l113_2 : (ax_dt (ax_T 113)).lookup 2 = some (.iload_n 2, 1, 0, 0, 0) := by decide +kernel
theorem l113_3 : (ax_dt (ax_T 113)).lookup 3 = some (.invokevirtual 264, 3, 123, 2, 0) := by decide +kernel
theorem l113_6 : (ax_dt (ax_T 113)).lookup 6 = some (.istore 4, 2, 0, 0, 0) := by decide +kernel
theorem l113_8 : (ax_dt (ax_T 113)).lookup 8 = some (.iload_n 3, 1, 0, 0, 0) := by decide +kernel
theorem l113_9 : (ax_dt (ax_T 113)).lookup 9 = some (.ifCond .lt 17, 3, 0, 0, 0) := by decide +kernel
theorem l113_12 : (ax_dt (ax_T 113)).lookup 12 = some (.iload_n 3, 1, 0, 0, 0) := by decide +kernel
theorem l113_13 : (ax_dt (ax_T 113)).lookup 13 = some (.aload_n 0, 1, 0, 0, 0) := by decide +kernel
theorem l113_14 : (ax_dt (ax_T 113)).lookup 14 = some (.getfield 45, 3, 8, 5, 0) := by decide +kernel
theorem l113_17 : (ax_dt (ax_T 113)).lookup 17 = some (.getfield 273, 3, 7, 15, 0) := by decide +kernel
theorem l113_20 : (ax_dt (ax_T 113)).lookup 20 = some (.iload 4, 2, 0, 0, 0) := by decide +kernel
theorem l113_22 : (ax_dt (ax_T 113)).lookup 22 = some (.iaload, 1, 0, 0, 0) := by decide +kernel
theorem l113_23 : (ax_dt (ax_T 113)).lookup 23 = some (.if_icmp .lt 14, 3, 0, 0, 0) := by decide +kernel
theorem l113_37 : (ax_dt (ax_T 113)).lookup 37 = some (.aload_n 0, 1, 0, 0, 0) := by decide +kernel
theorem l113_38 : (ax_dt (ax_T 113)).lookup 38 = some (.getfield 18, 3, 8, 1, 0) := by decide +kernel
theorem l113_41 : (ax_dt (ax_T 113)).lookup 41 = some (.aload_n 0, 1, 0, 0, 0) := by decide +kernel
theorem l113_42 : (ax_dt (ax_T 113)).lookup 42 = some (.getfield 45, 3, 8, 5, 0) := by decide +kernel
theorem l113_45 : (ax_dt (ax_T 113)).lookup 45 = some (.iload 4, 2, 0, 0, 0) := by decide +kernel
theorem l113_47 : (ax_dt (ax_T 113)).lookup 47 = some (.invokevirtual 287, 3, 84, 1, 0) := by decide +kernel
theorem l113_50 : (ax_dt (ax_T 113)).lookup 50 = some (.iload_n 3, 1, 0, 0, 0) := by decide +kernel
theorem l113_51 : (ax_dt (ax_T 113)).lookup 51 = some (.iadd, 1, 0, 0, 0) := by decide +kernel
theorem l113_52 : (ax_dt (ax_T 113)).lookup 52 = some (.invokevirtual 194, 3, 55, 1, 0) := by decide +kernel
theorem l113_55 : (ax_dt (ax_T 113)).lookup 55 = some (.ireturn, 1, 0, 0, 0) := by decide +kernel
theorem x113_26 : (ax_dx (ax_T 113)).lookup 26 = some ("java/lang/IndexOutOfBoundsException", "no such byte of a text or block", 222, 285, 226, true) := by decide +kernel
noncomputable def F_X10_letter (v1 : Int) (v2 : Int) (v3 : Int) (μ : bM) : Option ((Int ⊕ String) × bM) := bXm (F_X10_neededSlot v1 v2 μ) (fun w1 μ2 => if v3 < 0 then some (.inr "java/lang/IndexOutOfBoundsException", μ2) else bG (0 ≤ w1 ∧ w1 < 3200) (if v3 < (μ2 ((μ2 1 5).toNat + 14) w1.toNat) then (F_X8_start (μ2 1 5).toNat w1 μ2).bind fun w6 => bG (bR (w6 + v3)) ((F_X6_at 4 (w6 + v3) μ2).bind fun w8 => some (.inl w8, μ2)) else some (.inr "java/lang/IndexOutOfBoundsException", μ2))) (fun e μ => some (.inr e, μ))
theorem r_X10_letter {L : Nat} {xs : Nat → Int32} {d : Nat} {μ : bM}  (v1 : Int) (h1 : bR v1) (v2 : Int) (h2 : bR v2) (v3 : Int) (h3 : bR v3) : bD L xs (d + 2) 113 0 [(0, .ref 1), (1, bI v1), (2, bI v2), (3, bI v3)] [] μ ((F_X10_letter v1 v2 v3 μ).bind (bXc)) := by
  have hr : ∀ r, (bXc) r = (bXc) r := fun _ => rfl
  unfold F_X10_letter
  refine bD.ok fun hk => ?_
  refine b_s (pc' := 1) (lv1 := [(0, .ref 1), (1, bI v1), (2, bI v2), (3, bI v3)]) (st' := [.ref 1]) l113_0 (fun _ => rfl) ?_
  refine b_s (pc' := 2) (lv1 := [(0, .ref 1), (1, bI v1), (2, bI v2), (3, bI v3)]) (st' := [bI v1, .ref 1]) l113_1 (fun _ => rfl) ?_
  refine b_s (pc' := 3) (lv1 := [(0, .ref 1), (1, bI v1), (2, bI v2), (3, bI v3)]) (st' := [bI v2, bI v1, .ref 1]) l113_2 (fun _ => rfl) ?_
  refine b_cXi l113_3 rfl (b_rc (ci := 8) (by rfl) (by decide) (by decide +kernel)) (Nat.le_of_ble_eq_true rfl) (Nat.le_of_ble_eq_true rfl) rfl (r_X10_neededSlot v1 h1 v2 h2) ⟨fun _ z => (by cases z), (by decide +kernel)⟩ rfl (fun _ _ => hr _) fun w1 μ2 hw1 => bD.ok fun hk3 => b_pc (pc' := 6) rfl ?_
  refine b_w (pc' := 8) (lv1 := ax_st1 [(0, .ref 1), (1, bI v1), (2, bI v2), (3, bI v3)] 4 (bI w1)) (lv' := [(0, .ref 1), (3, bI v3), (4, bI w1)]) (st' := []) l113_6 (fun _ => rfl) (bSb rfl (bSb rfl (bSb rfl bSn))) ?_
  refine b_s (pc' := 9) (lv1 := [(0, .ref 1), (3, bI v3), (4, bI w1)]) (st' := [bI v3]) l113_8 (fun _ => rfl) ?_
  refine b_zlt (pt := 26) l113_9 h3 (by decide) rfl (fun c4 => ?_) (fun c4 => b_pc (pc' := 12) rfl ?_)
  · exact b_thr x113_26 (by decide) (Nat.le_of_ble_eq_true rfl) (hr _)
  · refine b_s (pc' := 13) (lv1 := [(0, .ref 1), (3, bI v3), (4, bI w1)]) (st' := [bI v3]) l113_12 (fun _ => rfl) ?_
    refine b_s (pc' := 14) (lv1 := [(0, .ref 1), (3, bI v3), (4, bI w1)]) (st' := [.ref 1, bI v3]) l113_13 (fun _ => rfl) ?_
    refine b_gr l113_14 (by rfl) (by decide) (by decide) rfl (b_pc (pc' := 17) rfl ?_)
    refine b_gp (q' := ((μ2 1 5).toNat + 14)) (j := 14) l113_17 (bO_ft hk3 (ci := 8) (by rfl) rfl) (by decide) (by decide) rfl hk3 rfl rfl (b_pc (pc' := 20) rfl ?_)
    refine b_s (pc' := 22) (lv1 := [(0, .ref 1), (3, bI v3), (4, bI w1)]) (st' := [bI w1, .ref ((μ2 1 5).toNat + 14), bI v3]) l113_20 (fun _ => rfl) ?_
    refine b_g fun g9 => ?_
    refine b_ial l113_22 (bTree_l (bO_ft hk3 (ci := 8) (by rfl) rfl)) g9 (b_pc (pc' := 23) rfl ?_)
    refine b_ilt (pt := 37) l113_23 h3 (bO_i hk3 (bTree_l (bO_ft hk3 (ci := 8) (by rfl) rfl))) (by decide) rfl (fun c5 => ?_) (fun c5 => b_pc (pc' := 26) rfl ?_)
    · refine b_s (pc' := 38) (lv1 := [(0, .ref 1), (3, bI v3), (4, bI w1)]) (st' := [.ref 1]) l113_37 (fun _ => rfl) ?_
      refine b_gp (q' := 4) (j := 3) l113_38 (by rfl) (by decide) (by decide) rfl hk3 rfl rfl (b_pc (pc' := 41) rfl ?_)
      refine b_s (pc' := 42) (lv1 := [(0, .ref 1), (3, bI v3), (4, bI w1)]) (st' := [.ref 1, .ref 4]) l113_41 (fun _ => rfl) ?_
      refine b_gr l113_42 (by rfl) (by decide) (by decide) rfl (b_pc (pc' := 45) rfl ?_)
      refine b_s (pc' := 47) (lv1 := [(0, .ref 1), (3, bI v3), (4, bI w1)]) (st' := [bI w1, .ref (μ2 1 5).toNat, .ref 4]) l113_45 (fun _ => rfl) ?_
      refine b_cPi l113_47 rfl (b_rc (ci := 7) (bO_ft hk3 (ci := 8) (by rfl) rfl) (by decide) (by decide +kernel)) (Nat.le_of_ble_eq_true rfl) (Nat.le_of_ble_eq_true rfl) rfl (r_X8_start (μ2 1 5).toNat (bO_ft hk3 (ci := 8) (by rfl) rfl) w1 hw1) fun w6 hw6 => b_pc (pc' := 50) rfl ?_
      refine b_s (pc' := 51) (lv1 := [(0, .ref 1), (3, bI v3), (4, bI w1)]) (st' := [bI v3, bI w6, .ref 4]) l113_50 (fun _ => rfl) ?_
      refine b_iadd l113_51 fun g7 => (b_pc (pc' := 52) rfl ?_)
      refine b_cPi l113_52 rfl (b_rc (ci := 5) (by rfl) (by decide) (by decide +kernel)) (Nat.le_of_ble_eq_true rfl) (Nat.le_of_ble_eq_true rfl) rfl (r_X6_at 4 (by rfl) (w6 + v3) g7) fun w8 hw8 => b_pc (pc' := 55) rfl ?_
      exact b_reti l113_55 rfl hw8 (hr _)
    · exact b_thr x113_26 (by decide) (Nat.le_of_ble_eq_true rfl) (hr _)
/-! ET.isNamedByTape -/
theorem l127_0 : (ax_dt (ax_T 127)).lookup 0 = some (.aload_n 0, 1, 0, 0, 0) := by decide +kernel
theorem l127_1 : (ax_dt (ax_T 127)).lookup 1 = some (.getfield 45, 3, 8, 5, 0) := by decide +kernel
theorem l127_4 : (ax_dt (ax_T 127)).lookup 4 = some (.iload_n 1, 1, 0, 0, 0) := by decide +kernel
theorem l127_5 : (ax_dt (ax_T 127)).lookup 5 = some (.iconst 3, 1, 0, 0, 0) := by decide +kernel
theorem l127_6 : (ax_dt (ax_T 127)).lookup 6 = some (.invokevirtual 306, 3, 83, 2, 0) := by decide +kernel
theorem l127_9 : (ax_dt (ax_T 127)).lookup 9 = some (.istore_n 2, 1, 0, 0, 0) := by decide +kernel
theorem l127_10 : (ax_dt (ax_T 127)).lookup 10 = some (.iload_n 2, 1, 0, 0, 0) := by decide +kernel
theorem l127_11 : (ax_dt (ax_T 127)).lookup 11 = some (.iconst (-1), 1, 0, 0, 0) := by decide +kernel
theorem l127_12 : (ax_dt (ax_T 127)).lookup 12 = some (.if_icmp .eq 71, 3, 0, 0, 0) := by decide +kernel
theorem l127_15 : (ax_dt (ax_T 127)).lookup 15 = some (.aload_n 0, 1, 0, 0, 0) := by decide +kernel
theorem l127_16 : (ax_dt (ax_T 127)).lookup 16 = some (.getfield 45, 3, 8, 5, 0) := by decide +kernel
theorem l127_19 : (ax_dt (ax_T 127)).lookup 19 = some (.getfield 270, 3, 7, 13, 0) := by decide +kernel
theorem l127_22 : (ax_dt (ax_T 127)).lookup 22 = some (.iload_n 2, 1, 0, 0, 0) := by decide +kernel
theorem l127_23 : (ax_dt (ax_T 127)).lookup 23 = some (.iaload, 1, 0, 0, 0) := by decide +kernel
theorem l127_24 : (ax_dt (ax_T 127)).lookup 24 = some (.invokestatic 311, 3, 15, 1, 0) := by decide +kernel
theorem l127_27 : (ax_dt (ax_T 127)).lookup 27 = some (.ifCond .eq 56, 3, 0, 0, 0) := by decide +kernel
theorem l127_30 : (ax_dt (ax_T 127)).lookup 30 = some (.aload_n 0, 1, 0, 0, 0) := by decide +kernel
theorem l127_31 : (ax_dt (ax_T 127)).lookup 31 = some (.getfield 45, 3, 8, 5, 0) := by decide +kernel
theorem l127_34 : (ax_dt (ax_T 127)).lookup 34 = some (.getfield 273, 3, 7, 15, 0) := by decide +kernel
theorem l127_37 : (ax_dt (ax_T 127)).lookup 37 = some (.iload_n 2, 1, 0, 0, 0) := by decide +kernel
theorem l127_38 : (ax_dt (ax_T 127)).lookup 38 = some (.iaload, 1, 0, 0, 0) := by decide +kernel
theorem l127_39 : (ax_dt (ax_T 127)).lookup 39 = some (.aload_n 0, 1, 0, 0, 0) := by decide +kernel
theorem l127_40 : (ax_dt (ax_T 127)).lookup 40 = some (.getfield 14, 3, 8, 0, 0) := by decide +kernel
theorem l127_43 : (ax_dt (ax_T 127)).lookup 43 = some (.invokevirtual 63, 3, 52, 0, 0) := by decide +kernel
theorem l127_46 : (ax_dt (ax_T 127)).lookup 46 = some (.if_icmp .ne 37, 3, 0, 0, 0) := by decide +kernel
theorem l127_49 : (ax_dt (ax_T 127)).lookup 49 = some (.aload_n 0, 1, 0, 0, 0) := by decide +kernel
theorem l127_50 : (ax_dt (ax_T 127)).lookup 50 = some (.getfield 18, 3, 8, 1, 0) := by decide +kernel
theorem l127_53 : (ax_dt (ax_T 127)).lookup 53 = some (.aload_n 0, 1, 0, 0, 0) := by decide +kernel
theorem l127_54 : (ax_dt (ax_T 127)).lookup 54 = some (.getfield 45, 3, 8, 5, 0) := by decide +kernel
theorem l127_57 : (ax_dt (ax_T 127)).lookup 57 = some (.iload_n 2, 1, 0, 0, 0) := by decide +kernel
theorem l127_58 : (ax_dt (ax_T 127)).lookup 58 = some (.invokevirtual 287, 3, 84, 1, 0) := by decide +kernel
theorem l127_61 : (ax_dt (ax_T 127)).lookup 61 = some (.aload_n 0, 1, 0, 0, 0) := by decide +kernel
theorem l127_62 : (ax_dt (ax_T 127)).lookup 62 = some (.getfield 14, 3, 8, 0, 0) := by decide +kernel
theorem l127_65 : (ax_dt (ax_T 127)).lookup 65 = some (.iconst 0, 1, 0, 0, 0) := by decide +kernel
theorem l127_66 : (ax_dt (ax_T 127)).lookup 66 = some (.aload_n 0, 1, 0, 0, 0) := by decide +kernel
theorem l127_67 : (ax_dt (ax_T 127)).lookup 67 = some (.getfield 14, 3, 8, 0, 0) := by decide +kernel
theorem l127_70 : (ax_dt (ax_T 127)).lookup 70 = some (.invokevirtual 63, 3, 52, 0, 0) := by decide +kernel
theorem l127_73 : (ax_dt (ax_T 127)).lookup 73 = some (.invokevirtual 339, 3, 65, 4, 0) := by decide +kernel
theorem l127_76 : (ax_dt (ax_T 127)).lookup 76 = some (.ifCond .eq 7, 3, 0, 0, 0) := by decide +kernel
theorem l127_79 : (ax_dt (ax_T 127)).lookup 79 = some (.iconst 1, 1, 0, 0, 0) := by decide +kernel
theorem l127_80 : (ax_dt (ax_T 127)).lookup 80 = some (.goto 4, 3, 0, 0, 0) := by decide +kernel
theorem l127_83 : (ax_dt (ax_T 127)).lookup 83 = some (.iconst 0, 1, 0, 0, 0) := by decide +kernel
theorem l127_84 : (ax_dt (ax_T 127)).lookup 84 = some (.ireturn, 1, 0, 0, 0) := by decide +kernel
noncomputable def F_X10_isNamedByTape (v1 : Int) (μ : bM) : Option (Int) := (F_X8_slotOf (μ 1 5).toNat v1 3 μ).bind fun w1 => if w1 = (-1) then some (0) else bG (0 ≤ w1 ∧ w1 < 3200) ((F_X2_isText (μ ((μ 1 5).toNat + 12) w1.toNat) μ).bind fun w3 => if w3 = 0 then some (0) else bG (0 ≤ w1 ∧ w1 < 3200) ((F_X6_used 2 μ).bind fun w5 => if ¬ (μ ((μ 1 5).toNat + 14) w1.toNat) = w5 then some (0) else (F_X8_start (μ 1 5).toNat w1 μ).bind fun w7 => (F_X6_used 2 μ).bind fun w8 => (F_X6_same 4 2 w7 0 w8 μ).bind fun w9 => if w9 = 0 then some (0) else some (1)))
theorem r_X10_isNamedByTape {L : Nat} {xs : Nat → Int32} {d : Nat} {μ : bM}  (v1 : Int) (h1 : bR v1) : bD L xs (d + 2) 127 0 [(0, .ref 1), (1, bI v1)] [] μ ((F_X10_isNamedByTape v1 μ).bind (bPc μ)) := by
  have hr : ∀ r, (bPc μ) r = (bPc μ) r := fun _ => rfl
  unfold F_X10_isNamedByTape
  refine bD.ok fun hk => ?_
  refine b_s (pc' := 1) (lv1 := [(0, .ref 1), (1, bI v1)]) (st' := [.ref 1]) l127_0 (fun _ => rfl) ?_
  refine b_gr l127_1 (by rfl) (by decide) (by decide) rfl (b_pc (pc' := 4) rfl ?_)
  refine b_s (pc' := 5) (lv1 := [(0, .ref 1), (1, bI v1)]) (st' := [bI v1, .ref (μ 1 5).toNat]) l127_4 (fun _ => rfl) ?_
  refine b_s (pc' := 6) (lv1 := [(0, .ref 1), (1, bI v1)]) (st' := [bI 3, bI v1, .ref (μ 1 5).toNat]) l127_5 (fun _ => rfl) ?_
  refine b_cPi l127_6 rfl (b_rc (ci := 7) (bO_ft hk (ci := 8) (by rfl) rfl) (by decide) (by decide +kernel)) (Nat.le_of_ble_eq_true rfl) (Nat.le_of_ble_eq_true rfl) rfl (r_X8_slotOf (μ 1 5).toNat (bO_ft hk (ci := 8) (by rfl) rfl) v1 h1 3 (by decide)) fun w1 hw1 => b_pc (pc' := 9) rfl ?_
  refine b_w (pc' := 10) (lv1 := ax_st1 [(0, .ref 1), (1, bI v1)] 2 (bI w1)) (lv' := [(0, .ref 1), (2, bI w1)]) (st' := []) l127_9 (fun _ => rfl) (bSb rfl (bSb rfl bSn)) ?_
  refine b_s (pc' := 11) (lv1 := [(0, .ref 1), (2, bI w1)]) (st' := [bI w1]) l127_10 (fun _ => rfl) ?_
  refine b_s (pc' := 12) (lv1 := [(0, .ref 1), (2, bI w1)]) (st' := [bI (-1), bI w1]) l127_11 (fun _ => rfl) ?_
  refine b_ieq (pt := 83) l127_12 hw1 (by decide) (by decide) rfl (fun c2 => ?_) (fun c2 => b_pc (pc' := 15) rfl ?_)
  · refine b_s (pc' := 84) (lv1 := [(0, .ref 1), (2, bI w1)]) (st' := [bI 0]) l127_83 (fun _ => rfl) ?_
    exact b_retz l127_84 rfl (by decide) (hr _)
  · refine b_s (pc' := 16) (lv1 := [(0, .ref 1), (2, bI w1)]) (st' := [.ref 1]) l127_15 (fun _ => rfl) ?_
    refine b_gr l127_16 (by rfl) (by decide) (by decide) rfl (b_pc (pc' := 19) rfl ?_)
    refine b_gp (q' := ((μ 1 5).toNat + 12)) (j := 12) l127_19 (bO_ft hk (ci := 8) (by rfl) rfl) (by decide) (by decide) rfl hk rfl rfl (b_pc (pc' := 22) rfl ?_)
    refine b_s (pc' := 23) (lv1 := [(0, .ref 1), (2, bI w1)]) (st' := [bI w1, .ref ((μ 1 5).toNat + 12)]) l127_22 (fun _ => rfl) ?_
    refine b_g fun g12 => ?_
    refine b_ial l127_23 (bTree_f (bO_ft hk (ci := 8) (by rfl) rfl)) g12 (b_pc (pc' := 24) rfl ?_)
    refine b_cPz l127_24 rfl (fun _ => trivial) (Nat.le_of_ble_eq_true rfl) (Nat.le_of_ble_eq_true rfl) rfl (r_X2_isText (μ ((μ 1 5).toNat + 12) w1.toNat) (bO_i hk (bTree_f (bO_ft hk (ci := 8) (by rfl) rfl)))) fun w3 hw3 => b_pc (pc' := 27) rfl ?_
    refine b_zeq (pt := 83) l127_27 (bZ_R hw3) (by decide) rfl (fun c4 => ?_) (fun c4 => b_pc (pc' := 30) rfl ?_)
    · refine b_s (pc' := 84) (lv1 := [(0, .ref 1), (2, bI w1)]) (st' := [bI 0]) l127_83 (fun _ => rfl) ?_
      exact b_retz l127_84 rfl (by decide) (hr _)
    · refine b_s (pc' := 31) (lv1 := [(0, .ref 1), (2, bI w1)]) (st' := [.ref 1]) l127_30 (fun _ => rfl) ?_
      refine b_gr l127_31 (by rfl) (by decide) (by decide) rfl (b_pc (pc' := 34) rfl ?_)
      refine b_gp (q' := ((μ 1 5).toNat + 14)) (j := 14) l127_34 (bO_ft hk (ci := 8) (by rfl) rfl) (by decide) (by decide) rfl hk rfl rfl (b_pc (pc' := 37) rfl ?_)
      refine b_s (pc' := 38) (lv1 := [(0, .ref 1), (2, bI w1)]) (st' := [bI w1, .ref ((μ 1 5).toNat + 14)]) l127_37 (fun _ => rfl) ?_
      refine b_g fun g11 => ?_
      refine b_ial l127_38 (bTree_l (bO_ft hk (ci := 8) (by rfl) rfl)) g11 (b_pc (pc' := 39) rfl ?_)
      refine b_s (pc' := 40) (lv1 := [(0, .ref 1), (2, bI w1)]) (st' := [.ref 1, bI (μ ((μ 1 5).toNat + 14) w1.toNat)]) l127_39 (fun _ => rfl) ?_
      refine b_gp (q' := 2) (j := 1) l127_40 (by rfl) (by decide) (by decide) rfl hk rfl rfl (b_pc (pc' := 43) rfl ?_)
      refine b_cPi l127_43 rfl (b_rc (ci := 5) (by rfl) (by decide) (by decide +kernel)) (Nat.le_of_ble_eq_true rfl) (Nat.le_of_ble_eq_true rfl) rfl (r_X6_used 2 (by rfl)) fun w5 hw5 => b_pc (pc' := 46) rfl ?_
      refine b_ine (pt := 83) l127_46 (bO_i hk (bTree_l (bO_ft hk (ci := 8) (by rfl) rfl))) hw5 (by decide) rfl (fun c6 => ?_) (fun c6 => b_pc (pc' := 49) rfl ?_)
      · refine b_s (pc' := 84) (lv1 := [(0, .ref 1), (2, bI w1)]) (st' := [bI 0]) l127_83 (fun _ => rfl) ?_
        exact b_retz l127_84 rfl (by decide) (hr _)
      · refine b_s (pc' := 50) (lv1 := [(0, .ref 1), (2, bI w1)]) (st' := [.ref 1]) l127_49 (fun _ => rfl) ?_
        refine b_gp (q' := 4) (j := 3) l127_50 (by rfl) (by decide) (by decide) rfl hk rfl rfl (b_pc (pc' := 53) rfl ?_)
        refine b_s (pc' := 54) (lv1 := [(0, .ref 1), (2, bI w1)]) (st' := [.ref 1, .ref 4]) l127_53 (fun _ => rfl) ?_
        refine b_gr l127_54 (by rfl) (by decide) (by decide) rfl (b_pc (pc' := 57) rfl ?_)
        refine b_s (pc' := 58) (lv1 := [(0, .ref 1), (2, bI w1)]) (st' := [bI w1, .ref (μ 1 5).toNat, .ref 4]) l127_57 (fun _ => rfl) ?_
        refine b_cPi l127_58 rfl (b_rc (ci := 7) (bO_ft hk (ci := 8) (by rfl) rfl) (by decide) (by decide +kernel)) (Nat.le_of_ble_eq_true rfl) (Nat.le_of_ble_eq_true rfl) rfl (r_X8_start (μ 1 5).toNat (bO_ft hk (ci := 8) (by rfl) rfl) w1 hw1) fun w7 hw7 => b_pc (pc' := 61) rfl ?_
        refine b_s (pc' := 62) (lv1 := [(0, .ref 1), (2, bI w1)]) (st' := [.ref 1, bI w7, .ref 4]) l127_61 (fun _ => rfl) ?_
        refine b_gp (q' := 2) (j := 1) l127_62 (by rfl) (by decide) (by decide) rfl hk rfl rfl (b_pc (pc' := 65) rfl ?_)
        refine b_s (pc' := 66) (lv1 := [(0, .ref 1), (2, bI w1)]) (st' := [bI 0, .ref 2, bI w7, .ref 4]) l127_65 (fun _ => rfl) ?_
        refine b_s (pc' := 67) (lv1 := [(0, .ref 1), (2, bI w1)]) (st' := [.ref 1, bI 0, .ref 2, bI w7, .ref 4]) l127_66 (fun _ => rfl) ?_
        refine b_gp (q' := 2) (j := 1) l127_67 (by rfl) (by decide) (by decide) rfl hk rfl rfl (b_pc (pc' := 70) rfl ?_)
        refine b_cPi l127_70 rfl (b_rc (ci := 5) (by rfl) (by decide) (by decide +kernel)) (Nat.le_of_ble_eq_true rfl) (Nat.le_of_ble_eq_true rfl) rfl (r_X6_used 2 (by rfl)) fun w8 hw8 => b_pc (pc' := 73) rfl ?_
        refine b_cPz l127_73 rfl (b_rc (ci := 5) (by rfl) (by decide) (by decide +kernel)) (Nat.le_of_ble_eq_true rfl) (Nat.le_of_ble_eq_true rfl) rfl (r_X6_same 4 (by rfl) 2 (by rfl) w7 hw7 0 (by decide) w8 hw8) fun w9 hw9 => b_pc (pc' := 76) rfl ?_
        refine b_zeq (pt := 83) l127_76 (bZ_R hw9) (by decide) rfl (fun c10 => ?_) (fun c10 => b_pc (pc' := 79) rfl ?_)
        · refine b_s (pc' := 84) (lv1 := [(0, .ref 1), (2, bI w1)]) (st' := [bI 0]) l127_83 (fun _ => rfl) ?_
          exact b_retz l127_84 rfl (by decide) (hr _)
        · refine b_s (pc' := 80) (lv1 := [(0, .ref 1), (2, bI w1)]) (st' := [bI 1]) l127_79 (fun _ => rfl) ?_
          refine b_s (pc' := 84) (lv1 := [(0, .ref 1), (2, bI w1)]) (st' := [bI 1]) l127_80 (fun _ => rfl) ?_
          exact b_retz l127_84 rfl (by decide) (hr _)
/-! ET.rootNamedByTape -/
theorem l125_0 : (ax_dt (ax_T 125)).lookup 0 = some (.iconst 0, 1, 0, 0, 0) := by decide +kernel
theorem l125_1 : (ax_dt (ax_T 125)).lookup 1 = some (.istore_n 1, 1, 0, 0, 0) := by decide +kernel
theorem l125_2 : (ax_dt (ax_T 125)).lookup 2 = some (.iload_n 1, 1, 0, 0, 0) := by decide +kernel
theorem l125_3 : (ax_dt (ax_T 125)).lookup 3 = some (.aload_n 0, 1, 0, 0, 0) := by decide +kernel
theorem l125_4 : (ax_dt (ax_T 125)).lookup 4 = some (.getfield 45, 3, 8, 5, 0) := by decide +kernel
theorem l125_7 : (ax_dt (ax_T 125)).lookup 7 = some (.getfield 77, 3, 7, 0, 0) := by decide +kernel
theorem l125_10 : (ax_dt (ax_T 125)).lookup 10 = some (.if_icmp .ge 35, 3, 0, 0, 0) := by decide +kernel
theorem l125_13 : (ax_dt (ax_T 125)).lookup 13 = some (.aload_n 0, 1, 0, 0, 0) := by decide +kernel
theorem l125_14 : (ax_dt (ax_T 125)).lookup 14 = some (.aload_n 0, 1, 0, 0, 0) := by decide +kernel
theorem l125_15 : (ax_dt (ax_T 125)).lookup 15 = some (.getfield 45, 3, 8, 5, 0) := by decide +kernel
theorem l125_18 : (ax_dt (ax_T 125)).lookup 18 = some (.getfield 261, 3, 7, 2, 0) := by decide +kernel
theorem l125_21 : (ax_dt (ax_T 125)).lookup 21 = some (.iload_n 1, 1, 0, 0, 0) := by decide +kernel
theorem l125_22 : (ax_dt (ax_T 125)).lookup 22 = some (.iaload, 1, 0, 0, 0) := by decide +kernel
theorem l125_23 : (ax_dt (ax_T 125)).lookup 23 = some (.invokevirtual 330, 3, 127, 1, 0) := by decide +kernel
theorem l125_26 : (ax_dt (ax_T 125)).lookup 26 = some (.ifCond .eq 13, 3, 0, 0, 0) := by decide +kernel
theorem l125_29 : (ax_dt (ax_T 125)).lookup 29 = some (.aload_n 0, 1, 0, 0, 0) := by decide +kernel
theorem l125_30 : (ax_dt (ax_T 125)).lookup 30 = some (.getfield 45, 3, 8, 5, 0) := by decide +kernel
theorem l125_33 : (ax_dt (ax_T 125)).lookup 33 = some (.getfield 261, 3, 7, 2, 0) := by decide +kernel
theorem l125_36 : (ax_dt (ax_T 125)).lookup 36 = some (.iload_n 1, 1, 0, 0, 0) := by decide +kernel
theorem l125_37 : (ax_dt (ax_T 125)).lookup 37 = some (.iaload, 1, 0, 0, 0) := by decide +kernel
theorem l125_38 : (ax_dt (ax_T 125)).lookup 38 = some (.ireturn, 1, 0, 0, 0) := by decide +kernel
theorem l125_39 : (ax_dt (ax_T 125)).lookup 39 = some (.iinc 1 1, 3, 0, 0, 0) := by decide +kernel
theorem l125_42 : (ax_dt (ax_T 125)).lookup 42 = some (.goto (-40), 3, 0, 0, 0) := by decide +kernel
theorem l125_45 : (ax_dt (ax_T 125)).lookup 45 = some (.iconst (-1), 1, 0, 0, 0) := by decide +kernel
theorem l125_46 : (ax_dt (ax_T 125)).lookup 46 = some (.ireturn, 1, 0, 0, 0) := by decide +kernel
noncomputable def F_X10_rootNamedByTape_2 (μ : bM) (v1 : Int) : Option ((Int) ⊕ (Int)) := if (μ (μ 1 5).toNat 0) ≤ v1 then some (.inr ((-1))) else bG (0 ≤ v1 ∧ v1 < 6) ((F_X10_isNamedByTape (μ ((μ 1 5).toNat + 1) v1.toNat) μ).bind fun w2 => if w2 = 0 then bG (bR (v1 + 1)) (some (.inl (v1 + 1))) else bG (0 ≤ v1 ∧ v1 < 6) (some (.inr ((μ ((μ 1 5).toNat + 1) v1.toNat)))))
noncomputable def F_X10_rootNamedByTape (μ : bM) : Option (Int) := bLoop (fun z => F_X10_rootNamedByTape_2 μ z) 0
theorem q_X10_rootNamedByTape_2 {L : Nat} {xs : Nat → Int32} {d : Nat} {μ : bM}  {κ : ((Int) ⊕ (Int)) → Option bX} (hr : ∀ r : Int, κ (.inr r) = (bPc μ) r) (H2 : ∀ (v1 : Int), bR v1 → bD L xs (d + 3) 125 2 [(0, .ref 1), (1, bI v1)] [] μ (κ (.inl v1)))  {v1 : Int} (h1 : bR v1) : bD L xs (d + 3) 125 2 [(0, .ref 1), (1, bI v1)] [] μ ((F_X10_rootNamedByTape_2 μ v1).bind κ) := by
  unfold F_X10_rootNamedByTape_2
  refine bD.ok fun hk => ?_
  refine b_s (pc' := 3) (lv1 := [(0, .ref 1), (1, bI v1)]) (st' := [bI v1]) l125_2 (fun _ => rfl) ?_
  refine b_s (pc' := 4) (lv1 := [(0, .ref 1), (1, bI v1)]) (st' := [.ref 1, bI v1]) l125_3 (fun _ => rfl) ?_
  refine b_gr l125_4 (by rfl) (by decide) (by decide) rfl (b_pc (pc' := 7) rfl ?_)
  refine b_gi l125_7 (bO_ft hk (ci := 8) (by rfl) rfl) (by decide) (by decide) rfl (b_pc (pc' := 10) rfl ?_)
  refine b_ige (pt := 45) l125_10 h1 (bO_f hk (ci := 7) (bO_ft hk (ci := 8) (by rfl) rfl) rfl) (by decide) rfl (fun c1 => ?_) (fun c1 => b_pc (pc' := 13) rfl ?_)
  · refine b_s (pc' := 46) (lv1 := [(0, .ref 1), (1, bI v1)]) (st' := [bI (-1)]) l125_45 (fun _ => rfl) ?_
    exact b_reti l125_46 rfl (by decide) (hr _)
  · refine b_s (pc' := 14) (lv1 := [(0, .ref 1), (1, bI v1)]) (st' := [.ref 1]) l125_13 (fun _ => rfl) ?_
    refine b_s (pc' := 15) (lv1 := [(0, .ref 1), (1, bI v1)]) (st' := [.ref 1, .ref 1]) l125_14 (fun _ => rfl) ?_
    refine b_gr l125_15 (by rfl) (by decide) (by decide) rfl (b_pc (pc' := 18) rfl ?_)
    refine b_gp (q' := ((μ 1 5).toNat + 1)) (j := 1) l125_18 (bO_ft hk (ci := 8) (by rfl) rfl) (by decide) (by decide) rfl hk rfl rfl (b_pc (pc' := 21) rfl ?_)
    refine b_s (pc' := 22) (lv1 := [(0, .ref 1), (1, bI v1)]) (st' := [bI v1, .ref ((μ 1 5).toNat + 1), .ref 1]) l125_21 (fun _ => rfl) ?_
    refine b_g fun g6 => ?_
    refine b_ial l125_22 (bTree_r (bO_ft hk (ci := 8) (by rfl) rfl)) g6 (b_pc (pc' := 23) rfl ?_)
    refine b_cPz l125_23 rfl (b_rc (ci := 8) (by rfl) (by decide) (by decide +kernel)) (Nat.le_of_ble_eq_true rfl) (Nat.le_of_ble_eq_true rfl) rfl (r_X10_isNamedByTape (μ ((μ 1 5).toNat + 1) v1.toNat) (bO_i hk (bTree_r (bO_ft hk (ci := 8) (by rfl) rfl)))) fun w2 hw2 => b_pc (pc' := 26) rfl ?_
    refine b_zeq (pt := 39) l125_26 (bZ_R hw2) (by decide) rfl (fun c3 => ?_) (fun c3 => b_pc (pc' := 29) rfl ?_)
    · refine b_inc (lv' := [(0, .ref 1), (1, bI (v1 + 1))]) l125_39 rfl (by decide +kernel) (bSb rfl (bSb rfl bSn)) fun g4 => (b_pc (pc' := 42) rfl ?_)
      refine b_s (pc' := 2) (lv1 := [(0, .ref 1), (1, bI (v1 + 1))]) (st' := []) l125_42 (fun _ => rfl) ?_
      refine bD.wk (lv' := [(0, .ref 1), (1, bI (v1 + 1))]) (bSb rfl (bSb rfl bSn)) ?_
      exact H2 (v1 + 1) g4
    · refine b_s (pc' := 30) (lv1 := [(0, .ref 1), (1, bI v1)]) (st' := [.ref 1]) l125_29 (fun _ => rfl) ?_
      refine b_gr l125_30 (by rfl) (by decide) (by decide) rfl (b_pc (pc' := 33) rfl ?_)
      refine b_gp (q' := ((μ 1 5).toNat + 1)) (j := 1) l125_33 (bO_ft hk (ci := 8) (by rfl) rfl) (by decide) (by decide) rfl hk rfl rfl (b_pc (pc' := 36) rfl ?_)
      refine b_s (pc' := 37) (lv1 := [(0, .ref 1), (1, bI v1)]) (st' := [bI v1, .ref ((μ 1 5).toNat + 1)]) l125_36 (fun _ => rfl) ?_
      refine b_g fun g5 => ?_
      refine b_ial l125_37 (bTree_r (bO_ft hk (ci := 8) (by rfl) rfl)) g5 (b_pc (pc' := 38) rfl ?_)
      exact b_reti l125_38 rfl (bO_i hk (bTree_r (bO_ft hk (ci := 8) (by rfl) rfl))) (hr _)
theorem p_X10_rootNamedByTape_2 {L : Nat} {xs : Nat → Int32} {d : Nat} {μ : bM}  {κ : (Int) → Option bX} (hr : ∀ r : Int, κ r = (bPc μ) r)  {v1 : Int} (h1 : bR v1) : bD L xs (d + 3) 125 2 [(0, .ref 1), (1, bI v1)] [] μ ((bLoop (fun z => F_X10_rootNamedByTape_2 μ z) v1).bind κ) :=
  b_loop (fun z => [(0, .ref 1), (1, bI z)]) (fun z => μ) (fun z => bR z) (fun κ' hκ HH z hz => q_X10_rootNamedByTape_2 (κ := κ') (fun r => (hκ _).trans (hr r)) (fun a1 b1 => HH a1 b1)  hz) v1 h1
theorem r_X10_rootNamedByTape {L : Nat} {xs : Nat → Int32} {d : Nat} {μ : bM}   : bD L xs (d + 3) 125 0 [(0, .ref 1)] [] μ ((F_X10_rootNamedByTape μ).bind (bPc μ)) := by
  have hr : ∀ r, (bPc μ) r = (bPc μ) r := fun _ => rfl
  unfold F_X10_rootNamedByTape
  refine bD.ok fun hk => ?_
  refine b_s (pc' := 1) (lv1 := [(0, .ref 1)]) (st' := [bI 0]) l125_0 (fun _ => rfl) ?_
  refine b_w (pc' := 2) (lv1 := ax_st1 [(0, .ref 1)] 1 (bI 0)) (lv' := [(0, .ref 1), (1, bI 0)]) (st' := []) l125_1 (fun _ => rfl) (bSb rfl (bSb rfl bSn)) ?_
  refine bD.wk (lv' := [(0, .ref 1), (1, bI 0)]) (bSb rfl (bSb rfl bSn)) ?_
  exact p_X10_rootNamedByTape_2 hr (by decide)
/-! ET.childNamedByTape -/
theorem l126_0 : (ax_dt (ax_T 126)).lookup 0 = some (.aload_n 0, 1, 0, 0, 0) := by decide +kernel
theorem l126_1 : (ax_dt (ax_T 126)).lookup 1 = some (.getfield 45, 3, 8, 5, 0) := by decide +kernel
theorem l126_4 : (ax_dt (ax_T 126)).lookup 4 = some (.getfield 333, 3, 7, 8, 0) := by decide +kernel
theorem l126_7 : (ax_dt (ax_T 126)).lookup 7 = some (.iload_n 1, 1, 0, 0, 0) := by decide +kernel
theorem l126_8 : (ax_dt (ax_T 126)).lookup 8 = some (.iaload, 1, 0, 0, 0) := by decide +kernel
theorem l126_9 : (ax_dt (ax_T 126)).lookup 9 = some (.istore_n 2, 1, 0, 0, 0) := by decide +kernel
theorem l126_10 : (ax_dt (ax_T 126)).lookup 10 = some (.iconst 0, 1, 0, 0, 0) := by decide +kernel
theorem l126_11 : (ax_dt (ax_T 126)).lookup 11 = some (.istore_n 3, 1, 0, 0, 0) := by decide +kernel
theorem l126_12 : (ax_dt (ax_T 126)).lookup 12 = some (.iload_n 3, 1, 0, 0, 0) := by decide +kernel
theorem l126_13 : (ax_dt (ax_T 126)).lookup 13 = some (.aload_n 0, 1, 0, 0, 0) := by decide +kernel
theorem l126_14 : (ax_dt (ax_T 126)).lookup 14 = some (.getfield 45, 3, 8, 5, 0) := by decide +kernel
theorem l126_17 : (ax_dt (ax_T 126)).lookup 17 = some (.getfield 245, 3, 7, 7, 0) := by decide +kernel
theorem l126_20 : (ax_dt (ax_T 126)).lookup 20 = some (.iload_n 1, 1, 0, 0, 0) := by decide +kernel
theorem l126_21 : (ax_dt (ax_T 126)).lookup 21 = some (.iaload, 1, 0, 0, 0) := by decide +kernel
theorem l126_22 : (ax_dt (ax_T 126)).lookup 22 = some (.if_icmp .ge 34, 3, 0, 0, 0) := by decide +kernel
theorem l126_25 : (ax_dt (ax_T 126)).lookup 25 = some (.iload_n 2, 1, 0, 0, 0) := by decide +kernel
theorem l126_26 : (ax_dt (ax_T 126)).lookup 26 = some (.iconst (-1), 1, 0, 0, 0) := by decide +kernel
theorem l126_27 : (ax_dt (ax_T 126)).lookup 27 = some (.if_icmp .eq 29, 3, 0, 0, 0) := by decide +kernel
theorem l126_30 : (ax_dt (ax_T 126)).lookup 30 = some (.aload_n 0, 1, 0, 0, 0) := by decide +kernel
theorem l126_31 : (ax_dt (ax_T 126)).lookup 31 = some (.iload_n 2, 1, 0, 0, 0) := by decide +kernel
theorem l126_32 : (ax_dt (ax_T 126)).lookup 32 = some (.invokevirtual 330, 3, 127, 1, 0) := by decide +kernel
theorem l126_35 : (ax_dt (ax_T 126)).lookup 35 = some (.ifCond .eq 5, 3, 0, 0, 0) := by decide +kernel
theorem l126_38 : (ax_dt (ax_T 126)).lookup 38 = some (.iload_n 2, 1, 0, 0, 0) := by decide +kernel
theorem l126_39 : (ax_dt (ax_T 126)).lookup 39 = some (.ireturn, 1, 0, 0, 0) := by decide +kernel
theorem l126_40 : (ax_dt (ax_T 126)).lookup 40 = some (.aload_n 0, 1, 0, 0, 0) := by decide +kernel
theorem l126_41 : (ax_dt (ax_T 126)).lookup 41 = some (.getfield 45, 3, 8, 5, 0) := by decide +kernel
theorem l126_44 : (ax_dt (ax_T 126)).lookup 44 = some (.getfield 336, 3, 7, 10, 0) := by decide +kernel
theorem l126_47 : (ax_dt (ax_T 126)).lookup 47 = some (.iload_n 2, 1, 0, 0, 0) := by decide +kernel
theorem l126_48 : (ax_dt (ax_T 126)).lookup 48 = some (.iaload, 1, 0, 0, 0) := by decide +kernel
theorem l126_49 : (ax_dt (ax_T 126)).lookup 49 = some (.istore_n 2, 1, 0, 0, 0) := by decide +kernel
theorem l126_50 : (ax_dt (ax_T 126)).lookup 50 = some (.iinc 3 1, 3, 0, 0, 0) := by decide +kernel
theorem l126_53 : (ax_dt (ax_T 126)).lookup 53 = some (.goto (-41), 3, 0, 0, 0) := by decide +kernel
theorem l126_56 : (ax_dt (ax_T 126)).lookup 56 = some (.iconst (-1), 1, 0, 0, 0) := by decide +kernel
theorem l126_57 : (ax_dt (ax_T 126)).lookup 57 = some (.ireturn, 1, 0, 0, 0) := by decide +kernel
noncomputable def F_X10_childNamedByTape_12 (v1 : Int) (μ : bM) (v2 : Int) (v3 : Int) : Option ((Int × Int) ⊕ (Int)) := bG (0 ≤ v1 ∧ v1 < 400) (if (μ ((μ 1 5).toNat + 6) v1.toNat) ≤ v3 then some (.inr ((-1))) else if v2 = (-1) then some (.inr ((-1))) else (F_X10_isNamedByTape v2 μ).bind fun w3 => if w3 = 0 then bG (0 ≤ v2 ∧ v2 < 400) (bG (bR (v3 + 1)) (some (.inl ((μ ((μ 1 5).toNat + 9) v2.toNat), (v3 + 1))))) else some (.inr (v2)))
noncomputable def F_X10_childNamedByTape (v1 : Int) (μ : bM) : Option (Int) := bG (0 ≤ v1 ∧ v1 < 400) (bLoop (fun z => F_X10_childNamedByTape_12 v1 μ z.1 z.2) ((μ ((μ 1 5).toNat + 7) v1.toNat), 0))
theorem q_X10_childNamedByTape_12 {L : Nat} {xs : Nat → Int32} {d : Nat} {μ : bM} {v1 : Int} {κ : ((Int × Int) ⊕ (Int)) → Option bX} (hr : ∀ r : Int, κ (.inr r) = (bPc μ) r) (H12 : ∀ (v2 : Int) (v3 : Int), bR v2 → bR v3 → bD L xs (d + 3) 126 12 [(0, .ref 1), (1, bI v1), (2, bI v2), (3, bI v3)] [] μ (κ (.inl (v2, v3))))  (h1 : bR v1) {v2 : Int} (h2 : bR v2) {v3 : Int} (h3 : bR v3) : bD L xs (d + 3) 126 12 [(0, .ref 1), (1, bI v1), (2, bI v2), (3, bI v3)] [] μ ((F_X10_childNamedByTape_12 v1 μ v2 v3).bind κ) := by
  unfold F_X10_childNamedByTape_12
  refine bD.ok fun hk => ?_
  refine b_s (pc' := 13) (lv1 := [(0, .ref 1), (1, bI v1), (2, bI v2), (3, bI v3)]) (st' := [bI v3]) l126_12 (fun _ => rfl) ?_
  refine b_s (pc' := 14) (lv1 := [(0, .ref 1), (1, bI v1), (2, bI v2), (3, bI v3)]) (st' := [.ref 1, bI v3]) l126_13 (fun _ => rfl) ?_
  refine b_gr l126_14 (by rfl) (by decide) (by decide) rfl (b_pc (pc' := 17) rfl ?_)
  refine b_gp (q' := ((μ 1 5).toNat + 6)) (j := 6) l126_17 (bO_ft hk (ci := 8) (by rfl) rfl) (by decide) (by decide) rfl hk rfl rfl (b_pc (pc' := 20) rfl ?_)
  refine b_s (pc' := 21) (lv1 := [(0, .ref 1), (1, bI v1), (2, bI v2), (3, bI v3)]) (st' := [bI v1, .ref ((μ 1 5).toNat + 6), bI v3]) l126_20 (fun _ => rfl) ?_
  refine b_g fun g7 => ?_
  refine b_ial l126_21 (bTree_e (bO_ft hk (ci := 8) (by rfl) rfl) 6 (by decide)) g7 (b_pc (pc' := 22) rfl ?_)
  refine b_ige (pt := 56) l126_22 h3 (bO_i hk (bTree_e (bO_ft hk (ci := 8) (by rfl) rfl) 6 (by decide))) (by decide) rfl (fun c1 => ?_) (fun c1 => b_pc (pc' := 25) rfl ?_)
  · refine b_s (pc' := 57) (lv1 := [(0, .ref 1), (1, bI v1), (2, bI v2), (3, bI v3)]) (st' := [bI (-1)]) l126_56 (fun _ => rfl) ?_
    exact b_reti l126_57 rfl (by decide) (hr _)
  · refine b_s (pc' := 26) (lv1 := [(0, .ref 1), (1, bI v1), (2, bI v2), (3, bI v3)]) (st' := [bI v2]) l126_25 (fun _ => rfl) ?_
    refine b_s (pc' := 27) (lv1 := [(0, .ref 1), (1, bI v1), (2, bI v2), (3, bI v3)]) (st' := [bI (-1), bI v2]) l126_26 (fun _ => rfl) ?_
    refine b_ieq (pt := 56) l126_27 h2 (by decide) (by decide) rfl (fun c2 => ?_) (fun c2 => b_pc (pc' := 30) rfl ?_)
    · refine b_s (pc' := 57) (lv1 := [(0, .ref 1), (1, bI v1), (2, bI v2), (3, bI v3)]) (st' := [bI (-1)]) l126_56 (fun _ => rfl) ?_
      exact b_reti l126_57 rfl (by decide) (hr _)
    · refine b_s (pc' := 31) (lv1 := [(0, .ref 1), (1, bI v1), (2, bI v2), (3, bI v3)]) (st' := [.ref 1]) l126_30 (fun _ => rfl) ?_
      refine b_s (pc' := 32) (lv1 := [(0, .ref 1), (1, bI v1), (2, bI v2), (3, bI v3)]) (st' := [bI v2, .ref 1]) l126_31 (fun _ => rfl) ?_
      refine b_cPz l126_32 rfl (b_rc (ci := 8) (by rfl) (by decide) (by decide +kernel)) (Nat.le_of_ble_eq_true rfl) (Nat.le_of_ble_eq_true rfl) rfl (r_X10_isNamedByTape v2 h2) fun w3 hw3 => b_pc (pc' := 35) rfl ?_
      refine b_zeq (pt := 40) l126_35 (bZ_R hw3) (by decide) rfl (fun c4 => ?_) (fun c4 => b_pc (pc' := 38) rfl ?_)
      · refine b_s (pc' := 41) (lv1 := [(0, .ref 1), (1, bI v1), (2, bI v2), (3, bI v3)]) (st' := [.ref 1]) l126_40 (fun _ => rfl) ?_
        refine b_gr l126_41 (by rfl) (by decide) (by decide) rfl (b_pc (pc' := 44) rfl ?_)
        refine b_gp (q' := ((μ 1 5).toNat + 9)) (j := 9) l126_44 (bO_ft hk (ci := 8) (by rfl) rfl) (by decide) (by decide) rfl hk rfl rfl (b_pc (pc' := 47) rfl ?_)
        refine b_s (pc' := 48) (lv1 := [(0, .ref 1), (1, bI v1), (2, bI v2), (3, bI v3)]) (st' := [bI v2, .ref ((μ 1 5).toNat + 9)]) l126_47 (fun _ => rfl) ?_
        refine b_g fun g6 => ?_
        refine b_ial l126_48 (bTree_e (bO_ft hk (ci := 8) (by rfl) rfl) 9 (by decide)) g6 (b_pc (pc' := 49) rfl ?_)
        refine b_w (pc' := 50) (lv1 := ax_st1 [(0, .ref 1), (1, bI v1), (2, bI v2), (3, bI v3)] 2 (bI (μ ((μ 1 5).toNat + 9) v2.toNat))) (lv' := [(0, .ref 1), (1, bI v1), (2, bI (μ ((μ 1 5).toNat + 9) v2.toNat)), (3, bI v3)]) (st' := []) l126_49 (fun _ => rfl) (bSb rfl (bSb rfl (bSb rfl (bSb rfl bSn)))) ?_
        refine b_inc (lv' := [(0, .ref 1), (1, bI v1), (2, bI (μ ((μ 1 5).toNat + 9) v2.toNat)), (3, bI (v3 + 1))]) l126_50 rfl (by decide +kernel) (bSb rfl (bSb rfl (bSb rfl (bSb rfl bSn)))) fun g5 => (b_pc (pc' := 53) rfl ?_)
        refine b_s (pc' := 12) (lv1 := [(0, .ref 1), (1, bI v1), (2, bI (μ ((μ 1 5).toNat + 9) v2.toNat)), (3, bI (v3 + 1))]) (st' := []) l126_53 (fun _ => rfl) ?_
        refine bD.wk (lv' := [(0, .ref 1), (1, bI v1), (2, bI (μ ((μ 1 5).toNat + 9) v2.toNat)), (3, bI (v3 + 1))]) (bSb rfl (bSb rfl (bSb rfl (bSb rfl bSn)))) ?_
        exact H12 (μ ((μ 1 5).toNat + 9) v2.toNat) (v3 + 1) (bO_i hk (bTree_e (bO_ft hk (ci := 8) (by rfl) rfl) 9 (by decide))) g5
      · refine b_s (pc' := 39) (lv1 := [(0, .ref 1), (1, bI v1), (2, bI v2), (3, bI v3)]) (st' := [bI v2]) l126_38 (fun _ => rfl) ?_
        exact b_reti l126_39 rfl h2 (hr _)
theorem p_X10_childNamedByTape_12 {L : Nat} {xs : Nat → Int32} {d : Nat} {μ : bM}  {κ : (Int) → Option bX} (hr : ∀ r : Int, κ r = (bPc μ) r)  {v1 : Int} (h1 : bR v1) {v2 : Int} (h2 : bR v2) {v3 : Int} (h3 : bR v3) : bD L xs (d + 3) 126 12 [(0, .ref 1), (1, bI v1), (2, bI v2), (3, bI v3)] [] μ ((bLoop (fun z => F_X10_childNamedByTape_12 v1 μ z.1 z.2) (v2, v3)).bind κ) :=
  b_loop (fun z => [(0, .ref 1), (1, bI v1), (2, bI z.1), (3, bI z.2)]) (fun z => μ) (fun z => bR z.1 ∧ bR z.2) (fun κ' hκ HH z hz => q_X10_childNamedByTape_12 (κ := κ') (fun r => (hκ _).trans (hr r)) (fun a2 a3 b2 b3 => HH (a2, a3) ⟨b2, b3⟩)  h1 hz.1 hz.2) (v2, v3) ⟨h2, h3⟩
theorem r_X10_childNamedByTape {L : Nat} {xs : Nat → Int32} {d : Nat} {μ : bM}  (v1 : Int) (h1 : bR v1) : bD L xs (d + 3) 126 0 [(0, .ref 1), (1, bI v1)] [] μ ((F_X10_childNamedByTape v1 μ).bind (bPc μ)) := by
  have hr : ∀ r, (bPc μ) r = (bPc μ) r := fun _ => rfl
  unfold F_X10_childNamedByTape
  refine bD.ok fun hk => ?_
  refine b_s (pc' := 1) (lv1 := [(0, .ref 1), (1, bI v1)]) (st' := [.ref 1]) l126_0 (fun _ => rfl) ?_
  refine b_gr l126_1 (by rfl) (by decide) (by decide) rfl (b_pc (pc' := 4) rfl ?_)
  refine b_gp (q' := ((μ 1 5).toNat + 7)) (j := 7) l126_4 (bO_ft hk (ci := 8) (by rfl) rfl) (by decide) (by decide) rfl hk rfl rfl (b_pc (pc' := 7) rfl ?_)
  refine b_s (pc' := 8) (lv1 := [(0, .ref 1), (1, bI v1)]) (st' := [bI v1, .ref ((μ 1 5).toNat + 7)]) l126_7 (fun _ => rfl) ?_
  refine b_g fun g1 => ?_
  refine b_ial l126_8 (bTree_e (bO_ft hk (ci := 8) (by rfl) rfl) 7 (by decide)) g1 (b_pc (pc' := 9) rfl ?_)
  refine b_w (pc' := 10) (lv1 := ax_st1 [(0, .ref 1), (1, bI v1)] 2 (bI (μ ((μ 1 5).toNat + 7) v1.toNat))) (lv' := [(0, .ref 1), (1, bI v1), (2, bI (μ ((μ 1 5).toNat + 7) v1.toNat))]) (st' := []) l126_9 (fun _ => rfl) (bSb rfl (bSb rfl (bSb rfl bSn))) ?_
  refine b_s (pc' := 11) (lv1 := [(0, .ref 1), (1, bI v1), (2, bI (μ ((μ 1 5).toNat + 7) v1.toNat))]) (st' := [bI 0]) l126_10 (fun _ => rfl) ?_
  refine b_w (pc' := 12) (lv1 := ax_st1 [(0, .ref 1), (1, bI v1), (2, bI (μ ((μ 1 5).toNat + 7) v1.toNat))] 3 (bI 0)) (lv' := [(0, .ref 1), (1, bI v1), (2, bI (μ ((μ 1 5).toNat + 7) v1.toNat)), (3, bI 0)]) (st' := []) l126_11 (fun _ => rfl) (bSb rfl (bSb rfl (bSb rfl (bSb rfl bSn)))) ?_
  refine bD.wk (lv' := [(0, .ref 1), (1, bI v1), (2, bI (μ ((μ 1 5).toNat + 7) v1.toNat)), (3, bI 0)]) (bSb rfl (bSb rfl (bSb rfl (bSb rfl bSn)))) ?_
  exact p_X10_childNamedByTape_12 hr h1 (bO_i hk (bTree_e (bO_ft hk (ci := 8) (by rfl) rfl) 7 (by decide))) (by decide)
/-! ET.find -/
theorem l114_0 : (ax_dt (ax_T 114)).lookup 0 = some (.iload_n 1, 1, 0, 0, 0) := by decide +kernel
theorem l114_1 : (ax_dt (ax_T 114)).lookup 1 = some (.iconst (-1), 1, 0, 0, 0) := by decide +kernel
theorem l114_2 : (ax_dt (ax_T 114)).lookup 2 = some (.if_icmp .eq 8, 3, 0, 0, 0) := by decide +kernel
theorem l114_5 : (ax_dt (ax_T 114)).lookup 5 = some (.aload_n 0, 1, 0, 0, 0) := by decide +kernel
theorem l114_6 : (ax_dt (ax_T 114)).lookup 6 = some (.iload_n 1, 1, 0, 0, 0) := by decide +kernel
theorem l114_7 : (ax_dt (ax_T 114)).lookup 7 = some (.invokevirtual 96, 3, 116, 1, 0) := by decide +kernel
theorem l114_10 : (ax_dt (ax_T 114)).lookup 10 = some (.iload_n 1, 1, 0, 0, 0) := by decide +kernel
theorem l114_11 : (ax_dt (ax_T 114)).lookup 11 = some (.iconst (-1), 1, 0, 0, 0) := by decide +kernel
theorem l114_12 : (ax_dt (ax_T 114)).lookup 12 = some (.if_icmp .ne 10, 3, 0, 0, 0) := by decide +kernel
theorem l114_15 : (ax_dt (ax_T 114)).lookup 15 = some (.aload_n 0, 1, 0, 0, 0) := by decide +kernel
theorem l114_16 : (ax_dt (ax_T 114)).lookup 16 = some (.invokevirtual 290, 3, 125, 0, 0) := by decide +kernel
theorem l114_19 : (ax_dt (ax_T 114)).lookup 19 = some (.goto 8, 3, 0, 0, 0) := by decide +kernel
theorem l114_22 : (ax_dt (ax_T 114)).lookup 22 = some (.aload_n 0, 1, 0, 0, 0) := by decide +kernel
theorem l114_23 : (ax_dt (ax_T 114)).lookup 23 = some (.iload_n 1, 1, 0, 0, 0) := by decide +kernel
theorem l114_24 : (ax_dt (ax_T 114)).lookup 24 = some (.invokevirtual 293, 3, 126, 1, 0) := by decide +kernel
theorem l114_27 : (ax_dt (ax_T 114)).lookup 27 = some (.istore_n 2, 1, 0, 0, 0) := by decide +kernel
theorem l114_28 : (ax_dt (ax_T 114)).lookup 28 = some (.aload_n 0, 1, 0, 0, 0) := by decide +kernel
theorem l114_29 : (ax_dt (ax_T 114)).lookup 29 = some (.getfield 14, 3, 8, 0, 0) := by decide +kernel
theorem l114_32 : (ax_dt (ax_T 114)).lookup 32 = some (.iconst 0, 1, 0, 0, 0) := by decide +kernel
theorem l114_33 : (ax_dt (ax_T 114)).lookup 33 = some (.invokevirtual 71, 3, 57, 1, 0) := by decide +kernel
theorem l114_36 : (ax_dt (ax_T 114)).lookup 36 = some (.iload_n 2, 1, 0, 0, 0) := by decide +kernel
theorem l114_37 : (ax_dt (ax_T 114)).lookup 37 = some (.ireturn, 1, 0, 0, 0) := by decide +kernel
noncomputable def F_X10_find_10 (v1 : Int) (μ : bM) : Option ((Int ⊕ String) × bM) := if ¬ v1 = (-1) then (F_X10_childNamedByTape v1 μ).bind fun w2 => bMm (F_X6_cut 2 0 μ) (fun w3 μ4 => some (.inl w2, μ4)) else (F_X10_rootNamedByTape μ).bind fun w6 => bMm (F_X6_cut 2 0 μ) (fun w7 μ8 => some (.inl w6, μ8))
noncomputable def F_X10_find (v1 : Int) (μ : bM) : Option ((Int ⊕ String) × bM) := if v1 = (-1) then F_X10_find_10 v1 μ else bXm (F_X10_needEntry v1 μ) (fun w2 μ3 => F_X10_find_10 v1 μ3) (fun e μ => some (.inr e, μ))
theorem p_X10_find_10 {L : Nat} {xs : Nat → Int32} {d : Nat} {μ : bM}  {κ : ((Int ⊕ String) × bM) → Option bX} (hr : ∀ r : (Int ⊕ String) × bM, κ r = (bXc) r)  {v1 : Int} (h1 : bR v1) : bD L xs (d + 4) 114 10 [(0, .ref 1), (1, bI v1)] [] μ ((F_X10_find_10 v1 μ).bind κ) := by
  unfold F_X10_find_10
  refine bD.ok fun hk => ?_
  refine b_s (pc' := 11) (lv1 := [(0, .ref 1), (1, bI v1)]) (st' := [bI v1]) l114_10 (fun _ => rfl) ?_
  refine b_s (pc' := 12) (lv1 := [(0, .ref 1), (1, bI v1)]) (st' := [bI (-1), bI v1]) l114_11 (fun _ => rfl) ?_
  refine b_ine (pt := 22) l114_12 h1 (by decide) (by decide) rfl (fun c1 => ?_) (fun c1 => b_pc (pc' := 15) rfl ?_)
  · refine b_s (pc' := 23) (lv1 := [(0, .ref 1), (1, bI v1)]) (st' := [.ref 1]) l114_22 (fun _ => rfl) ?_
    refine b_s (pc' := 24) (lv1 := [(0, .ref 1), (1, bI v1)]) (st' := [bI v1, .ref 1]) l114_23 (fun _ => rfl) ?_
    refine b_cPi l114_24 rfl (b_rc (ci := 8) (by rfl) (by decide) (by decide +kernel)) (Nat.le_of_ble_eq_true rfl) (Nat.le_of_ble_eq_true rfl) rfl (r_X10_childNamedByTape v1 h1) fun w2 hw2 => b_pc (pc' := 27) rfl ?_
    refine b_w (pc' := 28) (lv1 := ax_st1 [(0, .ref 1), (1, bI v1)] 2 (bI w2)) (lv' := [(0, .ref 1), (2, bI w2)]) (st' := []) l114_27 (fun _ => rfl) (bSb rfl (bSb rfl bSn)) ?_
    refine b_s (pc' := 29) (lv1 := [(0, .ref 1), (2, bI w2)]) (st' := [.ref 1]) l114_28 (fun _ => rfl) ?_
    refine b_gp (q' := 2) (j := 1) l114_29 (by rfl) (by decide) (by decide) rfl hk rfl rfl (b_pc (pc' := 32) rfl ?_)
    refine b_s (pc' := 33) (lv1 := [(0, .ref 1), (2, bI w2)]) (st' := [bI 0, .ref 2]) l114_32 (fun _ => rfl) ?_
    refine b_cMv l114_33 rfl (b_rc (ci := 5) (by rfl) (by decide) (by decide +kernel)) (Nat.le_of_ble_eq_true rfl) (Nat.le_of_ble_eq_true rfl) rfl (r_X6_cut 2 (by rfl) 0 (by decide)) fun w3 μ4 hw3 => bD.ok fun hk5 => b_pc (pc' := 36) rfl ?_
    refine b_s (pc' := 37) (lv1 := [(0, .ref 1), (2, bI w2)]) (st' := [bI w2]) l114_36 (fun _ => rfl) ?_
    exact b_reti l114_37 rfl hw2 (hr _)
  · refine b_s (pc' := 16) (lv1 := [(0, .ref 1), (1, bI v1)]) (st' := [.ref 1]) l114_15 (fun _ => rfl) ?_
    refine b_cPi l114_16 rfl (b_rc (ci := 8) (by rfl) (by decide) (by decide +kernel)) (Nat.le_of_ble_eq_true rfl) (Nat.le_of_ble_eq_true rfl) rfl (r_X10_rootNamedByTape ) fun w6 hw6 => b_pc (pc' := 19) rfl ?_
    refine b_s (pc' := 27) (lv1 := [(0, .ref 1), (1, bI v1)]) (st' := [bI w6]) l114_19 (fun _ => rfl) ?_
    refine b_w (pc' := 28) (lv1 := ax_st1 [(0, .ref 1), (1, bI v1)] 2 (bI w6)) (lv' := [(0, .ref 1), (2, bI w6)]) (st' := []) l114_27 (fun _ => rfl) (bSb rfl (bSb rfl bSn)) ?_
    refine b_s (pc' := 29) (lv1 := [(0, .ref 1), (2, bI w6)]) (st' := [.ref 1]) l114_28 (fun _ => rfl) ?_
    refine b_gp (q' := 2) (j := 1) l114_29 (by rfl) (by decide) (by decide) rfl hk rfl rfl (b_pc (pc' := 32) rfl ?_)
    refine b_s (pc' := 33) (lv1 := [(0, .ref 1), (2, bI w6)]) (st' := [bI 0, .ref 2]) l114_32 (fun _ => rfl) ?_
    refine b_cMv l114_33 rfl (b_rc (ci := 5) (by rfl) (by decide) (by decide +kernel)) (Nat.le_of_ble_eq_true rfl) (Nat.le_of_ble_eq_true rfl) rfl (r_X6_cut 2 (by rfl) 0 (by decide)) fun w7 μ8 hw7 => bD.ok fun hk9 => b_pc (pc' := 36) rfl ?_
    refine b_s (pc' := 37) (lv1 := [(0, .ref 1), (2, bI w6)]) (st' := [bI w6]) l114_36 (fun _ => rfl) ?_
    exact b_reti l114_37 rfl hw6 (hr _)
theorem r_X10_find {L : Nat} {xs : Nat → Int32} {d : Nat} {μ : bM}  (v1 : Int) (h1 : bR v1) : bD L xs (d + 4) 114 0 [(0, .ref 1), (1, bI v1)] [] μ ((F_X10_find v1 μ).bind (bXc)) := by
  have hr : ∀ r, (bXc) r = (bXc) r := fun _ => rfl
  unfold F_X10_find
  refine bD.ok fun hk => ?_
  refine b_s (pc' := 1) (lv1 := [(0, .ref 1), (1, bI v1)]) (st' := [bI v1]) l114_0 (fun _ => rfl) ?_
  refine b_s (pc' := 2) (lv1 := [(0, .ref 1), (1, bI v1)]) (st' := [bI (-1), bI v1]) l114_1 (fun _ => rfl) ?_
  refine b_ieq (pt := 10) l114_2 h1 (by decide) (by decide) rfl (fun c1 => ?_) (fun c1 => b_pc (pc' := 5) rfl ?_)
  · refine bD.wk (lv' := [(0, .ref 1), (1, bI v1)]) (bSb rfl (bSb rfl bSn)) ?_
    exact p_X10_find_10 hr h1
  · refine b_s (pc' := 6) (lv1 := [(0, .ref 1), (1, bI v1)]) (st' := [.ref 1]) l114_5 (fun _ => rfl) ?_
    refine b_s (pc' := 7) (lv1 := [(0, .ref 1), (1, bI v1)]) (st' := [bI v1, .ref 1]) l114_6 (fun _ => rfl) ?_
    refine b_cXv l114_7 rfl (b_rc (ci := 8) (by rfl) (by decide) (by decide +kernel)) (Nat.le_of_ble_eq_true rfl) (Nat.le_of_ble_eq_true rfl) rfl (r_X10_needEntry v1 h1) ⟨fun _ z => (by cases z), (by decide +kernel)⟩ rfl (fun _ _ => hr _) fun w2 μ3 hw2 => bD.ok fun hk4 => b_pc (pc' := 10) rfl ?_
    refine bD.wk (lv' := [(0, .ref 1), (1, bI v1)]) (bSb rfl (bSb rfl bSn)) ?_
    exact p_X10_find_10 hr h1
/-! ET.coversAddress -/
theorem l128_0 : (ax_dt (ax_T 128)).lookup 0 = some (.aload_n 0, 1, 0, 0, 0) := by decide +kernel
theorem l128_1 : (ax_dt (ax_T 128)).lookup 1 = some (.getfield 45, 3, 8, 5, 0) := by decide +kernel
theorem l128_4 : (ax_dt (ax_T 128)).lookup 4 = some (.iload_n 1, 1, 0, 0, 0) := by decide +kernel
theorem l128_5 : (ax_dt (ax_T 128)).lookup 5 = some (.bipush 17, 2, 0, 0, 0) := by decide +kernel
theorem l128_7 : (ax_dt (ax_T 128)).lookup 7 = some (.invokevirtual 306, 3, 83, 2, 0) := by decide +kernel
theorem l128_10 : (ax_dt (ax_T 128)).lookup 10 = some (.istore 4, 2, 0, 0, 0) := by decide +kernel
theorem l128_12 : (ax_dt (ax_T 128)).lookup 12 = some (.aload_n 0, 1, 0, 0, 0) := by decide +kernel
theorem l128_13 : (ax_dt (ax_T 128)).lookup 13 = some (.getfield 45, 3, 8, 5, 0) := by decide +kernel
theorem l128_16 : (ax_dt (ax_T 128)).lookup 16 = some (.iload_n 1, 1, 0, 0, 0) := by decide +kernel
theorem l128_17 : (ax_dt (ax_T 128)).lookup 17 = some (.bipush 18, 2, 0, 0, 0) := by decide +kernel
theorem l128_19 : (ax_dt (ax_T 128)).lookup 19 = some (.invokevirtual 306, 3, 83, 2, 0) := by decide +kernel
theorem l128_22 : (ax_dt (ax_T 128)).lookup 22 = some (.istore 5, 2, 0, 0, 0) := by decide +kernel
theorem l128_24 : (ax_dt (ax_T 128)).lookup 24 = some (.iload 4, 2, 0, 0, 0) := by decide +kernel
theorem l128_26 : (ax_dt (ax_T 128)).lookup 26 = some (.iconst (-1), 1, 0, 0, 0) := by decide +kernel
theorem l128_27 : (ax_dt (ax_T 128)).lookup 27 = some (.if_icmp .eq 79, 3, 0, 0, 0) := by decide +kernel
theorem l128_30 : (ax_dt (ax_T 128)).lookup 30 = some (.iload 5, 2, 0, 0, 0) := by decide +kernel
theorem l128_32 : (ax_dt (ax_T 128)).lookup 32 = some (.iconst (-1), 1, 0, 0, 0) := by decide +kernel
theorem l128_33 : (ax_dt (ax_T 128)).lookup 33 = some (.if_icmp .eq 73, 3, 0, 0, 0) := by decide +kernel
theorem l128_36 : (ax_dt (ax_T 128)).lookup 36 = some (.aload_n 0, 1, 0, 0, 0) := by decide +kernel
theorem l128_37 : (ax_dt (ax_T 128)).lookup 37 = some (.getfield 45, 3, 8, 5, 0) := by decide +kernel
theorem l128_40 : (ax_dt (ax_T 128)).lookup 40 = some (.getfield 270, 3, 7, 13, 0) := by decide +kernel
theorem l128_43 : (ax_dt (ax_T 128)).lookup 43 = some (.iload 4, 2, 0, 0, 0) := by decide +kernel
theorem l128_45 : (ax_dt (ax_T 128)).lookup 45 = some (.iaload, 1, 0, 0, 0) := by decide +kernel
theorem l128_46 : (ax_dt (ax_T 128)).lookup 46 = some (.invokestatic 113, 3, 18, 1, 0) := by decide +kernel
theorem l128_49 : (ax_dt (ax_T 128)).lookup 49 = some (.ifCond .eq 57, 3, 0, 0, 0) := by decide +kernel
theorem l128_52 : (ax_dt (ax_T 128)).lookup 52 = some (.aload_n 0, 1, 0, 0, 0) := by decide +kernel
theorem l128_53 : (ax_dt (ax_T 128)).lookup 53 = some (.getfield 45, 3, 8, 5, 0) := by decide +kernel
theorem l128_56 : (ax_dt (ax_T 128)).lookup 56 = some (.getfield 270, 3, 7, 13, 0) := by decide +kernel
theorem l128_59 : (ax_dt (ax_T 128)).lookup 59 = some (.iload 5, 2, 0, 0, 0) := by decide +kernel
theorem l128_61 : (ax_dt (ax_T 128)).lookup 61 = some (.iaload, 1, 0, 0, 0) := by decide +kernel
theorem l128_62 : (ax_dt (ax_T 128)).lookup 62 = some (.invokestatic 113, 3, 18, 1, 0) := by decide +kernel
theorem l128_65 : (ax_dt (ax_T 128)).lookup 65 = some (.ifCond .eq 41, 3, 0, 0, 0) := by decide +kernel
theorem l128_68 : (ax_dt (ax_T 128)).lookup 68 = some (.lload_n 2, 1, 0, 0, 0) := by decide +kernel
theorem l128_69 : (ax_dt (ax_T 128)).lookup 69 = some (.aload_n 0, 1, 0, 0, 0) := by decide +kernel
theorem l128_70 : (ax_dt (ax_T 128)).lookup 70 = some (.getfield 45, 3, 8, 5, 0) := by decide +kernel
theorem l128_73 : (ax_dt (ax_T 128)).lookup 73 = some (.getfield 281, 3, 7, 14, 0) := by decide +kernel
theorem l128_76 : (ax_dt (ax_T 128)).lookup 76 = some (.iload 4, 2, 0, 0, 0) := by decide +kernel
theorem l128_78 : (ax_dt (ax_T 128)).lookup 78 = some (.laload, 1, 0, 0, 0) := by decide +kernel
theorem l128_79 : (ax_dt (ax_T 128)).lookup 79 = some (.invokestatic 343, 3, 129, 2, 0) := by decide +kernel
theorem l128_82 : (ax_dt (ax_T 128)).lookup 82 = some (.ifCond .ne 24, 3, 0, 0, 0) := by decide +kernel
theorem l128_85 : (ax_dt (ax_T 128)).lookup 85 = some (.lload_n 2, 1, 0, 0, 0) := by decide +kernel
theorem l128_86 : (ax_dt (ax_T 128)).lookup 86 = some (.aload_n 0, 1, 0, 0, 0) := by decide +kernel
theorem l128_87 : (ax_dt (ax_T 128)).lookup 87 = some (.getfield 45, 3, 8, 5, 0) := by decide +kernel
theorem l128_90 : (ax_dt (ax_T 128)).lookup 90 = some (.getfield 281, 3, 7, 14, 0) := by decide +kernel
theorem l128_93 : (ax_dt (ax_T 128)).lookup 93 = some (.iload 5, 2, 0, 0, 0) := by decide +kernel
theorem l128_95 : (ax_dt (ax_T 128)).lookup 95 = some (.laload, 1, 0, 0, 0) := by decide +kernel
theorem l128_96 : (ax_dt (ax_T 128)).lookup 96 = some (.invokestatic 343, 3, 129, 2, 0) := by decide +kernel
theorem l128_99 : (ax_dt (ax_T 128)).lookup 99 = some (.ifCond .eq 7, 3, 0, 0, 0) := by decide +kernel
theorem l128_102 : (ax_dt (ax_T 128)).lookup 102 = some (.iconst 1, 1, 0, 0, 0) := by decide +kernel
theorem l128_103 : (ax_dt (ax_T 128)).lookup 103 = some (.goto 4, 3, 0, 0, 0) := by decide +kernel
theorem l128_106 : (ax_dt (ax_T 128)).lookup 106 = some (.iconst 0, 1, 0, 0, 0) := by decide +kernel
theorem l128_107 : (ax_dt (ax_T 128)).lookup 107 = some (.ireturn, 1, 0, 0, 0) := by decide +kernel
noncomputable def F_X10_coversAddress (v1 : Int) (v2 : Int) (μ : bM) : Option (Int) := (F_X8_slotOf (μ 1 5).toNat v1 17 μ).bind fun w1 => (F_X8_slotOf (μ 1 5).toNat v1 18 μ).bind fun w2 => if w1 = (-1) then some (0) else if w2 = (-1) then some (0) else bG (0 ≤ w1 ∧ w1 < 3200) ((F_X2_isNumber (μ ((μ 1 5).toNat + 12) w1.toNat) μ).bind fun w5 => if w5 = 0 then some (0) else bG (0 ≤ w2 ∧ w2 < 3200) ((F_X2_isNumber (μ ((μ 1 5).toNat + 12) w2.toNat) μ).bind fun w7 => if w7 = 0 then some (0) else bG (0 ≤ w1 ∧ w1 < 3200) ((F_X10_isBelow v2 (μ ((μ 1 5).toNat + 13) w1.toNat) μ).bind fun w9 => if ¬ w9 = 0 then some (0) else bG (0 ≤ w2 ∧ w2 < 3200) ((F_X10_isBelow v2 (μ ((μ 1 5).toNat + 13) w2.toNat) μ).bind fun w11 => if w11 = 0 then some (0) else some (1)))))
theorem r_X10_coversAddress {L : Nat} {xs : Nat → Int32} {d : Nat} {μ : bM}  (v1 : Int) (h1 : bR v1) (v2 : Int) (h2 : bRL v2) : bD L xs (d + 2) 128 0 [(0, .ref 1), (1, bI v1), (2, bLg v2)] [] μ ((F_X10_coversAddress v1 v2 μ).bind (bPc μ)) := by
  have hr : ∀ r, (bPc μ) r = (bPc μ) r := fun _ => rfl
  unfold F_X10_coversAddress
  refine bD.ok fun hk => ?_
  refine b_s (pc' := 1) (lv1 := [(0, .ref 1), (1, bI v1), (2, bLg v2)]) (st' := [.ref 1]) l128_0 (fun _ => rfl) ?_
  refine b_gr l128_1 (by rfl) (by decide) (by decide) rfl (b_pc (pc' := 4) rfl ?_)
  refine b_s (pc' := 5) (lv1 := [(0, .ref 1), (1, bI v1), (2, bLg v2)]) (st' := [bI v1, .ref (μ 1 5).toNat]) l128_4 (fun _ => rfl) ?_
  refine b_bipush l128_5 (by decide) (b_pc (pc' := 7) rfl ?_)
  refine b_cPi l128_7 rfl (b_rc (ci := 7) (bO_ft hk (ci := 8) (by rfl) rfl) (by decide) (by decide +kernel)) (Nat.le_of_ble_eq_true rfl) (Nat.le_of_ble_eq_true rfl) rfl (r_X8_slotOf (μ 1 5).toNat (bO_ft hk (ci := 8) (by rfl) rfl) v1 h1 17 (by decide)) fun w1 hw1 => b_pc (pc' := 10) rfl ?_
  refine b_w (pc' := 12) (lv1 := ax_st1 [(0, .ref 1), (1, bI v1), (2, bLg v2)] 4 (bI w1)) (lv' := [(0, .ref 1), (1, bI v1), (2, bLg v2), (4, bI w1)]) (st' := []) l128_10 (fun _ => rfl) (bSb rfl (bSb rfl (bSb rfl (bSb rfl bSn)))) ?_
  refine b_s (pc' := 13) (lv1 := [(0, .ref 1), (1, bI v1), (2, bLg v2), (4, bI w1)]) (st' := [.ref 1]) l128_12 (fun _ => rfl) ?_
  refine b_gr l128_13 (by rfl) (by decide) (by decide) rfl (b_pc (pc' := 16) rfl ?_)
  refine b_s (pc' := 17) (lv1 := [(0, .ref 1), (1, bI v1), (2, bLg v2), (4, bI w1)]) (st' := [bI v1, .ref (μ 1 5).toNat]) l128_16 (fun _ => rfl) ?_
  refine b_bipush l128_17 (by decide) (b_pc (pc' := 19) rfl ?_)
  refine b_cPi l128_19 rfl (b_rc (ci := 7) (bO_ft hk (ci := 8) (by rfl) rfl) (by decide) (by decide +kernel)) (Nat.le_of_ble_eq_true rfl) (Nat.le_of_ble_eq_true rfl) rfl (r_X8_slotOf (μ 1 5).toNat (bO_ft hk (ci := 8) (by rfl) rfl) v1 h1 18 (by decide)) fun w2 hw2 => b_pc (pc' := 22) rfl ?_
  refine b_w (pc' := 24) (lv1 := ax_st1 [(0, .ref 1), (1, bI v1), (2, bLg v2), (4, bI w1)] 5 (bI w2)) (lv' := [(0, .ref 1), (2, bLg v2), (4, bI w1), (5, bI w2)]) (st' := []) l128_22 (fun _ => rfl) (bSb rfl (bSb rfl (bSb rfl (bSb rfl bSn)))) ?_
  refine b_s (pc' := 26) (lv1 := [(0, .ref 1), (2, bLg v2), (4, bI w1), (5, bI w2)]) (st' := [bI w1]) l128_24 (fun _ => rfl) ?_
  refine b_s (pc' := 27) (lv1 := [(0, .ref 1), (2, bLg v2), (4, bI w1), (5, bI w2)]) (st' := [bI (-1), bI w1]) l128_26 (fun _ => rfl) ?_
  refine b_ieq (pt := 106) l128_27 hw1 (by decide) (by decide) rfl (fun c3 => ?_) (fun c3 => b_pc (pc' := 30) rfl ?_)
  · refine b_s (pc' := 107) (lv1 := [(0, .ref 1), (2, bLg v2), (4, bI w1), (5, bI w2)]) (st' := [bI 0]) l128_106 (fun _ => rfl) ?_
    exact b_retz l128_107 rfl (by decide) (hr _)
  · refine b_s (pc' := 32) (lv1 := [(0, .ref 1), (2, bLg v2), (4, bI w1), (5, bI w2)]) (st' := [bI w2]) l128_30 (fun _ => rfl) ?_
    refine b_s (pc' := 33) (lv1 := [(0, .ref 1), (2, bLg v2), (4, bI w1), (5, bI w2)]) (st' := [bI (-1), bI w2]) l128_32 (fun _ => rfl) ?_
    refine b_ieq (pt := 106) l128_33 hw2 (by decide) (by decide) rfl (fun c4 => ?_) (fun c4 => b_pc (pc' := 36) rfl ?_)
    · refine b_s (pc' := 107) (lv1 := [(0, .ref 1), (2, bLg v2), (4, bI w1), (5, bI w2)]) (st' := [bI 0]) l128_106 (fun _ => rfl) ?_
      exact b_retz l128_107 rfl (by decide) (hr _)
    · refine b_s (pc' := 37) (lv1 := [(0, .ref 1), (2, bLg v2), (4, bI w1), (5, bI w2)]) (st' := [.ref 1]) l128_36 (fun _ => rfl) ?_
      refine b_gr l128_37 (by rfl) (by decide) (by decide) rfl (b_pc (pc' := 40) rfl ?_)
      refine b_gp (q' := ((μ 1 5).toNat + 12)) (j := 12) l128_40 (bO_ft hk (ci := 8) (by rfl) rfl) (by decide) (by decide) rfl hk rfl rfl (b_pc (pc' := 43) rfl ?_)
      refine b_s (pc' := 45) (lv1 := [(0, .ref 1), (2, bLg v2), (4, bI w1), (5, bI w2)]) (st' := [bI w1, .ref ((μ 1 5).toNat + 12)]) l128_43 (fun _ => rfl) ?_
      refine b_g fun g16 => ?_
      refine b_ial l128_45 (bTree_f (bO_ft hk (ci := 8) (by rfl) rfl)) g16 (b_pc (pc' := 46) rfl ?_)
      refine b_cPz l128_46 rfl (fun _ => trivial) (Nat.le_of_ble_eq_true rfl) (Nat.le_of_ble_eq_true rfl) rfl (r_X2_isNumber (μ ((μ 1 5).toNat + 12) w1.toNat) (bO_i hk (bTree_f (bO_ft hk (ci := 8) (by rfl) rfl)))) fun w5 hw5 => b_pc (pc' := 49) rfl ?_
      refine b_zeq (pt := 106) l128_49 (bZ_R hw5) (by decide) rfl (fun c6 => ?_) (fun c6 => b_pc (pc' := 52) rfl ?_)
      · refine b_s (pc' := 107) (lv1 := [(0, .ref 1), (2, bLg v2), (4, bI w1), (5, bI w2)]) (st' := [bI 0]) l128_106 (fun _ => rfl) ?_
        exact b_retz l128_107 rfl (by decide) (hr _)
      · refine b_s (pc' := 53) (lv1 := [(0, .ref 1), (2, bLg v2), (4, bI w1), (5, bI w2)]) (st' := [.ref 1]) l128_52 (fun _ => rfl) ?_
        refine b_gr l128_53 (by rfl) (by decide) (by decide) rfl (b_pc (pc' := 56) rfl ?_)
        refine b_gp (q' := ((μ 1 5).toNat + 12)) (j := 12) l128_56 (bO_ft hk (ci := 8) (by rfl) rfl) (by decide) (by decide) rfl hk rfl rfl (b_pc (pc' := 59) rfl ?_)
        refine b_s (pc' := 61) (lv1 := [(0, .ref 1), (2, bLg v2), (4, bI w1), (5, bI w2)]) (st' := [bI w2, .ref ((μ 1 5).toNat + 12)]) l128_59 (fun _ => rfl) ?_
        refine b_g fun g15 => ?_
        refine b_ial l128_61 (bTree_f (bO_ft hk (ci := 8) (by rfl) rfl)) g15 (b_pc (pc' := 62) rfl ?_)
        refine b_cPz l128_62 rfl (fun _ => trivial) (Nat.le_of_ble_eq_true rfl) (Nat.le_of_ble_eq_true rfl) rfl (r_X2_isNumber (μ ((μ 1 5).toNat + 12) w2.toNat) (bO_i hk (bTree_f (bO_ft hk (ci := 8) (by rfl) rfl)))) fun w7 hw7 => b_pc (pc' := 65) rfl ?_
        refine b_zeq (pt := 106) l128_65 (bZ_R hw7) (by decide) rfl (fun c8 => ?_) (fun c8 => b_pc (pc' := 68) rfl ?_)
        · refine b_s (pc' := 107) (lv1 := [(0, .ref 1), (2, bLg v2), (4, bI w1), (5, bI w2)]) (st' := [bI 0]) l128_106 (fun _ => rfl) ?_
          exact b_retz l128_107 rfl (by decide) (hr _)
        · refine b_s (pc' := 69) (lv1 := [(0, .ref 1), (2, bLg v2), (4, bI w1), (5, bI w2)]) (st' := [bLg v2]) l128_68 (fun _ => rfl) ?_
          refine b_s (pc' := 70) (lv1 := [(0, .ref 1), (2, bLg v2), (4, bI w1), (5, bI w2)]) (st' := [.ref 1, bLg v2]) l128_69 (fun _ => rfl) ?_
          refine b_gr l128_70 (by rfl) (by decide) (by decide) rfl (b_pc (pc' := 73) rfl ?_)
          refine b_gp (q' := ((μ 1 5).toNat + 13)) (j := 13) l128_73 (bO_ft hk (ci := 8) (by rfl) rfl) (by decide) (by decide) rfl hk rfl rfl (b_pc (pc' := 76) rfl ?_)
          refine b_s (pc' := 78) (lv1 := [(0, .ref 1), (2, bLg v2), (4, bI w1), (5, bI w2)]) (st' := [bI w1, .ref ((μ 1 5).toNat + 13), bLg v2]) l128_76 (fun _ => rfl) ?_
          refine b_g fun g14 => ?_
          refine b_lal l128_78 (bTree_v (bO_ft hk (ci := 8) (by rfl) rfl)) g14 (b_pc (pc' := 79) rfl ?_)
          refine b_cPz l128_79 rfl (fun _ => trivial) (Nat.le_of_ble_eq_true rfl) (Nat.le_of_ble_eq_true rfl) rfl (r_X10_isBelow v2 h2 (μ ((μ 1 5).toNat + 13) w1.toNat) (bO_l hk (bTree_v (bO_ft hk (ci := 8) (by rfl) rfl)))) fun w9 hw9 => b_pc (pc' := 82) rfl ?_
          refine b_zne (pt := 106) l128_82 (bZ_R hw9) (by decide) rfl (fun c10 => ?_) (fun c10 => b_pc (pc' := 85) rfl ?_)
          · refine b_s (pc' := 107) (lv1 := [(0, .ref 1), (2, bLg v2), (4, bI w1), (5, bI w2)]) (st' := [bI 0]) l128_106 (fun _ => rfl) ?_
            exact b_retz l128_107 rfl (by decide) (hr _)
          · refine b_s (pc' := 86) (lv1 := [(0, .ref 1), (2, bLg v2), (4, bI w1), (5, bI w2)]) (st' := [bLg v2]) l128_85 (fun _ => rfl) ?_
            refine b_s (pc' := 87) (lv1 := [(0, .ref 1), (2, bLg v2), (4, bI w1), (5, bI w2)]) (st' := [.ref 1, bLg v2]) l128_86 (fun _ => rfl) ?_
            refine b_gr l128_87 (by rfl) (by decide) (by decide) rfl (b_pc (pc' := 90) rfl ?_)
            refine b_gp (q' := ((μ 1 5).toNat + 13)) (j := 13) l128_90 (bO_ft hk (ci := 8) (by rfl) rfl) (by decide) (by decide) rfl hk rfl rfl (b_pc (pc' := 93) rfl ?_)
            refine b_s (pc' := 95) (lv1 := [(0, .ref 1), (2, bLg v2), (4, bI w1), (5, bI w2)]) (st' := [bI w2, .ref ((μ 1 5).toNat + 13), bLg v2]) l128_93 (fun _ => rfl) ?_
            refine b_g fun g13 => ?_
            refine b_lal l128_95 (bTree_v (bO_ft hk (ci := 8) (by rfl) rfl)) g13 (b_pc (pc' := 96) rfl ?_)
            refine b_cPz l128_96 rfl (fun _ => trivial) (Nat.le_of_ble_eq_true rfl) (Nat.le_of_ble_eq_true rfl) rfl (r_X10_isBelow v2 h2 (μ ((μ 1 5).toNat + 13) w2.toNat) (bO_l hk (bTree_v (bO_ft hk (ci := 8) (by rfl) rfl)))) fun w11 hw11 => b_pc (pc' := 99) rfl ?_
            refine b_zeq (pt := 106) l128_99 (bZ_R hw11) (by decide) rfl (fun c12 => ?_) (fun c12 => b_pc (pc' := 102) rfl ?_)
            · refine b_s (pc' := 107) (lv1 := [(0, .ref 1), (2, bLg v2), (4, bI w1), (5, bI w2)]) (st' := [bI 0]) l128_106 (fun _ => rfl) ?_
              exact b_retz l128_107 rfl (by decide) (hr _)
            · refine b_s (pc' := 103) (lv1 := [(0, .ref 1), (2, bLg v2), (4, bI w1), (5, bI w2)]) (st' := [bI 1]) l128_102 (fun _ => rfl) ?_
              refine b_s (pc' := 107) (lv1 := [(0, .ref 1), (2, bLg v2), (4, bI w1), (5, bI w2)]) (st' := [bI 1]) l128_103 (fun _ => rfl) ?_
              exact b_retz l128_107 rfl (by decide) (hr _)
/-! ET.covers -/
theorem l115_0 : (ax_dt (ax_T 115)).lookup 0 = some (.iconst (-1), 1, 0, 0, 0) := by decide +kernel
theorem l115_1 : (ax_dt (ax_T 115)).lookup 1 = some (.istore_n 3, 1, 0, 0, 0) := by decide +kernel
theorem l115_2 : (ax_dt (ax_T 115)).lookup 2 = some (.iconst 0, 1, 0, 0, 0) := by decide +kernel
theorem l115_3 : (ax_dt (ax_T 115)).lookup 3 = some (.istore 4, 2, 0, 0, 0) := by decide +kernel
theorem l115_5 : (ax_dt (ax_T 115)).lookup 5 = some (.iload 4, 2, 0, 0, 0) := by decide +kernel
theorem l115_7 : (ax_dt (ax_T 115)).lookup 7 = some (.aload_n 0, 1, 0, 0, 0) := by decide +kernel
theorem l115_8 : (ax_dt (ax_T 115)).lookup 8 = some (.getfield 45, 3, 8, 5, 0) := by decide +kernel
theorem l115_11 : (ax_dt (ax_T 115)).lookup 11 = some (.getfield 81, 3, 7, 1, 0) := by decide +kernel
theorem l115_14 : (ax_dt (ax_T 115)).lookup 14 = some (.if_icmp .ge 61, 3, 0, 0, 0) := by decide +kernel
theorem l115_17 : (ax_dt (ax_T 115)).lookup 17 = some (.iload_n 3, 1, 0, 0, 0) := by decide +kernel
theorem l115_18 : (ax_dt (ax_T 115)).lookup 18 = some (.iconst (-1), 1, 0, 0, 0) := by decide +kernel
theorem l115_19 : (ax_dt (ax_T 115)).lookup 19 = some (.if_icmp .eq 25, 3, 0, 0, 0) := by decide +kernel
theorem l115_22 : (ax_dt (ax_T 115)).lookup 22 = some (.aload_n 0, 1, 0, 0, 0) := by decide +kernel
theorem l115_23 : (ax_dt (ax_T 115)).lookup 23 = some (.getfield 45, 3, 8, 5, 0) := by decide +kernel
theorem l115_26 : (ax_dt (ax_T 115)).lookup 26 = some (.getfield 99, 3, 7, 6, 0) := by decide +kernel
theorem l115_29 : (ax_dt (ax_T 115)).lookup 29 = some (.iload 4, 2, 0, 0, 0) := by decide +kernel
theorem l115_31 : (ax_dt (ax_T 115)).lookup 31 = some (.iaload, 1, 0, 0, 0) := by decide +kernel
theorem l115_32 : (ax_dt (ax_T 115)).lookup 32 = some (.aload_n 0, 1, 0, 0, 0) := by decide +kernel
theorem l115_33 : (ax_dt (ax_T 115)).lookup 33 = some (.getfield 45, 3, 8, 5, 0) := by decide +kernel
theorem l115_36 : (ax_dt (ax_T 115)).lookup 36 = some (.getfield 99, 3, 7, 6, 0) := by decide +kernel
theorem l115_39 : (ax_dt (ax_T 115)).lookup 39 = some (.iload_n 3, 1, 0, 0, 0) := by decide +kernel
theorem l115_40 : (ax_dt (ax_T 115)).lookup 40 = some (.iaload, 1, 0, 0, 0) := by decide +kernel
theorem l115_41 : (ax_dt (ax_T 115)).lookup 41 = some (.if_icmp .le 7, 3, 0, 0, 0) := by decide +kernel
theorem l115_44 : (ax_dt (ax_T 115)).lookup 44 = some (.iconst 1, 1, 0, 0, 0) := by decide +kernel
theorem l115_45 : (ax_dt (ax_T 115)).lookup 45 = some (.goto 4, 3, 0, 0, 0) := by decide +kernel
theorem l115_48 : (ax_dt (ax_T 115)).lookup 48 = some (.iconst 0, 1, 0, 0, 0) := by decide +kernel
theorem l115_49 : (ax_dt (ax_T 115)).lookup 49 = some (.istore 5, 2, 0, 0, 0) := by decide +kernel
theorem l115_51 : (ax_dt (ax_T 115)).lookup 51 = some (.iload 5, 2, 0, 0, 0) := by decide +kernel
theorem l115_53 : (ax_dt (ax_T 115)).lookup 53 = some (.ifCond .eq 16, 3, 0, 0, 0) := by decide +kernel
theorem l115_56 : (ax_dt (ax_T 115)).lookup 56 = some (.aload_n 0, 1, 0, 0, 0) := by decide +kernel
theorem l115_57 : (ax_dt (ax_T 115)).lookup 57 = some (.iload 4, 2, 0, 0, 0) := by decide +kernel
theorem l115_59 : (ax_dt (ax_T 115)).lookup 59 = some (.lload_n 1, 1, 0, 0, 0) := by decide +kernel
theorem l115_60 : (ax_dt (ax_T 115)).lookup 60 = some (.invokevirtual 296, 3, 128, 2, 0) := by decide +kernel
theorem l115_63 : (ax_dt (ax_T 115)).lookup 63 = some (.ifCond .eq 6, 3, 0, 0, 0) := by decide +kernel
theorem l115_66 : (ax_dt (ax_T 115)).lookup 66 = some (.iload 4, 2, 0, 0, 0) := by decide +kernel
theorem l115_68 : (ax_dt (ax_T 115)).lookup 68 = some (.istore_n 3, 1, 0, 0, 0) := by decide +kernel
theorem l115_69 : (ax_dt (ax_T 115)).lookup 69 = some (.iinc 4 1, 3, 0, 0, 0) := by decide +kernel
theorem l115_72 : (ax_dt (ax_T 115)).lookup 72 = some (.goto (-67), 3, 0, 0, 0) := by decide +kernel
theorem l115_75 : (ax_dt (ax_T 115)).lookup 75 = some (.iload_n 3, 1, 0, 0, 0) := by decide +kernel
theorem l115_76 : (ax_dt (ax_T 115)).lookup 76 = some (.ireturn, 1, 0, 0, 0) := by decide +kernel
noncomputable def F_X10_covers_49 (v1 : Int) (v3 : Int) (v4 : Int) (y0 : Int) (μ : bM) : Option ((Int × Int) ⊕ (Int)) := if y0 = 0 then bG (bR (v4 + 1)) (some (.inl (v3, (v4 + 1)))) else (F_X10_coversAddress v4 v1 μ).bind fun w3 => if w3 = 0 then bG (bR (v4 + 1)) (some (.inl (v3, (v4 + 1)))) else bG (bR (v4 + 1)) (some (.inl (v4, (v4 + 1))))
noncomputable def F_X10_covers_44 (v1 : Int) (v3 : Int) (v4 : Int) (μ : bM) : Option ((Int × Int) ⊕ (Int)) := F_X10_covers_49 v1 v3 v4 1 μ
noncomputable def F_X10_covers_5 (v1 : Int) (μ : bM) (v3 : Int) (v4 : Int) : Option ((Int × Int) ⊕ (Int)) := if (μ (μ 1 5).toNat 1) ≤ v4 then some (.inr (v3)) else if v3 = (-1) then F_X10_covers_44 v1 v3 v4 μ else bG (0 ≤ v4 ∧ v4 < 400) (bG (0 ≤ v3 ∧ v3 < 400) (if (μ ((μ 1 5).toNat + 5) v4.toNat) ≤ (μ ((μ 1 5).toNat + 5) v3.toNat) then F_X10_covers_49 v1 v3 v4 0 μ else F_X10_covers_44 v1 v3 v4 μ))
noncomputable def F_X10_covers (v1 : Int) (μ : bM) : Option (Int) := bLoop (fun z => F_X10_covers_5 v1 μ z.1 z.2) ((-1), 0)
theorem p_X10_covers_49 {L : Nat} {xs : Nat → Int32} {d : Nat} {μ : bM} {v1 : Int} {κ : ((Int × Int) ⊕ (Int)) → Option bX} (hr : ∀ r : Int, κ (.inr r) = (bPc μ) r) (H5 : ∀ (v3 : Int) (v4 : Int), bR v3 → bR v4 → bD L xs (d + 3) 115 5 [(0, .ref 1), (1, bLg v1), (3, bI v3), (4, bI v4)] [] μ (κ (.inl (v3, v4))))  (h1 : bRL v1) {v3 : Int} (h3 : bR v3) {v4 : Int} (h4 : bR v4) {y0 : Int} (hy0 : bR y0) : bD L xs (d + 3) 115 49 [(0, .ref 1), (1, bLg v1), (3, bI v3), (4, bI v4)] [bI y0] μ ((F_X10_covers_49 v1 v3 v4 y0 μ).bind κ) := by
  unfold F_X10_covers_49
  refine bD.ok fun hk => ?_
  refine b_w (pc' := 51) (lv1 := ax_st1 [(0, .ref 1), (1, bLg v1), (3, bI v3), (4, bI v4)] 5 (bI y0)) (lv' := [(0, .ref 1), (1, bLg v1), (3, bI v3), (4, bI v4), (5, bI y0)]) (st' := []) l115_49 (fun _ => rfl) (bSb rfl (bSb rfl (bSb rfl (bSb rfl (bSb rfl bSn))))) ?_
  refine b_s (pc' := 53) (lv1 := [(0, .ref 1), (1, bLg v1), (3, bI v3), (4, bI v4), (5, bI y0)]) (st' := [bI y0]) l115_51 (fun _ => rfl) ?_
  refine b_zeq (pt := 69) l115_53 hy0 (by decide) rfl (fun c1 => ?_) (fun c1 => b_pc (pc' := 56) rfl ?_)
  · refine b_inc (lv' := [(0, .ref 1), (1, bLg v1), (3, bI v3), (4, bI (v4 + 1))]) l115_69 rfl (by decide +kernel) (bSb rfl (bSb rfl (bSb rfl (bSb rfl bSn)))) fun g2 => (b_pc (pc' := 72) rfl ?_)
    refine b_s (pc' := 5) (lv1 := [(0, .ref 1), (1, bLg v1), (3, bI v3), (4, bI (v4 + 1))]) (st' := []) l115_72 (fun _ => rfl) ?_
    refine bD.wk (lv' := [(0, .ref 1), (1, bLg v1), (3, bI v3), (4, bI (v4 + 1))]) (bSb rfl (bSb rfl (bSb rfl (bSb rfl bSn)))) ?_
    exact H5 v3 (v4 + 1) h3 g2
  · refine b_s (pc' := 57) (lv1 := [(0, .ref 1), (1, bLg v1), (3, bI v3), (4, bI v4), (5, bI y0)]) (st' := [.ref 1]) l115_56 (fun _ => rfl) ?_
    refine b_s (pc' := 59) (lv1 := [(0, .ref 1), (1, bLg v1), (3, bI v3), (4, bI v4), (5, bI y0)]) (st' := [bI v4, .ref 1]) l115_57 (fun _ => rfl) ?_
    refine b_s (pc' := 60) (lv1 := [(0, .ref 1), (1, bLg v1), (3, bI v3), (4, bI v4), (5, bI y0)]) (st' := [bLg v1, bI v4, .ref 1]) l115_59 (fun _ => rfl) ?_
    refine b_cPz l115_60 rfl (b_rc (ci := 8) (by rfl) (by decide) (by decide +kernel)) (Nat.le_of_ble_eq_true rfl) (Nat.le_of_ble_eq_true rfl) rfl (r_X10_coversAddress v4 h4 v1 h1) fun w3 hw3 => b_pc (pc' := 63) rfl ?_
    refine b_zeq (pt := 69) l115_63 (bZ_R hw3) (by decide) rfl (fun c4 => ?_) (fun c4 => b_pc (pc' := 66) rfl ?_)
    · refine b_inc (lv' := [(0, .ref 1), (1, bLg v1), (3, bI v3), (4, bI (v4 + 1))]) l115_69 rfl (by decide +kernel) (bSb rfl (bSb rfl (bSb rfl (bSb rfl bSn)))) fun g5 => (b_pc (pc' := 72) rfl ?_)
      refine b_s (pc' := 5) (lv1 := [(0, .ref 1), (1, bLg v1), (3, bI v3), (4, bI (v4 + 1))]) (st' := []) l115_72 (fun _ => rfl) ?_
      refine bD.wk (lv' := [(0, .ref 1), (1, bLg v1), (3, bI v3), (4, bI (v4 + 1))]) (bSb rfl (bSb rfl (bSb rfl (bSb rfl bSn)))) ?_
      exact H5 v3 (v4 + 1) h3 g5
    · refine b_s (pc' := 68) (lv1 := [(0, .ref 1), (1, bLg v1), (3, bI v3), (4, bI v4), (5, bI y0)]) (st' := [bI v4]) l115_66 (fun _ => rfl) ?_
      refine b_w (pc' := 69) (lv1 := ax_st1 [(0, .ref 1), (1, bLg v1), (3, bI v3), (4, bI v4), (5, bI y0)] 3 (bI v4)) (lv' := [(0, .ref 1), (1, bLg v1), (3, bI v4), (4, bI v4)]) (st' := []) l115_68 (fun _ => rfl) (bSb rfl (bSb rfl (bSb rfl (bSb rfl bSn)))) ?_
      refine b_inc (lv' := [(0, .ref 1), (1, bLg v1), (3, bI v4), (4, bI (v4 + 1))]) l115_69 rfl (by decide +kernel) (bSb rfl (bSb rfl (bSb rfl (bSb rfl bSn)))) fun g6 => (b_pc (pc' := 72) rfl ?_)
      refine b_s (pc' := 5) (lv1 := [(0, .ref 1), (1, bLg v1), (3, bI v4), (4, bI (v4 + 1))]) (st' := []) l115_72 (fun _ => rfl) ?_
      refine bD.wk (lv' := [(0, .ref 1), (1, bLg v1), (3, bI v4), (4, bI (v4 + 1))]) (bSb rfl (bSb rfl (bSb rfl (bSb rfl bSn)))) ?_
      exact H5 v4 (v4 + 1) h4 g6
theorem p_X10_covers_44 {L : Nat} {xs : Nat → Int32} {d : Nat} {μ : bM} {v1 : Int} {κ : ((Int × Int) ⊕ (Int)) → Option bX} (hr : ∀ r : Int, κ (.inr r) = (bPc μ) r) (H5 : ∀ (v3 : Int) (v4 : Int), bR v3 → bR v4 → bD L xs (d + 3) 115 5 [(0, .ref 1), (1, bLg v1), (3, bI v3), (4, bI v4)] [] μ (κ (.inl (v3, v4))))  (h1 : bRL v1) {v3 : Int} (h3 : bR v3) {v4 : Int} (h4 : bR v4) : bD L xs (d + 3) 115 44 [(0, .ref 1), (1, bLg v1), (3, bI v3), (4, bI v4)] [] μ ((F_X10_covers_44 v1 v3 v4 μ).bind κ) := by
  unfold F_X10_covers_44
  refine bD.ok fun hk => ?_
  refine b_s (pc' := 45) (lv1 := [(0, .ref 1), (1, bLg v1), (3, bI v3), (4, bI v4)]) (st' := [bI 1]) l115_44 (fun _ => rfl) ?_
  refine b_s (pc' := 49) (lv1 := [(0, .ref 1), (1, bLg v1), (3, bI v3), (4, bI v4)]) (st' := [bI 1]) l115_45 (fun _ => rfl) ?_
  refine bD.wk (lv' := [(0, .ref 1), (1, bLg v1), (3, bI v3), (4, bI v4)]) (bSb rfl (bSb rfl (bSb rfl (bSb rfl bSn)))) ?_
  exact p_X10_covers_49 hr H5 h1 h3 h4 (by decide)
theorem q_X10_covers_5 {L : Nat} {xs : Nat → Int32} {d : Nat} {μ : bM} {v1 : Int} {κ : ((Int × Int) ⊕ (Int)) → Option bX} (hr : ∀ r : Int, κ (.inr r) = (bPc μ) r) (H5 : ∀ (v3 : Int) (v4 : Int), bR v3 → bR v4 → bD L xs (d + 3) 115 5 [(0, .ref 1), (1, bLg v1), (3, bI v3), (4, bI v4)] [] μ (κ (.inl (v3, v4))))  (h1 : bRL v1) {v3 : Int} (h3 : bR v3) {v4 : Int} (h4 : bR v4) : bD L xs (d + 3) 115 5 [(0, .ref 1), (1, bLg v1), (3, bI v3), (4, bI v4)] [] μ ((F_X10_covers_5 v1 μ v3 v4).bind κ) := by
  unfold F_X10_covers_5
  refine bD.ok fun hk => ?_
  refine b_s (pc' := 7) (lv1 := [(0, .ref 1), (1, bLg v1), (3, bI v3), (4, bI v4)]) (st' := [bI v4]) l115_5 (fun _ => rfl) ?_
  refine b_s (pc' := 8) (lv1 := [(0, .ref 1), (1, bLg v1), (3, bI v3), (4, bI v4)]) (st' := [.ref 1, bI v4]) l115_7 (fun _ => rfl) ?_
  refine b_gr l115_8 (by rfl) (by decide) (by decide) rfl (b_pc (pc' := 11) rfl ?_)
  refine b_gi l115_11 (bO_ft hk (ci := 8) (by rfl) rfl) (by decide) (by decide) rfl (b_pc (pc' := 14) rfl ?_)
  refine b_ige (pt := 75) l115_14 h4 (bO_f hk (ci := 7) (bO_ft hk (ci := 8) (by rfl) rfl) rfl) (by decide) rfl (fun c1 => ?_) (fun c1 => b_pc (pc' := 17) rfl ?_)
  · refine b_s (pc' := 76) (lv1 := [(0, .ref 1), (1, bLg v1), (3, bI v3), (4, bI v4)]) (st' := [bI v3]) l115_75 (fun _ => rfl) ?_
    exact b_reti l115_76 rfl h3 (hr _)
  · refine b_s (pc' := 18) (lv1 := [(0, .ref 1), (1, bLg v1), (3, bI v3), (4, bI v4)]) (st' := [bI v3]) l115_17 (fun _ => rfl) ?_
    refine b_s (pc' := 19) (lv1 := [(0, .ref 1), (1, bLg v1), (3, bI v3), (4, bI v4)]) (st' := [bI (-1), bI v3]) l115_18 (fun _ => rfl) ?_
    refine b_ieq (pt := 44) l115_19 h3 (by decide) (by decide) rfl (fun c2 => ?_) (fun c2 => b_pc (pc' := 22) rfl ?_)
    · refine bD.wk (lv' := [(0, .ref 1), (1, bLg v1), (3, bI v3), (4, bI v4)]) (bSb rfl (bSb rfl (bSb rfl (bSb rfl bSn)))) ?_
      exact p_X10_covers_44 hr H5 h1 h3 h4
    · refine b_s (pc' := 23) (lv1 := [(0, .ref 1), (1, bLg v1), (3, bI v3), (4, bI v4)]) (st' := [.ref 1]) l115_22 (fun _ => rfl) ?_
      refine b_gr l115_23 (by rfl) (by decide) (by decide) rfl (b_pc (pc' := 26) rfl ?_)
      refine b_gp (q' := ((μ 1 5).toNat + 5)) (j := 5) l115_26 (bO_ft hk (ci := 8) (by rfl) rfl) (by decide) (by decide) rfl hk rfl rfl (b_pc (pc' := 29) rfl ?_)
      refine b_s (pc' := 31) (lv1 := [(0, .ref 1), (1, bLg v1), (3, bI v3), (4, bI v4)]) (st' := [bI v4, .ref ((μ 1 5).toNat + 5)]) l115_29 (fun _ => rfl) ?_
      refine b_g fun g5 => ?_
      refine b_ial l115_31 (bTree_e (bO_ft hk (ci := 8) (by rfl) rfl) 5 (by decide)) g5 (b_pc (pc' := 32) rfl ?_)
      refine b_s (pc' := 33) (lv1 := [(0, .ref 1), (1, bLg v1), (3, bI v3), (4, bI v4)]) (st' := [.ref 1, bI (μ ((μ 1 5).toNat + 5) v4.toNat)]) l115_32 (fun _ => rfl) ?_
      refine b_gr l115_33 (by rfl) (by decide) (by decide) rfl (b_pc (pc' := 36) rfl ?_)
      refine b_gp (q' := ((μ 1 5).toNat + 5)) (j := 5) l115_36 (bO_ft hk (ci := 8) (by rfl) rfl) (by decide) (by decide) rfl hk rfl rfl (b_pc (pc' := 39) rfl ?_)
      refine b_s (pc' := 40) (lv1 := [(0, .ref 1), (1, bLg v1), (3, bI v3), (4, bI v4)]) (st' := [bI v3, .ref ((μ 1 5).toNat + 5), bI (μ ((μ 1 5).toNat + 5) v4.toNat)]) l115_39 (fun _ => rfl) ?_
      refine b_g fun g4 => ?_
      refine b_ial l115_40 (bTree_e (bO_ft hk (ci := 8) (by rfl) rfl) 5 (by decide)) g4 (b_pc (pc' := 41) rfl ?_)
      refine b_ile (pt := 48) l115_41 (bO_i hk (bTree_e (bO_ft hk (ci := 8) (by rfl) rfl) 5 (by decide))) (bO_i hk (bTree_e (bO_ft hk (ci := 8) (by rfl) rfl) 5 (by decide))) (by decide) rfl (fun c3 => ?_) (fun c3 => b_pc (pc' := 44) rfl ?_)
      · refine b_s (pc' := 49) (lv1 := [(0, .ref 1), (1, bLg v1), (3, bI v3), (4, bI v4)]) (st' := [bI 0]) l115_48 (fun _ => rfl) ?_
        refine bD.wk (lv' := [(0, .ref 1), (1, bLg v1), (3, bI v3), (4, bI v4)]) (bSb rfl (bSb rfl (bSb rfl (bSb rfl bSn)))) ?_
        exact p_X10_covers_49 hr H5 h1 h3 h4 (by decide)
      · refine bD.wk (lv' := [(0, .ref 1), (1, bLg v1), (3, bI v3), (4, bI v4)]) (bSb rfl (bSb rfl (bSb rfl (bSb rfl bSn)))) ?_
        exact p_X10_covers_44 hr H5 h1 h3 h4
theorem p_X10_covers_5 {L : Nat} {xs : Nat → Int32} {d : Nat} {μ : bM}  {κ : (Int) → Option bX} (hr : ∀ r : Int, κ r = (bPc μ) r)  {v1 : Int} (h1 : bRL v1) {v3 : Int} (h3 : bR v3) {v4 : Int} (h4 : bR v4) : bD L xs (d + 3) 115 5 [(0, .ref 1), (1, bLg v1), (3, bI v3), (4, bI v4)] [] μ ((bLoop (fun z => F_X10_covers_5 v1 μ z.1 z.2) (v3, v4)).bind κ) :=
  b_loop (fun z => [(0, .ref 1), (1, bLg v1), (3, bI z.1), (4, bI z.2)]) (fun z => μ) (fun z => bR z.1 ∧ bR z.2) (fun κ' hκ HH z hz => q_X10_covers_5 (κ := κ') (fun r => (hκ _).trans (hr r)) (fun a3 a4 b3 b4 => HH (a3, a4) ⟨b3, b4⟩)  h1 hz.1 hz.2) (v3, v4) ⟨h3, h4⟩
theorem r_X10_covers {L : Nat} {xs : Nat → Int32} {d : Nat} {μ : bM}  (v1 : Int) (h1 : bRL v1) : bD L xs (d + 3) 115 0 [(0, .ref 1), (1, bLg v1)] [] μ ((F_X10_covers v1 μ).bind (bPc μ)) := by
  have hr : ∀ r, (bPc μ) r = (bPc μ) r := fun _ => rfl
  unfold F_X10_covers
  refine bD.ok fun hk => ?_
  refine b_s (pc' := 1) (lv1 := [(0, .ref 1), (1, bLg v1)]) (st' := [bI (-1)]) l115_0 (fun _ => rfl) ?_
  refine b_w (pc' := 2) (lv1 := ax_st1 [(0, .ref 1), (1, bLg v1)] 3 (bI (-1))) (lv' := [(0, .ref 1), (1, bLg v1), (3, bI (-1))]) (st' := []) l115_1 (fun _ => rfl) (bSb rfl (bSb rfl (bSb rfl bSn))) ?_
  refine b_s (pc' := 3) (lv1 := [(0, .ref 1), (1, bLg v1), (3, bI (-1))]) (st' := [bI 0]) l115_2 (fun _ => rfl) ?_
  refine b_w (pc' := 5) (lv1 := ax_st1 [(0, .ref 1), (1, bLg v1), (3, bI (-1))] 4 (bI 0)) (lv' := [(0, .ref 1), (1, bLg v1), (3, bI (-1)), (4, bI 0)]) (st' := []) l115_3 (fun _ => rfl) (bSb rfl (bSb rfl (bSb rfl (bSb rfl bSn)))) ?_
  refine bD.wk (lv' := [(0, .ref 1), (1, bLg v1), (3, bI (-1)), (4, bI 0)]) (bSb rfl (bSb rfl (bSb rfl (bSb rfl bSn)))) ?_
  exact p_X10_covers_5 hr h1 (by decide) (by decide)
end
