section
/-! ET.feed -/
theorem l93_0 : (ax_dt (ax_T 93)).lookup 0 = some (.aload_n 0, 1, 0, 0, 0) := by decide +kernel
theorem l93_1 : (ax_dt (ax_T 93)).lookup 1 = some (.getfield 14, 3, 8, 0, 0) := by decide +kernel
theorem l93_4 : (ax_dt (ax_T 93)).lookup 4 = some (.invokevirtual 49, 3, 55, 0, 0) := by decide +kernel
theorem l93_7 : (ax_dt (ax_T 93)).lookup 7 = some (.bipush 20, 2, 0, 0, 0) := by decide +kernel
theorem l93_9 : (ax_dt (ax_T 93)).lookup 9 = some (.if_icmp .ge 13, 3, 0, 0, 0) := by decide +kernel
theorem l93_22 : (ax_dt (ax_T 93)).lookup 22 = some (.aload_n 0, 1, 0, 0, 0) := by decide +kernel
theorem l93_23 : (ax_dt (ax_T 93)).lookup 23 = some (.getfield 14, 3, 8, 0, 0) := by decide +kernel
theorem l93_26 : (ax_dt (ax_T 93)).lookup 26 = some (.iload_n 1, 1, 0, 0, 0) := by decide +kernel
theorem l93_27 : (ax_dt (ax_T 93)).lookup 27 = some (.invokevirtual 60, 3, 60, 1, 0) := by decide +kernel
theorem l93_30 : (ax_dt (ax_T 93)).lookup 30 = some (.aload_n 0, 1, 0, 0, 0) := by decide +kernel
theorem l93_31 : (ax_dt (ax_T 93)).lookup 31 = some (.getfield 14, 3, 8, 0, 0) := by decide +kernel
theorem l93_34 : (ax_dt (ax_T 93)).lookup 34 = some (.iload_n 2, 1, 0, 0, 0) := by decide +kernel
theorem l93_35 : (ax_dt (ax_T 93)).lookup 35 = some (.invokevirtual 60, 3, 60, 1, 0) := by decide +kernel
theorem l93_38 : (ax_dt (ax_T 93)).lookup 38 = some (.aload_n 0, 1, 0, 0, 0) := by decide +kernel
theorem l93_39 : (ax_dt (ax_T 93)).lookup 39 = some (.getfield 14, 3, 8, 0, 0) := by decide +kernel
theorem l93_42 : (ax_dt (ax_T 93)).lookup 42 = some (.iload_n 3, 1, 0, 0, 0) := by decide +kernel
theorem l93_43 : (ax_dt (ax_T 93)).lookup 43 = some (.invokevirtual 60, 3, 60, 1, 0) := by decide +kernel
theorem l93_46 : (ax_dt (ax_T 93)).lookup 46 = some (.aload_n 0, 1, 0, 0, 0) := by decide +kernel
theorem l93_47 : (ax_dt (ax_T 93)).lookup 47 = some (.getfield 14, 3, 8, 0, 0) := by decide +kernel
theorem l93_50 : (ax_dt (ax_T 93)).lookup 50 = some (.iload 4, 2, 0, 0, 0) := by decide +kernel
theorem l93_52 : (ax_dt (ax_T 93)).lookup 52 = some (.invokevirtual 60, 3, 60, 1, 0) := by decide +kernel
theorem l93_55 : (ax_dt (ax_T 93)).lookup 55 = some (.aload_n 0, 1, 0, 0, 0) := by decide +kernel
theorem l93_56 : (ax_dt (ax_T 93)).lookup 56 = some (.getfield 14, 3, 8, 0, 0) := by decide +kernel
theorem l93_59 : (ax_dt (ax_T 93)).lookup 59 = some (.iload 5, 2, 0, 0, 0) := by decide +kernel
theorem l93_61 : (ax_dt (ax_T 93)).lookup 61 = some (.invokevirtual 60, 3, 60, 1, 0) := by decide +kernel
theorem l93_64 : (ax_dt (ax_T 93)).lookup 64 = some (.aload_n 0, 1, 0, 0, 0) := by decide +kernel
theorem l93_65 : (ax_dt (ax_T 93)).lookup 65 = some (.getfield 14, 3, 8, 0, 0) := by decide +kernel
theorem l93_68 : (ax_dt (ax_T 93)).lookup 68 = some (.invokevirtual 63, 3, 53, 0, 0) := by decide +kernel
theorem l93_71 : (ax_dt (ax_T 93)).lookup 71 = some (.ireturn, 1, 0, 0, 0) := by decide +kernel
theorem x93_12 : (ax_dx (ax_T 93)).lookup 12 = some ("java/lang/IllegalStateException", "the tape is full", 53, 55, 57, false) := by decide +kernel
noncomputable def F_X10_feed (v1 : Int) (v2 : Int) (v3 : Int) (v4 : Int) (v5 : Int) (μ : bM) : Option ((Int ⊕ String) × bM) := (F_X6_room 2 μ).bind fun w1 => if 20 ≤ w1 then bMm (F_X6_addHighFirst 2 v1 μ) (fun w3 μ4 => bMm (F_X6_addHighFirst 2 v2 μ4) (fun w6 μ7 => bMm (F_X6_addHighFirst 2 v3 μ7) (fun w9 μ10 => bMm (F_X6_addHighFirst 2 v4 μ10) (fun w12 μ13 => bMm (F_X6_addHighFirst 2 v5 μ13) (fun w15 μ16 => (F_X6_used 2 μ16).bind fun w18 => some (.inl w18, μ16)))))) else some (.inr "java/lang/IllegalStateException", μ)
theorem r_X10_feed {L : Nat} {xs : Nat → Int32} {d : Nat} {μ : bM}  (v1 : Int) (h1 : bR v1) (v2 : Int) (h2 : bR v2) (v3 : Int) (h3 : bR v3) (v4 : Int) (h4 : bR v4) (v5 : Int) (h5 : bR v5) : bD L xs (d + 2) 93 0 [(0, .ref 1), (1, bI v1), (2, bI v2), (3, bI v3), (4, bI v4), (5, bI v5)] [] μ ((F_X10_feed v1 v2 v3 v4 v5 μ).bind (bXc)) := by
  have hr : ∀ r, (bXc) r = (bXc) r := fun _ => rfl
  unfold F_X10_feed
  refine bD.ok fun hk => ?_
  refine b_s (pc' := 1) (lv1 := [(0, .ref 1), (1, bI v1), (2, bI v2), (3, bI v3), (4, bI v4), (5, bI v5)]) (st' := [.ref 1]) l93_0 (fun _ => rfl) ?_
  refine b_gp (q' := 2) (j := 1) l93_1 (by rfl) (by decide) (by decide) rfl hk rfl rfl (b_pc (pc' := 4) rfl ?_)
  refine b_cPi l93_4 rfl (b_rc (ci := 5) (by rfl) (by decide) (by decide +kernel)) (Nat.le_of_ble_eq_true rfl) (Nat.le_of_ble_eq_true rfl) rfl (r_X6_room 2 (by rfl)) fun w1 hw1 => b_pc (pc' := 7) rfl ?_
  refine b_bipush l93_7 (by decide) (b_pc (pc' := 9) rfl ?_)
  refine b_ige (pt := 22) l93_9 hw1 (by decide) (by decide) rfl (fun c2 => ?_) (fun c2 => b_pc (pc' := 12) rfl ?_)
  · refine b_s (pc' := 23) (lv1 := [(0, .ref 1), (1, bI v1), (2, bI v2), (3, bI v3), (4, bI v4), (5, bI v5)]) (st' := [.ref 1]) l93_22 (fun _ => rfl) ?_
    refine b_gp (q' := 2) (j := 1) l93_23 (by rfl) (by decide) (by decide) rfl hk rfl rfl (b_pc (pc' := 26) rfl ?_)
    refine b_s (pc' := 27) (lv1 := [(0, .ref 1), (1, bI v1), (2, bI v2), (3, bI v3), (4, bI v4), (5, bI v5)]) (st' := [bI v1, .ref 2]) l93_26 (fun _ => rfl) ?_
    refine b_cMv l93_27 rfl (b_rc (ci := 5) (by rfl) (by decide) (by decide +kernel)) (Nat.le_of_ble_eq_true rfl) (Nat.le_of_ble_eq_true rfl) rfl (r_X6_addHighFirst 2 (by rfl) v1 h1) fun w3 μ4 hw3 => bD.ok fun hk5 => b_pc (pc' := 30) rfl ?_
    refine b_s (pc' := 31) (lv1 := [(0, .ref 1), (1, bI v1), (2, bI v2), (3, bI v3), (4, bI v4), (5, bI v5)]) (st' := [.ref 1]) l93_30 (fun _ => rfl) ?_
    refine b_gp (q' := 2) (j := 1) l93_31 (by rfl) (by decide) (by decide) rfl hk5 rfl rfl (b_pc (pc' := 34) rfl ?_)
    refine b_s (pc' := 35) (lv1 := [(0, .ref 1), (1, bI v1), (2, bI v2), (3, bI v3), (4, bI v4), (5, bI v5)]) (st' := [bI v2, .ref 2]) l93_34 (fun _ => rfl) ?_
    refine b_cMv l93_35 rfl (b_rc (ci := 5) (by rfl) (by decide) (by decide +kernel)) (Nat.le_of_ble_eq_true rfl) (Nat.le_of_ble_eq_true rfl) rfl (r_X6_addHighFirst 2 (by rfl) v2 h2) fun w6 μ7 hw6 => bD.ok fun hk8 => b_pc (pc' := 38) rfl ?_
    refine b_s (pc' := 39) (lv1 := [(0, .ref 1), (1, bI v1), (2, bI v2), (3, bI v3), (4, bI v4), (5, bI v5)]) (st' := [.ref 1]) l93_38 (fun _ => rfl) ?_
    refine b_gp (q' := 2) (j := 1) l93_39 (by rfl) (by decide) (by decide) rfl hk8 rfl rfl (b_pc (pc' := 42) rfl ?_)
    refine b_s (pc' := 43) (lv1 := [(0, .ref 1), (1, bI v1), (2, bI v2), (3, bI v3), (4, bI v4), (5, bI v5)]) (st' := [bI v3, .ref 2]) l93_42 (fun _ => rfl) ?_
    refine b_cMv l93_43 rfl (b_rc (ci := 5) (by rfl) (by decide) (by decide +kernel)) (Nat.le_of_ble_eq_true rfl) (Nat.le_of_ble_eq_true rfl) rfl (r_X6_addHighFirst 2 (by rfl) v3 h3) fun w9 μ10 hw9 => bD.ok fun hk11 => b_pc (pc' := 46) rfl ?_
    refine b_s (pc' := 47) (lv1 := [(0, .ref 1), (1, bI v1), (2, bI v2), (3, bI v3), (4, bI v4), (5, bI v5)]) (st' := [.ref 1]) l93_46 (fun _ => rfl) ?_
    refine b_gp (q' := 2) (j := 1) l93_47 (by rfl) (by decide) (by decide) rfl hk11 rfl rfl (b_pc (pc' := 50) rfl ?_)
    refine b_s (pc' := 52) (lv1 := [(0, .ref 1), (1, bI v1), (2, bI v2), (3, bI v3), (4, bI v4), (5, bI v5)]) (st' := [bI v4, .ref 2]) l93_50 (fun _ => rfl) ?_
    refine b_cMv l93_52 rfl (b_rc (ci := 5) (by rfl) (by decide) (by decide +kernel)) (Nat.le_of_ble_eq_true rfl) (Nat.le_of_ble_eq_true rfl) rfl (r_X6_addHighFirst 2 (by rfl) v4 h4) fun w12 μ13 hw12 => bD.ok fun hk14 => b_pc (pc' := 55) rfl ?_
    refine b_s (pc' := 56) (lv1 := [(0, .ref 1), (1, bI v1), (2, bI v2), (3, bI v3), (4, bI v4), (5, bI v5)]) (st' := [.ref 1]) l93_55 (fun _ => rfl) ?_
    refine b_gp (q' := 2) (j := 1) l93_56 (by rfl) (by decide) (by decide) rfl hk14 rfl rfl (b_pc (pc' := 59) rfl ?_)
    refine b_s (pc' := 61) (lv1 := [(0, .ref 1), (1, bI v1), (2, bI v2), (3, bI v3), (4, bI v4), (5, bI v5)]) (st' := [bI v5, .ref 2]) l93_59 (fun _ => rfl) ?_
    refine b_cMv l93_61 rfl (b_rc (ci := 5) (by rfl) (by decide) (by decide +kernel)) (Nat.le_of_ble_eq_true rfl) (Nat.le_of_ble_eq_true rfl) rfl (r_X6_addHighFirst 2 (by rfl) v5 h5) fun w15 μ16 hw15 => bD.ok fun hk17 => b_pc (pc' := 64) rfl ?_
    refine b_s (pc' := 65) (lv1 := [(0, .ref 1), (1, bI v1), (2, bI v2), (3, bI v3), (4, bI v4), (5, bI v5)]) (st' := [.ref 1]) l93_64 (fun _ => rfl) ?_
    refine b_gp (q' := 2) (j := 1) l93_65 (by rfl) (by decide) (by decide) rfl hk17 rfl rfl (b_pc (pc' := 68) rfl ?_)
    refine b_cPi l93_68 rfl (b_rc (ci := 5) (by rfl) (by decide) (by decide +kernel)) (Nat.le_of_ble_eq_true rfl) (Nat.le_of_ble_eq_true rfl) rfl (r_X6_used 2 (by rfl)) fun w18 hw18 => b_pc (pc' := 71) rfl ?_
    exact b_reti l93_71 rfl hw18 (hr _)
  · exact b_thr x93_12 (by decide) (Nat.le_of_ble_eq_true rfl) (hr _)
/-! ET.end -/
theorem l94_0 : (ax_dt (ax_T 94)).lookup 0 = some (.iload_n 1, 1, 0, 0, 0) := by decide +kernel
theorem l94_1 : (ax_dt (ax_T 94)).lookup 1 = some (.ifCond .lt 14, 3, 0, 0, 0) := by decide +kernel
theorem l94_4 : (ax_dt (ax_T 94)).lookup 4 = some (.iload_n 1, 1, 0, 0, 0) := by decide +kernel
theorem l94_5 : (ax_dt (ax_T 94)).lookup 5 = some (.aload_n 0, 1, 0, 0, 0) := by decide +kernel
theorem l94_6 : (ax_dt (ax_T 94)).lookup 6 = some (.getfield 14, 3, 8, 0, 0) := by decide +kernel
theorem l94_9 : (ax_dt (ax_T 94)).lookup 9 = some (.invokevirtual 63, 3, 53, 0, 0) := by decide +kernel
theorem l94_12 : (ax_dt (ax_T 94)).lookup 12 = some (.if_icmp .le 13, 3, 0, 0, 0) := by decide +kernel
theorem l94_25 : (ax_dt (ax_T 94)).lookup 25 = some (.aload_n 0, 1, 0, 0, 0) := by decide +kernel
theorem l94_26 : (ax_dt (ax_T 94)).lookup 26 = some (.getfield 14, 3, 8, 0, 0) := by decide +kernel
theorem l94_29 : (ax_dt (ax_T 94)).lookup 29 = some (.iload_n 1, 1, 0, 0, 0) := by decide +kernel
theorem l94_30 : (ax_dt (ax_T 94)).lookup 30 = some (.invokevirtual 71, 3, 58, 1, 0) := by decide +kernel
theorem l94_33 : (ax_dt (ax_T 94)).lookup 33 = some (.return_, 1, 0, 0, 0) := by decide +kernel
theorem x94_15 : (ax_dx (ax_T 94)).lookup 15 = some ("java/lang/IllegalArgumentException", "the tape has no such end", 66, 68, 70, false) := by decide +kernel
noncomputable def F_X10_end (v1 : Int) (μ : bM) : Option ((Int ⊕ String) × bM) := if v1 < 0 then some (.inr "java/lang/IllegalArgumentException", μ) else (F_X6_used 2 μ).bind fun w2 => if v1 ≤ w2 then bMm (F_X6_cut 2 v1 μ) (fun w4 μ5 => some (.inl 0, μ5)) else some (.inr "java/lang/IllegalArgumentException", μ)
theorem r_X10_end {L : Nat} {xs : Nat → Int32} {d : Nat} {μ : bM}  (v1 : Int) (h1 : bR v1) : bD L xs (d + 1) 94 0 [(0, .ref 1), (1, bI v1)] [] μ ((F_X10_end v1 μ).bind (bXc)) := by
  have hr : ∀ r, (bXc) r = (bXc) r := fun _ => rfl
  unfold F_X10_end
  refine bD.ok fun hk => ?_
  refine b_s (pc' := 1) (lv1 := [(0, .ref 1), (1, bI v1)]) (st' := [bI v1]) l94_0 (fun _ => rfl) ?_
  refine b_zlt (pt := 15) l94_1 h1 (by decide) rfl (fun c1 => ?_) (fun c1 => b_pc (pc' := 4) rfl ?_)
  · exact b_thr x94_15 (by decide) (Nat.le_of_ble_eq_true rfl) (hr _)
  · refine b_s (pc' := 5) (lv1 := [(0, .ref 1), (1, bI v1)]) (st' := [bI v1]) l94_4 (fun _ => rfl) ?_
    refine b_s (pc' := 6) (lv1 := [(0, .ref 1), (1, bI v1)]) (st' := [.ref 1, bI v1]) l94_5 (fun _ => rfl) ?_
    refine b_gp (q' := 2) (j := 1) l94_6 (by rfl) (by decide) (by decide) rfl hk rfl rfl (b_pc (pc' := 9) rfl ?_)
    refine b_cPi l94_9 rfl (b_rc (ci := 5) (by rfl) (by decide) (by decide +kernel)) (Nat.le_of_ble_eq_true rfl) (Nat.le_of_ble_eq_true rfl) rfl (r_X6_used 2 (by rfl)) fun w2 hw2 => b_pc (pc' := 12) rfl ?_
    refine b_ile (pt := 25) l94_12 h1 hw2 (by decide) rfl (fun c3 => ?_) (fun c3 => b_pc (pc' := 15) rfl ?_)
    · refine b_s (pc' := 26) (lv1 := [(0, .ref 1), (1, bI v1)]) (st' := [.ref 1]) l94_25 (fun _ => rfl) ?_
      refine b_gp (q' := 2) (j := 1) l94_26 (by rfl) (by decide) (by decide) rfl hk rfl rfl (b_pc (pc' := 29) rfl ?_)
      refine b_s (pc' := 30) (lv1 := [(0, .ref 1), (1, bI v1)]) (st' := [bI v1, .ref 2]) l94_29 (fun _ => rfl) ?_
      refine b_cMv l94_30 rfl (b_rc (ci := 5) (by rfl) (by decide) (by decide +kernel)) (Nat.le_of_ble_eq_true rfl) (Nat.le_of_ble_eq_true rfl) rfl (r_X6_cut 2 (by rfl) v1 h1) fun w4 μ5 hw4 => bD.ok fun hk6 => b_pc (pc' := 33) rfl ?_
      exact b_retv l94_33 rfl (hr _)
    · exact b_thr x94_15 (by decide) (Nat.le_of_ble_eq_true rfl) (hr _)
/-! ET.needCode -/
theorem l118_0 : (ax_dt (ax_T 118)).lookup 0 = some (.iload_n 1, 1, 0, 0, 0) := by decide +kernel
theorem l118_1 : (ax_dt (ax_T 118)).lookup 1 = some (.invokestatic 301, 3, 131, 1, 0) := by decide +kernel
theorem l118_4 : (ax_dt (ax_T 118)).lookup 4 = some (.ifCond .ne 14, 3, 0, 0, 0) := by decide +kernel
theorem l118_18 : (ax_dt (ax_T 118)).lookup 18 = some (.return_, 1, 0, 0, 0) := by decide +kernel
theorem x118_7 : (ax_dx (ax_T 118)).lookup 7 = some ("java/lang/IllegalArgumentException", "no tag or name", 66, 304, 70, true) := by decide +kernel
noncomputable def F_X10_needCode (v1 : Int) (μ : bM) : Option ((Int ⊕ String) × bM) := (F_X10_isCode v1 μ).bind fun w1 => if ¬ w1 = 0 then some (.inl 0, μ) else some (.inr "java/lang/IllegalArgumentException", μ)
theorem r_X10_needCode {L : Nat} {xs : Nat → Int32} {d : Nat} {μ : bM}  (v1 : Int) (h1 : bR v1) : bD L xs (d + 1) 118 0 [(0, .ref 1), (1, bI v1)] [] μ ((F_X10_needCode v1 μ).bind (bXc)) := by
  have hr : ∀ r, (bXc) r = (bXc) r := fun _ => rfl
  unfold F_X10_needCode
  refine bD.ok fun hk => ?_
  refine b_s (pc' := 1) (lv1 := [(0, .ref 1), (1, bI v1)]) (st' := [bI v1]) l118_0 (fun _ => rfl) ?_
  refine b_cPz l118_1 rfl (fun _ => trivial) (Nat.le_of_ble_eq_true rfl) (Nat.le_of_ble_eq_true rfl) rfl (r_X10_isCode v1 h1) fun w1 hw1 => b_pc (pc' := 4) rfl ?_
  refine b_zne (pt := 18) l118_4 (bZ_R hw1) (by decide) rfl (fun c2 => ?_) (fun c2 => b_pc (pc' := 7) rfl ?_)
  · exact b_retv l118_18 rfl (hr _)
  · exact b_thr x118_7 (by decide) (Nat.le_of_ble_eq_true rfl) (hr _)
/-! ET.unit -/
theorem l95_0 : (ax_dt (ax_T 95)).lookup 0 = some (.aload_n 0, 1, 0, 0, 0) := by decide +kernel
theorem l95_1 : (ax_dt (ax_T 95)).lookup 1 = some (.iload_n 1, 1, 0, 0, 0) := by decide +kernel
theorem l95_2 : (ax_dt (ax_T 95)).lookup 2 = some (.invokevirtual 74, 3, 118, 1, 0) := by decide +kernel
theorem l95_5 : (ax_dt (ax_T 95)).lookup 5 = some (.aload_n 0, 1, 0, 0, 0) := by decide +kernel
theorem l95_6 : (ax_dt (ax_T 95)).lookup 6 = some (.getfield 45, 3, 8, 5, 0) := by decide +kernel
theorem l95_9 : (ax_dt (ax_T 95)).lookup 9 = some (.getfield 77, 3, 7, 0, 0) := by decide +kernel
theorem l95_12 : (ax_dt (ax_T 95)).lookup 12 = some (.bipush 6, 2, 0, 0, 0) := by decide +kernel
theorem l95_14 : (ax_dt (ax_T 95)).lookup 14 = some (.if_icmp .eq 16, 3, 0, 0, 0) := by decide +kernel
theorem l95_17 : (ax_dt (ax_T 95)).lookup 17 = some (.aload_n 0, 1, 0, 0, 0) := by decide +kernel
theorem l95_18 : (ax_dt (ax_T 95)).lookup 18 = some (.getfield 45, 3, 8, 5, 0) := by decide +kernel
theorem l95_21 : (ax_dt (ax_T 95)).lookup 21 = some (.getfield 81, 3, 7, 1, 0) := by decide +kernel
theorem l95_24 : (ax_dt (ax_T 95)).lookup 24 = some (.sipush 400, 3, 0, 0, 0) := by decide +kernel
theorem l95_27 : (ax_dt (ax_T 95)).lookup 27 = some (.if_icmp .ne 13, 3, 0, 0, 0) := by decide +kernel
theorem l95_40 : (ax_dt (ax_T 95)).lookup 40 = some (.aload_n 0, 1, 0, 0, 0) := by decide +kernel
theorem l95_41 : (ax_dt (ax_T 95)).lookup 41 = some (.getfield 31, 3, 8, 3, 0) := by decide +kernel
theorem l95_44 : (ax_dt (ax_T 95)).lookup 44 = some (.invokevirtual 89, 3, 23, 0, 0) := by decide +kernel
theorem l95_47 : (ax_dt (ax_T 95)).lookup 47 = some (.aload_n 0, 1, 0, 0, 0) := by decide +kernel
theorem l95_48 : (ax_dt (ax_T 95)).lookup 48 = some (.getfield 45, 3, 8, 5, 0) := by decide +kernel
theorem l95_51 : (ax_dt (ax_T 95)).lookup 51 = some (.iload_n 1, 1, 0, 0, 0) := by decide +kernel
theorem l95_52 : (ax_dt (ax_T 95)).lookup 52 = some (.invokevirtual 92, 3, 80, 1, 0) := by decide +kernel
theorem l95_55 : (ax_dt (ax_T 95)).lookup 55 = some (.ireturn, 1, 0, 0, 0) := by decide +kernel
theorem x95_30 : (ax_dx (ax_T 95)).lookup 30 = some ("java/lang/UnsupportedOperationException", "no room for a unit", 84, 86, 88, false) := by decide +kernel
noncomputable def F_X10_unit (v1 : Int) (μ : bM) : Option ((Int ⊕ String) × bM) := bXm (F_X10_needCode v1 μ) (fun w1 μ2 => if (μ2 (μ2 1 5).toNat 0) = 6 then some (.inr "java/lang/UnsupportedOperationException", μ2) else if ¬ (μ2 (μ2 1 5).toNat 1) = 400 then bMm (F_X3_forget μ2) (fun w6 μ7 => bMm (F_X8_addRoot (μ7 1 5).toNat v1 μ7) (fun w9 μ10 => some (.inl w9, μ10))) else some (.inr "java/lang/UnsupportedOperationException", μ2)) (fun e μ => some (.inr e, μ))
theorem r_X10_unit {L : Nat} {xs : Nat → Int32} {d : Nat} {μ : bM}  (v1 : Int) (h1 : bR v1) : bD L xs (d + 2) 95 0 [(0, .ref 1), (1, bI v1)] [] μ ((F_X10_unit v1 μ).bind (bXc)) := by
  have hr : ∀ r, (bXc) r = (bXc) r := fun _ => rfl
  unfold F_X10_unit
  refine bD.ok fun hk => ?_
  refine b_s (pc' := 1) (lv1 := [(0, .ref 1), (1, bI v1)]) (st' := [.ref 1]) l95_0 (fun _ => rfl) ?_
  refine b_s (pc' := 2) (lv1 := [(0, .ref 1), (1, bI v1)]) (st' := [bI v1, .ref 1]) l95_1 (fun _ => rfl) ?_
  refine b_cXv l95_2 rfl (b_rc (ci := 8) (by rfl) (by decide) (by decide +kernel)) (Nat.le_of_ble_eq_true rfl) (Nat.le_of_ble_eq_true rfl) rfl (r_X10_needCode v1 h1) ⟨fun _ z => (by cases z), (by decide +kernel)⟩ rfl (fun _ _ => hr _) fun w1 μ2 hw1 => bD.ok fun hk3 => b_pc (pc' := 5) rfl ?_
  refine b_s (pc' := 6) (lv1 := [(0, .ref 1), (1, bI v1)]) (st' := [.ref 1]) l95_5 (fun _ => rfl) ?_
  refine b_gr l95_6 (by rfl) (by decide) (by decide) rfl (b_pc (pc' := 9) rfl ?_)
  refine b_gi l95_9 (bO_ft hk3 (ci := 8) (by rfl) rfl) (by decide) (by decide) rfl (b_pc (pc' := 12) rfl ?_)
  refine b_bipush l95_12 (by decide) (b_pc (pc' := 14) rfl ?_)
  refine b_ieq (pt := 30) l95_14 (bO_f hk3 (ci := 7) (bO_ft hk3 (ci := 8) (by rfl) rfl) rfl) (by decide) (by decide) rfl (fun c4 => ?_) (fun c4 => b_pc (pc' := 17) rfl ?_)
  · exact b_thr x95_30 (by decide) (Nat.le_of_ble_eq_true rfl) (hr _)
  · refine b_s (pc' := 18) (lv1 := [(0, .ref 1), (1, bI v1)]) (st' := [.ref 1]) l95_17 (fun _ => rfl) ?_
    refine b_gr l95_18 (by rfl) (by decide) (by decide) rfl (b_pc (pc' := 21) rfl ?_)
    refine b_gi l95_21 (bO_ft hk3 (ci := 8) (by rfl) rfl) (by decide) (by decide) rfl (b_pc (pc' := 24) rfl ?_)
    refine b_sipush l95_24 (by decide) (b_pc (pc' := 27) rfl ?_)
    refine b_ine (pt := 40) l95_27 (bO_f hk3 (ci := 7) (bO_ft hk3 (ci := 8) (by rfl) rfl) rfl) (by decide) (by decide) rfl (fun c5 => ?_) (fun c5 => b_pc (pc' := 30) rfl ?_)
    · refine b_s (pc' := 41) (lv1 := [(0, .ref 1), (1, bI v1)]) (st' := [.ref 1]) l95_40 (fun _ => rfl) ?_
      refine b_gp (q' := 13) (j := 12) l95_41 (by rfl) (by decide) (by decide) rfl hk3 rfl rfl (b_pc (pc' := 44) rfl ?_)
      refine b_cMv l95_44 rfl (b_rc (ci := 2) (by rfl) (by decide) (by decide +kernel)) (Nat.le_of_ble_eq_true rfl) (Nat.le_of_ble_eq_true rfl) rfl (r_X3_forget ) fun w6 μ7 hw6 => bD.ok fun hk8 => b_pc (pc' := 47) rfl ?_
      refine b_s (pc' := 48) (lv1 := [(0, .ref 1), (1, bI v1)]) (st' := [.ref 1]) l95_47 (fun _ => rfl) ?_
      refine b_gr l95_48 (by rfl) (by decide) (by decide) rfl (b_pc (pc' := 51) rfl ?_)
      refine b_s (pc' := 52) (lv1 := [(0, .ref 1), (1, bI v1)]) (st' := [bI v1, .ref (μ7 1 5).toNat]) l95_51 (fun _ => rfl) ?_
      refine b_cMi l95_52 rfl (b_rc (ci := 7) (bO_ft hk8 (ci := 8) (by rfl) rfl) (by decide) (by decide +kernel)) (Nat.le_of_ble_eq_true rfl) (Nat.le_of_ble_eq_true rfl) rfl (r_X8_addRoot (μ7 1 5).toNat (bO_ft hk8 (ci := 8) (by rfl) rfl) v1 h1) fun w9 μ10 hw9 => bD.ok fun hk11 => b_pc (pc' := 55) rfl ?_
      exact b_reti l95_55 rfl hw9 (hr _)
    · exact b_thr x95_30 (by decide) (Nat.le_of_ble_eq_true rfl) (hr _)
/-! ET.needEntry -/
theorem l117_0 : (ax_dt (ax_T 117)).lookup 0 = some (.iload_n 1, 1, 0, 0, 0) := by decide +kernel
theorem l117_1 : (ax_dt (ax_T 117)).lookup 1 = some (.ifCond .lt 14, 3, 0, 0, 0) := by decide +kernel
theorem l117_4 : (ax_dt (ax_T 117)).lookup 4 = some (.iload_n 1, 1, 0, 0, 0) := by decide +kernel
theorem l117_5 : (ax_dt (ax_T 117)).lookup 5 = some (.aload_n 0, 1, 0, 0, 0) := by decide +kernel
theorem l117_6 : (ax_dt (ax_T 117)).lookup 6 = some (.getfield 45, 3, 8, 5, 0) := by decide +kernel
theorem l117_9 : (ax_dt (ax_T 117)).lookup 9 = some (.getfield 81, 3, 7, 1, 0) := by decide +kernel
theorem l117_12 : (ax_dt (ax_T 117)).lookup 12 = some (.if_icmp .lt 14, 3, 0, 0, 0) := by decide +kernel
theorem l117_26 : (ax_dt (ax_T 117)).lookup 26 = some (.return_, 1, 0, 0, 0) := by decide +kernel
theorem x117_15 : (ax_dx (ax_T 117)).lookup 15 = some ("java/lang/IndexOutOfBoundsException", "no such entry", 222, 299, 226, true) := by decide +kernel
noncomputable def F_X10_needEntry (v1 : Int) (μ : bM) : Option ((Int ⊕ String) × bM) := if v1 < 0 then some (.inr "java/lang/IndexOutOfBoundsException", μ) else if v1 < (μ (μ 1 5).toNat 1) then some (.inl 0, μ) else some (.inr "java/lang/IndexOutOfBoundsException", μ)
theorem r_X10_needEntry {L : Nat} {xs : Nat → Int32} {d : Nat} {μ : bM}  (v1 : Int) (h1 : bR v1) : bD L xs (d + 0) 117 0 [(0, .ref 1), (1, bI v1)] [] μ ((F_X10_needEntry v1 μ).bind (bXc)) := by
  have hr : ∀ r, (bXc) r = (bXc) r := fun _ => rfl
  unfold F_X10_needEntry
  refine bD.ok fun hk => ?_
  refine b_s (pc' := 1) (lv1 := [(0, .ref 1), (1, bI v1)]) (st' := [bI v1]) l117_0 (fun _ => rfl) ?_
  refine b_zlt (pt := 15) l117_1 h1 (by decide) rfl (fun c1 => ?_) (fun c1 => b_pc (pc' := 4) rfl ?_)
  · exact b_thr x117_15 (by decide) (Nat.le_of_ble_eq_true rfl) (hr _)
  · refine b_s (pc' := 5) (lv1 := [(0, .ref 1), (1, bI v1)]) (st' := [bI v1]) l117_4 (fun _ => rfl) ?_
    refine b_s (pc' := 6) (lv1 := [(0, .ref 1), (1, bI v1)]) (st' := [.ref 1, bI v1]) l117_5 (fun _ => rfl) ?_
    refine b_gr l117_6 (by rfl) (by decide) (by decide) rfl (b_pc (pc' := 9) rfl ?_)
    refine b_gi l117_9 (bO_ft hk (ci := 8) (by rfl) rfl) (by decide) (by decide) rfl (b_pc (pc' := 12) rfl ?_)
    refine b_ilt (pt := 26) l117_12 h1 (bO_f hk (ci := 7) (bO_ft hk (ci := 8) (by rfl) rfl) rfl) (by decide) rfl (fun c2 => ?_) (fun c2 => b_pc (pc' := 15) rfl ?_)
    · exact b_retv l117_26 rfl (hr _)
    · exact b_thr x117_15 (by decide) (Nat.le_of_ble_eq_true rfl) (hr _)
/-! ET.entry -/
theorem l96_0 : (ax_dt (ax_T 96)).lookup 0 = some (.aload_n 0, 1, 0, 0, 0) := by decide +kernel
theorem l96_1 : (ax_dt (ax_T 96)).lookup 1 = some (.iload_n 1, 1, 0, 0, 0) := by decide +kernel
theorem l96_2 : (ax_dt (ax_T 96)).lookup 2 = some (.invokevirtual 96, 3, 117, 1, 0) := by decide +kernel
theorem l96_5 : (ax_dt (ax_T 96)).lookup 5 = some (.aload_n 0, 1, 0, 0, 0) := by decide +kernel
theorem l96_6 : (ax_dt (ax_T 96)).lookup 6 = some (.iload_n 2, 1, 0, 0, 0) := by decide +kernel
theorem l96_7 : (ax_dt (ax_T 96)).lookup 7 = some (.invokevirtual 74, 3, 118, 1, 0) := by decide +kernel
theorem l96_10 : (ax_dt (ax_T 96)).lookup 10 = some (.aload_n 0, 1, 0, 0, 0) := by decide +kernel
theorem l96_11 : (ax_dt (ax_T 96)).lookup 11 = some (.getfield 45, 3, 8, 5, 0) := by decide +kernel
theorem l96_14 : (ax_dt (ax_T 96)).lookup 14 = some (.getfield 81, 3, 7, 1, 0) := by decide +kernel
theorem l96_17 : (ax_dt (ax_T 96)).lookup 17 = some (.sipush 400, 3, 0, 0, 0) := by decide +kernel
theorem l96_20 : (ax_dt (ax_T 96)).lookup 20 = some (.if_icmp .eq 17, 3, 0, 0, 0) := by decide +kernel
theorem l96_23 : (ax_dt (ax_T 96)).lookup 23 = some (.aload_n 0, 1, 0, 0, 0) := by decide +kernel
theorem l96_24 : (ax_dt (ax_T 96)).lookup 24 = some (.getfield 45, 3, 8, 5, 0) := by decide +kernel
theorem l96_27 : (ax_dt (ax_T 96)).lookup 27 = some (.getfield 99, 3, 7, 6, 0) := by decide +kernel
theorem l96_30 : (ax_dt (ax_T 96)).lookup 30 = some (.iload_n 1, 1, 0, 0, 0) := by decide +kernel
theorem l96_31 : (ax_dt (ax_T 96)).lookup 31 = some (.iaload, 1, 0, 0, 0) := by decide +kernel
theorem l96_32 : (ax_dt (ax_T 96)).lookup 32 = some (.bipush 30, 2, 0, 0, 0) := by decide +kernel
theorem l96_34 : (ax_dt (ax_T 96)).lookup 34 = some (.if_icmp .ne 13, 3, 0, 0, 0) := by decide +kernel
theorem l96_47 : (ax_dt (ax_T 96)).lookup 47 = some (.aload_n 0, 1, 0, 0, 0) := by decide +kernel
theorem l96_48 : (ax_dt (ax_T 96)).lookup 48 = some (.getfield 31, 3, 8, 3, 0) := by decide +kernel
theorem l96_51 : (ax_dt (ax_T 96)).lookup 51 = some (.invokevirtual 89, 3, 23, 0, 0) := by decide +kernel
theorem l96_54 : (ax_dt (ax_T 96)).lookup 54 = some (.aload_n 0, 1, 0, 0, 0) := by decide +kernel
theorem l96_55 : (ax_dt (ax_T 96)).lookup 55 = some (.getfield 45, 3, 8, 5, 0) := by decide +kernel
theorem l96_58 : (ax_dt (ax_T 96)).lookup 58 = some (.iload_n 1, 1, 0, 0, 0) := by decide +kernel
theorem l96_59 : (ax_dt (ax_T 96)).lookup 59 = some (.iload_n 2, 1, 0, 0, 0) := by decide +kernel
theorem l96_60 : (ax_dt (ax_T 96)).lookup 60 = some (.invokevirtual 105, 3, 81, 2, 0) := by decide +kernel
theorem l96_63 : (ax_dt (ax_T 96)).lookup 63 = some (.ireturn, 1, 0, 0, 0) := by decide +kernel
theorem x96_37 : (ax_dx (ax_T 96)).lookup 37 = some ("java/lang/UnsupportedOperationException", "no room for an entry", 84, 103, 88, false) := by decide +kernel
noncomputable def F_X10_entry (v1 : Int) (v2 : Int) (μ : bM) : Option ((Int ⊕ String) × bM) := bXm (F_X10_needEntry v1 μ) (fun w1 μ2 => bXm (F_X10_needCode v2 μ2) (fun w4 μ5 => if (μ5 (μ5 1 5).toNat 1) = 400 then some (.inr "java/lang/UnsupportedOperationException", μ5) else bG (0 ≤ v1 ∧ v1 < 400) (if ¬ (μ5 ((μ5 1 5).toNat + 5) v1.toNat) = 30 then bMm (F_X3_forget μ5) (fun w9 μ10 => bMm (F_X8_addChild (μ10 1 5).toNat v1 v2 μ10) (fun w12 μ13 => some (.inl w12, μ13))) else some (.inr "java/lang/UnsupportedOperationException", μ5))) (fun e μ => some (.inr e, μ))) (fun e μ => some (.inr e, μ))
theorem r_X10_entry {L : Nat} {xs : Nat → Int32} {d : Nat} {μ : bM}  (v1 : Int) (h1 : bR v1) (v2 : Int) (h2 : bR v2) : bD L xs (d + 2) 96 0 [(0, .ref 1), (1, bI v1), (2, bI v2)] [] μ ((F_X10_entry v1 v2 μ).bind (bXc)) := by
  have hr : ∀ r, (bXc) r = (bXc) r := fun _ => rfl
  unfold F_X10_entry
  refine bD.ok fun hk => ?_
  refine b_s (pc' := 1) (lv1 := [(0, .ref 1), (1, bI v1), (2, bI v2)]) (st' := [.ref 1]) l96_0 (fun _ => rfl) ?_
  refine b_s (pc' := 2) (lv1 := [(0, .ref 1), (1, bI v1), (2, bI v2)]) (st' := [bI v1, .ref 1]) l96_1 (fun _ => rfl) ?_
  refine b_cXv l96_2 rfl (b_rc (ci := 8) (by rfl) (by decide) (by decide +kernel)) (Nat.le_of_ble_eq_true rfl) (Nat.le_of_ble_eq_true rfl) rfl (r_X10_needEntry v1 h1) ⟨fun _ z => (by cases z), (by decide +kernel)⟩ rfl (fun _ _ => hr _) fun w1 μ2 hw1 => bD.ok fun hk3 => b_pc (pc' := 5) rfl ?_
  refine b_s (pc' := 6) (lv1 := [(0, .ref 1), (1, bI v1), (2, bI v2)]) (st' := [.ref 1]) l96_5 (fun _ => rfl) ?_
  refine b_s (pc' := 7) (lv1 := [(0, .ref 1), (1, bI v1), (2, bI v2)]) (st' := [bI v2, .ref 1]) l96_6 (fun _ => rfl) ?_
  refine b_cXv l96_7 rfl (b_rc (ci := 8) (by rfl) (by decide) (by decide +kernel)) (Nat.le_of_ble_eq_true rfl) (Nat.le_of_ble_eq_true rfl) rfl (r_X10_needCode v2 h2) ⟨fun _ z => (by cases z), (by decide +kernel)⟩ rfl (fun _ _ => hr _) fun w4 μ5 hw4 => bD.ok fun hk6 => b_pc (pc' := 10) rfl ?_
  refine b_s (pc' := 11) (lv1 := [(0, .ref 1), (1, bI v1), (2, bI v2)]) (st' := [.ref 1]) l96_10 (fun _ => rfl) ?_
  refine b_gr l96_11 (by rfl) (by decide) (by decide) rfl (b_pc (pc' := 14) rfl ?_)
  refine b_gi l96_14 (bO_ft hk6 (ci := 8) (by rfl) rfl) (by decide) (by decide) rfl (b_pc (pc' := 17) rfl ?_)
  refine b_sipush l96_17 (by decide) (b_pc (pc' := 20) rfl ?_)
  refine b_ieq (pt := 37) l96_20 (bO_f hk6 (ci := 7) (bO_ft hk6 (ci := 8) (by rfl) rfl) rfl) (by decide) (by decide) rfl (fun c7 => ?_) (fun c7 => b_pc (pc' := 23) rfl ?_)
  · exact b_thr x96_37 (by decide) (Nat.le_of_ble_eq_true rfl) (hr _)
  · refine b_s (pc' := 24) (lv1 := [(0, .ref 1), (1, bI v1), (2, bI v2)]) (st' := [.ref 1]) l96_23 (fun _ => rfl) ?_
    refine b_gr l96_24 (by rfl) (by decide) (by decide) rfl (b_pc (pc' := 27) rfl ?_)
    refine b_gp (q' := ((μ5 1 5).toNat + 5)) (j := 5) l96_27 (bO_ft hk6 (ci := 8) (by rfl) rfl) (by decide) (by decide) rfl hk6 rfl rfl (b_pc (pc' := 30) rfl ?_)
    refine b_s (pc' := 31) (lv1 := [(0, .ref 1), (1, bI v1), (2, bI v2)]) (st' := [bI v1, .ref ((μ5 1 5).toNat + 5)]) l96_30 (fun _ => rfl) ?_
    refine b_g fun g15 => ?_
    refine b_ial l96_31 (bTree_e (bO_ft hk6 (ci := 8) (by rfl) rfl) 5 (by decide)) g15 (b_pc (pc' := 32) rfl ?_)
    refine b_bipush l96_32 (by decide) (b_pc (pc' := 34) rfl ?_)
    refine b_ine (pt := 47) l96_34 (bO_i hk6 (bTree_e (bO_ft hk6 (ci := 8) (by rfl) rfl) 5 (by decide))) (by decide) (by decide) rfl (fun c8 => ?_) (fun c8 => b_pc (pc' := 37) rfl ?_)
    · refine b_s (pc' := 48) (lv1 := [(0, .ref 1), (1, bI v1), (2, bI v2)]) (st' := [.ref 1]) l96_47 (fun _ => rfl) ?_
      refine b_gp (q' := 13) (j := 12) l96_48 (by rfl) (by decide) (by decide) rfl hk6 rfl rfl (b_pc (pc' := 51) rfl ?_)
      refine b_cMv l96_51 rfl (b_rc (ci := 2) (by rfl) (by decide) (by decide +kernel)) (Nat.le_of_ble_eq_true rfl) (Nat.le_of_ble_eq_true rfl) rfl (r_X3_forget ) fun w9 μ10 hw9 => bD.ok fun hk11 => b_pc (pc' := 54) rfl ?_
      refine b_s (pc' := 55) (lv1 := [(0, .ref 1), (1, bI v1), (2, bI v2)]) (st' := [.ref 1]) l96_54 (fun _ => rfl) ?_
      refine b_gr l96_55 (by rfl) (by decide) (by decide) rfl (b_pc (pc' := 58) rfl ?_)
      refine b_s (pc' := 59) (lv1 := [(0, .ref 1), (1, bI v1), (2, bI v2)]) (st' := [bI v1, .ref (μ10 1 5).toNat]) l96_58 (fun _ => rfl) ?_
      refine b_s (pc' := 60) (lv1 := [(0, .ref 1), (1, bI v1), (2, bI v2)]) (st' := [bI v2, bI v1, .ref (μ10 1 5).toNat]) l96_59 (fun _ => rfl) ?_
      refine b_cMi l96_60 rfl (b_rc (ci := 7) (bO_ft hk11 (ci := 8) (by rfl) rfl) (by decide) (by decide +kernel)) (Nat.le_of_ble_eq_true rfl) (Nat.le_of_ble_eq_true rfl) rfl (r_X8_addChild (μ10 1 5).toNat (bO_ft hk11 (ci := 8) (by rfl) rfl) v1 h1 v2 h2) fun w12 μ13 hw12 => bD.ok fun hk14 => b_pc (pc' := 63) rfl ?_
      exact b_reti l96_63 rfl hw12 (hr _)
    · exact b_thr x96_37 (by decide) (Nat.le_of_ble_eq_true rfl) (hr _)
/-! ET.needNewName -/
theorem l119_0 : (ax_dt (ax_T 119)).lookup 0 = some (.aload_n 0, 1, 0, 0, 0) := by decide +kernel
theorem l119_1 : (ax_dt (ax_T 119)).lookup 1 = some (.iload_n 2, 1, 0, 0, 0) := by decide +kernel
theorem l119_2 : (ax_dt (ax_T 119)).lookup 2 = some (.invokevirtual 74, 3, 118, 1, 0) := by decide +kernel
theorem l119_5 : (ax_dt (ax_T 119)).lookup 5 = some (.aload_n 0, 1, 0, 0, 0) := by decide +kernel
theorem l119_6 : (ax_dt (ax_T 119)).lookup 6 = some (.getfield 45, 3, 8, 5, 0) := by decide +kernel
theorem l119_9 : (ax_dt (ax_T 119)).lookup 9 = some (.iload_n 1, 1, 0, 0, 0) := by decide +kernel
theorem l119_10 : (ax_dt (ax_T 119)).lookup 10 = some (.iload_n 2, 1, 0, 0, 0) := by decide +kernel
theorem l119_11 : (ax_dt (ax_T 119)).lookup 11 = some (.invokevirtual 306, 3, 84, 2, 0) := by decide +kernel
theorem l119_14 : (ax_dt (ax_T 119)).lookup 14 = some (.iconst (-1), 1, 0, 0, 0) := by decide +kernel
theorem l119_15 : (ax_dt (ax_T 119)).lookup 15 = some (.if_icmp .eq 14, 3, 0, 0, 0) := by decide +kernel
theorem l119_29 : (ax_dt (ax_T 119)).lookup 29 = some (.return_, 1, 0, 0, 0) := by decide +kernel
theorem x119_18 : (ax_dx (ax_T 119)).lookup 18 = some ("java/lang/IllegalArgumentException", "the name is told", 66, 309, 70, true) := by decide +kernel
noncomputable def F_X10_needNewName (v1 : Int) (v2 : Int) (μ : bM) : Option ((Int ⊕ String) × bM) := bXm (F_X10_needCode v2 μ) (fun w1 μ2 => (F_X8_slotOf (μ2 1 5).toNat v1 v2 μ2).bind fun w4 => if w4 = (-1) then some (.inl 0, μ2) else some (.inr "java/lang/IllegalArgumentException", μ2)) (fun e μ => some (.inr e, μ))
theorem r_X10_needNewName {L : Nat} {xs : Nat → Int32} {d : Nat} {μ : bM}  (v1 : Int) (h1 : bR v1) (v2 : Int) (h2 : bR v2) : bD L xs (d + 2) 119 0 [(0, .ref 1), (1, bI v1), (2, bI v2)] [] μ ((F_X10_needNewName v1 v2 μ).bind (bXc)) := by
  have hr : ∀ r, (bXc) r = (bXc) r := fun _ => rfl
  unfold F_X10_needNewName
  refine bD.ok fun hk => ?_
  refine b_s (pc' := 1) (lv1 := [(0, .ref 1), (1, bI v1), (2, bI v2)]) (st' := [.ref 1]) l119_0 (fun _ => rfl) ?_
  refine b_s (pc' := 2) (lv1 := [(0, .ref 1), (1, bI v1), (2, bI v2)]) (st' := [bI v2, .ref 1]) l119_1 (fun _ => rfl) ?_
  refine b_cXv l119_2 rfl (b_rc (ci := 8) (by rfl) (by decide) (by decide +kernel)) (Nat.le_of_ble_eq_true rfl) (Nat.le_of_ble_eq_true rfl) rfl (r_X10_needCode v2 h2) ⟨fun _ z => (by cases z), (by decide +kernel)⟩ rfl (fun _ _ => hr _) fun w1 μ2 hw1 => bD.ok fun hk3 => b_pc (pc' := 5) rfl ?_
  refine b_s (pc' := 6) (lv1 := [(0, .ref 1), (1, bI v1), (2, bI v2)]) (st' := [.ref 1]) l119_5 (fun _ => rfl) ?_
  refine b_gr l119_6 (by rfl) (by decide) (by decide) rfl (b_pc (pc' := 9) rfl ?_)
  refine b_s (pc' := 10) (lv1 := [(0, .ref 1), (1, bI v1), (2, bI v2)]) (st' := [bI v1, .ref (μ2 1 5).toNat]) l119_9 (fun _ => rfl) ?_
  refine b_s (pc' := 11) (lv1 := [(0, .ref 1), (1, bI v1), (2, bI v2)]) (st' := [bI v2, bI v1, .ref (μ2 1 5).toNat]) l119_10 (fun _ => rfl) ?_
  refine b_cPi l119_11 rfl (b_rc (ci := 7) (bO_ft hk3 (ci := 8) (by rfl) rfl) (by decide) (by decide +kernel)) (Nat.le_of_ble_eq_true rfl) (Nat.le_of_ble_eq_true rfl) rfl (r_X8_slotOf (μ2 1 5).toNat (bO_ft hk3 (ci := 8) (by rfl) rfl) v1 h1 v2 h2) fun w4 hw4 => b_pc (pc' := 14) rfl ?_
  refine b_s (pc' := 15) (lv1 := [(0, .ref 1), (1, bI v1), (2, bI v2)]) (st' := [bI (-1), bI w4]) l119_14 (fun _ => rfl) ?_
  refine b_ieq (pt := 29) l119_15 hw4 (by decide) (by decide) rfl (fun c5 => ?_) (fun c5 => b_pc (pc' := 18) rfl ?_)
  · exact b_retv l119_29 rfl (hr _)
  · exact b_thr x119_18 (by decide) (Nat.le_of_ble_eq_true rfl) (hr _)
/-! ET.needRoom -/
theorem l121_0 : (ax_dt (ax_T 121)).lookup 0 = some (.aload_n 0, 1, 0, 0, 0) := by decide +kernel
theorem l121_1 : (ax_dt (ax_T 121)).lookup 1 = some (.getfield 45, 3, 8, 5, 0) := by decide +kernel
theorem l121_4 : (ax_dt (ax_T 121)).lookup 4 = some (.getfield 248, 3, 7, 11, 0) := by decide +kernel
theorem l121_7 : (ax_dt (ax_T 121)).lookup 7 = some (.iload_n 1, 1, 0, 0, 0) := by decide +kernel
theorem l121_8 : (ax_dt (ax_T 121)).lookup 8 = some (.iaload, 1, 0, 0, 0) := by decide +kernel
theorem l121_9 : (ax_dt (ax_T 121)).lookup 9 = some (.bipush 8, 2, 0, 0, 0) := by decide +kernel
theorem l121_11 : (ax_dt (ax_T 121)).lookup 11 = some (.if_icmp .eq 14, 3, 0, 0, 0) := by decide +kernel
theorem l121_14 : (ax_dt (ax_T 121)).lookup 14 = some (.aload_n 0, 1, 0, 0, 0) := by decide +kernel
theorem l121_15 : (ax_dt (ax_T 121)).lookup 15 = some (.getfield 18, 3, 8, 1, 0) := by decide +kernel
theorem l121_18 : (ax_dt (ax_T 121)).lookup 18 = some (.invokevirtual 49, 3, 55, 0, 0) := by decide +kernel
theorem l121_21 : (ax_dt (ax_T 121)).lookup 21 = some (.iload_n 2, 1, 0, 0, 0) := by decide +kernel
theorem l121_22 : (ax_dt (ax_T 121)).lookup 22 = some (.if_icmp .ge 14, 3, 0, 0, 0) := by decide +kernel
theorem l121_36 : (ax_dt (ax_T 121)).lookup 36 = some (.return_, 1, 0, 0, 0) := by decide +kernel
theorem x121_25 : (ax_dx (ax_T 121)).lookup 25 = some ("java/lang/UnsupportedOperationException", "no room for an attribute", 84, 319, 88, true) := by decide +kernel
noncomputable def F_X10_needRoom (v1 : Int) (v2 : Int) (μ : bM) : Option ((Int ⊕ String) × bM) := bG (0 ≤ v1 ∧ v1 < 400) (if (μ ((μ 1 5).toNat + 10) v1.toNat) = 8 then some (.inr "java/lang/UnsupportedOperationException", μ) else (F_X6_room 4 μ).bind fun w2 => if v2 ≤ w2 then some (.inl 0, μ) else some (.inr "java/lang/UnsupportedOperationException", μ))
theorem r_X10_needRoom {L : Nat} {xs : Nat → Int32} {d : Nat} {μ : bM}  (v1 : Int) (h1 : bR v1) (v2 : Int) (h2 : bR v2) : bD L xs (d + 1) 121 0 [(0, .ref 1), (1, bI v1), (2, bI v2)] [] μ ((F_X10_needRoom v1 v2 μ).bind (bXc)) := by
  have hr : ∀ r, (bXc) r = (bXc) r := fun _ => rfl
  unfold F_X10_needRoom
  refine bD.ok fun hk => ?_
  refine b_s (pc' := 1) (lv1 := [(0, .ref 1), (1, bI v1), (2, bI v2)]) (st' := [.ref 1]) l121_0 (fun _ => rfl) ?_
  refine b_gr l121_1 (by rfl) (by decide) (by decide) rfl (b_pc (pc' := 4) rfl ?_)
  refine b_gp (q' := ((μ 1 5).toNat + 10)) (j := 10) l121_4 (bO_ft hk (ci := 8) (by rfl) rfl) (by decide) (by decide) rfl hk rfl rfl (b_pc (pc' := 7) rfl ?_)
  refine b_s (pc' := 8) (lv1 := [(0, .ref 1), (1, bI v1), (2, bI v2)]) (st' := [bI v1, .ref ((μ 1 5).toNat + 10)]) l121_7 (fun _ => rfl) ?_
  refine b_g fun g4 => ?_
  refine b_ial l121_8 (bTree_e (bO_ft hk (ci := 8) (by rfl) rfl) 10 (by decide)) g4 (b_pc (pc' := 9) rfl ?_)
  refine b_bipush l121_9 (by decide) (b_pc (pc' := 11) rfl ?_)
  refine b_ieq (pt := 25) l121_11 (bO_i hk (bTree_e (bO_ft hk (ci := 8) (by rfl) rfl) 10 (by decide))) (by decide) (by decide) rfl (fun c1 => ?_) (fun c1 => b_pc (pc' := 14) rfl ?_)
  · exact b_thr x121_25 (by decide) (Nat.le_of_ble_eq_true rfl) (hr _)
  · refine b_s (pc' := 15) (lv1 := [(0, .ref 1), (1, bI v1), (2, bI v2)]) (st' := [.ref 1]) l121_14 (fun _ => rfl) ?_
    refine b_gp (q' := 4) (j := 3) l121_15 (by rfl) (by decide) (by decide) rfl hk rfl rfl (b_pc (pc' := 18) rfl ?_)
    refine b_cPi l121_18 rfl (b_rc (ci := 5) (by rfl) (by decide) (by decide +kernel)) (Nat.le_of_ble_eq_true rfl) (Nat.le_of_ble_eq_true rfl) rfl (r_X6_room 4 (by rfl)) fun w2 hw2 => b_pc (pc' := 21) rfl ?_
    refine b_s (pc' := 22) (lv1 := [(0, .ref 1), (1, bI v1), (2, bI v2)]) (st' := [bI v2, bI w2]) l121_21 (fun _ => rfl) ?_
    refine b_ige (pt := 36) l121_22 hw2 h2 (by decide) rfl (fun c3 => ?_) (fun c3 => b_pc (pc' := 25) rfl ?_)
    · exact b_retv l121_36 rfl (hr _)
    · exact b_thr x121_25 (by decide) (Nat.le_of_ble_eq_true rfl) (hr _)
/-! ET.number -/
theorem l97_0 : (ax_dt (ax_T 97)).lookup 0 = some (.aload_n 0, 1, 0, 0, 0) := by decide +kernel
theorem l97_1 : (ax_dt (ax_T 97)).lookup 1 = some (.iload_n 1, 1, 0, 0, 0) := by decide +kernel
theorem l97_2 : (ax_dt (ax_T 97)).lookup 2 = some (.invokevirtual 96, 3, 117, 1, 0) := by decide +kernel
theorem l97_5 : (ax_dt (ax_T 97)).lookup 5 = some (.aload_n 0, 1, 0, 0, 0) := by decide +kernel
theorem l97_6 : (ax_dt (ax_T 97)).lookup 6 = some (.iload_n 1, 1, 0, 0, 0) := by decide +kernel
theorem l97_7 : (ax_dt (ax_T 97)).lookup 7 = some (.iload_n 2, 1, 0, 0, 0) := by decide +kernel
theorem l97_8 : (ax_dt (ax_T 97)).lookup 8 = some (.invokevirtual 109, 3, 119, 2, 0) := by decide +kernel
theorem l97_11 : (ax_dt (ax_T 97)).lookup 11 = some (.iload_n 3, 1, 0, 0, 0) := by decide +kernel
theorem l97_12 : (ax_dt (ax_T 97)).lookup 12 = some (.invokestatic 113, 3, 18, 1, 0) := by decide +kernel
theorem l97_15 : (ax_dt (ax_T 97)).lookup 15 = some (.ifCond .eq 12, 3, 0, 0, 0) := by decide +kernel
theorem l97_18 : (ax_dt (ax_T 97)).lookup 18 = some (.iload_n 3, 1, 0, 0, 0) := by decide +kernel
theorem l97_19 : (ax_dt (ax_T 97)).lookup 19 = some (.lload 4, 2, 0, 0, 0) := by decide +kernel
theorem l97_21 : (ax_dt (ax_T 97)).lookup 21 = some (.invokestatic 119, 3, 20, 2, 0) := by decide +kernel
theorem l97_24 : (ax_dt (ax_T 97)).lookup 24 = some (.ifCond .ne 13, 3, 0, 0, 0) := by decide +kernel
theorem l97_37 : (ax_dt (ax_T 97)).lookup 37 = some (.aload_n 0, 1, 0, 0, 0) := by decide +kernel
theorem l97_38 : (ax_dt (ax_T 97)).lookup 38 = some (.iload_n 1, 1, 0, 0, 0) := by decide +kernel
theorem l97_39 : (ax_dt (ax_T 97)).lookup 39 = some (.iconst 0, 1, 0, 0, 0) := by decide +kernel
theorem l97_40 : (ax_dt (ax_T 97)).lookup 40 = some (.invokevirtual 125, 3, 121, 2, 0) := by decide +kernel
theorem l97_43 : (ax_dt (ax_T 97)).lookup 43 = some (.aload_n 0, 1, 0, 0, 0) := by decide +kernel
theorem l97_44 : (ax_dt (ax_T 97)).lookup 44 = some (.getfield 31, 3, 8, 3, 0) := by decide +kernel
theorem l97_47 : (ax_dt (ax_T 97)).lookup 47 = some (.invokevirtual 89, 3, 23, 0, 0) := by decide +kernel
theorem l97_50 : (ax_dt (ax_T 97)).lookup 50 = some (.aload_n 0, 1, 0, 0, 0) := by decide +kernel
theorem l97_51 : (ax_dt (ax_T 97)).lookup 51 = some (.getfield 45, 3, 8, 5, 0) := by decide +kernel
theorem l97_54 : (ax_dt (ax_T 97)).lookup 54 = some (.iload_n 1, 1, 0, 0, 0) := by decide +kernel
theorem l97_55 : (ax_dt (ax_T 97)).lookup 55 = some (.iload_n 2, 1, 0, 0, 0) := by decide +kernel
theorem l97_56 : (ax_dt (ax_T 97)).lookup 56 = some (.iload_n 3, 1, 0, 0, 0) := by decide +kernel
theorem l97_57 : (ax_dt (ax_T 97)).lookup 57 = some (.lload 4, 2, 0, 0, 0) := by decide +kernel
theorem l97_59 : (ax_dt (ax_T 97)).lookup 59 = some (.iconst 0, 1, 0, 0, 0) := by decide +kernel
theorem l97_60 : (ax_dt (ax_T 97)).lookup 60 = some (.invokevirtual 128, 3, 83, 5, 0) := by decide +kernel
theorem l97_63 : (ax_dt (ax_T 97)).lookup 63 = some (.ireturn, 1, 0, 0, 0) := by decide +kernel
theorem x97_27 : (ax_dx (ax_T 97)).lookup 27 = some ("java/lang/IllegalArgumentException", "no such number", 66, 123, 70, false) := by decide +kernel
noncomputable def F_X10_number (v1 : Int) (v2 : Int) (v3 : Int) (v4 : Int) (μ : bM) : Option ((Int ⊕ String) × bM) := bXm (F_X10_needEntry v1 μ) (fun w1 μ2 => bXm (F_X10_needNewName v1 v2 μ2) (fun w4 μ5 => (F_X2_isNumber v3 μ5).bind fun w7 => if w7 = 0 then some (.inr "java/lang/IllegalArgumentException", μ5) else (F_X2_holds v3 v4 μ5).bind fun w9 => if ¬ w9 = 0 then bXm (F_X10_needRoom v1 0 μ5) (fun w11 μ12 => bMm (F_X3_forget μ12) (fun w14 μ15 => bMm (F_X8_addAttribute (μ15 1 5).toNat v1 v2 v3 v4 0 μ15) (fun w17 μ18 => some (.inl w17, μ18)))) (fun e μ => some (.inr e, μ)) else some (.inr "java/lang/IllegalArgumentException", μ5)) (fun e μ => some (.inr e, μ))) (fun e μ => some (.inr e, μ))
theorem r_X10_number {L : Nat} {xs : Nat → Int32} {d : Nat} {μ : bM}  (v1 : Int) (h1 : bR v1) (v2 : Int) (h2 : bR v2) (v3 : Int) (h3 : bR v3) (v4 : Int) (h4 : bRL v4) : bD L xs (d + 3) 97 0 [(0, .ref 1), (1, bI v1), (2, bI v2), (3, bI v3), (4, bLg v4)] [] μ ((F_X10_number v1 v2 v3 v4 μ).bind (bXc)) := by
  have hr : ∀ r, (bXc) r = (bXc) r := fun _ => rfl
  unfold F_X10_number
  refine bD.ok fun hk => ?_
  refine b_s (pc' := 1) (lv1 := [(0, .ref 1), (1, bI v1), (2, bI v2), (3, bI v3), (4, bLg v4)]) (st' := [.ref 1]) l97_0 (fun _ => rfl) ?_
  refine b_s (pc' := 2) (lv1 := [(0, .ref 1), (1, bI v1), (2, bI v2), (3, bI v3), (4, bLg v4)]) (st' := [bI v1, .ref 1]) l97_1 (fun _ => rfl) ?_
  refine b_cXv l97_2 rfl (b_rc (ci := 8) (by rfl) (by decide) (by decide +kernel)) (Nat.le_of_ble_eq_true rfl) (Nat.le_of_ble_eq_true rfl) rfl (r_X10_needEntry v1 h1) ⟨fun _ z => (by cases z), (by decide +kernel)⟩ rfl (fun _ _ => hr _) fun w1 μ2 hw1 => bD.ok fun hk3 => b_pc (pc' := 5) rfl ?_
  refine b_s (pc' := 6) (lv1 := [(0, .ref 1), (1, bI v1), (2, bI v2), (3, bI v3), (4, bLg v4)]) (st' := [.ref 1]) l97_5 (fun _ => rfl) ?_
  refine b_s (pc' := 7) (lv1 := [(0, .ref 1), (1, bI v1), (2, bI v2), (3, bI v3), (4, bLg v4)]) (st' := [bI v1, .ref 1]) l97_6 (fun _ => rfl) ?_
  refine b_s (pc' := 8) (lv1 := [(0, .ref 1), (1, bI v1), (2, bI v2), (3, bI v3), (4, bLg v4)]) (st' := [bI v2, bI v1, .ref 1]) l97_7 (fun _ => rfl) ?_
  refine b_cXv l97_8 rfl (b_rc (ci := 8) (by rfl) (by decide) (by decide +kernel)) (Nat.le_of_ble_eq_true rfl) (Nat.le_of_ble_eq_true rfl) rfl (r_X10_needNewName v1 h1 v2 h2) ⟨fun _ z => (by cases z), (by decide +kernel)⟩ rfl (fun _ _ => hr _) fun w4 μ5 hw4 => bD.ok fun hk6 => b_pc (pc' := 11) rfl ?_
  refine b_s (pc' := 12) (lv1 := [(0, .ref 1), (1, bI v1), (2, bI v2), (3, bI v3), (4, bLg v4)]) (st' := [bI v3]) l97_11 (fun _ => rfl) ?_
  refine b_cPz l97_12 rfl (fun _ => trivial) (Nat.le_of_ble_eq_true rfl) (Nat.le_of_ble_eq_true rfl) rfl (r_X2_isNumber v3 h3) fun w7 hw7 => b_pc (pc' := 15) rfl ?_
  refine b_zeq (pt := 27) l97_15 (bZ_R hw7) (by decide) rfl (fun c8 => ?_) (fun c8 => b_pc (pc' := 18) rfl ?_)
  · exact b_thr x97_27 (by decide) (Nat.le_of_ble_eq_true rfl) (hr _)
  · refine b_s (pc' := 19) (lv1 := [(0, .ref 1), (1, bI v1), (2, bI v2), (3, bI v3), (4, bLg v4)]) (st' := [bI v3]) l97_18 (fun _ => rfl) ?_
    refine b_s (pc' := 21) (lv1 := [(0, .ref 1), (1, bI v1), (2, bI v2), (3, bI v3), (4, bLg v4)]) (st' := [bLg v4, bI v3]) l97_19 (fun _ => rfl) ?_
    refine b_cPz l97_21 rfl (fun _ => trivial) (Nat.le_of_ble_eq_true rfl) (Nat.le_of_ble_eq_true rfl) rfl (r_X2_holds v3 h3 v4 h4) fun w9 hw9 => b_pc (pc' := 24) rfl ?_
    refine b_zne (pt := 37) l97_24 (bZ_R hw9) (by decide) rfl (fun c10 => ?_) (fun c10 => b_pc (pc' := 27) rfl ?_)
    · refine b_s (pc' := 38) (lv1 := [(0, .ref 1), (1, bI v1), (2, bI v2), (3, bI v3), (4, bLg v4)]) (st' := [.ref 1]) l97_37 (fun _ => rfl) ?_
      refine b_s (pc' := 39) (lv1 := [(0, .ref 1), (1, bI v1), (2, bI v2), (3, bI v3), (4, bLg v4)]) (st' := [bI v1, .ref 1]) l97_38 (fun _ => rfl) ?_
      refine b_s (pc' := 40) (lv1 := [(0, .ref 1), (1, bI v1), (2, bI v2), (3, bI v3), (4, bLg v4)]) (st' := [bI 0, bI v1, .ref 1]) l97_39 (fun _ => rfl) ?_
      refine b_cXv l97_40 rfl (b_rc (ci := 8) (by rfl) (by decide) (by decide +kernel)) (Nat.le_of_ble_eq_true rfl) (Nat.le_of_ble_eq_true rfl) rfl (r_X10_needRoom v1 h1 0 (by decide)) ⟨fun _ z => (by cases z), (by decide +kernel)⟩ rfl (fun _ _ => hr _) fun w11 μ12 hw11 => bD.ok fun hk13 => b_pc (pc' := 43) rfl ?_
      refine b_s (pc' := 44) (lv1 := [(0, .ref 1), (1, bI v1), (2, bI v2), (3, bI v3), (4, bLg v4)]) (st' := [.ref 1]) l97_43 (fun _ => rfl) ?_
      refine b_gp (q' := 13) (j := 12) l97_44 (by rfl) (by decide) (by decide) rfl hk13 rfl rfl (b_pc (pc' := 47) rfl ?_)
      refine b_cMv l97_47 rfl (b_rc (ci := 2) (by rfl) (by decide) (by decide +kernel)) (Nat.le_of_ble_eq_true rfl) (Nat.le_of_ble_eq_true rfl) rfl (r_X3_forget ) fun w14 μ15 hw14 => bD.ok fun hk16 => b_pc (pc' := 50) rfl ?_
      refine b_s (pc' := 51) (lv1 := [(0, .ref 1), (1, bI v1), (2, bI v2), (3, bI v3), (4, bLg v4)]) (st' := [.ref 1]) l97_50 (fun _ => rfl) ?_
      refine b_gr l97_51 (by rfl) (by decide) (by decide) rfl (b_pc (pc' := 54) rfl ?_)
      refine b_s (pc' := 55) (lv1 := [(0, .ref 1), (1, bI v1), (2, bI v2), (3, bI v3), (4, bLg v4)]) (st' := [bI v1, .ref (μ15 1 5).toNat]) l97_54 (fun _ => rfl) ?_
      refine b_s (pc' := 56) (lv1 := [(0, .ref 1), (1, bI v1), (2, bI v2), (3, bI v3), (4, bLg v4)]) (st' := [bI v2, bI v1, .ref (μ15 1 5).toNat]) l97_55 (fun _ => rfl) ?_
      refine b_s (pc' := 57) (lv1 := [(0, .ref 1), (1, bI v1), (2, bI v2), (3, bI v3), (4, bLg v4)]) (st' := [bI v3, bI v2, bI v1, .ref (μ15 1 5).toNat]) l97_56 (fun _ => rfl) ?_
      refine b_s (pc' := 59) (lv1 := [(0, .ref 1), (1, bI v1), (2, bI v2), (3, bI v3), (4, bLg v4)]) (st' := [bLg v4, bI v3, bI v2, bI v1, .ref (μ15 1 5).toNat]) l97_57 (fun _ => rfl) ?_
      refine b_s (pc' := 60) (lv1 := [(0, .ref 1), (1, bI v1), (2, bI v2), (3, bI v3), (4, bLg v4)]) (st' := [bI 0, bLg v4, bI v3, bI v2, bI v1, .ref (μ15 1 5).toNat]) l97_59 (fun _ => rfl) ?_
      refine b_cMi l97_60 rfl (b_rc (ci := 7) (bO_ft hk16 (ci := 8) (by rfl) rfl) (by decide) (by decide +kernel)) (Nat.le_of_ble_eq_true rfl) (Nat.le_of_ble_eq_true rfl) rfl (r_X8_addAttribute (μ15 1 5).toNat (bO_ft hk16 (ci := 8) (by rfl) rfl) v1 h1 v2 h2 v3 h3 v4 h4 0 (by decide)) fun w17 μ18 hw17 => bD.ok fun hk19 => b_pc (pc' := 63) rfl ?_
      exact b_reti l97_63 rfl hw17 (hr _)
    · exact b_thr x97_27 (by decide) (Nat.le_of_ble_eq_true rfl) (hr _)
/-! ET.needLetters -/
theorem l120_0 : (ax_dt (ax_T 120)).lookup 0 = some (.iload_n 1, 1, 0, 0, 0) := by decide +kernel
theorem l120_1 : (ax_dt (ax_T 120)).lookup 1 = some (.invokestatic 278, 3, 16, 1, 0) := by decide +kernel
theorem l120_4 : (ax_dt (ax_T 120)).lookup 4 = some (.ifCond .eq 42, 3, 0, 0, 0) := by decide +kernel
theorem l120_7 : (ax_dt (ax_T 120)).lookup 7 = some (.aload_n 0, 1, 0, 0, 0) := by decide +kernel
theorem l120_8 : (ax_dt (ax_T 120)).lookup 8 = some (.getfield 14, 3, 8, 0, 0) := by decide +kernel
theorem l120_11 : (ax_dt (ax_T 120)).lookup 11 = some (.invokevirtual 63, 3, 53, 0, 0) := by decide +kernel
theorem l120_14 : (ax_dt (ax_T 120)).lookup 14 = some (.sipush 255, 3, 0, 0, 0) := by decide +kernel
theorem l120_17 : (ax_dt (ax_T 120)).lookup 17 = some (.if_icmp .gt 29, 3, 0, 0, 0) := by decide +kernel
theorem l120_20 : (ax_dt (ax_T 120)).lookup 20 = some (.iload_n 1, 1, 0, 0, 0) := by decide +kernel
theorem l120_21 : (ax_dt (ax_T 120)).lookup 21 = some (.invokestatic 311, 3, 15, 1, 0) := by decide +kernel
theorem l120_24 : (ax_dt (ax_T 120)).lookup 24 = some (.ifCond .eq 26, 3, 0, 0, 0) := by decide +kernel
theorem l120_27 : (ax_dt (ax_T 120)).lookup 27 = some (.aload_n 0, 1, 0, 0, 0) := by decide +kernel
theorem l120_28 : (ax_dt (ax_T 120)).lookup 28 = some (.getfield 14, 3, 8, 0, 0) := by decide +kernel
theorem l120_31 : (ax_dt (ax_T 120)).lookup 31 = some (.iconst 0, 1, 0, 0, 0) := by decide +kernel
theorem l120_32 : (ax_dt (ax_T 120)).lookup 32 = some (.aload_n 0, 1, 0, 0, 0) := by decide +kernel
theorem l120_33 : (ax_dt (ax_T 120)).lookup 33 = some (.getfield 14, 3, 8, 0, 0) := by decide +kernel
theorem l120_36 : (ax_dt (ax_T 120)).lookup 36 = some (.invokevirtual 63, 3, 53, 0, 0) := by decide +kernel
theorem l120_39 : (ax_dt (ax_T 120)).lookup 39 = some (.invokevirtual 314, 3, 68, 2, 0) := by decide +kernel
theorem l120_42 : (ax_dt (ax_T 120)).lookup 42 = some (.iconst (-1), 1, 0, 0, 0) := by decide +kernel
theorem l120_43 : (ax_dt (ax_T 120)).lookup 43 = some (.if_icmp .eq 7, 3, 0, 0, 0) := by decide +kernel
theorem l120_46 : (ax_dt (ax_T 120)).lookup 46 = some (.iconst 1, 1, 0, 0, 0) := by decide +kernel
theorem l120_47 : (ax_dt (ax_T 120)).lookup 47 = some (.goto 4, 3, 0, 0, 0) := by decide +kernel
theorem l120_50 : (ax_dt (ax_T 120)).lookup 50 = some (.iconst 0, 1, 0, 0, 0) := by decide +kernel
theorem l120_51 : (ax_dt (ax_T 120)).lookup 51 = some (.istore_n 2, 1, 0, 0, 0) := by decide +kernel
theorem l120_52 : (ax_dt (ax_T 120)).lookup 52 = some (.iload_n 2, 1, 0, 0, 0) := by decide +kernel
theorem l120_53 : (ax_dt (ax_T 120)).lookup 53 = some (.ifCond .eq 14, 3, 0, 0, 0) := by decide +kernel
theorem l120_67 : (ax_dt (ax_T 120)).lookup 67 = some (.return_, 1, 0, 0, 0) := by decide +kernel
theorem x120_56 : (ax_dx (ax_T 120)).lookup 56 = some ("java/lang/IllegalArgumentException", "no such text or block", 66, 317, 70, true) := by decide +kernel
noncomputable def F_X10_needLetters (v1 : Int) (μ : bM) : Option ((Int ⊕ String) × bM) := (F_X2_isLetters v1 μ).bind fun w1 => if w1 = 0 then some (.inr "java/lang/IllegalArgumentException", μ) else (F_X6_used 2 μ).bind fun w3 => if 255 < w3 then some (.inr "java/lang/IllegalArgumentException", μ) else (F_X2_isText v1 μ).bind fun w5 => if w5 = 0 then some (.inl 0, μ) else (F_X6_used 2 μ).bind fun w7 => (F_X6_zeroFrom 2 0 w7 μ).bind fun w8 => if w8 = (-1) then some (.inl 0, μ) else some (.inr "java/lang/IllegalArgumentException", μ)
theorem r_X10_needLetters {L : Nat} {xs : Nat → Int32} {d : Nat} {μ : bM}  (v1 : Int) (h1 : bR v1) : bD L xs (d + 2) 120 0 [(0, .ref 1), (1, bI v1)] [] μ ((F_X10_needLetters v1 μ).bind (bXc)) := by
  have hr : ∀ r, (bXc) r = (bXc) r := fun _ => rfl
  unfold F_X10_needLetters
  refine bD.ok fun hk => ?_
  refine b_s (pc' := 1) (lv1 := [(0, .ref 1), (1, bI v1)]) (st' := [bI v1]) l120_0 (fun _ => rfl) ?_
  refine b_cPz l120_1 rfl (fun _ => trivial) (Nat.le_of_ble_eq_true rfl) (Nat.le_of_ble_eq_true rfl) rfl (r_X2_isLetters v1 h1) fun w1 hw1 => b_pc (pc' := 4) rfl ?_
  refine b_zeq (pt := 46) l120_4 (bZ_R hw1) (by decide) rfl (fun c2 => ?_) (fun c2 => b_pc (pc' := 7) rfl ?_)
  · refine b_s (pc' := 47) (lv1 := [(0, .ref 1), (1, bI v1)]) (st' := [bI 1]) l120_46 (fun _ => rfl) ?_
    refine b_s (pc' := 51) (lv1 := [(0, .ref 1), (1, bI v1)]) (st' := [bI 1]) l120_47 (fun _ => rfl) ?_
    refine b_w (pc' := 52) (lv1 := ax_st1 [(0, .ref 1), (1, bI v1)] 2 (bI 1)) (lv' := [(2, bI 1)]) (st' := []) l120_51 (fun _ => rfl) (bSb rfl bSn) ?_
    refine b_s (pc' := 53) (lv1 := [(2, bI 1)]) (st' := [bI 1]) l120_52 (fun _ => rfl) ?_
    refine b_neg (c := (1 : Int) = 0) (E1 := none) (by decide) ?_
    refine b_zeq (pt := 67) l120_53 (by decide) (by decide) rfl (fun z => absurd z (by decide)) (fun _ => b_pc (pc' := 56) rfl ?_)
    exact b_thr x120_56 (by decide) (Nat.le_of_ble_eq_true rfl) (hr _)
  · refine b_s (pc' := 8) (lv1 := [(0, .ref 1), (1, bI v1)]) (st' := [.ref 1]) l120_7 (fun _ => rfl) ?_
    refine b_gp (q' := 2) (j := 1) l120_8 (by rfl) (by decide) (by decide) rfl hk rfl rfl (b_pc (pc' := 11) rfl ?_)
    refine b_cPi l120_11 rfl (b_rc (ci := 5) (by rfl) (by decide) (by decide +kernel)) (Nat.le_of_ble_eq_true rfl) (Nat.le_of_ble_eq_true rfl) rfl (r_X6_used 2 (by rfl)) fun w3 hw3 => b_pc (pc' := 14) rfl ?_
    refine b_sipush l120_14 (by decide) (b_pc (pc' := 17) rfl ?_)
    refine b_igt (pt := 46) l120_17 hw3 (by decide) (by decide) rfl (fun c4 => ?_) (fun c4 => b_pc (pc' := 20) rfl ?_)
    · refine b_s (pc' := 47) (lv1 := [(0, .ref 1), (1, bI v1)]) (st' := [bI 1]) l120_46 (fun _ => rfl) ?_
      refine b_s (pc' := 51) (lv1 := [(0, .ref 1), (1, bI v1)]) (st' := [bI 1]) l120_47 (fun _ => rfl) ?_
      refine b_w (pc' := 52) (lv1 := ax_st1 [(0, .ref 1), (1, bI v1)] 2 (bI 1)) (lv' := [(2, bI 1)]) (st' := []) l120_51 (fun _ => rfl) (bSb rfl bSn) ?_
      refine b_s (pc' := 53) (lv1 := [(2, bI 1)]) (st' := [bI 1]) l120_52 (fun _ => rfl) ?_
      refine b_neg (c := (1 : Int) = 0) (E1 := none) (by decide) ?_
      refine b_zeq (pt := 67) l120_53 (by decide) (by decide) rfl (fun z => absurd z (by decide)) (fun _ => b_pc (pc' := 56) rfl ?_)
      exact b_thr x120_56 (by decide) (Nat.le_of_ble_eq_true rfl) (hr _)
    · refine b_s (pc' := 21) (lv1 := [(0, .ref 1), (1, bI v1)]) (st' := [bI v1]) l120_20 (fun _ => rfl) ?_
      refine b_cPz l120_21 rfl (fun _ => trivial) (Nat.le_of_ble_eq_true rfl) (Nat.le_of_ble_eq_true rfl) rfl (r_X2_isText v1 h1) fun w5 hw5 => b_pc (pc' := 24) rfl ?_
      refine b_zeq (pt := 50) l120_24 (bZ_R hw5) (by decide) rfl (fun c6 => ?_) (fun c6 => b_pc (pc' := 27) rfl ?_)
      · refine b_s (pc' := 51) (lv1 := [(0, .ref 1), (1, bI v1)]) (st' := [bI 0]) l120_50 (fun _ => rfl) ?_
        refine b_w (pc' := 52) (lv1 := ax_st1 [(0, .ref 1), (1, bI v1)] 2 (bI 0)) (lv' := [(2, bI 0)]) (st' := []) l120_51 (fun _ => rfl) (bSb rfl bSn) ?_
        refine b_s (pc' := 53) (lv1 := [(2, bI 0)]) (st' := [bI 0]) l120_52 (fun _ => rfl) ?_
        refine b_pos (c := (0 : Int) = 0) (E2 := none) (by decide) ?_
        refine b_zeq (pt := 67) l120_53 (by decide) (by decide) rfl (fun _ => ?_) (fun z => absurd (show (0 : Int) = 0 by decide) z)
        exact b_retv l120_67 rfl (hr _)
      · refine b_s (pc' := 28) (lv1 := [(0, .ref 1), (1, bI v1)]) (st' := [.ref 1]) l120_27 (fun _ => rfl) ?_
        refine b_gp (q' := 2) (j := 1) l120_28 (by rfl) (by decide) (by decide) rfl hk rfl rfl (b_pc (pc' := 31) rfl ?_)
        refine b_s (pc' := 32) (lv1 := [(0, .ref 1), (1, bI v1)]) (st' := [bI 0, .ref 2]) l120_31 (fun _ => rfl) ?_
        refine b_s (pc' := 33) (lv1 := [(0, .ref 1), (1, bI v1)]) (st' := [.ref 1, bI 0, .ref 2]) l120_32 (fun _ => rfl) ?_
        refine b_gp (q' := 2) (j := 1) l120_33 (by rfl) (by decide) (by decide) rfl hk rfl rfl (b_pc (pc' := 36) rfl ?_)
        refine b_cPi l120_36 rfl (b_rc (ci := 5) (by rfl) (by decide) (by decide +kernel)) (Nat.le_of_ble_eq_true rfl) (Nat.le_of_ble_eq_true rfl) rfl (r_X6_used 2 (by rfl)) fun w7 hw7 => b_pc (pc' := 39) rfl ?_
        refine b_cPi l120_39 rfl (b_rc (ci := 5) (by rfl) (by decide) (by decide +kernel)) (Nat.le_of_ble_eq_true rfl) (Nat.le_of_ble_eq_true rfl) rfl (r_X6_zeroFrom 2 (by rfl) 0 (by decide) w7 hw7) fun w8 hw8 => b_pc (pc' := 42) rfl ?_
        refine b_s (pc' := 43) (lv1 := [(0, .ref 1), (1, bI v1)]) (st' := [bI (-1), bI w8]) l120_42 (fun _ => rfl) ?_
        refine b_ieq (pt := 50) l120_43 hw8 (by decide) (by decide) rfl (fun c9 => ?_) (fun c9 => b_pc (pc' := 46) rfl ?_)
        · refine b_s (pc' := 51) (lv1 := [(0, .ref 1), (1, bI v1)]) (st' := [bI 0]) l120_50 (fun _ => rfl) ?_
          refine b_w (pc' := 52) (lv1 := ax_st1 [(0, .ref 1), (1, bI v1)] 2 (bI 0)) (lv' := [(2, bI 0)]) (st' := []) l120_51 (fun _ => rfl) (bSb rfl bSn) ?_
          refine b_s (pc' := 53) (lv1 := [(2, bI 0)]) (st' := [bI 0]) l120_52 (fun _ => rfl) ?_
          refine b_pos (c := (0 : Int) = 0) (E2 := none) (by decide) ?_
          refine b_zeq (pt := 67) l120_53 (by decide) (by decide) rfl (fun _ => ?_) (fun z => absurd (show (0 : Int) = 0 by decide) z)
          exact b_retv l120_67 rfl (hr _)
        · refine b_s (pc' := 47) (lv1 := [(0, .ref 1), (1, bI v1)]) (st' := [bI 1]) l120_46 (fun _ => rfl) ?_
          refine b_s (pc' := 51) (lv1 := [(0, .ref 1), (1, bI v1)]) (st' := [bI 1]) l120_47 (fun _ => rfl) ?_
          refine b_w (pc' := 52) (lv1 := ax_st1 [(0, .ref 1), (1, bI v1)] 2 (bI 1)) (lv' := [(2, bI 1)]) (st' := []) l120_51 (fun _ => rfl) (bSb rfl bSn) ?_
          refine b_s (pc' := 53) (lv1 := [(2, bI 1)]) (st' := [bI 1]) l120_52 (fun _ => rfl) ?_
          refine b_neg (c := (1 : Int) = 0) (E1 := none) (by decide) ?_
          refine b_zeq (pt := 67) l120_53 (by decide) (by decide) rfl (fun z => absurd z (by decide)) (fun _ => b_pc (pc' := 56) rfl ?_)
          exact b_thr x120_56 (by decide) (Nat.le_of_ble_eq_true rfl) (hr _)
/-! ET.bytes -/
theorem l98_0 : (ax_dt (ax_T 98)).lookup 0 = some (.aload_n 0, 1, 0, 0, 0) := by decide +kernel
theorem l98_1 : (ax_dt (ax_T 98)).lookup 1 = some (.iload_n 1, 1, 0, 0, 0) := by decide +kernel
theorem l98_2 : (ax_dt (ax_T 98)).lookup 2 = some (.invokevirtual 96, 3, 117, 1, 0) := by decide +kernel
theorem l98_5 : (ax_dt (ax_T 98)).lookup 5 = some (.aload_n 0, 1, 0, 0, 0) := by decide +kernel
theorem l98_6 : (ax_dt (ax_T 98)).lookup 6 = some (.iload_n 1, 1, 0, 0, 0) := by decide +kernel
theorem l98_7 : (ax_dt (ax_T 98)).lookup 7 = some (.iload_n 2, 1, 0, 0, 0) := by decide +kernel
theorem l98_8 : (ax_dt (ax_T 98)).lookup 8 = some (.invokevirtual 109, 3, 119, 2, 0) := by decide +kernel
theorem l98_11 : (ax_dt (ax_T 98)).lookup 11 = some (.aload_n 0, 1, 0, 0, 0) := by decide +kernel
theorem l98_12 : (ax_dt (ax_T 98)).lookup 12 = some (.iload_n 3, 1, 0, 0, 0) := by decide +kernel
theorem l98_13 : (ax_dt (ax_T 98)).lookup 13 = some (.invokevirtual 132, 3, 120, 1, 0) := by decide +kernel
theorem l98_16 : (ax_dt (ax_T 98)).lookup 16 = some (.aload_n 0, 1, 0, 0, 0) := by decide +kernel
theorem l98_17 : (ax_dt (ax_T 98)).lookup 17 = some (.getfield 14, 3, 8, 0, 0) := by decide +kernel
theorem l98_20 : (ax_dt (ax_T 98)).lookup 20 = some (.invokevirtual 63, 3, 53, 0, 0) := by decide +kernel
theorem l98_23 : (ax_dt (ax_T 98)).lookup 23 = some (.istore 4, 2, 0, 0, 0) := by decide +kernel
theorem l98_25 : (ax_dt (ax_T 98)).lookup 25 = some (.aload_n 0, 1, 0, 0, 0) := by decide +kernel
theorem l98_26 : (ax_dt (ax_T 98)).lookup 26 = some (.iload_n 1, 1, 0, 0, 0) := by decide +kernel
theorem l98_27 : (ax_dt (ax_T 98)).lookup 27 = some (.iload 4, 2, 0, 0, 0) := by decide +kernel
theorem l98_29 : (ax_dt (ax_T 98)).lookup 29 = some (.invokevirtual 125, 3, 121, 2, 0) := by decide +kernel
theorem l98_32 : (ax_dt (ax_T 98)).lookup 32 = some (.aload_n 0, 1, 0, 0, 0) := by decide +kernel
theorem l98_33 : (ax_dt (ax_T 98)).lookup 33 = some (.getfield 18, 3, 8, 1, 0) := by decide +kernel
theorem l98_36 : (ax_dt (ax_T 98)).lookup 36 = some (.invokevirtual 63, 3, 53, 0, 0) := by decide +kernel
theorem l98_39 : (ax_dt (ax_T 98)).lookup 39 = some (.istore 5, 2, 0, 0, 0) := by decide +kernel
theorem l98_41 : (ax_dt (ax_T 98)).lookup 41 = some (.aload_n 0, 1, 0, 0, 0) := by decide +kernel
theorem l98_42 : (ax_dt (ax_T 98)).lookup 42 = some (.getfield 18, 3, 8, 1, 0) := by decide +kernel
theorem l98_45 : (ax_dt (ax_T 98)).lookup 45 = some (.aload_n 0, 1, 0, 0, 0) := by decide +kernel
theorem l98_46 : (ax_dt (ax_T 98)).lookup 46 = some (.getfield 14, 3, 8, 0, 0) := by decide +kernel
theorem l98_49 : (ax_dt (ax_T 98)).lookup 49 = some (.iconst 0, 1, 0, 0, 0) := by decide +kernel
theorem l98_50 : (ax_dt (ax_T 98)).lookup 50 = some (.iload 4, 2, 0, 0, 0) := by decide +kernel
theorem l98_52 : (ax_dt (ax_T 98)).lookup 52 = some (.invokevirtual 135, 3, 65, 3, 0) := by decide +kernel
theorem l98_55 : (ax_dt (ax_T 98)).lookup 55 = some (.aload_n 0, 1, 0, 0, 0) := by decide +kernel
theorem l98_56 : (ax_dt (ax_T 98)).lookup 56 = some (.getfield 14, 3, 8, 0, 0) := by decide +kernel
theorem l98_59 : (ax_dt (ax_T 98)).lookup 59 = some (.iconst 0, 1, 0, 0, 0) := by decide +kernel
theorem l98_60 : (ax_dt (ax_T 98)).lookup 60 = some (.invokevirtual 71, 3, 58, 1, 0) := by decide +kernel
theorem l98_63 : (ax_dt (ax_T 98)).lookup 63 = some (.aload_n 0, 1, 0, 0, 0) := by decide +kernel
theorem l98_64 : (ax_dt (ax_T 98)).lookup 64 = some (.getfield 31, 3, 8, 3, 0) := by decide +kernel
theorem l98_67 : (ax_dt (ax_T 98)).lookup 67 = some (.invokevirtual 89, 3, 23, 0, 0) := by decide +kernel
theorem l98_70 : (ax_dt (ax_T 98)).lookup 70 = some (.aload_n 0, 1, 0, 0, 0) := by decide +kernel
theorem l98_71 : (ax_dt (ax_T 98)).lookup 71 = some (.getfield 45, 3, 8, 5, 0) := by decide +kernel
theorem l98_74 : (ax_dt (ax_T 98)).lookup 74 = some (.iload_n 1, 1, 0, 0, 0) := by decide +kernel
theorem l98_75 : (ax_dt (ax_T 98)).lookup 75 = some (.iload_n 2, 1, 0, 0, 0) := by decide +kernel
theorem l98_76 : (ax_dt (ax_T 98)).lookup 76 = some (.iload_n 3, 1, 0, 0, 0) := by decide +kernel
theorem l98_77 : (ax_dt (ax_T 98)).lookup 77 = some (.iload 5, 2, 0, 0, 0) := by decide +kernel
theorem l98_79 : (ax_dt (ax_T 98)).lookup 79 = some (.i2l, 1, 0, 0, 0) := by decide +kernel
theorem l98_80 : (ax_dt (ax_T 98)).lookup 80 = some (.iload 4, 2, 0, 0, 0) := by decide +kernel
theorem l98_82 : (ax_dt (ax_T 98)).lookup 82 = some (.invokevirtual 128, 3, 83, 5, 0) := by decide +kernel
theorem l98_85 : (ax_dt (ax_T 98)).lookup 85 = some (.ireturn, 1, 0, 0, 0) := by decide +kernel
noncomputable def F_X10_bytes (v1 : Int) (v2 : Int) (v3 : Int) (μ : bM) : Option ((Int ⊕ String) × bM) := bXm (F_X10_needEntry v1 μ) (fun w1 μ2 => bXm (F_X10_needNewName v1 v2 μ2) (fun w4 μ5 => bXm (F_X10_needLetters v3 μ5) (fun w7 μ8 => (F_X6_used 2 μ8).bind fun w10 => bXm (F_X10_needRoom v1 w10 μ8) (fun w11 μ12 => (F_X6_used 4 μ12).bind fun w14 => bMm (F_X6_addFrom 4 2 0 w10 μ12) (fun w15 μ16 => bMm (F_X6_cut 2 0 μ16) (fun w18 μ19 => bMm (F_X3_forget μ19) (fun w21 μ22 => bMm (F_X8_addAttribute (μ22 1 5).toNat v1 v2 v3 w14 w10 μ22) (fun w24 μ25 => some (.inl w24, μ25)))))) (fun e μ => some (.inr e, μ))) (fun e μ => some (.inr e, μ))) (fun e μ => some (.inr e, μ))) (fun e μ => some (.inr e, μ))
theorem r_X10_bytes {L : Nat} {xs : Nat → Int32} {d : Nat} {μ : bM}  (v1 : Int) (h1 : bR v1) (v2 : Int) (h2 : bR v2) (v3 : Int) (h3 : bR v3) : bD L xs (d + 3) 98 0 [(0, .ref 1), (1, bI v1), (2, bI v2), (3, bI v3)] [] μ ((F_X10_bytes v1 v2 v3 μ).bind (bXc)) := by
  have hr : ∀ r, (bXc) r = (bXc) r := fun _ => rfl
  unfold F_X10_bytes
  refine bD.ok fun hk => ?_
  refine b_s (pc' := 1) (lv1 := [(0, .ref 1), (1, bI v1), (2, bI v2), (3, bI v3)]) (st' := [.ref 1]) l98_0 (fun _ => rfl) ?_
  refine b_s (pc' := 2) (lv1 := [(0, .ref 1), (1, bI v1), (2, bI v2), (3, bI v3)]) (st' := [bI v1, .ref 1]) l98_1 (fun _ => rfl) ?_
  refine b_cXv l98_2 rfl (b_rc (ci := 8) (by rfl) (by decide) (by decide +kernel)) (Nat.le_of_ble_eq_true rfl) (Nat.le_of_ble_eq_true rfl) rfl (r_X10_needEntry v1 h1) ⟨fun _ z => (by cases z), (by decide +kernel)⟩ rfl (fun _ _ => hr _) fun w1 μ2 hw1 => bD.ok fun hk3 => b_pc (pc' := 5) rfl ?_
  refine b_s (pc' := 6) (lv1 := [(0, .ref 1), (1, bI v1), (2, bI v2), (3, bI v3)]) (st' := [.ref 1]) l98_5 (fun _ => rfl) ?_
  refine b_s (pc' := 7) (lv1 := [(0, .ref 1), (1, bI v1), (2, bI v2), (3, bI v3)]) (st' := [bI v1, .ref 1]) l98_6 (fun _ => rfl) ?_
  refine b_s (pc' := 8) (lv1 := [(0, .ref 1), (1, bI v1), (2, bI v2), (3, bI v3)]) (st' := [bI v2, bI v1, .ref 1]) l98_7 (fun _ => rfl) ?_
  refine b_cXv l98_8 rfl (b_rc (ci := 8) (by rfl) (by decide) (by decide +kernel)) (Nat.le_of_ble_eq_true rfl) (Nat.le_of_ble_eq_true rfl) rfl (r_X10_needNewName v1 h1 v2 h2) ⟨fun _ z => (by cases z), (by decide +kernel)⟩ rfl (fun _ _ => hr _) fun w4 μ5 hw4 => bD.ok fun hk6 => b_pc (pc' := 11) rfl ?_
  refine b_s (pc' := 12) (lv1 := [(0, .ref 1), (1, bI v1), (2, bI v2), (3, bI v3)]) (st' := [.ref 1]) l98_11 (fun _ => rfl) ?_
  refine b_s (pc' := 13) (lv1 := [(0, .ref 1), (1, bI v1), (2, bI v2), (3, bI v3)]) (st' := [bI v3, .ref 1]) l98_12 (fun _ => rfl) ?_
  refine b_cXv l98_13 rfl (b_rc (ci := 8) (by rfl) (by decide) (by decide +kernel)) (Nat.le_of_ble_eq_true rfl) (Nat.le_of_ble_eq_true rfl) rfl (r_X10_needLetters v3 h3) ⟨fun _ z => (by cases z), (by decide +kernel)⟩ rfl (fun _ _ => hr _) fun w7 μ8 hw7 => bD.ok fun hk9 => b_pc (pc' := 16) rfl ?_
  refine b_s (pc' := 17) (lv1 := [(0, .ref 1), (1, bI v1), (2, bI v2), (3, bI v3)]) (st' := [.ref 1]) l98_16 (fun _ => rfl) ?_
  refine b_gp (q' := 2) (j := 1) l98_17 (by rfl) (by decide) (by decide) rfl hk9 rfl rfl (b_pc (pc' := 20) rfl ?_)
  refine b_cPi l98_20 rfl (b_rc (ci := 5) (by rfl) (by decide) (by decide +kernel)) (Nat.le_of_ble_eq_true rfl) (Nat.le_of_ble_eq_true rfl) rfl (r_X6_used 2 (by rfl)) fun w10 hw10 => b_pc (pc' := 23) rfl ?_
  refine b_w (pc' := 25) (lv1 := ax_st1 [(0, .ref 1), (1, bI v1), (2, bI v2), (3, bI v3)] 4 (bI w10)) (lv' := [(0, .ref 1), (1, bI v1), (2, bI v2), (3, bI v3), (4, bI w10)]) (st' := []) l98_23 (fun _ => rfl) (bSb rfl (bSb rfl (bSb rfl (bSb rfl (bSb rfl bSn))))) ?_
  refine b_s (pc' := 26) (lv1 := [(0, .ref 1), (1, bI v1), (2, bI v2), (3, bI v3), (4, bI w10)]) (st' := [.ref 1]) l98_25 (fun _ => rfl) ?_
  refine b_s (pc' := 27) (lv1 := [(0, .ref 1), (1, bI v1), (2, bI v2), (3, bI v3), (4, bI w10)]) (st' := [bI v1, .ref 1]) l98_26 (fun _ => rfl) ?_
  refine b_s (pc' := 29) (lv1 := [(0, .ref 1), (1, bI v1), (2, bI v2), (3, bI v3), (4, bI w10)]) (st' := [bI w10, bI v1, .ref 1]) l98_27 (fun _ => rfl) ?_
  refine b_cXv l98_29 rfl (b_rc (ci := 8) (by rfl) (by decide) (by decide +kernel)) (Nat.le_of_ble_eq_true rfl) (Nat.le_of_ble_eq_true rfl) rfl (r_X10_needRoom v1 h1 w10 hw10) ⟨fun _ z => (by cases z), (by decide +kernel)⟩ rfl (fun _ _ => hr _) fun w11 μ12 hw11 => bD.ok fun hk13 => b_pc (pc' := 32) rfl ?_
  refine b_s (pc' := 33) (lv1 := [(0, .ref 1), (1, bI v1), (2, bI v2), (3, bI v3), (4, bI w10)]) (st' := [.ref 1]) l98_32 (fun _ => rfl) ?_
  refine b_gp (q' := 4) (j := 3) l98_33 (by rfl) (by decide) (by decide) rfl hk13 rfl rfl (b_pc (pc' := 36) rfl ?_)
  refine b_cPi l98_36 rfl (b_rc (ci := 5) (by rfl) (by decide) (by decide +kernel)) (Nat.le_of_ble_eq_true rfl) (Nat.le_of_ble_eq_true rfl) rfl (r_X6_used 4 (by rfl)) fun w14 hw14 => b_pc (pc' := 39) rfl ?_
  refine b_w (pc' := 41) (lv1 := ax_st1 [(0, .ref 1), (1, bI v1), (2, bI v2), (3, bI v3), (4, bI w10)] 5 (bI w14)) (lv' := [(0, .ref 1), (1, bI v1), (2, bI v2), (3, bI v3), (4, bI w10), (5, bI w14)]) (st' := []) l98_39 (fun _ => rfl) (bSb rfl (bSb rfl (bSb rfl (bSb rfl (bSb rfl (bSb rfl bSn)))))) ?_
  refine b_s (pc' := 42) (lv1 := [(0, .ref 1), (1, bI v1), (2, bI v2), (3, bI v3), (4, bI w10), (5, bI w14)]) (st' := [.ref 1]) l98_41 (fun _ => rfl) ?_
  refine b_gp (q' := 4) (j := 3) l98_42 (by rfl) (by decide) (by decide) rfl hk13 rfl rfl (b_pc (pc' := 45) rfl ?_)
  refine b_s (pc' := 46) (lv1 := [(0, .ref 1), (1, bI v1), (2, bI v2), (3, bI v3), (4, bI w10), (5, bI w14)]) (st' := [.ref 1, .ref 4]) l98_45 (fun _ => rfl) ?_
  refine b_gp (q' := 2) (j := 1) l98_46 (by rfl) (by decide) (by decide) rfl hk13 rfl rfl (b_pc (pc' := 49) rfl ?_)
  refine b_s (pc' := 50) (lv1 := [(0, .ref 1), (1, bI v1), (2, bI v2), (3, bI v3), (4, bI w10), (5, bI w14)]) (st' := [bI 0, .ref 2, .ref 4]) l98_49 (fun _ => rfl) ?_
  refine b_s (pc' := 52) (lv1 := [(0, .ref 1), (1, bI v1), (2, bI v2), (3, bI v3), (4, bI w10), (5, bI w14)]) (st' := [bI w10, bI 0, .ref 2, .ref 4]) l98_50 (fun _ => rfl) ?_
  refine b_cMv l98_52 rfl (b_rc (ci := 5) (by rfl) (by decide) (by decide +kernel)) (Nat.le_of_ble_eq_true rfl) (Nat.le_of_ble_eq_true rfl) rfl (r_X6_addFrom 4 (by rfl) 2 (by rfl) 0 (by decide) w10 hw10) fun w15 μ16 hw15 => bD.ok fun hk17 => b_pc (pc' := 55) rfl ?_
  refine b_s (pc' := 56) (lv1 := [(0, .ref 1), (1, bI v1), (2, bI v2), (3, bI v3), (4, bI w10), (5, bI w14)]) (st' := [.ref 1]) l98_55 (fun _ => rfl) ?_
  refine b_gp (q' := 2) (j := 1) l98_56 (by rfl) (by decide) (by decide) rfl hk17 rfl rfl (b_pc (pc' := 59) rfl ?_)
  refine b_s (pc' := 60) (lv1 := [(0, .ref 1), (1, bI v1), (2, bI v2), (3, bI v3), (4, bI w10), (5, bI w14)]) (st' := [bI 0, .ref 2]) l98_59 (fun _ => rfl) ?_
  refine b_cMv l98_60 rfl (b_rc (ci := 5) (by rfl) (by decide) (by decide +kernel)) (Nat.le_of_ble_eq_true rfl) (Nat.le_of_ble_eq_true rfl) rfl (r_X6_cut 2 (by rfl) 0 (by decide)) fun w18 μ19 hw18 => bD.ok fun hk20 => b_pc (pc' := 63) rfl ?_
  refine b_s (pc' := 64) (lv1 := [(0, .ref 1), (1, bI v1), (2, bI v2), (3, bI v3), (4, bI w10), (5, bI w14)]) (st' := [.ref 1]) l98_63 (fun _ => rfl) ?_
  refine b_gp (q' := 13) (j := 12) l98_64 (by rfl) (by decide) (by decide) rfl hk20 rfl rfl (b_pc (pc' := 67) rfl ?_)
  refine b_cMv l98_67 rfl (b_rc (ci := 2) (by rfl) (by decide) (by decide +kernel)) (Nat.le_of_ble_eq_true rfl) (Nat.le_of_ble_eq_true rfl) rfl (r_X3_forget ) fun w21 μ22 hw21 => bD.ok fun hk23 => b_pc (pc' := 70) rfl ?_
  refine b_s (pc' := 71) (lv1 := [(0, .ref 1), (1, bI v1), (2, bI v2), (3, bI v3), (4, bI w10), (5, bI w14)]) (st' := [.ref 1]) l98_70 (fun _ => rfl) ?_
  refine b_gr l98_71 (by rfl) (by decide) (by decide) rfl (b_pc (pc' := 74) rfl ?_)
  refine b_s (pc' := 75) (lv1 := [(0, .ref 1), (1, bI v1), (2, bI v2), (3, bI v3), (4, bI w10), (5, bI w14)]) (st' := [bI v1, .ref (μ22 1 5).toNat]) l98_74 (fun _ => rfl) ?_
  refine b_s (pc' := 76) (lv1 := [(0, .ref 1), (1, bI v1), (2, bI v2), (3, bI v3), (4, bI w10), (5, bI w14)]) (st' := [bI v2, bI v1, .ref (μ22 1 5).toNat]) l98_75 (fun _ => rfl) ?_
  refine b_s (pc' := 77) (lv1 := [(0, .ref 1), (1, bI v1), (2, bI v2), (3, bI v3), (4, bI w10), (5, bI w14)]) (st' := [bI v3, bI v2, bI v1, .ref (μ22 1 5).toNat]) l98_76 (fun _ => rfl) ?_
  refine b_s (pc' := 79) (lv1 := [(0, .ref 1), (1, bI v1), (2, bI v2), (3, bI v3), (4, bI w10), (5, bI w14)]) (st' := [bI w14, bI v3, bI v2, bI v1, .ref (μ22 1 5).toNat]) l98_77 (fun _ => rfl) ?_
  refine b_i2l l98_79 hw14 (b_pc (pc' := 80) rfl ?_)
  refine b_s (pc' := 82) (lv1 := [(0, .ref 1), (1, bI v1), (2, bI v2), (3, bI v3), (4, bI w10), (5, bI w14)]) (st' := [bI w10, bLg w14, bI v3, bI v2, bI v1, .ref (μ22 1 5).toNat]) l98_80 (fun _ => rfl) ?_
  refine b_cMi l98_82 rfl (b_rc (ci := 7) (bO_ft hk23 (ci := 8) (by rfl) rfl) (by decide) (by decide +kernel)) (Nat.le_of_ble_eq_true rfl) (Nat.le_of_ble_eq_true rfl) rfl (r_X8_addAttribute (μ22 1 5).toNat (bO_ft hk23 (ci := 8) (by rfl) rfl) v1 h1 v2 h2 v3 h3 w14 (bR_L hw14) w10 hw10) fun w24 μ25 hw24 => bD.ok fun hk26 => b_pc (pc' := 85) rfl ?_
  exact b_reti l98_85 rfl hw24 (hr _)
/-! ET.reference -/
theorem l99_0 : (ax_dt (ax_T 99)).lookup 0 = some (.aload_n 0, 1, 0, 0, 0) := by decide +kernel
theorem l99_1 : (ax_dt (ax_T 99)).lookup 1 = some (.iload_n 1, 1, 0, 0, 0) := by decide +kernel
theorem l99_2 : (ax_dt (ax_T 99)).lookup 2 = some (.invokevirtual 96, 3, 117, 1, 0) := by decide +kernel
theorem l99_5 : (ax_dt (ax_T 99)).lookup 5 = some (.aload_n 0, 1, 0, 0, 0) := by decide +kernel
theorem l99_6 : (ax_dt (ax_T 99)).lookup 6 = some (.iload 4, 2, 0, 0, 0) := by decide +kernel
theorem l99_8 : (ax_dt (ax_T 99)).lookup 8 = some (.invokevirtual 96, 3, 117, 1, 0) := by decide +kernel
theorem l99_11 : (ax_dt (ax_T 99)).lookup 11 = some (.aload_n 0, 1, 0, 0, 0) := by decide +kernel
theorem l99_12 : (ax_dt (ax_T 99)).lookup 12 = some (.getfield 45, 3, 8, 5, 0) := by decide +kernel
theorem l99_15 : (ax_dt (ax_T 99)).lookup 15 = some (.getfield 139, 3, 7, 5, 0) := by decide +kernel
theorem l99_18 : (ax_dt (ax_T 99)).lookup 18 = some (.iload_n 1, 1, 0, 0, 0) := by decide +kernel
theorem l99_19 : (ax_dt (ax_T 99)).lookup 19 = some (.iaload, 1, 0, 0, 0) := by decide +kernel
theorem l99_20 : (ax_dt (ax_T 99)).lookup 20 = some (.aload_n 0, 1, 0, 0, 0) := by decide +kernel
theorem l99_21 : (ax_dt (ax_T 99)).lookup 21 = some (.getfield 45, 3, 8, 5, 0) := by decide +kernel
theorem l99_24 : (ax_dt (ax_T 99)).lookup 24 = some (.getfield 139, 3, 7, 5, 0) := by decide +kernel
theorem l99_27 : (ax_dt (ax_T 99)).lookup 27 = some (.iload 4, 2, 0, 0, 0) := by decide +kernel
theorem l99_29 : (ax_dt (ax_T 99)).lookup 29 = some (.iaload, 1, 0, 0, 0) := by decide +kernel
theorem l99_30 : (ax_dt (ax_T 99)).lookup 30 = some (.if_icmp .eq 13, 3, 0, 0, 0) := by decide +kernel
theorem l99_43 : (ax_dt (ax_T 99)).lookup 43 = some (.aload_n 0, 1, 0, 0, 0) := by decide +kernel
theorem l99_44 : (ax_dt (ax_T 99)).lookup 44 = some (.iload_n 1, 1, 0, 0, 0) := by decide +kernel
theorem l99_45 : (ax_dt (ax_T 99)).lookup 45 = some (.iload_n 2, 1, 0, 0, 0) := by decide +kernel
theorem l99_46 : (ax_dt (ax_T 99)).lookup 46 = some (.invokevirtual 109, 3, 119, 2, 0) := by decide +kernel
theorem l99_49 : (ax_dt (ax_T 99)).lookup 49 = some (.iload_n 3, 1, 0, 0, 0) := by decide +kernel
theorem l99_50 : (ax_dt (ax_T 99)).lookup 50 = some (.invokestatic 144, 3, 17, 1, 0) := by decide +kernel
theorem l99_53 : (ax_dt (ax_T 99)).lookup 53 = some (.ifCond .ne 13, 3, 0, 0, 0) := by decide +kernel
theorem l99_66 : (ax_dt (ax_T 99)).lookup 66 = some (.aload_n 0, 1, 0, 0, 0) := by decide +kernel
theorem l99_67 : (ax_dt (ax_T 99)).lookup 67 = some (.iload_n 1, 1, 0, 0, 0) := by decide +kernel
theorem l99_68 : (ax_dt (ax_T 99)).lookup 68 = some (.iconst 0, 1, 0, 0, 0) := by decide +kernel
theorem l99_69 : (ax_dt (ax_T 99)).lookup 69 = some (.invokevirtual 125, 3, 121, 2, 0) := by decide +kernel
theorem l99_72 : (ax_dt (ax_T 99)).lookup 72 = some (.aload_n 0, 1, 0, 0, 0) := by decide +kernel
theorem l99_73 : (ax_dt (ax_T 99)).lookup 73 = some (.getfield 31, 3, 8, 3, 0) := by decide +kernel
theorem l99_76 : (ax_dt (ax_T 99)).lookup 76 = some (.invokevirtual 89, 3, 23, 0, 0) := by decide +kernel
theorem l99_79 : (ax_dt (ax_T 99)).lookup 79 = some (.aload_n 0, 1, 0, 0, 0) := by decide +kernel
theorem l99_80 : (ax_dt (ax_T 99)).lookup 80 = some (.getfield 45, 3, 8, 5, 0) := by decide +kernel
theorem l99_83 : (ax_dt (ax_T 99)).lookup 83 = some (.iload_n 1, 1, 0, 0, 0) := by decide +kernel
theorem l99_84 : (ax_dt (ax_T 99)).lookup 84 = some (.iload_n 2, 1, 0, 0, 0) := by decide +kernel
theorem l99_85 : (ax_dt (ax_T 99)).lookup 85 = some (.iload_n 3, 1, 0, 0, 0) := by decide +kernel
theorem l99_86 : (ax_dt (ax_T 99)).lookup 86 = some (.iload 4, 2, 0, 0, 0) := by decide +kernel
theorem l99_88 : (ax_dt (ax_T 99)).lookup 88 = some (.i2l, 1, 0, 0, 0) := by decide +kernel
theorem l99_89 : (ax_dt (ax_T 99)).lookup 89 = some (.iconst 0, 1, 0, 0, 0) := by decide +kernel
theorem l99_90 : (ax_dt (ax_T 99)).lookup 90 = some (.invokevirtual 128, 3, 83, 5, 0) := by decide +kernel
theorem l99_93 : (ax_dt (ax_T 99)).lookup 93 = some (.ireturn, 1, 0, 0, 0) := by decide +kernel
theorem x99_33 : (ax_dx (ax_T 99)).lookup 33 = some ("java/lang/IllegalStateException", "an entry of another unit", 53, 142, 57, false) := by decide +kernel
theorem x99_56 : (ax_dx (ax_T 99)).lookup 56 = some ("java/lang/IllegalArgumentException", "no form of a reference", 66, 147, 70, false) := by decide +kernel
noncomputable def F_X10_reference (v1 : Int) (v2 : Int) (v3 : Int) (v4 : Int) (μ : bM) : Option ((Int ⊕ String) × bM) := bXm (F_X10_needEntry v1 μ) (fun w1 μ2 => bXm (F_X10_needEntry v4 μ2) (fun w4 μ5 => bG (0 ≤ v1 ∧ v1 < 400) (bG (0 ≤ v4 ∧ v4 < 400) (if (μ5 ((μ5 1 5).toNat + 4) v1.toNat) = (μ5 ((μ5 1 5).toNat + 4) v4.toNat) then bXm (F_X10_needNewName v1 v2 μ5) (fun w8 μ9 => (F_X2_isReference v3 μ9).bind fun w11 => if ¬ w11 = 0 then bXm (F_X10_needRoom v1 0 μ9) (fun w13 μ14 => bMm (F_X3_forget μ14) (fun w16 μ17 => bMm (F_X8_addAttribute (μ17 1 5).toNat v1 v2 v3 v4 0 μ17) (fun w19 μ20 => some (.inl w19, μ20)))) (fun e μ => some (.inr e, μ)) else some (.inr "java/lang/IllegalArgumentException", μ9)) (fun e μ => some (.inr e, μ)) else some (.inr "java/lang/IllegalStateException", μ5)))) (fun e μ => some (.inr e, μ))) (fun e μ => some (.inr e, μ))
theorem r_X10_reference {L : Nat} {xs : Nat → Int32} {d : Nat} {μ : bM}  (v1 : Int) (h1 : bR v1) (v2 : Int) (h2 : bR v2) (v3 : Int) (h3 : bR v3) (v4 : Int) (h4 : bR v4) : bD L xs (d + 3) 99 0 [(0, .ref 1), (1, bI v1), (2, bI v2), (3, bI v3), (4, bI v4)] [] μ ((F_X10_reference v1 v2 v3 v4 μ).bind (bXc)) := by
  have hr : ∀ r, (bXc) r = (bXc) r := fun _ => rfl
  unfold F_X10_reference
  refine bD.ok fun hk => ?_
  refine b_s (pc' := 1) (lv1 := [(0, .ref 1), (1, bI v1), (2, bI v2), (3, bI v3), (4, bI v4)]) (st' := [.ref 1]) l99_0 (fun _ => rfl) ?_
  refine b_s (pc' := 2) (lv1 := [(0, .ref 1), (1, bI v1), (2, bI v2), (3, bI v3), (4, bI v4)]) (st' := [bI v1, .ref 1]) l99_1 (fun _ => rfl) ?_
  refine b_cXv l99_2 rfl (b_rc (ci := 8) (by rfl) (by decide) (by decide +kernel)) (Nat.le_of_ble_eq_true rfl) (Nat.le_of_ble_eq_true rfl) rfl (r_X10_needEntry v1 h1) ⟨fun _ z => (by cases z), (by decide +kernel)⟩ rfl (fun _ _ => hr _) fun w1 μ2 hw1 => bD.ok fun hk3 => b_pc (pc' := 5) rfl ?_
  refine b_s (pc' := 6) (lv1 := [(0, .ref 1), (1, bI v1), (2, bI v2), (3, bI v3), (4, bI v4)]) (st' := [.ref 1]) l99_5 (fun _ => rfl) ?_
  refine b_s (pc' := 8) (lv1 := [(0, .ref 1), (1, bI v1), (2, bI v2), (3, bI v3), (4, bI v4)]) (st' := [bI v4, .ref 1]) l99_6 (fun _ => rfl) ?_
  refine b_cXv l99_8 rfl (b_rc (ci := 8) (by rfl) (by decide) (by decide +kernel)) (Nat.le_of_ble_eq_true rfl) (Nat.le_of_ble_eq_true rfl) rfl (r_X10_needEntry v4 h4) ⟨fun _ z => (by cases z), (by decide +kernel)⟩ rfl (fun _ _ => hr _) fun w4 μ5 hw4 => bD.ok fun hk6 => b_pc (pc' := 11) rfl ?_
  refine b_s (pc' := 12) (lv1 := [(0, .ref 1), (1, bI v1), (2, bI v2), (3, bI v3), (4, bI v4)]) (st' := [.ref 1]) l99_11 (fun _ => rfl) ?_
  refine b_gr l99_12 (by rfl) (by decide) (by decide) rfl (b_pc (pc' := 15) rfl ?_)
  refine b_gp (q' := ((μ5 1 5).toNat + 4)) (j := 4) l99_15 (bO_ft hk6 (ci := 8) (by rfl) rfl) (by decide) (by decide) rfl hk6 rfl rfl (b_pc (pc' := 18) rfl ?_)
  refine b_s (pc' := 19) (lv1 := [(0, .ref 1), (1, bI v1), (2, bI v2), (3, bI v3), (4, bI v4)]) (st' := [bI v1, .ref ((μ5 1 5).toNat + 4)]) l99_18 (fun _ => rfl) ?_
  refine b_g fun g23 => ?_
  refine b_ial l99_19 (bTree_e (bO_ft hk6 (ci := 8) (by rfl) rfl) 4 (by decide)) g23 (b_pc (pc' := 20) rfl ?_)
  refine b_s (pc' := 21) (lv1 := [(0, .ref 1), (1, bI v1), (2, bI v2), (3, bI v3), (4, bI v4)]) (st' := [.ref 1, bI (μ5 ((μ5 1 5).toNat + 4) v1.toNat)]) l99_20 (fun _ => rfl) ?_
  refine b_gr l99_21 (by rfl) (by decide) (by decide) rfl (b_pc (pc' := 24) rfl ?_)
  refine b_gp (q' := ((μ5 1 5).toNat + 4)) (j := 4) l99_24 (bO_ft hk6 (ci := 8) (by rfl) rfl) (by decide) (by decide) rfl hk6 rfl rfl (b_pc (pc' := 27) rfl ?_)
  refine b_s (pc' := 29) (lv1 := [(0, .ref 1), (1, bI v1), (2, bI v2), (3, bI v3), (4, bI v4)]) (st' := [bI v4, .ref ((μ5 1 5).toNat + 4), bI (μ5 ((μ5 1 5).toNat + 4) v1.toNat)]) l99_27 (fun _ => rfl) ?_
  refine b_g fun g22 => ?_
  refine b_ial l99_29 (bTree_e (bO_ft hk6 (ci := 8) (by rfl) rfl) 4 (by decide)) g22 (b_pc (pc' := 30) rfl ?_)
  refine b_ieq (pt := 43) l99_30 (bO_i hk6 (bTree_e (bO_ft hk6 (ci := 8) (by rfl) rfl) 4 (by decide))) (bO_i hk6 (bTree_e (bO_ft hk6 (ci := 8) (by rfl) rfl) 4 (by decide))) (by decide) rfl (fun c7 => ?_) (fun c7 => b_pc (pc' := 33) rfl ?_)
  · refine b_s (pc' := 44) (lv1 := [(0, .ref 1), (1, bI v1), (2, bI v2), (3, bI v3), (4, bI v4)]) (st' := [.ref 1]) l99_43 (fun _ => rfl) ?_
    refine b_s (pc' := 45) (lv1 := [(0, .ref 1), (1, bI v1), (2, bI v2), (3, bI v3), (4, bI v4)]) (st' := [bI v1, .ref 1]) l99_44 (fun _ => rfl) ?_
    refine b_s (pc' := 46) (lv1 := [(0, .ref 1), (1, bI v1), (2, bI v2), (3, bI v3), (4, bI v4)]) (st' := [bI v2, bI v1, .ref 1]) l99_45 (fun _ => rfl) ?_
    refine b_cXv l99_46 rfl (b_rc (ci := 8) (by rfl) (by decide) (by decide +kernel)) (Nat.le_of_ble_eq_true rfl) (Nat.le_of_ble_eq_true rfl) rfl (r_X10_needNewName v1 h1 v2 h2) ⟨fun _ z => (by cases z), (by decide +kernel)⟩ rfl (fun _ _ => hr _) fun w8 μ9 hw8 => bD.ok fun hk10 => b_pc (pc' := 49) rfl ?_
    refine b_s (pc' := 50) (lv1 := [(0, .ref 1), (1, bI v1), (2, bI v2), (3, bI v3), (4, bI v4)]) (st' := [bI v3]) l99_49 (fun _ => rfl) ?_
    refine b_cPz l99_50 rfl (fun _ => trivial) (Nat.le_of_ble_eq_true rfl) (Nat.le_of_ble_eq_true rfl) rfl (r_X2_isReference v3 h3) fun w11 hw11 => b_pc (pc' := 53) rfl ?_
    refine b_zne (pt := 66) l99_53 (bZ_R hw11) (by decide) rfl (fun c12 => ?_) (fun c12 => b_pc (pc' := 56) rfl ?_)
    · refine b_s (pc' := 67) (lv1 := [(0, .ref 1), (1, bI v1), (2, bI v2), (3, bI v3), (4, bI v4)]) (st' := [.ref 1]) l99_66 (fun _ => rfl) ?_
      refine b_s (pc' := 68) (lv1 := [(0, .ref 1), (1, bI v1), (2, bI v2), (3, bI v3), (4, bI v4)]) (st' := [bI v1, .ref 1]) l99_67 (fun _ => rfl) ?_
      refine b_s (pc' := 69) (lv1 := [(0, .ref 1), (1, bI v1), (2, bI v2), (3, bI v3), (4, bI v4)]) (st' := [bI 0, bI v1, .ref 1]) l99_68 (fun _ => rfl) ?_
      refine b_cXv l99_69 rfl (b_rc (ci := 8) (by rfl) (by decide) (by decide +kernel)) (Nat.le_of_ble_eq_true rfl) (Nat.le_of_ble_eq_true rfl) rfl (r_X10_needRoom v1 h1 0 (by decide)) ⟨fun _ z => (by cases z), (by decide +kernel)⟩ rfl (fun _ _ => hr _) fun w13 μ14 hw13 => bD.ok fun hk15 => b_pc (pc' := 72) rfl ?_
      refine b_s (pc' := 73) (lv1 := [(0, .ref 1), (1, bI v1), (2, bI v2), (3, bI v3), (4, bI v4)]) (st' := [.ref 1]) l99_72 (fun _ => rfl) ?_
      refine b_gp (q' := 13) (j := 12) l99_73 (by rfl) (by decide) (by decide) rfl hk15 rfl rfl (b_pc (pc' := 76) rfl ?_)
      refine b_cMv l99_76 rfl (b_rc (ci := 2) (by rfl) (by decide) (by decide +kernel)) (Nat.le_of_ble_eq_true rfl) (Nat.le_of_ble_eq_true rfl) rfl (r_X3_forget ) fun w16 μ17 hw16 => bD.ok fun hk18 => b_pc (pc' := 79) rfl ?_
      refine b_s (pc' := 80) (lv1 := [(0, .ref 1), (1, bI v1), (2, bI v2), (3, bI v3), (4, bI v4)]) (st' := [.ref 1]) l99_79 (fun _ => rfl) ?_
      refine b_gr l99_80 (by rfl) (by decide) (by decide) rfl (b_pc (pc' := 83) rfl ?_)
      refine b_s (pc' := 84) (lv1 := [(0, .ref 1), (1, bI v1), (2, bI v2), (3, bI v3), (4, bI v4)]) (st' := [bI v1, .ref (μ17 1 5).toNat]) l99_83 (fun _ => rfl) ?_
      refine b_s (pc' := 85) (lv1 := [(0, .ref 1), (1, bI v1), (2, bI v2), (3, bI v3), (4, bI v4)]) (st' := [bI v2, bI v1, .ref (μ17 1 5).toNat]) l99_84 (fun _ => rfl) ?_
      refine b_s (pc' := 86) (lv1 := [(0, .ref 1), (1, bI v1), (2, bI v2), (3, bI v3), (4, bI v4)]) (st' := [bI v3, bI v2, bI v1, .ref (μ17 1 5).toNat]) l99_85 (fun _ => rfl) ?_
      refine b_s (pc' := 88) (lv1 := [(0, .ref 1), (1, bI v1), (2, bI v2), (3, bI v3), (4, bI v4)]) (st' := [bI v4, bI v3, bI v2, bI v1, .ref (μ17 1 5).toNat]) l99_86 (fun _ => rfl) ?_
      refine b_i2l l99_88 h4 (b_pc (pc' := 89) rfl ?_)
      refine b_s (pc' := 90) (lv1 := [(0, .ref 1), (1, bI v1), (2, bI v2), (3, bI v3), (4, bI v4)]) (st' := [bI 0, bLg v4, bI v3, bI v2, bI v1, .ref (μ17 1 5).toNat]) l99_89 (fun _ => rfl) ?_
      refine b_cMi l99_90 rfl (b_rc (ci := 7) (bO_ft hk18 (ci := 8) (by rfl) rfl) (by decide) (by decide +kernel)) (Nat.le_of_ble_eq_true rfl) (Nat.le_of_ble_eq_true rfl) rfl (r_X8_addAttribute (μ17 1 5).toNat (bO_ft hk18 (ci := 8) (by rfl) rfl) v1 h1 v2 h2 v3 h3 v4 (bR_L h4) 0 (by decide)) fun w19 μ20 hw19 => bD.ok fun hk21 => b_pc (pc' := 93) rfl ?_
      exact b_reti l99_93 rfl hw19 (hr _)
    · exact b_thr x99_56 (by decide) (Nat.le_of_ble_eq_true rfl) (hr _)
  · exact b_thr x99_33 (by decide) (Nat.le_of_ble_eq_true rfl) (hr _)
/-! ET.clear -/
theorem l100_0 : (ax_dt (ax_T 100)).lookup 0 = some (.aload_n 0, 1, 0, 0, 0) := by decide +kernel
theorem l100_1 : (ax_dt (ax_T 100)).lookup 1 = some (.getfield 45, 3, 8, 5, 0) := by decide +kernel
theorem l100_4 : (ax_dt (ax_T 100)).lookup 4 = some (.getfield 81, 3, 7, 1, 0) := by decide +kernel
theorem l100_7 : (ax_dt (ax_T 100)).lookup 7 = some (.istore_n 1, 1, 0, 0, 0) := by decide +kernel
theorem l100_8 : (ax_dt (ax_T 100)).lookup 8 = some (.aload_n 0, 1, 0, 0, 0) := by decide +kernel
theorem l100_9 : (ax_dt (ax_T 100)).lookup 9 = some (.getfield 45, 3, 8, 5, 0) := by decide +kernel
theorem l100_12 : (ax_dt (ax_T 100)).lookup 12 = some (.invokevirtual 149, 3, 79, 0, 0) := by decide +kernel
theorem l100_15 : (ax_dt (ax_T 100)).lookup 15 = some (.aload_n 0, 1, 0, 0, 0) := by decide +kernel
theorem l100_16 : (ax_dt (ax_T 100)).lookup 16 = some (.getfield 18, 3, 8, 1, 0) := by decide +kernel
theorem l100_19 : (ax_dt (ax_T 100)).lookup 19 = some (.iconst 0, 1, 0, 0, 0) := by decide +kernel
theorem l100_20 : (ax_dt (ax_T 100)).lookup 20 = some (.invokevirtual 71, 3, 58, 1, 0) := by decide +kernel
theorem l100_23 : (ax_dt (ax_T 100)).lookup 23 = some (.aload_n 0, 1, 0, 0, 0) := by decide +kernel
theorem l100_24 : (ax_dt (ax_T 100)).lookup 24 = some (.getfield 31, 3, 8, 3, 0) := by decide +kernel
theorem l100_27 : (ax_dt (ax_T 100)).lookup 27 = some (.invokevirtual 89, 3, 23, 0, 0) := by decide +kernel
theorem l100_30 : (ax_dt (ax_T 100)).lookup 30 = some (.iload_n 1, 1, 0, 0, 0) := by decide +kernel
theorem l100_31 : (ax_dt (ax_T 100)).lookup 31 = some (.ireturn, 1, 0, 0, 0) := by decide +kernel
noncomputable def F_X10_clear (μ : bM) : Option (Int × bM) := bMm (F_X8_forget (μ 1 5).toNat μ) (fun w1 μ2 => bMm (F_X6_cut 4 0 μ2) (fun w4 μ5 => bMm (F_X3_forget μ5) (fun w7 μ8 => some ((μ (μ 1 5).toNat 1), μ8))))
theorem r_X10_clear {L : Nat} {xs : Nat → Int32} {d : Nat} {μ : bM}   : bD L xs (d + 1) 100 0 [(0, .ref 1)] [] μ ((F_X10_clear μ).bind (bMc)) := by
  have hr : ∀ r, (bMc) r = (bMc) r := fun _ => rfl
  unfold F_X10_clear
  refine bD.ok fun hk => ?_
  refine b_s (pc' := 1) (lv1 := [(0, .ref 1)]) (st' := [.ref 1]) l100_0 (fun _ => rfl) ?_
  refine b_gr l100_1 (by rfl) (by decide) (by decide) rfl (b_pc (pc' := 4) rfl ?_)
  refine b_gi l100_4 (bO_ft hk (ci := 8) (by rfl) rfl) (by decide) (by decide) rfl (b_pc (pc' := 7) rfl ?_)
  refine b_w (pc' := 8) (lv1 := ax_st1 [(0, .ref 1)] 1 (bI (μ (μ 1 5).toNat 1))) (lv' := [(0, .ref 1), (1, bI (μ (μ 1 5).toNat 1))]) (st' := []) l100_7 (fun _ => rfl) (bSb rfl (bSb rfl bSn)) ?_
  refine b_s (pc' := 9) (lv1 := [(0, .ref 1), (1, bI (μ (μ 1 5).toNat 1))]) (st' := [.ref 1]) l100_8 (fun _ => rfl) ?_
  refine b_gr l100_9 (by rfl) (by decide) (by decide) rfl (b_pc (pc' := 12) rfl ?_)
  refine b_cMv l100_12 rfl (b_rc (ci := 7) (bO_ft hk (ci := 8) (by rfl) rfl) (by decide) (by decide +kernel)) (Nat.le_of_ble_eq_true rfl) (Nat.le_of_ble_eq_true rfl) rfl (r_X8_forget (μ 1 5).toNat (bO_ft hk (ci := 8) (by rfl) rfl)) fun w1 μ2 hw1 => bD.ok fun hk3 => b_pc (pc' := 15) rfl ?_
  refine b_s (pc' := 16) (lv1 := [(0, .ref 1), (1, bI (μ (μ 1 5).toNat 1))]) (st' := [.ref 1]) l100_15 (fun _ => rfl) ?_
  refine b_gp (q' := 4) (j := 3) l100_16 (by rfl) (by decide) (by decide) rfl hk3 rfl rfl (b_pc (pc' := 19) rfl ?_)
  refine b_s (pc' := 20) (lv1 := [(0, .ref 1), (1, bI (μ (μ 1 5).toNat 1))]) (st' := [bI 0, .ref 4]) l100_19 (fun _ => rfl) ?_
  refine b_cMv l100_20 rfl (b_rc (ci := 5) (by rfl) (by decide) (by decide +kernel)) (Nat.le_of_ble_eq_true rfl) (Nat.le_of_ble_eq_true rfl) rfl (r_X6_cut 4 (by rfl) 0 (by decide)) fun w4 μ5 hw4 => bD.ok fun hk6 => b_pc (pc' := 23) rfl ?_
  refine b_s (pc' := 24) (lv1 := [(0, .ref 1), (1, bI (μ (μ 1 5).toNat 1))]) (st' := [.ref 1]) l100_23 (fun _ => rfl) ?_
  refine b_gp (q' := 13) (j := 12) l100_24 (by rfl) (by decide) (by decide) rfl hk6 rfl rfl (b_pc (pc' := 27) rfl ?_)
  refine b_cMv l100_27 rfl (b_rc (ci := 2) (by rfl) (by decide) (by decide +kernel)) (Nat.le_of_ble_eq_true rfl) (Nat.le_of_ble_eq_true rfl) rfl (r_X3_forget ) fun w7 μ8 hw7 => bD.ok fun hk9 => b_pc (pc' := 30) rfl ?_
  refine b_s (pc' := 31) (lv1 := [(0, .ref 1), (1, bI (μ (μ 1 5).toNat 1))]) (st' := [bI (μ (μ 1 5).toNat 1)]) l100_30 (fun _ => rfl) ?_
  exact b_reti l100_31 rfl (bO_f hk (ci := 7) (bO_ft hk (ci := 8) (by rfl) rfl) rfl) (hr _)
/-! ET.write -/
theorem l101_0 : (ax_dt (ax_T 101)).lookup 0 = some (.aload_n 0, 1, 0, 0, 0) := by decide +kernel
theorem l101_1 : (ax_dt (ax_T 101)).lookup 1 = some (.getfield 31, 3, 8, 3, 0) := by decide +kernel
theorem l101_4 : (ax_dt (ax_T 101)).lookup 4 = some (.aload_n 0, 1, 0, 0, 0) := by decide +kernel
theorem l101_5 : (ax_dt (ax_T 101)).lookup 5 = some (.getfield 45, 3, 8, 5, 0) := by decide +kernel
theorem l101_8 : (ax_dt (ax_T 101)).lookup 8 = some (.aload_n 0, 1, 0, 0, 0) := by decide +kernel
theorem l101_9 : (ax_dt (ax_T 101)).lookup 9 = some (.getfield 18, 3, 8, 1, 0) := by decide +kernel
theorem l101_12 : (ax_dt (ax_T 101)).lookup 12 = some (.invokevirtual 150, 3, 24, 2, 0) := by decide +kernel
theorem l101_15 : (ax_dt (ax_T 101)).lookup 15 = some (.aload_n 0, 1, 0, 0, 0) := by decide +kernel
theorem l101_16 : (ax_dt (ax_T 101)).lookup 16 = some (.getfield 31, 3, 8, 3, 0) := by decide +kernel
theorem l101_19 : (ax_dt (ax_T 101)).lookup 19 = some (.getfield 154, 3, 2, 2, 0) := by decide +kernel
theorem l101_22 : (ax_dt (ax_T 101)).lookup 22 = some (.sipush 24000, 3, 0, 0, 0) := by decide +kernel
theorem l101_25 : (ax_dt (ax_T 101)).lookup 25 = some (.if_icmp .gt 29, 3, 0, 0, 0) := by decide +kernel
theorem l101_28 : (ax_dt (ax_T 101)).lookup 28 = some (.aload_n 0, 1, 0, 0, 0) := by decide +kernel
theorem l101_29 : (ax_dt (ax_T 101)).lookup 29 = some (.getfield 31, 3, 8, 3, 0) := by decide +kernel
theorem l101_32 : (ax_dt (ax_T 101)).lookup 32 = some (.getfield 157, 3, 2, 3, 0) := by decide +kernel
theorem l101_35 : (ax_dt (ax_T 101)).lookup 35 = some (.sipush 8000, 3, 0, 0, 0) := by decide +kernel
theorem l101_38 : (ax_dt (ax_T 101)).lookup 38 = some (.if_icmp .gt 16, 3, 0, 0, 0) := by decide +kernel
theorem l101_41 : (ax_dt (ax_T 101)).lookup 41 = some (.aload_n 0, 1, 0, 0, 0) := by decide +kernel
theorem l101_42 : (ax_dt (ax_T 101)).lookup 42 = some (.getfield 31, 3, 8, 3, 0) := by decide +kernel
theorem l101_45 : (ax_dt (ax_T 101)).lookup 45 = some (.getfield 160, 3, 2, 4, 0) := by decide +kernel
theorem l101_48 : (ax_dt (ax_T 101)).lookup 48 = some (.sipush 8000, 3, 0, 0, 0) := by decide +kernel
theorem l101_51 : (ax_dt (ax_T 101)).lookup 51 = some (.if_icmp .le 6, 3, 0, 0, 0) := by decide +kernel
theorem l101_54 : (ax_dt (ax_T 101)).lookup 54 = some (.bipush (-2), 2, 0, 0, 0) := by decide +kernel
theorem l101_56 : (ax_dt (ax_T 101)).lookup 56 = some (.ireturn, 1, 0, 0, 0) := by decide +kernel
theorem l101_57 : (ax_dt (ax_T 101)).lookup 57 = some (.aload_n 0, 1, 0, 0, 0) := by decide +kernel
theorem l101_58 : (ax_dt (ax_T 101)).lookup 58 = some (.getfield 45, 3, 8, 5, 0) := by decide +kernel
theorem l101_61 : (ax_dt (ax_T 101)).lookup 61 = some (.aload_n 0, 1, 0, 0, 0) := by decide +kernel
theorem l101_62 : (ax_dt (ax_T 101)).lookup 62 = some (.getfield 18, 3, 8, 1, 0) := by decide +kernel
theorem l101_65 : (ax_dt (ax_T 101)).lookup 65 = some (.aload_n 0, 1, 0, 0, 0) := by decide +kernel
theorem l101_66 : (ax_dt (ax_T 101)).lookup 66 = some (.getfield 31, 3, 8, 3, 0) := by decide +kernel
theorem l101_69 : (ax_dt (ax_T 101)).lookup 69 = some (.aload_n 0, 1, 0, 0, 0) := by decide +kernel
theorem l101_70 : (ax_dt (ax_T 101)).lookup 70 = some (.getfield 24, 3, 8, 2, 0) := by decide +kernel
theorem l101_73 : (ax_dt (ax_T 101)).lookup 73 = some (.getfield 163, 3, 4, 0, 0) := by decide +kernel
theorem l101_76 : (ax_dt (ax_T 101)).lookup 76 = some (.invokestatic 165, 3, 87, 4, 0) := by decide +kernel
theorem l101_79 : (ax_dt (ax_T 101)).lookup 79 = some (.aload_n 0, 1, 0, 0, 0) := by decide +kernel
theorem l101_80 : (ax_dt (ax_T 101)).lookup 80 = some (.getfield 45, 3, 8, 5, 0) := by decide +kernel
theorem l101_83 : (ax_dt (ax_T 101)).lookup 83 = some (.aload_n 0, 1, 0, 0, 0) := by decide +kernel
theorem l101_84 : (ax_dt (ax_T 101)).lookup 84 = some (.getfield 31, 3, 8, 3, 0) := by decide +kernel
theorem l101_87 : (ax_dt (ax_T 101)).lookup 87 = some (.aload_n 0, 1, 0, 0, 0) := by decide +kernel
theorem l101_88 : (ax_dt (ax_T 101)).lookup 88 = some (.getfield 24, 3, 8, 2, 0) := by decide +kernel
theorem l101_91 : (ax_dt (ax_T 101)).lookup 91 = some (.getfield 171, 3, 4, 1, 0) := by decide +kernel
theorem l101_94 : (ax_dt (ax_T 101)).lookup 94 = some (.invokestatic 174, 3, 90, 3, 0) := by decide +kernel
theorem l101_97 : (ax_dt (ax_T 101)).lookup 97 = some (.aload_n 0, 1, 0, 0, 0) := by decide +kernel
theorem l101_98 : (ax_dt (ax_T 101)).lookup 98 = some (.getfield 45, 3, 8, 5, 0) := by decide +kernel
theorem l101_101 : (ax_dt (ax_T 101)).lookup 101 = some (.aload_n 0, 1, 0, 0, 0) := by decide +kernel
theorem l101_102 : (ax_dt (ax_T 101)).lookup 102 = some (.getfield 18, 3, 8, 1, 0) := by decide +kernel
theorem l101_105 : (ax_dt (ax_T 101)).lookup 105 = some (.aload_n 0, 1, 0, 0, 0) := by decide +kernel
theorem l101_106 : (ax_dt (ax_T 101)).lookup 106 = some (.getfield 31, 3, 8, 3, 0) := by decide +kernel
theorem l101_109 : (ax_dt (ax_T 101)).lookup 109 = some (.aload_n 0, 1, 0, 0, 0) := by decide +kernel
theorem l101_110 : (ax_dt (ax_T 101)).lookup 110 = some (.getfield 24, 3, 8, 2, 0) := by decide +kernel
theorem l101_113 : (ax_dt (ax_T 101)).lookup 113 = some (.getfield 178, 3, 4, 2, 0) := by decide +kernel
theorem l101_116 : (ax_dt (ax_T 101)).lookup 116 = some (.invokestatic 181, 3, 91, 4, 0) := by decide +kernel
theorem l101_119 : (ax_dt (ax_T 101)).lookup 119 = some (.aload_n 0, 1, 0, 0, 0) := by decide +kernel
theorem l101_120 : (ax_dt (ax_T 101)).lookup 120 = some (.getfield 24, 3, 8, 2, 0) := by decide +kernel
theorem l101_123 : (ax_dt (ax_T 101)).lookup 123 = some (.getfield 163, 3, 4, 0, 0) := by decide +kernel
theorem l101_126 : (ax_dt (ax_T 101)).lookup 126 = some (.invokevirtual 63, 3, 53, 0, 0) := by decide +kernel
theorem l101_129 : (ax_dt (ax_T 101)).lookup 129 = some (.aload_n 0, 1, 0, 0, 0) := by decide +kernel
theorem l101_130 : (ax_dt (ax_T 101)).lookup 130 = some (.getfield 24, 3, 8, 2, 0) := by decide +kernel
theorem l101_133 : (ax_dt (ax_T 101)).lookup 133 = some (.getfield 171, 3, 4, 1, 0) := by decide +kernel
theorem l101_136 : (ax_dt (ax_T 101)).lookup 136 = some (.invokevirtual 63, 3, 53, 0, 0) := by decide +kernel
theorem l101_139 : (ax_dt (ax_T 101)).lookup 139 = some (.iadd, 1, 0, 0, 0) := by decide +kernel
theorem l101_140 : (ax_dt (ax_T 101)).lookup 140 = some (.aload_n 0, 1, 0, 0, 0) := by decide +kernel
theorem l101_141 : (ax_dt (ax_T 101)).lookup 141 = some (.getfield 24, 3, 8, 2, 0) := by decide +kernel
theorem l101_144 : (ax_dt (ax_T 101)).lookup 144 = some (.getfield 178, 3, 4, 2, 0) := by decide +kernel
theorem l101_147 : (ax_dt (ax_T 101)).lookup 147 = some (.invokevirtual 63, 3, 53, 0, 0) := by decide +kernel
theorem l101_150 : (ax_dt (ax_T 101)).lookup 150 = some (.iadd, 1, 0, 0, 0) := by decide +kernel
theorem l101_151 : (ax_dt (ax_T 101)).lookup 151 = some (.ireturn, 1, 0, 0, 0) := by decide +kernel
noncomputable def F_X10_write (μ : bM) : Option (Int × bM) := bMm (F_X3_reckon (μ 1 5).toNat 4 μ) (fun w1 μ2 => if 24000 < (μ2 13 2) then some ((-2), μ2) else if 8000 < (μ2 13 3) then some ((-2), μ2) else if (μ2 13 4) ≤ 8000 then bMm (F_X9_writeUnits (μ2 1 5).toNat 4 7 μ2) (fun w7 μ8 => bMm (F_X9_writeShapes (μ8 1 5).toNat 9 μ8) (fun w10 μ11 => bMm (F_X9_writeTexts (μ11 1 5).toNat 4 11 μ11) (fun w13 μ14 => (F_X6_used 7 μ14).bind fun w16 => (F_X6_used 9 μ14).bind fun w17 => bG (bR (w16 + w17)) ((F_X6_used 11 μ14).bind fun w19 => bG (bR ((w16 + w17) + w19)) (some (((w16 + w17) + w19), μ14)))))) else some ((-2), μ2))
theorem r_X10_write {L : Nat} {xs : Nat → Int32} {d : Nat} {μ : bM}   : bD L xs (d + 6) 101 0 [(0, .ref 1)] [] μ ((F_X10_write μ).bind (bMc)) := by
  have hr : ∀ r, (bMc) r = (bMc) r := fun _ => rfl
  unfold F_X10_write
  refine bD.ok fun hk => ?_
  refine b_s (pc' := 1) (lv1 := [(0, .ref 1)]) (st' := [.ref 1]) l101_0 (fun _ => rfl) ?_
  refine b_gp (q' := 13) (j := 12) l101_1 (by rfl) (by decide) (by decide) rfl hk rfl rfl (b_pc (pc' := 4) rfl ?_)
  refine b_s (pc' := 5) (lv1 := [(0, .ref 1)]) (st' := [.ref 1, .ref 13]) l101_4 (fun _ => rfl) ?_
  refine b_gr l101_5 (by rfl) (by decide) (by decide) rfl (b_pc (pc' := 8) rfl ?_)
  refine b_s (pc' := 9) (lv1 := [(0, .ref 1)]) (st' := [.ref 1, .ref (μ 1 5).toNat, .ref 13]) l101_8 (fun _ => rfl) ?_
  refine b_gp (q' := 4) (j := 3) l101_9 (by rfl) (by decide) (by decide) rfl hk rfl rfl (b_pc (pc' := 12) rfl ?_)
  refine b_cMv l101_12 rfl (b_rc (ci := 2) (by rfl) (by decide) (by decide +kernel)) (Nat.le_of_ble_eq_true rfl) (Nat.le_of_ble_eq_true rfl) rfl (r_X3_reckon (μ 1 5).toNat (bO_ft hk (ci := 8) (by rfl) rfl) 4 (by rfl)) fun w1 μ2 hw1 => bD.ok fun hk3 => b_pc (pc' := 15) rfl ?_
  refine b_s (pc' := 16) (lv1 := [(0, .ref 1)]) (st' := [.ref 1]) l101_15 (fun _ => rfl) ?_
  refine b_gp (q' := 13) (j := 12) l101_16 (by rfl) (by decide) (by decide) rfl hk3 rfl rfl (b_pc (pc' := 19) rfl ?_)
  refine b_gi l101_19 (by rfl) (by decide) (by decide) rfl (b_pc (pc' := 22) rfl ?_)
  refine b_sipush l101_22 (by decide) (b_pc (pc' := 25) rfl ?_)
  refine b_igt (pt := 54) l101_25 (bO_f hk3 (ci := 2) (by rfl) rfl) (by decide) (by decide) rfl (fun c4 => ?_) (fun c4 => b_pc (pc' := 28) rfl ?_)
  · refine b_bipush l101_54 (by decide) (b_pc (pc' := 56) rfl ?_)
    exact b_reti l101_56 rfl (by decide) (hr _)
  · refine b_s (pc' := 29) (lv1 := [(0, .ref 1)]) (st' := [.ref 1]) l101_28 (fun _ => rfl) ?_
    refine b_gp (q' := 13) (j := 12) l101_29 (by rfl) (by decide) (by decide) rfl hk3 rfl rfl (b_pc (pc' := 32) rfl ?_)
    refine b_gi l101_32 (by rfl) (by decide) (by decide) rfl (b_pc (pc' := 35) rfl ?_)
    refine b_sipush l101_35 (by decide) (b_pc (pc' := 38) rfl ?_)
    refine b_igt (pt := 54) l101_38 (bO_f hk3 (ci := 2) (by rfl) rfl) (by decide) (by decide) rfl (fun c5 => ?_) (fun c5 => b_pc (pc' := 41) rfl ?_)
    · refine b_bipush l101_54 (by decide) (b_pc (pc' := 56) rfl ?_)
      exact b_reti l101_56 rfl (by decide) (hr _)
    · refine b_s (pc' := 42) (lv1 := [(0, .ref 1)]) (st' := [.ref 1]) l101_41 (fun _ => rfl) ?_
      refine b_gp (q' := 13) (j := 12) l101_42 (by rfl) (by decide) (by decide) rfl hk3 rfl rfl (b_pc (pc' := 45) rfl ?_)
      refine b_gi l101_45 (by rfl) (by decide) (by decide) rfl (b_pc (pc' := 48) rfl ?_)
      refine b_sipush l101_48 (by decide) (b_pc (pc' := 51) rfl ?_)
      refine b_ile (pt := 57) l101_51 (bO_f hk3 (ci := 2) (by rfl) rfl) (by decide) (by decide) rfl (fun c6 => ?_) (fun c6 => b_pc (pc' := 54) rfl ?_)
      · refine b_s (pc' := 58) (lv1 := [(0, .ref 1)]) (st' := [.ref 1]) l101_57 (fun _ => rfl) ?_
        refine b_gr l101_58 (by rfl) (by decide) (by decide) rfl (b_pc (pc' := 61) rfl ?_)
        refine b_s (pc' := 62) (lv1 := [(0, .ref 1)]) (st' := [.ref 1, .ref (μ2 1 5).toNat]) l101_61 (fun _ => rfl) ?_
        refine b_gp (q' := 4) (j := 3) l101_62 (by rfl) (by decide) (by decide) rfl hk3 rfl rfl (b_pc (pc' := 65) rfl ?_)
        refine b_s (pc' := 66) (lv1 := [(0, .ref 1)]) (st' := [.ref 1, .ref 4, .ref (μ2 1 5).toNat]) l101_65 (fun _ => rfl) ?_
        refine b_gp (q' := 13) (j := 12) l101_66 (by rfl) (by decide) (by decide) rfl hk3 rfl rfl (b_pc (pc' := 69) rfl ?_)
        refine b_s (pc' := 70) (lv1 := [(0, .ref 1)]) (st' := [.ref 1, .ref 13, .ref 4, .ref (μ2 1 5).toNat]) l101_69 (fun _ => rfl) ?_
        refine b_gp (q' := 6) (j := 5) l101_70 (by rfl) (by decide) (by decide) rfl hk3 rfl rfl (b_pc (pc' := 73) rfl ?_)
        refine b_gp (q' := 7) (j := 1) l101_73 (by rfl) (by decide) (by decide) rfl hk3 rfl rfl (b_pc (pc' := 76) rfl ?_)
        refine b_cMv l101_76 rfl (fun _ => trivial) (Nat.le_of_ble_eq_true rfl) (Nat.le_of_ble_eq_true rfl) rfl (r_X9_writeUnits (μ2 1 5).toNat (bO_ft hk3 (ci := 8) (by rfl) rfl) 4 (by rfl) 7 (by rfl)) fun w7 μ8 hw7 => bD.ok fun hk9 => b_pc (pc' := 79) rfl ?_
        refine b_s (pc' := 80) (lv1 := [(0, .ref 1)]) (st' := [.ref 1]) l101_79 (fun _ => rfl) ?_
        refine b_gr l101_80 (by rfl) (by decide) (by decide) rfl (b_pc (pc' := 83) rfl ?_)
        refine b_s (pc' := 84) (lv1 := [(0, .ref 1)]) (st' := [.ref 1, .ref (μ8 1 5).toNat]) l101_83 (fun _ => rfl) ?_
        refine b_gp (q' := 13) (j := 12) l101_84 (by rfl) (by decide) (by decide) rfl hk9 rfl rfl (b_pc (pc' := 87) rfl ?_)
        refine b_s (pc' := 88) (lv1 := [(0, .ref 1)]) (st' := [.ref 1, .ref 13, .ref (μ8 1 5).toNat]) l101_87 (fun _ => rfl) ?_
        refine b_gp (q' := 6) (j := 5) l101_88 (by rfl) (by decide) (by decide) rfl hk9 rfl rfl (b_pc (pc' := 91) rfl ?_)
        refine b_gp (q' := 9) (j := 3) l101_91 (by rfl) (by decide) (by decide) rfl hk9 rfl rfl (b_pc (pc' := 94) rfl ?_)
        refine b_cMv l101_94 rfl (fun _ => trivial) (Nat.le_of_ble_eq_true rfl) (Nat.le_of_ble_eq_true rfl) rfl (r_X9_writeShapes (μ8 1 5).toNat (bO_ft hk9 (ci := 8) (by rfl) rfl) 9 (by rfl)) fun w10 μ11 hw10 => bD.ok fun hk12 => b_pc (pc' := 97) rfl ?_
        refine b_s (pc' := 98) (lv1 := [(0, .ref 1)]) (st' := [.ref 1]) l101_97 (fun _ => rfl) ?_
        refine b_gr l101_98 (by rfl) (by decide) (by decide) rfl (b_pc (pc' := 101) rfl ?_)
        refine b_s (pc' := 102) (lv1 := [(0, .ref 1)]) (st' := [.ref 1, .ref (μ11 1 5).toNat]) l101_101 (fun _ => rfl) ?_
        refine b_gp (q' := 4) (j := 3) l101_102 (by rfl) (by decide) (by decide) rfl hk12 rfl rfl (b_pc (pc' := 105) rfl ?_)
        refine b_s (pc' := 106) (lv1 := [(0, .ref 1)]) (st' := [.ref 1, .ref 4, .ref (μ11 1 5).toNat]) l101_105 (fun _ => rfl) ?_
        refine b_gp (q' := 13) (j := 12) l101_106 (by rfl) (by decide) (by decide) rfl hk12 rfl rfl (b_pc (pc' := 109) rfl ?_)
        refine b_s (pc' := 110) (lv1 := [(0, .ref 1)]) (st' := [.ref 1, .ref 13, .ref 4, .ref (μ11 1 5).toNat]) l101_109 (fun _ => rfl) ?_
        refine b_gp (q' := 6) (j := 5) l101_110 (by rfl) (by decide) (by decide) rfl hk12 rfl rfl (b_pc (pc' := 113) rfl ?_)
        refine b_gp (q' := 11) (j := 5) l101_113 (by rfl) (by decide) (by decide) rfl hk12 rfl rfl (b_pc (pc' := 116) rfl ?_)
        refine b_cMv l101_116 rfl (fun _ => trivial) (Nat.le_of_ble_eq_true rfl) (Nat.le_of_ble_eq_true rfl) rfl (r_X9_writeTexts (μ11 1 5).toNat (bO_ft hk12 (ci := 8) (by rfl) rfl) 4 (by rfl) 11 (by rfl)) fun w13 μ14 hw13 => bD.ok fun hk15 => b_pc (pc' := 119) rfl ?_
        refine b_s (pc' := 120) (lv1 := [(0, .ref 1)]) (st' := [.ref 1]) l101_119 (fun _ => rfl) ?_
        refine b_gp (q' := 6) (j := 5) l101_120 (by rfl) (by decide) (by decide) rfl hk15 rfl rfl (b_pc (pc' := 123) rfl ?_)
        refine b_gp (q' := 7) (j := 1) l101_123 (by rfl) (by decide) (by decide) rfl hk15 rfl rfl (b_pc (pc' := 126) rfl ?_)
        refine b_cPi l101_126 rfl (b_rc (ci := 5) (by rfl) (by decide) (by decide +kernel)) (Nat.le_of_ble_eq_true rfl) (Nat.le_of_ble_eq_true rfl) rfl (r_X6_used 7 (by rfl)) fun w16 hw16 => b_pc (pc' := 129) rfl ?_
        refine b_s (pc' := 130) (lv1 := [(0, .ref 1)]) (st' := [.ref 1, bI w16]) l101_129 (fun _ => rfl) ?_
        refine b_gp (q' := 6) (j := 5) l101_130 (by rfl) (by decide) (by decide) rfl hk15 rfl rfl (b_pc (pc' := 133) rfl ?_)
        refine b_gp (q' := 9) (j := 3) l101_133 (by rfl) (by decide) (by decide) rfl hk15 rfl rfl (b_pc (pc' := 136) rfl ?_)
        refine b_cPi l101_136 rfl (b_rc (ci := 5) (by rfl) (by decide) (by decide +kernel)) (Nat.le_of_ble_eq_true rfl) (Nat.le_of_ble_eq_true rfl) rfl (r_X6_used 9 (by rfl)) fun w17 hw17 => b_pc (pc' := 139) rfl ?_
        refine b_iadd l101_139 fun g18 => (b_pc (pc' := 140) rfl ?_)
        refine b_s (pc' := 141) (lv1 := [(0, .ref 1)]) (st' := [.ref 1, bI (w16 + w17)]) l101_140 (fun _ => rfl) ?_
        refine b_gp (q' := 6) (j := 5) l101_141 (by rfl) (by decide) (by decide) rfl hk15 rfl rfl (b_pc (pc' := 144) rfl ?_)
        refine b_gp (q' := 11) (j := 5) l101_144 (by rfl) (by decide) (by decide) rfl hk15 rfl rfl (b_pc (pc' := 147) rfl ?_)
        refine b_cPi l101_147 rfl (b_rc (ci := 5) (by rfl) (by decide) (by decide +kernel)) (Nat.le_of_ble_eq_true rfl) (Nat.le_of_ble_eq_true rfl) rfl (r_X6_used 11 (by rfl)) fun w19 hw19 => b_pc (pc' := 150) rfl ?_
        refine b_iadd l101_150 fun g20 => (b_pc (pc' := 151) rfl ?_)
        exact b_reti l101_151 rfl g20 (hr _)
      · refine b_bipush l101_54 (by decide) (b_pc (pc' := 56) rfl ?_)
        exact b_reti l101_56 rfl (by decide) (hr _)
/-! ET.needSection -/
theorem l122_0 : (ax_dt (ax_T 122)).lookup 0 = some (.iload_n 1, 1, 0, 0, 0) := by decide +kernel
theorem l122_1 : (ax_dt (ax_T 122)).lookup 1 = some (.ifCond .lt 8, 3, 0, 0, 0) := by decide +kernel
theorem l122_4 : (ax_dt (ax_T 122)).lookup 4 = some (.iload_n 1, 1, 0, 0, 0) := by decide +kernel
theorem l122_5 : (ax_dt (ax_T 122)).lookup 5 = some (.iconst 2, 1, 0, 0, 0) := by decide +kernel
theorem l122_6 : (ax_dt (ax_T 122)).lookup 6 = some (.if_icmp .le 14, 3, 0, 0, 0) := by decide +kernel
theorem l122_20 : (ax_dt (ax_T 122)).lookup 20 = some (.return_, 1, 0, 0, 0) := by decide +kernel
theorem x122_9 : (ax_dx (ax_T 122)).lookup 9 = some ("java/lang/IndexOutOfBoundsException", "no such section", 222, 321, 226, true) := by decide +kernel
noncomputable def F_X10_needSection (v1 : Int) (μ : bM) : Option ((Int ⊕ String) × bM) := if v1 < 0 then some (.inr "java/lang/IndexOutOfBoundsException", μ) else if v1 ≤ 2 then some (.inl 0, μ) else some (.inr "java/lang/IndexOutOfBoundsException", μ)
theorem r_X10_needSection {L : Nat} {xs : Nat → Int32} {d : Nat} {μ : bM}  (v1 : Int) (h1 : bR v1) : bD L xs (d + 0) 122 0 [(0, .ref 1), (1, bI v1)] [] μ ((F_X10_needSection v1 μ).bind (bXc)) := by
  have hr : ∀ r, (bXc) r = (bXc) r := fun _ => rfl
  unfold F_X10_needSection
  refine bD.ok fun hk => ?_
  refine b_s (pc' := 1) (lv1 := [(0, .ref 1), (1, bI v1)]) (st' := [bI v1]) l122_0 (fun _ => rfl) ?_
  refine b_zlt (pt := 9) l122_1 h1 (by decide) rfl (fun c1 => ?_) (fun c1 => b_pc (pc' := 4) rfl ?_)
  · exact b_thr x122_9 (by decide) (Nat.le_of_ble_eq_true rfl) (hr _)
  · refine b_s (pc' := 5) (lv1 := [(0, .ref 1), (1, bI v1)]) (st' := [bI v1]) l122_4 (fun _ => rfl) ?_
    refine b_s (pc' := 6) (lv1 := [(0, .ref 1), (1, bI v1)]) (st' := [bI 2, bI v1]) l122_5 (fun _ => rfl) ?_
    refine b_ile (pt := 20) l122_6 h1 (by decide) (by decide) rfl (fun c2 => ?_) (fun c2 => b_pc (pc' := 9) rfl ?_)
    · exact b_retv l122_20 rfl (hr _)
    · exact b_thr x122_9 (by decide) (Nat.le_of_ble_eq_true rfl) (hr _)
/-! ET.size -/
theorem l102_0 : (ax_dt (ax_T 102)).lookup 0 = some (.aload_n 0, 1, 0, 0, 0) := by decide +kernel
theorem l102_1 : (ax_dt (ax_T 102)).lookup 1 = some (.iload_n 1, 1, 0, 0, 0) := by decide +kernel
theorem l102_2 : (ax_dt (ax_T 102)).lookup 2 = some (.invokevirtual 184, 3, 122, 1, 0) := by decide +kernel
theorem l102_5 : (ax_dt (ax_T 102)).lookup 5 = some (.aload_n 0, 1, 0, 0, 0) := by decide +kernel
theorem l102_6 : (ax_dt (ax_T 102)).lookup 6 = some (.getfield 24, 3, 8, 2, 0) := by decide +kernel
theorem l102_9 : (ax_dt (ax_T 102)).lookup 9 = some (.iload_n 1, 1, 0, 0, 0) := by decide +kernel
theorem l102_10 : (ax_dt (ax_T 102)).lookup 10 = some (.invokevirtual 187, 3, 51, 1, 0) := by decide +kernel
theorem l102_13 : (ax_dt (ax_T 102)).lookup 13 = some (.invokevirtual 63, 3, 53, 0, 0) := by decide +kernel
theorem l102_16 : (ax_dt (ax_T 102)).lookup 16 = some (.ireturn, 1, 0, 0, 0) := by decide +kernel
noncomputable def F_X10_size (v1 : Int) (μ : bM) : Option ((Int ⊕ String) × bM) := bXm (F_X10_needSection v1 μ) (fun w1 μ2 => (F_X5_of v1 μ2).bind fun w4 => (F_X6_used w4.toNat μ2).bind fun w5 => some (.inl w5, μ2)) (fun e μ => some (.inr e, μ))
theorem r_X10_size {L : Nat} {xs : Nat → Int32} {d : Nat} {μ : bM}  (v1 : Int) (h1 : bR v1) : bD L xs (d + 1) 102 0 [(0, .ref 1), (1, bI v1)] [] μ ((F_X10_size v1 μ).bind (bXc)) := by
  have hr : ∀ r, (bXc) r = (bXc) r := fun _ => rfl
  unfold F_X10_size
  refine bD.ok fun hk => ?_
  refine b_s (pc' := 1) (lv1 := [(0, .ref 1), (1, bI v1)]) (st' := [.ref 1]) l102_0 (fun _ => rfl) ?_
  refine b_s (pc' := 2) (lv1 := [(0, .ref 1), (1, bI v1)]) (st' := [bI v1, .ref 1]) l102_1 (fun _ => rfl) ?_
  refine b_cXv l102_2 rfl (b_rc (ci := 8) (by rfl) (by decide) (by decide +kernel)) (Nat.le_of_ble_eq_true rfl) (Nat.le_of_ble_eq_true rfl) rfl (r_X10_needSection v1 h1) ⟨fun _ z => (by cases z), (by decide +kernel)⟩ rfl (fun _ _ => hr _) fun w1 μ2 hw1 => bD.ok fun hk3 => b_pc (pc' := 5) rfl ?_
  refine b_s (pc' := 6) (lv1 := [(0, .ref 1), (1, bI v1)]) (st' := [.ref 1]) l102_5 (fun _ => rfl) ?_
  refine b_gp (q' := 6) (j := 5) l102_6 (by rfl) (by decide) (by decide) rfl hk3 rfl rfl (b_pc (pc' := 9) rfl ?_)
  refine b_s (pc' := 10) (lv1 := [(0, .ref 1), (1, bI v1)]) (st' := [bI v1, .ref 6]) l102_9 (fun _ => rfl) ?_
  refine b_cPr l102_10 rfl (b_rc (ci := 4) (by rfl) (by decide) (by decide +kernel)) (Nat.le_of_ble_eq_true rfl) (Nat.le_of_ble_eq_true rfl) rfl (r_X5_of v1 h1) fun w4 hw4 => b_pc (pc' := 13) rfl ?_
  refine b_cPi l102_13 rfl (b_rc (ci := 5) hw4 (by decide) (by decide +kernel)) (Nat.le_of_ble_eq_true rfl) (Nat.le_of_ble_eq_true rfl) rfl (r_X6_used w4.toNat hw4) fun w5 hw5 => b_pc (pc' := 16) rfl ?_
  exact b_reti l102_16 rfl hw5 (hr _)
/-! ET.needByte -/
theorem l123_0 : (ax_dt (ax_T 123)).lookup 0 = some (.aload_n 0, 1, 0, 0, 0) := by decide +kernel
theorem l123_1 : (ax_dt (ax_T 123)).lookup 1 = some (.iload_n 1, 1, 0, 0, 0) := by decide +kernel
theorem l123_2 : (ax_dt (ax_T 123)).lookup 2 = some (.invokevirtual 184, 3, 122, 1, 0) := by decide +kernel
theorem l123_5 : (ax_dt (ax_T 123)).lookup 5 = some (.iload_n 2, 1, 0, 0, 0) := by decide +kernel
theorem l123_6 : (ax_dt (ax_T 123)).lookup 6 = some (.ifCond .lt 18, 3, 0, 0, 0) := by decide +kernel
theorem l123_9 : (ax_dt (ax_T 123)).lookup 9 = some (.iload_n 2, 1, 0, 0, 0) := by decide +kernel
theorem l123_10 : (ax_dt (ax_T 123)).lookup 10 = some (.aload_n 0, 1, 0, 0, 0) := by decide +kernel
theorem l123_11 : (ax_dt (ax_T 123)).lookup 11 = some (.getfield 24, 3, 8, 2, 0) := by decide +kernel
theorem l123_14 : (ax_dt (ax_T 123)).lookup 14 = some (.iload_n 1, 1, 0, 0, 0) := by decide +kernel
theorem l123_15 : (ax_dt (ax_T 123)).lookup 15 = some (.invokevirtual 187, 3, 51, 1, 0) := by decide +kernel
theorem l123_18 : (ax_dt (ax_T 123)).lookup 18 = some (.invokevirtual 63, 3, 53, 0, 0) := by decide +kernel
theorem l123_21 : (ax_dt (ax_T 123)).lookup 21 = some (.if_icmp .lt 14, 3, 0, 0, 0) := by decide +kernel
theorem l123_35 : (ax_dt (ax_T 123)).lookup 35 = some (.return_, 1, 0, 0, 0) := by decide +kernel
theorem x123_24 : (ax_dx (ax_T 123)).lookup 24 = some ("java/lang/IndexOutOfBoundsException", "no such byte of a section", 222, 323, 226, true) := by decide +kernel
noncomputable def F_X10_needByte (v1 : Int) (v2 : Int) (μ : bM) : Option ((Int ⊕ String) × bM) := bXm (F_X10_needSection v1 μ) (fun w1 μ2 => if v2 < 0 then some (.inr "java/lang/IndexOutOfBoundsException", μ2) else (F_X5_of v1 μ2).bind fun w5 => (F_X6_used w5.toNat μ2).bind fun w6 => if v2 < w6 then some (.inl 0, μ2) else some (.inr "java/lang/IndexOutOfBoundsException", μ2)) (fun e μ => some (.inr e, μ))
theorem r_X10_needByte {L : Nat} {xs : Nat → Int32} {d : Nat} {μ : bM}  (v1 : Int) (h1 : bR v1) (v2 : Int) (h2 : bR v2) : bD L xs (d + 1) 123 0 [(0, .ref 1), (1, bI v1), (2, bI v2)] [] μ ((F_X10_needByte v1 v2 μ).bind (bXc)) := by
  have hr : ∀ r, (bXc) r = (bXc) r := fun _ => rfl
  unfold F_X10_needByte
  refine bD.ok fun hk => ?_
  refine b_s (pc' := 1) (lv1 := [(0, .ref 1), (1, bI v1), (2, bI v2)]) (st' := [.ref 1]) l123_0 (fun _ => rfl) ?_
  refine b_s (pc' := 2) (lv1 := [(0, .ref 1), (1, bI v1), (2, bI v2)]) (st' := [bI v1, .ref 1]) l123_1 (fun _ => rfl) ?_
  refine b_cXv l123_2 rfl (b_rc (ci := 8) (by rfl) (by decide) (by decide +kernel)) (Nat.le_of_ble_eq_true rfl) (Nat.le_of_ble_eq_true rfl) rfl (r_X10_needSection v1 h1) ⟨fun _ z => (by cases z), (by decide +kernel)⟩ rfl (fun _ _ => hr _) fun w1 μ2 hw1 => bD.ok fun hk3 => b_pc (pc' := 5) rfl ?_
  refine b_s (pc' := 6) (lv1 := [(0, .ref 1), (1, bI v1), (2, bI v2)]) (st' := [bI v2]) l123_5 (fun _ => rfl) ?_
  refine b_zlt (pt := 24) l123_6 h2 (by decide) rfl (fun c4 => ?_) (fun c4 => b_pc (pc' := 9) rfl ?_)
  · exact b_thr x123_24 (by decide) (Nat.le_of_ble_eq_true rfl) (hr _)
  · refine b_s (pc' := 10) (lv1 := [(0, .ref 1), (1, bI v1), (2, bI v2)]) (st' := [bI v2]) l123_9 (fun _ => rfl) ?_
    refine b_s (pc' := 11) (lv1 := [(0, .ref 1), (1, bI v1), (2, bI v2)]) (st' := [.ref 1, bI v2]) l123_10 (fun _ => rfl) ?_
    refine b_gp (q' := 6) (j := 5) l123_11 (by rfl) (by decide) (by decide) rfl hk3 rfl rfl (b_pc (pc' := 14) rfl ?_)
    refine b_s (pc' := 15) (lv1 := [(0, .ref 1), (1, bI v1), (2, bI v2)]) (st' := [bI v1, .ref 6, bI v2]) l123_14 (fun _ => rfl) ?_
    refine b_cPr l123_15 rfl (b_rc (ci := 4) (by rfl) (by decide) (by decide +kernel)) (Nat.le_of_ble_eq_true rfl) (Nat.le_of_ble_eq_true rfl) rfl (r_X5_of v1 h1) fun w5 hw5 => b_pc (pc' := 18) rfl ?_
    refine b_cPi l123_18 rfl (b_rc (ci := 5) hw5 (by decide) (by decide +kernel)) (Nat.le_of_ble_eq_true rfl) (Nat.le_of_ble_eq_true rfl) rfl (r_X6_used w5.toNat hw5) fun w6 hw6 => b_pc (pc' := 21) rfl ?_
    refine b_ilt (pt := 35) l123_21 h2 hw6 (by decide) rfl (fun c7 => ?_) (fun c7 => b_pc (pc' := 24) rfl ?_)
    · exact b_retv l123_35 rfl (hr _)
    · exact b_thr x123_24 (by decide) (Nat.le_of_ble_eq_true rfl) (hr _)
/-! ET.octet -/
theorem l103_0 : (ax_dt (ax_T 103)).lookup 0 = some (.aload_n 0, 1, 0, 0, 0) := by decide +kernel
theorem l103_1 : (ax_dt (ax_T 103)).lookup 1 = some (.iload_n 1, 1, 0, 0, 0) := by decide +kernel
theorem l103_2 : (ax_dt (ax_T 103)).lookup 2 = some (.iload_n 2, 1, 0, 0, 0) := by decide +kernel
theorem l103_3 : (ax_dt (ax_T 103)).lookup 3 = some (.invokevirtual 191, 3, 123, 2, 0) := by decide +kernel
theorem l103_6 : (ax_dt (ax_T 103)).lookup 6 = some (.aload_n 0, 1, 0, 0, 0) := by decide +kernel
theorem l103_7 : (ax_dt (ax_T 103)).lookup 7 = some (.getfield 24, 3, 8, 2, 0) := by decide +kernel
theorem l103_10 : (ax_dt (ax_T 103)).lookup 10 = some (.iload_n 1, 1, 0, 0, 0) := by decide +kernel
theorem l103_11 : (ax_dt (ax_T 103)).lookup 11 = some (.invokevirtual 187, 3, 51, 1, 0) := by decide +kernel
theorem l103_14 : (ax_dt (ax_T 103)).lookup 14 = some (.iload_n 2, 1, 0, 0, 0) := by decide +kernel
theorem l103_15 : (ax_dt (ax_T 103)).lookup 15 = some (.invokevirtual 194, 3, 56, 1, 0) := by decide +kernel
theorem l103_18 : (ax_dt (ax_T 103)).lookup 18 = some (.ireturn, 1, 0, 0, 0) := by decide +kernel
noncomputable def F_X10_octet (v1 : Int) (v2 : Int) (μ : bM) : Option ((Int ⊕ String) × bM) := bXm (F_X10_needByte v1 v2 μ) (fun w1 μ2 => (F_X5_of v1 μ2).bind fun w4 => (F_X6_at w4.toNat v2 μ2).bind fun w5 => some (.inl w5, μ2)) (fun e μ => some (.inr e, μ))
theorem r_X10_octet {L : Nat} {xs : Nat → Int32} {d : Nat} {μ : bM}  (v1 : Int) (h1 : bR v1) (v2 : Int) (h2 : bR v2) : bD L xs (d + 2) 103 0 [(0, .ref 1), (1, bI v1), (2, bI v2)] [] μ ((F_X10_octet v1 v2 μ).bind (bXc)) := by
  have hr : ∀ r, (bXc) r = (bXc) r := fun _ => rfl
  unfold F_X10_octet
  refine bD.ok fun hk => ?_
  refine b_s (pc' := 1) (lv1 := [(0, .ref 1), (1, bI v1), (2, bI v2)]) (st' := [.ref 1]) l103_0 (fun _ => rfl) ?_
  refine b_s (pc' := 2) (lv1 := [(0, .ref 1), (1, bI v1), (2, bI v2)]) (st' := [bI v1, .ref 1]) l103_1 (fun _ => rfl) ?_
  refine b_s (pc' := 3) (lv1 := [(0, .ref 1), (1, bI v1), (2, bI v2)]) (st' := [bI v2, bI v1, .ref 1]) l103_2 (fun _ => rfl) ?_
  refine b_cXv l103_3 rfl (b_rc (ci := 8) (by rfl) (by decide) (by decide +kernel)) (Nat.le_of_ble_eq_true rfl) (Nat.le_of_ble_eq_true rfl) rfl (r_X10_needByte v1 h1 v2 h2) ⟨fun _ z => (by cases z), (by decide +kernel)⟩ rfl (fun _ _ => hr _) fun w1 μ2 hw1 => bD.ok fun hk3 => b_pc (pc' := 6) rfl ?_
  refine b_s (pc' := 7) (lv1 := [(0, .ref 1), (1, bI v1), (2, bI v2)]) (st' := [.ref 1]) l103_6 (fun _ => rfl) ?_
  refine b_gp (q' := 6) (j := 5) l103_7 (by rfl) (by decide) (by decide) rfl hk3 rfl rfl (b_pc (pc' := 10) rfl ?_)
  refine b_s (pc' := 11) (lv1 := [(0, .ref 1), (1, bI v1), (2, bI v2)]) (st' := [bI v1, .ref 6]) l103_10 (fun _ => rfl) ?_
  refine b_cPr l103_11 rfl (b_rc (ci := 4) (by rfl) (by decide) (by decide +kernel)) (Nat.le_of_ble_eq_true rfl) (Nat.le_of_ble_eq_true rfl) rfl (r_X5_of v1 h1) fun w4 hw4 => b_pc (pc' := 14) rfl ?_
  refine b_s (pc' := 15) (lv1 := [(0, .ref 1), (1, bI v1), (2, bI v2)]) (st' := [bI v2, .ref w4.toNat]) l103_14 (fun _ => rfl) ?_
  refine b_cPi l103_15 rfl (b_rc (ci := 5) hw4 (by decide) (by decide +kernel)) (Nat.le_of_ble_eq_true rfl) (Nat.le_of_ble_eq_true rfl) rfl (r_X6_at w4.toNat hw4 v2 h2) fun w5 hw5 => b_pc (pc' := 18) rfl ?_
  exact b_reti l103_18 rfl hw5 (hr _)
/-! ET.load -/
theorem l104_0 : (ax_dt (ax_T 104)).lookup 0 = some (.aload_n 0, 1, 0, 0, 0) := by decide +kernel
theorem l104_1 : (ax_dt (ax_T 104)).lookup 1 = some (.iload_n 1, 1, 0, 0, 0) := by decide +kernel
theorem l104_2 : (ax_dt (ax_T 104)).lookup 2 = some (.invokevirtual 184, 3, 122, 1, 0) := by decide +kernel
theorem l104_5 : (ax_dt (ax_T 104)).lookup 5 = some (.aload_n 0, 1, 0, 0, 0) := by decide +kernel
theorem l104_6 : (ax_dt (ax_T 104)).lookup 6 = some (.getfield 24, 3, 8, 2, 0) := by decide +kernel
theorem l104_9 : (ax_dt (ax_T 104)).lookup 9 = some (.iload_n 1, 1, 0, 0, 0) := by decide +kernel
theorem l104_10 : (ax_dt (ax_T 104)).lookup 10 = some (.invokevirtual 187, 3, 51, 1, 0) := by decide +kernel
theorem l104_13 : (ax_dt (ax_T 104)).lookup 13 = some (.astore_n 2, 1, 0, 0, 0) := by decide +kernel
theorem l104_14 : (ax_dt (ax_T 104)).lookup 14 = some (.aload_n 0, 1, 0, 0, 0) := by decide +kernel
theorem l104_15 : (ax_dt (ax_T 104)).lookup 15 = some (.getfield 14, 3, 8, 0, 0) := by decide +kernel
theorem l104_18 : (ax_dt (ax_T 104)).lookup 18 = some (.invokevirtual 63, 3, 53, 0, 0) := by decide +kernel
theorem l104_21 : (ax_dt (ax_T 104)).lookup 21 = some (.istore_n 3, 1, 0, 0, 0) := by decide +kernel
theorem l104_22 : (ax_dt (ax_T 104)).lookup 22 = some (.iload_n 3, 1, 0, 0, 0) := by decide +kernel
theorem l104_23 : (ax_dt (ax_T 104)).lookup 23 = some (.aload_n 2, 1, 0, 0, 0) := by decide +kernel
theorem l104_24 : (ax_dt (ax_T 104)).lookup 24 = some (.invokevirtual 197, 3, 54, 0, 0) := by decide +kernel
theorem l104_27 : (ax_dt (ax_T 104)).lookup 27 = some (.if_icmp .le 13, 3, 0, 0, 0) := by decide +kernel
theorem l104_40 : (ax_dt (ax_T 104)).lookup 40 = some (.aload_n 2, 1, 0, 0, 0) := by decide +kernel
theorem l104_41 : (ax_dt (ax_T 104)).lookup 41 = some (.iconst 0, 1, 0, 0, 0) := by decide +kernel
theorem l104_42 : (ax_dt (ax_T 104)).lookup 42 = some (.invokevirtual 71, 3, 58, 1, 0) := by decide +kernel
theorem l104_45 : (ax_dt (ax_T 104)).lookup 45 = some (.aload_n 2, 1, 0, 0, 0) := by decide +kernel
theorem l104_46 : (ax_dt (ax_T 104)).lookup 46 = some (.aload_n 0, 1, 0, 0, 0) := by decide +kernel
theorem l104_47 : (ax_dt (ax_T 104)).lookup 47 = some (.getfield 14, 3, 8, 0, 0) := by decide +kernel
theorem l104_50 : (ax_dt (ax_T 104)).lookup 50 = some (.iconst 0, 1, 0, 0, 0) := by decide +kernel
theorem l104_51 : (ax_dt (ax_T 104)).lookup 51 = some (.iload_n 3, 1, 0, 0, 0) := by decide +kernel
theorem l104_52 : (ax_dt (ax_T 104)).lookup 52 = some (.invokevirtual 135, 3, 65, 3, 0) := by decide +kernel
theorem l104_55 : (ax_dt (ax_T 104)).lookup 55 = some (.aload_n 0, 1, 0, 0, 0) := by decide +kernel
theorem l104_56 : (ax_dt (ax_T 104)).lookup 56 = some (.getfield 14, 3, 8, 0, 0) := by decide +kernel
theorem l104_59 : (ax_dt (ax_T 104)).lookup 59 = some (.iconst 0, 1, 0, 0, 0) := by decide +kernel
theorem l104_60 : (ax_dt (ax_T 104)).lookup 60 = some (.invokevirtual 71, 3, 58, 1, 0) := by decide +kernel
theorem l104_63 : (ax_dt (ax_T 104)).lookup 63 = some (.iload_n 3, 1, 0, 0, 0) := by decide +kernel
theorem l104_64 : (ax_dt (ax_T 104)).lookup 64 = some (.ireturn, 1, 0, 0, 0) := by decide +kernel
theorem x104_30 : (ax_dx (ax_T 104)).lookup 30 = some ("java/lang/UnsupportedOperationException", "too many bytes for the section", 84, 200, 88, false) := by decide +kernel
noncomputable def F_X10_load (v1 : Int) (μ : bM) : Option ((Int ⊕ String) × bM) := bXm (F_X10_needSection v1 μ) (fun w1 μ2 => (F_X5_of v1 μ2).bind fun w4 => (F_X6_used 2 μ2).bind fun w5 => (F_X6_most w4.toNat μ2).bind fun w6 => if w5 ≤ w6 then bMm (F_X6_cut w4.toNat 0 μ2) (fun w8 μ9 => bMm (F_X6_addFrom w4.toNat 2 0 w5 μ9) (fun w11 μ12 => bMm (F_X6_cut 2 0 μ12) (fun w14 μ15 => some (.inl w5, μ15)))) else some (.inr "java/lang/UnsupportedOperationException", μ2)) (fun e μ => some (.inr e, μ))
theorem r_X10_load {L : Nat} {xs : Nat → Int32} {d : Nat} {μ : bM}  (v1 : Int) (h1 : bR v1) : bD L xs (d + 2) 104 0 [(0, .ref 1), (1, bI v1)] [] μ ((F_X10_load v1 μ).bind (bXc)) := by
  have hr : ∀ r, (bXc) r = (bXc) r := fun _ => rfl
  unfold F_X10_load
  refine bD.ok fun hk => ?_
  refine b_s (pc' := 1) (lv1 := [(0, .ref 1), (1, bI v1)]) (st' := [.ref 1]) l104_0 (fun _ => rfl) ?_
  refine b_s (pc' := 2) (lv1 := [(0, .ref 1), (1, bI v1)]) (st' := [bI v1, .ref 1]) l104_1 (fun _ => rfl) ?_
  refine b_cXv l104_2 rfl (b_rc (ci := 8) (by rfl) (by decide) (by decide +kernel)) (Nat.le_of_ble_eq_true rfl) (Nat.le_of_ble_eq_true rfl) rfl (r_X10_needSection v1 h1) ⟨fun _ z => (by cases z), (by decide +kernel)⟩ rfl (fun _ _ => hr _) fun w1 μ2 hw1 => bD.ok fun hk3 => b_pc (pc' := 5) rfl ?_
  refine b_s (pc' := 6) (lv1 := [(0, .ref 1), (1, bI v1)]) (st' := [.ref 1]) l104_5 (fun _ => rfl) ?_
  refine b_gp (q' := 6) (j := 5) l104_6 (by rfl) (by decide) (by decide) rfl hk3 rfl rfl (b_pc (pc' := 9) rfl ?_)
  refine b_s (pc' := 10) (lv1 := [(0, .ref 1), (1, bI v1)]) (st' := [bI v1, .ref 6]) l104_9 (fun _ => rfl) ?_
  refine b_cPr l104_10 rfl (b_rc (ci := 4) (by rfl) (by decide) (by decide +kernel)) (Nat.le_of_ble_eq_true rfl) (Nat.le_of_ble_eq_true rfl) rfl (r_X5_of v1 h1) fun w4 hw4 => b_pc (pc' := 13) rfl ?_
  refine b_w (pc' := 14) (lv1 := ax_st1 [(0, .ref 1), (1, bI v1)] 2 (.ref w4.toNat)) (lv' := [(0, .ref 1), (2, .ref w4.toNat)]) (st' := []) l104_13 (fun _ => rfl) (bSb rfl (bSb rfl bSn)) ?_
  refine b_s (pc' := 15) (lv1 := [(0, .ref 1), (2, .ref w4.toNat)]) (st' := [.ref 1]) l104_14 (fun _ => rfl) ?_
  refine b_gp (q' := 2) (j := 1) l104_15 (by rfl) (by decide) (by decide) rfl hk3 rfl rfl (b_pc (pc' := 18) rfl ?_)
  refine b_cPi l104_18 rfl (b_rc (ci := 5) (by rfl) (by decide) (by decide +kernel)) (Nat.le_of_ble_eq_true rfl) (Nat.le_of_ble_eq_true rfl) rfl (r_X6_used 2 (by rfl)) fun w5 hw5 => b_pc (pc' := 21) rfl ?_
  refine b_w (pc' := 22) (lv1 := ax_st1 [(0, .ref 1), (2, .ref w4.toNat)] 3 (bI w5)) (lv' := [(0, .ref 1), (2, .ref w4.toNat), (3, bI w5)]) (st' := []) l104_21 (fun _ => rfl) (bSb rfl (bSb rfl (bSb rfl bSn))) ?_
  refine b_s (pc' := 23) (lv1 := [(0, .ref 1), (2, .ref w4.toNat), (3, bI w5)]) (st' := [bI w5]) l104_22 (fun _ => rfl) ?_
  refine b_s (pc' := 24) (lv1 := [(0, .ref 1), (2, .ref w4.toNat), (3, bI w5)]) (st' := [.ref w4.toNat, bI w5]) l104_23 (fun _ => rfl) ?_
  refine b_cPi l104_24 rfl (b_rc (ci := 5) hw4 (by decide) (by decide +kernel)) (Nat.le_of_ble_eq_true rfl) (Nat.le_of_ble_eq_true rfl) rfl (r_X6_most w4.toNat hw4) fun w6 hw6 => b_pc (pc' := 27) rfl ?_
  refine b_ile (pt := 40) l104_27 hw5 hw6 (by decide) rfl (fun c7 => ?_) (fun c7 => b_pc (pc' := 30) rfl ?_)
  · refine b_s (pc' := 41) (lv1 := [(0, .ref 1), (2, .ref w4.toNat), (3, bI w5)]) (st' := [.ref w4.toNat]) l104_40 (fun _ => rfl) ?_
    refine b_s (pc' := 42) (lv1 := [(0, .ref 1), (2, .ref w4.toNat), (3, bI w5)]) (st' := [bI 0, .ref w4.toNat]) l104_41 (fun _ => rfl) ?_
    refine b_cMv l104_42 rfl (b_rc (ci := 5) hw4 (by decide) (by decide +kernel)) (Nat.le_of_ble_eq_true rfl) (Nat.le_of_ble_eq_true rfl) rfl (r_X6_cut w4.toNat hw4 0 (by decide)) fun w8 μ9 hw8 => bD.ok fun hk10 => b_pc (pc' := 45) rfl ?_
    refine b_s (pc' := 46) (lv1 := [(0, .ref 1), (2, .ref w4.toNat), (3, bI w5)]) (st' := [.ref w4.toNat]) l104_45 (fun _ => rfl) ?_
    refine b_s (pc' := 47) (lv1 := [(0, .ref 1), (2, .ref w4.toNat), (3, bI w5)]) (st' := [.ref 1, .ref w4.toNat]) l104_46 (fun _ => rfl) ?_
    refine b_gp (q' := 2) (j := 1) l104_47 (by rfl) (by decide) (by decide) rfl hk10 rfl rfl (b_pc (pc' := 50) rfl ?_)
    refine b_s (pc' := 51) (lv1 := [(0, .ref 1), (2, .ref w4.toNat), (3, bI w5)]) (st' := [bI 0, .ref 2, .ref w4.toNat]) l104_50 (fun _ => rfl) ?_
    refine b_s (pc' := 52) (lv1 := [(0, .ref 1), (2, .ref w4.toNat), (3, bI w5)]) (st' := [bI w5, bI 0, .ref 2, .ref w4.toNat]) l104_51 (fun _ => rfl) ?_
    refine b_cMv l104_52 rfl (b_rc (ci := 5) hw4 (by decide) (by decide +kernel)) (Nat.le_of_ble_eq_true rfl) (Nat.le_of_ble_eq_true rfl) rfl (r_X6_addFrom w4.toNat hw4 2 (by rfl) 0 (by decide) w5 hw5) fun w11 μ12 hw11 => bD.ok fun hk13 => b_pc (pc' := 55) rfl ?_
    refine b_s (pc' := 56) (lv1 := [(0, .ref 1), (2, .ref w4.toNat), (3, bI w5)]) (st' := [.ref 1]) l104_55 (fun _ => rfl) ?_
    refine b_gp (q' := 2) (j := 1) l104_56 (by rfl) (by decide) (by decide) rfl hk13 rfl rfl (b_pc (pc' := 59) rfl ?_)
    refine b_s (pc' := 60) (lv1 := [(0, .ref 1), (2, .ref w4.toNat), (3, bI w5)]) (st' := [bI 0, .ref 2]) l104_59 (fun _ => rfl) ?_
    refine b_cMv l104_60 rfl (b_rc (ci := 5) (by rfl) (by decide) (by decide +kernel)) (Nat.le_of_ble_eq_true rfl) (Nat.le_of_ble_eq_true rfl) rfl (r_X6_cut 2 (by rfl) 0 (by decide)) fun w14 μ15 hw14 => bD.ok fun hk16 => b_pc (pc' := 63) rfl ?_
    refine b_s (pc' := 64) (lv1 := [(0, .ref 1), (2, .ref w4.toNat), (3, bI w5)]) (st' := [bI w5]) l104_63 (fun _ => rfl) ?_
    exact b_reti l104_64 rfl hw5 (hr _)
  · exact b_thr x104_30 (by decide) (Nat.le_of_ble_eq_true rfl) (hr _)
/-! ET.alter -/
theorem l105_0 : (ax_dt (ax_T 105)).lookup 0 = some (.aload_n 0, 1, 0, 0, 0) := by decide +kernel
theorem l105_1 : (ax_dt (ax_T 105)).lookup 1 = some (.iload_n 1, 1, 0, 0, 0) := by decide +kernel
theorem l105_2 : (ax_dt (ax_T 105)).lookup 2 = some (.iload_n 2, 1, 0, 0, 0) := by decide +kernel
theorem l105_3 : (ax_dt (ax_T 105)).lookup 3 = some (.invokevirtual 191, 3, 123, 2, 0) := by decide +kernel
theorem l105_6 : (ax_dt (ax_T 105)).lookup 6 = some (.aload_n 0, 1, 0, 0, 0) := by decide +kernel
theorem l105_7 : (ax_dt (ax_T 105)).lookup 7 = some (.getfield 24, 3, 8, 2, 0) := by decide +kernel
theorem l105_10 : (ax_dt (ax_T 105)).lookup 10 = some (.iload_n 1, 1, 0, 0, 0) := by decide +kernel
theorem l105_11 : (ax_dt (ax_T 105)).lookup 11 = some (.invokevirtual 187, 3, 51, 1, 0) := by decide +kernel
theorem l105_14 : (ax_dt (ax_T 105)).lookup 14 = some (.astore 4, 2, 0, 0, 0) := by decide +kernel
theorem l105_16 : (ax_dt (ax_T 105)).lookup 16 = some (.aload 4, 2, 0, 0, 0) := by decide +kernel
theorem l105_18 : (ax_dt (ax_T 105)).lookup 18 = some (.iload_n 2, 1, 0, 0, 0) := by decide +kernel
theorem l105_19 : (ax_dt (ax_T 105)).lookup 19 = some (.iload_n 3, 1, 0, 0, 0) := by decide +kernel
theorem l105_20 : (ax_dt (ax_T 105)).lookup 20 = some (.invokevirtual 202, 3, 57, 2, 0) := by decide +kernel
theorem l105_23 : (ax_dt (ax_T 105)).lookup 23 = some (.aload 4, 2, 0, 0, 0) := by decide +kernel
theorem l105_25 : (ax_dt (ax_T 105)).lookup 25 = some (.iload_n 2, 1, 0, 0, 0) := by decide +kernel
theorem l105_26 : (ax_dt (ax_T 105)).lookup 26 = some (.invokevirtual 194, 3, 56, 1, 0) := by decide +kernel
theorem l105_29 : (ax_dt (ax_T 105)).lookup 29 = some (.ireturn, 1, 0, 0, 0) := by decide +kernel
noncomputable def F_X10_alter (v1 : Int) (v2 : Int) (v3 : Int) (μ : bM) : Option ((Int ⊕ String) × bM) := bXm (F_X10_needByte v1 v2 μ) (fun w1 μ2 => (F_X5_of v1 μ2).bind fun w4 => bMm (F_X6_change w4.toNat v2 v3 μ2) (fun w5 μ6 => (F_X6_at w4.toNat v2 μ6).bind fun w8 => some (.inl w8, μ6))) (fun e μ => some (.inr e, μ))
theorem r_X10_alter {L : Nat} {xs : Nat → Int32} {d : Nat} {μ : bM}  (v1 : Int) (h1 : bR v1) (v2 : Int) (h2 : bR v2) (v3 : Int) (h3 : bR v3) : bD L xs (d + 2) 105 0 [(0, .ref 1), (1, bI v1), (2, bI v2), (3, bI v3)] [] μ ((F_X10_alter v1 v2 v3 μ).bind (bXc)) := by
  have hr : ∀ r, (bXc) r = (bXc) r := fun _ => rfl
  unfold F_X10_alter
  refine bD.ok fun hk => ?_
  refine b_s (pc' := 1) (lv1 := [(0, .ref 1), (1, bI v1), (2, bI v2), (3, bI v3)]) (st' := [.ref 1]) l105_0 (fun _ => rfl) ?_
  refine b_s (pc' := 2) (lv1 := [(0, .ref 1), (1, bI v1), (2, bI v2), (3, bI v3)]) (st' := [bI v1, .ref 1]) l105_1 (fun _ => rfl) ?_
  refine b_s (pc' := 3) (lv1 := [(0, .ref 1), (1, bI v1), (2, bI v2), (3, bI v3)]) (st' := [bI v2, bI v1, .ref 1]) l105_2 (fun _ => rfl) ?_
  refine b_cXv l105_3 rfl (b_rc (ci := 8) (by rfl) (by decide) (by decide +kernel)) (Nat.le_of_ble_eq_true rfl) (Nat.le_of_ble_eq_true rfl) rfl (r_X10_needByte v1 h1 v2 h2) ⟨fun _ z => (by cases z), (by decide +kernel)⟩ rfl (fun _ _ => hr _) fun w1 μ2 hw1 => bD.ok fun hk3 => b_pc (pc' := 6) rfl ?_
  refine b_s (pc' := 7) (lv1 := [(0, .ref 1), (1, bI v1), (2, bI v2), (3, bI v3)]) (st' := [.ref 1]) l105_6 (fun _ => rfl) ?_
  refine b_gp (q' := 6) (j := 5) l105_7 (by rfl) (by decide) (by decide) rfl hk3 rfl rfl (b_pc (pc' := 10) rfl ?_)
  refine b_s (pc' := 11) (lv1 := [(0, .ref 1), (1, bI v1), (2, bI v2), (3, bI v3)]) (st' := [bI v1, .ref 6]) l105_10 (fun _ => rfl) ?_
  refine b_cPr l105_11 rfl (b_rc (ci := 4) (by rfl) (by decide) (by decide +kernel)) (Nat.le_of_ble_eq_true rfl) (Nat.le_of_ble_eq_true rfl) rfl (r_X5_of v1 h1) fun w4 hw4 => b_pc (pc' := 14) rfl ?_
  refine b_w (pc' := 16) (lv1 := ax_st1 [(0, .ref 1), (1, bI v1), (2, bI v2), (3, bI v3)] 4 (.ref w4.toNat)) (lv' := [(2, bI v2), (3, bI v3), (4, .ref w4.toNat)]) (st' := []) l105_14 (fun _ => rfl) (bSb rfl (bSb rfl (bSb rfl bSn))) ?_
  refine b_s (pc' := 18) (lv1 := [(2, bI v2), (3, bI v3), (4, .ref w4.toNat)]) (st' := [.ref w4.toNat]) l105_16 (fun _ => rfl) ?_
  refine b_s (pc' := 19) (lv1 := [(2, bI v2), (3, bI v3), (4, .ref w4.toNat)]) (st' := [bI v2, .ref w4.toNat]) l105_18 (fun _ => rfl) ?_
  refine b_s (pc' := 20) (lv1 := [(2, bI v2), (3, bI v3), (4, .ref w4.toNat)]) (st' := [bI v3, bI v2, .ref w4.toNat]) l105_19 (fun _ => rfl) ?_
  refine b_cMv l105_20 rfl (b_rc (ci := 5) hw4 (by decide) (by decide +kernel)) (Nat.le_of_ble_eq_true rfl) (Nat.le_of_ble_eq_true rfl) rfl (r_X6_change w4.toNat hw4 v2 h2 v3 h3) fun w5 μ6 hw5 => bD.ok fun hk7 => b_pc (pc' := 23) rfl ?_
  refine b_s (pc' := 25) (lv1 := [(2, bI v2), (3, bI v3), (4, .ref w4.toNat)]) (st' := [.ref w4.toNat]) l105_23 (fun _ => rfl) ?_
  refine b_s (pc' := 26) (lv1 := [(2, bI v2), (3, bI v3), (4, .ref w4.toNat)]) (st' := [bI v2, .ref w4.toNat]) l105_25 (fun _ => rfl) ?_
  refine b_cPi l105_26 rfl (b_rc (ci := 5) hw4 (by decide) (by decide +kernel)) (Nat.le_of_ble_eq_true rfl) (Nat.le_of_ble_eq_true rfl) rfl (r_X6_at w4.toNat hw4 v2 h2) fun w8 hw8 => b_pc (pc' := 29) rfl ?_
  exact b_reti l105_29 rfl hw8 (hr _)
/-! ET.keepLetters -/
theorem l125_0 : (ax_dt (ax_T 125)).lookup 0 = some (.aload_n 0, 1, 0, 0, 0) := by decide +kernel
theorem l125_1 : (ax_dt (ax_T 125)).lookup 1 = some (.getfield 18, 3, 8, 1, 0) := by decide +kernel
theorem l125_4 : (ax_dt (ax_T 125)).lookup 4 = some (.iconst 0, 1, 0, 0, 0) := by decide +kernel
theorem l125_5 : (ax_dt (ax_T 125)).lookup 5 = some (.invokevirtual 71, 3, 58, 1, 0) := by decide +kernel
theorem l125_8 : (ax_dt (ax_T 125)).lookup 8 = some (.iconst 0, 1, 0, 0, 0) := by decide +kernel
theorem l125_9 : (ax_dt (ax_T 125)).lookup 9 = some (.istore_n 1, 1, 0, 0, 0) := by decide +kernel
theorem l125_10 : (ax_dt (ax_T 125)).lookup 10 = some (.iload_n 1, 1, 0, 0, 0) := by decide +kernel
theorem l125_11 : (ax_dt (ax_T 125)).lookup 11 = some (.aload_n 0, 1, 0, 0, 0) := by decide +kernel
theorem l125_12 : (ax_dt (ax_T 125)).lookup 12 = some (.getfield 45, 3, 8, 5, 0) := by decide +kernel
theorem l125_15 : (ax_dt (ax_T 125)).lookup 15 = some (.getfield 81, 3, 7, 1, 0) := by decide +kernel
theorem l125_18 : (ax_dt (ax_T 125)).lookup 18 = some (.if_icmp .ge 131, 3, 0, 0, 0) := by decide +kernel
theorem l125_21 : (ax_dt (ax_T 125)).lookup 21 = some (.iconst 0, 1, 0, 0, 0) := by decide +kernel
theorem l125_22 : (ax_dt (ax_T 125)).lookup 22 = some (.istore_n 2, 1, 0, 0, 0) := by decide +kernel
theorem l125_23 : (ax_dt (ax_T 125)).lookup 23 = some (.iload_n 2, 1, 0, 0, 0) := by decide +kernel
theorem l125_24 : (ax_dt (ax_T 125)).lookup 24 = some (.aload_n 0, 1, 0, 0, 0) := by decide +kernel
theorem l125_25 : (ax_dt (ax_T 125)).lookup 25 = some (.getfield 45, 3, 8, 5, 0) := by decide +kernel
theorem l125_28 : (ax_dt (ax_T 125)).lookup 28 = some (.getfield 248, 3, 7, 11, 0) := by decide +kernel
theorem l125_31 : (ax_dt (ax_T 125)).lookup 31 = some (.iload_n 1, 1, 0, 0, 0) := by decide +kernel
theorem l125_32 : (ax_dt (ax_T 125)).lookup 32 = some (.iaload, 1, 0, 0, 0) := by decide +kernel
theorem l125_33 : (ax_dt (ax_T 125)).lookup 33 = some (.if_icmp .ge 110, 3, 0, 0, 0) := by decide +kernel
theorem l125_36 : (ax_dt (ax_T 125)).lookup 36 = some (.iload_n 1, 1, 0, 0, 0) := by decide +kernel
theorem l125_37 : (ax_dt (ax_T 125)).lookup 37 = some (.iload_n 2, 1, 0, 0, 0) := by decide +kernel
theorem l125_38 : (ax_dt (ax_T 125)).lookup 38 = some (.invokestatic 327, 3, 78, 2, 0) := by decide +kernel
theorem l125_41 : (ax_dt (ax_T 125)).lookup 41 = some (.istore_n 3, 1, 0, 0, 0) := by decide +kernel
theorem l125_42 : (ax_dt (ax_T 125)).lookup 42 = some (.aload_n 0, 1, 0, 0, 0) := by decide +kernel
theorem l125_43 : (ax_dt (ax_T 125)).lookup 43 = some (.getfield 45, 3, 8, 5, 0) := by decide +kernel
theorem l125_46 : (ax_dt (ax_T 125)).lookup 46 = some (.getfield 270, 3, 7, 13, 0) := by decide +kernel
theorem l125_49 : (ax_dt (ax_T 125)).lookup 49 = some (.iload_n 3, 1, 0, 0, 0) := by decide +kernel
theorem l125_50 : (ax_dt (ax_T 125)).lookup 50 = some (.iaload, 1, 0, 0, 0) := by decide +kernel
theorem l125_51 : (ax_dt (ax_T 125)).lookup 51 = some (.invokestatic 278, 3, 16, 1, 0) := by decide +kernel
theorem l125_54 : (ax_dt (ax_T 125)).lookup 54 = some (.ifCond .eq 83, 3, 0, 0, 0) := by decide +kernel
theorem l125_57 : (ax_dt (ax_T 125)).lookup 57 = some (.aload_n 0, 1, 0, 0, 0) := by decide +kernel
theorem l125_58 : (ax_dt (ax_T 125)).lookup 58 = some (.getfield 45, 3, 8, 5, 0) := by decide +kernel
theorem l125_61 : (ax_dt (ax_T 125)).lookup 61 = some (.getfield 270, 3, 7, 13, 0) := by decide +kernel
theorem l125_64 : (ax_dt (ax_T 125)).lookup 64 = some (.iload_n 3, 1, 0, 0, 0) := by decide +kernel
theorem l125_65 : (ax_dt (ax_T 125)).lookup 65 = some (.iaload, 1, 0, 0, 0) := by decide +kernel
theorem l125_66 : (ax_dt (ax_T 125)).lookup 66 = some (.bipush 14, 2, 0, 0, 0) := by decide +kernel
theorem l125_68 : (ax_dt (ax_T 125)).lookup 68 = some (.if_icmp .ne 13, 3, 0, 0, 0) := by decide +kernel
theorem l125_71 : (ax_dt (ax_T 125)).lookup 71 = some (.aload_n 0, 1, 0, 0, 0) := by decide +kernel
theorem l125_72 : (ax_dt (ax_T 125)).lookup 72 = some (.getfield 24, 3, 8, 2, 0) := by decide +kernel
theorem l125_75 : (ax_dt (ax_T 125)).lookup 75 = some (.getfield 178, 3, 4, 2, 0) := by decide +kernel
theorem l125_78 : (ax_dt (ax_T 125)).lookup 78 = some (.goto 10, 3, 0, 0, 0) := by decide +kernel
theorem l125_81 : (ax_dt (ax_T 125)).lookup 81 = some (.aload_n 0, 1, 0, 0, 0) := by decide +kernel
theorem l125_82 : (ax_dt (ax_T 125)).lookup 82 = some (.getfield 24, 3, 8, 2, 0) := by decide +kernel
theorem l125_85 : (ax_dt (ax_T 125)).lookup 85 = some (.getfield 163, 3, 4, 0, 0) := by decide +kernel
theorem l125_88 : (ax_dt (ax_T 125)).lookup 88 = some (.astore 4, 2, 0, 0, 0) := by decide +kernel
theorem l125_90 : (ax_dt (ax_T 125)).lookup 90 = some (.aload_n 0, 1, 0, 0, 0) := by decide +kernel
theorem l125_91 : (ax_dt (ax_T 125)).lookup 91 = some (.getfield 18, 3, 8, 1, 0) := by decide +kernel
theorem l125_94 : (ax_dt (ax_T 125)).lookup 94 = some (.invokevirtual 63, 3, 53, 0, 0) := by decide +kernel
theorem l125_97 : (ax_dt (ax_T 125)).lookup 97 = some (.istore 5, 2, 0, 0, 0) := by decide +kernel
theorem l125_99 : (ax_dt (ax_T 125)).lookup 99 = some (.aload_n 0, 1, 0, 0, 0) := by decide +kernel
theorem l125_100 : (ax_dt (ax_T 125)).lookup 100 = some (.getfield 18, 3, 8, 1, 0) := by decide +kernel
theorem l125_103 : (ax_dt (ax_T 125)).lookup 103 = some (.aload 4, 2, 0, 0, 0) := by decide +kernel
theorem l125_105 : (ax_dt (ax_T 125)).lookup 105 = some (.aload_n 0, 1, 0, 0, 0) := by decide +kernel
theorem l125_106 : (ax_dt (ax_T 125)).lookup 106 = some (.getfield 45, 3, 8, 5, 0) := by decide +kernel
theorem l125_109 : (ax_dt (ax_T 125)).lookup 109 = some (.iload_n 3, 1, 0, 0, 0) := by decide +kernel
theorem l125_110 : (ax_dt (ax_T 125)).lookup 110 = some (.invokevirtual 287, 3, 85, 1, 0) := by decide +kernel
theorem l125_113 : (ax_dt (ax_T 125)).lookup 113 = some (.aload_n 0, 1, 0, 0, 0) := by decide +kernel
theorem l125_114 : (ax_dt (ax_T 125)).lookup 114 = some (.getfield 45, 3, 8, 5, 0) := by decide +kernel
theorem l125_117 : (ax_dt (ax_T 125)).lookup 117 = some (.getfield 273, 3, 7, 15, 0) := by decide +kernel
theorem l125_120 : (ax_dt (ax_T 125)).lookup 120 = some (.iload_n 3, 1, 0, 0, 0) := by decide +kernel
theorem l125_121 : (ax_dt (ax_T 125)).lookup 121 = some (.iaload, 1, 0, 0, 0) := by decide +kernel
theorem l125_122 : (ax_dt (ax_T 125)).lookup 122 = some (.invokevirtual 135, 3, 65, 3, 0) := by decide +kernel
theorem l125_125 : (ax_dt (ax_T 125)).lookup 125 = some (.aload_n 0, 1, 0, 0, 0) := by decide +kernel
theorem l125_126 : (ax_dt (ax_T 125)).lookup 126 = some (.getfield 45, 3, 8, 5, 0) := by decide +kernel
theorem l125_129 : (ax_dt (ax_T 125)).lookup 129 = some (.getfield 281, 3, 7, 14, 0) := by decide +kernel
theorem l125_132 : (ax_dt (ax_T 125)).lookup 132 = some (.iload_n 3, 1, 0, 0, 0) := by decide +kernel
theorem l125_133 : (ax_dt (ax_T 125)).lookup 133 = some (.iload 5, 2, 0, 0, 0) := by decide +kernel
theorem l125_135 : (ax_dt (ax_T 125)).lookup 135 = some (.i2l, 1, 0, 0, 0) := by decide +kernel
theorem l125_136 : (ax_dt (ax_T 125)).lookup 136 = some (.lastore, 1, 0, 0, 0) := by decide +kernel
theorem l125_137 : (ax_dt (ax_T 125)).lookup 137 = some (.iinc 2 1, 3, 0, 0, 0) := by decide +kernel
theorem l125_140 : (ax_dt (ax_T 125)).lookup 140 = some (.goto (-117), 3, 0, 0, 0) := by decide +kernel
theorem l125_143 : (ax_dt (ax_T 125)).lookup 143 = some (.iinc 1 1, 3, 0, 0, 0) := by decide +kernel
theorem l125_146 : (ax_dt (ax_T 125)).lookup 146 = some (.goto (-136), 3, 0, 0, 0) := by decide +kernel
theorem l125_149 : (ax_dt (ax_T 125)).lookup 149 = some (.return_, 1, 0, 0, 0) := by decide +kernel
noncomputable def F_X10_keepLetters_88 (v1 : Int) (v2 : Int) (v3 : Int) (y0 : Nat) (μ : bM) : Option ((Int × bM) ⊕ ((Int × bM) ⊕ (Int × bM))) := (F_X6_used 4 μ).bind fun w1 => (F_X8_start (μ 1 5).toNat v3 μ).bind fun w2 => bG (0 ≤ v3 ∧ v3 < 3200) (bMm (F_X6_addFrom 4 y0 w2 (μ ((μ 1 5).toNat + 14) v3.toNat) μ) (fun w3 μ4 => bG (0 ≤ v3 ∧ v3 < 3200) (bG (bR (v2 + 1)) (some (.inl ((v2 + 1), (bset μ4 ((μ4 1 5).toNat + 13) v3.toNat w1)))))))
noncomputable def F_X10_keepLetters_23 (v1 : Int) (v2 : Int) (μ : bM) : Option ((Int × bM) ⊕ ((Int × bM) ⊕ (Int × bM))) := bG (0 ≤ v1 ∧ v1 < 400) (if (μ ((μ 1 5).toNat + 10) v1.toNat) ≤ v2 then bG (bR (v1 + 1)) (some (.inr (.inl ((v1 + 1), μ)))) else (F_X8_slotAt v1 v2 μ).bind fun w3 => bG (0 ≤ w3 ∧ w3 < 3200) ((F_X2_isLetters (μ ((μ 1 5).toNat + 12) w3.toNat) μ).bind fun w4 => if w4 = 0 then bG (bR (v2 + 1)) (some (.inl ((v2 + 1), μ))) else bG (0 ≤ w3 ∧ w3 < 3200) (if ¬ (μ ((μ 1 5).toNat + 12) w3.toNat) = 14 then F_X10_keepLetters_88 v1 v2 w3 7 μ else F_X10_keepLetters_88 v1 v2 w3 11 μ)))
noncomputable def F_X10_keepLetters_10 (v1 : Int) (μ : bM) : Option ((Int × bM) ⊕ (Int × bM)) := if (μ (μ 1 5).toNat 1) ≤ v1 then some (.inr (0, μ)) else bLoop (fun z => F_X10_keepLetters_23 v1 z.1 z.2) (0, μ)
noncomputable def F_X10_keepLetters (μ : bM) : Option (Int × bM) := bMm (F_X6_cut 4 0 μ) (fun w1 μ2 => bLoop (fun z => F_X10_keepLetters_10 z.1 z.2) (0, μ2))
theorem p_X10_keepLetters_88 {L : Nat} {xs : Nat → Int32} {d : Nat} {μ : bM} {v1 : Int} {κ : ((Int × bM) ⊕ ((Int × bM) ⊕ (Int × bM))) → Option bX} (hr : ∀ r : Int × bM, κ (.inr (.inr r)) = (bMc) r) (H10 : ∀ (v1 : Int) (μ : bM), bR v1 → bD L xs (d + 2) 125 10 [(0, .ref 1), (1, bI v1)] [] μ (κ (.inr (.inl (v1, μ))))) (H23 : ∀ (v2 : Int) (μ : bM), bR v2 → bD L xs (d + 2) 125 23 [(0, .ref 1), (1, bI v1), (2, bI v2)] [] μ (κ (.inl (v2, μ))))  (h1 : bR v1) {v2 : Int} (h2 : bR v2) {v3 : Int} (h3 : bR v3) {y0 : Nat} (hy0 : bStore y0) : bD L xs (d + 2) 125 88 [(0, .ref 1), (1, bI v1), (2, bI v2), (3, bI v3)] [.ref y0] μ ((F_X10_keepLetters_88 v1 v2 v3 y0 μ).bind κ) := by
  unfold F_X10_keepLetters_88
  refine bD.ok fun hk => ?_
  refine b_w (pc' := 90) (lv1 := ax_st1 [(0, .ref 1), (1, bI v1), (2, bI v2), (3, bI v3)] 4 (.ref y0)) (lv' := [(0, .ref 1), (1, bI v1), (2, bI v2), (3, bI v3), (4, .ref y0)]) (st' := []) l125_88 (fun _ => rfl) (bSb rfl (bSb rfl (bSb rfl (bSb rfl (bSb rfl bSn))))) ?_
  refine b_s (pc' := 91) (lv1 := [(0, .ref 1), (1, bI v1), (2, bI v2), (3, bI v3), (4, .ref y0)]) (st' := [.ref 1]) l125_90 (fun _ => rfl) ?_
  refine b_gp (q' := 4) (j := 3) l125_91 (by rfl) (by decide) (by decide) rfl hk rfl rfl (b_pc (pc' := 94) rfl ?_)
  refine b_cPi l125_94 rfl (b_rc (ci := 5) (by rfl) (by decide) (by decide +kernel)) (Nat.le_of_ble_eq_true rfl) (Nat.le_of_ble_eq_true rfl) rfl (r_X6_used 4 (by rfl)) fun w1 hw1 => b_pc (pc' := 97) rfl ?_
  refine b_w (pc' := 99) (lv1 := ax_st1 [(0, .ref 1), (1, bI v1), (2, bI v2), (3, bI v3), (4, .ref y0)] 5 (bI w1)) (lv' := [(0, .ref 1), (1, bI v1), (2, bI v2), (3, bI v3), (4, .ref y0), (5, bI w1)]) (st' := []) l125_97 (fun _ => rfl) (bSb rfl (bSb rfl (bSb rfl (bSb rfl (bSb rfl (bSb rfl bSn)))))) ?_
  refine b_s (pc' := 100) (lv1 := [(0, .ref 1), (1, bI v1), (2, bI v2), (3, bI v3), (4, .ref y0), (5, bI w1)]) (st' := [.ref 1]) l125_99 (fun _ => rfl) ?_
  refine b_gp (q' := 4) (j := 3) l125_100 (by rfl) (by decide) (by decide) rfl hk rfl rfl (b_pc (pc' := 103) rfl ?_)
  refine b_s (pc' := 105) (lv1 := [(0, .ref 1), (1, bI v1), (2, bI v2), (3, bI v3), (4, .ref y0), (5, bI w1)]) (st' := [.ref y0, .ref 4]) l125_103 (fun _ => rfl) ?_
  refine b_s (pc' := 106) (lv1 := [(0, .ref 1), (1, bI v1), (2, bI v2), (3, bI v3), (4, .ref y0), (5, bI w1)]) (st' := [.ref 1, .ref y0, .ref 4]) l125_105 (fun _ => rfl) ?_
  refine b_gr l125_106 (by rfl) (by decide) (by decide) rfl (b_pc (pc' := 109) rfl ?_)
  refine b_s (pc' := 110) (lv1 := [(0, .ref 1), (1, bI v1), (2, bI v2), (3, bI v3), (4, .ref y0), (5, bI w1)]) (st' := [bI v3, .ref (μ 1 5).toNat, .ref y0, .ref 4]) l125_109 (fun _ => rfl) ?_
  refine b_cPi l125_110 rfl (b_rc (ci := 7) (bO_ft hk (ci := 8) (by rfl) rfl) (by decide) (by decide +kernel)) (Nat.le_of_ble_eq_true rfl) (Nat.le_of_ble_eq_true rfl) rfl (r_X8_start (μ 1 5).toNat (bO_ft hk (ci := 8) (by rfl) rfl) v3 h3) fun w2 hw2 => b_pc (pc' := 113) rfl ?_
  refine b_s (pc' := 114) (lv1 := [(0, .ref 1), (1, bI v1), (2, bI v2), (3, bI v3), (4, .ref y0), (5, bI w1)]) (st' := [.ref 1, bI w2, .ref y0, .ref 4]) l125_113 (fun _ => rfl) ?_
  refine b_gr l125_114 (by rfl) (by decide) (by decide) rfl (b_pc (pc' := 117) rfl ?_)
  refine b_gp (q' := ((μ 1 5).toNat + 14)) (j := 14) l125_117 (bO_ft hk (ci := 8) (by rfl) rfl) (by decide) (by decide) rfl hk rfl rfl (b_pc (pc' := 120) rfl ?_)
  refine b_s (pc' := 121) (lv1 := [(0, .ref 1), (1, bI v1), (2, bI v2), (3, bI v3), (4, .ref y0), (5, bI w1)]) (st' := [bI v3, .ref ((μ 1 5).toNat + 14), bI w2, .ref y0, .ref 4]) l125_120 (fun _ => rfl) ?_
  refine b_g fun g9 => ?_
  refine b_ial l125_121 (bTree_l (bO_ft hk (ci := 8) (by rfl) rfl)) g9 (b_pc (pc' := 122) rfl ?_)
  refine b_cMv l125_122 rfl (b_rc (ci := 5) (by rfl) (by decide) (by decide +kernel)) (Nat.le_of_ble_eq_true rfl) (Nat.le_of_ble_eq_true rfl) rfl (r_X6_addFrom 4 (by rfl) y0 hy0 w2 hw2 (μ ((μ 1 5).toNat + 14) v3.toNat) (bO_i hk (bTree_l (bO_ft hk (ci := 8) (by rfl) rfl)))) fun w3 μ4 hw3 => bD.ok fun hk5 => b_pc (pc' := 125) rfl ?_
  refine b_s (pc' := 126) (lv1 := [(0, .ref 1), (1, bI v1), (2, bI v2), (3, bI v3), (4, .ref y0), (5, bI w1)]) (st' := [.ref 1]) l125_125 (fun _ => rfl) ?_
  refine b_gr l125_126 (by rfl) (by decide) (by decide) rfl (b_pc (pc' := 129) rfl ?_)
  refine b_gp (q' := ((μ4 1 5).toNat + 13)) (j := 13) l125_129 (bO_ft hk5 (ci := 8) (by rfl) rfl) (by decide) (by decide) rfl hk5 rfl rfl (b_pc (pc' := 132) rfl ?_)
  refine b_s (pc' := 133) (lv1 := [(0, .ref 1), (1, bI v1), (2, bI v2), (3, bI v3), (4, .ref y0), (5, bI w1)]) (st' := [bI v3, .ref ((μ4 1 5).toNat + 13)]) l125_132 (fun _ => rfl) ?_
  refine b_s (pc' := 135) (lv1 := [(0, .ref 1), (1, bI v1), (2, bI v2), (3, bI v3), (4, .ref y0), (5, bI w1)]) (st' := [bI w1, bI v3, .ref ((μ4 1 5).toNat + 13)]) l125_133 (fun _ => rfl) ?_
  refine b_i2l l125_135 hw1 (b_pc (pc' := 136) rfl ?_)
  refine b_g fun g8 => ?_
  refine b_las l125_136 (bTree_v (bO_ft hk5 (ci := 8) (by rfl) rfl)) g8 (bR_L hw1) (bD.ok fun hk6 => b_pc (pc' := 137) rfl ?_)
  refine b_inc (lv' := [(0, .ref 1), (1, bI v1), (2, bI (v2 + 1))]) l125_137 rfl (by decide +kernel) (bSb rfl (bSb rfl (bSb rfl bSn))) fun g7 => (b_pc (pc' := 140) rfl ?_)
  refine b_s (pc' := 23) (lv1 := [(0, .ref 1), (1, bI v1), (2, bI (v2 + 1))]) (st' := []) l125_140 (fun _ => rfl) ?_
  refine bD.wk (lv' := [(0, .ref 1), (1, bI v1), (2, bI (v2 + 1))]) (bSb rfl (bSb rfl (bSb rfl bSn))) ?_
  exact H23 (v2 + 1) (bset μ4 ((μ4 1 5).toNat + 13) v3.toNat w1) g7
theorem q_X10_keepLetters_23 {L : Nat} {xs : Nat → Int32} {d : Nat} {μ : bM} {v1 : Int} {κ : ((Int × bM) ⊕ ((Int × bM) ⊕ (Int × bM))) → Option bX} (hr : ∀ r : Int × bM, κ (.inr (.inr r)) = (bMc) r) (H10 : ∀ (v1 : Int) (μ : bM), bR v1 → bD L xs (d + 2) 125 10 [(0, .ref 1), (1, bI v1)] [] μ (κ (.inr (.inl (v1, μ))))) (H23 : ∀ (v2 : Int) (μ : bM), bR v2 → bD L xs (d + 2) 125 23 [(0, .ref 1), (1, bI v1), (2, bI v2)] [] μ (κ (.inl (v2, μ))))  (h1 : bR v1) {v2 : Int} (h2 : bR v2) : bD L xs (d + 2) 125 23 [(0, .ref 1), (1, bI v1), (2, bI v2)] [] μ ((F_X10_keepLetters_23 v1 v2 μ).bind κ) := by
  unfold F_X10_keepLetters_23
  refine bD.ok fun hk => ?_
  refine b_s (pc' := 24) (lv1 := [(0, .ref 1), (1, bI v1), (2, bI v2)]) (st' := [bI v2]) l125_23 (fun _ => rfl) ?_
  refine b_s (pc' := 25) (lv1 := [(0, .ref 1), (1, bI v1), (2, bI v2)]) (st' := [.ref 1, bI v2]) l125_24 (fun _ => rfl) ?_
  refine b_gr l125_25 (by rfl) (by decide) (by decide) rfl (b_pc (pc' := 28) rfl ?_)
  refine b_gp (q' := ((μ 1 5).toNat + 10)) (j := 10) l125_28 (bO_ft hk (ci := 8) (by rfl) rfl) (by decide) (by decide) rfl hk rfl rfl (b_pc (pc' := 31) rfl ?_)
  refine b_s (pc' := 32) (lv1 := [(0, .ref 1), (1, bI v1), (2, bI v2)]) (st' := [bI v1, .ref ((μ 1 5).toNat + 10), bI v2]) l125_31 (fun _ => rfl) ?_
  refine b_g fun g10 => ?_
  refine b_ial l125_32 (bTree_e (bO_ft hk (ci := 8) (by rfl) rfl) 10 (by decide)) g10 (b_pc (pc' := 33) rfl ?_)
  refine b_ige (pt := 143) l125_33 h2 (bO_i hk (bTree_e (bO_ft hk (ci := 8) (by rfl) rfl) 10 (by decide))) (by decide) rfl (fun c1 => ?_) (fun c1 => b_pc (pc' := 36) rfl ?_)
  · refine b_inc (lv' := [(0, .ref 1), (1, bI (v1 + 1))]) l125_143 rfl (by decide +kernel) (bSb rfl (bSb rfl bSn)) fun g2 => (b_pc (pc' := 146) rfl ?_)
    refine b_s (pc' := 10) (lv1 := [(0, .ref 1), (1, bI (v1 + 1))]) (st' := []) l125_146 (fun _ => rfl) ?_
    refine bD.wk (lv' := [(0, .ref 1), (1, bI (v1 + 1))]) (bSb rfl (bSb rfl bSn)) ?_
    exact H10 (v1 + 1) μ g2
  · refine b_s (pc' := 37) (lv1 := [(0, .ref 1), (1, bI v1), (2, bI v2)]) (st' := [bI v1]) l125_36 (fun _ => rfl) ?_
    refine b_s (pc' := 38) (lv1 := [(0, .ref 1), (1, bI v1), (2, bI v2)]) (st' := [bI v2, bI v1]) l125_37 (fun _ => rfl) ?_
    refine b_cPi l125_38 rfl (fun _ => trivial) (Nat.le_of_ble_eq_true rfl) (Nat.le_of_ble_eq_true rfl) rfl (r_X8_slotAt v1 h1 v2 h2) fun w3 hw3 => b_pc (pc' := 41) rfl ?_
    refine b_w (pc' := 42) (lv1 := ax_st1 [(0, .ref 1), (1, bI v1), (2, bI v2)] 3 (bI w3)) (lv' := [(0, .ref 1), (1, bI v1), (2, bI v2), (3, bI w3)]) (st' := []) l125_41 (fun _ => rfl) (bSb rfl (bSb rfl (bSb rfl (bSb rfl bSn)))) ?_
    refine b_s (pc' := 43) (lv1 := [(0, .ref 1), (1, bI v1), (2, bI v2), (3, bI w3)]) (st' := [.ref 1]) l125_42 (fun _ => rfl) ?_
    refine b_gr l125_43 (by rfl) (by decide) (by decide) rfl (b_pc (pc' := 46) rfl ?_)
    refine b_gp (q' := ((μ 1 5).toNat + 12)) (j := 12) l125_46 (bO_ft hk (ci := 8) (by rfl) rfl) (by decide) (by decide) rfl hk rfl rfl (b_pc (pc' := 49) rfl ?_)
    refine b_s (pc' := 50) (lv1 := [(0, .ref 1), (1, bI v1), (2, bI v2), (3, bI w3)]) (st' := [bI w3, .ref ((μ 1 5).toNat + 12)]) l125_49 (fun _ => rfl) ?_
    refine b_g fun g9 => ?_
    refine b_ial l125_50 (bTree_f (bO_ft hk (ci := 8) (by rfl) rfl)) g9 (b_pc (pc' := 51) rfl ?_)
    refine b_cPz l125_51 rfl (fun _ => trivial) (Nat.le_of_ble_eq_true rfl) (Nat.le_of_ble_eq_true rfl) rfl (r_X2_isLetters (μ ((μ 1 5).toNat + 12) w3.toNat) (bO_i hk (bTree_f (bO_ft hk (ci := 8) (by rfl) rfl)))) fun w4 hw4 => b_pc (pc' := 54) rfl ?_
    refine b_zeq (pt := 137) l125_54 (bZ_R hw4) (by decide) rfl (fun c5 => ?_) (fun c5 => b_pc (pc' := 57) rfl ?_)
    · refine b_inc (lv' := [(0, .ref 1), (1, bI v1), (2, bI (v2 + 1))]) l125_137 rfl (by decide +kernel) (bSb rfl (bSb rfl (bSb rfl bSn))) fun g6 => (b_pc (pc' := 140) rfl ?_)
      refine b_s (pc' := 23) (lv1 := [(0, .ref 1), (1, bI v1), (2, bI (v2 + 1))]) (st' := []) l125_140 (fun _ => rfl) ?_
      refine bD.wk (lv' := [(0, .ref 1), (1, bI v1), (2, bI (v2 + 1))]) (bSb rfl (bSb rfl (bSb rfl bSn))) ?_
      exact H23 (v2 + 1) μ g6
    · refine b_s (pc' := 58) (lv1 := [(0, .ref 1), (1, bI v1), (2, bI v2), (3, bI w3)]) (st' := [.ref 1]) l125_57 (fun _ => rfl) ?_
      refine b_gr l125_58 (by rfl) (by decide) (by decide) rfl (b_pc (pc' := 61) rfl ?_)
      refine b_gp (q' := ((μ 1 5).toNat + 12)) (j := 12) l125_61 (bO_ft hk (ci := 8) (by rfl) rfl) (by decide) (by decide) rfl hk rfl rfl (b_pc (pc' := 64) rfl ?_)
      refine b_s (pc' := 65) (lv1 := [(0, .ref 1), (1, bI v1), (2, bI v2), (3, bI w3)]) (st' := [bI w3, .ref ((μ 1 5).toNat + 12)]) l125_64 (fun _ => rfl) ?_
      refine b_g fun g8 => ?_
      refine b_ial l125_65 (bTree_f (bO_ft hk (ci := 8) (by rfl) rfl)) g8 (b_pc (pc' := 66) rfl ?_)
      refine b_bipush l125_66 (by decide) (b_pc (pc' := 68) rfl ?_)
      refine b_ine (pt := 81) l125_68 (bO_i hk (bTree_f (bO_ft hk (ci := 8) (by rfl) rfl))) (by decide) (by decide) rfl (fun c7 => ?_) (fun c7 => b_pc (pc' := 71) rfl ?_)
      · refine b_s (pc' := 82) (lv1 := [(0, .ref 1), (1, bI v1), (2, bI v2), (3, bI w3)]) (st' := [.ref 1]) l125_81 (fun _ => rfl) ?_
        refine b_gp (q' := 6) (j := 5) l125_82 (by rfl) (by decide) (by decide) rfl hk rfl rfl (b_pc (pc' := 85) rfl ?_)
        refine b_gp (q' := 7) (j := 1) l125_85 (by rfl) (by decide) (by decide) rfl hk rfl rfl (b_pc (pc' := 88) rfl ?_)
        refine bD.wk (lv' := [(0, .ref 1), (1, bI v1), (2, bI v2), (3, bI w3)]) (bSb rfl (bSb rfl (bSb rfl (bSb rfl bSn)))) ?_
        exact p_X10_keepLetters_88 hr H10 H23 h1 h2 hw3 (by rfl)
      · refine b_s (pc' := 72) (lv1 := [(0, .ref 1), (1, bI v1), (2, bI v2), (3, bI w3)]) (st' := [.ref 1]) l125_71 (fun _ => rfl) ?_
        refine b_gp (q' := 6) (j := 5) l125_72 (by rfl) (by decide) (by decide) rfl hk rfl rfl (b_pc (pc' := 75) rfl ?_)
        refine b_gp (q' := 11) (j := 5) l125_75 (by rfl) (by decide) (by decide) rfl hk rfl rfl (b_pc (pc' := 78) rfl ?_)
        refine b_s (pc' := 88) (lv1 := [(0, .ref 1), (1, bI v1), (2, bI v2), (3, bI w3)]) (st' := [.ref 11]) l125_78 (fun _ => rfl) ?_
        refine bD.wk (lv' := [(0, .ref 1), (1, bI v1), (2, bI v2), (3, bI w3)]) (bSb rfl (bSb rfl (bSb rfl (bSb rfl bSn)))) ?_
        exact p_X10_keepLetters_88 hr H10 H23 h1 h2 hw3 (by rfl)
theorem p_X10_keepLetters_23 {L : Nat} {xs : Nat → Int32} {d : Nat} {μ : bM}  {κ : ((Int × bM) ⊕ (Int × bM)) → Option bX} (hr : ∀ r : Int × bM, κ (.inr r) = (bMc) r) (H10 : ∀ (v1 : Int) (μ : bM), bR v1 → bD L xs (d + 2) 125 10 [(0, .ref 1), (1, bI v1)] [] μ (κ (.inl (v1, μ))))  {v1 : Int} (h1 : bR v1) {v2 : Int} (h2 : bR v2) : bD L xs (d + 2) 125 23 [(0, .ref 1), (1, bI v1), (2, bI v2)] [] μ ((bLoop (fun z => F_X10_keepLetters_23 v1 z.1 z.2) (v2, μ)).bind κ) :=
  b_loop (fun z => [(0, .ref 1), (1, bI v1), (2, bI z.1)]) (fun z => z.2) (fun z => bR z.1) (fun κ' hκ HH z hz => q_X10_keepLetters_23 (κ := κ') (fun r => (hκ _).trans (hr r)) (fun a1 am b1 => b_eq (hκ _) (H10 a1 am b1)) (fun a2 am b2 => HH (a2, am) b2)  h1 hz) (v2, μ) h2
theorem q_X10_keepLetters_10 {L : Nat} {xs : Nat → Int32} {d : Nat} {μ : bM}  {κ : ((Int × bM) ⊕ (Int × bM)) → Option bX} (hr : ∀ r : Int × bM, κ (.inr r) = (bMc) r) (H10 : ∀ (v1 : Int) (μ : bM), bR v1 → bD L xs (d + 2) 125 10 [(0, .ref 1), (1, bI v1)] [] μ (κ (.inl (v1, μ))))  {v1 : Int} (h1 : bR v1) : bD L xs (d + 2) 125 10 [(0, .ref 1), (1, bI v1)] [] μ ((F_X10_keepLetters_10 v1 μ).bind κ) := by
  unfold F_X10_keepLetters_10
  refine bD.ok fun hk => ?_
  refine b_s (pc' := 11) (lv1 := [(0, .ref 1), (1, bI v1)]) (st' := [bI v1]) l125_10 (fun _ => rfl) ?_
  refine b_s (pc' := 12) (lv1 := [(0, .ref 1), (1, bI v1)]) (st' := [.ref 1, bI v1]) l125_11 (fun _ => rfl) ?_
  refine b_gr l125_12 (by rfl) (by decide) (by decide) rfl (b_pc (pc' := 15) rfl ?_)
  refine b_gi l125_15 (bO_ft hk (ci := 8) (by rfl) rfl) (by decide) (by decide) rfl (b_pc (pc' := 18) rfl ?_)
  refine b_ige (pt := 149) l125_18 h1 (bO_f hk (ci := 7) (bO_ft hk (ci := 8) (by rfl) rfl) rfl) (by decide) rfl (fun c1 => ?_) (fun c1 => b_pc (pc' := 21) rfl ?_)
  · exact b_retv l125_149 rfl (hr _)
  · refine b_s (pc' := 22) (lv1 := [(0, .ref 1), (1, bI v1)]) (st' := [bI 0]) l125_21 (fun _ => rfl) ?_
    refine b_w (pc' := 23) (lv1 := ax_st1 [(0, .ref 1), (1, bI v1)] 2 (bI 0)) (lv' := [(0, .ref 1), (1, bI v1), (2, bI 0)]) (st' := []) l125_22 (fun _ => rfl) (bSb rfl (bSb rfl (bSb rfl bSn))) ?_
    refine bD.wk (lv' := [(0, .ref 1), (1, bI v1), (2, bI 0)]) (bSb rfl (bSb rfl (bSb rfl bSn))) ?_
    exact p_X10_keepLetters_23 hr H10 h1 (by decide)
theorem p_X10_keepLetters_10 {L : Nat} {xs : Nat → Int32} {d : Nat} {μ : bM}  {κ : (Int × bM) → Option bX} (hr : ∀ r : Int × bM, κ r = (bMc) r)  {v1 : Int} (h1 : bR v1) : bD L xs (d + 2) 125 10 [(0, .ref 1), (1, bI v1)] [] μ ((bLoop (fun z => F_X10_keepLetters_10 z.1 z.2) (v1, μ)).bind κ) :=
  b_loop (fun z => [(0, .ref 1), (1, bI z.1)]) (fun z => z.2) (fun z => bR z.1) (fun κ' hκ HH z hz => q_X10_keepLetters_10 (κ := κ') (fun r => (hκ _).trans (hr r)) (fun a1 am b1 => HH (a1, am) b1)  hz) (v1, μ) h1
theorem r_X10_keepLetters {L : Nat} {xs : Nat → Int32} {d : Nat} {μ : bM}   : bD L xs (d + 2) 125 0 [(0, .ref 1)] [] μ ((F_X10_keepLetters μ).bind (bMc)) := by
  have hr : ∀ r, (bMc) r = (bMc) r := fun _ => rfl
  unfold F_X10_keepLetters
  refine bD.ok fun hk => ?_
  refine b_s (pc' := 1) (lv1 := [(0, .ref 1)]) (st' := [.ref 1]) l125_0 (fun _ => rfl) ?_
  refine b_gp (q' := 4) (j := 3) l125_1 (by rfl) (by decide) (by decide) rfl hk rfl rfl (b_pc (pc' := 4) rfl ?_)
  refine b_s (pc' := 5) (lv1 := [(0, .ref 1)]) (st' := [bI 0, .ref 4]) l125_4 (fun _ => rfl) ?_
  refine b_cMv l125_5 rfl (b_rc (ci := 5) (by rfl) (by decide) (by decide +kernel)) (Nat.le_of_ble_eq_true rfl) (Nat.le_of_ble_eq_true rfl) rfl (r_X6_cut 4 (by rfl) 0 (by decide)) fun w1 μ2 hw1 => bD.ok fun hk3 => b_pc (pc' := 8) rfl ?_
  refine b_s (pc' := 9) (lv1 := [(0, .ref 1)]) (st' := [bI 0]) l125_8 (fun _ => rfl) ?_
  refine b_w (pc' := 10) (lv1 := ax_st1 [(0, .ref 1)] 1 (bI 0)) (lv' := [(0, .ref 1), (1, bI 0)]) (st' := []) l125_9 (fun _ => rfl) (bSb rfl (bSb rfl bSn)) ?_
  refine bD.wk (lv' := [(0, .ref 1), (1, bI 0)]) (bSb rfl (bSb rfl bSn)) ?_
  exact p_X10_keepLetters_10 hr (by decide)
/-! ET.read -/
theorem l106_0 : (ax_dt (ax_T 106)).lookup 0 = some (.aload_n 0, 1, 0, 0, 0) := by decide +kernel
theorem l106_1 : (ax_dt (ax_T 106)).lookup 1 = some (.getfield 38, 3, 8, 4, 0) := by decide +kernel
theorem l106_4 : (ax_dt (ax_T 106)).lookup 4 = some (.aload_n 0, 1, 0, 0, 0) := by decide +kernel
theorem l106_5 : (ax_dt (ax_T 106)).lookup 5 = some (.getfield 24, 3, 8, 2, 0) := by decide +kernel
theorem l106_8 : (ax_dt (ax_T 106)).lookup 8 = some (.invokevirtual 205, 3, 40, 1, 0) := by decide +kernel
theorem l106_11 : (ax_dt (ax_T 106)).lookup 11 = some (.goto 17, 3, 0, 0, 0) := by decide +kernel
theorem l106_14 : (ax_dt (ax_T 106)).lookup 14 = some (.astore_n 1, 1, 0, 0, 0) := by decide +kernel
theorem l106_15 : (ax_dt (ax_T 106)).lookup 15 = some (.iconst (-1), 1, 0, 0, 0) := by decide +kernel
theorem l106_16 : (ax_dt (ax_T 106)).lookup 16 = some (.aload_n 0, 1, 0, 0, 0) := by decide +kernel
theorem l106_17 : (ax_dt (ax_T 106)).lookup 17 = some (.getfield 38, 3, 8, 4, 0) := by decide +kernel
theorem l106_20 : (ax_dt (ax_T 106)).lookup 20 = some (.getfield 209, 3, 3, 1, 0) := by decide +kernel
theorem l106_23 : (ax_dt (ax_T 106)).lookup 23 = some (.getfield 213, 3, 1, 4, 0) := by decide +kernel
theorem l106_26 : (ax_dt (ax_T 106)).lookup 26 = some (.isub, 1, 0, 0, 0) := by decide +kernel
theorem l106_27 : (ax_dt (ax_T 106)).lookup 27 = some (.ireturn, 1, 0, 0, 0) := by decide +kernel
theorem l106_28 : (ax_dt (ax_T 106)).lookup 28 = some (.aload_n 0, 1, 0, 0, 0) := by decide +kernel
theorem l106_29 : (ax_dt (ax_T 106)).lookup 29 = some (.getfield 45, 3, 8, 5, 0) := by decide +kernel
theorem l106_32 : (ax_dt (ax_T 106)).lookup 32 = some (.astore_n 1, 1, 0, 0, 0) := by decide +kernel
theorem l106_33 : (ax_dt (ax_T 106)).lookup 33 = some (.aload_n 0, 1, 0, 0, 0) := by decide +kernel
theorem l106_34 : (ax_dt (ax_T 106)).lookup 34 = some (.aload_n 0, 1, 0, 0, 0) := by decide +kernel
theorem l106_35 : (ax_dt (ax_T 106)).lookup 35 = some (.getfield 38, 3, 8, 4, 0) := by decide +kernel
theorem l106_38 : (ax_dt (ax_T 106)).lookup 38 = some (.getfield 218, 3, 3, 0, 0) := by decide +kernel
theorem l106_41 : (ax_dt (ax_T 106)).lookup 41 = some (.putfield 45, 3, 8, 5, 0) := by decide +kernel
theorem l106_44 : (ax_dt (ax_T 106)).lookup 44 = some (.aload_n 0, 1, 0, 0, 0) := by decide +kernel
theorem l106_45 : (ax_dt (ax_T 106)).lookup 45 = some (.getfield 38, 3, 8, 4, 0) := by decide +kernel
theorem l106_48 : (ax_dt (ax_T 106)).lookup 48 = some (.aload_n 1, 1, 0, 0, 0) := by decide +kernel
theorem l106_49 : (ax_dt (ax_T 106)).lookup 49 = some (.putfield 218, 3, 3, 0, 0) := by decide +kernel
theorem l106_52 : (ax_dt (ax_T 106)).lookup 52 = some (.aload_n 0, 1, 0, 0, 0) := by decide +kernel
theorem l106_53 : (ax_dt (ax_T 106)).lookup 53 = some (.invokevirtual 219, 3, 125, 0, 0) := by decide +kernel
theorem l106_56 : (ax_dt (ax_T 106)).lookup 56 = some (.aload_n 0, 1, 0, 0, 0) := by decide +kernel
theorem l106_57 : (ax_dt (ax_T 106)).lookup 57 = some (.getfield 31, 3, 8, 3, 0) := by decide +kernel
theorem l106_60 : (ax_dt (ax_T 106)).lookup 60 = some (.invokevirtual 89, 3, 23, 0, 0) := by decide +kernel
theorem l106_63 : (ax_dt (ax_T 106)).lookup 63 = some (.aload_n 0, 1, 0, 0, 0) := by decide +kernel
theorem l106_64 : (ax_dt (ax_T 106)).lookup 64 = some (.getfield 45, 3, 8, 5, 0) := by decide +kernel
theorem l106_67 : (ax_dt (ax_T 106)).lookup 67 = some (.getfield 81, 3, 7, 1, 0) := by decide +kernel
theorem l106_70 : (ax_dt (ax_T 106)).lookup 70 = some (.ireturn, 1, 0, 0, 0) := by decide +kernel
noncomputable def F_X10_read (μ : bM) : Option (Int × bM × Nat) := bXm (F_X4_readUnits μ) (fun w1 μ2 => bMm (F_X10_keepLetters (bset (bset μ2 1 5 (((μ2 30 0).toNat : Nat) : Int)) 30 0 (((μ2 1 5).toNat : Nat) : Int))) (fun w6 μ7 => bMm (F_X3_forget μ7) (fun w9 μ10 => some ((μ10 (μ10 1 5).toNat 1), μ10, 0)))) (fun e μ => if e = "java/lang/IllegalStateException" then ((fun μ13 => bG (bR ((-1) - (μ13 46 4))) (some (((-1) - (μ13 46 4)), μ13))) μ).bind (fun r => some (r.1, r.2, 1)) else none)
theorem r_X10_read {L : Nat} {xs : Nat → Int32} {d : Nat} {μ : bM}   : bD L xs (d + 8) 106 0 [(0, .ref 1)] [] μ ((F_X10_read μ).bind (bCc)) := by
  have hr : ∀ r, (bCc) r = (bCc) r := fun _ => rfl
  unfold F_X10_read
  refine bD.ok fun hk => ?_
  refine b_s (pc' := 1) (lv1 := [(0, .ref 1)]) (st' := [.ref 1]) l106_0 (fun _ => rfl) ?_
  refine b_gp (q' := 30) (j := 29) l106_1 (by rfl) (by decide) (by decide) rfl hk rfl rfl (b_pc (pc' := 4) rfl ?_)
  refine b_s (pc' := 5) (lv1 := [(0, .ref 1)]) (st' := [.ref 1, .ref 30]) l106_4 (fun _ => rfl) ?_
  refine b_gp (q' := 6) (j := 5) l106_5 (by rfl) (by decide) (by decide) rfl hk rfl rfl (b_pc (pc' := 8) rfl ?_)
  refine b_cCv l106_8 rfl (b_rc (ci := 3) (by rfl) (by decide) (by decide +kernel)) (Nat.le_of_ble_eq_true rfl) (Nat.le_of_ble_eq_true rfl) rfl (r_X4_readUnits ) ⟨fun _ z => (by cases z), (by decide +kernel)⟩ ?_ fun w1 μ2 hw1 => bD.ok fun hk3 => b_pc (pc' := 11) rfl ?_
  · intro e μ13
    by_cases z0 : e = "java/lang/IllegalStateException"
    · subst z0
      right
      refine ⟨14, 1, _, (fun μ13 => bG (bR ((-1) - (μ13 46 4))) (some (((-1) - (μ13 46 4)), μ13))) μ13, by decide +kernel, l106_14, rfl, by decide, ?_, ?_⟩
      · refine bD.wk (lv' := [(0, .ref 1)]) (bSb rfl bSn) ?_
        have hr : ∀ r, bMc r = bMc r := fun _ => rfl
        refine bD.ok fun hk12 => b_pc (pc' := 15) rfl ?_
        refine b_s (pc' := 16) (lv1 := [(0, .ref 1)]) (st' := [bI (-1)]) l106_15 (fun _ => rfl) ?_
        refine b_s (pc' := 17) (lv1 := [(0, .ref 1)]) (st' := [.ref 1, bI (-1)]) l106_16 (fun _ => rfl) ?_
        refine b_gp (q' := 30) (j := 29) l106_17 (by rfl) (by decide) (by decide) rfl hk12 rfl rfl (b_pc (pc' := 20) rfl ?_)
        refine b_gp (q' := 46) (j := 16) l106_20 (by rfl) (by decide) (by decide) rfl hk12 rfl rfl (b_pc (pc' := 23) rfl ?_)
        refine b_gi l106_23 (by rfl) (by decide) (by decide) rfl (b_pc (pc' := 26) rfl ?_)
        refine b_isub l106_26 fun g14 => (b_pc (pc' := 27) rfl ?_)
        exact b_reti l106_27 rfl g14 (hr _)
      · dsimp only
        rw [if_pos rfl]
        exact b_hz
    · left
      dsimp only
      rw [if_neg z0]
      rfl
  · refine b_s (pc' := 28) (lv1 := [(0, .ref 1)]) (st' := []) l106_11 (fun _ => rfl) ?_
    refine b_s (pc' := 29) (lv1 := [(0, .ref 1)]) (st' := [.ref 1]) l106_28 (fun _ => rfl) ?_
    refine b_gr l106_29 (by rfl) (by decide) (by decide) rfl (b_pc (pc' := 32) rfl ?_)
    refine b_w (pc' := 33) (lv1 := ax_st1 [(0, .ref 1)] 1 (.ref (μ2 1 5).toNat)) (lv' := [(0, .ref 1), (1, .ref (μ2 1 5).toNat)]) (st' := []) l106_32 (fun _ => rfl) (bSb rfl (bSb rfl bSn)) ?_
    refine b_s (pc' := 34) (lv1 := [(0, .ref 1), (1, .ref (μ2 1 5).toNat)]) (st' := [.ref 1]) l106_33 (fun _ => rfl) ?_
    refine b_s (pc' := 35) (lv1 := [(0, .ref 1), (1, .ref (μ2 1 5).toNat)]) (st' := [.ref 1, .ref 1]) l106_34 (fun _ => rfl) ?_
    refine b_gp (q' := 30) (j := 29) l106_35 (by rfl) (by decide) (by decide) rfl hk3 rfl rfl (b_pc (pc' := 38) rfl ?_)
    refine b_gr l106_38 (by rfl) (by decide) (by decide) rfl (b_pc (pc' := 41) rfl ?_)
    refine b_pt l106_41 (by rfl) (by decide) (by decide) rfl rfl (bO_ft hk3 (ci := 3) (by rfl) rfl) (bD.ok fun hk4 => b_pc (pc' := 44) rfl ?_)
    refine b_s (pc' := 45) (lv1 := [(0, .ref 1), (1, .ref (μ2 1 5).toNat)]) (st' := [.ref 1]) l106_44 (fun _ => rfl) ?_
    refine b_gp (q' := 30) (j := 29) l106_45 (by rfl) (by decide) (by decide) rfl hk4 rfl rfl (b_pc (pc' := 48) rfl ?_)
    refine b_s (pc' := 49) (lv1 := [(0, .ref 1), (1, .ref (μ2 1 5).toNat)]) (st' := [.ref (μ2 1 5).toNat, .ref 30]) l106_48 (fun _ => rfl) ?_
    refine b_pt l106_49 (by rfl) (by decide) (by decide) rfl rfl (bO_ft hk3 (ci := 8) (by rfl) rfl) (bD.ok fun hk5 => b_pc (pc' := 52) rfl ?_)
    refine b_s (pc' := 53) (lv1 := [(0, .ref 1), (1, .ref (μ2 1 5).toNat)]) (st' := [.ref 1]) l106_52 (fun _ => rfl) ?_
    refine b_cMv l106_53 rfl (b_rc (ci := 8) (by rfl) (by decide) (by decide +kernel)) (Nat.le_of_ble_eq_true rfl) (Nat.le_of_ble_eq_true rfl) rfl (r_X10_keepLetters ) fun w6 μ7 hw6 => bD.ok fun hk8 => b_pc (pc' := 56) rfl ?_
    refine b_s (pc' := 57) (lv1 := [(0, .ref 1), (1, .ref (μ2 1 5).toNat)]) (st' := [.ref 1]) l106_56 (fun _ => rfl) ?_
    refine b_gp (q' := 13) (j := 12) l106_57 (by rfl) (by decide) (by decide) rfl hk8 rfl rfl (b_pc (pc' := 60) rfl ?_)
    refine b_cMv l106_60 rfl (b_rc (ci := 2) (by rfl) (by decide) (by decide +kernel)) (Nat.le_of_ble_eq_true rfl) (Nat.le_of_ble_eq_true rfl) rfl (r_X3_forget ) fun w9 μ10 hw9 => bD.ok fun hk11 => b_pc (pc' := 63) rfl ?_
    refine b_s (pc' := 64) (lv1 := [(0, .ref 1), (1, .ref (μ2 1 5).toNat)]) (st' := [.ref 1]) l106_63 (fun _ => rfl) ?_
    refine b_gr l106_64 (by rfl) (by decide) (by decide) rfl (b_pc (pc' := 67) rfl ?_)
    refine b_gi l106_67 (bO_ft hk11 (ci := 8) (by rfl) rfl) (by decide) (by decide) rfl (b_pc (pc' := 70) rfl ?_)
    exact b_reti l106_70 rfl (bO_f hk11 (ci := 7) (bO_ft hk11 (ci := 8) (by rfl) rfl) rfl) (hr _)
/-! ET.fault -/
theorem l107_0 : (ax_dt (ax_T 107)).lookup 0 = some (.iload_n 1, 1, 0, 0, 0) := by decide +kernel
theorem l107_1 : (ax_dt (ax_T 107)).lookup 1 = some (.ifCond .lt 8, 3, 0, 0, 0) := by decide +kernel
theorem l107_4 : (ax_dt (ax_T 107)).lookup 4 = some (.iload_n 1, 1, 0, 0, 0) := by decide +kernel
theorem l107_5 : (ax_dt (ax_T 107)).lookup 5 = some (.iconst 1, 1, 0, 0, 0) := by decide +kernel
theorem l107_6 : (ax_dt (ax_T 107)).lookup 6 = some (.if_icmp .le 13, 3, 0, 0, 0) := by decide +kernel
theorem l107_19 : (ax_dt (ax_T 107)).lookup 19 = some (.iload_n 1, 1, 0, 0, 0) := by decide +kernel
theorem l107_20 : (ax_dt (ax_T 107)).lookup 20 = some (.ifCond .ne 16, 3, 0, 0, 0) := by decide +kernel
theorem l107_23 : (ax_dt (ax_T 107)).lookup 23 = some (.aload_n 0, 1, 0, 0, 0) := by decide +kernel
theorem l107_24 : (ax_dt (ax_T 107)).lookup 24 = some (.getfield 38, 3, 8, 4, 0) := by decide +kernel
theorem l107_27 : (ax_dt (ax_T 107)).lookup 27 = some (.getfield 209, 3, 3, 1, 0) := by decide +kernel
theorem l107_30 : (ax_dt (ax_T 107)).lookup 30 = some (.getfield 227, 3, 1, 2, 0) := by decide +kernel
theorem l107_33 : (ax_dt (ax_T 107)).lookup 33 = some (.goto 13, 3, 0, 0, 0) := by decide +kernel
theorem l107_36 : (ax_dt (ax_T 107)).lookup 36 = some (.aload_n 0, 1, 0, 0, 0) := by decide +kernel
theorem l107_37 : (ax_dt (ax_T 107)).lookup 37 = some (.getfield 38, 3, 8, 4, 0) := by decide +kernel
theorem l107_40 : (ax_dt (ax_T 107)).lookup 40 = some (.getfield 209, 3, 3, 1, 0) := by decide +kernel
theorem l107_43 : (ax_dt (ax_T 107)).lookup 43 = some (.getfield 230, 3, 1, 3, 0) := by decide +kernel
theorem l107_46 : (ax_dt (ax_T 107)).lookup 46 = some (.ireturn, 1, 0, 0, 0) := by decide +kernel
theorem x107_9 : (ax_dx (ax_T 107)).lookup 9 = some ("java/lang/IndexOutOfBoundsException", "no such part of a fault", 222, 224, 226, false) := by decide +kernel
noncomputable def F_X10_fault (v1 : Int) (μ : bM) : Option ((Int ⊕ String) × bM) := if v1 < 0 then some (.inr "java/lang/IndexOutOfBoundsException", μ) else if v1 ≤ 1 then if ¬ v1 = 0 then some (.inl (μ 46 3), μ) else some (.inl (μ 46 2), μ) else some (.inr "java/lang/IndexOutOfBoundsException", μ)
theorem r_X10_fault {L : Nat} {xs : Nat → Int32} {d : Nat} {μ : bM}  (v1 : Int) (h1 : bR v1) : bD L xs (d + 0) 107 0 [(0, .ref 1), (1, bI v1)] [] μ ((F_X10_fault v1 μ).bind (bXc)) := by
  have hr : ∀ r, (bXc) r = (bXc) r := fun _ => rfl
  unfold F_X10_fault
  refine bD.ok fun hk => ?_
  refine b_s (pc' := 1) (lv1 := [(0, .ref 1), (1, bI v1)]) (st' := [bI v1]) l107_0 (fun _ => rfl) ?_
  refine b_zlt (pt := 9) l107_1 h1 (by decide) rfl (fun c1 => ?_) (fun c1 => b_pc (pc' := 4) rfl ?_)
  · exact b_thr x107_9 (by decide) (Nat.le_of_ble_eq_true rfl) (hr _)
  · refine b_s (pc' := 5) (lv1 := [(0, .ref 1), (1, bI v1)]) (st' := [bI v1]) l107_4 (fun _ => rfl) ?_
    refine b_s (pc' := 6) (lv1 := [(0, .ref 1), (1, bI v1)]) (st' := [bI 1, bI v1]) l107_5 (fun _ => rfl) ?_
    refine b_ile (pt := 19) l107_6 h1 (by decide) (by decide) rfl (fun c2 => ?_) (fun c2 => b_pc (pc' := 9) rfl ?_)
    · refine b_s (pc' := 20) (lv1 := [(0, .ref 1), (1, bI v1)]) (st' := [bI v1]) l107_19 (fun _ => rfl) ?_
      refine b_zne (pt := 36) l107_20 h1 (by decide) rfl (fun c3 => ?_) (fun c3 => b_pc (pc' := 23) rfl ?_)
      · refine b_s (pc' := 37) (lv1 := [(0, .ref 1), (1, bI v1)]) (st' := [.ref 1]) l107_36 (fun _ => rfl) ?_
        refine b_gp (q' := 30) (j := 29) l107_37 (by rfl) (by decide) (by decide) rfl hk rfl rfl (b_pc (pc' := 40) rfl ?_)
        refine b_gp (q' := 46) (j := 16) l107_40 (by rfl) (by decide) (by decide) rfl hk rfl rfl (b_pc (pc' := 43) rfl ?_)
        refine b_gi l107_43 (by rfl) (by decide) (by decide) rfl (b_pc (pc' := 46) rfl ?_)
        exact b_reti l107_46 rfl (bO_f hk (ci := 1) (by rfl) rfl) (hr _)
      · refine b_s (pc' := 24) (lv1 := [(0, .ref 1), (1, bI v1)]) (st' := [.ref 1]) l107_23 (fun _ => rfl) ?_
        refine b_gp (q' := 30) (j := 29) l107_24 (by rfl) (by decide) (by decide) rfl hk rfl rfl (b_pc (pc' := 27) rfl ?_)
        refine b_gp (q' := 46) (j := 16) l107_27 (by rfl) (by decide) (by decide) rfl hk rfl rfl (b_pc (pc' := 30) rfl ?_)
        refine b_gi l107_30 (by rfl) (by decide) (by decide) rfl (b_pc (pc' := 33) rfl ?_)
        refine b_s (pc' := 46) (lv1 := [(0, .ref 1), (1, bI v1)]) (st' := [bI (μ 46 2)]) l107_33 (fun _ => rfl) ?_
        exact b_reti l107_46 rfl (bO_f hk (ci := 1) (by rfl) rfl) (hr _)
    · exact b_thr x107_9 (by decide) (Nat.le_of_ble_eq_true rfl) (hr _)
/-! ET.count -/
theorem l108_0 : (ax_dt (ax_T 108)).lookup 0 = some (.iload_n 1, 1, 0, 0, 0) := by decide +kernel
theorem l108_1 : (ax_dt (ax_T 108)).lookup 1 = some (.tableswitch 93 0 3 #[31, 39, 47, 70], 31, 0, 0, 0) := by decide +kernel
theorem l108_32 : (ax_dt (ax_T 108)).lookup 32 = some (.aload_n 0, 1, 0, 0, 0) := by decide +kernel
theorem l108_33 : (ax_dt (ax_T 108)).lookup 33 = some (.getfield 45, 3, 8, 5, 0) := by decide +kernel
theorem l108_36 : (ax_dt (ax_T 108)).lookup 36 = some (.getfield 81, 3, 7, 1, 0) := by decide +kernel
theorem l108_39 : (ax_dt (ax_T 108)).lookup 39 = some (.ireturn, 1, 0, 0, 0) := by decide +kernel
theorem l108_40 : (ax_dt (ax_T 108)).lookup 40 = some (.aload_n 0, 1, 0, 0, 0) := by decide +kernel
theorem l108_41 : (ax_dt (ax_T 108)).lookup 41 = some (.getfield 45, 3, 8, 5, 0) := by decide +kernel
theorem l108_44 : (ax_dt (ax_T 108)).lookup 44 = some (.getfield 77, 3, 7, 0, 0) := by decide +kernel
theorem l108_47 : (ax_dt (ax_T 108)).lookup 47 = some (.ireturn, 1, 0, 0, 0) := by decide +kernel
theorem l108_48 : (ax_dt (ax_T 108)).lookup 48 = some (.aload_n 0, 1, 0, 0, 0) := by decide +kernel
theorem l108_49 : (ax_dt (ax_T 108)).lookup 49 = some (.getfield 31, 3, 8, 3, 0) := by decide +kernel
theorem l108_52 : (ax_dt (ax_T 108)).lookup 52 = some (.aload_n 0, 1, 0, 0, 0) := by decide +kernel
theorem l108_53 : (ax_dt (ax_T 108)).lookup 53 = some (.getfield 45, 3, 8, 5, 0) := by decide +kernel
theorem l108_56 : (ax_dt (ax_T 108)).lookup 56 = some (.aload_n 0, 1, 0, 0, 0) := by decide +kernel
theorem l108_57 : (ax_dt (ax_T 108)).lookup 57 = some (.getfield 18, 3, 8, 1, 0) := by decide +kernel
theorem l108_60 : (ax_dt (ax_T 108)).lookup 60 = some (.invokevirtual 150, 3, 24, 2, 0) := by decide +kernel
theorem l108_63 : (ax_dt (ax_T 108)).lookup 63 = some (.aload_n 0, 1, 0, 0, 0) := by decide +kernel
theorem l108_64 : (ax_dt (ax_T 108)).lookup 64 = some (.getfield 31, 3, 8, 3, 0) := by decide +kernel
theorem l108_67 : (ax_dt (ax_T 108)).lookup 67 = some (.getfield 233, 3, 2, 0, 0) := by decide +kernel
theorem l108_70 : (ax_dt (ax_T 108)).lookup 70 = some (.ireturn, 1, 0, 0, 0) := by decide +kernel
theorem l108_71 : (ax_dt (ax_T 108)).lookup 71 = some (.aload_n 0, 1, 0, 0, 0) := by decide +kernel
theorem l108_72 : (ax_dt (ax_T 108)).lookup 72 = some (.getfield 31, 3, 8, 3, 0) := by decide +kernel
theorem l108_75 : (ax_dt (ax_T 108)).lookup 75 = some (.aload_n 0, 1, 0, 0, 0) := by decide +kernel
theorem l108_76 : (ax_dt (ax_T 108)).lookup 76 = some (.getfield 45, 3, 8, 5, 0) := by decide +kernel
theorem l108_79 : (ax_dt (ax_T 108)).lookup 79 = some (.aload_n 0, 1, 0, 0, 0) := by decide +kernel
theorem l108_80 : (ax_dt (ax_T 108)).lookup 80 = some (.getfield 18, 3, 8, 1, 0) := by decide +kernel
theorem l108_83 : (ax_dt (ax_T 108)).lookup 83 = some (.invokevirtual 150, 3, 24, 2, 0) := by decide +kernel
theorem l108_86 : (ax_dt (ax_T 108)).lookup 86 = some (.aload_n 0, 1, 0, 0, 0) := by decide +kernel
theorem l108_87 : (ax_dt (ax_T 108)).lookup 87 = some (.getfield 31, 3, 8, 3, 0) := by decide +kernel
theorem l108_90 : (ax_dt (ax_T 108)).lookup 90 = some (.getfield 235, 3, 2, 1, 0) := by decide +kernel
theorem l108_93 : (ax_dt (ax_T 108)).lookup 93 = some (.ireturn, 1, 0, 0, 0) := by decide +kernel
theorem x108_94 : (ax_dx (ax_T 108)).lookup 94 = some ("java/lang/IndexOutOfBoundsException", "no such count", 222, 237, 226, false) := by decide +kernel
noncomputable def F_X10_count (v1 : Int) (μ : bM) : Option ((Int ⊕ String) × bM) := if v1 = 0 then some (.inl (μ (μ 1 5).toNat 1), μ) else if v1 = 1 then some (.inl (μ (μ 1 5).toNat 0), μ) else if v1 = 2 then bMm (F_X3_reckon (μ 1 5).toNat 4 μ) (fun w1 μ2 => some (.inl (μ2 13 0), μ2)) else if v1 = 3 then bMm (F_X3_reckon (μ 1 5).toNat 4 μ) (fun w4 μ5 => some (.inl (μ5 13 1), μ5)) else some (.inr "java/lang/IndexOutOfBoundsException", μ)
theorem r_X10_count {L : Nat} {xs : Nat → Int32} {d : Nat} {μ : bM}  (v1 : Int) (h1 : bR v1) : bD L xs (d + 6) 108 0 [(0, .ref 1), (1, bI v1)] [] μ ((F_X10_count v1 μ).bind (bXc)) := by
  have hr : ∀ r, (bXc) r = (bXc) r := fun _ => rfl
  unfold F_X10_count
  refine bD.ok fun hk => ?_
  refine b_s (pc' := 1) (lv1 := [(0, .ref 1), (1, bI v1)]) (st' := [bI v1]) l108_0 (fun _ => rfl) ?_
  refine b_tsw l108_1 h1 (by decide) (by decide) (by decide) ?_
  refine b_pc (pc' := bTg [(0, 32), (1, 40), (2, 48), (3, 71)] 94 v1) rfl ?_
  refine b_tg (fun c10 => ?_) (fun c10 => ?_)
  · refine b_s (pc' := 33) (lv1 := [(0, .ref 1), (1, bI v1)]) (st' := [.ref 1]) l108_32 (fun _ => rfl) ?_
    refine b_gr l108_33 (by rfl) (by decide) (by decide) rfl (b_pc (pc' := 36) rfl ?_)
    refine b_gi l108_36 (bO_ft hk (ci := 8) (by rfl) rfl) (by decide) (by decide) rfl (b_pc (pc' := 39) rfl ?_)
    exact b_reti l108_39 rfl (bO_f hk (ci := 7) (bO_ft hk (ci := 8) (by rfl) rfl) rfl) (hr _)
  · refine b_tg (fun c9 => ?_) (fun c9 => ?_)
    · refine b_s (pc' := 41) (lv1 := [(0, .ref 1), (1, bI v1)]) (st' := [.ref 1]) l108_40 (fun _ => rfl) ?_
      refine b_gr l108_41 (by rfl) (by decide) (by decide) rfl (b_pc (pc' := 44) rfl ?_)
      refine b_gi l108_44 (bO_ft hk (ci := 8) (by rfl) rfl) (by decide) (by decide) rfl (b_pc (pc' := 47) rfl ?_)
      exact b_reti l108_47 rfl (bO_f hk (ci := 7) (bO_ft hk (ci := 8) (by rfl) rfl) rfl) (hr _)
    · refine b_tg (fun c8 => ?_) (fun c8 => ?_)
      · refine b_s (pc' := 49) (lv1 := [(0, .ref 1), (1, bI v1)]) (st' := [.ref 1]) l108_48 (fun _ => rfl) ?_
        refine b_gp (q' := 13) (j := 12) l108_49 (by rfl) (by decide) (by decide) rfl hk rfl rfl (b_pc (pc' := 52) rfl ?_)
        refine b_s (pc' := 53) (lv1 := [(0, .ref 1), (1, bI v1)]) (st' := [.ref 1, .ref 13]) l108_52 (fun _ => rfl) ?_
        refine b_gr l108_53 (by rfl) (by decide) (by decide) rfl (b_pc (pc' := 56) rfl ?_)
        refine b_s (pc' := 57) (lv1 := [(0, .ref 1), (1, bI v1)]) (st' := [.ref 1, .ref (μ 1 5).toNat, .ref 13]) l108_56 (fun _ => rfl) ?_
        refine b_gp (q' := 4) (j := 3) l108_57 (by rfl) (by decide) (by decide) rfl hk rfl rfl (b_pc (pc' := 60) rfl ?_)
        refine b_cMv l108_60 rfl (b_rc (ci := 2) (by rfl) (by decide) (by decide +kernel)) (Nat.le_of_ble_eq_true rfl) (Nat.le_of_ble_eq_true rfl) rfl (r_X3_reckon (μ 1 5).toNat (bO_ft hk (ci := 8) (by rfl) rfl) 4 (by rfl)) fun w1 μ2 hw1 => bD.ok fun hk3 => b_pc (pc' := 63) rfl ?_
        refine b_s (pc' := 64) (lv1 := [(0, .ref 1), (1, bI v1)]) (st' := [.ref 1]) l108_63 (fun _ => rfl) ?_
        refine b_gp (q' := 13) (j := 12) l108_64 (by rfl) (by decide) (by decide) rfl hk3 rfl rfl (b_pc (pc' := 67) rfl ?_)
        refine b_gi l108_67 (by rfl) (by decide) (by decide) rfl (b_pc (pc' := 70) rfl ?_)
        exact b_reti l108_70 rfl (bO_f hk3 (ci := 2) (by rfl) rfl) (hr _)
      · refine b_tg (fun c7 => ?_) (fun c7 => ?_)
        · refine b_s (pc' := 72) (lv1 := [(0, .ref 1), (1, bI v1)]) (st' := [.ref 1]) l108_71 (fun _ => rfl) ?_
          refine b_gp (q' := 13) (j := 12) l108_72 (by rfl) (by decide) (by decide) rfl hk rfl rfl (b_pc (pc' := 75) rfl ?_)
          refine b_s (pc' := 76) (lv1 := [(0, .ref 1), (1, bI v1)]) (st' := [.ref 1, .ref 13]) l108_75 (fun _ => rfl) ?_
          refine b_gr l108_76 (by rfl) (by decide) (by decide) rfl (b_pc (pc' := 79) rfl ?_)
          refine b_s (pc' := 80) (lv1 := [(0, .ref 1), (1, bI v1)]) (st' := [.ref 1, .ref (μ 1 5).toNat, .ref 13]) l108_79 (fun _ => rfl) ?_
          refine b_gp (q' := 4) (j := 3) l108_80 (by rfl) (by decide) (by decide) rfl hk rfl rfl (b_pc (pc' := 83) rfl ?_)
          refine b_cMv l108_83 rfl (b_rc (ci := 2) (by rfl) (by decide) (by decide +kernel)) (Nat.le_of_ble_eq_true rfl) (Nat.le_of_ble_eq_true rfl) rfl (r_X3_reckon (μ 1 5).toNat (bO_ft hk (ci := 8) (by rfl) rfl) 4 (by rfl)) fun w4 μ5 hw4 => bD.ok fun hk6 => b_pc (pc' := 86) rfl ?_
          refine b_s (pc' := 87) (lv1 := [(0, .ref 1), (1, bI v1)]) (st' := [.ref 1]) l108_86 (fun _ => rfl) ?_
          refine b_gp (q' := 13) (j := 12) l108_87 (by rfl) (by decide) (by decide) rfl hk6 rfl rfl (b_pc (pc' := 90) rfl ?_)
          refine b_gi l108_90 (by rfl) (by decide) (by decide) rfl (b_pc (pc' := 93) rfl ?_)
          exact b_reti l108_93 rfl (bO_f hk6 (ci := 2) (by rfl) rfl) (hr _)
        · refine b_pc (pc' := 94) rfl ?_
          exact b_thr x108_94 (by decide) (Nat.le_of_ble_eq_true rfl) (hr _)
/-! ET.about -/
theorem l109_0 : (ax_dt (ax_T 109)).lookup 0 = some (.aload_n 0, 1, 0, 0, 0) := by decide +kernel
theorem l109_1 : (ax_dt (ax_T 109)).lookup 1 = some (.iload_n 1, 1, 0, 0, 0) := by decide +kernel
theorem l109_2 : (ax_dt (ax_T 109)).lookup 2 = some (.invokevirtual 96, 3, 117, 1, 0) := by decide +kernel
theorem l109_5 : (ax_dt (ax_T 109)).lookup 5 = some (.iload_n 2, 1, 0, 0, 0) := by decide +kernel
theorem l109_6 : (ax_dt (ax_T 109)).lookup 6 = some (.tableswitch 113 0 5 #[38, 48, 58, 68, 78, 88], 38, 0, 0, 0) := by decide +kernel
theorem l109_44 : (ax_dt (ax_T 109)).lookup 44 = some (.aload_n 0, 1, 0, 0, 0) := by decide +kernel
theorem l109_45 : (ax_dt (ax_T 109)).lookup 45 = some (.getfield 45, 3, 8, 5, 0) := by decide +kernel
theorem l109_48 : (ax_dt (ax_T 109)).lookup 48 = some (.getfield 239, 3, 7, 3, 0) := by decide +kernel
theorem l109_51 : (ax_dt (ax_T 109)).lookup 51 = some (.iload_n 1, 1, 0, 0, 0) := by decide +kernel
theorem l109_52 : (ax_dt (ax_T 109)).lookup 52 = some (.iaload, 1, 0, 0, 0) := by decide +kernel
theorem l109_53 : (ax_dt (ax_T 109)).lookup 53 = some (.ireturn, 1, 0, 0, 0) := by decide +kernel
theorem l109_54 : (ax_dt (ax_T 109)).lookup 54 = some (.aload_n 0, 1, 0, 0, 0) := by decide +kernel
theorem l109_55 : (ax_dt (ax_T 109)).lookup 55 = some (.getfield 45, 3, 8, 5, 0) := by decide +kernel
theorem l109_58 : (ax_dt (ax_T 109)).lookup 58 = some (.getfield 242, 3, 7, 4, 0) := by decide +kernel
theorem l109_61 : (ax_dt (ax_T 109)).lookup 61 = some (.iload_n 1, 1, 0, 0, 0) := by decide +kernel
theorem l109_62 : (ax_dt (ax_T 109)).lookup 62 = some (.iaload, 1, 0, 0, 0) := by decide +kernel
theorem l109_63 : (ax_dt (ax_T 109)).lookup 63 = some (.ireturn, 1, 0, 0, 0) := by decide +kernel
theorem l109_64 : (ax_dt (ax_T 109)).lookup 64 = some (.aload_n 0, 1, 0, 0, 0) := by decide +kernel
theorem l109_65 : (ax_dt (ax_T 109)).lookup 65 = some (.getfield 45, 3, 8, 5, 0) := by decide +kernel
theorem l109_68 : (ax_dt (ax_T 109)).lookup 68 = some (.getfield 139, 3, 7, 5, 0) := by decide +kernel
theorem l109_71 : (ax_dt (ax_T 109)).lookup 71 = some (.iload_n 1, 1, 0, 0, 0) := by decide +kernel
theorem l109_72 : (ax_dt (ax_T 109)).lookup 72 = some (.iaload, 1, 0, 0, 0) := by decide +kernel
theorem l109_73 : (ax_dt (ax_T 109)).lookup 73 = some (.ireturn, 1, 0, 0, 0) := by decide +kernel
theorem l109_74 : (ax_dt (ax_T 109)).lookup 74 = some (.aload_n 0, 1, 0, 0, 0) := by decide +kernel
theorem l109_75 : (ax_dt (ax_T 109)).lookup 75 = some (.getfield 45, 3, 8, 5, 0) := by decide +kernel
theorem l109_78 : (ax_dt (ax_T 109)).lookup 78 = some (.getfield 245, 3, 7, 7, 0) := by decide +kernel
theorem l109_81 : (ax_dt (ax_T 109)).lookup 81 = some (.iload_n 1, 1, 0, 0, 0) := by decide +kernel
theorem l109_82 : (ax_dt (ax_T 109)).lookup 82 = some (.iaload, 1, 0, 0, 0) := by decide +kernel
theorem l109_83 : (ax_dt (ax_T 109)).lookup 83 = some (.ireturn, 1, 0, 0, 0) := by decide +kernel
theorem l109_84 : (ax_dt (ax_T 109)).lookup 84 = some (.aload_n 0, 1, 0, 0, 0) := by decide +kernel
theorem l109_85 : (ax_dt (ax_T 109)).lookup 85 = some (.getfield 45, 3, 8, 5, 0) := by decide +kernel
theorem l109_88 : (ax_dt (ax_T 109)).lookup 88 = some (.getfield 248, 3, 7, 11, 0) := by decide +kernel
theorem l109_91 : (ax_dt (ax_T 109)).lookup 91 = some (.iload_n 1, 1, 0, 0, 0) := by decide +kernel
theorem l109_92 : (ax_dt (ax_T 109)).lookup 92 = some (.iaload, 1, 0, 0, 0) := by decide +kernel
theorem l109_93 : (ax_dt (ax_T 109)).lookup 93 = some (.ireturn, 1, 0, 0, 0) := by decide +kernel
theorem l109_94 : (ax_dt (ax_T 109)).lookup 94 = some (.aload_n 0, 1, 0, 0, 0) := by decide +kernel
theorem l109_95 : (ax_dt (ax_T 109)).lookup 95 = some (.getfield 31, 3, 8, 3, 0) := by decide +kernel
theorem l109_98 : (ax_dt (ax_T 109)).lookup 98 = some (.aload_n 0, 1, 0, 0, 0) := by decide +kernel
theorem l109_99 : (ax_dt (ax_T 109)).lookup 99 = some (.getfield 45, 3, 8, 5, 0) := by decide +kernel
theorem l109_102 : (ax_dt (ax_T 109)).lookup 102 = some (.aload_n 0, 1, 0, 0, 0) := by decide +kernel
theorem l109_103 : (ax_dt (ax_T 109)).lookup 103 = some (.getfield 18, 3, 8, 1, 0) := by decide +kernel
theorem l109_106 : (ax_dt (ax_T 109)).lookup 106 = some (.invokevirtual 150, 3, 24, 2, 0) := by decide +kernel
theorem l109_109 : (ax_dt (ax_T 109)).lookup 109 = some (.aload_n 0, 1, 0, 0, 0) := by decide +kernel
theorem l109_110 : (ax_dt (ax_T 109)).lookup 110 = some (.getfield 31, 3, 8, 3, 0) := by decide +kernel
theorem l109_113 : (ax_dt (ax_T 109)).lookup 113 = some (.getfield 251, 3, 2, 12, 0) := by decide +kernel
theorem l109_116 : (ax_dt (ax_T 109)).lookup 116 = some (.iload_n 1, 1, 0, 0, 0) := by decide +kernel
theorem l109_117 : (ax_dt (ax_T 109)).lookup 117 = some (.iaload, 1, 0, 0, 0) := by decide +kernel
theorem l109_118 : (ax_dt (ax_T 109)).lookup 118 = some (.ireturn, 1, 0, 0, 0) := by decide +kernel
theorem x109_119 : (ax_dx (ax_T 109)).lookup 119 = some ("java/lang/IndexOutOfBoundsException", "nothing such about an entry", 222, 254, 226, false) := by decide +kernel
noncomputable def F_X10_about (v1 : Int) (v2 : Int) (μ : bM) : Option ((Int ⊕ String) × bM) := bXm (F_X10_needEntry v1 μ) (fun w1 μ2 => if v2 = 0 then bG (0 ≤ v1 ∧ v1 < 400) (some (.inl (μ2 ((μ2 1 5).toNat + 2) v1.toNat), μ2)) else if v2 = 1 then bG (0 ≤ v1 ∧ v1 < 400) (some (.inl (μ2 ((μ2 1 5).toNat + 3) v1.toNat), μ2)) else if v2 = 2 then bG (0 ≤ v1 ∧ v1 < 400) (some (.inl (μ2 ((μ2 1 5).toNat + 4) v1.toNat), μ2)) else if v2 = 3 then bG (0 ≤ v1 ∧ v1 < 400) (some (.inl (μ2 ((μ2 1 5).toNat + 6) v1.toNat), μ2)) else if v2 = 4 then bG (0 ≤ v1 ∧ v1 < 400) (some (.inl (μ2 ((μ2 1 5).toNat + 10) v1.toNat), μ2)) else if v2 = 5 then bMm (F_X3_reckon (μ2 1 5).toNat 4 μ2) (fun w9 μ10 => bG (0 ≤ v1 ∧ v1 < 400) (some (.inl (μ10 19 v1.toNat), μ10))) else some (.inr "java/lang/IndexOutOfBoundsException", μ2)) (fun e μ => some (.inr e, μ))
theorem r_X10_about {L : Nat} {xs : Nat → Int32} {d : Nat} {μ : bM}  (v1 : Int) (h1 : bR v1) (v2 : Int) (h2 : bR v2) : bD L xs (d + 6) 109 0 [(0, .ref 1), (1, bI v1), (2, bI v2)] [] μ ((F_X10_about v1 v2 μ).bind (bXc)) := by
  have hr : ∀ r, (bXc) r = (bXc) r := fun _ => rfl
  unfold F_X10_about
  refine bD.ok fun hk => ?_
  refine b_s (pc' := 1) (lv1 := [(0, .ref 1), (1, bI v1), (2, bI v2)]) (st' := [.ref 1]) l109_0 (fun _ => rfl) ?_
  refine b_s (pc' := 2) (lv1 := [(0, .ref 1), (1, bI v1), (2, bI v2)]) (st' := [bI v1, .ref 1]) l109_1 (fun _ => rfl) ?_
  refine b_cXv l109_2 rfl (b_rc (ci := 8) (by rfl) (by decide) (by decide +kernel)) (Nat.le_of_ble_eq_true rfl) (Nat.le_of_ble_eq_true rfl) rfl (r_X10_needEntry v1 h1) ⟨fun _ z => (by cases z), (by decide +kernel)⟩ rfl (fun _ _ => hr _) fun w1 μ2 hw1 => bD.ok fun hk3 => b_pc (pc' := 5) rfl ?_
  refine b_s (pc' := 6) (lv1 := [(0, .ref 1), (1, bI v1), (2, bI v2)]) (st' := [bI v2]) l109_5 (fun _ => rfl) ?_
  refine b_tsw l109_6 h2 (by decide) (by decide) (by decide) ?_
  refine b_pc (pc' := bTg [(0, 44), (1, 54), (2, 64), (3, 74), (4, 84), (5, 94)] 119 v2) rfl ?_
  refine b_tg (fun c18 => ?_) (fun c18 => ?_)
  · refine b_s (pc' := 45) (lv1 := [(0, .ref 1), (1, bI v1), (2, bI v2)]) (st' := [.ref 1]) l109_44 (fun _ => rfl) ?_
    refine b_gr l109_45 (by rfl) (by decide) (by decide) rfl (b_pc (pc' := 48) rfl ?_)
    refine b_gp (q' := ((μ2 1 5).toNat + 2)) (j := 2) l109_48 (bO_ft hk3 (ci := 8) (by rfl) rfl) (by decide) (by decide) rfl hk3 rfl rfl (b_pc (pc' := 51) rfl ?_)
    refine b_s (pc' := 52) (lv1 := [(0, .ref 1), (1, bI v1), (2, bI v2)]) (st' := [bI v1, .ref ((μ2 1 5).toNat + 2)]) l109_51 (fun _ => rfl) ?_
    refine b_g fun g4 => ?_
    refine b_ial l109_52 (bTree_e (bO_ft hk3 (ci := 8) (by rfl) rfl) 2 (by decide)) g4 (b_pc (pc' := 53) rfl ?_)
    exact b_reti l109_53 rfl (bO_i hk3 (bTree_e (bO_ft hk3 (ci := 8) (by rfl) rfl) 2 (by decide))) (hr _)
  · refine b_tg (fun c17 => ?_) (fun c17 => ?_)
    · refine b_s (pc' := 55) (lv1 := [(0, .ref 1), (1, bI v1), (2, bI v2)]) (st' := [.ref 1]) l109_54 (fun _ => rfl) ?_
      refine b_gr l109_55 (by rfl) (by decide) (by decide) rfl (b_pc (pc' := 58) rfl ?_)
      refine b_gp (q' := ((μ2 1 5).toNat + 3)) (j := 3) l109_58 (bO_ft hk3 (ci := 8) (by rfl) rfl) (by decide) (by decide) rfl hk3 rfl rfl (b_pc (pc' := 61) rfl ?_)
      refine b_s (pc' := 62) (lv1 := [(0, .ref 1), (1, bI v1), (2, bI v2)]) (st' := [bI v1, .ref ((μ2 1 5).toNat + 3)]) l109_61 (fun _ => rfl) ?_
      refine b_g fun g5 => ?_
      refine b_ial l109_62 (bTree_e (bO_ft hk3 (ci := 8) (by rfl) rfl) 3 (by decide)) g5 (b_pc (pc' := 63) rfl ?_)
      exact b_reti l109_63 rfl (bO_i hk3 (bTree_e (bO_ft hk3 (ci := 8) (by rfl) rfl) 3 (by decide))) (hr _)
    · refine b_tg (fun c16 => ?_) (fun c16 => ?_)
      · refine b_s (pc' := 65) (lv1 := [(0, .ref 1), (1, bI v1), (2, bI v2)]) (st' := [.ref 1]) l109_64 (fun _ => rfl) ?_
        refine b_gr l109_65 (by rfl) (by decide) (by decide) rfl (b_pc (pc' := 68) rfl ?_)
        refine b_gp (q' := ((μ2 1 5).toNat + 4)) (j := 4) l109_68 (bO_ft hk3 (ci := 8) (by rfl) rfl) (by decide) (by decide) rfl hk3 rfl rfl (b_pc (pc' := 71) rfl ?_)
        refine b_s (pc' := 72) (lv1 := [(0, .ref 1), (1, bI v1), (2, bI v2)]) (st' := [bI v1, .ref ((μ2 1 5).toNat + 4)]) l109_71 (fun _ => rfl) ?_
        refine b_g fun g6 => ?_
        refine b_ial l109_72 (bTree_e (bO_ft hk3 (ci := 8) (by rfl) rfl) 4 (by decide)) g6 (b_pc (pc' := 73) rfl ?_)
        exact b_reti l109_73 rfl (bO_i hk3 (bTree_e (bO_ft hk3 (ci := 8) (by rfl) rfl) 4 (by decide))) (hr _)
      · refine b_tg (fun c15 => ?_) (fun c15 => ?_)
        · refine b_s (pc' := 75) (lv1 := [(0, .ref 1), (1, bI v1), (2, bI v2)]) (st' := [.ref 1]) l109_74 (fun _ => rfl) ?_
          refine b_gr l109_75 (by rfl) (by decide) (by decide) rfl (b_pc (pc' := 78) rfl ?_)
          refine b_gp (q' := ((μ2 1 5).toNat + 6)) (j := 6) l109_78 (bO_ft hk3 (ci := 8) (by rfl) rfl) (by decide) (by decide) rfl hk3 rfl rfl (b_pc (pc' := 81) rfl ?_)
          refine b_s (pc' := 82) (lv1 := [(0, .ref 1), (1, bI v1), (2, bI v2)]) (st' := [bI v1, .ref ((μ2 1 5).toNat + 6)]) l109_81 (fun _ => rfl) ?_
          refine b_g fun g7 => ?_
          refine b_ial l109_82 (bTree_e (bO_ft hk3 (ci := 8) (by rfl) rfl) 6 (by decide)) g7 (b_pc (pc' := 83) rfl ?_)
          exact b_reti l109_83 rfl (bO_i hk3 (bTree_e (bO_ft hk3 (ci := 8) (by rfl) rfl) 6 (by decide))) (hr _)
        · refine b_tg (fun c14 => ?_) (fun c14 => ?_)
          · refine b_s (pc' := 85) (lv1 := [(0, .ref 1), (1, bI v1), (2, bI v2)]) (st' := [.ref 1]) l109_84 (fun _ => rfl) ?_
            refine b_gr l109_85 (by rfl) (by decide) (by decide) rfl (b_pc (pc' := 88) rfl ?_)
            refine b_gp (q' := ((μ2 1 5).toNat + 10)) (j := 10) l109_88 (bO_ft hk3 (ci := 8) (by rfl) rfl) (by decide) (by decide) rfl hk3 rfl rfl (b_pc (pc' := 91) rfl ?_)
            refine b_s (pc' := 92) (lv1 := [(0, .ref 1), (1, bI v1), (2, bI v2)]) (st' := [bI v1, .ref ((μ2 1 5).toNat + 10)]) l109_91 (fun _ => rfl) ?_
            refine b_g fun g8 => ?_
            refine b_ial l109_92 (bTree_e (bO_ft hk3 (ci := 8) (by rfl) rfl) 10 (by decide)) g8 (b_pc (pc' := 93) rfl ?_)
            exact b_reti l109_93 rfl (bO_i hk3 (bTree_e (bO_ft hk3 (ci := 8) (by rfl) rfl) 10 (by decide))) (hr _)
          · refine b_tg (fun c13 => ?_) (fun c13 => ?_)
            · refine b_s (pc' := 95) (lv1 := [(0, .ref 1), (1, bI v1), (2, bI v2)]) (st' := [.ref 1]) l109_94 (fun _ => rfl) ?_
              refine b_gp (q' := 13) (j := 12) l109_95 (by rfl) (by decide) (by decide) rfl hk3 rfl rfl (b_pc (pc' := 98) rfl ?_)
              refine b_s (pc' := 99) (lv1 := [(0, .ref 1), (1, bI v1), (2, bI v2)]) (st' := [.ref 1, .ref 13]) l109_98 (fun _ => rfl) ?_
              refine b_gr l109_99 (by rfl) (by decide) (by decide) rfl (b_pc (pc' := 102) rfl ?_)
              refine b_s (pc' := 103) (lv1 := [(0, .ref 1), (1, bI v1), (2, bI v2)]) (st' := [.ref 1, .ref (μ2 1 5).toNat, .ref 13]) l109_102 (fun _ => rfl) ?_
              refine b_gp (q' := 4) (j := 3) l109_103 (by rfl) (by decide) (by decide) rfl hk3 rfl rfl (b_pc (pc' := 106) rfl ?_)
              refine b_cMv l109_106 rfl (b_rc (ci := 2) (by rfl) (by decide) (by decide +kernel)) (Nat.le_of_ble_eq_true rfl) (Nat.le_of_ble_eq_true rfl) rfl (r_X3_reckon (μ2 1 5).toNat (bO_ft hk3 (ci := 8) (by rfl) rfl) 4 (by rfl)) fun w9 μ10 hw9 => bD.ok fun hk11 => b_pc (pc' := 109) rfl ?_
              refine b_s (pc' := 110) (lv1 := [(0, .ref 1), (1, bI v1), (2, bI v2)]) (st' := [.ref 1]) l109_109 (fun _ => rfl) ?_
              refine b_gp (q' := 13) (j := 12) l109_110 (by rfl) (by decide) (by decide) rfl hk11 rfl rfl (b_pc (pc' := 113) rfl ?_)
              refine b_gp (q' := 19) (j := 6) l109_113 (by rfl) (by decide) (by decide) rfl hk11 rfl rfl (b_pc (pc' := 116) rfl ?_)
              refine b_s (pc' := 117) (lv1 := [(0, .ref 1), (1, bI v1), (2, bI v2)]) (st' := [bI v1, .ref 19]) l109_116 (fun _ => rfl) ?_
              refine b_g fun g12 => ?_
              refine b_ial l109_117 (by rfl) g12 (b_pc (pc' := 118) rfl ?_)
              exact b_reti l109_118 rfl (bO_i hk11 (by rfl)) (hr _)
            · refine b_pc (pc' := 119) rfl ?_
              exact b_thr x109_119 (by decide) (Nat.le_of_ble_eq_true rfl) (hr _)
/-! ET.child -/
theorem l110_0 : (ax_dt (ax_T 110)).lookup 0 = some (.aload_n 0, 1, 0, 0, 0) := by decide +kernel
theorem l110_1 : (ax_dt (ax_T 110)).lookup 1 = some (.iload_n 1, 1, 0, 0, 0) := by decide +kernel
theorem l110_2 : (ax_dt (ax_T 110)).lookup 2 = some (.invokevirtual 96, 3, 117, 1, 0) := by decide +kernel
theorem l110_5 : (ax_dt (ax_T 110)).lookup 5 = some (.iload_n 2, 1, 0, 0, 0) := by decide +kernel
theorem l110_6 : (ax_dt (ax_T 110)).lookup 6 = some (.ifCond .lt 16, 3, 0, 0, 0) := by decide +kernel
theorem l110_9 : (ax_dt (ax_T 110)).lookup 9 = some (.iload_n 2, 1, 0, 0, 0) := by decide +kernel
theorem l110_10 : (ax_dt (ax_T 110)).lookup 10 = some (.aload_n 0, 1, 0, 0, 0) := by decide +kernel
theorem l110_11 : (ax_dt (ax_T 110)).lookup 11 = some (.getfield 45, 3, 8, 5, 0) := by decide +kernel
theorem l110_14 : (ax_dt (ax_T 110)).lookup 14 = some (.getfield 245, 3, 7, 7, 0) := by decide +kernel
theorem l110_17 : (ax_dt (ax_T 110)).lookup 17 = some (.iload_n 1, 1, 0, 0, 0) := by decide +kernel
theorem l110_18 : (ax_dt (ax_T 110)).lookup 18 = some (.iaload, 1, 0, 0, 0) := by decide +kernel
theorem l110_19 : (ax_dt (ax_T 110)).lookup 19 = some (.if_icmp .lt 7, 3, 0, 0, 0) := by decide +kernel
theorem l110_22 : (ax_dt (ax_T 110)).lookup 22 = some (.iconst (-1), 1, 0, 0, 0) := by decide +kernel
theorem l110_23 : (ax_dt (ax_T 110)).lookup 23 = some (.goto 12, 3, 0, 0, 0) := by decide +kernel
theorem l110_26 : (ax_dt (ax_T 110)).lookup 26 = some (.aload_n 0, 1, 0, 0, 0) := by decide +kernel
theorem l110_27 : (ax_dt (ax_T 110)).lookup 27 = some (.getfield 45, 3, 8, 5, 0) := by decide +kernel
theorem l110_30 : (ax_dt (ax_T 110)).lookup 30 = some (.iload_n 1, 1, 0, 0, 0) := by decide +kernel
theorem l110_31 : (ax_dt (ax_T 110)).lookup 31 = some (.iload_n 2, 1, 0, 0, 0) := by decide +kernel
theorem l110_32 : (ax_dt (ax_T 110)).lookup 32 = some (.invokevirtual 256, 3, 86, 2, 0) := by decide +kernel
theorem l110_35 : (ax_dt (ax_T 110)).lookup 35 = some (.ireturn, 1, 0, 0, 0) := by decide +kernel
noncomputable def F_X10_child (v1 : Int) (v2 : Int) (μ : bM) : Option ((Int ⊕ String) × bM) := bXm (F_X10_needEntry v1 μ) (fun w1 μ2 => if v2 < 0 then some (.inl (-1), μ2) else bG (0 ≤ v1 ∧ v1 < 400) (if v2 < (μ2 ((μ2 1 5).toNat + 6) v1.toNat) then (F_X8_childAt (μ2 1 5).toNat v1 v2 μ2).bind fun w6 => some (.inl w6, μ2) else some (.inl (-1), μ2))) (fun e μ => some (.inr e, μ))
theorem r_X10_child {L : Nat} {xs : Nat → Int32} {d : Nat} {μ : bM}  (v1 : Int) (h1 : bR v1) (v2 : Int) (h2 : bR v2) : bD L xs (d + 1) 110 0 [(0, .ref 1), (1, bI v1), (2, bI v2)] [] μ ((F_X10_child v1 v2 μ).bind (bXc)) := by
  have hr : ∀ r, (bXc) r = (bXc) r := fun _ => rfl
  unfold F_X10_child
  refine bD.ok fun hk => ?_
  refine b_s (pc' := 1) (lv1 := [(0, .ref 1), (1, bI v1), (2, bI v2)]) (st' := [.ref 1]) l110_0 (fun _ => rfl) ?_
  refine b_s (pc' := 2) (lv1 := [(0, .ref 1), (1, bI v1), (2, bI v2)]) (st' := [bI v1, .ref 1]) l110_1 (fun _ => rfl) ?_
  refine b_cXv l110_2 rfl (b_rc (ci := 8) (by rfl) (by decide) (by decide +kernel)) (Nat.le_of_ble_eq_true rfl) (Nat.le_of_ble_eq_true rfl) rfl (r_X10_needEntry v1 h1) ⟨fun _ z => (by cases z), (by decide +kernel)⟩ rfl (fun _ _ => hr _) fun w1 μ2 hw1 => bD.ok fun hk3 => b_pc (pc' := 5) rfl ?_
  refine b_s (pc' := 6) (lv1 := [(0, .ref 1), (1, bI v1), (2, bI v2)]) (st' := [bI v2]) l110_5 (fun _ => rfl) ?_
  refine b_zlt (pt := 22) l110_6 h2 (by decide) rfl (fun c4 => ?_) (fun c4 => b_pc (pc' := 9) rfl ?_)
  · refine b_s (pc' := 23) (lv1 := [(0, .ref 1), (1, bI v1), (2, bI v2)]) (st' := [bI (-1)]) l110_22 (fun _ => rfl) ?_
    refine b_s (pc' := 35) (lv1 := [(0, .ref 1), (1, bI v1), (2, bI v2)]) (st' := [bI (-1)]) l110_23 (fun _ => rfl) ?_
    exact b_reti l110_35 rfl (by decide) (hr _)
  · refine b_s (pc' := 10) (lv1 := [(0, .ref 1), (1, bI v1), (2, bI v2)]) (st' := [bI v2]) l110_9 (fun _ => rfl) ?_
    refine b_s (pc' := 11) (lv1 := [(0, .ref 1), (1, bI v1), (2, bI v2)]) (st' := [.ref 1, bI v2]) l110_10 (fun _ => rfl) ?_
    refine b_gr l110_11 (by rfl) (by decide) (by decide) rfl (b_pc (pc' := 14) rfl ?_)
    refine b_gp (q' := ((μ2 1 5).toNat + 6)) (j := 6) l110_14 (bO_ft hk3 (ci := 8) (by rfl) rfl) (by decide) (by decide) rfl hk3 rfl rfl (b_pc (pc' := 17) rfl ?_)
    refine b_s (pc' := 18) (lv1 := [(0, .ref 1), (1, bI v1), (2, bI v2)]) (st' := [bI v1, .ref ((μ2 1 5).toNat + 6), bI v2]) l110_17 (fun _ => rfl) ?_
    refine b_g fun g7 => ?_
    refine b_ial l110_18 (bTree_e (bO_ft hk3 (ci := 8) (by rfl) rfl) 6 (by decide)) g7 (b_pc (pc' := 19) rfl ?_)
    refine b_ilt (pt := 26) l110_19 h2 (bO_i hk3 (bTree_e (bO_ft hk3 (ci := 8) (by rfl) rfl) 6 (by decide))) (by decide) rfl (fun c5 => ?_) (fun c5 => b_pc (pc' := 22) rfl ?_)
    · refine b_s (pc' := 27) (lv1 := [(0, .ref 1), (1, bI v1), (2, bI v2)]) (st' := [.ref 1]) l110_26 (fun _ => rfl) ?_
      refine b_gr l110_27 (by rfl) (by decide) (by decide) rfl (b_pc (pc' := 30) rfl ?_)
      refine b_s (pc' := 31) (lv1 := [(0, .ref 1), (1, bI v1), (2, bI v2)]) (st' := [bI v1, .ref (μ2 1 5).toNat]) l110_30 (fun _ => rfl) ?_
      refine b_s (pc' := 32) (lv1 := [(0, .ref 1), (1, bI v1), (2, bI v2)]) (st' := [bI v2, bI v1, .ref (μ2 1 5).toNat]) l110_31 (fun _ => rfl) ?_
      refine b_cPi l110_32 rfl (b_rc (ci := 7) (bO_ft hk3 (ci := 8) (by rfl) rfl) (by decide) (by decide +kernel)) (Nat.le_of_ble_eq_true rfl) (Nat.le_of_ble_eq_true rfl) rfl (r_X8_childAt (μ2 1 5).toNat (bO_ft hk3 (ci := 8) (by rfl) rfl) v1 h1 v2 h2) fun w6 hw6 => b_pc (pc' := 35) rfl ?_
      exact b_reti l110_35 rfl hw6 (hr _)
    · refine b_s (pc' := 23) (lv1 := [(0, .ref 1), (1, bI v1), (2, bI v2)]) (st' := [bI (-1)]) l110_22 (fun _ => rfl) ?_
      refine b_s (pc' := 35) (lv1 := [(0, .ref 1), (1, bI v1), (2, bI v2)]) (st' := [bI (-1)]) l110_23 (fun _ => rfl) ?_
      exact b_reti l110_35 rfl (by decide) (hr _)
/-! ET.root -/
theorem l111_0 : (ax_dt (ax_T 111)).lookup 0 = some (.iload_n 1, 1, 0, 0, 0) := by decide +kernel
theorem l111_1 : (ax_dt (ax_T 111)).lookup 1 = some (.ifCond .lt 14, 3, 0, 0, 0) := by decide +kernel
theorem l111_4 : (ax_dt (ax_T 111)).lookup 4 = some (.iload_n 1, 1, 0, 0, 0) := by decide +kernel
theorem l111_5 : (ax_dt (ax_T 111)).lookup 5 = some (.aload_n 0, 1, 0, 0, 0) := by decide +kernel
theorem l111_6 : (ax_dt (ax_T 111)).lookup 6 = some (.getfield 45, 3, 8, 5, 0) := by decide +kernel
theorem l111_9 : (ax_dt (ax_T 111)).lookup 9 = some (.getfield 77, 3, 7, 0, 0) := by decide +kernel
theorem l111_12 : (ax_dt (ax_T 111)).lookup 12 = some (.if_icmp .lt 14, 3, 0, 0, 0) := by decide +kernel
theorem l111_26 : (ax_dt (ax_T 111)).lookup 26 = some (.aload_n 0, 1, 0, 0, 0) := by decide +kernel
theorem l111_27 : (ax_dt (ax_T 111)).lookup 27 = some (.getfield 45, 3, 8, 5, 0) := by decide +kernel
theorem l111_30 : (ax_dt (ax_T 111)).lookup 30 = some (.getfield 261, 3, 7, 2, 0) := by decide +kernel
theorem l111_33 : (ax_dt (ax_T 111)).lookup 33 = some (.iload_n 1, 1, 0, 0, 0) := by decide +kernel
theorem l111_34 : (ax_dt (ax_T 111)).lookup 34 = some (.iaload, 1, 0, 0, 0) := by decide +kernel
theorem l111_35 : (ax_dt (ax_T 111)).lookup 35 = some (.ireturn, 1, 0, 0, 0) := by decide +kernel
theorem x111_15 : (ax_dx (ax_T 111)).lookup 15 = some ("java/lang/IndexOutOfBoundsException", "no such unit", 222, 259, 226, true) := by decide +kernel
noncomputable def F_X10_root (v1 : Int) (μ : bM) : Option ((Int ⊕ String) × bM) := if v1 < 0 then some (.inr "java/lang/IndexOutOfBoundsException", μ) else if v1 < (μ (μ 1 5).toNat 0) then bG (0 ≤ v1 ∧ v1 < 6) (some (.inl (μ ((μ 1 5).toNat + 1) v1.toNat), μ)) else some (.inr "java/lang/IndexOutOfBoundsException", μ)
theorem r_X10_root {L : Nat} {xs : Nat → Int32} {d : Nat} {μ : bM}  (v1 : Int) (h1 : bR v1) : bD L xs (d + 0) 111 0 [(0, .ref 1), (1, bI v1)] [] μ ((F_X10_root v1 μ).bind (bXc)) := by
  have hr : ∀ r, (bXc) r = (bXc) r := fun _ => rfl
  unfold F_X10_root
  refine bD.ok fun hk => ?_
  refine b_s (pc' := 1) (lv1 := [(0, .ref 1), (1, bI v1)]) (st' := [bI v1]) l111_0 (fun _ => rfl) ?_
  refine b_zlt (pt := 15) l111_1 h1 (by decide) rfl (fun c1 => ?_) (fun c1 => b_pc (pc' := 4) rfl ?_)
  · exact b_thr x111_15 (by decide) (Nat.le_of_ble_eq_true rfl) (hr _)
  · refine b_s (pc' := 5) (lv1 := [(0, .ref 1), (1, bI v1)]) (st' := [bI v1]) l111_4 (fun _ => rfl) ?_
    refine b_s (pc' := 6) (lv1 := [(0, .ref 1), (1, bI v1)]) (st' := [.ref 1, bI v1]) l111_5 (fun _ => rfl) ?_
    refine b_gr l111_6 (by rfl) (by decide) (by decide) rfl (b_pc (pc' := 9) rfl ?_)
    refine b_gi l111_9 (bO_ft hk (ci := 8) (by rfl) rfl) (by decide) (by decide) rfl (b_pc (pc' := 12) rfl ?_)
    refine b_ilt (pt := 26) l111_12 h1 (bO_f hk (ci := 7) (bO_ft hk (ci := 8) (by rfl) rfl) rfl) (by decide) rfl (fun c2 => ?_) (fun c2 => b_pc (pc' := 15) rfl ?_)
    · refine b_s (pc' := 27) (lv1 := [(0, .ref 1), (1, bI v1)]) (st' := [.ref 1]) l111_26 (fun _ => rfl) ?_
      refine b_gr l111_27 (by rfl) (by decide) (by decide) rfl (b_pc (pc' := 30) rfl ?_)
      refine b_gp (q' := ((μ 1 5).toNat + 1)) (j := 1) l111_30 (bO_ft hk (ci := 8) (by rfl) rfl) (by decide) (by decide) rfl hk rfl rfl (b_pc (pc' := 33) rfl ?_)
      refine b_s (pc' := 34) (lv1 := [(0, .ref 1), (1, bI v1)]) (st' := [bI v1, .ref ((μ 1 5).toNat + 1)]) l111_33 (fun _ => rfl) ?_
      refine b_g fun g3 => ?_
      refine b_ial l111_34 (bTree_r (bO_ft hk (ci := 8) (by rfl) rfl)) g3 (b_pc (pc' := 35) rfl ?_)
      exact b_reti l111_35 rfl (bO_i hk (bTree_r (bO_ft hk (ci := 8) (by rfl) rfl))) (hr _)
    · exact b_thr x111_15 (by decide) (Nat.le_of_ble_eq_true rfl) (hr _)
/-! ET.neededSlot -/
theorem l124_0 : (ax_dt (ax_T 124)).lookup 0 = some (.aload_n 0, 1, 0, 0, 0) := by decide +kernel
theorem l124_1 : (ax_dt (ax_T 124)).lookup 1 = some (.iload_n 1, 1, 0, 0, 0) := by decide +kernel
theorem l124_2 : (ax_dt (ax_T 124)).lookup 2 = some (.invokevirtual 96, 3, 117, 1, 0) := by decide +kernel
theorem l124_5 : (ax_dt (ax_T 124)).lookup 5 = some (.iload_n 2, 1, 0, 0, 0) := by decide +kernel
theorem l124_6 : (ax_dt (ax_T 124)).lookup 6 = some (.ifCond .lt 16, 3, 0, 0, 0) := by decide +kernel
theorem l124_9 : (ax_dt (ax_T 124)).lookup 9 = some (.iload_n 2, 1, 0, 0, 0) := by decide +kernel
theorem l124_10 : (ax_dt (ax_T 124)).lookup 10 = some (.aload_n 0, 1, 0, 0, 0) := by decide +kernel
theorem l124_11 : (ax_dt (ax_T 124)).lookup 11 = some (.getfield 45, 3, 8, 5, 0) := by decide +kernel
theorem l124_14 : (ax_dt (ax_T 124)).lookup 14 = some (.getfield 248, 3, 7, 11, 0) := by decide +kernel
theorem l124_17 : (ax_dt (ax_T 124)).lookup 17 = some (.iload_n 1, 1, 0, 0, 0) := by decide +kernel
theorem l124_18 : (ax_dt (ax_T 124)).lookup 18 = some (.iaload, 1, 0, 0, 0) := by decide +kernel
theorem l124_19 : (ax_dt (ax_T 124)).lookup 19 = some (.if_icmp .lt 14, 3, 0, 0, 0) := by decide +kernel
theorem l124_33 : (ax_dt (ax_T 124)).lookup 33 = some (.iload_n 1, 1, 0, 0, 0) := by decide +kernel
theorem l124_34 : (ax_dt (ax_T 124)).lookup 34 = some (.iload_n 2, 1, 0, 0, 0) := by decide +kernel
theorem l124_35 : (ax_dt (ax_T 124)).lookup 35 = some (.invokestatic 327, 3, 78, 2, 0) := by decide +kernel
theorem l124_38 : (ax_dt (ax_T 124)).lookup 38 = some (.ireturn, 1, 0, 0, 0) := by decide +kernel
theorem x124_22 : (ax_dx (ax_T 124)).lookup 22 = some ("java/lang/IndexOutOfBoundsException", "no such attribute", 222, 325, 226, true) := by decide +kernel
noncomputable def F_X10_neededSlot (v1 : Int) (v2 : Int) (μ : bM) : Option ((Int ⊕ String) × bM) := bXm (F_X10_needEntry v1 μ) (fun w1 μ2 => if v2 < 0 then some (.inr "java/lang/IndexOutOfBoundsException", μ2) else bG (0 ≤ v1 ∧ v1 < 400) (if v2 < (μ2 ((μ2 1 5).toNat + 10) v1.toNat) then (F_X8_slotAt v1 v2 μ2).bind fun w6 => some (.inl w6, μ2) else some (.inr "java/lang/IndexOutOfBoundsException", μ2))) (fun e μ => some (.inr e, μ))
theorem r_X10_neededSlot {L : Nat} {xs : Nat → Int32} {d : Nat} {μ : bM}  (v1 : Int) (h1 : bR v1) (v2 : Int) (h2 : bR v2) : bD L xs (d + 1) 124 0 [(0, .ref 1), (1, bI v1), (2, bI v2)] [] μ ((F_X10_neededSlot v1 v2 μ).bind (bXc)) := by
  have hr : ∀ r, (bXc) r = (bXc) r := fun _ => rfl
  unfold F_X10_neededSlot
  refine bD.ok fun hk => ?_
  refine b_s (pc' := 1) (lv1 := [(0, .ref 1), (1, bI v1), (2, bI v2)]) (st' := [.ref 1]) l124_0 (fun _ => rfl) ?_
  refine b_s (pc' := 2) (lv1 := [(0, .ref 1), (1, bI v1), (2, bI v2)]) (st' := [bI v1, .ref 1]) l124_1 (fun _ => rfl) ?_
  refine b_cXv l124_2 rfl (b_rc (ci := 8) (by rfl) (by decide) (by decide +kernel)) (Nat.le_of_ble_eq_true rfl) (Nat.le_of_ble_eq_true rfl) rfl (r_X10_needEntry v1 h1) ⟨fun _ z => (by cases z), (by decide +kernel)⟩ rfl (fun _ _ => hr _) fun w1 μ2 hw1 => bD.ok fun hk3 => b_pc (pc' := 5) rfl ?_
  refine b_s (pc' := 6) (lv1 := [(0, .ref 1), (1, bI v1), (2, bI v2)]) (st' := [bI v2]) l124_5 (fun _ => rfl) ?_
  refine b_zlt (pt := 22) l124_6 h2 (by decide) rfl (fun c4 => ?_) (fun c4 => b_pc (pc' := 9) rfl ?_)
  · exact b_thr x124_22 (by decide) (Nat.le_of_ble_eq_true rfl) (hr _)
  · refine b_s (pc' := 10) (lv1 := [(0, .ref 1), (1, bI v1), (2, bI v2)]) (st' := [bI v2]) l124_9 (fun _ => rfl) ?_
    refine b_s (pc' := 11) (lv1 := [(0, .ref 1), (1, bI v1), (2, bI v2)]) (st' := [.ref 1, bI v2]) l124_10 (fun _ => rfl) ?_
    refine b_gr l124_11 (by rfl) (by decide) (by decide) rfl (b_pc (pc' := 14) rfl ?_)
    refine b_gp (q' := ((μ2 1 5).toNat + 10)) (j := 10) l124_14 (bO_ft hk3 (ci := 8) (by rfl) rfl) (by decide) (by decide) rfl hk3 rfl rfl (b_pc (pc' := 17) rfl ?_)
    refine b_s (pc' := 18) (lv1 := [(0, .ref 1), (1, bI v1), (2, bI v2)]) (st' := [bI v1, .ref ((μ2 1 5).toNat + 10), bI v2]) l124_17 (fun _ => rfl) ?_
    refine b_g fun g7 => ?_
    refine b_ial l124_18 (bTree_e (bO_ft hk3 (ci := 8) (by rfl) rfl) 10 (by decide)) g7 (b_pc (pc' := 19) rfl ?_)
    refine b_ilt (pt := 33) l124_19 h2 (bO_i hk3 (bTree_e (bO_ft hk3 (ci := 8) (by rfl) rfl) 10 (by decide))) (by decide) rfl (fun c5 => ?_) (fun c5 => b_pc (pc' := 22) rfl ?_)
    · refine b_s (pc' := 34) (lv1 := [(0, .ref 1), (1, bI v1), (2, bI v2)]) (st' := [bI v1]) l124_33 (fun _ => rfl) ?_
      refine b_s (pc' := 35) (lv1 := [(0, .ref 1), (1, bI v1), (2, bI v2)]) (st' := [bI v2, bI v1]) l124_34 (fun _ => rfl) ?_
      refine b_cPi l124_35 rfl (fun _ => trivial) (Nat.le_of_ble_eq_true rfl) (Nat.le_of_ble_eq_true rfl) rfl (r_X8_slotAt v1 h1 v2 h2) fun w6 hw6 => b_pc (pc' := 38) rfl ?_
      exact b_reti l124_38 rfl hw6 (hr _)
    · exact b_thr x124_22 (by decide) (Nat.le_of_ble_eq_true rfl) (hr _)
/-! ET.attribute -/
theorem l112_0 : (ax_dt (ax_T 112)).lookup 0 = some (.aload_n 0, 1, 0, 0, 0) := by decide +kernel
theorem l112_1 : (ax_dt (ax_T 112)).lookup 1 = some (.iload_n 1, 1, 0, 0, 0) := by decide +kernel
theorem l112_2 : (ax_dt (ax_T 112)).lookup 2 = some (.iload_n 2, 1, 0, 0, 0) := by decide +kernel
theorem l112_3 : (ax_dt (ax_T 112)).lookup 3 = some (.invokevirtual 264, 3, 124, 2, 0) := by decide +kernel
theorem l112_6 : (ax_dt (ax_T 112)).lookup 6 = some (.istore 4, 2, 0, 0, 0) := by decide +kernel
theorem l112_8 : (ax_dt (ax_T 112)).lookup 8 = some (.iload_n 3, 1, 0, 0, 0) := by decide +kernel
theorem l112_9 : (ax_dt (ax_T 112)).lookup 9 = some (.tableswitch 60 0 2 #[27, 38, 49], 27, 0, 0, 0) := by decide +kernel
theorem l112_36 : (ax_dt (ax_T 112)).lookup 36 = some (.aload_n 0, 1, 0, 0, 0) := by decide +kernel
theorem l112_37 : (ax_dt (ax_T 112)).lookup 37 = some (.getfield 45, 3, 8, 5, 0) := by decide +kernel
theorem l112_40 : (ax_dt (ax_T 112)).lookup 40 = some (.getfield 267, 3, 7, 12, 0) := by decide +kernel
theorem l112_43 : (ax_dt (ax_T 112)).lookup 43 = some (.iload 4, 2, 0, 0, 0) := by decide +kernel
theorem l112_45 : (ax_dt (ax_T 112)).lookup 45 = some (.iaload, 1, 0, 0, 0) := by decide +kernel
theorem l112_46 : (ax_dt (ax_T 112)).lookup 46 = some (.ireturn, 1, 0, 0, 0) := by decide +kernel
theorem l112_47 : (ax_dt (ax_T 112)).lookup 47 = some (.aload_n 0, 1, 0, 0, 0) := by decide +kernel
theorem l112_48 : (ax_dt (ax_T 112)).lookup 48 = some (.getfield 45, 3, 8, 5, 0) := by decide +kernel
theorem l112_51 : (ax_dt (ax_T 112)).lookup 51 = some (.getfield 270, 3, 7, 13, 0) := by decide +kernel
theorem l112_54 : (ax_dt (ax_T 112)).lookup 54 = some (.iload 4, 2, 0, 0, 0) := by decide +kernel
theorem l112_56 : (ax_dt (ax_T 112)).lookup 56 = some (.iaload, 1, 0, 0, 0) := by decide +kernel
theorem l112_57 : (ax_dt (ax_T 112)).lookup 57 = some (.ireturn, 1, 0, 0, 0) := by decide +kernel
theorem l112_58 : (ax_dt (ax_T 112)).lookup 58 = some (.aload_n 0, 1, 0, 0, 0) := by decide +kernel
theorem l112_59 : (ax_dt (ax_T 112)).lookup 59 = some (.getfield 45, 3, 8, 5, 0) := by decide +kernel
theorem l112_62 : (ax_dt (ax_T 112)).lookup 62 = some (.getfield 273, 3, 7, 15, 0) := by decide +kernel
theorem l112_65 : (ax_dt (ax_T 112)).lookup 65 = some (.iload 4, 2, 0, 0, 0) := by decide +kernel
theorem l112_67 : (ax_dt (ax_T 112)).lookup 67 = some (.iaload, 1, 0, 0, 0) := by decide +kernel
theorem l112_68 : (ax_dt (ax_T 112)).lookup 68 = some (.ireturn, 1, 0, 0, 0) := by decide +kernel
theorem x112_69 : (ax_dx (ax_T 112)).lookup 69 = some ("java/lang/IndexOutOfBoundsException", "nothing such of an attribute", 222, 276, 226, true) := by decide +kernel
noncomputable def F_X10_attribute (v1 : Int) (v2 : Int) (v3 : Int) (μ : bM) : Option ((Int ⊕ String) × bM) := bXm (F_X10_neededSlot v1 v2 μ) (fun w1 μ2 => if v3 = 0 then bG (0 ≤ w1 ∧ w1 < 3200) (some (.inl (μ2 ((μ2 1 5).toNat + 11) w1.toNat), μ2)) else if v3 = 1 then bG (0 ≤ w1 ∧ w1 < 3200) (some (.inl (μ2 ((μ2 1 5).toNat + 12) w1.toNat), μ2)) else if v3 = 2 then bG (0 ≤ w1 ∧ w1 < 3200) (some (.inl (μ2 ((μ2 1 5).toNat + 14) w1.toNat), μ2)) else some (.inr "java/lang/IndexOutOfBoundsException", μ2)) (fun e μ => some (.inr e, μ))
theorem r_X10_attribute {L : Nat} {xs : Nat → Int32} {d : Nat} {μ : bM}  (v1 : Int) (h1 : bR v1) (v2 : Int) (h2 : bR v2) (v3 : Int) (h3 : bR v3) : bD L xs (d + 2) 112 0 [(0, .ref 1), (1, bI v1), (2, bI v2), (3, bI v3)] [] μ ((F_X10_attribute v1 v2 v3 μ).bind (bXc)) := by
  have hr : ∀ r, (bXc) r = (bXc) r := fun _ => rfl
  unfold F_X10_attribute
  refine bD.ok fun hk => ?_
  refine b_s (pc' := 1) (lv1 := [(0, .ref 1), (1, bI v1), (2, bI v2), (3, bI v3)]) (st' := [.ref 1]) l112_0 (fun _ => rfl) ?_
  refine b_s (pc' := 2) (lv1 := [(0, .ref 1), (1, bI v1), (2, bI v2), (3, bI v3)]) (st' := [bI v1, .ref 1]) l112_1 (fun _ => rfl) ?_
  refine b_s (pc' := 3) (lv1 := [(0, .ref 1), (1, bI v1), (2, bI v2), (3, bI v3)]) (st' := [bI v2, bI v1, .ref 1]) l112_2 (fun _ => rfl) ?_
  refine b_cXi l112_3 rfl (b_rc (ci := 8) (by rfl) (by decide) (by decide +kernel)) (Nat.le_of_ble_eq_true rfl) (Nat.le_of_ble_eq_true rfl) rfl (r_X10_neededSlot v1 h1 v2 h2) ⟨fun _ z => (by cases z), (by decide +kernel)⟩ rfl (fun _ _ => hr _) fun w1 μ2 hw1 => bD.ok fun hk3 => b_pc (pc' := 6) rfl ?_
  refine b_w (pc' := 8) (lv1 := ax_st1 [(0, .ref 1), (1, bI v1), (2, bI v2), (3, bI v3)] 4 (bI w1)) (lv' := [(0, .ref 1), (3, bI v3), (4, bI w1)]) (st' := []) l112_6 (fun _ => rfl) (bSb rfl (bSb rfl (bSb rfl bSn))) ?_
  refine b_s (pc' := 9) (lv1 := [(0, .ref 1), (3, bI v3), (4, bI w1)]) (st' := [bI v3]) l112_8 (fun _ => rfl) ?_
  refine b_tsw l112_9 h3 (by decide) (by decide) (by decide) ?_
  refine b_pc (pc' := bTg [(0, 36), (1, 47), (2, 58)] 69 v3) rfl ?_
  refine b_tg (fun c9 => ?_) (fun c9 => ?_)
  · refine b_s (pc' := 37) (lv1 := [(0, .ref 1), (3, bI v3), (4, bI w1)]) (st' := [.ref 1]) l112_36 (fun _ => rfl) ?_
    refine b_gr l112_37 (by rfl) (by decide) (by decide) rfl (b_pc (pc' := 40) rfl ?_)
    refine b_gp (q' := ((μ2 1 5).toNat + 11)) (j := 11) l112_40 (bO_ft hk3 (ci := 8) (by rfl) rfl) (by decide) (by decide) rfl hk3 rfl rfl (b_pc (pc' := 43) rfl ?_)
    refine b_s (pc' := 45) (lv1 := [(0, .ref 1), (3, bI v3), (4, bI w1)]) (st' := [bI w1, .ref ((μ2 1 5).toNat + 11)]) l112_43 (fun _ => rfl) ?_
    refine b_g fun g4 => ?_
    refine b_ial l112_45 (bTree_n (bO_ft hk3 (ci := 8) (by rfl) rfl)) g4 (b_pc (pc' := 46) rfl ?_)
    exact b_reti l112_46 rfl (bO_i hk3 (bTree_n (bO_ft hk3 (ci := 8) (by rfl) rfl))) (hr _)
  · refine b_tg (fun c8 => ?_) (fun c8 => ?_)
    · refine b_s (pc' := 48) (lv1 := [(0, .ref 1), (3, bI v3), (4, bI w1)]) (st' := [.ref 1]) l112_47 (fun _ => rfl) ?_
      refine b_gr l112_48 (by rfl) (by decide) (by decide) rfl (b_pc (pc' := 51) rfl ?_)
      refine b_gp (q' := ((μ2 1 5).toNat + 12)) (j := 12) l112_51 (bO_ft hk3 (ci := 8) (by rfl) rfl) (by decide) (by decide) rfl hk3 rfl rfl (b_pc (pc' := 54) rfl ?_)
      refine b_s (pc' := 56) (lv1 := [(0, .ref 1), (3, bI v3), (4, bI w1)]) (st' := [bI w1, .ref ((μ2 1 5).toNat + 12)]) l112_54 (fun _ => rfl) ?_
      refine b_g fun g5 => ?_
      refine b_ial l112_56 (bTree_f (bO_ft hk3 (ci := 8) (by rfl) rfl)) g5 (b_pc (pc' := 57) rfl ?_)
      exact b_reti l112_57 rfl (bO_i hk3 (bTree_f (bO_ft hk3 (ci := 8) (by rfl) rfl))) (hr _)
    · refine b_tg (fun c7 => ?_) (fun c7 => ?_)
      · refine b_s (pc' := 59) (lv1 := [(0, .ref 1), (3, bI v3), (4, bI w1)]) (st' := [.ref 1]) l112_58 (fun _ => rfl) ?_
        refine b_gr l112_59 (by rfl) (by decide) (by decide) rfl (b_pc (pc' := 62) rfl ?_)
        refine b_gp (q' := ((μ2 1 5).toNat + 14)) (j := 14) l112_62 (bO_ft hk3 (ci := 8) (by rfl) rfl) (by decide) (by decide) rfl hk3 rfl rfl (b_pc (pc' := 65) rfl ?_)
        refine b_s (pc' := 67) (lv1 := [(0, .ref 1), (3, bI v3), (4, bI w1)]) (st' := [bI w1, .ref ((μ2 1 5).toNat + 14)]) l112_65 (fun _ => rfl) ?_
        refine b_g fun g6 => ?_
        refine b_ial l112_67 (bTree_l (bO_ft hk3 (ci := 8) (by rfl) rfl)) g6 (b_pc (pc' := 68) rfl ?_)
        exact b_reti l112_68 rfl (bO_i hk3 (bTree_l (bO_ft hk3 (ci := 8) (by rfl) rfl))) (hr _)
      · refine b_pc (pc' := 69) rfl ?_
        exact b_thr x112_69 (by decide) (Nat.le_of_ble_eq_true rfl) (hr _)
/-! ET.value -/
theorem l113_0 : (ax_dt (ax_T 113)).lookup 0 = some (.aload_n 0, 1, 0, 0, 0) := by decide +kernel
theorem l113_1 : (ax_dt (ax_T 113)).lookup 1 = some (.iload_n 1, 1, 0, 0, 0) := by decide +kernel
theorem l113_2 : (ax_dt (ax_T 113)).lookup 2 = some (.iload_n 2, 1, 0, 0, 0) := by decide +kernel
theorem l113_3 : (ax_dt (ax_T 113)).lookup 3 = some (.invokevirtual 264, 3, 124, 2, 0) := by decide +kernel
theorem l113_6 : (ax_dt (ax_T 113)).lookup 6 = some (.istore_n 3, 1, 0, 0, 0) := by decide +kernel
theorem l113_7 : (ax_dt (ax_T 113)).lookup 7 = some (.aload_n 0, 1, 0, 0, 0) := by decide +kernel
theorem l113_8 : (ax_dt (ax_T 113)).lookup 8 = some (.getfield 45, 3, 8, 5, 0) := by decide +kernel
theorem l113_11 : (ax_dt (ax_T 113)).lookup 11 = some (.getfield 270, 3, 7, 13, 0) := by decide +kernel
theorem l113_14 : (ax_dt (ax_T 113)).lookup 14 = some (.iload_n 3, 1, 0, 0, 0) := by decide +kernel
theorem l113_15 : (ax_dt (ax_T 113)).lookup 15 = some (.iaload, 1, 0, 0, 0) := by decide +kernel
theorem l113_16 : (ax_dt (ax_T 113)).lookup 16 = some (.invokestatic 278, 3, 16, 1, 0) := by decide +kernel
theorem l113_19 : (ax_dt (ax_T 113)).lookup 19 = some (.ifCond .eq 7, 3, 0, 0, 0) := by decide +kernel
theorem l113_22 : (ax_dt (ax_T 113)).lookup 22 = some (.lconst 0, 1, 0, 0, 0) := by decide +kernel
theorem l113_23 : (ax_dt (ax_T 113)).lookup 23 = some (.goto 12, 3, 0, 0, 0) := by decide +kernel
theorem l113_26 : (ax_dt (ax_T 113)).lookup 26 = some (.aload_n 0, 1, 0, 0, 0) := by decide +kernel
theorem l113_27 : (ax_dt (ax_T 113)).lookup 27 = some (.getfield 45, 3, 8, 5, 0) := by decide +kernel
theorem l113_30 : (ax_dt (ax_T 113)).lookup 30 = some (.getfield 281, 3, 7, 14, 0) := by decide +kernel
theorem l113_33 : (ax_dt (ax_T 113)).lookup 33 = some (.iload_n 3, 1, 0, 0, 0) := by decide +kernel
theorem l113_34 : (ax_dt (ax_T 113)).lookup 34 = some (.laload, 1, 0, 0, 0) := by decide +kernel
theorem l113_35 : (ax_dt (ax_T 113)).lookup 35 = some (.lreturn, 1, 0, 0, 0) := by decide +kernel
noncomputable def F_X10_value (v1 : Int) (v2 : Int) (μ : bM) : Option ((Int ⊕ String) × bM) := bXm (F_X10_neededSlot v1 v2 μ) (fun w1 μ2 => bG (0 ≤ w1 ∧ w1 < 3200) ((F_X2_isLetters (μ2 ((μ2 1 5).toNat + 12) w1.toNat) μ2).bind fun w4 => if w4 = 0 then bG (0 ≤ w1 ∧ w1 < 3200) (some (.inl (μ2 ((μ2 1 5).toNat + 13) w1.toNat), μ2)) else some (.inl 0, μ2))) (fun e μ => some (.inr e, μ))
theorem r_X10_value {L : Nat} {xs : Nat → Int32} {d : Nat} {μ : bM}  (v1 : Int) (h1 : bR v1) (v2 : Int) (h2 : bR v2) : bD L xs (d + 2) 113 0 [(0, .ref 1), (1, bI v1), (2, bI v2)] [] μ ((F_X10_value v1 v2 μ).bind (bXc)) := by
  have hr : ∀ r, (bXc) r = (bXc) r := fun _ => rfl
  unfold F_X10_value
  refine bD.ok fun hk => ?_
  refine b_s (pc' := 1) (lv1 := [(0, .ref 1), (1, bI v1), (2, bI v2)]) (st' := [.ref 1]) l113_0 (fun _ => rfl) ?_
  refine b_s (pc' := 2) (lv1 := [(0, .ref 1), (1, bI v1), (2, bI v2)]) (st' := [bI v1, .ref 1]) l113_1 (fun _ => rfl) ?_
  refine b_s (pc' := 3) (lv1 := [(0, .ref 1), (1, bI v1), (2, bI v2)]) (st' := [bI v2, bI v1, .ref 1]) l113_2 (fun _ => rfl) ?_
  refine b_cXi l113_3 rfl (b_rc (ci := 8) (by rfl) (by decide) (by decide +kernel)) (Nat.le_of_ble_eq_true rfl) (Nat.le_of_ble_eq_true rfl) rfl (r_X10_neededSlot v1 h1 v2 h2) ⟨fun _ z => (by cases z), (by decide +kernel)⟩ rfl (fun _ _ => hr _) fun w1 μ2 hw1 => bD.ok fun hk3 => b_pc (pc' := 6) rfl ?_
  refine b_w (pc' := 7) (lv1 := ax_st1 [(0, .ref 1), (1, bI v1), (2, bI v2)] 3 (bI w1)) (lv' := [(0, .ref 1), (3, bI w1)]) (st' := []) l113_6 (fun _ => rfl) (bSb rfl (bSb rfl bSn)) ?_
  refine b_s (pc' := 8) (lv1 := [(0, .ref 1), (3, bI w1)]) (st' := [.ref 1]) l113_7 (fun _ => rfl) ?_
  refine b_gr l113_8 (by rfl) (by decide) (by decide) rfl (b_pc (pc' := 11) rfl ?_)
  refine b_gp (q' := ((μ2 1 5).toNat + 12)) (j := 12) l113_11 (bO_ft hk3 (ci := 8) (by rfl) rfl) (by decide) (by decide) rfl hk3 rfl rfl (b_pc (pc' := 14) rfl ?_)
  refine b_s (pc' := 15) (lv1 := [(0, .ref 1), (3, bI w1)]) (st' := [bI w1, .ref ((μ2 1 5).toNat + 12)]) l113_14 (fun _ => rfl) ?_
  refine b_g fun g7 => ?_
  refine b_ial l113_15 (bTree_f (bO_ft hk3 (ci := 8) (by rfl) rfl)) g7 (b_pc (pc' := 16) rfl ?_)
  refine b_cPz l113_16 rfl (fun _ => trivial) (Nat.le_of_ble_eq_true rfl) (Nat.le_of_ble_eq_true rfl) rfl (r_X2_isLetters (μ2 ((μ2 1 5).toNat + 12) w1.toNat) (bO_i hk3 (bTree_f (bO_ft hk3 (ci := 8) (by rfl) rfl)))) fun w4 hw4 => b_pc (pc' := 19) rfl ?_
  refine b_zeq (pt := 26) l113_19 (bZ_R hw4) (by decide) rfl (fun c5 => ?_) (fun c5 => b_pc (pc' := 22) rfl ?_)
  · refine b_s (pc' := 27) (lv1 := [(0, .ref 1), (3, bI w1)]) (st' := [.ref 1]) l113_26 (fun _ => rfl) ?_
    refine b_gr l113_27 (by rfl) (by decide) (by decide) rfl (b_pc (pc' := 30) rfl ?_)
    refine b_gp (q' := ((μ2 1 5).toNat + 13)) (j := 13) l113_30 (bO_ft hk3 (ci := 8) (by rfl) rfl) (by decide) (by decide) rfl hk3 rfl rfl (b_pc (pc' := 33) rfl ?_)
    refine b_s (pc' := 34) (lv1 := [(0, .ref 1), (3, bI w1)]) (st' := [bI w1, .ref ((μ2 1 5).toNat + 13)]) l113_33 (fun _ => rfl) ?_
    refine b_g fun g6 => ?_
    refine b_lal l113_34 (bTree_v (bO_ft hk3 (ci := 8) (by rfl) rfl)) g6 (b_pc (pc' := 35) rfl ?_)
    exact b_retl l113_35 rfl (bO_l hk3 (bTree_v (bO_ft hk3 (ci := 8) (by rfl) rfl))) (hr _)
  · refine b_lconst (e := 0) l113_22 (by decide) (b_pc (pc' := 23) rfl ?_)
    refine b_s (pc' := 35) (lv1 := [(0, .ref 1), (3, bI w1)]) (st' := [bLg 0]) l113_23 (fun _ => rfl) ?_
    exact b_retl l113_35 rfl (by decide) (hr _)
/-! ET.letter -/
theorem l114_0 : (ax_dt (ax_T 114)).lookup 0 = some (.aload_n 0, 1, 0, 0, 0) := by decide +kernel
theorem l114_1 : (ax_dt (ax_T 114)).lookup 1 = some (.iload_n 1, 1, 0, 0, 0) := by decide +kernel
theorem l114_2 : (ax_dt (ax_T 114)).lookup 2 = some (.iload_n 2, 1, 0, 0, 0) := by decide +kernel
theorem l114_3 : (ax_dt (ax_T 114)).lookup 3 = some (.invokevirtual 264, 3, 124, 2, 0) := by decide +kernel
theorem l114_6 : (ax_dt (ax_T 114)).lookup 6 = some (.istore 4, 2, 0, 0, 0) := by decide +kernel
theorem l114_8 : (ax_dt (ax_T 114)).lookup 8 = some (.iload_n 3, 1, 0, 0, 0) := by decide +kernel
theorem l114_9 : (ax_dt (ax_T 114)).lookup 9 = some (.ifCond .lt 17, 3, 0, 0, 0) := by decide +kernel
theorem l114_12 : (ax_dt (ax_T 114)).lookup 12 = some (.iload_n 3, 1, 0, 0, 0) := by decide +kernel
theorem l114_13 : (ax_dt (ax_T 114)).lookup 13 = some (.aload_n 0, 1, 0, 0, 0) := by decide +kernel
theorem l114_14 : (ax_dt (ax_T 114)).lookup 14 = some (.getfield 45, 3, 8, 5, 0) := by decide +kernel
theorem l114_17 : (ax_dt (ax_T 114)).lookup 17 = some (.getfield 273, 3, 7, 15, 0) := by decide +kernel
theorem l114_20 : (ax_dt (ax_T 114)).lookup 20 = some (.iload 4, 2, 0, 0, 0) := by decide +kernel
theorem l114_22 : (ax_dt (ax_T 114)).lookup 22 = some (.iaload, 1, 0, 0, 0) := by decide +kernel
theorem l114_23 : (ax_dt (ax_T 114)).lookup 23 = some (.if_icmp .lt 14, 3, 0, 0, 0) := by decide +kernel
theorem l114_37 : (ax_dt (ax_T 114)).lookup 37 = some (.aload_n 0, 1, 0, 0, 0) := by decide +kernel
theorem l114_38 : (ax_dt (ax_T 114)).lookup 38 = some (.getfield 18, 3, 8, 1, 0) := by decide +kernel
theorem l114_41 : (ax_dt (ax_T 114)).lookup 41 = some (.aload_n 0, 1, 0, 0, 0) := by decide +kernel
theorem l114_42 : (ax_dt (ax_T 114)).lookup 42 = some (.getfield 45, 3, 8, 5, 0) := by decide +kernel
theorem l114_45 : (ax_dt (ax_T 114)).lookup 45 = some (.iload 4, 2, 0, 0, 0) := by decide +kernel
theorem l114_47 : (ax_dt (ax_T 114)).lookup 47 = some (.invokevirtual 287, 3, 85, 1, 0) := by decide +kernel
theorem l114_50 : (ax_dt (ax_T 114)).lookup 50 = some (.iload_n 3, 1, 0, 0, 0) := by decide +kernel
theorem l114_51 : (ax_dt (ax_T 114)).lookup 51 = some (.iadd, 1, 0, 0, 0) := by decide +kernel
theorem l114_52 : (ax_dt (ax_T 114)).lookup 52 = some (.invokevirtual 194, 3, 56, 1, 0) := by decide +kernel
theorem l114_55 : (ax_dt (ax_T 114)).lookup 55 = some (.ireturn, 1, 0, 0, 0) := by decide +kernel
theorem x114_26 : (ax_dx (ax_T 114)).lookup 26 = some ("java/lang/IndexOutOfBoundsException", "no such byte of a text or block", 222, 285, 226, true) := by decide +kernel
noncomputable def F_X10_letter (v1 : Int) (v2 : Int) (v3 : Int) (μ : bM) : Option ((Int ⊕ String) × bM) := bXm (F_X10_neededSlot v1 v2 μ) (fun w1 μ2 => if v3 < 0 then some (.inr "java/lang/IndexOutOfBoundsException", μ2) else bG (0 ≤ w1 ∧ w1 < 3200) (if v3 < (μ2 ((μ2 1 5).toNat + 14) w1.toNat) then (F_X8_start (μ2 1 5).toNat w1 μ2).bind fun w6 => bG (bR (w6 + v3)) ((F_X6_at 4 (w6 + v3) μ2).bind fun w8 => some (.inl w8, μ2)) else some (.inr "java/lang/IndexOutOfBoundsException", μ2))) (fun e μ => some (.inr e, μ))
theorem r_X10_letter {L : Nat} {xs : Nat → Int32} {d : Nat} {μ : bM}  (v1 : Int) (h1 : bR v1) (v2 : Int) (h2 : bR v2) (v3 : Int) (h3 : bR v3) : bD L xs (d + 2) 114 0 [(0, .ref 1), (1, bI v1), (2, bI v2), (3, bI v3)] [] μ ((F_X10_letter v1 v2 v3 μ).bind (bXc)) := by
  have hr : ∀ r, (bXc) r = (bXc) r := fun _ => rfl
  unfold F_X10_letter
  refine bD.ok fun hk => ?_
  refine b_s (pc' := 1) (lv1 := [(0, .ref 1), (1, bI v1), (2, bI v2), (3, bI v3)]) (st' := [.ref 1]) l114_0 (fun _ => rfl) ?_
  refine b_s (pc' := 2) (lv1 := [(0, .ref 1), (1, bI v1), (2, bI v2), (3, bI v3)]) (st' := [bI v1, .ref 1]) l114_1 (fun _ => rfl) ?_
  refine b_s (pc' := 3) (lv1 := [(0, .ref 1), (1, bI v1), (2, bI v2), (3, bI v3)]) (st' := [bI v2, bI v1, .ref 1]) l114_2 (fun _ => rfl) ?_
  refine b_cXi l114_3 rfl (b_rc (ci := 8) (by rfl) (by decide) (by decide +kernel)) (Nat.le_of_ble_eq_true rfl) (Nat.le_of_ble_eq_true rfl) rfl (r_X10_neededSlot v1 h1 v2 h2) ⟨fun _ z => (by cases z), (by decide +kernel)⟩ rfl (fun _ _ => hr _) fun w1 μ2 hw1 => bD.ok fun hk3 => b_pc (pc' := 6) rfl ?_
  refine b_w (pc' := 8) (lv1 := ax_st1 [(0, .ref 1), (1, bI v1), (2, bI v2), (3, bI v3)] 4 (bI w1)) (lv' := [(0, .ref 1), (3, bI v3), (4, bI w1)]) (st' := []) l114_6 (fun _ => rfl) (bSb rfl (bSb rfl (bSb rfl bSn))) ?_
  refine b_s (pc' := 9) (lv1 := [(0, .ref 1), (3, bI v3), (4, bI w1)]) (st' := [bI v3]) l114_8 (fun _ => rfl) ?_
  refine b_zlt (pt := 26) l114_9 h3 (by decide) rfl (fun c4 => ?_) (fun c4 => b_pc (pc' := 12) rfl ?_)
  · exact b_thr x114_26 (by decide) (Nat.le_of_ble_eq_true rfl) (hr _)
  · refine b_s (pc' := 13) (lv1 := [(0, .ref 1), (3, bI v3), (4, bI w1)]) (st' := [bI v3]) l114_12 (fun _ => rfl) ?_
    refine b_s (pc' := 14) (lv1 := [(0, .ref 1), (3, bI v3), (4, bI w1)]) (st' := [.ref 1, bI v3]) l114_13 (fun _ => rfl) ?_
    refine b_gr l114_14 (by rfl) (by decide) (by decide) rfl (b_pc (pc' := 17) rfl ?_)
    refine b_gp (q' := ((μ2 1 5).toNat + 14)) (j := 14) l114_17 (bO_ft hk3 (ci := 8) (by rfl) rfl) (by decide) (by decide) rfl hk3 rfl rfl (b_pc (pc' := 20) rfl ?_)
    refine b_s (pc' := 22) (lv1 := [(0, .ref 1), (3, bI v3), (4, bI w1)]) (st' := [bI w1, .ref ((μ2 1 5).toNat + 14), bI v3]) l114_20 (fun _ => rfl) ?_
    refine b_g fun g9 => ?_
    refine b_ial l114_22 (bTree_l (bO_ft hk3 (ci := 8) (by rfl) rfl)) g9 (b_pc (pc' := 23) rfl ?_)
    refine b_ilt (pt := 37) l114_23 h3 (bO_i hk3 (bTree_l (bO_ft hk3 (ci := 8) (by rfl) rfl))) (by decide) rfl (fun c5 => ?_) (fun c5 => b_pc (pc' := 26) rfl ?_)
    · refine b_s (pc' := 38) (lv1 := [(0, .ref 1), (3, bI v3), (4, bI w1)]) (st' := [.ref 1]) l114_37 (fun _ => rfl) ?_
      refine b_gp (q' := 4) (j := 3) l114_38 (by rfl) (by decide) (by decide) rfl hk3 rfl rfl (b_pc (pc' := 41) rfl ?_)
      refine b_s (pc' := 42) (lv1 := [(0, .ref 1), (3, bI v3), (4, bI w1)]) (st' := [.ref 1, .ref 4]) l114_41 (fun _ => rfl) ?_
      refine b_gr l114_42 (by rfl) (by decide) (by decide) rfl (b_pc (pc' := 45) rfl ?_)
      refine b_s (pc' := 47) (lv1 := [(0, .ref 1), (3, bI v3), (4, bI w1)]) (st' := [bI w1, .ref (μ2 1 5).toNat, .ref 4]) l114_45 (fun _ => rfl) ?_
      refine b_cPi l114_47 rfl (b_rc (ci := 7) (bO_ft hk3 (ci := 8) (by rfl) rfl) (by decide) (by decide +kernel)) (Nat.le_of_ble_eq_true rfl) (Nat.le_of_ble_eq_true rfl) rfl (r_X8_start (μ2 1 5).toNat (bO_ft hk3 (ci := 8) (by rfl) rfl) w1 hw1) fun w6 hw6 => b_pc (pc' := 50) rfl ?_
      refine b_s (pc' := 51) (lv1 := [(0, .ref 1), (3, bI v3), (4, bI w1)]) (st' := [bI v3, bI w6, .ref 4]) l114_50 (fun _ => rfl) ?_
      refine b_iadd l114_51 fun g7 => (b_pc (pc' := 52) rfl ?_)
      refine b_cPi l114_52 rfl (b_rc (ci := 5) (by rfl) (by decide) (by decide +kernel)) (Nat.le_of_ble_eq_true rfl) (Nat.le_of_ble_eq_true rfl) rfl (r_X6_at 4 (by rfl) (w6 + v3) g7) fun w8 hw8 => b_pc (pc' := 55) rfl ?_
      exact b_reti l114_55 rfl hw8 (hr _)
    · exact b_thr x114_26 (by decide) (Nat.le_of_ble_eq_true rfl) (hr _)
/-! ET.isNamedByTape -/
theorem l128_0 : (ax_dt (ax_T 128)).lookup 0 = some (.aload_n 0, 1, 0, 0, 0) := by decide +kernel
theorem l128_1 : (ax_dt (ax_T 128)).lookup 1 = some (.getfield 45, 3, 8, 5, 0) := by decide +kernel
theorem l128_4 : (ax_dt (ax_T 128)).lookup 4 = some (.iload_n 1, 1, 0, 0, 0) := by decide +kernel
theorem l128_5 : (ax_dt (ax_T 128)).lookup 5 = some (.iconst 3, 1, 0, 0, 0) := by decide +kernel
theorem l128_6 : (ax_dt (ax_T 128)).lookup 6 = some (.invokevirtual 306, 3, 84, 2, 0) := by decide +kernel
theorem l128_9 : (ax_dt (ax_T 128)).lookup 9 = some (.istore_n 2, 1, 0, 0, 0) := by decide +kernel
theorem l128_10 : (ax_dt (ax_T 128)).lookup 10 = some (.iload_n 2, 1, 0, 0, 0) := by decide +kernel
theorem l128_11 : (ax_dt (ax_T 128)).lookup 11 = some (.iconst (-1), 1, 0, 0, 0) := by decide +kernel
theorem l128_12 : (ax_dt (ax_T 128)).lookup 12 = some (.if_icmp .eq 71, 3, 0, 0, 0) := by decide +kernel
theorem l128_15 : (ax_dt (ax_T 128)).lookup 15 = some (.aload_n 0, 1, 0, 0, 0) := by decide +kernel
theorem l128_16 : (ax_dt (ax_T 128)).lookup 16 = some (.getfield 45, 3, 8, 5, 0) := by decide +kernel
theorem l128_19 : (ax_dt (ax_T 128)).lookup 19 = some (.getfield 270, 3, 7, 13, 0) := by decide +kernel
theorem l128_22 : (ax_dt (ax_T 128)).lookup 22 = some (.iload_n 2, 1, 0, 0, 0) := by decide +kernel
theorem l128_23 : (ax_dt (ax_T 128)).lookup 23 = some (.iaload, 1, 0, 0, 0) := by decide +kernel
theorem l128_24 : (ax_dt (ax_T 128)).lookup 24 = some (.invokestatic 311, 3, 15, 1, 0) := by decide +kernel
theorem l128_27 : (ax_dt (ax_T 128)).lookup 27 = some (.ifCond .eq 56, 3, 0, 0, 0) := by decide +kernel
theorem l128_30 : (ax_dt (ax_T 128)).lookup 30 = some (.aload_n 0, 1, 0, 0, 0) := by decide +kernel
theorem l128_31 : (ax_dt (ax_T 128)).lookup 31 = some (.getfield 45, 3, 8, 5, 0) := by decide +kernel
theorem l128_34 : (ax_dt (ax_T 128)).lookup 34 = some (.getfield 273, 3, 7, 15, 0) := by decide +kernel
theorem l128_37 : (ax_dt (ax_T 128)).lookup 37 = some (.iload_n 2, 1, 0, 0, 0) := by decide +kernel
theorem l128_38 : (ax_dt (ax_T 128)).lookup 38 = some (.iaload, 1, 0, 0, 0) := by decide +kernel
theorem l128_39 : (ax_dt (ax_T 128)).lookup 39 = some (.aload_n 0, 1, 0, 0, 0) := by decide +kernel
theorem l128_40 : (ax_dt (ax_T 128)).lookup 40 = some (.getfield 14, 3, 8, 0, 0) := by decide +kernel
theorem l128_43 : (ax_dt (ax_T 128)).lookup 43 = some (.invokevirtual 63, 3, 53, 0, 0) := by decide +kernel
theorem l128_46 : (ax_dt (ax_T 128)).lookup 46 = some (.if_icmp .ne 37, 3, 0, 0, 0) := by decide +kernel
theorem l128_49 : (ax_dt (ax_T 128)).lookup 49 = some (.aload_n 0, 1, 0, 0, 0) := by decide +kernel
theorem l128_50 : (ax_dt (ax_T 128)).lookup 50 = some (.getfield 18, 3, 8, 1, 0) := by decide +kernel
theorem l128_53 : (ax_dt (ax_T 128)).lookup 53 = some (.aload_n 0, 1, 0, 0, 0) := by decide +kernel
theorem l128_54 : (ax_dt (ax_T 128)).lookup 54 = some (.getfield 45, 3, 8, 5, 0) := by decide +kernel
theorem l128_57 : (ax_dt (ax_T 128)).lookup 57 = some (.iload_n 2, 1, 0, 0, 0) := by decide +kernel
theorem l128_58 : (ax_dt (ax_T 128)).lookup 58 = some (.invokevirtual 287, 3, 85, 1, 0) := by decide +kernel
theorem l128_61 : (ax_dt (ax_T 128)).lookup 61 = some (.aload_n 0, 1, 0, 0, 0) := by decide +kernel
theorem l128_62 : (ax_dt (ax_T 128)).lookup 62 = some (.getfield 14, 3, 8, 0, 0) := by decide +kernel
theorem l128_65 : (ax_dt (ax_T 128)).lookup 65 = some (.iconst 0, 1, 0, 0, 0) := by decide +kernel
theorem l128_66 : (ax_dt (ax_T 128)).lookup 66 = some (.aload_n 0, 1, 0, 0, 0) := by decide +kernel
theorem l128_67 : (ax_dt (ax_T 128)).lookup 67 = some (.getfield 14, 3, 8, 0, 0) := by decide +kernel
theorem l128_70 : (ax_dt (ax_T 128)).lookup 70 = some (.invokevirtual 63, 3, 53, 0, 0) := by decide +kernel
theorem l128_73 : (ax_dt (ax_T 128)).lookup 73 = some (.invokevirtual 339, 3, 66, 4, 0) := by decide +kernel
theorem l128_76 : (ax_dt (ax_T 128)).lookup 76 = some (.ifCond .eq 7, 3, 0, 0, 0) := by decide +kernel
theorem l128_79 : (ax_dt (ax_T 128)).lookup 79 = some (.iconst 1, 1, 0, 0, 0) := by decide +kernel
theorem l128_80 : (ax_dt (ax_T 128)).lookup 80 = some (.goto 4, 3, 0, 0, 0) := by decide +kernel
theorem l128_83 : (ax_dt (ax_T 128)).lookup 83 = some (.iconst 0, 1, 0, 0, 0) := by decide +kernel
theorem l128_84 : (ax_dt (ax_T 128)).lookup 84 = some (.ireturn, 1, 0, 0, 0) := by decide +kernel
noncomputable def F_X10_isNamedByTape (v1 : Int) (μ : bM) : Option (Int) := (F_X8_slotOf (μ 1 5).toNat v1 3 μ).bind fun w1 => if w1 = (-1) then some (0) else bG (0 ≤ w1 ∧ w1 < 3200) ((F_X2_isText (μ ((μ 1 5).toNat + 12) w1.toNat) μ).bind fun w3 => if w3 = 0 then some (0) else bG (0 ≤ w1 ∧ w1 < 3200) ((F_X6_used 2 μ).bind fun w5 => if ¬ (μ ((μ 1 5).toNat + 14) w1.toNat) = w5 then some (0) else (F_X8_start (μ 1 5).toNat w1 μ).bind fun w7 => (F_X6_used 2 μ).bind fun w8 => (F_X6_same 4 2 w7 0 w8 μ).bind fun w9 => if w9 = 0 then some (0) else some (1)))
theorem r_X10_isNamedByTape {L : Nat} {xs : Nat → Int32} {d : Nat} {μ : bM}  (v1 : Int) (h1 : bR v1) : bD L xs (d + 2) 128 0 [(0, .ref 1), (1, bI v1)] [] μ ((F_X10_isNamedByTape v1 μ).bind (bPc μ)) := by
  have hr : ∀ r, (bPc μ) r = (bPc μ) r := fun _ => rfl
  unfold F_X10_isNamedByTape
  refine bD.ok fun hk => ?_
  refine b_s (pc' := 1) (lv1 := [(0, .ref 1), (1, bI v1)]) (st' := [.ref 1]) l128_0 (fun _ => rfl) ?_
  refine b_gr l128_1 (by rfl) (by decide) (by decide) rfl (b_pc (pc' := 4) rfl ?_)
  refine b_s (pc' := 5) (lv1 := [(0, .ref 1), (1, bI v1)]) (st' := [bI v1, .ref (μ 1 5).toNat]) l128_4 (fun _ => rfl) ?_
  refine b_s (pc' := 6) (lv1 := [(0, .ref 1), (1, bI v1)]) (st' := [bI 3, bI v1, .ref (μ 1 5).toNat]) l128_5 (fun _ => rfl) ?_
  refine b_cPi l128_6 rfl (b_rc (ci := 7) (bO_ft hk (ci := 8) (by rfl) rfl) (by decide) (by decide +kernel)) (Nat.le_of_ble_eq_true rfl) (Nat.le_of_ble_eq_true rfl) rfl (r_X8_slotOf (μ 1 5).toNat (bO_ft hk (ci := 8) (by rfl) rfl) v1 h1 3 (by decide)) fun w1 hw1 => b_pc (pc' := 9) rfl ?_
  refine b_w (pc' := 10) (lv1 := ax_st1 [(0, .ref 1), (1, bI v1)] 2 (bI w1)) (lv' := [(0, .ref 1), (2, bI w1)]) (st' := []) l128_9 (fun _ => rfl) (bSb rfl (bSb rfl bSn)) ?_
  refine b_s (pc' := 11) (lv1 := [(0, .ref 1), (2, bI w1)]) (st' := [bI w1]) l128_10 (fun _ => rfl) ?_
  refine b_s (pc' := 12) (lv1 := [(0, .ref 1), (2, bI w1)]) (st' := [bI (-1), bI w1]) l128_11 (fun _ => rfl) ?_
  refine b_ieq (pt := 83) l128_12 hw1 (by decide) (by decide) rfl (fun c2 => ?_) (fun c2 => b_pc (pc' := 15) rfl ?_)
  · refine b_s (pc' := 84) (lv1 := [(0, .ref 1), (2, bI w1)]) (st' := [bI 0]) l128_83 (fun _ => rfl) ?_
    exact b_retz l128_84 rfl (by decide) (hr _)
  · refine b_s (pc' := 16) (lv1 := [(0, .ref 1), (2, bI w1)]) (st' := [.ref 1]) l128_15 (fun _ => rfl) ?_
    refine b_gr l128_16 (by rfl) (by decide) (by decide) rfl (b_pc (pc' := 19) rfl ?_)
    refine b_gp (q' := ((μ 1 5).toNat + 12)) (j := 12) l128_19 (bO_ft hk (ci := 8) (by rfl) rfl) (by decide) (by decide) rfl hk rfl rfl (b_pc (pc' := 22) rfl ?_)
    refine b_s (pc' := 23) (lv1 := [(0, .ref 1), (2, bI w1)]) (st' := [bI w1, .ref ((μ 1 5).toNat + 12)]) l128_22 (fun _ => rfl) ?_
    refine b_g fun g12 => ?_
    refine b_ial l128_23 (bTree_f (bO_ft hk (ci := 8) (by rfl) rfl)) g12 (b_pc (pc' := 24) rfl ?_)
    refine b_cPz l128_24 rfl (fun _ => trivial) (Nat.le_of_ble_eq_true rfl) (Nat.le_of_ble_eq_true rfl) rfl (r_X2_isText (μ ((μ 1 5).toNat + 12) w1.toNat) (bO_i hk (bTree_f (bO_ft hk (ci := 8) (by rfl) rfl)))) fun w3 hw3 => b_pc (pc' := 27) rfl ?_
    refine b_zeq (pt := 83) l128_27 (bZ_R hw3) (by decide) rfl (fun c4 => ?_) (fun c4 => b_pc (pc' := 30) rfl ?_)
    · refine b_s (pc' := 84) (lv1 := [(0, .ref 1), (2, bI w1)]) (st' := [bI 0]) l128_83 (fun _ => rfl) ?_
      exact b_retz l128_84 rfl (by decide) (hr _)
    · refine b_s (pc' := 31) (lv1 := [(0, .ref 1), (2, bI w1)]) (st' := [.ref 1]) l128_30 (fun _ => rfl) ?_
      refine b_gr l128_31 (by rfl) (by decide) (by decide) rfl (b_pc (pc' := 34) rfl ?_)
      refine b_gp (q' := ((μ 1 5).toNat + 14)) (j := 14) l128_34 (bO_ft hk (ci := 8) (by rfl) rfl) (by decide) (by decide) rfl hk rfl rfl (b_pc (pc' := 37) rfl ?_)
      refine b_s (pc' := 38) (lv1 := [(0, .ref 1), (2, bI w1)]) (st' := [bI w1, .ref ((μ 1 5).toNat + 14)]) l128_37 (fun _ => rfl) ?_
      refine b_g fun g11 => ?_
      refine b_ial l128_38 (bTree_l (bO_ft hk (ci := 8) (by rfl) rfl)) g11 (b_pc (pc' := 39) rfl ?_)
      refine b_s (pc' := 40) (lv1 := [(0, .ref 1), (2, bI w1)]) (st' := [.ref 1, bI (μ ((μ 1 5).toNat + 14) w1.toNat)]) l128_39 (fun _ => rfl) ?_
      refine b_gp (q' := 2) (j := 1) l128_40 (by rfl) (by decide) (by decide) rfl hk rfl rfl (b_pc (pc' := 43) rfl ?_)
      refine b_cPi l128_43 rfl (b_rc (ci := 5) (by rfl) (by decide) (by decide +kernel)) (Nat.le_of_ble_eq_true rfl) (Nat.le_of_ble_eq_true rfl) rfl (r_X6_used 2 (by rfl)) fun w5 hw5 => b_pc (pc' := 46) rfl ?_
      refine b_ine (pt := 83) l128_46 (bO_i hk (bTree_l (bO_ft hk (ci := 8) (by rfl) rfl))) hw5 (by decide) rfl (fun c6 => ?_) (fun c6 => b_pc (pc' := 49) rfl ?_)
      · refine b_s (pc' := 84) (lv1 := [(0, .ref 1), (2, bI w1)]) (st' := [bI 0]) l128_83 (fun _ => rfl) ?_
        exact b_retz l128_84 rfl (by decide) (hr _)
      · refine b_s (pc' := 50) (lv1 := [(0, .ref 1), (2, bI w1)]) (st' := [.ref 1]) l128_49 (fun _ => rfl) ?_
        refine b_gp (q' := 4) (j := 3) l128_50 (by rfl) (by decide) (by decide) rfl hk rfl rfl (b_pc (pc' := 53) rfl ?_)
        refine b_s (pc' := 54) (lv1 := [(0, .ref 1), (2, bI w1)]) (st' := [.ref 1, .ref 4]) l128_53 (fun _ => rfl) ?_
        refine b_gr l128_54 (by rfl) (by decide) (by decide) rfl (b_pc (pc' := 57) rfl ?_)
        refine b_s (pc' := 58) (lv1 := [(0, .ref 1), (2, bI w1)]) (st' := [bI w1, .ref (μ 1 5).toNat, .ref 4]) l128_57 (fun _ => rfl) ?_
        refine b_cPi l128_58 rfl (b_rc (ci := 7) (bO_ft hk (ci := 8) (by rfl) rfl) (by decide) (by decide +kernel)) (Nat.le_of_ble_eq_true rfl) (Nat.le_of_ble_eq_true rfl) rfl (r_X8_start (μ 1 5).toNat (bO_ft hk (ci := 8) (by rfl) rfl) w1 hw1) fun w7 hw7 => b_pc (pc' := 61) rfl ?_
        refine b_s (pc' := 62) (lv1 := [(0, .ref 1), (2, bI w1)]) (st' := [.ref 1, bI w7, .ref 4]) l128_61 (fun _ => rfl) ?_
        refine b_gp (q' := 2) (j := 1) l128_62 (by rfl) (by decide) (by decide) rfl hk rfl rfl (b_pc (pc' := 65) rfl ?_)
        refine b_s (pc' := 66) (lv1 := [(0, .ref 1), (2, bI w1)]) (st' := [bI 0, .ref 2, bI w7, .ref 4]) l128_65 (fun _ => rfl) ?_
        refine b_s (pc' := 67) (lv1 := [(0, .ref 1), (2, bI w1)]) (st' := [.ref 1, bI 0, .ref 2, bI w7, .ref 4]) l128_66 (fun _ => rfl) ?_
        refine b_gp (q' := 2) (j := 1) l128_67 (by rfl) (by decide) (by decide) rfl hk rfl rfl (b_pc (pc' := 70) rfl ?_)
        refine b_cPi l128_70 rfl (b_rc (ci := 5) (by rfl) (by decide) (by decide +kernel)) (Nat.le_of_ble_eq_true rfl) (Nat.le_of_ble_eq_true rfl) rfl (r_X6_used 2 (by rfl)) fun w8 hw8 => b_pc (pc' := 73) rfl ?_
        refine b_cPz l128_73 rfl (b_rc (ci := 5) (by rfl) (by decide) (by decide +kernel)) (Nat.le_of_ble_eq_true rfl) (Nat.le_of_ble_eq_true rfl) rfl (r_X6_same 4 (by rfl) 2 (by rfl) w7 hw7 0 (by decide) w8 hw8) fun w9 hw9 => b_pc (pc' := 76) rfl ?_
        refine b_zeq (pt := 83) l128_76 (bZ_R hw9) (by decide) rfl (fun c10 => ?_) (fun c10 => b_pc (pc' := 79) rfl ?_)
        · refine b_s (pc' := 84) (lv1 := [(0, .ref 1), (2, bI w1)]) (st' := [bI 0]) l128_83 (fun _ => rfl) ?_
          exact b_retz l128_84 rfl (by decide) (hr _)
        · refine b_s (pc' := 80) (lv1 := [(0, .ref 1), (2, bI w1)]) (st' := [bI 1]) l128_79 (fun _ => rfl) ?_
          refine b_s (pc' := 84) (lv1 := [(0, .ref 1), (2, bI w1)]) (st' := [bI 1]) l128_80 (fun _ => rfl) ?_
          exact b_retz l128_84 rfl (by decide) (hr _)
/-! ET.rootNamedByTape -/
theorem l126_0 : (ax_dt (ax_T 126)).lookup 0 = some (.iconst 0, 1, 0, 0, 0) := by decide +kernel
theorem l126_1 : (ax_dt (ax_T 126)).lookup 1 = some (.istore_n 1, 1, 0, 0, 0) := by decide +kernel
theorem l126_2 : (ax_dt (ax_T 126)).lookup 2 = some (.iload_n 1, 1, 0, 0, 0) := by decide +kernel
theorem l126_3 : (ax_dt (ax_T 126)).lookup 3 = some (.aload_n 0, 1, 0, 0, 0) := by decide +kernel
theorem l126_4 : (ax_dt (ax_T 126)).lookup 4 = some (.getfield 45, 3, 8, 5, 0) := by decide +kernel
theorem l126_7 : (ax_dt (ax_T 126)).lookup 7 = some (.getfield 77, 3, 7, 0, 0) := by decide +kernel
theorem l126_10 : (ax_dt (ax_T 126)).lookup 10 = some (.if_icmp .ge 35, 3, 0, 0, 0) := by decide +kernel
theorem l126_13 : (ax_dt (ax_T 126)).lookup 13 = some (.aload_n 0, 1, 0, 0, 0) := by decide +kernel
theorem l126_14 : (ax_dt (ax_T 126)).lookup 14 = some (.aload_n 0, 1, 0, 0, 0) := by decide +kernel
theorem l126_15 : (ax_dt (ax_T 126)).lookup 15 = some (.getfield 45, 3, 8, 5, 0) := by decide +kernel
theorem l126_18 : (ax_dt (ax_T 126)).lookup 18 = some (.getfield 261, 3, 7, 2, 0) := by decide +kernel
theorem l126_21 : (ax_dt (ax_T 126)).lookup 21 = some (.iload_n 1, 1, 0, 0, 0) := by decide +kernel
theorem l126_22 : (ax_dt (ax_T 126)).lookup 22 = some (.iaload, 1, 0, 0, 0) := by decide +kernel
theorem l126_23 : (ax_dt (ax_T 126)).lookup 23 = some (.invokevirtual 330, 3, 128, 1, 0) := by decide +kernel
theorem l126_26 : (ax_dt (ax_T 126)).lookup 26 = some (.ifCond .eq 13, 3, 0, 0, 0) := by decide +kernel
theorem l126_29 : (ax_dt (ax_T 126)).lookup 29 = some (.aload_n 0, 1, 0, 0, 0) := by decide +kernel
theorem l126_30 : (ax_dt (ax_T 126)).lookup 30 = some (.getfield 45, 3, 8, 5, 0) := by decide +kernel
theorem l126_33 : (ax_dt (ax_T 126)).lookup 33 = some (.getfield 261, 3, 7, 2, 0) := by decide +kernel
theorem l126_36 : (ax_dt (ax_T 126)).lookup 36 = some (.iload_n 1, 1, 0, 0, 0) := by decide +kernel
theorem l126_37 : (ax_dt (ax_T 126)).lookup 37 = some (.iaload, 1, 0, 0, 0) := by decide +kernel
theorem l126_38 : (ax_dt (ax_T 126)).lookup 38 = some (.ireturn, 1, 0, 0, 0) := by decide +kernel
theorem l126_39 : (ax_dt (ax_T 126)).lookup 39 = some (.iinc 1 1, 3, 0, 0, 0) := by decide +kernel
theorem l126_42 : (ax_dt (ax_T 126)).lookup 42 = some (.goto (-40), 3, 0, 0, 0) := by decide +kernel
theorem l126_45 : (ax_dt (ax_T 126)).lookup 45 = some (.iconst (-1), 1, 0, 0, 0) := by decide +kernel
theorem l126_46 : (ax_dt (ax_T 126)).lookup 46 = some (.ireturn, 1, 0, 0, 0) := by decide +kernel
noncomputable def F_X10_rootNamedByTape_2 (μ : bM) (v1 : Int) : Option ((Int) ⊕ (Int)) := if (μ (μ 1 5).toNat 0) ≤ v1 then some (.inr ((-1))) else bG (0 ≤ v1 ∧ v1 < 6) ((F_X10_isNamedByTape (μ ((μ 1 5).toNat + 1) v1.toNat) μ).bind fun w2 => if w2 = 0 then bG (bR (v1 + 1)) (some (.inl (v1 + 1))) else bG (0 ≤ v1 ∧ v1 < 6) (some (.inr ((μ ((μ 1 5).toNat + 1) v1.toNat)))))
noncomputable def F_X10_rootNamedByTape (μ : bM) : Option (Int) := bLoop (fun z => F_X10_rootNamedByTape_2 μ z) 0
theorem q_X10_rootNamedByTape_2 {L : Nat} {xs : Nat → Int32} {d : Nat} {μ : bM}  {κ : ((Int) ⊕ (Int)) → Option bX} (hr : ∀ r : Int, κ (.inr r) = (bPc μ) r) (H2 : ∀ (v1 : Int), bR v1 → bD L xs (d + 3) 126 2 [(0, .ref 1), (1, bI v1)] [] μ (κ (.inl v1)))  {v1 : Int} (h1 : bR v1) : bD L xs (d + 3) 126 2 [(0, .ref 1), (1, bI v1)] [] μ ((F_X10_rootNamedByTape_2 μ v1).bind κ) := by
  unfold F_X10_rootNamedByTape_2
  refine bD.ok fun hk => ?_
  refine b_s (pc' := 3) (lv1 := [(0, .ref 1), (1, bI v1)]) (st' := [bI v1]) l126_2 (fun _ => rfl) ?_
  refine b_s (pc' := 4) (lv1 := [(0, .ref 1), (1, bI v1)]) (st' := [.ref 1, bI v1]) l126_3 (fun _ => rfl) ?_
  refine b_gr l126_4 (by rfl) (by decide) (by decide) rfl (b_pc (pc' := 7) rfl ?_)
  refine b_gi l126_7 (bO_ft hk (ci := 8) (by rfl) rfl) (by decide) (by decide) rfl (b_pc (pc' := 10) rfl ?_)
  refine b_ige (pt := 45) l126_10 h1 (bO_f hk (ci := 7) (bO_ft hk (ci := 8) (by rfl) rfl) rfl) (by decide) rfl (fun c1 => ?_) (fun c1 => b_pc (pc' := 13) rfl ?_)
  · refine b_s (pc' := 46) (lv1 := [(0, .ref 1), (1, bI v1)]) (st' := [bI (-1)]) l126_45 (fun _ => rfl) ?_
    exact b_reti l126_46 rfl (by decide) (hr _)
  · refine b_s (pc' := 14) (lv1 := [(0, .ref 1), (1, bI v1)]) (st' := [.ref 1]) l126_13 (fun _ => rfl) ?_
    refine b_s (pc' := 15) (lv1 := [(0, .ref 1), (1, bI v1)]) (st' := [.ref 1, .ref 1]) l126_14 (fun _ => rfl) ?_
    refine b_gr l126_15 (by rfl) (by decide) (by decide) rfl (b_pc (pc' := 18) rfl ?_)
    refine b_gp (q' := ((μ 1 5).toNat + 1)) (j := 1) l126_18 (bO_ft hk (ci := 8) (by rfl) rfl) (by decide) (by decide) rfl hk rfl rfl (b_pc (pc' := 21) rfl ?_)
    refine b_s (pc' := 22) (lv1 := [(0, .ref 1), (1, bI v1)]) (st' := [bI v1, .ref ((μ 1 5).toNat + 1), .ref 1]) l126_21 (fun _ => rfl) ?_
    refine b_g fun g6 => ?_
    refine b_ial l126_22 (bTree_r (bO_ft hk (ci := 8) (by rfl) rfl)) g6 (b_pc (pc' := 23) rfl ?_)
    refine b_cPz l126_23 rfl (b_rc (ci := 8) (by rfl) (by decide) (by decide +kernel)) (Nat.le_of_ble_eq_true rfl) (Nat.le_of_ble_eq_true rfl) rfl (r_X10_isNamedByTape (μ ((μ 1 5).toNat + 1) v1.toNat) (bO_i hk (bTree_r (bO_ft hk (ci := 8) (by rfl) rfl)))) fun w2 hw2 => b_pc (pc' := 26) rfl ?_
    refine b_zeq (pt := 39) l126_26 (bZ_R hw2) (by decide) rfl (fun c3 => ?_) (fun c3 => b_pc (pc' := 29) rfl ?_)
    · refine b_inc (lv' := [(0, .ref 1), (1, bI (v1 + 1))]) l126_39 rfl (by decide +kernel) (bSb rfl (bSb rfl bSn)) fun g4 => (b_pc (pc' := 42) rfl ?_)
      refine b_s (pc' := 2) (lv1 := [(0, .ref 1), (1, bI (v1 + 1))]) (st' := []) l126_42 (fun _ => rfl) ?_
      refine bD.wk (lv' := [(0, .ref 1), (1, bI (v1 + 1))]) (bSb rfl (bSb rfl bSn)) ?_
      exact H2 (v1 + 1) g4
    · refine b_s (pc' := 30) (lv1 := [(0, .ref 1), (1, bI v1)]) (st' := [.ref 1]) l126_29 (fun _ => rfl) ?_
      refine b_gr l126_30 (by rfl) (by decide) (by decide) rfl (b_pc (pc' := 33) rfl ?_)
      refine b_gp (q' := ((μ 1 5).toNat + 1)) (j := 1) l126_33 (bO_ft hk (ci := 8) (by rfl) rfl) (by decide) (by decide) rfl hk rfl rfl (b_pc (pc' := 36) rfl ?_)
      refine b_s (pc' := 37) (lv1 := [(0, .ref 1), (1, bI v1)]) (st' := [bI v1, .ref ((μ 1 5).toNat + 1)]) l126_36 (fun _ => rfl) ?_
      refine b_g fun g5 => ?_
      refine b_ial l126_37 (bTree_r (bO_ft hk (ci := 8) (by rfl) rfl)) g5 (b_pc (pc' := 38) rfl ?_)
      exact b_reti l126_38 rfl (bO_i hk (bTree_r (bO_ft hk (ci := 8) (by rfl) rfl))) (hr _)
theorem p_X10_rootNamedByTape_2 {L : Nat} {xs : Nat → Int32} {d : Nat} {μ : bM}  {κ : (Int) → Option bX} (hr : ∀ r : Int, κ r = (bPc μ) r)  {v1 : Int} (h1 : bR v1) : bD L xs (d + 3) 126 2 [(0, .ref 1), (1, bI v1)] [] μ ((bLoop (fun z => F_X10_rootNamedByTape_2 μ z) v1).bind κ) :=
  b_loop (fun z => [(0, .ref 1), (1, bI z)]) (fun z => μ) (fun z => bR z) (fun κ' hκ HH z hz => q_X10_rootNamedByTape_2 (κ := κ') (fun r => (hκ _).trans (hr r)) (fun a1 b1 => HH a1 b1)  hz) v1 h1
theorem r_X10_rootNamedByTape {L : Nat} {xs : Nat → Int32} {d : Nat} {μ : bM}   : bD L xs (d + 3) 126 0 [(0, .ref 1)] [] μ ((F_X10_rootNamedByTape μ).bind (bPc μ)) := by
  have hr : ∀ r, (bPc μ) r = (bPc μ) r := fun _ => rfl
  unfold F_X10_rootNamedByTape
  refine bD.ok fun hk => ?_
  refine b_s (pc' := 1) (lv1 := [(0, .ref 1)]) (st' := [bI 0]) l126_0 (fun _ => rfl) ?_
  refine b_w (pc' := 2) (lv1 := ax_st1 [(0, .ref 1)] 1 (bI 0)) (lv' := [(0, .ref 1), (1, bI 0)]) (st' := []) l126_1 (fun _ => rfl) (bSb rfl (bSb rfl bSn)) ?_
  refine bD.wk (lv' := [(0, .ref 1), (1, bI 0)]) (bSb rfl (bSb rfl bSn)) ?_
  exact p_X10_rootNamedByTape_2 hr (by decide)
/-! ET.childNamedByTape -/
theorem l127_0 : (ax_dt (ax_T 127)).lookup 0 = some (.aload_n 0, 1, 0, 0, 0) := by decide +kernel
theorem l127_1 : (ax_dt (ax_T 127)).lookup 1 = some (.getfield 45, 3, 8, 5, 0) := by decide +kernel
theorem l127_4 : (ax_dt (ax_T 127)).lookup 4 = some (.getfield 333, 3, 7, 8, 0) := by decide +kernel
theorem l127_7 : (ax_dt (ax_T 127)).lookup 7 = some (.iload_n 1, 1, 0, 0, 0) := by decide +kernel
theorem l127_8 : (ax_dt (ax_T 127)).lookup 8 = some (.iaload, 1, 0, 0, 0) := by decide +kernel
theorem l127_9 : (ax_dt (ax_T 127)).lookup 9 = some (.istore_n 2, 1, 0, 0, 0) := by decide +kernel
theorem l127_10 : (ax_dt (ax_T 127)).lookup 10 = some (.iconst 0, 1, 0, 0, 0) := by decide +kernel
theorem l127_11 : (ax_dt (ax_T 127)).lookup 11 = some (.istore_n 3, 1, 0, 0, 0) := by decide +kernel
theorem l127_12 : (ax_dt (ax_T 127)).lookup 12 = some (.iload_n 3, 1, 0, 0, 0) := by decide +kernel
theorem l127_13 : (ax_dt (ax_T 127)).lookup 13 = some (.aload_n 0, 1, 0, 0, 0) := by decide +kernel
theorem l127_14 : (ax_dt (ax_T 127)).lookup 14 = some (.getfield 45, 3, 8, 5, 0) := by decide +kernel
theorem l127_17 : (ax_dt (ax_T 127)).lookup 17 = some (.getfield 245, 3, 7, 7, 0) := by decide +kernel
theorem l127_20 : (ax_dt (ax_T 127)).lookup 20 = some (.iload_n 1, 1, 0, 0, 0) := by decide +kernel
theorem l127_21 : (ax_dt (ax_T 127)).lookup 21 = some (.iaload, 1, 0, 0, 0) := by decide +kernel
theorem l127_22 : (ax_dt (ax_T 127)).lookup 22 = some (.if_icmp .ge 34, 3, 0, 0, 0) := by decide +kernel
theorem l127_25 : (ax_dt (ax_T 127)).lookup 25 = some (.iload_n 2, 1, 0, 0, 0) := by decide +kernel
theorem l127_26 : (ax_dt (ax_T 127)).lookup 26 = some (.iconst (-1), 1, 0, 0, 0) := by decide +kernel
theorem l127_27 : (ax_dt (ax_T 127)).lookup 27 = some (.if_icmp .eq 29, 3, 0, 0, 0) := by decide +kernel
theorem l127_30 : (ax_dt (ax_T 127)).lookup 30 = some (.aload_n 0, 1, 0, 0, 0) := by decide +kernel
theorem l127_31 : (ax_dt (ax_T 127)).lookup 31 = some (.iload_n 2, 1, 0, 0, 0) := by decide +kernel
theorem l127_32 : (ax_dt (ax_T 127)).lookup 32 = some (.invokevirtual 330, 3, 128, 1, 0) := by decide +kernel
theorem l127_35 : (ax_dt (ax_T 127)).lookup 35 = some (.ifCond .eq 5, 3, 0, 0, 0) := by decide +kernel
theorem l127_38 : (ax_dt (ax_T 127)).lookup 38 = some (.iload_n 2, 1, 0, 0, 0) := by decide +kernel
theorem l127_39 : (ax_dt (ax_T 127)).lookup 39 = some (.ireturn, 1, 0, 0, 0) := by decide +kernel
theorem l127_40 : (ax_dt (ax_T 127)).lookup 40 = some (.aload_n 0, 1, 0, 0, 0) := by decide +kernel
theorem l127_41 : (ax_dt (ax_T 127)).lookup 41 = some (.getfield 45, 3, 8, 5, 0) := by decide +kernel
theorem l127_44 : (ax_dt (ax_T 127)).lookup 44 = some (.getfield 336, 3, 7, 10, 0) := by decide +kernel
theorem l127_47 : (ax_dt (ax_T 127)).lookup 47 = some (.iload_n 2, 1, 0, 0, 0) := by decide +kernel
theorem l127_48 : (ax_dt (ax_T 127)).lookup 48 = some (.iaload, 1, 0, 0, 0) := by decide +kernel
theorem l127_49 : (ax_dt (ax_T 127)).lookup 49 = some (.istore_n 2, 1, 0, 0, 0) := by decide +kernel
theorem l127_50 : (ax_dt (ax_T 127)).lookup 50 = some (.iinc 3 1, 3, 0, 0, 0) := by decide +kernel
theorem l127_53 : (ax_dt (ax_T 127)).lookup 53 = some (.goto (-41), 3, 0, 0, 0) := by decide +kernel
theorem l127_56 : (ax_dt (ax_T 127)).lookup 56 = some (.iconst (-1), 1, 0, 0, 0) := by decide +kernel
theorem l127_57 : (ax_dt (ax_T 127)).lookup 57 = some (.ireturn, 1, 0, 0, 0) := by decide +kernel
noncomputable def F_X10_childNamedByTape_12 (v1 : Int) (μ : bM) (v2 : Int) (v3 : Int) : Option ((Int × Int) ⊕ (Int)) := bG (0 ≤ v1 ∧ v1 < 400) (if (μ ((μ 1 5).toNat + 6) v1.toNat) ≤ v3 then some (.inr ((-1))) else if v2 = (-1) then some (.inr ((-1))) else (F_X10_isNamedByTape v2 μ).bind fun w3 => if w3 = 0 then bG (0 ≤ v2 ∧ v2 < 400) (bG (bR (v3 + 1)) (some (.inl ((μ ((μ 1 5).toNat + 9) v2.toNat), (v3 + 1))))) else some (.inr (v2)))
noncomputable def F_X10_childNamedByTape (v1 : Int) (μ : bM) : Option (Int) := bG (0 ≤ v1 ∧ v1 < 400) (bLoop (fun z => F_X10_childNamedByTape_12 v1 μ z.1 z.2) ((μ ((μ 1 5).toNat + 7) v1.toNat), 0))
theorem q_X10_childNamedByTape_12 {L : Nat} {xs : Nat → Int32} {d : Nat} {μ : bM} {v1 : Int} {κ : ((Int × Int) ⊕ (Int)) → Option bX} (hr : ∀ r : Int, κ (.inr r) = (bPc μ) r) (H12 : ∀ (v2 : Int) (v3 : Int), bR v2 → bR v3 → bD L xs (d + 3) 127 12 [(0, .ref 1), (1, bI v1), (2, bI v2), (3, bI v3)] [] μ (κ (.inl (v2, v3))))  (h1 : bR v1) {v2 : Int} (h2 : bR v2) {v3 : Int} (h3 : bR v3) : bD L xs (d + 3) 127 12 [(0, .ref 1), (1, bI v1), (2, bI v2), (3, bI v3)] [] μ ((F_X10_childNamedByTape_12 v1 μ v2 v3).bind κ) := by
  unfold F_X10_childNamedByTape_12
  refine bD.ok fun hk => ?_
  refine b_s (pc' := 13) (lv1 := [(0, .ref 1), (1, bI v1), (2, bI v2), (3, bI v3)]) (st' := [bI v3]) l127_12 (fun _ => rfl) ?_
  refine b_s (pc' := 14) (lv1 := [(0, .ref 1), (1, bI v1), (2, bI v2), (3, bI v3)]) (st' := [.ref 1, bI v3]) l127_13 (fun _ => rfl) ?_
  refine b_gr l127_14 (by rfl) (by decide) (by decide) rfl (b_pc (pc' := 17) rfl ?_)
  refine b_gp (q' := ((μ 1 5).toNat + 6)) (j := 6) l127_17 (bO_ft hk (ci := 8) (by rfl) rfl) (by decide) (by decide) rfl hk rfl rfl (b_pc (pc' := 20) rfl ?_)
  refine b_s (pc' := 21) (lv1 := [(0, .ref 1), (1, bI v1), (2, bI v2), (3, bI v3)]) (st' := [bI v1, .ref ((μ 1 5).toNat + 6), bI v3]) l127_20 (fun _ => rfl) ?_
  refine b_g fun g7 => ?_
  refine b_ial l127_21 (bTree_e (bO_ft hk (ci := 8) (by rfl) rfl) 6 (by decide)) g7 (b_pc (pc' := 22) rfl ?_)
  refine b_ige (pt := 56) l127_22 h3 (bO_i hk (bTree_e (bO_ft hk (ci := 8) (by rfl) rfl) 6 (by decide))) (by decide) rfl (fun c1 => ?_) (fun c1 => b_pc (pc' := 25) rfl ?_)
  · refine b_s (pc' := 57) (lv1 := [(0, .ref 1), (1, bI v1), (2, bI v2), (3, bI v3)]) (st' := [bI (-1)]) l127_56 (fun _ => rfl) ?_
    exact b_reti l127_57 rfl (by decide) (hr _)
  · refine b_s (pc' := 26) (lv1 := [(0, .ref 1), (1, bI v1), (2, bI v2), (3, bI v3)]) (st' := [bI v2]) l127_25 (fun _ => rfl) ?_
    refine b_s (pc' := 27) (lv1 := [(0, .ref 1), (1, bI v1), (2, bI v2), (3, bI v3)]) (st' := [bI (-1), bI v2]) l127_26 (fun _ => rfl) ?_
    refine b_ieq (pt := 56) l127_27 h2 (by decide) (by decide) rfl (fun c2 => ?_) (fun c2 => b_pc (pc' := 30) rfl ?_)
    · refine b_s (pc' := 57) (lv1 := [(0, .ref 1), (1, bI v1), (2, bI v2), (3, bI v3)]) (st' := [bI (-1)]) l127_56 (fun _ => rfl) ?_
      exact b_reti l127_57 rfl (by decide) (hr _)
    · refine b_s (pc' := 31) (lv1 := [(0, .ref 1), (1, bI v1), (2, bI v2), (3, bI v3)]) (st' := [.ref 1]) l127_30 (fun _ => rfl) ?_
      refine b_s (pc' := 32) (lv1 := [(0, .ref 1), (1, bI v1), (2, bI v2), (3, bI v3)]) (st' := [bI v2, .ref 1]) l127_31 (fun _ => rfl) ?_
      refine b_cPz l127_32 rfl (b_rc (ci := 8) (by rfl) (by decide) (by decide +kernel)) (Nat.le_of_ble_eq_true rfl) (Nat.le_of_ble_eq_true rfl) rfl (r_X10_isNamedByTape v2 h2) fun w3 hw3 => b_pc (pc' := 35) rfl ?_
      refine b_zeq (pt := 40) l127_35 (bZ_R hw3) (by decide) rfl (fun c4 => ?_) (fun c4 => b_pc (pc' := 38) rfl ?_)
      · refine b_s (pc' := 41) (lv1 := [(0, .ref 1), (1, bI v1), (2, bI v2), (3, bI v3)]) (st' := [.ref 1]) l127_40 (fun _ => rfl) ?_
        refine b_gr l127_41 (by rfl) (by decide) (by decide) rfl (b_pc (pc' := 44) rfl ?_)
        refine b_gp (q' := ((μ 1 5).toNat + 9)) (j := 9) l127_44 (bO_ft hk (ci := 8) (by rfl) rfl) (by decide) (by decide) rfl hk rfl rfl (b_pc (pc' := 47) rfl ?_)
        refine b_s (pc' := 48) (lv1 := [(0, .ref 1), (1, bI v1), (2, bI v2), (3, bI v3)]) (st' := [bI v2, .ref ((μ 1 5).toNat + 9)]) l127_47 (fun _ => rfl) ?_
        refine b_g fun g6 => ?_
        refine b_ial l127_48 (bTree_e (bO_ft hk (ci := 8) (by rfl) rfl) 9 (by decide)) g6 (b_pc (pc' := 49) rfl ?_)
        refine b_w (pc' := 50) (lv1 := ax_st1 [(0, .ref 1), (1, bI v1), (2, bI v2), (3, bI v3)] 2 (bI (μ ((μ 1 5).toNat + 9) v2.toNat))) (lv' := [(0, .ref 1), (1, bI v1), (2, bI (μ ((μ 1 5).toNat + 9) v2.toNat)), (3, bI v3)]) (st' := []) l127_49 (fun _ => rfl) (bSb rfl (bSb rfl (bSb rfl (bSb rfl bSn)))) ?_
        refine b_inc (lv' := [(0, .ref 1), (1, bI v1), (2, bI (μ ((μ 1 5).toNat + 9) v2.toNat)), (3, bI (v3 + 1))]) l127_50 rfl (by decide +kernel) (bSb rfl (bSb rfl (bSb rfl (bSb rfl bSn)))) fun g5 => (b_pc (pc' := 53) rfl ?_)
        refine b_s (pc' := 12) (lv1 := [(0, .ref 1), (1, bI v1), (2, bI (μ ((μ 1 5).toNat + 9) v2.toNat)), (3, bI (v3 + 1))]) (st' := []) l127_53 (fun _ => rfl) ?_
        refine bD.wk (lv' := [(0, .ref 1), (1, bI v1), (2, bI (μ ((μ 1 5).toNat + 9) v2.toNat)), (3, bI (v3 + 1))]) (bSb rfl (bSb rfl (bSb rfl (bSb rfl bSn)))) ?_
        exact H12 (μ ((μ 1 5).toNat + 9) v2.toNat) (v3 + 1) (bO_i hk (bTree_e (bO_ft hk (ci := 8) (by rfl) rfl) 9 (by decide))) g5
      · refine b_s (pc' := 39) (lv1 := [(0, .ref 1), (1, bI v1), (2, bI v2), (3, bI v3)]) (st' := [bI v2]) l127_38 (fun _ => rfl) ?_
        exact b_reti l127_39 rfl h2 (hr _)
theorem p_X10_childNamedByTape_12 {L : Nat} {xs : Nat → Int32} {d : Nat} {μ : bM}  {κ : (Int) → Option bX} (hr : ∀ r : Int, κ r = (bPc μ) r)  {v1 : Int} (h1 : bR v1) {v2 : Int} (h2 : bR v2) {v3 : Int} (h3 : bR v3) : bD L xs (d + 3) 127 12 [(0, .ref 1), (1, bI v1), (2, bI v2), (3, bI v3)] [] μ ((bLoop (fun z => F_X10_childNamedByTape_12 v1 μ z.1 z.2) (v2, v3)).bind κ) :=
  b_loop (fun z => [(0, .ref 1), (1, bI v1), (2, bI z.1), (3, bI z.2)]) (fun z => μ) (fun z => bR z.1 ∧ bR z.2) (fun κ' hκ HH z hz => q_X10_childNamedByTape_12 (κ := κ') (fun r => (hκ _).trans (hr r)) (fun a2 a3 b2 b3 => HH (a2, a3) ⟨b2, b3⟩)  h1 hz.1 hz.2) (v2, v3) ⟨h2, h3⟩
theorem r_X10_childNamedByTape {L : Nat} {xs : Nat → Int32} {d : Nat} {μ : bM}  (v1 : Int) (h1 : bR v1) : bD L xs (d + 3) 127 0 [(0, .ref 1), (1, bI v1)] [] μ ((F_X10_childNamedByTape v1 μ).bind (bPc μ)) := by
  have hr : ∀ r, (bPc μ) r = (bPc μ) r := fun _ => rfl
  unfold F_X10_childNamedByTape
  refine bD.ok fun hk => ?_
  refine b_s (pc' := 1) (lv1 := [(0, .ref 1), (1, bI v1)]) (st' := [.ref 1]) l127_0 (fun _ => rfl) ?_
  refine b_gr l127_1 (by rfl) (by decide) (by decide) rfl (b_pc (pc' := 4) rfl ?_)
  refine b_gp (q' := ((μ 1 5).toNat + 7)) (j := 7) l127_4 (bO_ft hk (ci := 8) (by rfl) rfl) (by decide) (by decide) rfl hk rfl rfl (b_pc (pc' := 7) rfl ?_)
  refine b_s (pc' := 8) (lv1 := [(0, .ref 1), (1, bI v1)]) (st' := [bI v1, .ref ((μ 1 5).toNat + 7)]) l127_7 (fun _ => rfl) ?_
  refine b_g fun g1 => ?_
  refine b_ial l127_8 (bTree_e (bO_ft hk (ci := 8) (by rfl) rfl) 7 (by decide)) g1 (b_pc (pc' := 9) rfl ?_)
  refine b_w (pc' := 10) (lv1 := ax_st1 [(0, .ref 1), (1, bI v1)] 2 (bI (μ ((μ 1 5).toNat + 7) v1.toNat))) (lv' := [(0, .ref 1), (1, bI v1), (2, bI (μ ((μ 1 5).toNat + 7) v1.toNat))]) (st' := []) l127_9 (fun _ => rfl) (bSb rfl (bSb rfl (bSb rfl bSn))) ?_
  refine b_s (pc' := 11) (lv1 := [(0, .ref 1), (1, bI v1), (2, bI (μ ((μ 1 5).toNat + 7) v1.toNat))]) (st' := [bI 0]) l127_10 (fun _ => rfl) ?_
  refine b_w (pc' := 12) (lv1 := ax_st1 [(0, .ref 1), (1, bI v1), (2, bI (μ ((μ 1 5).toNat + 7) v1.toNat))] 3 (bI 0)) (lv' := [(0, .ref 1), (1, bI v1), (2, bI (μ ((μ 1 5).toNat + 7) v1.toNat)), (3, bI 0)]) (st' := []) l127_11 (fun _ => rfl) (bSb rfl (bSb rfl (bSb rfl (bSb rfl bSn)))) ?_
  refine bD.wk (lv' := [(0, .ref 1), (1, bI v1), (2, bI (μ ((μ 1 5).toNat + 7) v1.toNat)), (3, bI 0)]) (bSb rfl (bSb rfl (bSb rfl (bSb rfl bSn)))) ?_
  exact p_X10_childNamedByTape_12 hr h1 (bO_i hk (bTree_e (bO_ft hk (ci := 8) (by rfl) rfl) 7 (by decide))) (by decide)
/-! ET.find -/
theorem l115_0 : (ax_dt (ax_T 115)).lookup 0 = some (.iload_n 1, 1, 0, 0, 0) := by decide +kernel
theorem l115_1 : (ax_dt (ax_T 115)).lookup 1 = some (.iconst (-1), 1, 0, 0, 0) := by decide +kernel
theorem l115_2 : (ax_dt (ax_T 115)).lookup 2 = some (.if_icmp .eq 8, 3, 0, 0, 0) := by decide +kernel
theorem l115_5 : (ax_dt (ax_T 115)).lookup 5 = some (.aload_n 0, 1, 0, 0, 0) := by decide +kernel
theorem l115_6 : (ax_dt (ax_T 115)).lookup 6 = some (.iload_n 1, 1, 0, 0, 0) := by decide +kernel
theorem l115_7 : (ax_dt (ax_T 115)).lookup 7 = some (.invokevirtual 96, 3, 117, 1, 0) := by decide +kernel
theorem l115_10 : (ax_dt (ax_T 115)).lookup 10 = some (.iload_n 1, 1, 0, 0, 0) := by decide +kernel
theorem l115_11 : (ax_dt (ax_T 115)).lookup 11 = some (.iconst (-1), 1, 0, 0, 0) := by decide +kernel
theorem l115_12 : (ax_dt (ax_T 115)).lookup 12 = some (.if_icmp .ne 10, 3, 0, 0, 0) := by decide +kernel
theorem l115_15 : (ax_dt (ax_T 115)).lookup 15 = some (.aload_n 0, 1, 0, 0, 0) := by decide +kernel
theorem l115_16 : (ax_dt (ax_T 115)).lookup 16 = some (.invokevirtual 290, 3, 126, 0, 0) := by decide +kernel
theorem l115_19 : (ax_dt (ax_T 115)).lookup 19 = some (.goto 8, 3, 0, 0, 0) := by decide +kernel
theorem l115_22 : (ax_dt (ax_T 115)).lookup 22 = some (.aload_n 0, 1, 0, 0, 0) := by decide +kernel
theorem l115_23 : (ax_dt (ax_T 115)).lookup 23 = some (.iload_n 1, 1, 0, 0, 0) := by decide +kernel
theorem l115_24 : (ax_dt (ax_T 115)).lookup 24 = some (.invokevirtual 293, 3, 127, 1, 0) := by decide +kernel
theorem l115_27 : (ax_dt (ax_T 115)).lookup 27 = some (.istore_n 2, 1, 0, 0, 0) := by decide +kernel
theorem l115_28 : (ax_dt (ax_T 115)).lookup 28 = some (.aload_n 0, 1, 0, 0, 0) := by decide +kernel
theorem l115_29 : (ax_dt (ax_T 115)).lookup 29 = some (.getfield 14, 3, 8, 0, 0) := by decide +kernel
theorem l115_32 : (ax_dt (ax_T 115)).lookup 32 = some (.iconst 0, 1, 0, 0, 0) := by decide +kernel
theorem l115_33 : (ax_dt (ax_T 115)).lookup 33 = some (.invokevirtual 71, 3, 58, 1, 0) := by decide +kernel
theorem l115_36 : (ax_dt (ax_T 115)).lookup 36 = some (.iload_n 2, 1, 0, 0, 0) := by decide +kernel
theorem l115_37 : (ax_dt (ax_T 115)).lookup 37 = some (.ireturn, 1, 0, 0, 0) := by decide +kernel
noncomputable def F_X10_find_10 (v1 : Int) (μ : bM) : Option ((Int ⊕ String) × bM) := if ¬ v1 = (-1) then (F_X10_childNamedByTape v1 μ).bind fun w2 => bMm (F_X6_cut 2 0 μ) (fun w3 μ4 => some (.inl w2, μ4)) else (F_X10_rootNamedByTape μ).bind fun w6 => bMm (F_X6_cut 2 0 μ) (fun w7 μ8 => some (.inl w6, μ8))
noncomputable def F_X10_find (v1 : Int) (μ : bM) : Option ((Int ⊕ String) × bM) := if v1 = (-1) then F_X10_find_10 v1 μ else bXm (F_X10_needEntry v1 μ) (fun w2 μ3 => F_X10_find_10 v1 μ3) (fun e μ => some (.inr e, μ))
theorem p_X10_find_10 {L : Nat} {xs : Nat → Int32} {d : Nat} {μ : bM}  {κ : ((Int ⊕ String) × bM) → Option bX} (hr : ∀ r : (Int ⊕ String) × bM, κ r = (bXc) r)  {v1 : Int} (h1 : bR v1) : bD L xs (d + 4) 115 10 [(0, .ref 1), (1, bI v1)] [] μ ((F_X10_find_10 v1 μ).bind κ) := by
  unfold F_X10_find_10
  refine bD.ok fun hk => ?_
  refine b_s (pc' := 11) (lv1 := [(0, .ref 1), (1, bI v1)]) (st' := [bI v1]) l115_10 (fun _ => rfl) ?_
  refine b_s (pc' := 12) (lv1 := [(0, .ref 1), (1, bI v1)]) (st' := [bI (-1), bI v1]) l115_11 (fun _ => rfl) ?_
  refine b_ine (pt := 22) l115_12 h1 (by decide) (by decide) rfl (fun c1 => ?_) (fun c1 => b_pc (pc' := 15) rfl ?_)
  · refine b_s (pc' := 23) (lv1 := [(0, .ref 1), (1, bI v1)]) (st' := [.ref 1]) l115_22 (fun _ => rfl) ?_
    refine b_s (pc' := 24) (lv1 := [(0, .ref 1), (1, bI v1)]) (st' := [bI v1, .ref 1]) l115_23 (fun _ => rfl) ?_
    refine b_cPi l115_24 rfl (b_rc (ci := 8) (by rfl) (by decide) (by decide +kernel)) (Nat.le_of_ble_eq_true rfl) (Nat.le_of_ble_eq_true rfl) rfl (r_X10_childNamedByTape v1 h1) fun w2 hw2 => b_pc (pc' := 27) rfl ?_
    refine b_w (pc' := 28) (lv1 := ax_st1 [(0, .ref 1), (1, bI v1)] 2 (bI w2)) (lv' := [(0, .ref 1), (2, bI w2)]) (st' := []) l115_27 (fun _ => rfl) (bSb rfl (bSb rfl bSn)) ?_
    refine b_s (pc' := 29) (lv1 := [(0, .ref 1), (2, bI w2)]) (st' := [.ref 1]) l115_28 (fun _ => rfl) ?_
    refine b_gp (q' := 2) (j := 1) l115_29 (by rfl) (by decide) (by decide) rfl hk rfl rfl (b_pc (pc' := 32) rfl ?_)
    refine b_s (pc' := 33) (lv1 := [(0, .ref 1), (2, bI w2)]) (st' := [bI 0, .ref 2]) l115_32 (fun _ => rfl) ?_
    refine b_cMv l115_33 rfl (b_rc (ci := 5) (by rfl) (by decide) (by decide +kernel)) (Nat.le_of_ble_eq_true rfl) (Nat.le_of_ble_eq_true rfl) rfl (r_X6_cut 2 (by rfl) 0 (by decide)) fun w3 μ4 hw3 => bD.ok fun hk5 => b_pc (pc' := 36) rfl ?_
    refine b_s (pc' := 37) (lv1 := [(0, .ref 1), (2, bI w2)]) (st' := [bI w2]) l115_36 (fun _ => rfl) ?_
    exact b_reti l115_37 rfl hw2 (hr _)
  · refine b_s (pc' := 16) (lv1 := [(0, .ref 1), (1, bI v1)]) (st' := [.ref 1]) l115_15 (fun _ => rfl) ?_
    refine b_cPi l115_16 rfl (b_rc (ci := 8) (by rfl) (by decide) (by decide +kernel)) (Nat.le_of_ble_eq_true rfl) (Nat.le_of_ble_eq_true rfl) rfl (r_X10_rootNamedByTape ) fun w6 hw6 => b_pc (pc' := 19) rfl ?_
    refine b_s (pc' := 27) (lv1 := [(0, .ref 1), (1, bI v1)]) (st' := [bI w6]) l115_19 (fun _ => rfl) ?_
    refine b_w (pc' := 28) (lv1 := ax_st1 [(0, .ref 1), (1, bI v1)] 2 (bI w6)) (lv' := [(0, .ref 1), (2, bI w6)]) (st' := []) l115_27 (fun _ => rfl) (bSb rfl (bSb rfl bSn)) ?_
    refine b_s (pc' := 29) (lv1 := [(0, .ref 1), (2, bI w6)]) (st' := [.ref 1]) l115_28 (fun _ => rfl) ?_
    refine b_gp (q' := 2) (j := 1) l115_29 (by rfl) (by decide) (by decide) rfl hk rfl rfl (b_pc (pc' := 32) rfl ?_)
    refine b_s (pc' := 33) (lv1 := [(0, .ref 1), (2, bI w6)]) (st' := [bI 0, .ref 2]) l115_32 (fun _ => rfl) ?_
    refine b_cMv l115_33 rfl (b_rc (ci := 5) (by rfl) (by decide) (by decide +kernel)) (Nat.le_of_ble_eq_true rfl) (Nat.le_of_ble_eq_true rfl) rfl (r_X6_cut 2 (by rfl) 0 (by decide)) fun w7 μ8 hw7 => bD.ok fun hk9 => b_pc (pc' := 36) rfl ?_
    refine b_s (pc' := 37) (lv1 := [(0, .ref 1), (2, bI w6)]) (st' := [bI w6]) l115_36 (fun _ => rfl) ?_
    exact b_reti l115_37 rfl hw6 (hr _)
theorem r_X10_find {L : Nat} {xs : Nat → Int32} {d : Nat} {μ : bM}  (v1 : Int) (h1 : bR v1) : bD L xs (d + 4) 115 0 [(0, .ref 1), (1, bI v1)] [] μ ((F_X10_find v1 μ).bind (bXc)) := by
  have hr : ∀ r, (bXc) r = (bXc) r := fun _ => rfl
  unfold F_X10_find
  refine bD.ok fun hk => ?_
  refine b_s (pc' := 1) (lv1 := [(0, .ref 1), (1, bI v1)]) (st' := [bI v1]) l115_0 (fun _ => rfl) ?_
  refine b_s (pc' := 2) (lv1 := [(0, .ref 1), (1, bI v1)]) (st' := [bI (-1), bI v1]) l115_1 (fun _ => rfl) ?_
  refine b_ieq (pt := 10) l115_2 h1 (by decide) (by decide) rfl (fun c1 => ?_) (fun c1 => b_pc (pc' := 5) rfl ?_)
  · refine bD.wk (lv' := [(0, .ref 1), (1, bI v1)]) (bSb rfl (bSb rfl bSn)) ?_
    exact p_X10_find_10 hr h1
  · refine b_s (pc' := 6) (lv1 := [(0, .ref 1), (1, bI v1)]) (st' := [.ref 1]) l115_5 (fun _ => rfl) ?_
    refine b_s (pc' := 7) (lv1 := [(0, .ref 1), (1, bI v1)]) (st' := [bI v1, .ref 1]) l115_6 (fun _ => rfl) ?_
    refine b_cXv l115_7 rfl (b_rc (ci := 8) (by rfl) (by decide) (by decide +kernel)) (Nat.le_of_ble_eq_true rfl) (Nat.le_of_ble_eq_true rfl) rfl (r_X10_needEntry v1 h1) ⟨fun _ z => (by cases z), (by decide +kernel)⟩ rfl (fun _ _ => hr _) fun w2 μ3 hw2 => bD.ok fun hk4 => b_pc (pc' := 10) rfl ?_
    refine bD.wk (lv' := [(0, .ref 1), (1, bI v1)]) (bSb rfl (bSb rfl bSn)) ?_
    exact p_X10_find_10 hr h1
/-! ET.coversAddress -/
theorem l129_0 : (ax_dt (ax_T 129)).lookup 0 = some (.aload_n 0, 1, 0, 0, 0) := by decide +kernel
theorem l129_1 : (ax_dt (ax_T 129)).lookup 1 = some (.getfield 45, 3, 8, 5, 0) := by decide +kernel
theorem l129_4 : (ax_dt (ax_T 129)).lookup 4 = some (.iload_n 1, 1, 0, 0, 0) := by decide +kernel
theorem l129_5 : (ax_dt (ax_T 129)).lookup 5 = some (.bipush 17, 2, 0, 0, 0) := by decide +kernel
theorem l129_7 : (ax_dt (ax_T 129)).lookup 7 = some (.invokevirtual 306, 3, 84, 2, 0) := by decide +kernel
theorem l129_10 : (ax_dt (ax_T 129)).lookup 10 = some (.istore 4, 2, 0, 0, 0) := by decide +kernel
theorem l129_12 : (ax_dt (ax_T 129)).lookup 12 = some (.aload_n 0, 1, 0, 0, 0) := by decide +kernel
theorem l129_13 : (ax_dt (ax_T 129)).lookup 13 = some (.getfield 45, 3, 8, 5, 0) := by decide +kernel
theorem l129_16 : (ax_dt (ax_T 129)).lookup 16 = some (.iload_n 1, 1, 0, 0, 0) := by decide +kernel
theorem l129_17 : (ax_dt (ax_T 129)).lookup 17 = some (.bipush 18, 2, 0, 0, 0) := by decide +kernel
theorem l129_19 : (ax_dt (ax_T 129)).lookup 19 = some (.invokevirtual 306, 3, 84, 2, 0) := by decide +kernel
theorem l129_22 : (ax_dt (ax_T 129)).lookup 22 = some (.istore 5, 2, 0, 0, 0) := by decide +kernel
theorem l129_24 : (ax_dt (ax_T 129)).lookup 24 = some (.iload 4, 2, 0, 0, 0) := by decide +kernel
theorem l129_26 : (ax_dt (ax_T 129)).lookup 26 = some (.iconst (-1), 1, 0, 0, 0) := by decide +kernel
theorem l129_27 : (ax_dt (ax_T 129)).lookup 27 = some (.if_icmp .eq 79, 3, 0, 0, 0) := by decide +kernel
theorem l129_30 : (ax_dt (ax_T 129)).lookup 30 = some (.iload 5, 2, 0, 0, 0) := by decide +kernel
theorem l129_32 : (ax_dt (ax_T 129)).lookup 32 = some (.iconst (-1), 1, 0, 0, 0) := by decide +kernel
theorem l129_33 : (ax_dt (ax_T 129)).lookup 33 = some (.if_icmp .eq 73, 3, 0, 0, 0) := by decide +kernel
theorem l129_36 : (ax_dt (ax_T 129)).lookup 36 = some (.aload_n 0, 1, 0, 0, 0) := by decide +kernel
theorem l129_37 : (ax_dt (ax_T 129)).lookup 37 = some (.getfield 45, 3, 8, 5, 0) := by decide +kernel
theorem l129_40 : (ax_dt (ax_T 129)).lookup 40 = some (.getfield 270, 3, 7, 13, 0) := by decide +kernel
theorem l129_43 : (ax_dt (ax_T 129)).lookup 43 = some (.iload 4, 2, 0, 0, 0) := by decide +kernel
theorem l129_45 : (ax_dt (ax_T 129)).lookup 45 = some (.iaload, 1, 0, 0, 0) := by decide +kernel
theorem l129_46 : (ax_dt (ax_T 129)).lookup 46 = some (.invokestatic 113, 3, 18, 1, 0) := by decide +kernel
theorem l129_49 : (ax_dt (ax_T 129)).lookup 49 = some (.ifCond .eq 57, 3, 0, 0, 0) := by decide +kernel
theorem l129_52 : (ax_dt (ax_T 129)).lookup 52 = some (.aload_n 0, 1, 0, 0, 0) := by decide +kernel
theorem l129_53 : (ax_dt (ax_T 129)).lookup 53 = some (.getfield 45, 3, 8, 5, 0) := by decide +kernel
theorem l129_56 : (ax_dt (ax_T 129)).lookup 56 = some (.getfield 270, 3, 7, 13, 0) := by decide +kernel
theorem l129_59 : (ax_dt (ax_T 129)).lookup 59 = some (.iload 5, 2, 0, 0, 0) := by decide +kernel
theorem l129_61 : (ax_dt (ax_T 129)).lookup 61 = some (.iaload, 1, 0, 0, 0) := by decide +kernel
theorem l129_62 : (ax_dt (ax_T 129)).lookup 62 = some (.invokestatic 113, 3, 18, 1, 0) := by decide +kernel
theorem l129_65 : (ax_dt (ax_T 129)).lookup 65 = some (.ifCond .eq 41, 3, 0, 0, 0) := by decide +kernel
theorem l129_68 : (ax_dt (ax_T 129)).lookup 68 = some (.lload_n 2, 1, 0, 0, 0) := by decide +kernel
theorem l129_69 : (ax_dt (ax_T 129)).lookup 69 = some (.aload_n 0, 1, 0, 0, 0) := by decide +kernel
theorem l129_70 : (ax_dt (ax_T 129)).lookup 70 = some (.getfield 45, 3, 8, 5, 0) := by decide +kernel
theorem l129_73 : (ax_dt (ax_T 129)).lookup 73 = some (.getfield 281, 3, 7, 14, 0) := by decide +kernel
theorem l129_76 : (ax_dt (ax_T 129)).lookup 76 = some (.iload 4, 2, 0, 0, 0) := by decide +kernel
theorem l129_78 : (ax_dt (ax_T 129)).lookup 78 = some (.laload, 1, 0, 0, 0) := by decide +kernel
theorem l129_79 : (ax_dt (ax_T 129)).lookup 79 = some (.invokestatic 343, 3, 130, 2, 0) := by decide +kernel
theorem l129_82 : (ax_dt (ax_T 129)).lookup 82 = some (.ifCond .ne 24, 3, 0, 0, 0) := by decide +kernel
theorem l129_85 : (ax_dt (ax_T 129)).lookup 85 = some (.lload_n 2, 1, 0, 0, 0) := by decide +kernel
theorem l129_86 : (ax_dt (ax_T 129)).lookup 86 = some (.aload_n 0, 1, 0, 0, 0) := by decide +kernel
theorem l129_87 : (ax_dt (ax_T 129)).lookup 87 = some (.getfield 45, 3, 8, 5, 0) := by decide +kernel
theorem l129_90 : (ax_dt (ax_T 129)).lookup 90 = some (.getfield 281, 3, 7, 14, 0) := by decide +kernel
theorem l129_93 : (ax_dt (ax_T 129)).lookup 93 = some (.iload 5, 2, 0, 0, 0) := by decide +kernel
theorem l129_95 : (ax_dt (ax_T 129)).lookup 95 = some (.laload, 1, 0, 0, 0) := by decide +kernel
theorem l129_96 : (ax_dt (ax_T 129)).lookup 96 = some (.invokestatic 343, 3, 130, 2, 0) := by decide +kernel
theorem l129_99 : (ax_dt (ax_T 129)).lookup 99 = some (.ifCond .eq 7, 3, 0, 0, 0) := by decide +kernel
theorem l129_102 : (ax_dt (ax_T 129)).lookup 102 = some (.iconst 1, 1, 0, 0, 0) := by decide +kernel
theorem l129_103 : (ax_dt (ax_T 129)).lookup 103 = some (.goto 4, 3, 0, 0, 0) := by decide +kernel
theorem l129_106 : (ax_dt (ax_T 129)).lookup 106 = some (.iconst 0, 1, 0, 0, 0) := by decide +kernel
theorem l129_107 : (ax_dt (ax_T 129)).lookup 107 = some (.ireturn, 1, 0, 0, 0) := by decide +kernel
noncomputable def F_X10_coversAddress (v1 : Int) (v2 : Int) (μ : bM) : Option (Int) := (F_X8_slotOf (μ 1 5).toNat v1 17 μ).bind fun w1 => (F_X8_slotOf (μ 1 5).toNat v1 18 μ).bind fun w2 => if w1 = (-1) then some (0) else if w2 = (-1) then some (0) else bG (0 ≤ w1 ∧ w1 < 3200) ((F_X2_isNumber (μ ((μ 1 5).toNat + 12) w1.toNat) μ).bind fun w5 => if w5 = 0 then some (0) else bG (0 ≤ w2 ∧ w2 < 3200) ((F_X2_isNumber (μ ((μ 1 5).toNat + 12) w2.toNat) μ).bind fun w7 => if w7 = 0 then some (0) else bG (0 ≤ w1 ∧ w1 < 3200) ((F_X10_isBelow v2 (μ ((μ 1 5).toNat + 13) w1.toNat) μ).bind fun w9 => if ¬ w9 = 0 then some (0) else bG (0 ≤ w2 ∧ w2 < 3200) ((F_X10_isBelow v2 (μ ((μ 1 5).toNat + 13) w2.toNat) μ).bind fun w11 => if w11 = 0 then some (0) else some (1)))))
theorem r_X10_coversAddress {L : Nat} {xs : Nat → Int32} {d : Nat} {μ : bM}  (v1 : Int) (h1 : bR v1) (v2 : Int) (h2 : bRL v2) : bD L xs (d + 2) 129 0 [(0, .ref 1), (1, bI v1), (2, bLg v2)] [] μ ((F_X10_coversAddress v1 v2 μ).bind (bPc μ)) := by
  have hr : ∀ r, (bPc μ) r = (bPc μ) r := fun _ => rfl
  unfold F_X10_coversAddress
  refine bD.ok fun hk => ?_
  refine b_s (pc' := 1) (lv1 := [(0, .ref 1), (1, bI v1), (2, bLg v2)]) (st' := [.ref 1]) l129_0 (fun _ => rfl) ?_
  refine b_gr l129_1 (by rfl) (by decide) (by decide) rfl (b_pc (pc' := 4) rfl ?_)
  refine b_s (pc' := 5) (lv1 := [(0, .ref 1), (1, bI v1), (2, bLg v2)]) (st' := [bI v1, .ref (μ 1 5).toNat]) l129_4 (fun _ => rfl) ?_
  refine b_bipush l129_5 (by decide) (b_pc (pc' := 7) rfl ?_)
  refine b_cPi l129_7 rfl (b_rc (ci := 7) (bO_ft hk (ci := 8) (by rfl) rfl) (by decide) (by decide +kernel)) (Nat.le_of_ble_eq_true rfl) (Nat.le_of_ble_eq_true rfl) rfl (r_X8_slotOf (μ 1 5).toNat (bO_ft hk (ci := 8) (by rfl) rfl) v1 h1 17 (by decide)) fun w1 hw1 => b_pc (pc' := 10) rfl ?_
  refine b_w (pc' := 12) (lv1 := ax_st1 [(0, .ref 1), (1, bI v1), (2, bLg v2)] 4 (bI w1)) (lv' := [(0, .ref 1), (1, bI v1), (2, bLg v2), (4, bI w1)]) (st' := []) l129_10 (fun _ => rfl) (bSb rfl (bSb rfl (bSb rfl (bSb rfl bSn)))) ?_
  refine b_s (pc' := 13) (lv1 := [(0, .ref 1), (1, bI v1), (2, bLg v2), (4, bI w1)]) (st' := [.ref 1]) l129_12 (fun _ => rfl) ?_
  refine b_gr l129_13 (by rfl) (by decide) (by decide) rfl (b_pc (pc' := 16) rfl ?_)
  refine b_s (pc' := 17) (lv1 := [(0, .ref 1), (1, bI v1), (2, bLg v2), (4, bI w1)]) (st' := [bI v1, .ref (μ 1 5).toNat]) l129_16 (fun _ => rfl) ?_
  refine b_bipush l129_17 (by decide) (b_pc (pc' := 19) rfl ?_)
  refine b_cPi l129_19 rfl (b_rc (ci := 7) (bO_ft hk (ci := 8) (by rfl) rfl) (by decide) (by decide +kernel)) (Nat.le_of_ble_eq_true rfl) (Nat.le_of_ble_eq_true rfl) rfl (r_X8_slotOf (μ 1 5).toNat (bO_ft hk (ci := 8) (by rfl) rfl) v1 h1 18 (by decide)) fun w2 hw2 => b_pc (pc' := 22) rfl ?_
  refine b_w (pc' := 24) (lv1 := ax_st1 [(0, .ref 1), (1, bI v1), (2, bLg v2), (4, bI w1)] 5 (bI w2)) (lv' := [(0, .ref 1), (2, bLg v2), (4, bI w1), (5, bI w2)]) (st' := []) l129_22 (fun _ => rfl) (bSb rfl (bSb rfl (bSb rfl (bSb rfl bSn)))) ?_
  refine b_s (pc' := 26) (lv1 := [(0, .ref 1), (2, bLg v2), (4, bI w1), (5, bI w2)]) (st' := [bI w1]) l129_24 (fun _ => rfl) ?_
  refine b_s (pc' := 27) (lv1 := [(0, .ref 1), (2, bLg v2), (4, bI w1), (5, bI w2)]) (st' := [bI (-1), bI w1]) l129_26 (fun _ => rfl) ?_
  refine b_ieq (pt := 106) l129_27 hw1 (by decide) (by decide) rfl (fun c3 => ?_) (fun c3 => b_pc (pc' := 30) rfl ?_)
  · refine b_s (pc' := 107) (lv1 := [(0, .ref 1), (2, bLg v2), (4, bI w1), (5, bI w2)]) (st' := [bI 0]) l129_106 (fun _ => rfl) ?_
    exact b_retz l129_107 rfl (by decide) (hr _)
  · refine b_s (pc' := 32) (lv1 := [(0, .ref 1), (2, bLg v2), (4, bI w1), (5, bI w2)]) (st' := [bI w2]) l129_30 (fun _ => rfl) ?_
    refine b_s (pc' := 33) (lv1 := [(0, .ref 1), (2, bLg v2), (4, bI w1), (5, bI w2)]) (st' := [bI (-1), bI w2]) l129_32 (fun _ => rfl) ?_
    refine b_ieq (pt := 106) l129_33 hw2 (by decide) (by decide) rfl (fun c4 => ?_) (fun c4 => b_pc (pc' := 36) rfl ?_)
    · refine b_s (pc' := 107) (lv1 := [(0, .ref 1), (2, bLg v2), (4, bI w1), (5, bI w2)]) (st' := [bI 0]) l129_106 (fun _ => rfl) ?_
      exact b_retz l129_107 rfl (by decide) (hr _)
    · refine b_s (pc' := 37) (lv1 := [(0, .ref 1), (2, bLg v2), (4, bI w1), (5, bI w2)]) (st' := [.ref 1]) l129_36 (fun _ => rfl) ?_
      refine b_gr l129_37 (by rfl) (by decide) (by decide) rfl (b_pc (pc' := 40) rfl ?_)
      refine b_gp (q' := ((μ 1 5).toNat + 12)) (j := 12) l129_40 (bO_ft hk (ci := 8) (by rfl) rfl) (by decide) (by decide) rfl hk rfl rfl (b_pc (pc' := 43) rfl ?_)
      refine b_s (pc' := 45) (lv1 := [(0, .ref 1), (2, bLg v2), (4, bI w1), (5, bI w2)]) (st' := [bI w1, .ref ((μ 1 5).toNat + 12)]) l129_43 (fun _ => rfl) ?_
      refine b_g fun g16 => ?_
      refine b_ial l129_45 (bTree_f (bO_ft hk (ci := 8) (by rfl) rfl)) g16 (b_pc (pc' := 46) rfl ?_)
      refine b_cPz l129_46 rfl (fun _ => trivial) (Nat.le_of_ble_eq_true rfl) (Nat.le_of_ble_eq_true rfl) rfl (r_X2_isNumber (μ ((μ 1 5).toNat + 12) w1.toNat) (bO_i hk (bTree_f (bO_ft hk (ci := 8) (by rfl) rfl)))) fun w5 hw5 => b_pc (pc' := 49) rfl ?_
      refine b_zeq (pt := 106) l129_49 (bZ_R hw5) (by decide) rfl (fun c6 => ?_) (fun c6 => b_pc (pc' := 52) rfl ?_)
      · refine b_s (pc' := 107) (lv1 := [(0, .ref 1), (2, bLg v2), (4, bI w1), (5, bI w2)]) (st' := [bI 0]) l129_106 (fun _ => rfl) ?_
        exact b_retz l129_107 rfl (by decide) (hr _)
      · refine b_s (pc' := 53) (lv1 := [(0, .ref 1), (2, bLg v2), (4, bI w1), (5, bI w2)]) (st' := [.ref 1]) l129_52 (fun _ => rfl) ?_
        refine b_gr l129_53 (by rfl) (by decide) (by decide) rfl (b_pc (pc' := 56) rfl ?_)
        refine b_gp (q' := ((μ 1 5).toNat + 12)) (j := 12) l129_56 (bO_ft hk (ci := 8) (by rfl) rfl) (by decide) (by decide) rfl hk rfl rfl (b_pc (pc' := 59) rfl ?_)
        refine b_s (pc' := 61) (lv1 := [(0, .ref 1), (2, bLg v2), (4, bI w1), (5, bI w2)]) (st' := [bI w2, .ref ((μ 1 5).toNat + 12)]) l129_59 (fun _ => rfl) ?_
        refine b_g fun g15 => ?_
        refine b_ial l129_61 (bTree_f (bO_ft hk (ci := 8) (by rfl) rfl)) g15 (b_pc (pc' := 62) rfl ?_)
        refine b_cPz l129_62 rfl (fun _ => trivial) (Nat.le_of_ble_eq_true rfl) (Nat.le_of_ble_eq_true rfl) rfl (r_X2_isNumber (μ ((μ 1 5).toNat + 12) w2.toNat) (bO_i hk (bTree_f (bO_ft hk (ci := 8) (by rfl) rfl)))) fun w7 hw7 => b_pc (pc' := 65) rfl ?_
        refine b_zeq (pt := 106) l129_65 (bZ_R hw7) (by decide) rfl (fun c8 => ?_) (fun c8 => b_pc (pc' := 68) rfl ?_)
        · refine b_s (pc' := 107) (lv1 := [(0, .ref 1), (2, bLg v2), (4, bI w1), (5, bI w2)]) (st' := [bI 0]) l129_106 (fun _ => rfl) ?_
          exact b_retz l129_107 rfl (by decide) (hr _)
        · refine b_s (pc' := 69) (lv1 := [(0, .ref 1), (2, bLg v2), (4, bI w1), (5, bI w2)]) (st' := [bLg v2]) l129_68 (fun _ => rfl) ?_
          refine b_s (pc' := 70) (lv1 := [(0, .ref 1), (2, bLg v2), (4, bI w1), (5, bI w2)]) (st' := [.ref 1, bLg v2]) l129_69 (fun _ => rfl) ?_
          refine b_gr l129_70 (by rfl) (by decide) (by decide) rfl (b_pc (pc' := 73) rfl ?_)
          refine b_gp (q' := ((μ 1 5).toNat + 13)) (j := 13) l129_73 (bO_ft hk (ci := 8) (by rfl) rfl) (by decide) (by decide) rfl hk rfl rfl (b_pc (pc' := 76) rfl ?_)
          refine b_s (pc' := 78) (lv1 := [(0, .ref 1), (2, bLg v2), (4, bI w1), (5, bI w2)]) (st' := [bI w1, .ref ((μ 1 5).toNat + 13), bLg v2]) l129_76 (fun _ => rfl) ?_
          refine b_g fun g14 => ?_
          refine b_lal l129_78 (bTree_v (bO_ft hk (ci := 8) (by rfl) rfl)) g14 (b_pc (pc' := 79) rfl ?_)
          refine b_cPz l129_79 rfl (fun _ => trivial) (Nat.le_of_ble_eq_true rfl) (Nat.le_of_ble_eq_true rfl) rfl (r_X10_isBelow v2 h2 (μ ((μ 1 5).toNat + 13) w1.toNat) (bO_l hk (bTree_v (bO_ft hk (ci := 8) (by rfl) rfl)))) fun w9 hw9 => b_pc (pc' := 82) rfl ?_
          refine b_zne (pt := 106) l129_82 (bZ_R hw9) (by decide) rfl (fun c10 => ?_) (fun c10 => b_pc (pc' := 85) rfl ?_)
          · refine b_s (pc' := 107) (lv1 := [(0, .ref 1), (2, bLg v2), (4, bI w1), (5, bI w2)]) (st' := [bI 0]) l129_106 (fun _ => rfl) ?_
            exact b_retz l129_107 rfl (by decide) (hr _)
          · refine b_s (pc' := 86) (lv1 := [(0, .ref 1), (2, bLg v2), (4, bI w1), (5, bI w2)]) (st' := [bLg v2]) l129_85 (fun _ => rfl) ?_
            refine b_s (pc' := 87) (lv1 := [(0, .ref 1), (2, bLg v2), (4, bI w1), (5, bI w2)]) (st' := [.ref 1, bLg v2]) l129_86 (fun _ => rfl) ?_
            refine b_gr l129_87 (by rfl) (by decide) (by decide) rfl (b_pc (pc' := 90) rfl ?_)
            refine b_gp (q' := ((μ 1 5).toNat + 13)) (j := 13) l129_90 (bO_ft hk (ci := 8) (by rfl) rfl) (by decide) (by decide) rfl hk rfl rfl (b_pc (pc' := 93) rfl ?_)
            refine b_s (pc' := 95) (lv1 := [(0, .ref 1), (2, bLg v2), (4, bI w1), (5, bI w2)]) (st' := [bI w2, .ref ((μ 1 5).toNat + 13), bLg v2]) l129_93 (fun _ => rfl) ?_
            refine b_g fun g13 => ?_
            refine b_lal l129_95 (bTree_v (bO_ft hk (ci := 8) (by rfl) rfl)) g13 (b_pc (pc' := 96) rfl ?_)
            refine b_cPz l129_96 rfl (fun _ => trivial) (Nat.le_of_ble_eq_true rfl) (Nat.le_of_ble_eq_true rfl) rfl (r_X10_isBelow v2 h2 (μ ((μ 1 5).toNat + 13) w2.toNat) (bO_l hk (bTree_v (bO_ft hk (ci := 8) (by rfl) rfl)))) fun w11 hw11 => b_pc (pc' := 99) rfl ?_
            refine b_zeq (pt := 106) l129_99 (bZ_R hw11) (by decide) rfl (fun c12 => ?_) (fun c12 => b_pc (pc' := 102) rfl ?_)
            · refine b_s (pc' := 107) (lv1 := [(0, .ref 1), (2, bLg v2), (4, bI w1), (5, bI w2)]) (st' := [bI 0]) l129_106 (fun _ => rfl) ?_
              exact b_retz l129_107 rfl (by decide) (hr _)
            · refine b_s (pc' := 103) (lv1 := [(0, .ref 1), (2, bLg v2), (4, bI w1), (5, bI w2)]) (st' := [bI 1]) l129_102 (fun _ => rfl) ?_
              refine b_s (pc' := 107) (lv1 := [(0, .ref 1), (2, bLg v2), (4, bI w1), (5, bI w2)]) (st' := [bI 1]) l129_103 (fun _ => rfl) ?_
              exact b_retz l129_107 rfl (by decide) (hr _)
/-! ET.covers -/
theorem l116_0 : (ax_dt (ax_T 116)).lookup 0 = some (.iconst (-1), 1, 0, 0, 0) := by decide +kernel
theorem l116_1 : (ax_dt (ax_T 116)).lookup 1 = some (.istore_n 3, 1, 0, 0, 0) := by decide +kernel
theorem l116_2 : (ax_dt (ax_T 116)).lookup 2 = some (.iconst 0, 1, 0, 0, 0) := by decide +kernel
theorem l116_3 : (ax_dt (ax_T 116)).lookup 3 = some (.istore 4, 2, 0, 0, 0) := by decide +kernel
theorem l116_5 : (ax_dt (ax_T 116)).lookup 5 = some (.iload 4, 2, 0, 0, 0) := by decide +kernel
theorem l116_7 : (ax_dt (ax_T 116)).lookup 7 = some (.aload_n 0, 1, 0, 0, 0) := by decide +kernel
theorem l116_8 : (ax_dt (ax_T 116)).lookup 8 = some (.getfield 45, 3, 8, 5, 0) := by decide +kernel
theorem l116_11 : (ax_dt (ax_T 116)).lookup 11 = some (.getfield 81, 3, 7, 1, 0) := by decide +kernel
theorem l116_14 : (ax_dt (ax_T 116)).lookup 14 = some (.if_icmp .ge 61, 3, 0, 0, 0) := by decide +kernel
theorem l116_17 : (ax_dt (ax_T 116)).lookup 17 = some (.iload_n 3, 1, 0, 0, 0) := by decide +kernel
theorem l116_18 : (ax_dt (ax_T 116)).lookup 18 = some (.iconst (-1), 1, 0, 0, 0) := by decide +kernel
theorem l116_19 : (ax_dt (ax_T 116)).lookup 19 = some (.if_icmp .eq 25, 3, 0, 0, 0) := by decide +kernel
theorem l116_22 : (ax_dt (ax_T 116)).lookup 22 = some (.aload_n 0, 1, 0, 0, 0) := by decide +kernel
theorem l116_23 : (ax_dt (ax_T 116)).lookup 23 = some (.getfield 45, 3, 8, 5, 0) := by decide +kernel
theorem l116_26 : (ax_dt (ax_T 116)).lookup 26 = some (.getfield 99, 3, 7, 6, 0) := by decide +kernel
theorem l116_29 : (ax_dt (ax_T 116)).lookup 29 = some (.iload 4, 2, 0, 0, 0) := by decide +kernel
theorem l116_31 : (ax_dt (ax_T 116)).lookup 31 = some (.iaload, 1, 0, 0, 0) := by decide +kernel
theorem l116_32 : (ax_dt (ax_T 116)).lookup 32 = some (.aload_n 0, 1, 0, 0, 0) := by decide +kernel
theorem l116_33 : (ax_dt (ax_T 116)).lookup 33 = some (.getfield 45, 3, 8, 5, 0) := by decide +kernel
theorem l116_36 : (ax_dt (ax_T 116)).lookup 36 = some (.getfield 99, 3, 7, 6, 0) := by decide +kernel
theorem l116_39 : (ax_dt (ax_T 116)).lookup 39 = some (.iload_n 3, 1, 0, 0, 0) := by decide +kernel
theorem l116_40 : (ax_dt (ax_T 116)).lookup 40 = some (.iaload, 1, 0, 0, 0) := by decide +kernel
theorem l116_41 : (ax_dt (ax_T 116)).lookup 41 = some (.if_icmp .le 7, 3, 0, 0, 0) := by decide +kernel
theorem l116_44 : (ax_dt (ax_T 116)).lookup 44 = some (.iconst 1, 1, 0, 0, 0) := by decide +kernel
theorem l116_45 : (ax_dt (ax_T 116)).lookup 45 = some (.goto 4, 3, 0, 0, 0) := by decide +kernel
theorem l116_48 : (ax_dt (ax_T 116)).lookup 48 = some (.iconst 0, 1, 0, 0, 0) := by decide +kernel
theorem l116_49 : (ax_dt (ax_T 116)).lookup 49 = some (.istore 5, 2, 0, 0, 0) := by decide +kernel
theorem l116_51 : (ax_dt (ax_T 116)).lookup 51 = some (.iload 5, 2, 0, 0, 0) := by decide +kernel
theorem l116_53 : (ax_dt (ax_T 116)).lookup 53 = some (.ifCond .eq 16, 3, 0, 0, 0) := by decide +kernel
theorem l116_56 : (ax_dt (ax_T 116)).lookup 56 = some (.aload_n 0, 1, 0, 0, 0) := by decide +kernel
theorem l116_57 : (ax_dt (ax_T 116)).lookup 57 = some (.iload 4, 2, 0, 0, 0) := by decide +kernel
theorem l116_59 : (ax_dt (ax_T 116)).lookup 59 = some (.lload_n 1, 1, 0, 0, 0) := by decide +kernel
theorem l116_60 : (ax_dt (ax_T 116)).lookup 60 = some (.invokevirtual 296, 3, 129, 2, 0) := by decide +kernel
theorem l116_63 : (ax_dt (ax_T 116)).lookup 63 = some (.ifCond .eq 6, 3, 0, 0, 0) := by decide +kernel
theorem l116_66 : (ax_dt (ax_T 116)).lookup 66 = some (.iload 4, 2, 0, 0, 0) := by decide +kernel
theorem l116_68 : (ax_dt (ax_T 116)).lookup 68 = some (.istore_n 3, 1, 0, 0, 0) := by decide +kernel
theorem l116_69 : (ax_dt (ax_T 116)).lookup 69 = some (.iinc 4 1, 3, 0, 0, 0) := by decide +kernel
theorem l116_72 : (ax_dt (ax_T 116)).lookup 72 = some (.goto (-67), 3, 0, 0, 0) := by decide +kernel
theorem l116_75 : (ax_dt (ax_T 116)).lookup 75 = some (.iload_n 3, 1, 0, 0, 0) := by decide +kernel
theorem l116_76 : (ax_dt (ax_T 116)).lookup 76 = some (.ireturn, 1, 0, 0, 0) := by decide +kernel
noncomputable def F_X10_covers_49 (v1 : Int) (v3 : Int) (v4 : Int) (y0 : Int) (μ : bM) : Option ((Int × Int) ⊕ (Int)) := if y0 = 0 then bG (bR (v4 + 1)) (some (.inl (v3, (v4 + 1)))) else (F_X10_coversAddress v4 v1 μ).bind fun w3 => if w3 = 0 then bG (bR (v4 + 1)) (some (.inl (v3, (v4 + 1)))) else bG (bR (v4 + 1)) (some (.inl (v4, (v4 + 1))))
noncomputable def F_X10_covers_44 (v1 : Int) (v3 : Int) (v4 : Int) (μ : bM) : Option ((Int × Int) ⊕ (Int)) := F_X10_covers_49 v1 v3 v4 1 μ
noncomputable def F_X10_covers_5 (v1 : Int) (μ : bM) (v3 : Int) (v4 : Int) : Option ((Int × Int) ⊕ (Int)) := if (μ (μ 1 5).toNat 1) ≤ v4 then some (.inr (v3)) else if v3 = (-1) then F_X10_covers_44 v1 v3 v4 μ else bG (0 ≤ v4 ∧ v4 < 400) (bG (0 ≤ v3 ∧ v3 < 400) (if (μ ((μ 1 5).toNat + 5) v4.toNat) ≤ (μ ((μ 1 5).toNat + 5) v3.toNat) then F_X10_covers_49 v1 v3 v4 0 μ else F_X10_covers_44 v1 v3 v4 μ))
noncomputable def F_X10_covers (v1 : Int) (μ : bM) : Option (Int) := bLoop (fun z => F_X10_covers_5 v1 μ z.1 z.2) ((-1), 0)
theorem p_X10_covers_49 {L : Nat} {xs : Nat → Int32} {d : Nat} {μ : bM} {v1 : Int} {κ : ((Int × Int) ⊕ (Int)) → Option bX} (hr : ∀ r : Int, κ (.inr r) = (bPc μ) r) (H5 : ∀ (v3 : Int) (v4 : Int), bR v3 → bR v4 → bD L xs (d + 3) 116 5 [(0, .ref 1), (1, bLg v1), (3, bI v3), (4, bI v4)] [] μ (κ (.inl (v3, v4))))  (h1 : bRL v1) {v3 : Int} (h3 : bR v3) {v4 : Int} (h4 : bR v4) {y0 : Int} (hy0 : bR y0) : bD L xs (d + 3) 116 49 [(0, .ref 1), (1, bLg v1), (3, bI v3), (4, bI v4)] [bI y0] μ ((F_X10_covers_49 v1 v3 v4 y0 μ).bind κ) := by
  unfold F_X10_covers_49
  refine bD.ok fun hk => ?_
  refine b_w (pc' := 51) (lv1 := ax_st1 [(0, .ref 1), (1, bLg v1), (3, bI v3), (4, bI v4)] 5 (bI y0)) (lv' := [(0, .ref 1), (1, bLg v1), (3, bI v3), (4, bI v4), (5, bI y0)]) (st' := []) l116_49 (fun _ => rfl) (bSb rfl (bSb rfl (bSb rfl (bSb rfl (bSb rfl bSn))))) ?_
  refine b_s (pc' := 53) (lv1 := [(0, .ref 1), (1, bLg v1), (3, bI v3), (4, bI v4), (5, bI y0)]) (st' := [bI y0]) l116_51 (fun _ => rfl) ?_
  refine b_zeq (pt := 69) l116_53 hy0 (by decide) rfl (fun c1 => ?_) (fun c1 => b_pc (pc' := 56) rfl ?_)
  · refine b_inc (lv' := [(0, .ref 1), (1, bLg v1), (3, bI v3), (4, bI (v4 + 1))]) l116_69 rfl (by decide +kernel) (bSb rfl (bSb rfl (bSb rfl (bSb rfl bSn)))) fun g2 => (b_pc (pc' := 72) rfl ?_)
    refine b_s (pc' := 5) (lv1 := [(0, .ref 1), (1, bLg v1), (3, bI v3), (4, bI (v4 + 1))]) (st' := []) l116_72 (fun _ => rfl) ?_
    refine bD.wk (lv' := [(0, .ref 1), (1, bLg v1), (3, bI v3), (4, bI (v4 + 1))]) (bSb rfl (bSb rfl (bSb rfl (bSb rfl bSn)))) ?_
    exact H5 v3 (v4 + 1) h3 g2
  · refine b_s (pc' := 57) (lv1 := [(0, .ref 1), (1, bLg v1), (3, bI v3), (4, bI v4), (5, bI y0)]) (st' := [.ref 1]) l116_56 (fun _ => rfl) ?_
    refine b_s (pc' := 59) (lv1 := [(0, .ref 1), (1, bLg v1), (3, bI v3), (4, bI v4), (5, bI y0)]) (st' := [bI v4, .ref 1]) l116_57 (fun _ => rfl) ?_
    refine b_s (pc' := 60) (lv1 := [(0, .ref 1), (1, bLg v1), (3, bI v3), (4, bI v4), (5, bI y0)]) (st' := [bLg v1, bI v4, .ref 1]) l116_59 (fun _ => rfl) ?_
    refine b_cPz l116_60 rfl (b_rc (ci := 8) (by rfl) (by decide) (by decide +kernel)) (Nat.le_of_ble_eq_true rfl) (Nat.le_of_ble_eq_true rfl) rfl (r_X10_coversAddress v4 h4 v1 h1) fun w3 hw3 => b_pc (pc' := 63) rfl ?_
    refine b_zeq (pt := 69) l116_63 (bZ_R hw3) (by decide) rfl (fun c4 => ?_) (fun c4 => b_pc (pc' := 66) rfl ?_)
    · refine b_inc (lv' := [(0, .ref 1), (1, bLg v1), (3, bI v3), (4, bI (v4 + 1))]) l116_69 rfl (by decide +kernel) (bSb rfl (bSb rfl (bSb rfl (bSb rfl bSn)))) fun g5 => (b_pc (pc' := 72) rfl ?_)
      refine b_s (pc' := 5) (lv1 := [(0, .ref 1), (1, bLg v1), (3, bI v3), (4, bI (v4 + 1))]) (st' := []) l116_72 (fun _ => rfl) ?_
      refine bD.wk (lv' := [(0, .ref 1), (1, bLg v1), (3, bI v3), (4, bI (v4 + 1))]) (bSb rfl (bSb rfl (bSb rfl (bSb rfl bSn)))) ?_
      exact H5 v3 (v4 + 1) h3 g5
    · refine b_s (pc' := 68) (lv1 := [(0, .ref 1), (1, bLg v1), (3, bI v3), (4, bI v4), (5, bI y0)]) (st' := [bI v4]) l116_66 (fun _ => rfl) ?_
      refine b_w (pc' := 69) (lv1 := ax_st1 [(0, .ref 1), (1, bLg v1), (3, bI v3), (4, bI v4), (5, bI y0)] 3 (bI v4)) (lv' := [(0, .ref 1), (1, bLg v1), (3, bI v4), (4, bI v4)]) (st' := []) l116_68 (fun _ => rfl) (bSb rfl (bSb rfl (bSb rfl (bSb rfl bSn)))) ?_
      refine b_inc (lv' := [(0, .ref 1), (1, bLg v1), (3, bI v4), (4, bI (v4 + 1))]) l116_69 rfl (by decide +kernel) (bSb rfl (bSb rfl (bSb rfl (bSb rfl bSn)))) fun g6 => (b_pc (pc' := 72) rfl ?_)
      refine b_s (pc' := 5) (lv1 := [(0, .ref 1), (1, bLg v1), (3, bI v4), (4, bI (v4 + 1))]) (st' := []) l116_72 (fun _ => rfl) ?_
      refine bD.wk (lv' := [(0, .ref 1), (1, bLg v1), (3, bI v4), (4, bI (v4 + 1))]) (bSb rfl (bSb rfl (bSb rfl (bSb rfl bSn)))) ?_
      exact H5 v4 (v4 + 1) h4 g6
theorem p_X10_covers_44 {L : Nat} {xs : Nat → Int32} {d : Nat} {μ : bM} {v1 : Int} {κ : ((Int × Int) ⊕ (Int)) → Option bX} (hr : ∀ r : Int, κ (.inr r) = (bPc μ) r) (H5 : ∀ (v3 : Int) (v4 : Int), bR v3 → bR v4 → bD L xs (d + 3) 116 5 [(0, .ref 1), (1, bLg v1), (3, bI v3), (4, bI v4)] [] μ (κ (.inl (v3, v4))))  (h1 : bRL v1) {v3 : Int} (h3 : bR v3) {v4 : Int} (h4 : bR v4) : bD L xs (d + 3) 116 44 [(0, .ref 1), (1, bLg v1), (3, bI v3), (4, bI v4)] [] μ ((F_X10_covers_44 v1 v3 v4 μ).bind κ) := by
  unfold F_X10_covers_44
  refine bD.ok fun hk => ?_
  refine b_s (pc' := 45) (lv1 := [(0, .ref 1), (1, bLg v1), (3, bI v3), (4, bI v4)]) (st' := [bI 1]) l116_44 (fun _ => rfl) ?_
  refine b_s (pc' := 49) (lv1 := [(0, .ref 1), (1, bLg v1), (3, bI v3), (4, bI v4)]) (st' := [bI 1]) l116_45 (fun _ => rfl) ?_
  refine bD.wk (lv' := [(0, .ref 1), (1, bLg v1), (3, bI v3), (4, bI v4)]) (bSb rfl (bSb rfl (bSb rfl (bSb rfl bSn)))) ?_
  exact p_X10_covers_49 hr H5 h1 h3 h4 (by decide)
theorem q_X10_covers_5 {L : Nat} {xs : Nat → Int32} {d : Nat} {μ : bM} {v1 : Int} {κ : ((Int × Int) ⊕ (Int)) → Option bX} (hr : ∀ r : Int, κ (.inr r) = (bPc μ) r) (H5 : ∀ (v3 : Int) (v4 : Int), bR v3 → bR v4 → bD L xs (d + 3) 116 5 [(0, .ref 1), (1, bLg v1), (3, bI v3), (4, bI v4)] [] μ (κ (.inl (v3, v4))))  (h1 : bRL v1) {v3 : Int} (h3 : bR v3) {v4 : Int} (h4 : bR v4) : bD L xs (d + 3) 116 5 [(0, .ref 1), (1, bLg v1), (3, bI v3), (4, bI v4)] [] μ ((F_X10_covers_5 v1 μ v3 v4).bind κ) := by
  unfold F_X10_covers_5
  refine bD.ok fun hk => ?_
  refine b_s (pc' := 7) (lv1 := [(0, .ref 1), (1, bLg v1), (3, bI v3), (4, bI v4)]) (st' := [bI v4]) l116_5 (fun _ => rfl) ?_
  refine b_s (pc' := 8) (lv1 := [(0, .ref 1), (1, bLg v1), (3, bI v3), (4, bI v4)]) (st' := [.ref 1, bI v4]) l116_7 (fun _ => rfl) ?_
  refine b_gr l116_8 (by rfl) (by decide) (by decide) rfl (b_pc (pc' := 11) rfl ?_)
  refine b_gi l116_11 (bO_ft hk (ci := 8) (by rfl) rfl) (by decide) (by decide) rfl (b_pc (pc' := 14) rfl ?_)
  refine b_ige (pt := 75) l116_14 h4 (bO_f hk (ci := 7) (bO_ft hk (ci := 8) (by rfl) rfl) rfl) (by decide) rfl (fun c1 => ?_) (fun c1 => b_pc (pc' := 17) rfl ?_)
  · refine b_s (pc' := 76) (lv1 := [(0, .ref 1), (1, bLg v1), (3, bI v3), (4, bI v4)]) (st' := [bI v3]) l116_75 (fun _ => rfl) ?_
    exact b_reti l116_76 rfl h3 (hr _)
  · refine b_s (pc' := 18) (lv1 := [(0, .ref 1), (1, bLg v1), (3, bI v3), (4, bI v4)]) (st' := [bI v3]) l116_17 (fun _ => rfl) ?_
    refine b_s (pc' := 19) (lv1 := [(0, .ref 1), (1, bLg v1), (3, bI v3), (4, bI v4)]) (st' := [bI (-1), bI v3]) l116_18 (fun _ => rfl) ?_
    refine b_ieq (pt := 44) l116_19 h3 (by decide) (by decide) rfl (fun c2 => ?_) (fun c2 => b_pc (pc' := 22) rfl ?_)
    · refine bD.wk (lv' := [(0, .ref 1), (1, bLg v1), (3, bI v3), (4, bI v4)]) (bSb rfl (bSb rfl (bSb rfl (bSb rfl bSn)))) ?_
      exact p_X10_covers_44 hr H5 h1 h3 h4
    · refine b_s (pc' := 23) (lv1 := [(0, .ref 1), (1, bLg v1), (3, bI v3), (4, bI v4)]) (st' := [.ref 1]) l116_22 (fun _ => rfl) ?_
      refine b_gr l116_23 (by rfl) (by decide) (by decide) rfl (b_pc (pc' := 26) rfl ?_)
      refine b_gp (q' := ((μ 1 5).toNat + 5)) (j := 5) l116_26 (bO_ft hk (ci := 8) (by rfl) rfl) (by decide) (by decide) rfl hk rfl rfl (b_pc (pc' := 29) rfl ?_)
      refine b_s (pc' := 31) (lv1 := [(0, .ref 1), (1, bLg v1), (3, bI v3), (4, bI v4)]) (st' := [bI v4, .ref ((μ 1 5).toNat + 5)]) l116_29 (fun _ => rfl) ?_
      refine b_g fun g5 => ?_
      refine b_ial l116_31 (bTree_e (bO_ft hk (ci := 8) (by rfl) rfl) 5 (by decide)) g5 (b_pc (pc' := 32) rfl ?_)
      refine b_s (pc' := 33) (lv1 := [(0, .ref 1), (1, bLg v1), (3, bI v3), (4, bI v4)]) (st' := [.ref 1, bI (μ ((μ 1 5).toNat + 5) v4.toNat)]) l116_32 (fun _ => rfl) ?_
      refine b_gr l116_33 (by rfl) (by decide) (by decide) rfl (b_pc (pc' := 36) rfl ?_)
      refine b_gp (q' := ((μ 1 5).toNat + 5)) (j := 5) l116_36 (bO_ft hk (ci := 8) (by rfl) rfl) (by decide) (by decide) rfl hk rfl rfl (b_pc (pc' := 39) rfl ?_)
      refine b_s (pc' := 40) (lv1 := [(0, .ref 1), (1, bLg v1), (3, bI v3), (4, bI v4)]) (st' := [bI v3, .ref ((μ 1 5).toNat + 5), bI (μ ((μ 1 5).toNat + 5) v4.toNat)]) l116_39 (fun _ => rfl) ?_
      refine b_g fun g4 => ?_
      refine b_ial l116_40 (bTree_e (bO_ft hk (ci := 8) (by rfl) rfl) 5 (by decide)) g4 (b_pc (pc' := 41) rfl ?_)
      refine b_ile (pt := 48) l116_41 (bO_i hk (bTree_e (bO_ft hk (ci := 8) (by rfl) rfl) 5 (by decide))) (bO_i hk (bTree_e (bO_ft hk (ci := 8) (by rfl) rfl) 5 (by decide))) (by decide) rfl (fun c3 => ?_) (fun c3 => b_pc (pc' := 44) rfl ?_)
      · refine b_s (pc' := 49) (lv1 := [(0, .ref 1), (1, bLg v1), (3, bI v3), (4, bI v4)]) (st' := [bI 0]) l116_48 (fun _ => rfl) ?_
        refine bD.wk (lv' := [(0, .ref 1), (1, bLg v1), (3, bI v3), (4, bI v4)]) (bSb rfl (bSb rfl (bSb rfl (bSb rfl bSn)))) ?_
        exact p_X10_covers_49 hr H5 h1 h3 h4 (by decide)
      · refine bD.wk (lv' := [(0, .ref 1), (1, bLg v1), (3, bI v3), (4, bI v4)]) (bSb rfl (bSb rfl (bSb rfl (bSb rfl bSn)))) ?_
        exact p_X10_covers_44 hr H5 h1 h3 h4
theorem p_X10_covers_5 {L : Nat} {xs : Nat → Int32} {d : Nat} {μ : bM}  {κ : (Int) → Option bX} (hr : ∀ r : Int, κ r = (bPc μ) r)  {v1 : Int} (h1 : bRL v1) {v3 : Int} (h3 : bR v3) {v4 : Int} (h4 : bR v4) : bD L xs (d + 3) 116 5 [(0, .ref 1), (1, bLg v1), (3, bI v3), (4, bI v4)] [] μ ((bLoop (fun z => F_X10_covers_5 v1 μ z.1 z.2) (v3, v4)).bind κ) :=
  b_loop (fun z => [(0, .ref 1), (1, bLg v1), (3, bI z.1), (4, bI z.2)]) (fun z => μ) (fun z => bR z.1 ∧ bR z.2) (fun κ' hκ HH z hz => q_X10_covers_5 (κ := κ') (fun r => (hκ _).trans (hr r)) (fun a3 a4 b3 b4 => HH (a3, a4) ⟨b3, b4⟩)  h1 hz.1 hz.2) (v3, v4) ⟨h3, h4⟩
theorem r_X10_covers {L : Nat} {xs : Nat → Int32} {d : Nat} {μ : bM}  (v1 : Int) (h1 : bRL v1) : bD L xs (d + 3) 116 0 [(0, .ref 1), (1, bLg v1)] [] μ ((F_X10_covers v1 μ).bind (bPc μ)) := by
  have hr : ∀ r, (bPc μ) r = (bPc μ) r := fun _ => rfl
  unfold F_X10_covers
  refine bD.ok fun hk => ?_
  refine b_s (pc' := 1) (lv1 := [(0, .ref 1), (1, bLg v1)]) (st' := [bI (-1)]) l116_0 (fun _ => rfl) ?_
  refine b_w (pc' := 2) (lv1 := ax_st1 [(0, .ref 1), (1, bLg v1)] 3 (bI (-1))) (lv' := [(0, .ref 1), (1, bLg v1), (3, bI (-1))]) (st' := []) l116_1 (fun _ => rfl) (bSb rfl (bSb rfl (bSb rfl bSn))) ?_
  refine b_s (pc' := 3) (lv1 := [(0, .ref 1), (1, bLg v1), (3, bI (-1))]) (st' := [bI 0]) l116_2 (fun _ => rfl) ?_
  refine b_w (pc' := 5) (lv1 := ax_st1 [(0, .ref 1), (1, bLg v1), (3, bI (-1))] 4 (bI 0)) (lv' := [(0, .ref 1), (1, bLg v1), (3, bI (-1)), (4, bI 0)]) (st' := []) l116_3 (fun _ => rfl) (bSb rfl (bSb rfl (bSb rfl (bSb rfl bSn)))) ?_
  refine bD.wk (lv' := [(0, .ref 1), (1, bLg v1), (3, bI (-1)), (4, bI 0)]) (bSb rfl (bSb rfl (bSb rfl (bSb rfl bSn)))) ?_
  exact p_X10_covers_5 hr h1 (by decide) (by decide)
end
