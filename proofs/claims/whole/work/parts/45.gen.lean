section
/-! ET$Reader.readHeader -/
theorem l41_0 : (ax_dt (ax_T 41)).lookup 0 = some (.aload_n 0, 1, 0, 0, 0) := by decide +kernel
theorem l41_1 : (ax_dt (ax_T 41)).lookup 1 = some (.getfield 21, 3, 3, 1, 0) := by decide +kernel
theorem l41_4 : (ax_dt (ax_T 41)).lookup 4 = some (.iconst 4, 1, 0, 0, 0) := by decide +kernel
theorem l41_5 : (ax_dt (ax_T 41)).lookup 5 = some (.invokevirtual 100, 3, 10, 1, 0) := by decide +kernel
theorem l41_8 : (ax_dt (ax_T 41)).lookup 8 = some (.lstore_n 3, 1, 0, 0, 0) := by decide +kernel
theorem l41_9 : (ax_dt (ax_T 41)).lookup 9 = some (.lload_n 3, 1, 0, 0, 0) := by decide +kernel
theorem l41_10 : (ax_dt (ax_T 41)).lookup 10 = some (.aload_n 0, 1, 0, 0, 0) := by decide +kernel
theorem l41_11 : (ax_dt (ax_T 41)).lookup 11 = some (.getfield 21, 3, 3, 1, 0) := by decide +kernel
theorem l41_14 : (ax_dt (ax_T 41)).lookup 14 = some (.getfield 76, 3, 1, 1, 0) := by decide +kernel
theorem l41_17 : (ax_dt (ax_T 41)).lookup 17 = some (.aload_n 0, 1, 0, 0, 0) := by decide +kernel
theorem l41_18 : (ax_dt (ax_T 41)).lookup 18 = some (.getfield 21, 3, 3, 1, 0) := by decide +kernel
theorem l41_21 : (ax_dt (ax_T 41)).lookup 21 = some (.getfield 90, 3, 1, 0, 0) := by decide +kernel
theorem l41_24 : (ax_dt (ax_T 41)).lookup 24 = some (.isub, 1, 0, 0, 0) := by decide +kernel
theorem l41_25 : (ax_dt (ax_T 41)).lookup 25 = some (.i2l, 1, 0, 0, 0) := by decide +kernel
theorem l41_26 : (ax_dt (ax_T 41)).lookup 26 = some (.lcmp, 1, 0, 0, 0) := by decide +kernel
theorem l41_27 : (ax_dt (ax_T 41)).lookup 27 = some (.ifCond .le 12, 3, 0, 0, 0) := by decide +kernel
theorem l41_30 : (ax_dt (ax_T 41)).lookup 30 = some (.aload_n 0, 1, 0, 0, 0) := by decide +kernel
theorem l41_31 : (ax_dt (ax_T 41)).lookup 31 = some (.getfield 21, 3, 3, 1, 0) := by decide +kernel
theorem l41_34 : (ax_dt (ax_T 41)).lookup 34 = some (.iconst 2, 1, 0, 0, 0) := by decide +kernel
theorem l41_35 : (ax_dt (ax_T 41)).lookup 35 = some (.iload_n 2, 1, 0, 0, 0) := by decide +kernel
theorem l41_36 : (ax_dt (ax_T 41)).lookup 36 = some (.invokevirtual 68, 3, 9, 2, 0) := by decide +kernel
theorem l41_39 : (ax_dt (ax_T 41)).lookup 39 = some (.aload_n 0, 1, 0, 0, 0) := by decide +kernel
theorem l41_40 : (ax_dt (ax_T 41)).lookup 40 = some (.getfield 21, 3, 3, 1, 0) := by decide +kernel
theorem l41_43 : (ax_dt (ax_T 41)).lookup 43 = some (.aload_n 0, 1, 0, 0, 0) := by decide +kernel
theorem l41_44 : (ax_dt (ax_T 41)).lookup 44 = some (.getfield 21, 3, 3, 1, 0) := by decide +kernel
theorem l41_47 : (ax_dt (ax_T 41)).lookup 47 = some (.getfield 90, 3, 1, 0, 0) := by decide +kernel
theorem l41_50 : (ax_dt (ax_T 41)).lookup 50 = some (.lload_n 3, 1, 0, 0, 0) := by decide +kernel
theorem l41_51 : (ax_dt (ax_T 41)).lookup 51 = some (.l2i, 1, 0, 0, 0) := by decide +kernel
theorem l41_52 : (ax_dt (ax_T 41)).lookup 52 = some (.iadd, 1, 0, 0, 0) := by decide +kernel
theorem l41_53 : (ax_dt (ax_T 41)).lookup 53 = some (.putfield 76, 3, 1, 1, 0) := by decide +kernel
theorem l41_56 : (ax_dt (ax_T 41)).lookup 56 = some (.aload_n 0, 1, 0, 0, 0) := by decide +kernel
theorem l41_57 : (ax_dt (ax_T 41)).lookup 57 = some (.getfield 21, 3, 3, 1, 0) := by decide +kernel
theorem l41_60 : (ax_dt (ax_T 41)).lookup 60 = some (.getfield 90, 3, 1, 0, 0) := by decide +kernel
theorem l41_63 : (ax_dt (ax_T 41)).lookup 63 = some (.istore 5, 2, 0, 0, 0) := by decide +kernel
theorem l41_65 : (ax_dt (ax_T 41)).lookup 65 = some (.aload_n 0, 1, 0, 0, 0) := by decide +kernel
theorem l41_66 : (ax_dt (ax_T 41)).lookup 66 = some (.getfield 21, 3, 3, 1, 0) := by decide +kernel
theorem l41_69 : (ax_dt (ax_T 41)).lookup 69 = some (.iconst 2, 1, 0, 0, 0) := by decide +kernel
theorem l41_70 : (ax_dt (ax_T 41)).lookup 70 = some (.invokevirtual 100, 3, 10, 1, 0) := by decide +kernel
theorem l41_73 : (ax_dt (ax_T 41)).lookup 73 = some (.ldc2_w 104, 3, 0, 0, 4) := by decide +kernel
theorem l41_76 : (ax_dt (ax_T 41)).lookup 76 = some (.lcmp, 1, 0, 0, 0) := by decide +kernel
theorem l41_77 : (ax_dt (ax_T 41)).lookup 77 = some (.ifCond .eq 13, 3, 0, 0, 0) := by decide +kernel
theorem l41_80 : (ax_dt (ax_T 41)).lookup 80 = some (.aload_n 0, 1, 0, 0, 0) := by decide +kernel
theorem l41_81 : (ax_dt (ax_T 41)).lookup 81 = some (.getfield 21, 3, 3, 1, 0) := by decide +kernel
theorem l41_84 : (ax_dt (ax_T 41)).lookup 84 = some (.iconst 2, 1, 0, 0, 0) := by decide +kernel
theorem l41_85 : (ax_dt (ax_T 41)).lookup 85 = some (.iload 5, 2, 0, 0, 0) := by decide +kernel
theorem l41_87 : (ax_dt (ax_T 41)).lookup 87 = some (.invokevirtual 68, 3, 9, 2, 0) := by decide +kernel
theorem l41_90 : (ax_dt (ax_T 41)).lookup 90 = some (.aload_n 0, 1, 0, 0, 0) := by decide +kernel
theorem l41_91 : (ax_dt (ax_T 41)).lookup 91 = some (.getfield 21, 3, 3, 1, 0) := by decide +kernel
theorem l41_94 : (ax_dt (ax_T 41)).lookup 94 = some (.getfield 90, 3, 1, 0, 0) := by decide +kernel
theorem l41_97 : (ax_dt (ax_T 41)).lookup 97 = some (.istore 5, 2, 0, 0, 0) := by decide +kernel
theorem l41_99 : (ax_dt (ax_T 41)).lookup 99 = some (.aload_n 0, 1, 0, 0, 0) := by decide +kernel
theorem l41_100 : (ax_dt (ax_T 41)).lookup 100 = some (.getfield 21, 3, 3, 1, 0) := by decide +kernel
theorem l41_103 : (ax_dt (ax_T 41)).lookup 103 = some (.iconst 4, 1, 0, 0, 0) := by decide +kernel
theorem l41_104 : (ax_dt (ax_T 41)).lookup 104 = some (.invokevirtual 100, 3, 10, 1, 0) := by decide +kernel
theorem l41_107 : (ax_dt (ax_T 41)).lookup 107 = some (.lstore 6, 2, 0, 0, 0) := by decide +kernel
theorem l41_109 : (ax_dt (ax_T 41)).lookup 109 = some (.lload 6, 2, 0, 0, 0) := by decide +kernel
theorem l41_111 : (ax_dt (ax_T 41)).lookup 111 = some (.aload_n 1, 1, 0, 0, 0) := by decide +kernel
theorem l41_112 : (ax_dt (ax_T 41)).lookup 112 = some (.getfield 79, 3, 4, 1, 0) := by decide +kernel
theorem l41_115 : (ax_dt (ax_T 41)).lookup 115 = some (.invokevirtual 58, 3, 52, 0, 0) := by decide +kernel
theorem l41_118 : (ax_dt (ax_T 41)).lookup 118 = some (.i2l, 1, 0, 0, 0) := by decide +kernel
theorem l41_119 : (ax_dt (ax_T 41)).lookup 119 = some (.lcmp, 1, 0, 0, 0) := by decide +kernel
theorem l41_120 : (ax_dt (ax_T 41)).lookup 120 = some (.ifCond .le 13, 3, 0, 0, 0) := by decide +kernel
theorem l41_123 : (ax_dt (ax_T 41)).lookup 123 = some (.aload_n 0, 1, 0, 0, 0) := by decide +kernel
theorem l41_124 : (ax_dt (ax_T 41)).lookup 124 = some (.getfield 21, 3, 3, 1, 0) := by decide +kernel
theorem l41_127 : (ax_dt (ax_T 41)).lookup 127 = some (.iconst 2, 1, 0, 0, 0) := by decide +kernel
theorem l41_128 : (ax_dt (ax_T 41)).lookup 128 = some (.iload 5, 2, 0, 0, 0) := by decide +kernel
theorem l41_130 : (ax_dt (ax_T 41)).lookup 130 = some (.invokevirtual 68, 3, 9, 2, 0) := by decide +kernel
theorem l41_133 : (ax_dt (ax_T 41)).lookup 133 = some (.aload_n 0, 1, 0, 0, 0) := by decide +kernel
theorem l41_134 : (ax_dt (ax_T 41)).lookup 134 = some (.getfield 21, 3, 3, 1, 0) := by decide +kernel
theorem l41_137 : (ax_dt (ax_T 41)).lookup 137 = some (.getfield 90, 3, 1, 0, 0) := by decide +kernel
theorem l41_140 : (ax_dt (ax_T 41)).lookup 140 = some (.istore 5, 2, 0, 0, 0) := by decide +kernel
theorem l41_142 : (ax_dt (ax_T 41)).lookup 142 = some (.aload_n 0, 1, 0, 0, 0) := by decide +kernel
theorem l41_143 : (ax_dt (ax_T 41)).lookup 143 = some (.getfield 21, 3, 3, 1, 0) := by decide +kernel
theorem l41_146 : (ax_dt (ax_T 41)).lookup 146 = some (.iconst 1, 1, 0, 0, 0) := by decide +kernel
theorem l41_147 : (ax_dt (ax_T 41)).lookup 147 = some (.invokevirtual 100, 3, 10, 1, 0) := by decide +kernel
theorem l41_150 : (ax_dt (ax_T 41)).lookup 150 = some (.ldc2_w 106, 3, 0, 0, 8) := by decide +kernel
theorem l41_153 : (ax_dt (ax_T 41)).lookup 153 = some (.lcmp, 1, 0, 0, 0) := by decide +kernel
theorem l41_154 : (ax_dt (ax_T 41)).lookup 154 = some (.ifCond .eq 13, 3, 0, 0, 0) := by decide +kernel
theorem l41_157 : (ax_dt (ax_T 41)).lookup 157 = some (.aload_n 0, 1, 0, 0, 0) := by decide +kernel
theorem l41_158 : (ax_dt (ax_T 41)).lookup 158 = some (.getfield 21, 3, 3, 1, 0) := by decide +kernel
theorem l41_161 : (ax_dt (ax_T 41)).lookup 161 = some (.iconst 2, 1, 0, 0, 0) := by decide +kernel
theorem l41_162 : (ax_dt (ax_T 41)).lookup 162 = some (.iload 5, 2, 0, 0, 0) := by decide +kernel
theorem l41_164 : (ax_dt (ax_T 41)).lookup 164 = some (.invokevirtual 68, 3, 9, 2, 0) := by decide +kernel
theorem l41_167 : (ax_dt (ax_T 41)).lookup 167 = some (.lload 6, 2, 0, 0, 0) := by decide +kernel
theorem l41_169 : (ax_dt (ax_T 41)).lookup 169 = some (.l2i, 1, 0, 0, 0) := by decide +kernel
theorem l41_170 : (ax_dt (ax_T 41)).lookup 170 = some (.ireturn, 1, 0, 0, 0) := by decide +kernel
noncomputable def F_X4_readHeader_133 (v6 : Int) (μ : bM) : Option ((Int ⊕ String) × bM) := bXm (F_X1_lowFirst 1 μ) (fun w1 μ2 => if (bCmp w1 8) = 0 then some (.inl (b32 v6), μ2) else bXm (F_X1_refuse 2 (μ 46 0) μ2) (fun w5 μ6 => some (.inl (b32 v6), μ6)) (fun e μ => some (.inr e, μ))) (fun e μ => some (.inr e, μ))
noncomputable def F_X4_readHeader_90 (μ : bM) : Option ((Int ⊕ String) × bM) := bXm (F_X1_lowFirst 4 μ) (fun w1 μ2 => (F_X6_used 9 μ2).bind fun w4 => if (bCmp w1 w4) ≤ 0 then F_X4_readHeader_133 w1 μ2 else bXm (F_X1_refuse 2 (μ 46 0) μ2) (fun w6 μ7 => F_X4_readHeader_133 w1 μ7) (fun e μ => some (.inr e, μ))) (fun e μ => some (.inr e, μ))
noncomputable def F_X4_readHeader_39 (v3 : Int) (μ : bM) : Option ((Int ⊕ String) × bM) := bG (bR ((μ 46 0) + (b32 v3))) (bXm (F_X1_lowFirst 2 (bset μ 46 1 ((μ 46 0) + (b32 v3)))) (fun w3 μ4 => if (bCmp w3 4) = 0 then F_X4_readHeader_90 μ4 else bXm (F_X1_refuse 2 ((bset μ 46 1 ((μ 46 0) + (b32 v3))) 46 0) μ4) (fun w7 μ8 => F_X4_readHeader_90 μ8) (fun e μ => some (.inr e, μ))) (fun e μ => some (.inr e, μ)))
noncomputable def F_X4_readHeader (v2 : Int) (μ : bM) : Option ((Int ⊕ String) × bM) := bXm (F_X1_lowFirst 4 μ) (fun w1 μ2 => bG (bR ((μ2 46 1) - (μ2 46 0))) (if (bCmp w1 ((μ2 46 1) - (μ2 46 0))) ≤ 0 then F_X4_readHeader_39 w1 μ2 else bXm (F_X1_refuse 2 v2 μ2) (fun w6 μ7 => F_X4_readHeader_39 w1 μ7) (fun e μ => some (.inr e, μ)))) (fun e μ => some (.inr e, μ))
theorem p_X4_readHeader_133 {L : Nat} {xs : Nat → Int32} {d : Nat} {μ : bM}  {κ : ((Int ⊕ String) × bM) → Option bX} (hr : ∀ r : (Int ⊕ String) × bM, κ r = (bXc) r)  {v6 : Int} (h6 : bRL v6) : bD L xs (d + 2) 41 133 [(0, .ref 30), (6, bLg v6)] [] μ ((F_X4_readHeader_133 v6 μ).bind κ) := by
  unfold F_X4_readHeader_133
  refine bD.ok fun hk => ?_
  refine b_s (pc' := 134) (lv1 := [(0, .ref 30), (6, bLg v6)]) (st' := [.ref 30]) l41_133 (fun _ => rfl) ?_
  refine b_gp (q' := 46) (j := 16) l41_134 (by rfl) (by decide) (by decide) rfl hk rfl rfl (b_pc (pc' := 137) rfl ?_)
  refine b_gi l41_137 (by rfl) (by decide) (by decide) rfl (b_pc (pc' := 140) rfl ?_)
  refine b_w (pc' := 142) (lv1 := ax_st1 [(0, .ref 30), (6, bLg v6)] 5 (bI (μ 46 0))) (lv' := [(0, .ref 30), (5, bI (μ 46 0)), (6, bLg v6)]) (st' := []) l41_140 (fun _ => rfl) (bSb rfl (bSb rfl (bSb rfl bSn))) ?_
  refine b_s (pc' := 143) (lv1 := [(0, .ref 30), (5, bI (μ 46 0)), (6, bLg v6)]) (st' := [.ref 30]) l41_142 (fun _ => rfl) ?_
  refine b_gp (q' := 46) (j := 16) l41_143 (by rfl) (by decide) (by decide) rfl hk rfl rfl (b_pc (pc' := 146) rfl ?_)
  refine b_s (pc' := 147) (lv1 := [(0, .ref 30), (5, bI (μ 46 0)), (6, bLg v6)]) (st' := [bI 1, .ref 46]) l41_146 (fun _ => rfl) ?_
  refine b_cXl l41_147 rfl (b_rc (ci := 1) (by rfl) (by decide) (by decide +kernel)) (Nat.le_of_ble_eq_true rfl) (Nat.le_of_ble_eq_true rfl) rfl (r_X1_lowFirst 1 (by decide)) ⟨fun _ z => (by cases z), (by decide +kernel)⟩ rfl (fun _ _ => hr _) fun w1 μ2 hw1 => bD.ok fun hk3 => b_pc (pc' := 150) rfl ?_
  refine b_s (pc' := 153) (lv1 := [(0, .ref 30), (5, bI (μ 46 0)), (6, bLg v6)]) (st' := [bLg 8, bLg w1]) l41_150 (fun _ => rfl) ?_
  refine b_lcmp l41_153 hw1 (by decide) (b_pc (pc' := 154) rfl ?_)
  refine b_zeq (pt := 167) l41_154 (bCmp_R _ _) (by decide) rfl (fun c4 => ?_) (fun c4 => b_pc (pc' := 157) rfl ?_)
  · refine b_s (pc' := 169) (lv1 := [(0, .ref 30), (5, bI (μ 46 0)), (6, bLg v6)]) (st' := [bLg v6]) l41_167 (fun _ => rfl) ?_
    refine b_l2i l41_169 (b_pc (pc' := 170) rfl ?_)
    exact b_reti l41_170 rfl (b32_R _) (hr _)
  · refine b_s (pc' := 158) (lv1 := [(0, .ref 30), (5, bI (μ 46 0)), (6, bLg v6)]) (st' := [.ref 30]) l41_157 (fun _ => rfl) ?_
    refine b_gp (q' := 46) (j := 16) l41_158 (by rfl) (by decide) (by decide) rfl hk3 rfl rfl (b_pc (pc' := 161) rfl ?_)
    refine b_s (pc' := 162) (lv1 := [(0, .ref 30), (5, bI (μ 46 0)), (6, bLg v6)]) (st' := [bI 2, .ref 46]) l41_161 (fun _ => rfl) ?_
    refine b_s (pc' := 164) (lv1 := [(0, .ref 30), (5, bI (μ 46 0)), (6, bLg v6)]) (st' := [bI (μ 46 0), bI 2, .ref 46]) l41_162 (fun _ => rfl) ?_
    refine b_cXv l41_164 rfl (b_rc (ci := 1) (by rfl) (by decide) (by decide +kernel)) (Nat.le_of_ble_eq_true rfl) (Nat.le_of_ble_eq_true rfl) rfl (r_X1_refuse 2 (by decide) (μ 46 0) (bO_f hk (ci := 1) (by rfl) rfl)) ⟨fun _ z => (by cases z), (by decide +kernel)⟩ rfl (fun _ _ => hr _) fun w5 μ6 hw5 => bD.ok fun hk7 => b_pc (pc' := 167) rfl ?_
    refine b_s (pc' := 169) (lv1 := [(0, .ref 30), (5, bI (μ 46 0)), (6, bLg v6)]) (st' := [bLg v6]) l41_167 (fun _ => rfl) ?_
    refine b_l2i l41_169 (b_pc (pc' := 170) rfl ?_)
    exact b_reti l41_170 rfl (b32_R _) (hr _)
theorem p_X4_readHeader_90 {L : Nat} {xs : Nat → Int32} {d : Nat} {μ : bM}  {κ : ((Int ⊕ String) × bM) → Option bX} (hr : ∀ r : (Int ⊕ String) × bM, κ r = (bXc) r)   : bD L xs (d + 2) 41 90 [(0, .ref 30), (1, .ref 6)] [] μ ((F_X4_readHeader_90 μ).bind κ) := by
  unfold F_X4_readHeader_90
  refine bD.ok fun hk => ?_
  refine b_s (pc' := 91) (lv1 := [(0, .ref 30), (1, .ref 6)]) (st' := [.ref 30]) l41_90 (fun _ => rfl) ?_
  refine b_gp (q' := 46) (j := 16) l41_91 (by rfl) (by decide) (by decide) rfl hk rfl rfl (b_pc (pc' := 94) rfl ?_)
  refine b_gi l41_94 (by rfl) (by decide) (by decide) rfl (b_pc (pc' := 97) rfl ?_)
  refine b_w (pc' := 99) (lv1 := ax_st1 [(0, .ref 30), (1, .ref 6)] 5 (bI (μ 46 0))) (lv' := [(0, .ref 30), (1, .ref 6), (5, bI (μ 46 0))]) (st' := []) l41_97 (fun _ => rfl) (bSb rfl (bSb rfl (bSb rfl bSn))) ?_
  refine b_s (pc' := 100) (lv1 := [(0, .ref 30), (1, .ref 6), (5, bI (μ 46 0))]) (st' := [.ref 30]) l41_99 (fun _ => rfl) ?_
  refine b_gp (q' := 46) (j := 16) l41_100 (by rfl) (by decide) (by decide) rfl hk rfl rfl (b_pc (pc' := 103) rfl ?_)
  refine b_s (pc' := 104) (lv1 := [(0, .ref 30), (1, .ref 6), (5, bI (μ 46 0))]) (st' := [bI 4, .ref 46]) l41_103 (fun _ => rfl) ?_
  refine b_cXl l41_104 rfl (b_rc (ci := 1) (by rfl) (by decide) (by decide +kernel)) (Nat.le_of_ble_eq_true rfl) (Nat.le_of_ble_eq_true rfl) rfl (r_X1_lowFirst 4 (by decide)) ⟨fun _ z => (by cases z), (by decide +kernel)⟩ rfl (fun _ _ => hr _) fun w1 μ2 hw1 => bD.ok fun hk3 => b_pc (pc' := 107) rfl ?_
  refine b_w (pc' := 109) (lv1 := ax_st2 [(0, .ref 30), (1, .ref 6), (5, bI (μ 46 0))] 6 (bLg w1)) (lv' := [(0, .ref 30), (1, .ref 6), (5, bI (μ 46 0)), (6, bLg w1)]) (st' := []) l41_107 (fun _ => rfl) (bSb rfl (bSb rfl (bSb rfl (bSb rfl bSn)))) ?_
  refine b_s (pc' := 111) (lv1 := [(0, .ref 30), (1, .ref 6), (5, bI (μ 46 0)), (6, bLg w1)]) (st' := [bLg w1]) l41_109 (fun _ => rfl) ?_
  refine b_s (pc' := 112) (lv1 := [(0, .ref 30), (1, .ref 6), (5, bI (μ 46 0)), (6, bLg w1)]) (st' := [.ref 6, bLg w1]) l41_111 (fun _ => rfl) ?_
  refine b_gp (q' := 9) (j := 3) l41_112 (by rfl) (by decide) (by decide) rfl hk3 rfl rfl (b_pc (pc' := 115) rfl ?_)
  refine b_cPi l41_115 rfl (b_rc (ci := 5) (by rfl) (by decide) (by decide +kernel)) (Nat.le_of_ble_eq_true rfl) (Nat.le_of_ble_eq_true rfl) rfl (r_X6_used 9 (by rfl)) fun w4 hw4 => b_pc (pc' := 118) rfl ?_
  refine b_i2l l41_118 hw4 (b_pc (pc' := 119) rfl ?_)
  refine b_lcmp l41_119 hw1 (bR_L hw4) (b_pc (pc' := 120) rfl ?_)
  refine b_zle (pt := 133) l41_120 (bCmp_R _ _) (by decide) rfl (fun c5 => ?_) (fun c5 => b_pc (pc' := 123) rfl ?_)
  · refine bD.wk (lv' := [(0, .ref 30), (6, bLg w1)]) (bSb rfl (bSb rfl bSn)) ?_
    exact p_X4_readHeader_133 hr hw1
  · refine b_s (pc' := 124) (lv1 := [(0, .ref 30), (1, .ref 6), (5, bI (μ 46 0)), (6, bLg w1)]) (st' := [.ref 30]) l41_123 (fun _ => rfl) ?_
    refine b_gp (q' := 46) (j := 16) l41_124 (by rfl) (by decide) (by decide) rfl hk3 rfl rfl (b_pc (pc' := 127) rfl ?_)
    refine b_s (pc' := 128) (lv1 := [(0, .ref 30), (1, .ref 6), (5, bI (μ 46 0)), (6, bLg w1)]) (st' := [bI 2, .ref 46]) l41_127 (fun _ => rfl) ?_
    refine b_s (pc' := 130) (lv1 := [(0, .ref 30), (1, .ref 6), (5, bI (μ 46 0)), (6, bLg w1)]) (st' := [bI (μ 46 0), bI 2, .ref 46]) l41_128 (fun _ => rfl) ?_
    refine b_cXv l41_130 rfl (b_rc (ci := 1) (by rfl) (by decide) (by decide +kernel)) (Nat.le_of_ble_eq_true rfl) (Nat.le_of_ble_eq_true rfl) rfl (r_X1_refuse 2 (by decide) (μ 46 0) (bO_f hk (ci := 1) (by rfl) rfl)) ⟨fun _ z => (by cases z), (by decide +kernel)⟩ rfl (fun _ _ => hr _) fun w6 μ7 hw6 => bD.ok fun hk8 => b_pc (pc' := 133) rfl ?_
    refine bD.wk (lv' := [(0, .ref 30), (6, bLg w1)]) (bSb rfl (bSb rfl bSn)) ?_
    exact p_X4_readHeader_133 hr hw1
theorem p_X4_readHeader_39 {L : Nat} {xs : Nat → Int32} {d : Nat} {μ : bM}  {κ : ((Int ⊕ String) × bM) → Option bX} (hr : ∀ r : (Int ⊕ String) × bM, κ r = (bXc) r)  {v3 : Int} (h3 : bRL v3) : bD L xs (d + 2) 41 39 [(0, .ref 30), (1, .ref 6), (3, bLg v3)] [] μ ((F_X4_readHeader_39 v3 μ).bind κ) := by
  unfold F_X4_readHeader_39
  refine bD.ok fun hk => ?_
  refine b_s (pc' := 40) (lv1 := [(0, .ref 30), (1, .ref 6), (3, bLg v3)]) (st' := [.ref 30]) l41_39 (fun _ => rfl) ?_
  refine b_gp (q' := 46) (j := 16) l41_40 (by rfl) (by decide) (by decide) rfl hk rfl rfl (b_pc (pc' := 43) rfl ?_)
  refine b_s (pc' := 44) (lv1 := [(0, .ref 30), (1, .ref 6), (3, bLg v3)]) (st' := [.ref 30, .ref 46]) l41_43 (fun _ => rfl) ?_
  refine b_gp (q' := 46) (j := 16) l41_44 (by rfl) (by decide) (by decide) rfl hk rfl rfl (b_pc (pc' := 47) rfl ?_)
  refine b_gi l41_47 (by rfl) (by decide) (by decide) rfl (b_pc (pc' := 50) rfl ?_)
  refine b_s (pc' := 51) (lv1 := [(0, .ref 30), (1, .ref 6), (3, bLg v3)]) (st' := [bLg v3, bI (μ 46 0), .ref 46]) l41_50 (fun _ => rfl) ?_
  refine b_l2i l41_51 (b_pc (pc' := 52) rfl ?_)
  refine b_iadd l41_52 fun g1 => (b_pc (pc' := 53) rfl ?_)
  refine b_pi l41_53 (by rfl) (by decide) (by decide) rfl rfl g1 (bD.ok fun hk2 => b_pc (pc' := 56) rfl ?_)
  refine b_s (pc' := 57) (lv1 := [(0, .ref 30), (1, .ref 6), (3, bLg v3)]) (st' := [.ref 30]) l41_56 (fun _ => rfl) ?_
  refine b_gp (q' := 46) (j := 16) l41_57 (by rfl) (by decide) (by decide) rfl hk2 rfl rfl (b_pc (pc' := 60) rfl ?_)
  refine b_gi l41_60 (by rfl) (by decide) (by decide) rfl (b_pc (pc' := 63) rfl ?_)
  refine b_w (pc' := 65) (lv1 := ax_st1 [(0, .ref 30), (1, .ref 6), (3, bLg v3)] 5 (bI ((bset μ 46 1 ((μ 46 0) + (b32 v3))) 46 0))) (lv' := [(0, .ref 30), (1, .ref 6), (5, bI ((bset μ 46 1 ((μ 46 0) + (b32 v3))) 46 0))]) (st' := []) l41_63 (fun _ => rfl) (bSb rfl (bSb rfl (bSb rfl bSn))) ?_
  refine b_s (pc' := 66) (lv1 := [(0, .ref 30), (1, .ref 6), (5, bI ((bset μ 46 1 ((μ 46 0) + (b32 v3))) 46 0))]) (st' := [.ref 30]) l41_65 (fun _ => rfl) ?_
  refine b_gp (q' := 46) (j := 16) l41_66 (by rfl) (by decide) (by decide) rfl hk2 rfl rfl (b_pc (pc' := 69) rfl ?_)
  refine b_s (pc' := 70) (lv1 := [(0, .ref 30), (1, .ref 6), (5, bI ((bset μ 46 1 ((μ 46 0) + (b32 v3))) 46 0))]) (st' := [bI 2, .ref 46]) l41_69 (fun _ => rfl) ?_
  refine b_cXl l41_70 rfl (b_rc (ci := 1) (by rfl) (by decide) (by decide +kernel)) (Nat.le_of_ble_eq_true rfl) (Nat.le_of_ble_eq_true rfl) rfl (r_X1_lowFirst 2 (by decide)) ⟨fun _ z => (by cases z), (by decide +kernel)⟩ rfl (fun _ _ => hr _) fun w3 μ4 hw3 => bD.ok fun hk5 => b_pc (pc' := 73) rfl ?_
  refine b_s (pc' := 76) (lv1 := [(0, .ref 30), (1, .ref 6), (5, bI ((bset μ 46 1 ((μ 46 0) + (b32 v3))) 46 0))]) (st' := [bLg 4, bLg w3]) l41_73 (fun _ => rfl) ?_
  refine b_lcmp l41_76 hw3 (by decide) (b_pc (pc' := 77) rfl ?_)
  refine b_zeq (pt := 90) l41_77 (bCmp_R _ _) (by decide) rfl (fun c6 => ?_) (fun c6 => b_pc (pc' := 80) rfl ?_)
  · refine bD.wk (lv' := [(0, .ref 30), (1, .ref 6)]) (bSb rfl (bSb rfl bSn)) ?_
    exact p_X4_readHeader_90 hr 
  · refine b_s (pc' := 81) (lv1 := [(0, .ref 30), (1, .ref 6), (5, bI ((bset μ 46 1 ((μ 46 0) + (b32 v3))) 46 0))]) (st' := [.ref 30]) l41_80 (fun _ => rfl) ?_
    refine b_gp (q' := 46) (j := 16) l41_81 (by rfl) (by decide) (by decide) rfl hk5 rfl rfl (b_pc (pc' := 84) rfl ?_)
    refine b_s (pc' := 85) (lv1 := [(0, .ref 30), (1, .ref 6), (5, bI ((bset μ 46 1 ((μ 46 0) + (b32 v3))) 46 0))]) (st' := [bI 2, .ref 46]) l41_84 (fun _ => rfl) ?_
    refine b_s (pc' := 87) (lv1 := [(0, .ref 30), (1, .ref 6), (5, bI ((bset μ 46 1 ((μ 46 0) + (b32 v3))) 46 0))]) (st' := [bI ((bset μ 46 1 ((μ 46 0) + (b32 v3))) 46 0), bI 2, .ref 46]) l41_85 (fun _ => rfl) ?_
    refine b_cXv l41_87 rfl (b_rc (ci := 1) (by rfl) (by decide) (by decide +kernel)) (Nat.le_of_ble_eq_true rfl) (Nat.le_of_ble_eq_true rfl) rfl (r_X1_refuse 2 (by decide) ((bset μ 46 1 ((μ 46 0) + (b32 v3))) 46 0) (bO_f hk2 (ci := 1) (by rfl) rfl)) ⟨fun _ z => (by cases z), (by decide +kernel)⟩ rfl (fun _ _ => hr _) fun w7 μ8 hw7 => bD.ok fun hk9 => b_pc (pc' := 90) rfl ?_
    refine bD.wk (lv' := [(0, .ref 30), (1, .ref 6)]) (bSb rfl (bSb rfl bSn)) ?_
    exact p_X4_readHeader_90 hr 
theorem r_X4_readHeader {L : Nat} {xs : Nat → Int32} {d : Nat} {μ : bM}  (v2 : Int) (h2 : bR v2) : bD L xs (d + 2) 41 0 [(0, .ref 30), (1, .ref 6), (2, bI v2)] [] μ ((F_X4_readHeader v2 μ).bind (bXc)) := by
  have hr : ∀ r, (bXc) r = (bXc) r := fun _ => rfl
  unfold F_X4_readHeader
  refine bD.ok fun hk => ?_
  refine b_s (pc' := 1) (lv1 := [(0, .ref 30), (1, .ref 6), (2, bI v2)]) (st' := [.ref 30]) l41_0 (fun _ => rfl) ?_
  refine b_gp (q' := 46) (j := 16) l41_1 (by rfl) (by decide) (by decide) rfl hk rfl rfl (b_pc (pc' := 4) rfl ?_)
  refine b_s (pc' := 5) (lv1 := [(0, .ref 30), (1, .ref 6), (2, bI v2)]) (st' := [bI 4, .ref 46]) l41_4 (fun _ => rfl) ?_
  refine b_cXl l41_5 rfl (b_rc (ci := 1) (by rfl) (by decide) (by decide +kernel)) (Nat.le_of_ble_eq_true rfl) (Nat.le_of_ble_eq_true rfl) rfl (r_X1_lowFirst 4 (by decide)) ⟨fun _ z => (by cases z), (by decide +kernel)⟩ rfl (fun _ _ => hr _) fun w1 μ2 hw1 => bD.ok fun hk3 => b_pc (pc' := 8) rfl ?_
  refine b_w (pc' := 9) (lv1 := ax_st2 [(0, .ref 30), (1, .ref 6), (2, bI v2)] 3 (bLg w1)) (lv' := [(0, .ref 30), (1, .ref 6), (2, bI v2), (3, bLg w1)]) (st' := []) l41_8 (fun _ => rfl) (bSb rfl (bSb rfl (bSb rfl (bSb rfl bSn)))) ?_
  refine b_s (pc' := 10) (lv1 := [(0, .ref 30), (1, .ref 6), (2, bI v2), (3, bLg w1)]) (st' := [bLg w1]) l41_9 (fun _ => rfl) ?_
  refine b_s (pc' := 11) (lv1 := [(0, .ref 30), (1, .ref 6), (2, bI v2), (3, bLg w1)]) (st' := [.ref 30, bLg w1]) l41_10 (fun _ => rfl) ?_
  refine b_gp (q' := 46) (j := 16) l41_11 (by rfl) (by decide) (by decide) rfl hk3 rfl rfl (b_pc (pc' := 14) rfl ?_)
  refine b_gi l41_14 (by rfl) (by decide) (by decide) rfl (b_pc (pc' := 17) rfl ?_)
  refine b_s (pc' := 18) (lv1 := [(0, .ref 30), (1, .ref 6), (2, bI v2), (3, bLg w1)]) (st' := [.ref 30, bI (μ2 46 1), bLg w1]) l41_17 (fun _ => rfl) ?_
  refine b_gp (q' := 46) (j := 16) l41_18 (by rfl) (by decide) (by decide) rfl hk3 rfl rfl (b_pc (pc' := 21) rfl ?_)
  refine b_gi l41_21 (by rfl) (by decide) (by decide) rfl (b_pc (pc' := 24) rfl ?_)
  refine b_isub l41_24 fun g4 => (b_pc (pc' := 25) rfl ?_)
  refine b_i2l l41_25 g4 (b_pc (pc' := 26) rfl ?_)
  refine b_lcmp l41_26 hw1 (bR_L g4) (b_pc (pc' := 27) rfl ?_)
  refine b_zle (pt := 39) l41_27 (bCmp_R _ _) (by decide) rfl (fun c5 => ?_) (fun c5 => b_pc (pc' := 30) rfl ?_)
  · refine bD.wk (lv' := [(0, .ref 30), (1, .ref 6), (3, bLg w1)]) (bSb rfl (bSb rfl (bSb rfl bSn))) ?_
    exact p_X4_readHeader_39 hr hw1
  · refine b_s (pc' := 31) (lv1 := [(0, .ref 30), (1, .ref 6), (2, bI v2), (3, bLg w1)]) (st' := [.ref 30]) l41_30 (fun _ => rfl) ?_
    refine b_gp (q' := 46) (j := 16) l41_31 (by rfl) (by decide) (by decide) rfl hk3 rfl rfl (b_pc (pc' := 34) rfl ?_)
    refine b_s (pc' := 35) (lv1 := [(0, .ref 30), (1, .ref 6), (2, bI v2), (3, bLg w1)]) (st' := [bI 2, .ref 46]) l41_34 (fun _ => rfl) ?_
    refine b_s (pc' := 36) (lv1 := [(0, .ref 30), (1, .ref 6), (2, bI v2), (3, bLg w1)]) (st' := [bI v2, bI 2, .ref 46]) l41_35 (fun _ => rfl) ?_
    refine b_cXv l41_36 rfl (b_rc (ci := 1) (by rfl) (by decide) (by decide +kernel)) (Nat.le_of_ble_eq_true rfl) (Nat.le_of_ble_eq_true rfl) rfl (r_X1_refuse 2 (by decide) v2 h2) ⟨fun _ z => (by cases z), (by decide +kernel)⟩ rfl (fun _ _ => hr _) fun w6 μ7 hw6 => bD.ok fun hk8 => b_pc (pc' := 39) rfl ?_
    refine bD.wk (lv' := [(0, .ref 30), (1, .ref 6), (3, bLg w1)]) (bSb rfl (bSb rfl (bSb rfl bSn))) ?_
    exact p_X4_readHeader_39 hr hw1
/-! ET$Reader.readNumber -/
theorem l44_0 : (ax_dt (ax_T 44)).lookup 0 = some (.aload_n 0, 1, 0, 0, 0) := by decide +kernel
theorem l44_1 : (ax_dt (ax_T 44)).lookup 1 = some (.getfield 21, 3, 3, 1, 0) := by decide +kernel
theorem l44_4 : (ax_dt (ax_T 44)).lookup 4 = some (.getfield 90, 3, 1, 0, 0) := by decide +kernel
theorem l44_7 : (ax_dt (ax_T 44)).lookup 7 = some (.istore 4, 2, 0, 0, 0) := by decide +kernel
theorem l44_9 : (ax_dt (ax_T 44)).lookup 9 = some (.aload_n 0, 1, 0, 0, 0) := by decide +kernel
theorem l44_10 : (ax_dt (ax_T 44)).lookup 10 = some (.getfield 36, 3, 3, 6, 0) := by decide +kernel
theorem l44_13 : (ax_dt (ax_T 44)).lookup 13 = some (.iload_n 1, 1, 0, 0, 0) := by decide +kernel
theorem l44_14 : (ax_dt (ax_T 44)).lookup 14 = some (.aload_n 0, 1, 0, 0, 0) := by decide +kernel
theorem l44_15 : (ax_dt (ax_T 44)).lookup 15 = some (.getfield 12, 3, 3, 0, 0) := by decide +kernel
theorem l44_18 : (ax_dt (ax_T 44)).lookup 18 = some (.getfield 166, 3, 7, 11, 0) := by decide +kernel
theorem l44_21 : (ax_dt (ax_T 44)).lookup 21 = some (.iload_n 1, 1, 0, 0, 0) := by decide +kernel
theorem l44_22 : (ax_dt (ax_T 44)).lookup 22 = some (.iaload, 1, 0, 0, 0) := by decide +kernel
theorem l44_23 : (ax_dt (ax_T 44)).lookup 23 = some (.invokestatic 144, 3, 77, 2, 0) := by decide +kernel
theorem l44_26 : (ax_dt (ax_T 44)).lookup 26 = some (.iload 4, 2, 0, 0, 0) := by decide +kernel
theorem l44_28 : (ax_dt (ax_T 44)).lookup 28 = some (.iastore, 1, 0, 0, 0) := by decide +kernel
theorem l44_29 : (ax_dt (ax_T 44)).lookup 29 = some (.iload_n 3, 1, 0, 0, 0) := by decide +kernel
theorem l44_30 : (ax_dt (ax_T 44)).lookup 30 = some (.lookupswitch 87 #[(13, 42), (15, 55), (21, 68), (25, 81)], 42, 0, 0, 0) := by decide +kernel
theorem l44_72 : (ax_dt (ax_T 44)).lookup 72 = some (.aload_n 0, 1, 0, 0, 0) := by decide +kernel
theorem l44_73 : (ax_dt (ax_T 44)).lookup 73 = some (.getfield 21, 3, 3, 1, 0) := by decide +kernel
theorem l44_76 : (ax_dt (ax_T 44)).lookup 76 = some (.iconst 1, 1, 0, 0, 0) := by decide +kernel
theorem l44_77 : (ax_dt (ax_T 44)).lookup 77 = some (.invokevirtual 167, 3, 11, 1, 0) := by decide +kernel
theorem l44_80 : (ax_dt (ax_T 44)).lookup 80 = some (.lstore 5, 2, 0, 0, 0) := by decide +kernel
theorem l44_82 : (ax_dt (ax_T 44)).lookup 82 = some (.goto 48, 3, 0, 0, 0) := by decide +kernel
theorem l44_85 : (ax_dt (ax_T 44)).lookup 85 = some (.aload_n 0, 1, 0, 0, 0) := by decide +kernel
theorem l44_86 : (ax_dt (ax_T 44)).lookup 86 = some (.getfield 21, 3, 3, 1, 0) := by decide +kernel
theorem l44_89 : (ax_dt (ax_T 44)).lookup 89 = some (.iconst 0, 1, 0, 0, 0) := by decide +kernel
theorem l44_90 : (ax_dt (ax_T 44)).lookup 90 = some (.invokevirtual 167, 3, 11, 1, 0) := by decide +kernel
theorem l44_93 : (ax_dt (ax_T 44)).lookup 93 = some (.lstore 5, 2, 0, 0, 0) := by decide +kernel
theorem l44_95 : (ax_dt (ax_T 44)).lookup 95 = some (.goto 35, 3, 0, 0, 0) := by decide +kernel
theorem l44_98 : (ax_dt (ax_T 44)).lookup 98 = some (.aload_n 0, 1, 0, 0, 0) := by decide +kernel
theorem l44_99 : (ax_dt (ax_T 44)).lookup 99 = some (.getfield 21, 3, 3, 1, 0) := by decide +kernel
theorem l44_102 : (ax_dt (ax_T 44)).lookup 102 = some (.invokevirtual 108, 3, 12, 0, 0) := by decide +kernel
theorem l44_105 : (ax_dt (ax_T 44)).lookup 105 = some (.i2l, 1, 0, 0, 0) := by decide +kernel
theorem l44_106 : (ax_dt (ax_T 44)).lookup 106 = some (.lstore 5, 2, 0, 0, 0) := by decide +kernel
theorem l44_108 : (ax_dt (ax_T 44)).lookup 108 = some (.goto 22, 3, 0, 0, 0) := by decide +kernel
theorem l44_111 : (ax_dt (ax_T 44)).lookup 111 = some (.lconst 1, 1, 0, 0, 0) := by decide +kernel
theorem l44_112 : (ax_dt (ax_T 44)).lookup 112 = some (.lstore 5, 2, 0, 0, 0) := by decide +kernel
theorem l44_114 : (ax_dt (ax_T 44)).lookup 114 = some (.goto 16, 3, 0, 0, 0) := by decide +kernel
theorem l44_117 : (ax_dt (ax_T 44)).lookup 117 = some (.aload_n 0, 1, 0, 0, 0) := by decide +kernel
theorem l44_118 : (ax_dt (ax_T 44)).lookup 118 = some (.getfield 21, 3, 3, 1, 0) := by decide +kernel
theorem l44_121 : (ax_dt (ax_T 44)).lookup 121 = some (.iload_n 3, 1, 0, 0, 0) := by decide +kernel
theorem l44_122 : (ax_dt (ax_T 44)).lookup 122 = some (.invokestatic 171, 3, 21, 1, 0) := by decide +kernel
theorem l44_125 : (ax_dt (ax_T 44)).lookup 125 = some (.invokevirtual 100, 3, 10, 1, 0) := by decide +kernel
theorem l44_128 : (ax_dt (ax_T 44)).lookup 128 = some (.lstore 5, 2, 0, 0, 0) := by decide +kernel
theorem l44_130 : (ax_dt (ax_T 44)).lookup 130 = some (.iload_n 3, 1, 0, 0, 0) := by decide +kernel
theorem l44_131 : (ax_dt (ax_T 44)).lookup 131 = some (.bipush 12, 2, 0, 0, 0) := by decide +kernel
theorem l44_133 : (ax_dt (ax_T 44)).lookup 133 = some (.if_icmp .ne 21, 3, 0, 0, 0) := by decide +kernel
theorem l44_136 : (ax_dt (ax_T 44)).lookup 136 = some (.lload 5, 2, 0, 0, 0) := by decide +kernel
theorem l44_138 : (ax_dt (ax_T 44)).lookup 138 = some (.lconst 1, 1, 0, 0, 0) := by decide +kernel
theorem l44_139 : (ax_dt (ax_T 44)).lookup 139 = some (.lcmp, 1, 0, 0, 0) := by decide +kernel
theorem l44_140 : (ax_dt (ax_T 44)).lookup 140 = some (.ifCond .le 14, 3, 0, 0, 0) := by decide +kernel
theorem l44_143 : (ax_dt (ax_T 44)).lookup 143 = some (.aload_n 0, 1, 0, 0, 0) := by decide +kernel
theorem l44_144 : (ax_dt (ax_T 44)).lookup 144 = some (.getfield 21, 3, 3, 1, 0) := by decide +kernel
theorem l44_147 : (ax_dt (ax_T 44)).lookup 147 = some (.bipush 6, 2, 0, 0, 0) := by decide +kernel
theorem l44_149 : (ax_dt (ax_T 44)).lookup 149 = some (.iload 4, 2, 0, 0, 0) := by decide +kernel
theorem l44_151 : (ax_dt (ax_T 44)).lookup 151 = some (.invokevirtual 68, 3, 9, 2, 0) := by decide +kernel
theorem l44_154 : (ax_dt (ax_T 44)).lookup 154 = some (.aload_n 0, 1, 0, 0, 0) := by decide +kernel
theorem l44_155 : (ax_dt (ax_T 44)).lookup 155 = some (.getfield 12, 3, 3, 0, 0) := by decide +kernel
theorem l44_158 : (ax_dt (ax_T 44)).lookup 158 = some (.iload_n 1, 1, 0, 0, 0) := by decide +kernel
theorem l44_159 : (ax_dt (ax_T 44)).lookup 159 = some (.iload_n 2, 1, 0, 0, 0) := by decide +kernel
theorem l44_160 : (ax_dt (ax_T 44)).lookup 160 = some (.iload_n 3, 1, 0, 0, 0) := by decide +kernel
theorem l44_161 : (ax_dt (ax_T 44)).lookup 161 = some (.lload 5, 2, 0, 0, 0) := by decide +kernel
theorem l44_163 : (ax_dt (ax_T 44)).lookup 163 = some (.iconst 0, 1, 0, 0, 0) := by decide +kernel
theorem l44_164 : (ax_dt (ax_T 44)).lookup 164 = some (.invokevirtual 174, 3, 82, 5, 0) := by decide +kernel
theorem l44_167 : (ax_dt (ax_T 44)).lookup 167 = some (.pop, 1, 0, 0, 0) := by decide +kernel
theorem l44_168 : (ax_dt (ax_T 44)).lookup 168 = some (.return_, 1, 0, 0, 0) := by decide +kernel
noncomputable def F_X4_readNumber_154 (v1 : Int) (v2 : Int) (v3 : Int) (v5 : Int) (μ : bM) : Option ((Int ⊕ String) × bM) := bMm (F_X8_addAttribute (μ 30 0).toNat v1 v2 v3 v5 0 μ) (fun w1 μ2 => some (.inl 0, μ2))
noncomputable def F_X4_readNumber_130 (v1 : Int) (v2 : Int) (v3 : Int) (v4 : Int) (v5 : Int) (μ : bM) : Option ((Int ⊕ String) × bM) := if ¬ v3 = 12 then F_X4_readNumber_154 v1 v2 v3 v5 μ else if (bCmp v5 1) ≤ 0 then F_X4_readNumber_154 v1 v2 v3 v5 μ else bXm (F_X1_refuse 6 v4 μ) (fun w3 μ4 => F_X4_readNumber_154 v1 v2 v3 v5 μ4) (fun e μ => some (.inr e, μ))
noncomputable def F_X4_readNumber (v1 : Int) (v2 : Int) (v3 : Int) (μ : bM) : Option ((Int ⊕ String) × bM) := bG (0 ≤ v1 ∧ v1 < 400) ((F_X8_slotAt v1 (μ ((μ 30 0).toNat + 10) v1.toNat) μ).bind fun w1 => bG (0 ≤ w1 ∧ w1 < 3200) (if v3 = 13 then bXm (F_X1_row 1 (bset μ 60 w1.toNat (μ 46 0))) (fun w3 μ4 => F_X4_readNumber_130 v1 v2 v3 (μ 46 0) w3 μ4) (fun e μ => some (.inr e, μ)) else if v3 = 15 then bXm (F_X1_row 0 (bset μ 60 w1.toNat (μ 46 0))) (fun w6 μ7 => F_X4_readNumber_130 v1 v2 v3 (μ 46 0) w6 μ7) (fun e μ => some (.inr e, μ)) else if v3 = 21 then bXm (F_X1_smallRow (bset μ 60 w1.toNat (μ 46 0))) (fun w9 μ10 => F_X4_readNumber_130 v1 v2 v3 (μ 46 0) w9 μ10) (fun e μ => some (.inr e, μ)) else if v3 = 25 then F_X4_readNumber_130 v1 v2 v3 (μ 46 0) 1 (bset μ 60 w1.toNat (μ 46 0)) else (F_X2_width v3 (bset μ 60 w1.toNat (μ 46 0))).bind fun w12 => bXm (F_X1_lowFirst w12 (bset μ 60 w1.toNat (μ 46 0))) (fun w13 μ14 => F_X4_readNumber_130 v1 v2 v3 (μ 46 0) w13 μ14) (fun e μ => some (.inr e, μ))))
theorem p_X4_readNumber_154 {L : Nat} {xs : Nat → Int32} {d : Nat} {μ : bM}  {κ : ((Int ⊕ String) × bM) → Option bX} (hr : ∀ r : (Int ⊕ String) × bM, κ r = (bXc) r)  {v1 : Int} (h1 : bR v1) {v2 : Int} (h2 : bR v2) {v3 : Int} (h3 : bR v3) {v5 : Int} (h5 : bRL v5) : bD L xs (d + 3) 44 154 [(0, .ref 30), (1, bI v1), (2, bI v2), (3, bI v3), (5, bLg v5)] [] μ ((F_X4_readNumber_154 v1 v2 v3 v5 μ).bind κ) := by
  unfold F_X4_readNumber_154
  refine bD.ok fun hk => ?_
  refine b_s (pc' := 155) (lv1 := [(0, .ref 30), (1, bI v1), (2, bI v2), (3, bI v3), (5, bLg v5)]) (st' := [.ref 30]) l44_154 (fun _ => rfl) ?_
  refine b_gr l44_155 (by rfl) (by decide) (by decide) rfl (b_pc (pc' := 158) rfl ?_)
  refine b_s (pc' := 159) (lv1 := [(0, .ref 30), (1, bI v1), (2, bI v2), (3, bI v3), (5, bLg v5)]) (st' := [bI v1, .ref (μ 30 0).toNat]) l44_158 (fun _ => rfl) ?_
  refine b_s (pc' := 160) (lv1 := [(0, .ref 30), (1, bI v1), (2, bI v2), (3, bI v3), (5, bLg v5)]) (st' := [bI v2, bI v1, .ref (μ 30 0).toNat]) l44_159 (fun _ => rfl) ?_
  refine b_s (pc' := 161) (lv1 := [(0, .ref 30), (1, bI v1), (2, bI v2), (3, bI v3), (5, bLg v5)]) (st' := [bI v3, bI v2, bI v1, .ref (μ 30 0).toNat]) l44_160 (fun _ => rfl) ?_
  refine b_s (pc' := 163) (lv1 := [(0, .ref 30), (1, bI v1), (2, bI v2), (3, bI v3), (5, bLg v5)]) (st' := [bLg v5, bI v3, bI v2, bI v1, .ref (μ 30 0).toNat]) l44_161 (fun _ => rfl) ?_
  refine b_s (pc' := 164) (lv1 := [(0, .ref 30), (1, bI v1), (2, bI v2), (3, bI v3), (5, bLg v5)]) (st' := [bI 0, bLg v5, bI v3, bI v2, bI v1, .ref (μ 30 0).toNat]) l44_163 (fun _ => rfl) ?_
  refine b_cMi l44_164 rfl (b_rc (ci := 7) (bO_ft hk (ci := 3) (by rfl) rfl) (by decide) (by decide +kernel)) (Nat.le_of_ble_eq_true rfl) (Nat.le_of_ble_eq_true rfl) rfl (r_X8_addAttribute (μ 30 0).toNat (bO_ft hk (ci := 3) (by rfl) rfl) v1 h1 v2 h2 v3 h3 v5 h5 0 (by decide)) fun w1 μ2 hw1 => bD.ok fun hk3 => b_pc (pc' := 167) rfl ?_
  refine b_s (pc' := 168) (lv1 := [(0, .ref 30), (1, bI v1), (2, bI v2), (3, bI v3), (5, bLg v5)]) (st' := []) l44_167 (fun _ => rfl) ?_
  exact b_retv l44_168 rfl (hr _)
theorem p_X4_readNumber_130 {L : Nat} {xs : Nat → Int32} {d : Nat} {μ : bM}  {κ : ((Int ⊕ String) × bM) → Option bX} (hr : ∀ r : (Int ⊕ String) × bM, κ r = (bXc) r)  {v1 : Int} (h1 : bR v1) {v2 : Int} (h2 : bR v2) {v3 : Int} (h3 : bR v3) {v4 : Int} (h4 : bR v4) {v5 : Int} (h5 : bRL v5) : bD L xs (d + 3) 44 130 [(0, .ref 30), (1, bI v1), (2, bI v2), (3, bI v3), (4, bI v4), (5, bLg v5)] [] μ ((F_X4_readNumber_130 v1 v2 v3 v4 v5 μ).bind κ) := by
  unfold F_X4_readNumber_130
  refine bD.ok fun hk => ?_
  refine b_s (pc' := 131) (lv1 := [(0, .ref 30), (1, bI v1), (2, bI v2), (3, bI v3), (4, bI v4), (5, bLg v5)]) (st' := [bI v3]) l44_130 (fun _ => rfl) ?_
  refine b_bipush l44_131 (by decide) (b_pc (pc' := 133) rfl ?_)
  refine b_ine (pt := 154) l44_133 h3 (by decide) (by decide) rfl (fun c1 => ?_) (fun c1 => b_pc (pc' := 136) rfl ?_)
  · refine bD.wk (lv' := [(0, .ref 30), (1, bI v1), (2, bI v2), (3, bI v3), (5, bLg v5)]) (bSb rfl (bSb rfl (bSb rfl (bSb rfl (bSb rfl bSn))))) ?_
    exact p_X4_readNumber_154 hr h1 h2 h3 h5
  · refine b_s (pc' := 138) (lv1 := [(0, .ref 30), (1, bI v1), (2, bI v2), (3, bI v3), (4, bI v4), (5, bLg v5)]) (st' := [bLg v5]) l44_136 (fun _ => rfl) ?_
    refine b_lconst (e := 1) l44_138 (by decide) (b_pc (pc' := 139) rfl ?_)
    refine b_lcmp l44_139 h5 (by decide) (b_pc (pc' := 140) rfl ?_)
    refine b_zle (pt := 154) l44_140 (bCmp_R _ _) (by decide) rfl (fun c2 => ?_) (fun c2 => b_pc (pc' := 143) rfl ?_)
    · refine bD.wk (lv' := [(0, .ref 30), (1, bI v1), (2, bI v2), (3, bI v3), (5, bLg v5)]) (bSb rfl (bSb rfl (bSb rfl (bSb rfl (bSb rfl bSn))))) ?_
      exact p_X4_readNumber_154 hr h1 h2 h3 h5
    · refine b_s (pc' := 144) (lv1 := [(0, .ref 30), (1, bI v1), (2, bI v2), (3, bI v3), (4, bI v4), (5, bLg v5)]) (st' := [.ref 30]) l44_143 (fun _ => rfl) ?_
      refine b_gp (q' := 46) (j := 16) l44_144 (by rfl) (by decide) (by decide) rfl hk rfl rfl (b_pc (pc' := 147) rfl ?_)
      refine b_bipush l44_147 (by decide) (b_pc (pc' := 149) rfl ?_)
      refine b_s (pc' := 151) (lv1 := [(0, .ref 30), (1, bI v1), (2, bI v2), (3, bI v3), (4, bI v4), (5, bLg v5)]) (st' := [bI v4, bI 6, .ref 46]) l44_149 (fun _ => rfl) ?_
      refine b_cXv l44_151 rfl (b_rc (ci := 1) (by rfl) (by decide) (by decide +kernel)) (Nat.le_of_ble_eq_true rfl) (Nat.le_of_ble_eq_true rfl) rfl (r_X1_refuse 6 (by decide) v4 h4) ⟨fun _ z => (by cases z), (by decide +kernel)⟩ rfl (fun _ _ => hr _) fun w3 μ4 hw3 => bD.ok fun hk5 => b_pc (pc' := 154) rfl ?_
      refine bD.wk (lv' := [(0, .ref 30), (1, bI v1), (2, bI v2), (3, bI v3), (5, bLg v5)]) (bSb rfl (bSb rfl (bSb rfl (bSb rfl (bSb rfl bSn))))) ?_
      exact p_X4_readNumber_154 hr h1 h2 h3 h5
theorem r_X4_readNumber {L : Nat} {xs : Nat → Int32} {d : Nat} {μ : bM}  (v1 : Int) (h1 : bR v1) (v2 : Int) (h2 : bR v2) (v3 : Int) (h3 : bR v3) : bD L xs (d + 3) 44 0 [(0, .ref 30), (1, bI v1), (2, bI v2), (3, bI v3)] [] μ ((F_X4_readNumber v1 v2 v3 μ).bind (bXc)) := by
  have hr : ∀ r, (bXc) r = (bXc) r := fun _ => rfl
  unfold F_X4_readNumber
  refine bD.ok fun hk => ?_
  refine b_s (pc' := 1) (lv1 := [(0, .ref 30), (1, bI v1), (2, bI v2), (3, bI v3)]) (st' := [.ref 30]) l44_0 (fun _ => rfl) ?_
  refine b_gp (q' := 46) (j := 16) l44_1 (by rfl) (by decide) (by decide) rfl hk rfl rfl (b_pc (pc' := 4) rfl ?_)
  refine b_gi l44_4 (by rfl) (by decide) (by decide) rfl (b_pc (pc' := 7) rfl ?_)
  refine b_w (pc' := 9) (lv1 := ax_st1 [(0, .ref 30), (1, bI v1), (2, bI v2), (3, bI v3)] 4 (bI (μ 46 0))) (lv' := [(0, .ref 30), (1, bI v1), (2, bI v2), (3, bI v3), (4, bI (μ 46 0))]) (st' := []) l44_7 (fun _ => rfl) (bSb rfl (bSb rfl (bSb rfl (bSb rfl (bSb rfl bSn))))) ?_
  refine b_s (pc' := 10) (lv1 := [(0, .ref 30), (1, bI v1), (2, bI v2), (3, bI v3), (4, bI (μ 46 0))]) (st' := [.ref 30]) l44_9 (fun _ => rfl) ?_
  refine b_gp (q' := 60) (j := 30) l44_10 (by rfl) (by decide) (by decide) rfl hk rfl rfl (b_pc (pc' := 13) rfl ?_)
  refine b_s (pc' := 14) (lv1 := [(0, .ref 30), (1, bI v1), (2, bI v2), (3, bI v3), (4, bI (μ 46 0))]) (st' := [bI v1, .ref 60]) l44_13 (fun _ => rfl) ?_
  refine b_s (pc' := 15) (lv1 := [(0, .ref 30), (1, bI v1), (2, bI v2), (3, bI v3), (4, bI (μ 46 0))]) (st' := [.ref 30, bI v1, .ref 60]) l44_14 (fun _ => rfl) ?_
  refine b_gr l44_15 (by rfl) (by decide) (by decide) rfl (b_pc (pc' := 18) rfl ?_)
  refine b_gp (q' := ((μ 30 0).toNat + 10)) (j := 10) l44_18 (bO_ft hk (ci := 3) (by rfl) rfl) (by decide) (by decide) rfl hk rfl rfl (b_pc (pc' := 21) rfl ?_)
  refine b_s (pc' := 22) (lv1 := [(0, .ref 30), (1, bI v1), (2, bI v2), (3, bI v3), (4, bI (μ 46 0))]) (st' := [bI v1, .ref ((μ 30 0).toNat + 10), bI v1, .ref 60]) l44_21 (fun _ => rfl) ?_
  refine b_g fun g21 => ?_
  refine b_ial l44_22 (bTree_e (bO_ft hk (ci := 3) (by rfl) rfl) 10 (by decide)) g21 (b_pc (pc' := 23) rfl ?_)
  refine b_cPi l44_23 rfl (fun _ => trivial) (Nat.le_of_ble_eq_true rfl) (Nat.le_of_ble_eq_true rfl) rfl (r_X8_slotAt v1 h1 (μ ((μ 30 0).toNat + 10) v1.toNat) (bO_i hk (bTree_e (bO_ft hk (ci := 3) (by rfl) rfl) 10 (by decide)))) fun w1 hw1 => b_pc (pc' := 26) rfl ?_
  refine b_s (pc' := 28) (lv1 := [(0, .ref 30), (1, bI v1), (2, bI v2), (3, bI v3), (4, bI (μ 46 0))]) (st' := [bI (μ 46 0), bI w1, .ref 60]) l44_26 (fun _ => rfl) ?_
  refine b_g fun g20 => ?_
  refine b_ias l44_28 (by rfl) g20 (bO_f hk (ci := 1) (by rfl) rfl) (bD.ok fun hk2 => b_pc (pc' := 29) rfl ?_)
  refine b_s (pc' := 30) (lv1 := [(0, .ref 30), (1, bI v1), (2, bI v2), (3, bI v3), (4, bI (μ 46 0))]) (st' := [bI v3]) l44_29 (fun _ => rfl) ?_
  refine b_lsw l44_30 h3 (by decide) (by decide) (by decide) ?_
  refine b_pc (pc' := bTg [(13, 72), (15, 85), (21, 98), (25, 111)] 117 v3) rfl ?_
  refine b_tg (fun c19 => ?_) (fun c19 => ?_)
  · refine b_s (pc' := 73) (lv1 := [(0, .ref 30), (1, bI v1), (2, bI v2), (3, bI v3), (4, bI (μ 46 0))]) (st' := [.ref 30]) l44_72 (fun _ => rfl) ?_
    refine b_gp (q' := 46) (j := 16) l44_73 (by rfl) (by decide) (by decide) rfl hk2 rfl rfl (b_pc (pc' := 76) rfl ?_)
    refine b_s (pc' := 77) (lv1 := [(0, .ref 30), (1, bI v1), (2, bI v2), (3, bI v3), (4, bI (μ 46 0))]) (st' := [bI 1, .ref 46]) l44_76 (fun _ => rfl) ?_
    refine b_cXl l44_77 rfl (b_rc (ci := 1) (by rfl) (by decide) (by decide +kernel)) (Nat.le_of_ble_eq_true rfl) (Nat.le_of_ble_eq_true rfl) rfl (r_X1_row 1 (by decide)) ⟨fun _ z => (by cases z), (by decide +kernel)⟩ rfl (fun _ _ => hr _) fun w3 μ4 hw3 => bD.ok fun hk5 => b_pc (pc' := 80) rfl ?_
    refine b_w (pc' := 82) (lv1 := ax_st2 [(0, .ref 30), (1, bI v1), (2, bI v2), (3, bI v3), (4, bI (μ 46 0))] 5 (bLg w3)) (lv' := [(0, .ref 30), (1, bI v1), (2, bI v2), (3, bI v3), (4, bI (μ 46 0)), (5, bLg w3)]) (st' := []) l44_80 (fun _ => rfl) (bSb rfl (bSb rfl (bSb rfl (bSb rfl (bSb rfl (bSb rfl bSn)))))) ?_
    refine b_s (pc' := 130) (lv1 := [(0, .ref 30), (1, bI v1), (2, bI v2), (3, bI v3), (4, bI (μ 46 0)), (5, bLg w3)]) (st' := []) l44_82 (fun _ => rfl) ?_
    refine bD.wk (lv' := [(0, .ref 30), (1, bI v1), (2, bI v2), (3, bI v3), (4, bI (μ 46 0)), (5, bLg w3)]) (bSb rfl (bSb rfl (bSb rfl (bSb rfl (bSb rfl (bSb rfl bSn)))))) ?_
    exact p_X4_readNumber_130 hr h1 h2 h3 (bO_f hk (ci := 1) (by rfl) rfl) hw3
  · refine b_tg (fun c18 => ?_) (fun c18 => ?_)
    · refine b_s (pc' := 86) (lv1 := [(0, .ref 30), (1, bI v1), (2, bI v2), (3, bI v3), (4, bI (μ 46 0))]) (st' := [.ref 30]) l44_85 (fun _ => rfl) ?_
      refine b_gp (q' := 46) (j := 16) l44_86 (by rfl) (by decide) (by decide) rfl hk2 rfl rfl (b_pc (pc' := 89) rfl ?_)
      refine b_s (pc' := 90) (lv1 := [(0, .ref 30), (1, bI v1), (2, bI v2), (3, bI v3), (4, bI (μ 46 0))]) (st' := [bI 0, .ref 46]) l44_89 (fun _ => rfl) ?_
      refine b_cXl l44_90 rfl (b_rc (ci := 1) (by rfl) (by decide) (by decide +kernel)) (Nat.le_of_ble_eq_true rfl) (Nat.le_of_ble_eq_true rfl) rfl (r_X1_row 0 (by decide)) ⟨fun _ z => (by cases z), (by decide +kernel)⟩ rfl (fun _ _ => hr _) fun w6 μ7 hw6 => bD.ok fun hk8 => b_pc (pc' := 93) rfl ?_
      refine b_w (pc' := 95) (lv1 := ax_st2 [(0, .ref 30), (1, bI v1), (2, bI v2), (3, bI v3), (4, bI (μ 46 0))] 5 (bLg w6)) (lv' := [(0, .ref 30), (1, bI v1), (2, bI v2), (3, bI v3), (4, bI (μ 46 0)), (5, bLg w6)]) (st' := []) l44_93 (fun _ => rfl) (bSb rfl (bSb rfl (bSb rfl (bSb rfl (bSb rfl (bSb rfl bSn)))))) ?_
      refine b_s (pc' := 130) (lv1 := [(0, .ref 30), (1, bI v1), (2, bI v2), (3, bI v3), (4, bI (μ 46 0)), (5, bLg w6)]) (st' := []) l44_95 (fun _ => rfl) ?_
      refine bD.wk (lv' := [(0, .ref 30), (1, bI v1), (2, bI v2), (3, bI v3), (4, bI (μ 46 0)), (5, bLg w6)]) (bSb rfl (bSb rfl (bSb rfl (bSb rfl (bSb rfl (bSb rfl bSn)))))) ?_
      exact p_X4_readNumber_130 hr h1 h2 h3 (bO_f hk (ci := 1) (by rfl) rfl) hw6
    · refine b_tg (fun c17 => ?_) (fun c17 => ?_)
      · refine b_s (pc' := 99) (lv1 := [(0, .ref 30), (1, bI v1), (2, bI v2), (3, bI v3), (4, bI (μ 46 0))]) (st' := [.ref 30]) l44_98 (fun _ => rfl) ?_
        refine b_gp (q' := 46) (j := 16) l44_99 (by rfl) (by decide) (by decide) rfl hk2 rfl rfl (b_pc (pc' := 102) rfl ?_)
        refine b_cXi l44_102 rfl (b_rc (ci := 1) (by rfl) (by decide) (by decide +kernel)) (Nat.le_of_ble_eq_true rfl) (Nat.le_of_ble_eq_true rfl) rfl (r_X1_smallRow ) ⟨fun _ z => (by cases z), (by decide +kernel)⟩ rfl (fun _ _ => hr _) fun w9 μ10 hw9 => bD.ok fun hk11 => b_pc (pc' := 105) rfl ?_
        refine b_i2l l44_105 hw9 (b_pc (pc' := 106) rfl ?_)
        refine b_w (pc' := 108) (lv1 := ax_st2 [(0, .ref 30), (1, bI v1), (2, bI v2), (3, bI v3), (4, bI (μ 46 0))] 5 (bLg w9)) (lv' := [(0, .ref 30), (1, bI v1), (2, bI v2), (3, bI v3), (4, bI (μ 46 0)), (5, bLg w9)]) (st' := []) l44_106 (fun _ => rfl) (bSb rfl (bSb rfl (bSb rfl (bSb rfl (bSb rfl (bSb rfl bSn)))))) ?_
        refine b_s (pc' := 130) (lv1 := [(0, .ref 30), (1, bI v1), (2, bI v2), (3, bI v3), (4, bI (μ 46 0)), (5, bLg w9)]) (st' := []) l44_108 (fun _ => rfl) ?_
        refine bD.wk (lv' := [(0, .ref 30), (1, bI v1), (2, bI v2), (3, bI v3), (4, bI (μ 46 0)), (5, bLg w9)]) (bSb rfl (bSb rfl (bSb rfl (bSb rfl (bSb rfl (bSb rfl bSn)))))) ?_
        exact p_X4_readNumber_130 hr h1 h2 h3 (bO_f hk (ci := 1) (by rfl) rfl) (bR_L hw9)
      · refine b_tg (fun c16 => ?_) (fun c16 => ?_)
        · refine b_lconst (e := 1) l44_111 (by decide) (b_pc (pc' := 112) rfl ?_)
          refine b_w (pc' := 114) (lv1 := ax_st2 [(0, .ref 30), (1, bI v1), (2, bI v2), (3, bI v3), (4, bI (μ 46 0))] 5 (bLg 1)) (lv' := [(0, .ref 30), (1, bI v1), (2, bI v2), (3, bI v3), (4, bI (μ 46 0)), (5, bLg 1)]) (st' := []) l44_112 (fun _ => rfl) (bSb rfl (bSb rfl (bSb rfl (bSb rfl (bSb rfl (bSb rfl bSn)))))) ?_
          refine b_s (pc' := 130) (lv1 := [(0, .ref 30), (1, bI v1), (2, bI v2), (3, bI v3), (4, bI (μ 46 0)), (5, bLg 1)]) (st' := []) l44_114 (fun _ => rfl) ?_
          refine bD.wk (lv' := [(0, .ref 30), (1, bI v1), (2, bI v2), (3, bI v3), (4, bI (μ 46 0)), (5, bLg 1)]) (bSb rfl (bSb rfl (bSb rfl (bSb rfl (bSb rfl (bSb rfl bSn)))))) ?_
          exact p_X4_readNumber_130 hr h1 h2 h3 (bO_f hk (ci := 1) (by rfl) rfl) (by decide)
        · refine b_pc (pc' := 117) rfl ?_
          refine b_s (pc' := 118) (lv1 := [(0, .ref 30), (1, bI v1), (2, bI v2), (3, bI v3), (4, bI (μ 46 0))]) (st' := [.ref 30]) l44_117 (fun _ => rfl) ?_
          refine b_gp (q' := 46) (j := 16) l44_118 (by rfl) (by decide) (by decide) rfl hk2 rfl rfl (b_pc (pc' := 121) rfl ?_)
          refine b_s (pc' := 122) (lv1 := [(0, .ref 30), (1, bI v1), (2, bI v2), (3, bI v3), (4, bI (μ 46 0))]) (st' := [bI v3, .ref 46]) l44_121 (fun _ => rfl) ?_
          refine b_cPi l44_122 rfl (fun _ => trivial) (Nat.le_of_ble_eq_true rfl) (Nat.le_of_ble_eq_true rfl) rfl (r_X2_width v3 h3) fun w12 hw12 => b_pc (pc' := 125) rfl ?_
          refine b_cXl l44_125 rfl (b_rc (ci := 1) (by rfl) (by decide) (by decide +kernel)) (Nat.le_of_ble_eq_true rfl) (Nat.le_of_ble_eq_true rfl) rfl (r_X1_lowFirst w12 hw12) ⟨fun _ z => (by cases z), (by decide +kernel)⟩ rfl (fun _ _ => hr _) fun w13 μ14 hw13 => bD.ok fun hk15 => b_pc (pc' := 128) rfl ?_
          refine b_w (pc' := 130) (lv1 := ax_st2 [(0, .ref 30), (1, bI v1), (2, bI v2), (3, bI v3), (4, bI (μ 46 0))] 5 (bLg w13)) (lv' := [(0, .ref 30), (1, bI v1), (2, bI v2), (3, bI v3), (4, bI (μ 46 0)), (5, bLg w13)]) (st' := []) l44_128 (fun _ => rfl) (bSb rfl (bSb rfl (bSb rfl (bSb rfl (bSb rfl (bSb rfl bSn)))))) ?_
          refine bD.wk (lv' := [(0, .ref 30), (1, bI v1), (2, bI v2), (3, bI v3), (4, bI (μ 46 0)), (5, bLg w13)]) (bSb rfl (bSb rfl (bSb rfl (bSb rfl (bSb rfl (bSb rfl bSn)))))) ?_
          exact p_X4_readNumber_130 hr h1 h2 h3 (bO_f hk (ci := 1) (by rfl) rfl) hw13
/-! ET$Reader.keptLength -/
theorem l46_0 : (ax_dt (ax_T 46)).lookup 0 = some (.lload_n 1, 1, 0, 0, 0) := by decide +kernel
theorem l46_1 : (ax_dt (ax_T 46)).lookup 1 = some (.aload_n 0, 1, 0, 0, 0) := by decide +kernel
theorem l46_2 : (ax_dt (ax_T 46)).lookup 2 = some (.invokevirtual 58, 3, 52, 0, 0) := by decide +kernel
theorem l46_5 : (ax_dt (ax_T 46)).lookup 5 = some (.i2l, 1, 0, 0, 0) := by decide +kernel
theorem l46_6 : (ax_dt (ax_T 46)).lookup 6 = some (.lcmp, 1, 0, 0, 0) := by decide +kernel
theorem l46_7 : (ax_dt (ax_T 46)).lookup 7 = some (.ifCond .lt 5, 3, 0, 0, 0) := by decide +kernel
theorem l46_10 : (ax_dt (ax_T 46)).lookup 10 = some (.iconst (-1), 1, 0, 0, 0) := by decide +kernel
theorem l46_11 : (ax_dt (ax_T 46)).lookup 11 = some (.ireturn, 1, 0, 0, 0) := by decide +kernel
theorem l46_12 : (ax_dt (ax_T 46)).lookup 12 = some (.lload_n 1, 1, 0, 0, 0) := by decide +kernel
theorem l46_13 : (ax_dt (ax_T 46)).lookup 13 = some (.l2i, 1, 0, 0, 0) := by decide +kernel
theorem l46_14 : (ax_dt (ax_T 46)).lookup 14 = some (.istore_n 3, 1, 0, 0, 0) := by decide +kernel
theorem l46_15 : (ax_dt (ax_T 46)).lookup 15 = some (.aload_n 0, 1, 0, 0, 0) := by decide +kernel
theorem l46_16 : (ax_dt (ax_T 46)).lookup 16 = some (.iload_n 3, 1, 0, 0, 0) := by decide +kernel
theorem l46_17 : (ax_dt (ax_T 46)).lookup 17 = some (.aload_n 0, 1, 0, 0, 0) := by decide +kernel
theorem l46_18 : (ax_dt (ax_T 46)).lookup 18 = some (.invokevirtual 58, 3, 52, 0, 0) := by decide +kernel
theorem l46_21 : (ax_dt (ax_T 46)).lookup 21 = some (.invokevirtual 191, 3, 67, 2, 0) := by decide +kernel
theorem l46_24 : (ax_dt (ax_T 46)).lookup 24 = some (.istore 4, 2, 0, 0, 0) := by decide +kernel
theorem l46_26 : (ax_dt (ax_T 46)).lookup 26 = some (.iload 4, 2, 0, 0, 0) := by decide +kernel
theorem l46_28 : (ax_dt (ax_T 46)).lookup 28 = some (.iconst (-1), 1, 0, 0, 0) := by decide +kernel
theorem l46_29 : (ax_dt (ax_T 46)).lookup 29 = some (.if_icmp .ne 7, 3, 0, 0, 0) := by decide +kernel
theorem l46_32 : (ax_dt (ax_T 46)).lookup 32 = some (.iconst (-1), 1, 0, 0, 0) := by decide +kernel
theorem l46_33 : (ax_dt (ax_T 46)).lookup 33 = some (.goto 7, 3, 0, 0, 0) := by decide +kernel
theorem l46_36 : (ax_dt (ax_T 46)).lookup 36 = some (.iload 4, 2, 0, 0, 0) := by decide +kernel
theorem l46_38 : (ax_dt (ax_T 46)).lookup 38 = some (.iload_n 3, 1, 0, 0, 0) := by decide +kernel
theorem l46_39 : (ax_dt (ax_T 46)).lookup 39 = some (.isub, 1, 0, 0, 0) := by decide +kernel
theorem l46_40 : (ax_dt (ax_T 46)).lookup 40 = some (.ireturn, 1, 0, 0, 0) := by decide +kernel
noncomputable def F_X4_keptLength (s : Nat) (v1 : Int) (μ : bM) : Option (Int) := (F_X6_used s μ).bind fun w1 => if (bCmp v1 w1) < 0 then (F_X6_used s μ).bind fun w3 => (F_X6_zeroFrom s (b32 v1) w3 μ).bind fun w4 => if ¬ w4 = (-1) then bG (bR (w4 - (b32 v1))) (some ((w4 - (b32 v1)))) else some ((-1)) else some ((-1))
theorem r_X4_keptLength {L : Nat} {xs : Nat → Int32} {d : Nat} {μ : bM} (s : Nat) (hs : bStore s) (v1 : Int) (h1 : bRL v1) : bD L xs (d + 2) 46 0 [(0, .ref s), (1, bLg v1)] [] μ ((F_X4_keptLength s v1 μ).bind (bPc μ)) := by
  have hr : ∀ r, (bPc μ) r = (bPc μ) r := fun _ => rfl
  unfold F_X4_keptLength
  refine bD.ok fun hk => ?_
  refine b_s (pc' := 1) (lv1 := [(0, .ref s), (1, bLg v1)]) (st' := [bLg v1]) l46_0 (fun _ => rfl) ?_
  refine b_s (pc' := 2) (lv1 := [(0, .ref s), (1, bLg v1)]) (st' := [.ref s, bLg v1]) l46_1 (fun _ => rfl) ?_
  refine b_cPi l46_2 rfl (b_rc (ci := 5) hs (by decide) (by decide +kernel)) (Nat.le_of_ble_eq_true rfl) (Nat.le_of_ble_eq_true rfl) rfl (r_X6_used s hs) fun w1 hw1 => b_pc (pc' := 5) rfl ?_
  refine b_i2l l46_5 hw1 (b_pc (pc' := 6) rfl ?_)
  refine b_lcmp l46_6 h1 (bR_L hw1) (b_pc (pc' := 7) rfl ?_)
  refine b_zlt (pt := 12) l46_7 (bCmp_R _ _) (by decide) rfl (fun c2 => ?_) (fun c2 => b_pc (pc' := 10) rfl ?_)
  · refine b_s (pc' := 13) (lv1 := [(0, .ref s), (1, bLg v1)]) (st' := [bLg v1]) l46_12 (fun _ => rfl) ?_
    refine b_l2i l46_13 (b_pc (pc' := 14) rfl ?_)
    refine b_w (pc' := 15) (lv1 := ax_st1 [(0, .ref s), (1, bLg v1)] 3 (bI (b32 v1))) (lv' := [(0, .ref s), (3, bI (b32 v1))]) (st' := []) l46_14 (fun _ => rfl) (bSb rfl (bSb rfl bSn)) ?_
    refine b_s (pc' := 16) (lv1 := [(0, .ref s), (3, bI (b32 v1))]) (st' := [.ref s]) l46_15 (fun _ => rfl) ?_
    refine b_s (pc' := 17) (lv1 := [(0, .ref s), (3, bI (b32 v1))]) (st' := [bI (b32 v1), .ref s]) l46_16 (fun _ => rfl) ?_
    refine b_s (pc' := 18) (lv1 := [(0, .ref s), (3, bI (b32 v1))]) (st' := [.ref s, bI (b32 v1), .ref s]) l46_17 (fun _ => rfl) ?_
    refine b_cPi l46_18 rfl (b_rc (ci := 5) hs (by decide) (by decide +kernel)) (Nat.le_of_ble_eq_true rfl) (Nat.le_of_ble_eq_true rfl) rfl (r_X6_used s hs) fun w3 hw3 => b_pc (pc' := 21) rfl ?_
    refine b_cPi l46_21 rfl (b_rc (ci := 5) hs (by decide) (by decide +kernel)) (Nat.le_of_ble_eq_true rfl) (Nat.le_of_ble_eq_true rfl) rfl (r_X6_zeroFrom s hs (b32 v1) (b32_R _) w3 hw3) fun w4 hw4 => b_pc (pc' := 24) rfl ?_
    refine b_w (pc' := 26) (lv1 := ax_st1 [(0, .ref s), (3, bI (b32 v1))] 4 (bI w4)) (lv' := [(3, bI (b32 v1)), (4, bI w4)]) (st' := []) l46_24 (fun _ => rfl) (bSb rfl (bSb rfl bSn)) ?_
    refine b_s (pc' := 28) (lv1 := [(3, bI (b32 v1)), (4, bI w4)]) (st' := [bI w4]) l46_26 (fun _ => rfl) ?_
    refine b_s (pc' := 29) (lv1 := [(3, bI (b32 v1)), (4, bI w4)]) (st' := [bI (-1), bI w4]) l46_28 (fun _ => rfl) ?_
    refine b_ine (pt := 36) l46_29 hw4 (by decide) (by decide) rfl (fun c5 => ?_) (fun c5 => b_pc (pc' := 32) rfl ?_)
    · refine b_s (pc' := 38) (lv1 := [(3, bI (b32 v1)), (4, bI w4)]) (st' := [bI w4]) l46_36 (fun _ => rfl) ?_
      refine b_s (pc' := 39) (lv1 := [(3, bI (b32 v1)), (4, bI w4)]) (st' := [bI (b32 v1), bI w4]) l46_38 (fun _ => rfl) ?_
      refine b_isub l46_39 fun g6 => (b_pc (pc' := 40) rfl ?_)
      exact b_reti l46_40 rfl g6 (hr _)
    · refine b_s (pc' := 33) (lv1 := [(3, bI (b32 v1)), (4, bI w4)]) (st' := [bI (-1)]) l46_32 (fun _ => rfl) ?_
      refine b_s (pc' := 40) (lv1 := [(3, bI (b32 v1)), (4, bI w4)]) (st' := [bI (-1)]) l46_33 (fun _ => rfl) ?_
      exact b_reti l46_40 rfl (by decide) (hr _)
  · refine b_s (pc' := 11) (lv1 := [(0, .ref s), (1, bLg v1)]) (st' := [bI (-1)]) l46_10 (fun _ => rfl) ?_
    exact b_reti l46_11 rfl (by decide) (hr _)
/-! ET$Reader.readLetters -/
theorem l45_0 : (ax_dt (ax_T 45)).lookup 0 = some (.aload_n 0, 1, 0, 0, 0) := by decide +kernel
theorem l45_1 : (ax_dt (ax_T 45)).lookup 1 = some (.getfield 21, 3, 3, 1, 0) := by decide +kernel
theorem l45_4 : (ax_dt (ax_T 45)).lookup 4 = some (.getfield 90, 3, 1, 0, 0) := by decide +kernel
theorem l45_7 : (ax_dt (ax_T 45)).lookup 7 = some (.istore 5, 2, 0, 0, 0) := by decide +kernel
theorem l45_9 : (ax_dt (ax_T 45)).lookup 9 = some (.iload 5, 2, 0, 0, 0) := by decide +kernel
theorem l45_11 : (ax_dt (ax_T 45)).lookup 11 = some (.istore 6, 2, 0, 0, 0) := by decide +kernel
theorem l45_13 : (ax_dt (ax_T 45)).lookup 13 = some (.iload 4, 2, 0, 0, 0) := by decide +kernel
theorem l45_15 : (ax_dt (ax_T 45)).lookup 15 = some (.bipush 8, 2, 0, 0, 0) := by decide +kernel
theorem l45_17 : (ax_dt (ax_T 45)).lookup 17 = some (.if_icmp .ne 15, 3, 0, 0, 0) := by decide +kernel
theorem l45_20 : (ax_dt (ax_T 45)).lookup 20 = some (.aload_n 0, 1, 0, 0, 0) := by decide +kernel
theorem l45_21 : (ax_dt (ax_T 45)).lookup 21 = some (.getfield 21, 3, 3, 1, 0) := by decide +kernel
theorem l45_24 : (ax_dt (ax_T 45)).lookup 24 = some (.invokevirtual 178, 3, 13, 0, 0) := by decide +kernel
theorem l45_27 : (ax_dt (ax_T 45)).lookup 27 = some (.istore 7, 2, 0, 0, 0) := by decide +kernel
theorem l45_29 : (ax_dt (ax_T 45)).lookup 29 = some (.goto 68, 3, 0, 0, 0) := by decide +kernel
theorem l45_32 : (ax_dt (ax_T 45)).lookup 32 = some (.iload 4, 2, 0, 0, 0) := by decide +kernel
theorem l45_34 : (ax_dt (ax_T 45)).lookup 34 = some (.bipush 10, 2, 0, 0, 0) := by decide +kernel
theorem l45_36 : (ax_dt (ax_T 45)).lookup 36 = some (.if_icmp .ne 35, 3, 0, 0, 0) := by decide +kernel
theorem l45_39 : (ax_dt (ax_T 45)).lookup 39 = some (.aload_n 0, 1, 0, 0, 0) := by decide +kernel
theorem l45_40 : (ax_dt (ax_T 45)).lookup 40 = some (.getfield 21, 3, 3, 1, 0) := by decide +kernel
theorem l45_43 : (ax_dt (ax_T 45)).lookup 43 = some (.iconst 1, 1, 0, 0, 0) := by decide +kernel
theorem l45_44 : (ax_dt (ax_T 45)).lookup 44 = some (.invokevirtual 100, 3, 10, 1, 0) := by decide +kernel
theorem l45_47 : (ax_dt (ax_T 45)).lookup 47 = some (.l2i, 1, 0, 0, 0) := by decide +kernel
theorem l45_48 : (ax_dt (ax_T 45)).lookup 48 = some (.istore 7, 2, 0, 0, 0) := by decide +kernel
theorem l45_50 : (ax_dt (ax_T 45)).lookup 50 = some (.aload_n 0, 1, 0, 0, 0) := by decide +kernel
theorem l45_51 : (ax_dt (ax_T 45)).lookup 51 = some (.getfield 21, 3, 3, 1, 0) := by decide +kernel
theorem l45_54 : (ax_dt (ax_T 45)).lookup 54 = some (.getfield 90, 3, 1, 0, 0) := by decide +kernel
theorem l45_57 : (ax_dt (ax_T 45)).lookup 57 = some (.istore 6, 2, 0, 0, 0) := by decide +kernel
theorem l45_59 : (ax_dt (ax_T 45)).lookup 59 = some (.aload_n 0, 1, 0, 0, 0) := by decide +kernel
theorem l45_60 : (ax_dt (ax_T 45)).lookup 60 = some (.getfield 21, 3, 3, 1, 0) := by decide +kernel
theorem l45_63 : (ax_dt (ax_T 45)).lookup 63 = some (.iload 7, 2, 0, 0, 0) := by decide +kernel
theorem l45_65 : (ax_dt (ax_T 45)).lookup 65 = some (.invokevirtual 181, 3, 14, 1, 0) := by decide +kernel
theorem l45_68 : (ax_dt (ax_T 45)).lookup 68 = some (.goto 29, 3, 0, 0, 0) := by decide +kernel
theorem l45_71 : (ax_dt (ax_T 45)).lookup 71 = some (.aload_n 0, 1, 0, 0, 0) := by decide +kernel
theorem l45_72 : (ax_dt (ax_T 45)).lookup 72 = some (.getfield 21, 3, 3, 1, 0) := by decide +kernel
theorem l45_75 : (ax_dt (ax_T 45)).lookup 75 = some (.iconst 4, 1, 0, 0, 0) := by decide +kernel
theorem l45_76 : (ax_dt (ax_T 45)).lookup 76 = some (.invokevirtual 100, 3, 10, 1, 0) := by decide +kernel
theorem l45_79 : (ax_dt (ax_T 45)).lookup 79 = some (.lstore 8, 2, 0, 0, 0) := by decide +kernel
theorem l45_81 : (ax_dt (ax_T 45)).lookup 81 = some (.aload_n 1, 1, 0, 0, 0) := by decide +kernel
theorem l45_82 : (ax_dt (ax_T 45)).lookup 82 = some (.getfield 184, 3, 4, 2, 0) := by decide +kernel
theorem l45_85 : (ax_dt (ax_T 45)).lookup 85 = some (.lload 8, 2, 0, 0, 0) := by decide +kernel
theorem l45_87 : (ax_dt (ax_T 45)).lookup 87 = some (.invokestatic 187, 3, 46, 2, 0) := by decide +kernel
theorem l45_90 : (ax_dt (ax_T 45)).lookup 90 = some (.istore 7, 2, 0, 0, 0) := by decide +kernel
theorem l45_92 : (ax_dt (ax_T 45)).lookup 92 = some (.lload 8, 2, 0, 0, 0) := by decide +kernel
theorem l45_94 : (ax_dt (ax_T 45)).lookup 94 = some (.l2i, 1, 0, 0, 0) := by decide +kernel
theorem l45_95 : (ax_dt (ax_T 45)).lookup 95 = some (.istore 6, 2, 0, 0, 0) := by decide +kernel
theorem l45_97 : (ax_dt (ax_T 45)).lookup 97 = some (.iload 7, 2, 0, 0, 0) := by decide +kernel
theorem l45_99 : (ax_dt (ax_T 45)).lookup 99 = some (.ifCond .lt 11, 3, 0, 0, 0) := by decide +kernel
theorem l45_102 : (ax_dt (ax_T 45)).lookup 102 = some (.iload 7, 2, 0, 0, 0) := by decide +kernel
theorem l45_104 : (ax_dt (ax_T 45)).lookup 104 = some (.sipush 255, 3, 0, 0, 0) := by decide +kernel
theorem l45_107 : (ax_dt (ax_T 45)).lookup 107 = some (.if_icmp .le 14, 3, 0, 0, 0) := by decide +kernel
theorem l45_110 : (ax_dt (ax_T 45)).lookup 110 = some (.aload_n 0, 1, 0, 0, 0) := by decide +kernel
theorem l45_111 : (ax_dt (ax_T 45)).lookup 111 = some (.getfield 21, 3, 3, 1, 0) := by decide +kernel
theorem l45_114 : (ax_dt (ax_T 45)).lookup 114 = some (.bipush 6, 2, 0, 0, 0) := by decide +kernel
theorem l45_116 : (ax_dt (ax_T 45)).lookup 116 = some (.iload 5, 2, 0, 0, 0) := by decide +kernel
theorem l45_118 : (ax_dt (ax_T 45)).lookup 118 = some (.invokevirtual 68, 3, 9, 2, 0) := by decide +kernel
theorem l45_121 : (ax_dt (ax_T 45)).lookup 121 = some (.aload_n 0, 1, 0, 0, 0) := by decide +kernel
theorem l45_122 : (ax_dt (ax_T 45)).lookup 122 = some (.dup, 1, 0, 0, 0) := by decide +kernel
theorem l45_123 : (ax_dt (ax_T 45)).lookup 123 = some (.getfield 49, 3, 3, 4, 0) := by decide +kernel
theorem l45_126 : (ax_dt (ax_T 45)).lookup 126 = some (.iload 7, 2, 0, 0, 0) := by decide +kernel
theorem l45_128 : (ax_dt (ax_T 45)).lookup 128 = some (.iadd, 1, 0, 0, 0) := by decide +kernel
theorem l45_129 : (ax_dt (ax_T 45)).lookup 129 = some (.putfield 49, 3, 3, 4, 0) := by decide +kernel
theorem l45_132 : (ax_dt (ax_T 45)).lookup 132 = some (.aload_n 0, 1, 0, 0, 0) := by decide +kernel
theorem l45_133 : (ax_dt (ax_T 45)).lookup 133 = some (.getfield 49, 3, 3, 4, 0) := by decide +kernel
theorem l45_136 : (ax_dt (ax_T 45)).lookup 136 = some (.sipush 30000, 3, 0, 0, 0) := by decide +kernel
theorem l45_139 : (ax_dt (ax_T 45)).lookup 139 = some (.if_icmp .le 14, 3, 0, 0, 0) := by decide +kernel
theorem l45_142 : (ax_dt (ax_T 45)).lookup 142 = some (.aload_n 0, 1, 0, 0, 0) := by decide +kernel
theorem l45_143 : (ax_dt (ax_T 45)).lookup 143 = some (.getfield 21, 3, 3, 1, 0) := by decide +kernel
theorem l45_146 : (ax_dt (ax_T 45)).lookup 146 = some (.bipush 8, 2, 0, 0, 0) := by decide +kernel
theorem l45_148 : (ax_dt (ax_T 45)).lookup 148 = some (.iload 5, 2, 0, 0, 0) := by decide +kernel
theorem l45_150 : (ax_dt (ax_T 45)).lookup 150 = some (.invokevirtual 68, 3, 9, 2, 0) := by decide +kernel
theorem l45_153 : (ax_dt (ax_T 45)).lookup 153 = some (.aload_n 0, 1, 0, 0, 0) := by decide +kernel
theorem l45_154 : (ax_dt (ax_T 45)).lookup 154 = some (.getfield 12, 3, 3, 0, 0) := by decide +kernel
theorem l45_157 : (ax_dt (ax_T 45)).lookup 157 = some (.iload_n 2, 1, 0, 0, 0) := by decide +kernel
theorem l45_158 : (ax_dt (ax_T 45)).lookup 158 = some (.iload_n 3, 1, 0, 0, 0) := by decide +kernel
theorem l45_159 : (ax_dt (ax_T 45)).lookup 159 = some (.iload 4, 2, 0, 0, 0) := by decide +kernel
theorem l45_161 : (ax_dt (ax_T 45)).lookup 161 = some (.iload 6, 2, 0, 0, 0) := by decide +kernel
theorem l45_163 : (ax_dt (ax_T 45)).lookup 163 = some (.i2l, 1, 0, 0, 0) := by decide +kernel
theorem l45_164 : (ax_dt (ax_T 45)).lookup 164 = some (.iload 7, 2, 0, 0, 0) := by decide +kernel
theorem l45_166 : (ax_dt (ax_T 45)).lookup 166 = some (.invokevirtual 174, 3, 82, 5, 0) := by decide +kernel
theorem l45_169 : (ax_dt (ax_T 45)).lookup 169 = some (.pop, 1, 0, 0, 0) := by decide +kernel
theorem l45_170 : (ax_dt (ax_T 45)).lookup 170 = some (.return_, 1, 0, 0, 0) := by decide +kernel
noncomputable def F_X4_readLetters_153 (v2 : Int) (v3 : Int) (v4 : Int) (v6 : Int) (v7 : Int) (μ : bM) : Option ((Int ⊕ String) × bM) := bMm (F_X8_addAttribute (μ 30 0).toNat v2 v3 v4 v6 v7 μ) (fun w1 μ2 => some (.inl 0, μ2))
noncomputable def F_X4_readLetters_121 (v2 : Int) (v3 : Int) (v4 : Int) (v5 : Int) (v6 : Int) (v7 : Int) (μ : bM) : Option ((Int ⊕ String) × bM) := bG (bR ((μ 30 4) + v7)) (if ((bset μ 30 4 ((μ 30 4) + v7)) 30 4) ≤ 30000 then F_X4_readLetters_153 v2 v3 v4 v6 v7 (bset μ 30 4 ((μ 30 4) + v7)) else bXm (F_X1_refuse 8 v5 (bset μ 30 4 ((μ 30 4) + v7))) (fun w4 μ5 => F_X4_readLetters_153 v2 v3 v4 v6 v7 μ5) (fun e μ => some (.inr e, μ)))
noncomputable def F_X4_readLetters_110 (v2 : Int) (v3 : Int) (v4 : Int) (v5 : Int) (v6 : Int) (v7 : Int) (μ : bM) : Option ((Int ⊕ String) × bM) := bXm (F_X1_refuse 6 v5 μ) (fun w1 μ2 => F_X4_readLetters_121 v2 v3 v4 v5 v6 v7 μ2) (fun e μ => some (.inr e, μ))
noncomputable def F_X4_readLetters_97 (v2 : Int) (v3 : Int) (v4 : Int) (v5 : Int) (v6 : Int) (v7 : Int) (μ : bM) : Option ((Int ⊕ String) × bM) := if v7 < 0 then F_X4_readLetters_110 v2 v3 v4 v5 v6 v7 μ else if v7 ≤ 255 then F_X4_readLetters_121 v2 v3 v4 v5 v6 v7 μ else F_X4_readLetters_110 v2 v3 v4 v5 v6 v7 μ
noncomputable def F_X4_readLetters (v2 : Int) (v3 : Int) (v4 : Int) (μ : bM) : Option ((Int ⊕ String) × bM) := if ¬ v4 = 8 then if ¬ v4 = 10 then bXm (F_X1_lowFirst 4 μ) (fun w3 μ4 => (F_X4_keptLength 11 w3 μ4).bind fun w6 => F_X4_readLetters_97 v2 v3 v4 (μ 46 0) (b32 w3) w6 μ4) (fun e μ => some (.inr e, μ)) else bXm (F_X1_lowFirst 1 μ) (fun w7 μ8 => bXm (F_X1_skip (b32 w7) μ8) (fun w10 μ11 => F_X4_readLetters_97 v2 v3 v4 (μ 46 0) (μ8 46 0) (b32 w7) μ11) (fun e μ => some (.inr e, μ))) (fun e μ => some (.inr e, μ)) else bXm (F_X1_textLength μ) (fun w13 μ14 => F_X4_readLetters_97 v2 v3 v4 (μ 46 0) (μ 46 0) w13 μ14) (fun e μ => some (.inr e, μ))
theorem p_X4_readLetters_153 {L : Nat} {xs : Nat → Int32} {d : Nat} {μ : bM}  {κ : ((Int ⊕ String) × bM) → Option bX} (hr : ∀ r : (Int ⊕ String) × bM, κ r = (bXc) r)  {v2 : Int} (h2 : bR v2) {v3 : Int} (h3 : bR v3) {v4 : Int} (h4 : bR v4) {v6 : Int} (h6 : bR v6) {v7 : Int} (h7 : bR v7) : bD L xs (d + 3) 45 153 [(0, .ref 30), (2, bI v2), (3, bI v3), (4, bI v4), (6, bI v6), (7, bI v7)] [] μ ((F_X4_readLetters_153 v2 v3 v4 v6 v7 μ).bind κ) := by
  unfold F_X4_readLetters_153
  refine bD.ok fun hk => ?_
  refine b_s (pc' := 154) (lv1 := [(0, .ref 30), (2, bI v2), (3, bI v3), (4, bI v4), (6, bI v6), (7, bI v7)]) (st' := [.ref 30]) l45_153 (fun _ => rfl) ?_
  refine b_gr l45_154 (by rfl) (by decide) (by decide) rfl (b_pc (pc' := 157) rfl ?_)
  refine b_s (pc' := 158) (lv1 := [(0, .ref 30), (2, bI v2), (3, bI v3), (4, bI v4), (6, bI v6), (7, bI v7)]) (st' := [bI v2, .ref (μ 30 0).toNat]) l45_157 (fun _ => rfl) ?_
  refine b_s (pc' := 159) (lv1 := [(0, .ref 30), (2, bI v2), (3, bI v3), (4, bI v4), (6, bI v6), (7, bI v7)]) (st' := [bI v3, bI v2, .ref (μ 30 0).toNat]) l45_158 (fun _ => rfl) ?_
  refine b_s (pc' := 161) (lv1 := [(0, .ref 30), (2, bI v2), (3, bI v3), (4, bI v4), (6, bI v6), (7, bI v7)]) (st' := [bI v4, bI v3, bI v2, .ref (μ 30 0).toNat]) l45_159 (fun _ => rfl) ?_
  refine b_s (pc' := 163) (lv1 := [(0, .ref 30), (2, bI v2), (3, bI v3), (4, bI v4), (6, bI v6), (7, bI v7)]) (st' := [bI v6, bI v4, bI v3, bI v2, .ref (μ 30 0).toNat]) l45_161 (fun _ => rfl) ?_
  refine b_i2l l45_163 h6 (b_pc (pc' := 164) rfl ?_)
  refine b_s (pc' := 166) (lv1 := [(0, .ref 30), (2, bI v2), (3, bI v3), (4, bI v4), (6, bI v6), (7, bI v7)]) (st' := [bI v7, bLg v6, bI v4, bI v3, bI v2, .ref (μ 30 0).toNat]) l45_164 (fun _ => rfl) ?_
  refine b_cMi l45_166 rfl (b_rc (ci := 7) (bO_ft hk (ci := 3) (by rfl) rfl) (by decide) (by decide +kernel)) (Nat.le_of_ble_eq_true rfl) (Nat.le_of_ble_eq_true rfl) rfl (r_X8_addAttribute (μ 30 0).toNat (bO_ft hk (ci := 3) (by rfl) rfl) v2 h2 v3 h3 v4 h4 v6 (bR_L h6) v7 h7) fun w1 μ2 hw1 => bD.ok fun hk3 => b_pc (pc' := 169) rfl ?_
  refine b_s (pc' := 170) (lv1 := [(0, .ref 30), (2, bI v2), (3, bI v3), (4, bI v4), (6, bI v6), (7, bI v7)]) (st' := []) l45_169 (fun _ => rfl) ?_
  exact b_retv l45_170 rfl (hr _)
theorem p_X4_readLetters_121 {L : Nat} {xs : Nat → Int32} {d : Nat} {μ : bM}  {κ : ((Int ⊕ String) × bM) → Option bX} (hr : ∀ r : (Int ⊕ String) × bM, κ r = (bXc) r)  {v2 : Int} (h2 : bR v2) {v3 : Int} (h3 : bR v3) {v4 : Int} (h4 : bR v4) {v5 : Int} (h5 : bR v5) {v6 : Int} (h6 : bR v6) {v7 : Int} (h7 : bR v7) : bD L xs (d + 3) 45 121 [(0, .ref 30), (2, bI v2), (3, bI v3), (4, bI v4), (5, bI v5), (6, bI v6), (7, bI v7)] [] μ ((F_X4_readLetters_121 v2 v3 v4 v5 v6 v7 μ).bind κ) := by
  unfold F_X4_readLetters_121
  refine bD.ok fun hk => ?_
  refine b_s (pc' := 122) (lv1 := [(0, .ref 30), (2, bI v2), (3, bI v3), (4, bI v4), (5, bI v5), (6, bI v6), (7, bI v7)]) (st' := [.ref 30]) l45_121 (fun _ => rfl) ?_
  refine b_s (pc' := 123) (lv1 := [(0, .ref 30), (2, bI v2), (3, bI v3), (4, bI v4), (5, bI v5), (6, bI v6), (7, bI v7)]) (st' := [.ref 30, .ref 30]) l45_122 (fun _ => rfl) ?_
  refine b_gi l45_123 (by rfl) (by decide) (by decide) rfl (b_pc (pc' := 126) rfl ?_)
  refine b_s (pc' := 128) (lv1 := [(0, .ref 30), (2, bI v2), (3, bI v3), (4, bI v4), (5, bI v5), (6, bI v6), (7, bI v7)]) (st' := [bI v7, bI (μ 30 4), .ref 30]) l45_126 (fun _ => rfl) ?_
  refine b_iadd l45_128 fun g1 => (b_pc (pc' := 129) rfl ?_)
  refine b_pi l45_129 (by rfl) (by decide) (by decide) rfl rfl g1 (bD.ok fun hk2 => b_pc (pc' := 132) rfl ?_)
  refine b_s (pc' := 133) (lv1 := [(0, .ref 30), (2, bI v2), (3, bI v3), (4, bI v4), (5, bI v5), (6, bI v6), (7, bI v7)]) (st' := [.ref 30]) l45_132 (fun _ => rfl) ?_
  refine b_gi l45_133 (by rfl) (by decide) (by decide) rfl (b_pc (pc' := 136) rfl ?_)
  refine b_sipush l45_136 (by decide) (b_pc (pc' := 139) rfl ?_)
  refine b_ile (pt := 153) l45_139 (bO_f hk2 (ci := 3) (by rfl) rfl) (by decide) (by decide) rfl (fun c3 => ?_) (fun c3 => b_pc (pc' := 142) rfl ?_)
  · refine bD.wk (lv' := [(0, .ref 30), (2, bI v2), (3, bI v3), (4, bI v4), (6, bI v6), (7, bI v7)]) (bSb rfl (bSb rfl (bSb rfl (bSb rfl (bSb rfl (bSb rfl bSn)))))) ?_
    exact p_X4_readLetters_153 hr h2 h3 h4 h6 h7
  · refine b_s (pc' := 143) (lv1 := [(0, .ref 30), (2, bI v2), (3, bI v3), (4, bI v4), (5, bI v5), (6, bI v6), (7, bI v7)]) (st' := [.ref 30]) l45_142 (fun _ => rfl) ?_
    refine b_gp (q' := 46) (j := 16) l45_143 (by rfl) (by decide) (by decide) rfl hk2 rfl rfl (b_pc (pc' := 146) rfl ?_)
    refine b_bipush l45_146 (by decide) (b_pc (pc' := 148) rfl ?_)
    refine b_s (pc' := 150) (lv1 := [(0, .ref 30), (2, bI v2), (3, bI v3), (4, bI v4), (5, bI v5), (6, bI v6), (7, bI v7)]) (st' := [bI v5, bI 8, .ref 46]) l45_148 (fun _ => rfl) ?_
    refine b_cXv l45_150 rfl (b_rc (ci := 1) (by rfl) (by decide) (by decide +kernel)) (Nat.le_of_ble_eq_true rfl) (Nat.le_of_ble_eq_true rfl) rfl (r_X1_refuse 8 (by decide) v5 h5) ⟨fun _ z => (by cases z), (by decide +kernel)⟩ rfl (fun _ _ => hr _) fun w4 μ5 hw4 => bD.ok fun hk6 => b_pc (pc' := 153) rfl ?_
    refine bD.wk (lv' := [(0, .ref 30), (2, bI v2), (3, bI v3), (4, bI v4), (6, bI v6), (7, bI v7)]) (bSb rfl (bSb rfl (bSb rfl (bSb rfl (bSb rfl (bSb rfl bSn)))))) ?_
    exact p_X4_readLetters_153 hr h2 h3 h4 h6 h7
theorem p_X4_readLetters_110 {L : Nat} {xs : Nat → Int32} {d : Nat} {μ : bM}  {κ : ((Int ⊕ String) × bM) → Option bX} (hr : ∀ r : (Int ⊕ String) × bM, κ r = (bXc) r)  {v2 : Int} (h2 : bR v2) {v3 : Int} (h3 : bR v3) {v4 : Int} (h4 : bR v4) {v5 : Int} (h5 : bR v5) {v6 : Int} (h6 : bR v6) {v7 : Int} (h7 : bR v7) : bD L xs (d + 3) 45 110 [(0, .ref 30), (2, bI v2), (3, bI v3), (4, bI v4), (5, bI v5), (6, bI v6), (7, bI v7)] [] μ ((F_X4_readLetters_110 v2 v3 v4 v5 v6 v7 μ).bind κ) := by
  unfold F_X4_readLetters_110
  refine bD.ok fun hk => ?_
  refine b_s (pc' := 111) (lv1 := [(0, .ref 30), (2, bI v2), (3, bI v3), (4, bI v4), (5, bI v5), (6, bI v6), (7, bI v7)]) (st' := [.ref 30]) l45_110 (fun _ => rfl) ?_
  refine b_gp (q' := 46) (j := 16) l45_111 (by rfl) (by decide) (by decide) rfl hk rfl rfl (b_pc (pc' := 114) rfl ?_)
  refine b_bipush l45_114 (by decide) (b_pc (pc' := 116) rfl ?_)
  refine b_s (pc' := 118) (lv1 := [(0, .ref 30), (2, bI v2), (3, bI v3), (4, bI v4), (5, bI v5), (6, bI v6), (7, bI v7)]) (st' := [bI v5, bI 6, .ref 46]) l45_116 (fun _ => rfl) ?_
  refine b_cXv l45_118 rfl (b_rc (ci := 1) (by rfl) (by decide) (by decide +kernel)) (Nat.le_of_ble_eq_true rfl) (Nat.le_of_ble_eq_true rfl) rfl (r_X1_refuse 6 (by decide) v5 h5) ⟨fun _ z => (by cases z), (by decide +kernel)⟩ rfl (fun _ _ => hr _) fun w1 μ2 hw1 => bD.ok fun hk3 => b_pc (pc' := 121) rfl ?_
  refine bD.wk (lv' := [(0, .ref 30), (2, bI v2), (3, bI v3), (4, bI v4), (5, bI v5), (6, bI v6), (7, bI v7)]) (bSb rfl (bSb rfl (bSb rfl (bSb rfl (bSb rfl (bSb rfl (bSb rfl bSn))))))) ?_
  exact p_X4_readLetters_121 hr h2 h3 h4 h5 h6 h7
theorem p_X4_readLetters_97 {L : Nat} {xs : Nat → Int32} {d : Nat} {μ : bM}  {κ : ((Int ⊕ String) × bM) → Option bX} (hr : ∀ r : (Int ⊕ String) × bM, κ r = (bXc) r)  {v2 : Int} (h2 : bR v2) {v3 : Int} (h3 : bR v3) {v4 : Int} (h4 : bR v4) {v5 : Int} (h5 : bR v5) {v6 : Int} (h6 : bR v6) {v7 : Int} (h7 : bR v7) : bD L xs (d + 3) 45 97 [(0, .ref 30), (2, bI v2), (3, bI v3), (4, bI v4), (5, bI v5), (6, bI v6), (7, bI v7)] [] μ ((F_X4_readLetters_97 v2 v3 v4 v5 v6 v7 μ).bind κ) := by
  unfold F_X4_readLetters_97
  refine bD.ok fun hk => ?_
  refine b_s (pc' := 99) (lv1 := [(0, .ref 30), (2, bI v2), (3, bI v3), (4, bI v4), (5, bI v5), (6, bI v6), (7, bI v7)]) (st' := [bI v7]) l45_97 (fun _ => rfl) ?_
  refine b_zlt (pt := 110) l45_99 h7 (by decide) rfl (fun c1 => ?_) (fun c1 => b_pc (pc' := 102) rfl ?_)
  · refine bD.wk (lv' := [(0, .ref 30), (2, bI v2), (3, bI v3), (4, bI v4), (5, bI v5), (6, bI v6), (7, bI v7)]) (bSb rfl (bSb rfl (bSb rfl (bSb rfl (bSb rfl (bSb rfl (bSb rfl bSn))))))) ?_
    exact p_X4_readLetters_110 hr h2 h3 h4 h5 h6 h7
  · refine b_s (pc' := 104) (lv1 := [(0, .ref 30), (2, bI v2), (3, bI v3), (4, bI v4), (5, bI v5), (6, bI v6), (7, bI v7)]) (st' := [bI v7]) l45_102 (fun _ => rfl) ?_
    refine b_sipush l45_104 (by decide) (b_pc (pc' := 107) rfl ?_)
    refine b_ile (pt := 121) l45_107 h7 (by decide) (by decide) rfl (fun c2 => ?_) (fun c2 => b_pc (pc' := 110) rfl ?_)
    · refine bD.wk (lv' := [(0, .ref 30), (2, bI v2), (3, bI v3), (4, bI v4), (5, bI v5), (6, bI v6), (7, bI v7)]) (bSb rfl (bSb rfl (bSb rfl (bSb rfl (bSb rfl (bSb rfl (bSb rfl bSn))))))) ?_
      exact p_X4_readLetters_121 hr h2 h3 h4 h5 h6 h7
    · refine bD.wk (lv' := [(0, .ref 30), (2, bI v2), (3, bI v3), (4, bI v4), (5, bI v5), (6, bI v6), (7, bI v7)]) (bSb rfl (bSb rfl (bSb rfl (bSb rfl (bSb rfl (bSb rfl (bSb rfl bSn))))))) ?_
      exact p_X4_readLetters_110 hr h2 h3 h4 h5 h6 h7
theorem r_X4_readLetters {L : Nat} {xs : Nat → Int32} {d : Nat} {μ : bM}  (v2 : Int) (h2 : bR v2) (v3 : Int) (h3 : bR v3) (v4 : Int) (h4 : bR v4) : bD L xs (d + 3) 45 0 [(0, .ref 30), (1, .ref 6), (2, bI v2), (3, bI v3), (4, bI v4)] [] μ ((F_X4_readLetters v2 v3 v4 μ).bind (bXc)) := by
  have hr : ∀ r, (bXc) r = (bXc) r := fun _ => rfl
  unfold F_X4_readLetters
  refine bD.ok fun hk => ?_
  refine b_s (pc' := 1) (lv1 := [(0, .ref 30), (1, .ref 6), (2, bI v2), (3, bI v3), (4, bI v4)]) (st' := [.ref 30]) l45_0 (fun _ => rfl) ?_
  refine b_gp (q' := 46) (j := 16) l45_1 (by rfl) (by decide) (by decide) rfl hk rfl rfl (b_pc (pc' := 4) rfl ?_)
  refine b_gi l45_4 (by rfl) (by decide) (by decide) rfl (b_pc (pc' := 7) rfl ?_)
  refine b_w (pc' := 9) (lv1 := ax_st1 [(0, .ref 30), (1, .ref 6), (2, bI v2), (3, bI v3), (4, bI v4)] 5 (bI (μ 46 0))) (lv' := [(0, .ref 30), (1, .ref 6), (2, bI v2), (3, bI v3), (4, bI v4), (5, bI (μ 46 0))]) (st' := []) l45_7 (fun _ => rfl) (bSb rfl (bSb rfl (bSb rfl (bSb rfl (bSb rfl (bSb rfl bSn)))))) ?_
  refine b_s (pc' := 11) (lv1 := [(0, .ref 30), (1, .ref 6), (2, bI v2), (3, bI v3), (4, bI v4), (5, bI (μ 46 0))]) (st' := [bI (μ 46 0)]) l45_9 (fun _ => rfl) ?_
  refine b_w (pc' := 13) (lv1 := ax_st1 [(0, .ref 30), (1, .ref 6), (2, bI v2), (3, bI v3), (4, bI v4), (5, bI (μ 46 0))] 6 (bI (μ 46 0))) (lv' := [(0, .ref 30), (1, .ref 6), (2, bI v2), (3, bI v3), (4, bI v4), (5, bI (μ 46 0)), (6, bI (μ 46 0))]) (st' := []) l45_11 (fun _ => rfl) (bSb rfl (bSb rfl (bSb rfl (bSb rfl (bSb rfl (bSb rfl (bSb rfl bSn))))))) ?_
  refine b_s (pc' := 15) (lv1 := [(0, .ref 30), (1, .ref 6), (2, bI v2), (3, bI v3), (4, bI v4), (5, bI (μ 46 0)), (6, bI (μ 46 0))]) (st' := [bI v4]) l45_13 (fun _ => rfl) ?_
  refine b_bipush l45_15 (by decide) (b_pc (pc' := 17) rfl ?_)
  refine b_ine (pt := 32) l45_17 h4 (by decide) (by decide) rfl (fun c1 => ?_) (fun c1 => b_pc (pc' := 20) rfl ?_)
  · refine b_s (pc' := 34) (lv1 := [(0, .ref 30), (1, .ref 6), (2, bI v2), (3, bI v3), (4, bI v4), (5, bI (μ 46 0)), (6, bI (μ 46 0))]) (st' := [bI v4]) l45_32 (fun _ => rfl) ?_
    refine b_bipush l45_34 (by decide) (b_pc (pc' := 36) rfl ?_)
    refine b_ine (pt := 71) l45_36 h4 (by decide) (by decide) rfl (fun c2 => ?_) (fun c2 => b_pc (pc' := 39) rfl ?_)
    · refine b_s (pc' := 72) (lv1 := [(0, .ref 30), (1, .ref 6), (2, bI v2), (3, bI v3), (4, bI v4), (5, bI (μ 46 0)), (6, bI (μ 46 0))]) (st' := [.ref 30]) l45_71 (fun _ => rfl) ?_
      refine b_gp (q' := 46) (j := 16) l45_72 (by rfl) (by decide) (by decide) rfl hk rfl rfl (b_pc (pc' := 75) rfl ?_)
      refine b_s (pc' := 76) (lv1 := [(0, .ref 30), (1, .ref 6), (2, bI v2), (3, bI v3), (4, bI v4), (5, bI (μ 46 0)), (6, bI (μ 46 0))]) (st' := [bI 4, .ref 46]) l45_75 (fun _ => rfl) ?_
      refine b_cXl l45_76 rfl (b_rc (ci := 1) (by rfl) (by decide) (by decide +kernel)) (Nat.le_of_ble_eq_true rfl) (Nat.le_of_ble_eq_true rfl) rfl (r_X1_lowFirst 4 (by decide)) ⟨fun _ z => (by cases z), (by decide +kernel)⟩ rfl (fun _ _ => hr _) fun w3 μ4 hw3 => bD.ok fun hk5 => b_pc (pc' := 79) rfl ?_
      refine b_w (pc' := 81) (lv1 := ax_st2 [(0, .ref 30), (1, .ref 6), (2, bI v2), (3, bI v3), (4, bI v4), (5, bI (μ 46 0)), (6, bI (μ 46 0))] 8 (bLg w3)) (lv' := [(0, .ref 30), (1, .ref 6), (2, bI v2), (3, bI v3), (4, bI v4), (5, bI (μ 46 0)), (8, bLg w3)]) (st' := []) l45_79 (fun _ => rfl) (bSb rfl (bSb rfl (bSb rfl (bSb rfl (bSb rfl (bSb rfl (bSb rfl bSn))))))) ?_
      refine b_s (pc' := 82) (lv1 := [(0, .ref 30), (1, .ref 6), (2, bI v2), (3, bI v3), (4, bI v4), (5, bI (μ 46 0)), (8, bLg w3)]) (st' := [.ref 6]) l45_81 (fun _ => rfl) ?_
      refine b_gp (q' := 11) (j := 5) l45_82 (by rfl) (by decide) (by decide) rfl hk5 rfl rfl (b_pc (pc' := 85) rfl ?_)
      refine b_s (pc' := 87) (lv1 := [(0, .ref 30), (1, .ref 6), (2, bI v2), (3, bI v3), (4, bI v4), (5, bI (μ 46 0)), (8, bLg w3)]) (st' := [bLg w3, .ref 11]) l45_85 (fun _ => rfl) ?_
      refine b_cPi l45_87 rfl (fun _ => trivial) (Nat.le_of_ble_eq_true rfl) (Nat.le_of_ble_eq_true rfl) rfl (r_X4_keptLength 11 (by rfl) w3 hw3) fun w6 hw6 => b_pc (pc' := 90) rfl ?_
      refine b_w (pc' := 92) (lv1 := ax_st1 [(0, .ref 30), (1, .ref 6), (2, bI v2), (3, bI v3), (4, bI v4), (5, bI (μ 46 0)), (8, bLg w3)] 7 (bI w6)) (lv' := [(0, .ref 30), (2, bI v2), (3, bI v3), (4, bI v4), (5, bI (μ 46 0)), (7, bI w6), (8, bLg w3)]) (st' := []) l45_90 (fun _ => rfl) (bSb rfl (bSb rfl (bSb rfl (bSb rfl (bSb rfl (bSb rfl (bSb rfl bSn))))))) ?_
      refine b_s (pc' := 94) (lv1 := [(0, .ref 30), (2, bI v2), (3, bI v3), (4, bI v4), (5, bI (μ 46 0)), (7, bI w6), (8, bLg w3)]) (st' := [bLg w3]) l45_92 (fun _ => rfl) ?_
      refine b_l2i l45_94 (b_pc (pc' := 95) rfl ?_)
      refine b_w (pc' := 97) (lv1 := ax_st1 [(0, .ref 30), (2, bI v2), (3, bI v3), (4, bI v4), (5, bI (μ 46 0)), (7, bI w6), (8, bLg w3)] 6 (bI (b32 w3))) (lv' := [(0, .ref 30), (2, bI v2), (3, bI v3), (4, bI v4), (5, bI (μ 46 0)), (6, bI (b32 w3)), (7, bI w6)]) (st' := []) l45_95 (fun _ => rfl) (bSb rfl (bSb rfl (bSb rfl (bSb rfl (bSb rfl (bSb rfl (bSb rfl bSn))))))) ?_
      refine bD.wk (lv' := [(0, .ref 30), (2, bI v2), (3, bI v3), (4, bI v4), (5, bI (μ 46 0)), (6, bI (b32 w3)), (7, bI w6)]) (bSb rfl (bSb rfl (bSb rfl (bSb rfl (bSb rfl (bSb rfl (bSb rfl bSn))))))) ?_
      exact p_X4_readLetters_97 hr h2 h3 h4 (bO_f hk (ci := 1) (by rfl) rfl) (b32_R _) hw6
    · refine b_s (pc' := 40) (lv1 := [(0, .ref 30), (1, .ref 6), (2, bI v2), (3, bI v3), (4, bI v4), (5, bI (μ 46 0)), (6, bI (μ 46 0))]) (st' := [.ref 30]) l45_39 (fun _ => rfl) ?_
      refine b_gp (q' := 46) (j := 16) l45_40 (by rfl) (by decide) (by decide) rfl hk rfl rfl (b_pc (pc' := 43) rfl ?_)
      refine b_s (pc' := 44) (lv1 := [(0, .ref 30), (1, .ref 6), (2, bI v2), (3, bI v3), (4, bI v4), (5, bI (μ 46 0)), (6, bI (μ 46 0))]) (st' := [bI 1, .ref 46]) l45_43 (fun _ => rfl) ?_
      refine b_cXl l45_44 rfl (b_rc (ci := 1) (by rfl) (by decide) (by decide +kernel)) (Nat.le_of_ble_eq_true rfl) (Nat.le_of_ble_eq_true rfl) rfl (r_X1_lowFirst 1 (by decide)) ⟨fun _ z => (by cases z), (by decide +kernel)⟩ rfl (fun _ _ => hr _) fun w7 μ8 hw7 => bD.ok fun hk9 => b_pc (pc' := 47) rfl ?_
      refine b_l2i l45_47 (b_pc (pc' := 48) rfl ?_)
      refine b_w (pc' := 50) (lv1 := ax_st1 [(0, .ref 30), (1, .ref 6), (2, bI v2), (3, bI v3), (4, bI v4), (5, bI (μ 46 0)), (6, bI (μ 46 0))] 7 (bI (b32 w7))) (lv' := [(0, .ref 30), (2, bI v2), (3, bI v3), (4, bI v4), (5, bI (μ 46 0)), (7, bI (b32 w7))]) (st' := []) l45_48 (fun _ => rfl) (bSb rfl (bSb rfl (bSb rfl (bSb rfl (bSb rfl (bSb rfl bSn)))))) ?_
      refine b_s (pc' := 51) (lv1 := [(0, .ref 30), (2, bI v2), (3, bI v3), (4, bI v4), (5, bI (μ 46 0)), (7, bI (b32 w7))]) (st' := [.ref 30]) l45_50 (fun _ => rfl) ?_
      refine b_gp (q' := 46) (j := 16) l45_51 (by rfl) (by decide) (by decide) rfl hk9 rfl rfl (b_pc (pc' := 54) rfl ?_)
      refine b_gi l45_54 (by rfl) (by decide) (by decide) rfl (b_pc (pc' := 57) rfl ?_)
      refine b_w (pc' := 59) (lv1 := ax_st1 [(0, .ref 30), (2, bI v2), (3, bI v3), (4, bI v4), (5, bI (μ 46 0)), (7, bI (b32 w7))] 6 (bI (μ8 46 0))) (lv' := [(0, .ref 30), (2, bI v2), (3, bI v3), (4, bI v4), (5, bI (μ 46 0)), (6, bI (μ8 46 0)), (7, bI (b32 w7))]) (st' := []) l45_57 (fun _ => rfl) (bSb rfl (bSb rfl (bSb rfl (bSb rfl (bSb rfl (bSb rfl (bSb rfl bSn))))))) ?_
      refine b_s (pc' := 60) (lv1 := [(0, .ref 30), (2, bI v2), (3, bI v3), (4, bI v4), (5, bI (μ 46 0)), (6, bI (μ8 46 0)), (7, bI (b32 w7))]) (st' := [.ref 30]) l45_59 (fun _ => rfl) ?_
      refine b_gp (q' := 46) (j := 16) l45_60 (by rfl) (by decide) (by decide) rfl hk9 rfl rfl (b_pc (pc' := 63) rfl ?_)
      refine b_s (pc' := 65) (lv1 := [(0, .ref 30), (2, bI v2), (3, bI v3), (4, bI v4), (5, bI (μ 46 0)), (6, bI (μ8 46 0)), (7, bI (b32 w7))]) (st' := [bI (b32 w7), .ref 46]) l45_63 (fun _ => rfl) ?_
      refine b_cXv l45_65 rfl (b_rc (ci := 1) (by rfl) (by decide) (by decide +kernel)) (Nat.le_of_ble_eq_true rfl) (Nat.le_of_ble_eq_true rfl) rfl (r_X1_skip (b32 w7) (b32_R _)) ⟨fun _ z => (by cases z), (by decide +kernel)⟩ rfl (fun _ _ => hr _) fun w10 μ11 hw10 => bD.ok fun hk12 => b_pc (pc' := 68) rfl ?_
      refine b_s (pc' := 97) (lv1 := [(0, .ref 30), (2, bI v2), (3, bI v3), (4, bI v4), (5, bI (μ 46 0)), (6, bI (μ8 46 0)), (7, bI (b32 w7))]) (st' := []) l45_68 (fun _ => rfl) ?_
      refine bD.wk (lv' := [(0, .ref 30), (2, bI v2), (3, bI v3), (4, bI v4), (5, bI (μ 46 0)), (6, bI (μ8 46 0)), (7, bI (b32 w7))]) (bSb rfl (bSb rfl (bSb rfl (bSb rfl (bSb rfl (bSb rfl (bSb rfl bSn))))))) ?_
      exact p_X4_readLetters_97 hr h2 h3 h4 (bO_f hk (ci := 1) (by rfl) rfl) (bO_f hk9 (ci := 1) (by rfl) rfl) (b32_R _)
  · refine b_s (pc' := 21) (lv1 := [(0, .ref 30), (1, .ref 6), (2, bI v2), (3, bI v3), (4, bI v4), (5, bI (μ 46 0)), (6, bI (μ 46 0))]) (st' := [.ref 30]) l45_20 (fun _ => rfl) ?_
    refine b_gp (q' := 46) (j := 16) l45_21 (by rfl) (by decide) (by decide) rfl hk rfl rfl (b_pc (pc' := 24) rfl ?_)
    refine b_cXi l45_24 rfl (b_rc (ci := 1) (by rfl) (by decide) (by decide +kernel)) (Nat.le_of_ble_eq_true rfl) (Nat.le_of_ble_eq_true rfl) rfl (r_X1_textLength ) ⟨fun _ z => (by cases z), (by decide +kernel)⟩ rfl (fun _ _ => hr _) fun w13 μ14 hw13 => bD.ok fun hk15 => b_pc (pc' := 27) rfl ?_
    refine b_w (pc' := 29) (lv1 := ax_st1 [(0, .ref 30), (1, .ref 6), (2, bI v2), (3, bI v3), (4, bI v4), (5, bI (μ 46 0)), (6, bI (μ 46 0))] 7 (bI w13)) (lv' := [(0, .ref 30), (2, bI v2), (3, bI v3), (4, bI v4), (5, bI (μ 46 0)), (6, bI (μ 46 0)), (7, bI w13)]) (st' := []) l45_27 (fun _ => rfl) (bSb rfl (bSb rfl (bSb rfl (bSb rfl (bSb rfl (bSb rfl (bSb rfl bSn))))))) ?_
    refine b_s (pc' := 97) (lv1 := [(0, .ref 30), (2, bI v2), (3, bI v3), (4, bI v4), (5, bI (μ 46 0)), (6, bI (μ 46 0)), (7, bI w13)]) (st' := []) l45_29 (fun _ => rfl) ?_
    refine bD.wk (lv' := [(0, .ref 30), (2, bI v2), (3, bI v3), (4, bI v4), (5, bI (μ 46 0)), (6, bI (μ 46 0)), (7, bI w13)]) (bSb rfl (bSb rfl (bSb rfl (bSb rfl (bSb rfl (bSb rfl (bSb rfl bSn))))))) ?_
    exact p_X4_readLetters_97 hr h2 h3 h4 (bO_f hk (ci := 1) (by rfl) rfl) (bO_f hk (ci := 1) (by rfl) rfl) hw13
/-! ET$Reader.readEntry -/
theorem l43_0 : (ax_dt (ax_T 43)).lookup 0 = some (.aload_n 0, 1, 0, 0, 0) := by decide +kernel
theorem l43_1 : (ax_dt (ax_T 43)).lookup 1 = some (.getfield 12, 3, 3, 0, 0) := by decide +kernel
theorem l43_4 : (ax_dt (ax_T 43)).lookup 4 = some (.getfield 126, 3, 7, 1, 0) := by decide +kernel
theorem l43_7 : (ax_dt (ax_T 43)).lookup 7 = some (.sipush 400, 3, 0, 0, 0) := by decide +kernel
theorem l43_10 : (ax_dt (ax_T 43)).lookup 10 = some (.if_icmp .eq 22, 3, 0, 0, 0) := by decide +kernel
theorem l43_13 : (ax_dt (ax_T 43)).lookup 13 = some (.iload_n 2, 1, 0, 0, 0) := by decide +kernel
theorem l43_14 : (ax_dt (ax_T 43)).lookup 14 = some (.iconst (-1), 1, 0, 0, 0) := by decide +kernel
theorem l43_15 : (ax_dt (ax_T 43)).lookup 15 = some (.if_icmp .eq 28, 3, 0, 0, 0) := by decide +kernel
theorem l43_18 : (ax_dt (ax_T 43)).lookup 18 = some (.aload_n 0, 1, 0, 0, 0) := by decide +kernel
theorem l43_19 : (ax_dt (ax_T 43)).lookup 19 = some (.getfield 12, 3, 3, 0, 0) := by decide +kernel
theorem l43_22 : (ax_dt (ax_T 43)).lookup 22 = some (.getfield 128, 3, 7, 6, 0) := by decide +kernel
theorem l43_25 : (ax_dt (ax_T 43)).lookup 25 = some (.iload_n 2, 1, 0, 0, 0) := by decide +kernel
theorem l43_26 : (ax_dt (ax_T 43)).lookup 26 = some (.iaload, 1, 0, 0, 0) := by decide +kernel
theorem l43_27 : (ax_dt (ax_T 43)).lookup 27 = some (.bipush 30, 2, 0, 0, 0) := by decide +kernel
theorem l43_29 : (ax_dt (ax_T 43)).lookup 29 = some (.if_icmp .ne 14, 3, 0, 0, 0) := by decide +kernel
theorem l43_32 : (ax_dt (ax_T 43)).lookup 32 = some (.aload_n 0, 1, 0, 0, 0) := by decide +kernel
theorem l43_33 : (ax_dt (ax_T 43)).lookup 33 = some (.getfield 21, 3, 3, 1, 0) := by decide +kernel
theorem l43_36 : (ax_dt (ax_T 43)).lookup 36 = some (.bipush 8, 2, 0, 0, 0) := by decide +kernel
theorem l43_38 : (ax_dt (ax_T 43)).lookup 38 = some (.iload 4, 2, 0, 0, 0) := by decide +kernel
theorem l43_40 : (ax_dt (ax_T 43)).lookup 40 = some (.invokevirtual 68, 3, 9, 2, 0) := by decide +kernel
theorem l43_43 : (ax_dt (ax_T 43)).lookup 43 = some (.iload_n 2, 1, 0, 0, 0) := by decide +kernel
theorem l43_44 : (ax_dt (ax_T 43)).lookup 44 = some (.iconst (-1), 1, 0, 0, 0) := by decide +kernel
theorem l43_45 : (ax_dt (ax_T 43)).lookup 45 = some (.if_icmp .ne 22, 3, 0, 0, 0) := by decide +kernel
theorem l43_48 : (ax_dt (ax_T 43)).lookup 48 = some (.aload_n 0, 1, 0, 0, 0) := by decide +kernel
theorem l43_49 : (ax_dt (ax_T 43)).lookup 49 = some (.getfield 12, 3, 3, 0, 0) := by decide +kernel
theorem l43_52 : (ax_dt (ax_T 43)).lookup 52 = some (.aload_n 0, 1, 0, 0, 0) := by decide +kernel
theorem l43_53 : (ax_dt (ax_T 43)).lookup 53 = some (.getfield 28, 3, 3, 2, 0) := by decide +kernel
theorem l43_56 : (ax_dt (ax_T 43)).lookup 56 = some (.getfield 131, 3, 6, 0, 0) := by decide +kernel
theorem l43_59 : (ax_dt (ax_T 43)).lookup 59 = some (.iload_n 3, 1, 0, 0, 0) := by decide +kernel
theorem l43_60 : (ax_dt (ax_T 43)).lookup 60 = some (.iaload, 1, 0, 0, 0) := by decide +kernel
theorem l43_61 : (ax_dt (ax_T 43)).lookup 61 = some (.invokevirtual 134, 3, 79, 1, 0) := by decide +kernel
theorem l43_64 : (ax_dt (ax_T 43)).lookup 64 = some (.goto 20, 3, 0, 0, 0) := by decide +kernel
theorem l43_67 : (ax_dt (ax_T 43)).lookup 67 = some (.aload_n 0, 1, 0, 0, 0) := by decide +kernel
theorem l43_68 : (ax_dt (ax_T 43)).lookup 68 = some (.getfield 12, 3, 3, 0, 0) := by decide +kernel
theorem l43_71 : (ax_dt (ax_T 43)).lookup 71 = some (.iload_n 2, 1, 0, 0, 0) := by decide +kernel
theorem l43_72 : (ax_dt (ax_T 43)).lookup 72 = some (.aload_n 0, 1, 0, 0, 0) := by decide +kernel
theorem l43_73 : (ax_dt (ax_T 43)).lookup 73 = some (.getfield 28, 3, 3, 2, 0) := by decide +kernel
theorem l43_76 : (ax_dt (ax_T 43)).lookup 76 = some (.getfield 131, 3, 6, 0, 0) := by decide +kernel
theorem l43_79 : (ax_dt (ax_T 43)).lookup 79 = some (.iload_n 3, 1, 0, 0, 0) := by decide +kernel
theorem l43_80 : (ax_dt (ax_T 43)).lookup 80 = some (.iaload, 1, 0, 0, 0) := by decide +kernel
theorem l43_81 : (ax_dt (ax_T 43)).lookup 81 = some (.invokevirtual 137, 3, 80, 2, 0) := by decide +kernel
theorem l43_84 : (ax_dt (ax_T 43)).lookup 84 = some (.istore 5, 2, 0, 0, 0) := by decide +kernel
theorem l43_86 : (ax_dt (ax_T 43)).lookup 86 = some (.iconst 0, 1, 0, 0, 0) := by decide +kernel
theorem l43_87 : (ax_dt (ax_T 43)).lookup 87 = some (.istore 6, 2, 0, 0, 0) := by decide +kernel
theorem l43_89 : (ax_dt (ax_T 43)).lookup 89 = some (.iload 6, 2, 0, 0, 0) := by decide +kernel
theorem l43_91 : (ax_dt (ax_T 43)).lookup 91 = some (.aload_n 0, 1, 0, 0, 0) := by decide +kernel
theorem l43_92 : (ax_dt (ax_T 43)).lookup 92 = some (.getfield 28, 3, 3, 2, 0) := by decide +kernel
theorem l43_95 : (ax_dt (ax_T 43)).lookup 95 = some (.getfield 141, 3, 6, 2, 0) := by decide +kernel
theorem l43_98 : (ax_dt (ax_T 43)).lookup 98 = some (.iload_n 3, 1, 0, 0, 0) := by decide +kernel
theorem l43_99 : (ax_dt (ax_T 43)).lookup 99 = some (.iaload, 1, 0, 0, 0) := by decide +kernel
theorem l43_100 : (ax_dt (ax_T 43)).lookup 100 = some (.if_icmp .ge 89, 3, 0, 0, 0) := by decide +kernel
theorem l43_103 : (ax_dt (ax_T 43)).lookup 103 = some (.iload_n 3, 1, 0, 0, 0) := by decide +kernel
theorem l43_104 : (ax_dt (ax_T 43)).lookup 104 = some (.iload 6, 2, 0, 0, 0) := by decide +kernel
theorem l43_106 : (ax_dt (ax_T 43)).lookup 106 = some (.invokestatic 144, 3, 77, 2, 0) := by decide +kernel
theorem l43_109 : (ax_dt (ax_T 43)).lookup 109 = some (.istore 7, 2, 0, 0, 0) := by decide +kernel
theorem l43_111 : (ax_dt (ax_T 43)).lookup 111 = some (.aload_n 0, 1, 0, 0, 0) := by decide +kernel
theorem l43_112 : (ax_dt (ax_T 43)).lookup 112 = some (.getfield 28, 3, 3, 2, 0) := by decide +kernel
theorem l43_115 : (ax_dt (ax_T 43)).lookup 115 = some (.getfield 147, 3, 6, 4, 0) := by decide +kernel
theorem l43_118 : (ax_dt (ax_T 43)).lookup 118 = some (.iload 7, 2, 0, 0, 0) := by decide +kernel
theorem l43_120 : (ax_dt (ax_T 43)).lookup 120 = some (.iaload, 1, 0, 0, 0) := by decide +kernel
theorem l43_121 : (ax_dt (ax_T 43)).lookup 121 = some (.invokestatic 150, 3, 16, 1, 0) := by decide +kernel
theorem l43_124 : (ax_dt (ax_T 43)).lookup 124 = some (.ifCond .eq 33, 3, 0, 0, 0) := by decide +kernel
theorem l43_127 : (ax_dt (ax_T 43)).lookup 127 = some (.aload_n 0, 1, 0, 0, 0) := by decide +kernel
theorem l43_128 : (ax_dt (ax_T 43)).lookup 128 = some (.aload_n 1, 1, 0, 0, 0) := by decide +kernel
theorem l43_129 : (ax_dt (ax_T 43)).lookup 129 = some (.iload 5, 2, 0, 0, 0) := by decide +kernel
theorem l43_131 : (ax_dt (ax_T 43)).lookup 131 = some (.aload_n 0, 1, 0, 0, 0) := by decide +kernel
theorem l43_132 : (ax_dt (ax_T 43)).lookup 132 = some (.getfield 28, 3, 3, 2, 0) := by decide +kernel
theorem l43_135 : (ax_dt (ax_T 43)).lookup 135 = some (.getfield 156, 3, 6, 3, 0) := by decide +kernel
theorem l43_138 : (ax_dt (ax_T 43)).lookup 138 = some (.iload 7, 2, 0, 0, 0) := by decide +kernel
theorem l43_140 : (ax_dt (ax_T 43)).lookup 140 = some (.iaload, 1, 0, 0, 0) := by decide +kernel
theorem l43_141 : (ax_dt (ax_T 43)).lookup 141 = some (.aload_n 0, 1, 0, 0, 0) := by decide +kernel
theorem l43_142 : (ax_dt (ax_T 43)).lookup 142 = some (.getfield 28, 3, 3, 2, 0) := by decide +kernel
theorem l43_145 : (ax_dt (ax_T 43)).lookup 145 = some (.getfield 147, 3, 6, 4, 0) := by decide +kernel
theorem l43_148 : (ax_dt (ax_T 43)).lookup 148 = some (.iload 7, 2, 0, 0, 0) := by decide +kernel
theorem l43_150 : (ax_dt (ax_T 43)).lookup 150 = some (.iaload, 1, 0, 0, 0) := by decide +kernel
theorem l43_151 : (ax_dt (ax_T 43)).lookup 151 = some (.invokevirtual 159, 3, 45, 4, 0) := by decide +kernel
theorem l43_154 : (ax_dt (ax_T 43)).lookup 154 = some (.goto 29, 3, 0, 0, 0) := by decide +kernel
theorem l43_157 : (ax_dt (ax_T 43)).lookup 157 = some (.aload_n 0, 1, 0, 0, 0) := by decide +kernel
theorem l43_158 : (ax_dt (ax_T 43)).lookup 158 = some (.iload 5, 2, 0, 0, 0) := by decide +kernel
theorem l43_160 : (ax_dt (ax_T 43)).lookup 160 = some (.aload_n 0, 1, 0, 0, 0) := by decide +kernel
theorem l43_161 : (ax_dt (ax_T 43)).lookup 161 = some (.getfield 28, 3, 3, 2, 0) := by decide +kernel
theorem l43_164 : (ax_dt (ax_T 43)).lookup 164 = some (.getfield 156, 3, 6, 3, 0) := by decide +kernel
theorem l43_167 : (ax_dt (ax_T 43)).lookup 167 = some (.iload 7, 2, 0, 0, 0) := by decide +kernel
theorem l43_169 : (ax_dt (ax_T 43)).lookup 169 = some (.iaload, 1, 0, 0, 0) := by decide +kernel
theorem l43_170 : (ax_dt (ax_T 43)).lookup 170 = some (.aload_n 0, 1, 0, 0, 0) := by decide +kernel
theorem l43_171 : (ax_dt (ax_T 43)).lookup 171 = some (.getfield 28, 3, 3, 2, 0) := by decide +kernel
theorem l43_174 : (ax_dt (ax_T 43)).lookup 174 = some (.getfield 147, 3, 6, 4, 0) := by decide +kernel
theorem l43_177 : (ax_dt (ax_T 43)).lookup 177 = some (.iload 7, 2, 0, 0, 0) := by decide +kernel
theorem l43_179 : (ax_dt (ax_T 43)).lookup 179 = some (.iaload, 1, 0, 0, 0) := by decide +kernel
theorem l43_180 : (ax_dt (ax_T 43)).lookup 180 = some (.invokevirtual 162, 3, 44, 3, 0) := by decide +kernel
theorem l43_183 : (ax_dt (ax_T 43)).lookup 183 = some (.iinc 6 1, 3, 0, 0, 0) := by decide +kernel
theorem l43_186 : (ax_dt (ax_T 43)).lookup 186 = some (.goto (-97), 3, 0, 0, 0) := by decide +kernel
theorem l43_189 : (ax_dt (ax_T 43)).lookup 189 = some (.iload 5, 2, 0, 0, 0) := by decide +kernel
theorem l43_191 : (ax_dt (ax_T 43)).lookup 191 = some (.ireturn, 1, 0, 0, 0) := by decide +kernel
noncomputable def F_X4_readEntry_89 (v3 : Int) (v5 : Int) (v6 : Int) (μ : bM) : Option ((Int × bM) ⊕ ((Int ⊕ String) × bM)) := bG (0 ≤ v3 ∧ v3 < 200) (if (μ 52 v3.toNat) ≤ v6 then some (.inr (.inl v5, μ)) else (F_X8_slotAt v3 v6 μ).bind fun w2 => bG (0 ≤ w2 ∧ w2 < 1600) ((F_X2_isLetters (μ 54 w2.toNat) μ).bind fun w3 => if w3 = 0 then bG (0 ≤ w2 ∧ w2 < 1600) (bG (0 ≤ w2 ∧ w2 < 1600) (bXm (F_X4_readNumber v5 (μ 53 w2.toNat) (μ 54 w2.toNat) μ) (fun w5 μ6 => bG (bR (v6 + 1)) (some (.inl ((v6 + 1), μ6)))) (fun e μ => some (.inr (.inr e, μ))))) else bG (0 ≤ w2 ∧ w2 < 1600) (bG (0 ≤ w2 ∧ w2 < 1600) (bXm (F_X4_readLetters v5 (μ 53 w2.toNat) (μ 54 w2.toNat) μ) (fun w11 μ12 => bG (bR (v6 + 1)) (some (.inl ((v6 + 1), μ12)))) (fun e μ => some (.inr (.inr e, μ)))))))
noncomputable def F_X4_readEntry_43 (v2 : Int) (v3 : Int) (μ : bM) : Option ((Int ⊕ String) × bM) := if ¬ v2 = (-1) then bG (0 ≤ v3 ∧ v3 < 200) (bMm (F_X8_addChild (μ 30 0).toNat v2 (μ 50 v3.toNat) μ) (fun w2 μ3 => bLoop (fun z => F_X4_readEntry_89 v3 w2 z.1 z.2) (0, μ3))) else bG (0 ≤ v3 ∧ v3 < 200) (bMm (F_X8_addRoot (μ 30 0).toNat (μ 50 v3.toNat) μ) (fun w6 μ7 => bLoop (fun z => F_X4_readEntry_89 v3 w6 z.1 z.2) (0, μ7)))
noncomputable def F_X4_readEntry_32 (v2 : Int) (v3 : Int) (v4 : Int) (μ : bM) : Option ((Int ⊕ String) × bM) := bXm (F_X1_refuse 8 v4 μ) (fun w1 μ2 => F_X4_readEntry_43 v2 v3 μ2) (fun e μ => some (.inr e, μ))
noncomputable def F_X4_readEntry (v2 : Int) (v3 : Int) (v4 : Int) (μ : bM) : Option ((Int ⊕ String) × bM) := if (μ (μ 30 0).toNat 1) = 400 then F_X4_readEntry_32 v2 v3 v4 μ else if v2 = (-1) then F_X4_readEntry_43 v2 v3 μ else bG (0 ≤ v2 ∧ v2 < 400) (if ¬ (μ ((μ 30 0).toNat + 5) v2.toNat) = 30 then F_X4_readEntry_43 v2 v3 μ else F_X4_readEntry_32 v2 v3 v4 μ)
theorem q_X4_readEntry_89 {L : Nat} {xs : Nat → Int32} {d : Nat} {μ : bM} {v3 : Int} {v5 : Int} {κ : ((Int × bM) ⊕ ((Int ⊕ String) × bM)) → Option bX} (hr : ∀ r : (Int ⊕ String) × bM, κ (.inr r) = (bXc) r) (H89 : ∀ (v6 : Int) (μ : bM), bR v6 → bD L xs (d + 4) 43 89 [(0, .ref 30), (1, .ref 6), (3, bI v3), (5, bI v5), (6, bI v6)] [] μ (κ (.inl (v6, μ))))  (h3 : bR v3) (h5 : bR v5) {v6 : Int} (h6 : bR v6) : bD L xs (d + 4) 43 89 [(0, .ref 30), (1, .ref 6), (3, bI v3), (5, bI v5), (6, bI v6)] [] μ ((F_X4_readEntry_89 v3 v5 v6 μ).bind κ) := by
  unfold F_X4_readEntry_89
  refine bD.ok fun hk => ?_
  refine b_s (pc' := 91) (lv1 := [(0, .ref 30), (1, .ref 6), (3, bI v3), (5, bI v5), (6, bI v6)]) (st' := [bI v6]) l43_89 (fun _ => rfl) ?_
  refine b_s (pc' := 92) (lv1 := [(0, .ref 30), (1, .ref 6), (3, bI v3), (5, bI v5), (6, bI v6)]) (st' := [.ref 30, bI v6]) l43_91 (fun _ => rfl) ?_
  refine b_gp (q' := 49) (j := 19) l43_92 (by rfl) (by decide) (by decide) rfl hk rfl rfl (b_pc (pc' := 95) rfl ?_)
  refine b_gp (q' := 52) (j := 3) l43_95 (by rfl) (by decide) (by decide) rfl hk rfl rfl (b_pc (pc' := 98) rfl ?_)
  refine b_s (pc' := 99) (lv1 := [(0, .ref 30), (1, .ref 6), (3, bI v3), (5, bI v5), (6, bI v6)]) (st' := [bI v3, .ref 52, bI v6]) l43_98 (fun _ => rfl) ?_
  refine b_g fun g18 => ?_
  refine b_ial l43_99 (by rfl) g18 (b_pc (pc' := 100) rfl ?_)
  refine b_ige (pt := 189) l43_100 h6 (bO_i hk (by rfl)) (by decide) rfl (fun c1 => ?_) (fun c1 => b_pc (pc' := 103) rfl ?_)
  · refine b_s (pc' := 191) (lv1 := [(0, .ref 30), (1, .ref 6), (3, bI v3), (5, bI v5), (6, bI v6)]) (st' := [bI v5]) l43_189 (fun _ => rfl) ?_
    exact b_reti l43_191 rfl h5 (hr _)
  · refine b_s (pc' := 104) (lv1 := [(0, .ref 30), (1, .ref 6), (3, bI v3), (5, bI v5), (6, bI v6)]) (st' := [bI v3]) l43_103 (fun _ => rfl) ?_
    refine b_s (pc' := 106) (lv1 := [(0, .ref 30), (1, .ref 6), (3, bI v3), (5, bI v5), (6, bI v6)]) (st' := [bI v6, bI v3]) l43_104 (fun _ => rfl) ?_
    refine b_cPi l43_106 rfl (fun _ => trivial) (Nat.le_of_ble_eq_true rfl) (Nat.le_of_ble_eq_true rfl) rfl (r_X8_slotAt v3 h3 v6 h6) fun w2 hw2 => b_pc (pc' := 109) rfl ?_
    refine b_w (pc' := 111) (lv1 := ax_st1 [(0, .ref 30), (1, .ref 6), (3, bI v3), (5, bI v5), (6, bI v6)] 7 (bI w2)) (lv' := [(0, .ref 30), (1, .ref 6), (3, bI v3), (5, bI v5), (6, bI v6), (7, bI w2)]) (st' := []) l43_109 (fun _ => rfl) (bSb rfl (bSb rfl (bSb rfl (bSb rfl (bSb rfl (bSb rfl bSn)))))) ?_
    refine b_s (pc' := 112) (lv1 := [(0, .ref 30), (1, .ref 6), (3, bI v3), (5, bI v5), (6, bI v6), (7, bI w2)]) (st' := [.ref 30]) l43_111 (fun _ => rfl) ?_
    refine b_gp (q' := 49) (j := 19) l43_112 (by rfl) (by decide) (by decide) rfl hk rfl rfl (b_pc (pc' := 115) rfl ?_)
    refine b_gp (q' := 54) (j := 5) l43_115 (by rfl) (by decide) (by decide) rfl hk rfl rfl (b_pc (pc' := 118) rfl ?_)
    refine b_s (pc' := 120) (lv1 := [(0, .ref 30), (1, .ref 6), (3, bI v3), (5, bI v5), (6, bI v6), (7, bI w2)]) (st' := [bI w2, .ref 54]) l43_118 (fun _ => rfl) ?_
    refine b_g fun g17 => ?_
    refine b_ial l43_120 (by rfl) g17 (b_pc (pc' := 121) rfl ?_)
    refine b_cPz l43_121 rfl (fun _ => trivial) (Nat.le_of_ble_eq_true rfl) (Nat.le_of_ble_eq_true rfl) rfl (r_X2_isLetters (μ 54 w2.toNat) (bO_i hk (by rfl))) fun w3 hw3 => b_pc (pc' := 124) rfl ?_
    refine b_zeq (pt := 157) l43_124 (bZ_R hw3) (by decide) rfl (fun c4 => ?_) (fun c4 => b_pc (pc' := 127) rfl ?_)
    · refine b_s (pc' := 158) (lv1 := [(0, .ref 30), (1, .ref 6), (3, bI v3), (5, bI v5), (6, bI v6), (7, bI w2)]) (st' := [.ref 30]) l43_157 (fun _ => rfl) ?_
      refine b_s (pc' := 160) (lv1 := [(0, .ref 30), (1, .ref 6), (3, bI v3), (5, bI v5), (6, bI v6), (7, bI w2)]) (st' := [bI v5, .ref 30]) l43_158 (fun _ => rfl) ?_
      refine b_s (pc' := 161) (lv1 := [(0, .ref 30), (1, .ref 6), (3, bI v3), (5, bI v5), (6, bI v6), (7, bI w2)]) (st' := [.ref 30, bI v5, .ref 30]) l43_160 (fun _ => rfl) ?_
      refine b_gp (q' := 49) (j := 19) l43_161 (by rfl) (by decide) (by decide) rfl hk rfl rfl (b_pc (pc' := 164) rfl ?_)
      refine b_gp (q' := 53) (j := 4) l43_164 (by rfl) (by decide) (by decide) rfl hk rfl rfl (b_pc (pc' := 167) rfl ?_)
      refine b_s (pc' := 169) (lv1 := [(0, .ref 30), (1, .ref 6), (3, bI v3), (5, bI v5), (6, bI v6), (7, bI w2)]) (st' := [bI w2, .ref 53, bI v5, .ref 30]) l43_167 (fun _ => rfl) ?_
      refine b_g fun g10 => ?_
      refine b_ial l43_169 (by rfl) g10 (b_pc (pc' := 170) rfl ?_)
      refine b_s (pc' := 171) (lv1 := [(0, .ref 30), (1, .ref 6), (3, bI v3), (5, bI v5), (6, bI v6), (7, bI w2)]) (st' := [.ref 30, bI (μ 53 w2.toNat), bI v5, .ref 30]) l43_170 (fun _ => rfl) ?_
      refine b_gp (q' := 49) (j := 19) l43_171 (by rfl) (by decide) (by decide) rfl hk rfl rfl (b_pc (pc' := 174) rfl ?_)
      refine b_gp (q' := 54) (j := 5) l43_174 (by rfl) (by decide) (by decide) rfl hk rfl rfl (b_pc (pc' := 177) rfl ?_)
      refine b_s (pc' := 179) (lv1 := [(0, .ref 30), (1, .ref 6), (3, bI v3), (5, bI v5), (6, bI v6), (7, bI w2)]) (st' := [bI w2, .ref 54, bI (μ 53 w2.toNat), bI v5, .ref 30]) l43_177 (fun _ => rfl) ?_
      refine b_g fun g9 => ?_
      refine b_ial l43_179 (by rfl) g9 (b_pc (pc' := 180) rfl ?_)
      refine b_cXv l43_180 rfl (b_rc (ci := 3) (by rfl) (by decide) (by decide +kernel)) (Nat.le_of_ble_eq_true rfl) (Nat.le_of_ble_eq_true rfl) rfl (r_X4_readNumber v5 h5 (μ 53 w2.toNat) (bO_i hk (by rfl)) (μ 54 w2.toNat) (bO_i hk (by rfl))) ⟨fun _ z => (by cases z), (by decide +kernel)⟩ rfl (fun _ _ => hr _) fun w5 μ6 hw5 => bD.ok fun hk7 => b_pc (pc' := 183) rfl ?_
      refine b_inc (lv' := [(0, .ref 30), (1, .ref 6), (3, bI v3), (5, bI v5), (6, bI (v6 + 1))]) l43_183 rfl (by decide +kernel) (bSb rfl (bSb rfl (bSb rfl (bSb rfl (bSb rfl bSn))))) fun g8 => (b_pc (pc' := 186) rfl ?_)
      refine b_s (pc' := 89) (lv1 := [(0, .ref 30), (1, .ref 6), (3, bI v3), (5, bI v5), (6, bI (v6 + 1))]) (st' := []) l43_186 (fun _ => rfl) ?_
      refine bD.wk (lv' := [(0, .ref 30), (1, .ref 6), (3, bI v3), (5, bI v5), (6, bI (v6 + 1))]) (bSb rfl (bSb rfl (bSb rfl (bSb rfl (bSb rfl bSn))))) ?_
      exact H89 (v6 + 1) μ6 g8
    · refine b_s (pc' := 128) (lv1 := [(0, .ref 30), (1, .ref 6), (3, bI v3), (5, bI v5), (6, bI v6), (7, bI w2)]) (st' := [.ref 30]) l43_127 (fun _ => rfl) ?_
      refine b_s (pc' := 129) (lv1 := [(0, .ref 30), (1, .ref 6), (3, bI v3), (5, bI v5), (6, bI v6), (7, bI w2)]) (st' := [.ref 6, .ref 30]) l43_128 (fun _ => rfl) ?_
      refine b_s (pc' := 131) (lv1 := [(0, .ref 30), (1, .ref 6), (3, bI v3), (5, bI v5), (6, bI v6), (7, bI w2)]) (st' := [bI v5, .ref 6, .ref 30]) l43_129 (fun _ => rfl) ?_
      refine b_s (pc' := 132) (lv1 := [(0, .ref 30), (1, .ref 6), (3, bI v3), (5, bI v5), (6, bI v6), (7, bI w2)]) (st' := [.ref 30, bI v5, .ref 6, .ref 30]) l43_131 (fun _ => rfl) ?_
      refine b_gp (q' := 49) (j := 19) l43_132 (by rfl) (by decide) (by decide) rfl hk rfl rfl (b_pc (pc' := 135) rfl ?_)
      refine b_gp (q' := 53) (j := 4) l43_135 (by rfl) (by decide) (by decide) rfl hk rfl rfl (b_pc (pc' := 138) rfl ?_)
      refine b_s (pc' := 140) (lv1 := [(0, .ref 30), (1, .ref 6), (3, bI v3), (5, bI v5), (6, bI v6), (7, bI w2)]) (st' := [bI w2, .ref 53, bI v5, .ref 6, .ref 30]) l43_138 (fun _ => rfl) ?_
      refine b_g fun g16 => ?_
      refine b_ial l43_140 (by rfl) g16 (b_pc (pc' := 141) rfl ?_)
      refine b_s (pc' := 142) (lv1 := [(0, .ref 30), (1, .ref 6), (3, bI v3), (5, bI v5), (6, bI v6), (7, bI w2)]) (st' := [.ref 30, bI (μ 53 w2.toNat), bI v5, .ref 6, .ref 30]) l43_141 (fun _ => rfl) ?_
      refine b_gp (q' := 49) (j := 19) l43_142 (by rfl) (by decide) (by decide) rfl hk rfl rfl (b_pc (pc' := 145) rfl ?_)
      refine b_gp (q' := 54) (j := 5) l43_145 (by rfl) (by decide) (by decide) rfl hk rfl rfl (b_pc (pc' := 148) rfl ?_)
      refine b_s (pc' := 150) (lv1 := [(0, .ref 30), (1, .ref 6), (3, bI v3), (5, bI v5), (6, bI v6), (7, bI w2)]) (st' := [bI w2, .ref 54, bI (μ 53 w2.toNat), bI v5, .ref 6, .ref 30]) l43_148 (fun _ => rfl) ?_
      refine b_g fun g15 => ?_
      refine b_ial l43_150 (by rfl) g15 (b_pc (pc' := 151) rfl ?_)
      refine b_cXv l43_151 rfl (b_rc (ci := 3) (by rfl) (by decide) (by decide +kernel)) (Nat.le_of_ble_eq_true rfl) (Nat.le_of_ble_eq_true rfl) rfl (r_X4_readLetters v5 h5 (μ 53 w2.toNat) (bO_i hk (by rfl)) (μ 54 w2.toNat) (bO_i hk (by rfl))) ⟨fun _ z => (by cases z), (by decide +kernel)⟩ rfl (fun _ _ => hr _) fun w11 μ12 hw11 => bD.ok fun hk13 => b_pc (pc' := 154) rfl ?_
      refine b_s (pc' := 183) (lv1 := [(0, .ref 30), (1, .ref 6), (3, bI v3), (5, bI v5), (6, bI v6), (7, bI w2)]) (st' := []) l43_154 (fun _ => rfl) ?_
      refine b_inc (lv' := [(0, .ref 30), (1, .ref 6), (3, bI v3), (5, bI v5), (6, bI (v6 + 1))]) l43_183 rfl (by decide +kernel) (bSb rfl (bSb rfl (bSb rfl (bSb rfl (bSb rfl bSn))))) fun g14 => (b_pc (pc' := 186) rfl ?_)
      refine b_s (pc' := 89) (lv1 := [(0, .ref 30), (1, .ref 6), (3, bI v3), (5, bI v5), (6, bI (v6 + 1))]) (st' := []) l43_186 (fun _ => rfl) ?_
      refine bD.wk (lv' := [(0, .ref 30), (1, .ref 6), (3, bI v3), (5, bI v5), (6, bI (v6 + 1))]) (bSb rfl (bSb rfl (bSb rfl (bSb rfl (bSb rfl bSn))))) ?_
      exact H89 (v6 + 1) μ12 g14
theorem p_X4_readEntry_89 {L : Nat} {xs : Nat → Int32} {d : Nat} {μ : bM}  {κ : ((Int ⊕ String) × bM) → Option bX} (hr : ∀ r : (Int ⊕ String) × bM, κ r = (bXc) r)  {v3 : Int} (h3 : bR v3) {v5 : Int} (h5 : bR v5) {v6 : Int} (h6 : bR v6) : bD L xs (d + 4) 43 89 [(0, .ref 30), (1, .ref 6), (3, bI v3), (5, bI v5), (6, bI v6)] [] μ ((bLoop (fun z => F_X4_readEntry_89 v3 v5 z.1 z.2) (v6, μ)).bind κ) :=
  b_loop (fun z => [(0, .ref 30), (1, .ref 6), (3, bI v3), (5, bI v5), (6, bI z.1)]) (fun z => z.2) (fun z => bR z.1) (fun κ' hκ HH z hz => q_X4_readEntry_89 (κ := κ') (fun r => (hκ _).trans (hr r)) (fun a6 am b6 => HH (a6, am) b6)  h3 h5 hz) (v6, μ) h6
theorem p_X4_readEntry_43 {L : Nat} {xs : Nat → Int32} {d : Nat} {μ : bM}  {κ : ((Int ⊕ String) × bM) → Option bX} (hr : ∀ r : (Int ⊕ String) × bM, κ r = (bXc) r)  {v2 : Int} (h2 : bR v2) {v3 : Int} (h3 : bR v3) : bD L xs (d + 4) 43 43 [(0, .ref 30), (1, .ref 6), (2, bI v2), (3, bI v3)] [] μ ((F_X4_readEntry_43 v2 v3 μ).bind κ) := by
  unfold F_X4_readEntry_43
  refine bD.ok fun hk => ?_
  refine b_s (pc' := 44) (lv1 := [(0, .ref 30), (1, .ref 6), (2, bI v2), (3, bI v3)]) (st' := [bI v2]) l43_43 (fun _ => rfl) ?_
  refine b_s (pc' := 45) (lv1 := [(0, .ref 30), (1, .ref 6), (2, bI v2), (3, bI v3)]) (st' := [bI (-1), bI v2]) l43_44 (fun _ => rfl) ?_
  refine b_ine (pt := 67) l43_45 h2 (by decide) (by decide) rfl (fun c1 => ?_) (fun c1 => b_pc (pc' := 48) rfl ?_)
  · refine b_s (pc' := 68) (lv1 := [(0, .ref 30), (1, .ref 6), (2, bI v2), (3, bI v3)]) (st' := [.ref 30]) l43_67 (fun _ => rfl) ?_
    refine b_gr l43_68 (by rfl) (by decide) (by decide) rfl (b_pc (pc' := 71) rfl ?_)
    refine b_s (pc' := 72) (lv1 := [(0, .ref 30), (1, .ref 6), (2, bI v2), (3, bI v3)]) (st' := [bI v2, .ref (μ 30 0).toNat]) l43_71 (fun _ => rfl) ?_
    refine b_s (pc' := 73) (lv1 := [(0, .ref 30), (1, .ref 6), (2, bI v2), (3, bI v3)]) (st' := [.ref 30, bI v2, .ref (μ 30 0).toNat]) l43_72 (fun _ => rfl) ?_
    refine b_gp (q' := 49) (j := 19) l43_73 (by rfl) (by decide) (by decide) rfl hk rfl rfl (b_pc (pc' := 76) rfl ?_)
    refine b_gp (q' := 50) (j := 1) l43_76 (by rfl) (by decide) (by decide) rfl hk rfl rfl (b_pc (pc' := 79) rfl ?_)
    refine b_s (pc' := 80) (lv1 := [(0, .ref 30), (1, .ref 6), (2, bI v2), (3, bI v3)]) (st' := [bI v3, .ref 50, bI v2, .ref (μ 30 0).toNat]) l43_79 (fun _ => rfl) ?_
    refine b_g fun g5 => ?_
    refine b_ial l43_80 (by rfl) g5 (b_pc (pc' := 81) rfl ?_)
    refine b_cMi l43_81 rfl (b_rc (ci := 7) (bO_ft hk (ci := 3) (by rfl) rfl) (by decide) (by decide +kernel)) (Nat.le_of_ble_eq_true rfl) (Nat.le_of_ble_eq_true rfl) rfl (r_X8_addChild (μ 30 0).toNat (bO_ft hk (ci := 3) (by rfl) rfl) v2 h2 (μ 50 v3.toNat) (bO_i hk (by rfl))) fun w2 μ3 hw2 => bD.ok fun hk4 => b_pc (pc' := 84) rfl ?_
    refine b_w (pc' := 86) (lv1 := ax_st1 [(0, .ref 30), (1, .ref 6), (2, bI v2), (3, bI v3)] 5 (bI w2)) (lv' := [(0, .ref 30), (1, .ref 6), (3, bI v3), (5, bI w2)]) (st' := []) l43_84 (fun _ => rfl) (bSb rfl (bSb rfl (bSb rfl (bSb rfl bSn)))) ?_
    refine b_s (pc' := 87) (lv1 := [(0, .ref 30), (1, .ref 6), (3, bI v3), (5, bI w2)]) (st' := [bI 0]) l43_86 (fun _ => rfl) ?_
    refine b_w (pc' := 89) (lv1 := ax_st1 [(0, .ref 30), (1, .ref 6), (3, bI v3), (5, bI w2)] 6 (bI 0)) (lv' := [(0, .ref 30), (1, .ref 6), (3, bI v3), (5, bI w2), (6, bI 0)]) (st' := []) l43_87 (fun _ => rfl) (bSb rfl (bSb rfl (bSb rfl (bSb rfl (bSb rfl bSn))))) ?_
    refine bD.wk (lv' := [(0, .ref 30), (1, .ref 6), (3, bI v3), (5, bI w2), (6, bI 0)]) (bSb rfl (bSb rfl (bSb rfl (bSb rfl (bSb rfl bSn))))) ?_
    exact p_X4_readEntry_89 hr h3 hw2 (by decide)
  · refine b_s (pc' := 49) (lv1 := [(0, .ref 30), (1, .ref 6), (2, bI v2), (3, bI v3)]) (st' := [.ref 30]) l43_48 (fun _ => rfl) ?_
    refine b_gr l43_49 (by rfl) (by decide) (by decide) rfl (b_pc (pc' := 52) rfl ?_)
    refine b_s (pc' := 53) (lv1 := [(0, .ref 30), (1, .ref 6), (2, bI v2), (3, bI v3)]) (st' := [.ref 30, .ref (μ 30 0).toNat]) l43_52 (fun _ => rfl) ?_
    refine b_gp (q' := 49) (j := 19) l43_53 (by rfl) (by decide) (by decide) rfl hk rfl rfl (b_pc (pc' := 56) rfl ?_)
    refine b_gp (q' := 50) (j := 1) l43_56 (by rfl) (by decide) (by decide) rfl hk rfl rfl (b_pc (pc' := 59) rfl ?_)
    refine b_s (pc' := 60) (lv1 := [(0, .ref 30), (1, .ref 6), (2, bI v2), (3, bI v3)]) (st' := [bI v3, .ref 50, .ref (μ 30 0).toNat]) l43_59 (fun _ => rfl) ?_
    refine b_g fun g9 => ?_
    refine b_ial l43_60 (by rfl) g9 (b_pc (pc' := 61) rfl ?_)
    refine b_cMi l43_61 rfl (b_rc (ci := 7) (bO_ft hk (ci := 3) (by rfl) rfl) (by decide) (by decide +kernel)) (Nat.le_of_ble_eq_true rfl) (Nat.le_of_ble_eq_true rfl) rfl (r_X8_addRoot (μ 30 0).toNat (bO_ft hk (ci := 3) (by rfl) rfl) (μ 50 v3.toNat) (bO_i hk (by rfl))) fun w6 μ7 hw6 => bD.ok fun hk8 => b_pc (pc' := 64) rfl ?_
    refine b_s (pc' := 84) (lv1 := [(0, .ref 30), (1, .ref 6), (2, bI v2), (3, bI v3)]) (st' := [bI w6]) l43_64 (fun _ => rfl) ?_
    refine b_w (pc' := 86) (lv1 := ax_st1 [(0, .ref 30), (1, .ref 6), (2, bI v2), (3, bI v3)] 5 (bI w6)) (lv' := [(0, .ref 30), (1, .ref 6), (3, bI v3), (5, bI w6)]) (st' := []) l43_84 (fun _ => rfl) (bSb rfl (bSb rfl (bSb rfl (bSb rfl bSn)))) ?_
    refine b_s (pc' := 87) (lv1 := [(0, .ref 30), (1, .ref 6), (3, bI v3), (5, bI w6)]) (st' := [bI 0]) l43_86 (fun _ => rfl) ?_
    refine b_w (pc' := 89) (lv1 := ax_st1 [(0, .ref 30), (1, .ref 6), (3, bI v3), (5, bI w6)] 6 (bI 0)) (lv' := [(0, .ref 30), (1, .ref 6), (3, bI v3), (5, bI w6), (6, bI 0)]) (st' := []) l43_87 (fun _ => rfl) (bSb rfl (bSb rfl (bSb rfl (bSb rfl (bSb rfl bSn))))) ?_
    refine bD.wk (lv' := [(0, .ref 30), (1, .ref 6), (3, bI v3), (5, bI w6), (6, bI 0)]) (bSb rfl (bSb rfl (bSb rfl (bSb rfl (bSb rfl bSn))))) ?_
    exact p_X4_readEntry_89 hr h3 hw6 (by decide)
theorem p_X4_readEntry_32 {L : Nat} {xs : Nat → Int32} {d : Nat} {μ : bM}  {κ : ((Int ⊕ String) × bM) → Option bX} (hr : ∀ r : (Int ⊕ String) × bM, κ r = (bXc) r)  {v2 : Int} (h2 : bR v2) {v3 : Int} (h3 : bR v3) {v4 : Int} (h4 : bR v4) : bD L xs (d + 4) 43 32 [(0, .ref 30), (1, .ref 6), (2, bI v2), (3, bI v3), (4, bI v4)] [] μ ((F_X4_readEntry_32 v2 v3 v4 μ).bind κ) := by
  unfold F_X4_readEntry_32
  refine bD.ok fun hk => ?_
  refine b_s (pc' := 33) (lv1 := [(0, .ref 30), (1, .ref 6), (2, bI v2), (3, bI v3), (4, bI v4)]) (st' := [.ref 30]) l43_32 (fun _ => rfl) ?_
  refine b_gp (q' := 46) (j := 16) l43_33 (by rfl) (by decide) (by decide) rfl hk rfl rfl (b_pc (pc' := 36) rfl ?_)
  refine b_bipush l43_36 (by decide) (b_pc (pc' := 38) rfl ?_)
  refine b_s (pc' := 40) (lv1 := [(0, .ref 30), (1, .ref 6), (2, bI v2), (3, bI v3), (4, bI v4)]) (st' := [bI v4, bI 8, .ref 46]) l43_38 (fun _ => rfl) ?_
  refine b_cXv l43_40 rfl (b_rc (ci := 1) (by rfl) (by decide) (by decide +kernel)) (Nat.le_of_ble_eq_true rfl) (Nat.le_of_ble_eq_true rfl) rfl (r_X1_refuse 8 (by decide) v4 h4) ⟨fun _ z => (by cases z), (by decide +kernel)⟩ rfl (fun _ _ => hr _) fun w1 μ2 hw1 => bD.ok fun hk3 => b_pc (pc' := 43) rfl ?_
  refine bD.wk (lv' := [(0, .ref 30), (1, .ref 6), (2, bI v2), (3, bI v3)]) (bSb rfl (bSb rfl (bSb rfl (bSb rfl bSn)))) ?_
  exact p_X4_readEntry_43 hr h2 h3
theorem r_X4_readEntry {L : Nat} {xs : Nat → Int32} {d : Nat} {μ : bM}  (v2 : Int) (h2 : bR v2) (v3 : Int) (h3 : bR v3) (v4 : Int) (h4 : bR v4) : bD L xs (d + 4) 43 0 [(0, .ref 30), (1, .ref 6), (2, bI v2), (3, bI v3), (4, bI v4)] [] μ ((F_X4_readEntry v2 v3 v4 μ).bind (bXc)) := by
  have hr : ∀ r, (bXc) r = (bXc) r := fun _ => rfl
  unfold F_X4_readEntry
  refine bD.ok fun hk => ?_
  refine b_s (pc' := 1) (lv1 := [(0, .ref 30), (1, .ref 6), (2, bI v2), (3, bI v3), (4, bI v4)]) (st' := [.ref 30]) l43_0 (fun _ => rfl) ?_
  refine b_gr l43_1 (by rfl) (by decide) (by decide) rfl (b_pc (pc' := 4) rfl ?_)
  refine b_gi l43_4 (bO_ft hk (ci := 3) (by rfl) rfl) (by decide) (by decide) rfl (b_pc (pc' := 7) rfl ?_)
  refine b_sipush l43_7 (by decide) (b_pc (pc' := 10) rfl ?_)
  refine b_ieq (pt := 32) l43_10 (bO_f hk (ci := 7) (bO_ft hk (ci := 3) (by rfl) rfl) rfl) (by decide) (by decide) rfl (fun c1 => ?_) (fun c1 => b_pc (pc' := 13) rfl ?_)
  · refine bD.wk (lv' := [(0, .ref 30), (1, .ref 6), (2, bI v2), (3, bI v3), (4, bI v4)]) (bSb rfl (bSb rfl (bSb rfl (bSb rfl (bSb rfl bSn))))) ?_
    exact p_X4_readEntry_32 hr h2 h3 h4
  · refine b_s (pc' := 14) (lv1 := [(0, .ref 30), (1, .ref 6), (2, bI v2), (3, bI v3), (4, bI v4)]) (st' := [bI v2]) l43_13 (fun _ => rfl) ?_
    refine b_s (pc' := 15) (lv1 := [(0, .ref 30), (1, .ref 6), (2, bI v2), (3, bI v3), (4, bI v4)]) (st' := [bI (-1), bI v2]) l43_14 (fun _ => rfl) ?_
    refine b_ieq (pt := 43) l43_15 h2 (by decide) (by decide) rfl (fun c2 => ?_) (fun c2 => b_pc (pc' := 18) rfl ?_)
    · refine bD.wk (lv' := [(0, .ref 30), (1, .ref 6), (2, bI v2), (3, bI v3)]) (bSb rfl (bSb rfl (bSb rfl (bSb rfl bSn)))) ?_
      exact p_X4_readEntry_43 hr h2 h3
    · refine b_s (pc' := 19) (lv1 := [(0, .ref 30), (1, .ref 6), (2, bI v2), (3, bI v3), (4, bI v4)]) (st' := [.ref 30]) l43_18 (fun _ => rfl) ?_
      refine b_gr l43_19 (by rfl) (by decide) (by decide) rfl (b_pc (pc' := 22) rfl ?_)
      refine b_gp (q' := ((μ 30 0).toNat + 5)) (j := 5) l43_22 (bO_ft hk (ci := 3) (by rfl) rfl) (by decide) (by decide) rfl hk rfl rfl (b_pc (pc' := 25) rfl ?_)
      refine b_s (pc' := 26) (lv1 := [(0, .ref 30), (1, .ref 6), (2, bI v2), (3, bI v3), (4, bI v4)]) (st' := [bI v2, .ref ((μ 30 0).toNat + 5)]) l43_25 (fun _ => rfl) ?_
      refine b_g fun g4 => ?_
      refine b_ial l43_26 (bTree_e (bO_ft hk (ci := 3) (by rfl) rfl) 5 (by decide)) g4 (b_pc (pc' := 27) rfl ?_)
      refine b_bipush l43_27 (by decide) (b_pc (pc' := 29) rfl ?_)
      refine b_ine (pt := 43) l43_29 (bO_i hk (bTree_e (bO_ft hk (ci := 3) (by rfl) rfl) 5 (by decide))) (by decide) (by decide) rfl (fun c3 => ?_) (fun c3 => b_pc (pc' := 32) rfl ?_)
      · refine bD.wk (lv' := [(0, .ref 30), (1, .ref 6), (2, bI v2), (3, bI v3)]) (bSb rfl (bSb rfl (bSb rfl (bSb rfl bSn)))) ?_
        exact p_X4_readEntry_43 hr h2 h3
      · refine bD.wk (lv' := [(0, .ref 30), (1, .ref 6), (2, bI v2), (3, bI v3), (4, bI v4)]) (bSb rfl (bSb rfl (bSb rfl (bSb rfl (bSb rfl bSn))))) ?_
        exact p_X4_readEntry_32 hr h2 h3 h4
/-! ET$Reader.readEntries -/
theorem l42_0 : (ax_dt (ax_T 42)).lookup 0 = some (.iconst (-1), 1, 0, 0, 0) := by decide +kernel
theorem l42_1 : (ax_dt (ax_T 42)).lookup 1 = some (.istore_n 3, 1, 0, 0, 0) := by decide +kernel
theorem l42_2 : (ax_dt (ax_T 42)).lookup 2 = some (.iconst 0, 1, 0, 0, 0) := by decide +kernel
theorem l42_3 : (ax_dt (ax_T 42)).lookup 3 = some (.istore 4, 2, 0, 0, 0) := by decide +kernel
theorem l42_5 : (ax_dt (ax_T 42)).lookup 5 = some (.iload 4, 2, 0, 0, 0) := by decide +kernel
theorem l42_7 : (ax_dt (ax_T 42)).lookup 7 = some (.sipush 24000, 3, 0, 0, 0) := by decide +kernel
theorem l42_10 : (ax_dt (ax_T 42)).lookup 10 = some (.if_icmp .gt 126, 3, 0, 0, 0) := by decide +kernel
theorem l42_13 : (ax_dt (ax_T 42)).lookup 13 = some (.aload_n 0, 1, 0, 0, 0) := by decide +kernel
theorem l42_14 : (ax_dt (ax_T 42)).lookup 14 = some (.getfield 21, 3, 3, 1, 0) := by decide +kernel
theorem l42_17 : (ax_dt (ax_T 42)).lookup 17 = some (.getfield 90, 3, 1, 0, 0) := by decide +kernel
theorem l42_20 : (ax_dt (ax_T 42)).lookup 20 = some (.istore 5, 2, 0, 0, 0) := by decide +kernel
theorem l42_22 : (ax_dt (ax_T 42)).lookup 22 = some (.aload_n 0, 1, 0, 0, 0) := by decide +kernel
theorem l42_23 : (ax_dt (ax_T 42)).lookup 23 = some (.getfield 21, 3, 3, 1, 0) := by decide +kernel
theorem l42_26 : (ax_dt (ax_T 42)).lookup 26 = some (.invokevirtual 108, 3, 12, 0, 0) := by decide +kernel
theorem l42_29 : (ax_dt (ax_T 42)).lookup 29 = some (.istore 6, 2, 0, 0, 0) := by decide +kernel
theorem l42_31 : (ax_dt (ax_T 42)).lookup 31 = some (.iload 6, 2, 0, 0, 0) := by decide +kernel
theorem l42_33 : (ax_dt (ax_T 42)).lookup 33 = some (.ifCond .ne 21, 3, 0, 0, 0) := by decide +kernel
theorem l42_36 : (ax_dt (ax_T 42)).lookup 36 = some (.iload_n 3, 1, 0, 0, 0) := by decide +kernel
theorem l42_37 : (ax_dt (ax_T 42)).lookup 37 = some (.iconst (-1), 1, 0, 0, 0) := by decide +kernel
theorem l42_38 : (ax_dt (ax_T 42)).lookup 38 = some (.if_icmp .eq 16, 3, 0, 0, 0) := by decide +kernel
theorem l42_41 : (ax_dt (ax_T 42)).lookup 41 = some (.aload_n 0, 1, 0, 0, 0) := by decide +kernel
theorem l42_42 : (ax_dt (ax_T 42)).lookup 42 = some (.getfield 12, 3, 3, 0, 0) := by decide +kernel
theorem l42_45 : (ax_dt (ax_T 42)).lookup 45 = some (.getfield 111, 3, 7, 4, 0) := by decide +kernel
theorem l42_48 : (ax_dt (ax_T 42)).lookup 48 = some (.iload_n 3, 1, 0, 0, 0) := by decide +kernel
theorem l42_49 : (ax_dt (ax_T 42)).lookup 49 = some (.iaload, 1, 0, 0, 0) := by decide +kernel
theorem l42_50 : (ax_dt (ax_T 42)).lookup 50 = some (.istore_n 3, 1, 0, 0, 0) := by decide +kernel
theorem l42_51 : (ax_dt (ax_T 42)).lookup 51 = some (.goto 73, 3, 0, 0, 0) := by decide +kernel
theorem l42_54 : (ax_dt (ax_T 42)).lookup 54 = some (.aload_n 0, 1, 0, 0, 0) := by decide +kernel
theorem l42_55 : (ax_dt (ax_T 42)).lookup 55 = some (.getfield 28, 3, 3, 2, 0) := by decide +kernel
theorem l42_58 : (ax_dt (ax_T 42)).lookup 58 = some (.iload 6, 2, 0, 0, 0) := by decide +kernel
theorem l42_60 : (ax_dt (ax_T 42)).lookup 60 = some (.invokevirtual 114, 3, 71, 1, 0) := by decide +kernel
theorem l42_63 : (ax_dt (ax_T 42)).lookup 63 = some (.istore 7, 2, 0, 0, 0) := by decide +kernel
theorem l42_65 : (ax_dt (ax_T 42)).lookup 65 = some (.iload 7, 2, 0, 0, 0) := by decide +kernel
theorem l42_67 : (ax_dt (ax_T 42)).lookup 67 = some (.iconst (-1), 1, 0, 0, 0) := by decide +kernel
theorem l42_68 : (ax_dt (ax_T 42)).lookup 68 = some (.if_icmp .ne 13, 3, 0, 0, 0) := by decide +kernel
theorem l42_71 : (ax_dt (ax_T 42)).lookup 71 = some (.aload_n 0, 1, 0, 0, 0) := by decide +kernel
theorem l42_72 : (ax_dt (ax_T 42)).lookup 72 = some (.getfield 21, 3, 3, 1, 0) := by decide +kernel
theorem l42_75 : (ax_dt (ax_T 42)).lookup 75 = some (.iconst 5, 1, 0, 0, 0) := by decide +kernel
theorem l42_76 : (ax_dt (ax_T 42)).lookup 76 = some (.iload 5, 2, 0, 0, 0) := by decide +kernel
theorem l42_78 : (ax_dt (ax_T 42)).lookup 78 = some (.invokevirtual 68, 3, 9, 2, 0) := by decide +kernel
theorem l42_81 : (ax_dt (ax_T 42)).lookup 81 = some (.aload_n 0, 1, 0, 0, 0) := by decide +kernel
theorem l42_82 : (ax_dt (ax_T 42)).lookup 82 = some (.aload_n 1, 1, 0, 0, 0) := by decide +kernel
theorem l42_83 : (ax_dt (ax_T 42)).lookup 83 = some (.iload_n 3, 1, 0, 0, 0) := by decide +kernel
theorem l42_84 : (ax_dt (ax_T 42)).lookup 84 = some (.iload 7, 2, 0, 0, 0) := by decide +kernel
theorem l42_86 : (ax_dt (ax_T 42)).lookup 86 = some (.iload 5, 2, 0, 0, 0) := by decide +kernel
theorem l42_88 : (ax_dt (ax_T 42)).lookup 88 = some (.invokevirtual 118, 3, 43, 4, 0) := by decide +kernel
theorem l42_91 : (ax_dt (ax_T 42)).lookup 91 = some (.istore 8, 2, 0, 0, 0) := by decide +kernel
theorem l42_93 : (ax_dt (ax_T 42)).lookup 93 = some (.aload_n 0, 1, 0, 0, 0) := by decide +kernel
theorem l42_94 : (ax_dt (ax_T 42)).lookup 94 = some (.getfield 32, 3, 3, 5, 0) := by decide +kernel
theorem l42_97 : (ax_dt (ax_T 42)).lookup 97 = some (.iload 8, 2, 0, 0, 0) := by decide +kernel
theorem l42_99 : (ax_dt (ax_T 42)).lookup 99 = some (.iload 5, 2, 0, 0, 0) := by decide +kernel
theorem l42_101 : (ax_dt (ax_T 42)).lookup 101 = some (.iload_n 2, 1, 0, 0, 0) := by decide +kernel
theorem l42_102 : (ax_dt (ax_T 42)).lookup 102 = some (.isub, 1, 0, 0, 0) := by decide +kernel
theorem l42_103 : (ax_dt (ax_T 42)).lookup 103 = some (.iastore, 1, 0, 0, 0) := by decide +kernel
theorem l42_104 : (ax_dt (ax_T 42)).lookup 104 = some (.aload_n 0, 1, 0, 0, 0) := by decide +kernel
theorem l42_105 : (ax_dt (ax_T 42)).lookup 105 = some (.getfield 28, 3, 3, 2, 0) := by decide +kernel
theorem l42_108 : (ax_dt (ax_T 42)).lookup 108 = some (.getfield 122, 3, 6, 1, 0) := by decide +kernel
theorem l42_111 : (ax_dt (ax_T 42)).lookup 111 = some (.iload 7, 2, 0, 0, 0) := by decide +kernel
theorem l42_113 : (ax_dt (ax_T 42)).lookup 113 = some (.baload, 1, 0, 0, 0) := by decide +kernel
theorem l42_114 : (ax_dt (ax_T 42)).lookup 114 = some (.ifCond .eq 8, 3, 0, 0, 0) := by decide +kernel
theorem l42_117 : (ax_dt (ax_T 42)).lookup 117 = some (.iload 8, 2, 0, 0, 0) := by decide +kernel
theorem l42_119 : (ax_dt (ax_T 42)).lookup 119 = some (.goto 4, 3, 0, 0, 0) := by decide +kernel
theorem l42_122 : (ax_dt (ax_T 42)).lookup 122 = some (.iload_n 3, 1, 0, 0, 0) := by decide +kernel
theorem l42_123 : (ax_dt (ax_T 42)).lookup 123 = some (.istore_n 3, 1, 0, 0, 0) := by decide +kernel
theorem l42_124 : (ax_dt (ax_T 42)).lookup 124 = some (.iload_n 3, 1, 0, 0, 0) := by decide +kernel
theorem l42_125 : (ax_dt (ax_T 42)).lookup 125 = some (.iconst (-1), 1, 0, 0, 0) := by decide +kernel
theorem l42_126 : (ax_dt (ax_T 42)).lookup 126 = some (.if_icmp .ne 4, 3, 0, 0, 0) := by decide +kernel
theorem l42_129 : (ax_dt (ax_T 42)).lookup 129 = some (.return_, 1, 0, 0, 0) := by decide +kernel
theorem l42_130 : (ax_dt (ax_T 42)).lookup 130 = some (.iinc 4 1, 3, 0, 0, 0) := by decide +kernel
theorem l42_133 : (ax_dt (ax_T 42)).lookup 133 = some (.goto (-128), 3, 0, 0, 0) := by decide +kernel
theorem l42_136 : (ax_dt (ax_T 42)).lookup 136 = some (.return_, 1, 0, 0, 0) := by decide +kernel
noncomputable def F_X4_readEntries_81 (v2 : Int) (v3 : Int) (v4 : Int) (v5 : Int) (v7 : Int) (μ : bM) : Option ((Int × Int × bM) ⊕ ((Int ⊕ String) × bM)) := bXm (F_X4_readEntry v3 v7 v5 μ) (fun w1 μ2 => bG (bR (v5 - v2)) (bG (0 ≤ w1 ∧ w1 < 400) (bG (0 ≤ v7 ∧ v7 < 200) (if ((bset μ2 59 w1.toNat (v5 - v2)) 51 v7.toNat) = 0 then if ¬ v3 = (-1) then bG (bR (v4 + 1)) (some (.inl (v3, (v4 + 1), (bset μ2 59 w1.toNat (v5 - v2))))) else some (.inr (.inl 0, (bset μ2 59 w1.toNat (v5 - v2)))) else if ¬ w1 = (-1) then bG (bR (v4 + 1)) (some (.inl (w1, (v4 + 1), (bset μ2 59 w1.toNat (v5 - v2))))) else some (.inr (.inl 0, (bset μ2 59 w1.toNat (v5 - v2)))))))) (fun e μ => some (.inr (.inr e, μ)))
noncomputable def F_X4_readEntries_54 (v2 : Int) (v3 : Int) (v4 : Int) (v5 : Int) (v6 : Int) (μ : bM) : Option ((Int × Int × bM) ⊕ ((Int ⊕ String) × bM)) := (F_X7_indexOf v6 μ).bind fun w1 => if ¬ w1 = (-1) then F_X4_readEntries_81 v2 v3 v4 v5 w1 μ else bXm (F_X1_refuse 5 v5 μ) (fun w3 μ4 => F_X4_readEntries_81 v2 v3 v4 v5 w1 μ4) (fun e μ => some (.inr (.inr e, μ)))
noncomputable def F_X4_readEntries_5 (v2 : Int) (v3 : Int) (v4 : Int) (μ : bM) : Option ((Int × Int × bM) ⊕ ((Int ⊕ String) × bM)) := if 24000 < v4 then some (.inr (.inl 0, μ)) else bXm (F_X1_smallRow μ) (fun w2 μ3 => if ¬ w2 = 0 then F_X4_readEntries_54 v2 v3 v4 (μ 46 0) w2 μ3 else if v3 = (-1) then F_X4_readEntries_54 v2 v3 v4 (μ 46 0) w2 μ3 else bG (0 ≤ v3 ∧ v3 < 400) (if ¬ (μ3 ((μ3 30 0).toNat + 3) v3.toNat) = (-1) then bG (bR (v4 + 1)) (some (.inl ((μ3 ((μ3 30 0).toNat + 3) v3.toNat), (v4 + 1), μ3))) else some (.inr (.inl 0, μ3)))) (fun e μ => some (.inr (.inr e, μ)))
noncomputable def F_X4_readEntries (v2 : Int) (μ : bM) : Option ((Int ⊕ String) × bM) := bLoop (fun z => F_X4_readEntries_5 v2 z.1 z.2.1 z.2.2) ((-1), 0, μ)
theorem p_X4_readEntries_81 {L : Nat} {xs : Nat → Int32} {d : Nat} {μ : bM} {v2 : Int} {κ : ((Int × Int × bM) ⊕ ((Int ⊕ String) × bM)) → Option bX} (hr : ∀ r : (Int ⊕ String) × bM, κ (.inr r) = (bXc) r) (H5 : ∀ (v3 : Int) (v4 : Int) (μ : bM), bR v3 → bR v4 → bD L xs (d + 5) 42 5 [(0, .ref 30), (1, .ref 6), (2, bI v2), (3, bI v3), (4, bI v4)] [] μ (κ (.inl (v3, v4, μ))))  (h2 : bR v2) {v3 : Int} (h3 : bR v3) {v4 : Int} (h4 : bR v4) {v5 : Int} (h5 : bR v5) {v7 : Int} (h7 : bR v7) : bD L xs (d + 5) 42 81 [(0, .ref 30), (1, .ref 6), (2, bI v2), (3, bI v3), (4, bI v4), (5, bI v5), (7, bI v7)] [] μ ((F_X4_readEntries_81 v2 v3 v4 v5 v7 μ).bind κ) := by
  unfold F_X4_readEntries_81
  refine bD.ok fun hk => ?_
  refine b_s (pc' := 82) (lv1 := [(0, .ref 30), (1, .ref 6), (2, bI v2), (3, bI v3), (4, bI v4), (5, bI v5), (7, bI v7)]) (st' := [.ref 30]) l42_81 (fun _ => rfl) ?_
  refine b_s (pc' := 83) (lv1 := [(0, .ref 30), (1, .ref 6), (2, bI v2), (3, bI v3), (4, bI v4), (5, bI v5), (7, bI v7)]) (st' := [.ref 6, .ref 30]) l42_82 (fun _ => rfl) ?_
  refine b_s (pc' := 84) (lv1 := [(0, .ref 30), (1, .ref 6), (2, bI v2), (3, bI v3), (4, bI v4), (5, bI v5), (7, bI v7)]) (st' := [bI v3, .ref 6, .ref 30]) l42_83 (fun _ => rfl) ?_
  refine b_s (pc' := 86) (lv1 := [(0, .ref 30), (1, .ref 6), (2, bI v2), (3, bI v3), (4, bI v4), (5, bI v5), (7, bI v7)]) (st' := [bI v7, bI v3, .ref 6, .ref 30]) l42_84 (fun _ => rfl) ?_
  refine b_s (pc' := 88) (lv1 := [(0, .ref 30), (1, .ref 6), (2, bI v2), (3, bI v3), (4, bI v4), (5, bI v5), (7, bI v7)]) (st' := [bI v5, bI v7, bI v3, .ref 6, .ref 30]) l42_86 (fun _ => rfl) ?_
  refine b_cXi l42_88 rfl (b_rc (ci := 3) (by rfl) (by decide) (by decide +kernel)) (Nat.le_of_ble_eq_true rfl) (Nat.le_of_ble_eq_true rfl) rfl (r_X4_readEntry v3 h3 v7 h7 v5 h5) ⟨fun _ z => (by cases z), (by decide +kernel)⟩ rfl (fun _ _ => hr _) fun w1 μ2 hw1 => bD.ok fun hk3 => b_pc (pc' := 91) rfl ?_
  refine b_w (pc' := 93) (lv1 := ax_st1 [(0, .ref 30), (1, .ref 6), (2, bI v2), (3, bI v3), (4, bI v4), (5, bI v5), (7, bI v7)] 8 (bI w1)) (lv' := [(0, .ref 30), (1, .ref 6), (2, bI v2), (3, bI v3), (4, bI v4), (5, bI v5), (7, bI v7), (8, bI w1)]) (st' := []) l42_91 (fun _ => rfl) (bSb rfl (bSb rfl (bSb rfl (bSb rfl (bSb rfl (bSb rfl (bSb rfl (bSb rfl bSn)))))))) ?_
  refine b_s (pc' := 94) (lv1 := [(0, .ref 30), (1, .ref 6), (2, bI v2), (3, bI v3), (4, bI v4), (5, bI v5), (7, bI v7), (8, bI w1)]) (st' := [.ref 30]) l42_93 (fun _ => rfl) ?_
  refine b_gp (q' := 59) (j := 29) l42_94 (by rfl) (by decide) (by decide) rfl hk3 rfl rfl (b_pc (pc' := 97) rfl ?_)
  refine b_s (pc' := 99) (lv1 := [(0, .ref 30), (1, .ref 6), (2, bI v2), (3, bI v3), (4, bI v4), (5, bI v5), (7, bI v7), (8, bI w1)]) (st' := [bI w1, .ref 59]) l42_97 (fun _ => rfl) ?_
  refine b_s (pc' := 101) (lv1 := [(0, .ref 30), (1, .ref 6), (2, bI v2), (3, bI v3), (4, bI v4), (5, bI v5), (7, bI v7), (8, bI w1)]) (st' := [bI v5, bI w1, .ref 59]) l42_99 (fun _ => rfl) ?_
  refine b_s (pc' := 102) (lv1 := [(0, .ref 30), (1, .ref 6), (2, bI v2), (3, bI v3), (4, bI v4), (5, bI v5), (7, bI v7), (8, bI w1)]) (st' := [bI v2, bI v5, bI w1, .ref 59]) l42_101 (fun _ => rfl) ?_
  refine b_isub l42_102 fun g4 => (b_pc (pc' := 103) rfl ?_)
  refine b_g fun g12 => ?_
  refine b_ias l42_103 (by rfl) g12 g4 (bD.ok fun hk5 => b_pc (pc' := 104) rfl ?_)
  refine b_s (pc' := 105) (lv1 := [(0, .ref 30), (1, .ref 6), (2, bI v2), (3, bI v3), (4, bI v4), (5, bI v5), (7, bI v7), (8, bI w1)]) (st' := [.ref 30]) l42_104 (fun _ => rfl) ?_
  refine b_gp (q' := 49) (j := 19) l42_105 (by rfl) (by decide) (by decide) rfl hk5 rfl rfl (b_pc (pc' := 108) rfl ?_)
  refine b_gp (q' := 51) (j := 2) l42_108 (by rfl) (by decide) (by decide) rfl hk5 rfl rfl (b_pc (pc' := 111) rfl ?_)
  refine b_s (pc' := 113) (lv1 := [(0, .ref 30), (1, .ref 6), (2, bI v2), (3, bI v3), (4, bI v4), (5, bI v5), (7, bI v7), (8, bI w1)]) (st' := [bI v7, .ref 51]) l42_111 (fun _ => rfl) ?_
  refine b_g fun g11 => ?_
  refine b_zal l42_113 (by rfl) g11 (b_pc (pc' := 114) rfl ?_)
  refine b_zeq (pt := 122) l42_114 (bO_zr hk5 (by rfl)) (by decide) rfl (fun c6 => ?_) (fun c6 => b_pc (pc' := 117) rfl ?_)
  · refine b_s (pc' := 123) (lv1 := [(0, .ref 30), (1, .ref 6), (2, bI v2), (3, bI v3), (4, bI v4), (5, bI v5), (7, bI v7), (8, bI w1)]) (st' := [bI v3]) l42_122 (fun _ => rfl) ?_
    refine b_w (pc' := 124) (lv1 := ax_st1 [(0, .ref 30), (1, .ref 6), (2, bI v2), (3, bI v3), (4, bI v4), (5, bI v5), (7, bI v7), (8, bI w1)] 3 (bI v3)) (lv' := [(0, .ref 30), (1, .ref 6), (2, bI v2), (3, bI v3), (4, bI v4)]) (st' := []) l42_123 (fun _ => rfl) (bSb rfl (bSb rfl (bSb rfl (bSb rfl (bSb rfl bSn))))) ?_
    refine b_s (pc' := 125) (lv1 := [(0, .ref 30), (1, .ref 6), (2, bI v2), (3, bI v3), (4, bI v4)]) (st' := [bI v3]) l42_124 (fun _ => rfl) ?_
    refine b_s (pc' := 126) (lv1 := [(0, .ref 30), (1, .ref 6), (2, bI v2), (3, bI v3), (4, bI v4)]) (st' := [bI (-1), bI v3]) l42_125 (fun _ => rfl) ?_
    refine b_ine (pt := 130) l42_126 h3 (by decide) (by decide) rfl (fun c7 => ?_) (fun c7 => b_pc (pc' := 129) rfl ?_)
    · refine b_inc (lv' := [(0, .ref 30), (1, .ref 6), (2, bI v2), (3, bI v3), (4, bI (v4 + 1))]) l42_130 rfl (by decide +kernel) (bSb rfl (bSb rfl (bSb rfl (bSb rfl (bSb rfl bSn))))) fun g8 => (b_pc (pc' := 133) rfl ?_)
      refine b_s (pc' := 5) (lv1 := [(0, .ref 30), (1, .ref 6), (2, bI v2), (3, bI v3), (4, bI (v4 + 1))]) (st' := []) l42_133 (fun _ => rfl) ?_
      refine bD.wk (lv' := [(0, .ref 30), (1, .ref 6), (2, bI v2), (3, bI v3), (4, bI (v4 + 1))]) (bSb rfl (bSb rfl (bSb rfl (bSb rfl (bSb rfl bSn))))) ?_
      exact H5 v3 (v4 + 1) (bset μ2 59 w1.toNat (v5 - v2)) h3 g8
    · exact b_retv l42_129 rfl (hr _)
  · refine b_s (pc' := 119) (lv1 := [(0, .ref 30), (1, .ref 6), (2, bI v2), (3, bI v3), (4, bI v4), (5, bI v5), (7, bI v7), (8, bI w1)]) (st' := [bI w1]) l42_117 (fun _ => rfl) ?_
    refine b_s (pc' := 123) (lv1 := [(0, .ref 30), (1, .ref 6), (2, bI v2), (3, bI v3), (4, bI v4), (5, bI v5), (7, bI v7), (8, bI w1)]) (st' := [bI w1]) l42_119 (fun _ => rfl) ?_
    refine b_w (pc' := 124) (lv1 := ax_st1 [(0, .ref 30), (1, .ref 6), (2, bI v2), (3, bI v3), (4, bI v4), (5, bI v5), (7, bI v7), (8, bI w1)] 3 (bI w1)) (lv' := [(0, .ref 30), (1, .ref 6), (2, bI v2), (3, bI w1), (4, bI v4)]) (st' := []) l42_123 (fun _ => rfl) (bSb rfl (bSb rfl (bSb rfl (bSb rfl (bSb rfl bSn))))) ?_
    refine b_s (pc' := 125) (lv1 := [(0, .ref 30), (1, .ref 6), (2, bI v2), (3, bI w1), (4, bI v4)]) (st' := [bI w1]) l42_124 (fun _ => rfl) ?_
    refine b_s (pc' := 126) (lv1 := [(0, .ref 30), (1, .ref 6), (2, bI v2), (3, bI w1), (4, bI v4)]) (st' := [bI (-1), bI w1]) l42_125 (fun _ => rfl) ?_
    refine b_ine (pt := 130) l42_126 hw1 (by decide) (by decide) rfl (fun c9 => ?_) (fun c9 => b_pc (pc' := 129) rfl ?_)
    · refine b_inc (lv' := [(0, .ref 30), (1, .ref 6), (2, bI v2), (3, bI w1), (4, bI (v4 + 1))]) l42_130 rfl (by decide +kernel) (bSb rfl (bSb rfl (bSb rfl (bSb rfl (bSb rfl bSn))))) fun g10 => (b_pc (pc' := 133) rfl ?_)
      refine b_s (pc' := 5) (lv1 := [(0, .ref 30), (1, .ref 6), (2, bI v2), (3, bI w1), (4, bI (v4 + 1))]) (st' := []) l42_133 (fun _ => rfl) ?_
      refine bD.wk (lv' := [(0, .ref 30), (1, .ref 6), (2, bI v2), (3, bI w1), (4, bI (v4 + 1))]) (bSb rfl (bSb rfl (bSb rfl (bSb rfl (bSb rfl bSn))))) ?_
      exact H5 w1 (v4 + 1) (bset μ2 59 w1.toNat (v5 - v2)) hw1 g10
    · exact b_retv l42_129 rfl (hr _)
theorem p_X4_readEntries_54 {L : Nat} {xs : Nat → Int32} {d : Nat} {μ : bM} {v2 : Int} {κ : ((Int × Int × bM) ⊕ ((Int ⊕ String) × bM)) → Option bX} (hr : ∀ r : (Int ⊕ String) × bM, κ (.inr r) = (bXc) r) (H5 : ∀ (v3 : Int) (v4 : Int) (μ : bM), bR v3 → bR v4 → bD L xs (d + 5) 42 5 [(0, .ref 30), (1, .ref 6), (2, bI v2), (3, bI v3), (4, bI v4)] [] μ (κ (.inl (v3, v4, μ))))  (h2 : bR v2) {v3 : Int} (h3 : bR v3) {v4 : Int} (h4 : bR v4) {v5 : Int} (h5 : bR v5) {v6 : Int} (h6 : bR v6) : bD L xs (d + 5) 42 54 [(0, .ref 30), (1, .ref 6), (2, bI v2), (3, bI v3), (4, bI v4), (5, bI v5), (6, bI v6)] [] μ ((F_X4_readEntries_54 v2 v3 v4 v5 v6 μ).bind κ) := by
  unfold F_X4_readEntries_54
  refine bD.ok fun hk => ?_
  refine b_s (pc' := 55) (lv1 := [(0, .ref 30), (1, .ref 6), (2, bI v2), (3, bI v3), (4, bI v4), (5, bI v5), (6, bI v6)]) (st' := [.ref 30]) l42_54 (fun _ => rfl) ?_
  refine b_gp (q' := 49) (j := 19) l42_55 (by rfl) (by decide) (by decide) rfl hk rfl rfl (b_pc (pc' := 58) rfl ?_)
  refine b_s (pc' := 60) (lv1 := [(0, .ref 30), (1, .ref 6), (2, bI v2), (3, bI v3), (4, bI v4), (5, bI v5), (6, bI v6)]) (st' := [bI v6, .ref 49]) l42_58 (fun _ => rfl) ?_
  refine b_cPi l42_60 rfl (b_rc (ci := 6) (by rfl) (by decide) (by decide +kernel)) (Nat.le_of_ble_eq_true rfl) (Nat.le_of_ble_eq_true rfl) rfl (r_X7_indexOf v6 h6) fun w1 hw1 => b_pc (pc' := 63) rfl ?_
  refine b_w (pc' := 65) (lv1 := ax_st1 [(0, .ref 30), (1, .ref 6), (2, bI v2), (3, bI v3), (4, bI v4), (5, bI v5), (6, bI v6)] 7 (bI w1)) (lv' := [(0, .ref 30), (1, .ref 6), (2, bI v2), (3, bI v3), (4, bI v4), (5, bI v5), (7, bI w1)]) (st' := []) l42_63 (fun _ => rfl) (bSb rfl (bSb rfl (bSb rfl (bSb rfl (bSb rfl (bSb rfl (bSb rfl bSn))))))) ?_
  refine b_s (pc' := 67) (lv1 := [(0, .ref 30), (1, .ref 6), (2, bI v2), (3, bI v3), (4, bI v4), (5, bI v5), (7, bI w1)]) (st' := [bI w1]) l42_65 (fun _ => rfl) ?_
  refine b_s (pc' := 68) (lv1 := [(0, .ref 30), (1, .ref 6), (2, bI v2), (3, bI v3), (4, bI v4), (5, bI v5), (7, bI w1)]) (st' := [bI (-1), bI w1]) l42_67 (fun _ => rfl) ?_
  refine b_ine (pt := 81) l42_68 hw1 (by decide) (by decide) rfl (fun c2 => ?_) (fun c2 => b_pc (pc' := 71) rfl ?_)
  · refine bD.wk (lv' := [(0, .ref 30), (1, .ref 6), (2, bI v2), (3, bI v3), (4, bI v4), (5, bI v5), (7, bI w1)]) (bSb rfl (bSb rfl (bSb rfl (bSb rfl (bSb rfl (bSb rfl (bSb rfl bSn))))))) ?_
    exact p_X4_readEntries_81 hr H5 h2 h3 h4 h5 hw1
  · refine b_s (pc' := 72) (lv1 := [(0, .ref 30), (1, .ref 6), (2, bI v2), (3, bI v3), (4, bI v4), (5, bI v5), (7, bI w1)]) (st' := [.ref 30]) l42_71 (fun _ => rfl) ?_
    refine b_gp (q' := 46) (j := 16) l42_72 (by rfl) (by decide) (by decide) rfl hk rfl rfl (b_pc (pc' := 75) rfl ?_)
    refine b_s (pc' := 76) (lv1 := [(0, .ref 30), (1, .ref 6), (2, bI v2), (3, bI v3), (4, bI v4), (5, bI v5), (7, bI w1)]) (st' := [bI 5, .ref 46]) l42_75 (fun _ => rfl) ?_
    refine b_s (pc' := 78) (lv1 := [(0, .ref 30), (1, .ref 6), (2, bI v2), (3, bI v3), (4, bI v4), (5, bI v5), (7, bI w1)]) (st' := [bI v5, bI 5, .ref 46]) l42_76 (fun _ => rfl) ?_
    refine b_cXv l42_78 rfl (b_rc (ci := 1) (by rfl) (by decide) (by decide +kernel)) (Nat.le_of_ble_eq_true rfl) (Nat.le_of_ble_eq_true rfl) rfl (r_X1_refuse 5 (by decide) v5 h5) ⟨fun _ z => (by cases z), (by decide +kernel)⟩ rfl (fun _ _ => hr _) fun w3 μ4 hw3 => bD.ok fun hk5 => b_pc (pc' := 81) rfl ?_
    refine bD.wk (lv' := [(0, .ref 30), (1, .ref 6), (2, bI v2), (3, bI v3), (4, bI v4), (5, bI v5), (7, bI w1)]) (bSb rfl (bSb rfl (bSb rfl (bSb rfl (bSb rfl (bSb rfl (bSb rfl bSn))))))) ?_
    exact p_X4_readEntries_81 hr H5 h2 h3 h4 h5 hw1
theorem q_X4_readEntries_5 {L : Nat} {xs : Nat → Int32} {d : Nat} {μ : bM} {v2 : Int} {κ : ((Int × Int × bM) ⊕ ((Int ⊕ String) × bM)) → Option bX} (hr : ∀ r : (Int ⊕ String) × bM, κ (.inr r) = (bXc) r) (H5 : ∀ (v3 : Int) (v4 : Int) (μ : bM), bR v3 → bR v4 → bD L xs (d + 5) 42 5 [(0, .ref 30), (1, .ref 6), (2, bI v2), (3, bI v3), (4, bI v4)] [] μ (κ (.inl (v3, v4, μ))))  (h2 : bR v2) {v3 : Int} (h3 : bR v3) {v4 : Int} (h4 : bR v4) : bD L xs (d + 5) 42 5 [(0, .ref 30), (1, .ref 6), (2, bI v2), (3, bI v3), (4, bI v4)] [] μ ((F_X4_readEntries_5 v2 v3 v4 μ).bind κ) := by
  unfold F_X4_readEntries_5
  refine bD.ok fun hk => ?_
  refine b_s (pc' := 7) (lv1 := [(0, .ref 30), (1, .ref 6), (2, bI v2), (3, bI v3), (4, bI v4)]) (st' := [bI v4]) l42_5 (fun _ => rfl) ?_
  refine b_sipush l42_7 (by decide) (b_pc (pc' := 10) rfl ?_)
  refine b_igt (pt := 136) l42_10 h4 (by decide) (by decide) rfl (fun c1 => ?_) (fun c1 => b_pc (pc' := 13) rfl ?_)
  · exact b_retv l42_136 rfl (hr _)
  · refine b_s (pc' := 14) (lv1 := [(0, .ref 30), (1, .ref 6), (2, bI v2), (3, bI v3), (4, bI v4)]) (st' := [.ref 30]) l42_13 (fun _ => rfl) ?_
    refine b_gp (q' := 46) (j := 16) l42_14 (by rfl) (by decide) (by decide) rfl hk rfl rfl (b_pc (pc' := 17) rfl ?_)
    refine b_gi l42_17 (by rfl) (by decide) (by decide) rfl (b_pc (pc' := 20) rfl ?_)
    refine b_w (pc' := 22) (lv1 := ax_st1 [(0, .ref 30), (1, .ref 6), (2, bI v2), (3, bI v3), (4, bI v4)] 5 (bI (μ 46 0))) (lv' := [(0, .ref 30), (1, .ref 6), (2, bI v2), (3, bI v3), (4, bI v4), (5, bI (μ 46 0))]) (st' := []) l42_20 (fun _ => rfl) (bSb rfl (bSb rfl (bSb rfl (bSb rfl (bSb rfl (bSb rfl bSn)))))) ?_
    refine b_s (pc' := 23) (lv1 := [(0, .ref 30), (1, .ref 6), (2, bI v2), (3, bI v3), (4, bI v4), (5, bI (μ 46 0))]) (st' := [.ref 30]) l42_22 (fun _ => rfl) ?_
    refine b_gp (q' := 46) (j := 16) l42_23 (by rfl) (by decide) (by decide) rfl hk rfl rfl (b_pc (pc' := 26) rfl ?_)
    refine b_cXi l42_26 rfl (b_rc (ci := 1) (by rfl) (by decide) (by decide +kernel)) (Nat.le_of_ble_eq_true rfl) (Nat.le_of_ble_eq_true rfl) rfl (r_X1_smallRow ) ⟨fun _ z => (by cases z), (by decide +kernel)⟩ rfl (fun _ _ => hr _) fun w2 μ3 hw2 => bD.ok fun hk4 => b_pc (pc' := 29) rfl ?_
    refine b_w (pc' := 31) (lv1 := ax_st1 [(0, .ref 30), (1, .ref 6), (2, bI v2), (3, bI v3), (4, bI v4), (5, bI (μ 46 0))] 6 (bI w2)) (lv' := [(0, .ref 30), (1, .ref 6), (2, bI v2), (3, bI v3), (4, bI v4), (5, bI (μ 46 0)), (6, bI w2)]) (st' := []) l42_29 (fun _ => rfl) (bSb rfl (bSb rfl (bSb rfl (bSb rfl (bSb rfl (bSb rfl (bSb rfl bSn))))))) ?_
    refine b_s (pc' := 33) (lv1 := [(0, .ref 30), (1, .ref 6), (2, bI v2), (3, bI v3), (4, bI v4), (5, bI (μ 46 0)), (6, bI w2)]) (st' := [bI w2]) l42_31 (fun _ => rfl) ?_
    refine b_zne (pt := 54) l42_33 hw2 (by decide) rfl (fun c5 => ?_) (fun c5 => b_pc (pc' := 36) rfl ?_)
    · refine bD.wk (lv' := [(0, .ref 30), (1, .ref 6), (2, bI v2), (3, bI v3), (4, bI v4), (5, bI (μ 46 0)), (6, bI w2)]) (bSb rfl (bSb rfl (bSb rfl (bSb rfl (bSb rfl (bSb rfl (bSb rfl bSn))))))) ?_
      exact p_X4_readEntries_54 hr H5 h2 h3 h4 (bO_f hk (ci := 1) (by rfl) rfl) hw2
    · refine b_s (pc' := 37) (lv1 := [(0, .ref 30), (1, .ref 6), (2, bI v2), (3, bI v3), (4, bI v4), (5, bI (μ 46 0)), (6, bI w2)]) (st' := [bI v3]) l42_36 (fun _ => rfl) ?_
      refine b_s (pc' := 38) (lv1 := [(0, .ref 30), (1, .ref 6), (2, bI v2), (3, bI v3), (4, bI v4), (5, bI (μ 46 0)), (6, bI w2)]) (st' := [bI (-1), bI v3]) l42_37 (fun _ => rfl) ?_
      refine b_ieq (pt := 54) l42_38 h3 (by decide) (by decide) rfl (fun c6 => ?_) (fun c6 => b_pc (pc' := 41) rfl ?_)
      · refine bD.wk (lv' := [(0, .ref 30), (1, .ref 6), (2, bI v2), (3, bI v3), (4, bI v4), (5, bI (μ 46 0)), (6, bI w2)]) (bSb rfl (bSb rfl (bSb rfl (bSb rfl (bSb rfl (bSb rfl (bSb rfl bSn))))))) ?_
        exact p_X4_readEntries_54 hr H5 h2 h3 h4 (bO_f hk (ci := 1) (by rfl) rfl) hw2
      · refine b_s (pc' := 42) (lv1 := [(0, .ref 30), (1, .ref 6), (2, bI v2), (3, bI v3), (4, bI v4), (5, bI (μ 46 0)), (6, bI w2)]) (st' := [.ref 30]) l42_41 (fun _ => rfl) ?_
        refine b_gr l42_42 (by rfl) (by decide) (by decide) rfl (b_pc (pc' := 45) rfl ?_)
        refine b_gp (q' := ((μ3 30 0).toNat + 3)) (j := 3) l42_45 (bO_ft hk4 (ci := 3) (by rfl) rfl) (by decide) (by decide) rfl hk4 rfl rfl (b_pc (pc' := 48) rfl ?_)
        refine b_s (pc' := 49) (lv1 := [(0, .ref 30), (1, .ref 6), (2, bI v2), (3, bI v3), (4, bI v4), (5, bI (μ 46 0)), (6, bI w2)]) (st' := [bI v3, .ref ((μ3 30 0).toNat + 3)]) l42_48 (fun _ => rfl) ?_
        refine b_g fun g9 => ?_
        refine b_ial l42_49 (bTree_e (bO_ft hk4 (ci := 3) (by rfl) rfl) 3 (by decide)) g9 (b_pc (pc' := 50) rfl ?_)
        refine b_w (pc' := 51) (lv1 := ax_st1 [(0, .ref 30), (1, .ref 6), (2, bI v2), (3, bI v3), (4, bI v4), (5, bI (μ 46 0)), (6, bI w2)] 3 (bI (μ3 ((μ3 30 0).toNat + 3) v3.toNat))) (lv' := [(0, .ref 30), (1, .ref 6), (2, bI v2), (3, bI (μ3 ((μ3 30 0).toNat + 3) v3.toNat)), (4, bI v4)]) (st' := []) l42_50 (fun _ => rfl) (bSb rfl (bSb rfl (bSb rfl (bSb rfl (bSb rfl bSn))))) ?_
        refine b_s (pc' := 124) (lv1 := [(0, .ref 30), (1, .ref 6), (2, bI v2), (3, bI (μ3 ((μ3 30 0).toNat + 3) v3.toNat)), (4, bI v4)]) (st' := []) l42_51 (fun _ => rfl) ?_
        refine b_s (pc' := 125) (lv1 := [(0, .ref 30), (1, .ref 6), (2, bI v2), (3, bI (μ3 ((μ3 30 0).toNat + 3) v3.toNat)), (4, bI v4)]) (st' := [bI (μ3 ((μ3 30 0).toNat + 3) v3.toNat)]) l42_124 (fun _ => rfl) ?_
        refine b_s (pc' := 126) (lv1 := [(0, .ref 30), (1, .ref 6), (2, bI v2), (3, bI (μ3 ((μ3 30 0).toNat + 3) v3.toNat)), (4, bI v4)]) (st' := [bI (-1), bI (μ3 ((μ3 30 0).toNat + 3) v3.toNat)]) l42_125 (fun _ => rfl) ?_
        refine b_ine (pt := 130) l42_126 (bO_i hk4 (bTree_e (bO_ft hk4 (ci := 3) (by rfl) rfl) 3 (by decide))) (by decide) (by decide) rfl (fun c7 => ?_) (fun c7 => b_pc (pc' := 129) rfl ?_)
        · refine b_inc (lv' := [(0, .ref 30), (1, .ref 6), (2, bI v2), (3, bI (μ3 ((μ3 30 0).toNat + 3) v3.toNat)), (4, bI (v4 + 1))]) l42_130 rfl (by decide +kernel) (bSb rfl (bSb rfl (bSb rfl (bSb rfl (bSb rfl bSn))))) fun g8 => (b_pc (pc' := 133) rfl ?_)
          refine b_s (pc' := 5) (lv1 := [(0, .ref 30), (1, .ref 6), (2, bI v2), (3, bI (μ3 ((μ3 30 0).toNat + 3) v3.toNat)), (4, bI (v4 + 1))]) (st' := []) l42_133 (fun _ => rfl) ?_
          refine bD.wk (lv' := [(0, .ref 30), (1, .ref 6), (2, bI v2), (3, bI (μ3 ((μ3 30 0).toNat + 3) v3.toNat)), (4, bI (v4 + 1))]) (bSb rfl (bSb rfl (bSb rfl (bSb rfl (bSb rfl bSn))))) ?_
          exact H5 (μ3 ((μ3 30 0).toNat + 3) v3.toNat) (v4 + 1) μ3 (bO_i hk4 (bTree_e (bO_ft hk4 (ci := 3) (by rfl) rfl) 3 (by decide))) g8
        · exact b_retv l42_129 rfl (hr _)
theorem p_X4_readEntries_5 {L : Nat} {xs : Nat → Int32} {d : Nat} {μ : bM}  {κ : ((Int ⊕ String) × bM) → Option bX} (hr : ∀ r : (Int ⊕ String) × bM, κ r = (bXc) r)  {v2 : Int} (h2 : bR v2) {v3 : Int} (h3 : bR v3) {v4 : Int} (h4 : bR v4) : bD L xs (d + 5) 42 5 [(0, .ref 30), (1, .ref 6), (2, bI v2), (3, bI v3), (4, bI v4)] [] μ ((bLoop (fun z => F_X4_readEntries_5 v2 z.1 z.2.1 z.2.2) (v3, v4, μ)).bind κ) :=
  b_loop (fun z => [(0, .ref 30), (1, .ref 6), (2, bI v2), (3, bI z.1), (4, bI z.2.1)]) (fun z => z.2.2) (fun z => bR z.1 ∧ bR z.2.1) (fun κ' hκ HH z hz => q_X4_readEntries_5 (κ := κ') (fun r => (hκ _).trans (hr r)) (fun a3 a4 am b3 b4 => HH (a3, a4, am) ⟨b3, b4⟩)  h2 hz.1 hz.2) (v3, v4, μ) ⟨h3, h4⟩
theorem r_X4_readEntries {L : Nat} {xs : Nat → Int32} {d : Nat} {μ : bM}  (v2 : Int) (h2 : bR v2) : bD L xs (d + 5) 42 0 [(0, .ref 30), (1, .ref 6), (2, bI v2)] [] μ ((F_X4_readEntries v2 μ).bind (bXc)) := by
  have hr : ∀ r, (bXc) r = (bXc) r := fun _ => rfl
  unfold F_X4_readEntries
  refine bD.ok fun hk => ?_
  refine b_s (pc' := 1) (lv1 := [(0, .ref 30), (1, .ref 6), (2, bI v2)]) (st' := [bI (-1)]) l42_0 (fun _ => rfl) ?_
  refine b_w (pc' := 2) (lv1 := ax_st1 [(0, .ref 30), (1, .ref 6), (2, bI v2)] 3 (bI (-1))) (lv' := [(0, .ref 30), (1, .ref 6), (2, bI v2), (3, bI (-1))]) (st' := []) l42_1 (fun _ => rfl) (bSb rfl (bSb rfl (bSb rfl (bSb rfl bSn)))) ?_
  refine b_s (pc' := 3) (lv1 := [(0, .ref 30), (1, .ref 6), (2, bI v2), (3, bI (-1))]) (st' := [bI 0]) l42_2 (fun _ => rfl) ?_
  refine b_w (pc' := 5) (lv1 := ax_st1 [(0, .ref 30), (1, .ref 6), (2, bI v2), (3, bI (-1))] 4 (bI 0)) (lv' := [(0, .ref 30), (1, .ref 6), (2, bI v2), (3, bI (-1)), (4, bI 0)]) (st' := []) l42_3 (fun _ => rfl) (bSb rfl (bSb rfl (bSb rfl (bSb rfl (bSb rfl bSn))))) ?_
  refine bD.wk (lv' := [(0, .ref 30), (1, .ref 6), (2, bI v2), (3, bI (-1)), (4, bI 0)]) (bSb rfl (bSb rfl (bSb rfl (bSb rfl (bSb rfl bSn))))) ?_
  exact p_X4_readEntries_5 hr h2 (by decide) (by decide)
/-! ET$Reader.entryAt -/
theorem l48_0 : (ax_dt (ax_T 48)).lookup 0 = some (.iload_n 1, 1, 0, 0, 0) := by decide +kernel
theorem l48_1 : (ax_dt (ax_T 48)).lookup 1 = some (.istore 4, 2, 0, 0, 0) := by decide +kernel
theorem l48_3 : (ax_dt (ax_T 48)).lookup 3 = some (.aload_n 0, 1, 0, 0, 0) := by decide +kernel
theorem l48_4 : (ax_dt (ax_T 48)).lookup 4 = some (.getfield 12, 3, 3, 0, 0) := by decide +kernel
theorem l48_7 : (ax_dt (ax_T 48)).lookup 7 = some (.getfield 126, 3, 7, 1, 0) := by decide +kernel
theorem l48_10 : (ax_dt (ax_T 48)).lookup 10 = some (.iconst 1, 1, 0, 0, 0) := by decide +kernel
theorem l48_11 : (ax_dt (ax_T 48)).lookup 11 = some (.isub, 1, 0, 0, 0) := by decide +kernel
theorem l48_12 : (ax_dt (ax_T 48)).lookup 12 = some (.istore 5, 2, 0, 0, 0) := by decide +kernel
theorem l48_14 : (ax_dt (ax_T 48)).lookup 14 = some (.iconst 0, 1, 0, 0, 0) := by decide +kernel
theorem l48_15 : (ax_dt (ax_T 48)).lookup 15 = some (.istore 6, 2, 0, 0, 0) := by decide +kernel
theorem l48_17 : (ax_dt (ax_T 48)).lookup 17 = some (.iload 6, 2, 0, 0, 0) := by decide +kernel
theorem l48_19 : (ax_dt (ax_T 48)).lookup 19 = some (.sipush 400, 3, 0, 0, 0) := by decide +kernel
theorem l48_22 : (ax_dt (ax_T 48)).lookup 22 = some (.if_icmp .ge 69, 3, 0, 0, 0) := by decide +kernel
theorem l48_25 : (ax_dt (ax_T 48)).lookup 25 = some (.iload 4, 2, 0, 0, 0) := by decide +kernel
theorem l48_27 : (ax_dt (ax_T 48)).lookup 27 = some (.iload 5, 2, 0, 0, 0) := by decide +kernel
theorem l48_29 : (ax_dt (ax_T 48)).lookup 29 = some (.if_icmp .gt 62, 3, 0, 0, 0) := by decide +kernel
theorem l48_32 : (ax_dt (ax_T 48)).lookup 32 = some (.iload 4, 2, 0, 0, 0) := by decide +kernel
theorem l48_34 : (ax_dt (ax_T 48)).lookup 34 = some (.iload 5, 2, 0, 0, 0) := by decide +kernel
theorem l48_36 : (ax_dt (ax_T 48)).lookup 36 = some (.iadd, 1, 0, 0, 0) := by decide +kernel
theorem l48_37 : (ax_dt (ax_T 48)).lookup 37 = some (.iconst 2, 1, 0, 0, 0) := by decide +kernel
theorem l48_38 : (ax_dt (ax_T 48)).lookup 38 = some (.idiv, 1, 0, 0, 0) := by decide +kernel
theorem l48_39 : (ax_dt (ax_T 48)).lookup 39 = some (.istore 7, 2, 0, 0, 0) := by decide +kernel
theorem l48_41 : (ax_dt (ax_T 48)).lookup 41 = some (.aload_n 0, 1, 0, 0, 0) := by decide +kernel
theorem l48_42 : (ax_dt (ax_T 48)).lookup 42 = some (.getfield 32, 3, 3, 5, 0) := by decide +kernel
theorem l48_45 : (ax_dt (ax_T 48)).lookup 45 = some (.iload 7, 2, 0, 0, 0) := by decide +kernel
theorem l48_47 : (ax_dt (ax_T 48)).lookup 47 = some (.iaload, 1, 0, 0, 0) := by decide +kernel
theorem l48_48 : (ax_dt (ax_T 48)).lookup 48 = some (.i2l, 1, 0, 0, 0) := by decide +kernel
theorem l48_49 : (ax_dt (ax_T 48)).lookup 49 = some (.lload_n 2, 1, 0, 0, 0) := by decide +kernel
theorem l48_50 : (ax_dt (ax_T 48)).lookup 50 = some (.lcmp, 1, 0, 0, 0) := by decide +kernel
theorem l48_51 : (ax_dt (ax_T 48)).lookup 51 = some (.ifCond .ne 6, 3, 0, 0, 0) := by decide +kernel
theorem l48_54 : (ax_dt (ax_T 48)).lookup 54 = some (.iload 7, 2, 0, 0, 0) := by decide +kernel
theorem l48_56 : (ax_dt (ax_T 48)).lookup 56 = some (.ireturn, 1, 0, 0, 0) := by decide +kernel
theorem l48_57 : (ax_dt (ax_T 48)).lookup 57 = some (.aload_n 0, 1, 0, 0, 0) := by decide +kernel
theorem l48_58 : (ax_dt (ax_T 48)).lookup 58 = some (.getfield 32, 3, 3, 5, 0) := by decide +kernel
theorem l48_61 : (ax_dt (ax_T 48)).lookup 61 = some (.iload 7, 2, 0, 0, 0) := by decide +kernel
theorem l48_63 : (ax_dt (ax_T 48)).lookup 63 = some (.iaload, 1, 0, 0, 0) := by decide +kernel
theorem l48_64 : (ax_dt (ax_T 48)).lookup 64 = some (.i2l, 1, 0, 0, 0) := by decide +kernel
theorem l48_65 : (ax_dt (ax_T 48)).lookup 65 = some (.lload_n 2, 1, 0, 0, 0) := by decide +kernel
theorem l48_66 : (ax_dt (ax_T 48)).lookup 66 = some (.lcmp, 1, 0, 0, 0) := by decide +kernel
theorem l48_67 : (ax_dt (ax_T 48)).lookup 67 = some (.ifCond .ge 12, 3, 0, 0, 0) := by decide +kernel
theorem l48_70 : (ax_dt (ax_T 48)).lookup 70 = some (.iload 7, 2, 0, 0, 0) := by decide +kernel
theorem l48_72 : (ax_dt (ax_T 48)).lookup 72 = some (.iconst 1, 1, 0, 0, 0) := by decide +kernel
theorem l48_73 : (ax_dt (ax_T 48)).lookup 73 = some (.iadd, 1, 0, 0, 0) := by decide +kernel
theorem l48_74 : (ax_dt (ax_T 48)).lookup 74 = some (.istore 4, 2, 0, 0, 0) := by decide +kernel
theorem l48_76 : (ax_dt (ax_T 48)).lookup 76 = some (.goto 9, 3, 0, 0, 0) := by decide +kernel
theorem l48_79 : (ax_dt (ax_T 48)).lookup 79 = some (.iload 7, 2, 0, 0, 0) := by decide +kernel
theorem l48_81 : (ax_dt (ax_T 48)).lookup 81 = some (.iconst 1, 1, 0, 0, 0) := by decide +kernel
theorem l48_82 : (ax_dt (ax_T 48)).lookup 82 = some (.isub, 1, 0, 0, 0) := by decide +kernel
theorem l48_83 : (ax_dt (ax_T 48)).lookup 83 = some (.istore 5, 2, 0, 0, 0) := by decide +kernel
theorem l48_85 : (ax_dt (ax_T 48)).lookup 85 = some (.iinc 6 1, 3, 0, 0, 0) := by decide +kernel
theorem l48_88 : (ax_dt (ax_T 48)).lookup 88 = some (.goto (-71), 3, 0, 0, 0) := by decide +kernel
theorem l48_91 : (ax_dt (ax_T 48)).lookup 91 = some (.iconst (-1), 1, 0, 0, 0) := by decide +kernel
theorem l48_92 : (ax_dt (ax_T 48)).lookup 92 = some (.ireturn, 1, 0, 0, 0) := by decide +kernel
noncomputable def F_X4_entryAt_17 (v2 : Int) (μ : bM) (v4 : Int) (v5 : Int) (v6 : Int) : Option ((Int × Int × Int) ⊕ (Int)) := if 400 ≤ v6 then some (.inr ((-1))) else if v5 < v4 then some (.inr ((-1))) else bG (bR (v4 + v5)) (bG (0 ≤ (bDiv (v4 + v5) 2) ∧ (bDiv (v4 + v5) 2) < 400) (if ¬ (bCmp (μ 59 (bDiv (v4 + v5) 2).toNat) v2) = 0 then bG (0 ≤ (bDiv (v4 + v5) 2) ∧ (bDiv (v4 + v5) 2) < 400) (if 0 ≤ (bCmp (μ 59 (bDiv (v4 + v5) 2).toNat) v2) then bG (bR ((bDiv (v4 + v5) 2) - 1)) (bG (bR (v6 + 1)) (some (.inl (v4, ((bDiv (v4 + v5) 2) - 1), (v6 + 1))))) else bG (bR ((bDiv (v4 + v5) 2) + 1)) (bG (bR (v6 + 1)) (some (.inl (((bDiv (v4 + v5) 2) + 1), v5, (v6 + 1)))))) else some (.inr ((bDiv (v4 + v5) 2)))))
noncomputable def F_X4_entryAt (v1 : Int) (v2 : Int) (μ : bM) : Option (Int) := bG (bR ((μ (μ 30 0).toNat 1) - 1)) (bLoop (fun z => F_X4_entryAt_17 v2 μ z.1 z.2.1 z.2.2) (v1, ((μ (μ 30 0).toNat 1) - 1), 0))
theorem q_X4_entryAt_17 {L : Nat} {xs : Nat → Int32} {d : Nat} {μ : bM} {v2 : Int} {κ : ((Int × Int × Int) ⊕ (Int)) → Option bX} (hr : ∀ r : Int, κ (.inr r) = (bPc μ) r) (H17 : ∀ (v4 : Int) (v5 : Int) (v6 : Int), bR v4 → bR v5 → bR v6 → bD L xs (d + 0) 48 17 [(0, .ref 30), (2, bLg v2), (4, bI v4), (5, bI v5), (6, bI v6)] [] μ (κ (.inl (v4, v5, v6))))  (h2 : bRL v2) {v4 : Int} (h4 : bR v4) {v5 : Int} (h5 : bR v5) {v6 : Int} (h6 : bR v6) : bD L xs (d + 0) 48 17 [(0, .ref 30), (2, bLg v2), (4, bI v4), (5, bI v5), (6, bI v6)] [] μ ((F_X4_entryAt_17 v2 μ v4 v5 v6).bind κ) := by
  unfold F_X4_entryAt_17
  refine bD.ok fun hk => ?_
  refine b_s (pc' := 19) (lv1 := [(0, .ref 30), (2, bLg v2), (4, bI v4), (5, bI v5), (6, bI v6)]) (st' := [bI v6]) l48_17 (fun _ => rfl) ?_
  refine b_sipush l48_19 (by decide) (b_pc (pc' := 22) rfl ?_)
  refine b_ige (pt := 91) l48_22 h6 (by decide) (by decide) rfl (fun c1 => ?_) (fun c1 => b_pc (pc' := 25) rfl ?_)
  · refine b_s (pc' := 92) (lv1 := [(0, .ref 30), (2, bLg v2), (4, bI v4), (5, bI v5), (6, bI v6)]) (st' := [bI (-1)]) l48_91 (fun _ => rfl) ?_
    exact b_reti l48_92 rfl (by decide) (hr _)
  · refine b_s (pc' := 27) (lv1 := [(0, .ref 30), (2, bLg v2), (4, bI v4), (5, bI v5), (6, bI v6)]) (st' := [bI v4]) l48_25 (fun _ => rfl) ?_
    refine b_s (pc' := 29) (lv1 := [(0, .ref 30), (2, bLg v2), (4, bI v4), (5, bI v5), (6, bI v6)]) (st' := [bI v5, bI v4]) l48_27 (fun _ => rfl) ?_
    refine b_igt (pt := 91) l48_29 h4 h5 (by decide) rfl (fun c2 => ?_) (fun c2 => b_pc (pc' := 32) rfl ?_)
    · refine b_s (pc' := 92) (lv1 := [(0, .ref 30), (2, bLg v2), (4, bI v4), (5, bI v5), (6, bI v6)]) (st' := [bI (-1)]) l48_91 (fun _ => rfl) ?_
      exact b_reti l48_92 rfl (by decide) (hr _)
    · refine b_s (pc' := 34) (lv1 := [(0, .ref 30), (2, bLg v2), (4, bI v4), (5, bI v5), (6, bI v6)]) (st' := [bI v4]) l48_32 (fun _ => rfl) ?_
      refine b_s (pc' := 36) (lv1 := [(0, .ref 30), (2, bLg v2), (4, bI v4), (5, bI v5), (6, bI v6)]) (st' := [bI v5, bI v4]) l48_34 (fun _ => rfl) ?_
      refine b_iadd l48_36 fun g3 => (b_pc (pc' := 37) rfl ?_)
      refine b_s (pc' := 38) (lv1 := [(0, .ref 30), (2, bLg v2), (4, bI v4), (5, bI v5), (6, bI v6)]) (st' := [bI 2, bI (v4 + v5)]) l48_37 (fun _ => rfl) ?_
      refine b_idiv l48_38 (by decide) (b_pc (pc' := 39) rfl ?_)
      refine b_w (pc' := 41) (lv1 := ax_st1 [(0, .ref 30), (2, bLg v2), (4, bI v4), (5, bI v5), (6, bI v6)] 7 (bI (bDiv (v4 + v5) 2))) (lv' := [(0, .ref 30), (2, bLg v2), (4, bI v4), (5, bI v5), (6, bI v6), (7, bI (bDiv (v4 + v5) 2))]) (st' := []) l48_39 (fun _ => rfl) (bSb rfl (bSb rfl (bSb rfl (bSb rfl (bSb rfl (bSb rfl bSn)))))) ?_
      refine b_s (pc' := 42) (lv1 := [(0, .ref 30), (2, bLg v2), (4, bI v4), (5, bI v5), (6, bI v6), (7, bI (bDiv (v4 + v5) 2))]) (st' := [.ref 30]) l48_41 (fun _ => rfl) ?_
      refine b_gp (q' := 59) (j := 29) l48_42 (by rfl) (by decide) (by decide) rfl hk rfl rfl (b_pc (pc' := 45) rfl ?_)
      refine b_s (pc' := 47) (lv1 := [(0, .ref 30), (2, bLg v2), (4, bI v4), (5, bI v5), (6, bI v6), (7, bI (bDiv (v4 + v5) 2))]) (st' := [bI (bDiv (v4 + v5) 2), .ref 59]) l48_45 (fun _ => rfl) ?_
      refine b_g fun g11 => ?_
      refine b_ial l48_47 (by rfl) g11 (b_pc (pc' := 48) rfl ?_)
      refine b_i2l l48_48 (bO_i hk (by rfl)) (b_pc (pc' := 49) rfl ?_)
      refine b_s (pc' := 50) (lv1 := [(0, .ref 30), (2, bLg v2), (4, bI v4), (5, bI v5), (6, bI v6), (7, bI (bDiv (v4 + v5) 2))]) (st' := [bLg v2, bLg (μ 59 (bDiv (v4 + v5) 2).toNat)]) l48_49 (fun _ => rfl) ?_
      refine b_lcmp l48_50 (bR_L (bO_i hk (by rfl))) h2 (b_pc (pc' := 51) rfl ?_)
      refine b_zne (pt := 57) l48_51 (bCmp_R _ _) (by decide) rfl (fun c4 => ?_) (fun c4 => b_pc (pc' := 54) rfl ?_)
      · refine b_s (pc' := 58) (lv1 := [(0, .ref 30), (2, bLg v2), (4, bI v4), (5, bI v5), (6, bI v6), (7, bI (bDiv (v4 + v5) 2))]) (st' := [.ref 30]) l48_57 (fun _ => rfl) ?_
        refine b_gp (q' := 59) (j := 29) l48_58 (by rfl) (by decide) (by decide) rfl hk rfl rfl (b_pc (pc' := 61) rfl ?_)
        refine b_s (pc' := 63) (lv1 := [(0, .ref 30), (2, bLg v2), (4, bI v4), (5, bI v5), (6, bI v6), (7, bI (bDiv (v4 + v5) 2))]) (st' := [bI (bDiv (v4 + v5) 2), .ref 59]) l48_61 (fun _ => rfl) ?_
        refine b_g fun g10 => ?_
        refine b_ial l48_63 (by rfl) g10 (b_pc (pc' := 64) rfl ?_)
        refine b_i2l l48_64 (bO_i hk (by rfl)) (b_pc (pc' := 65) rfl ?_)
        refine b_s (pc' := 66) (lv1 := [(0, .ref 30), (2, bLg v2), (4, bI v4), (5, bI v5), (6, bI v6), (7, bI (bDiv (v4 + v5) 2))]) (st' := [bLg v2, bLg (μ 59 (bDiv (v4 + v5) 2).toNat)]) l48_65 (fun _ => rfl) ?_
        refine b_lcmp l48_66 (bR_L (bO_i hk (by rfl))) h2 (b_pc (pc' := 67) rfl ?_)
        refine b_zge (pt := 79) l48_67 (bCmp_R _ _) (by decide) rfl (fun c5 => ?_) (fun c5 => b_pc (pc' := 70) rfl ?_)
        · refine b_s (pc' := 81) (lv1 := [(0, .ref 30), (2, bLg v2), (4, bI v4), (5, bI v5), (6, bI v6), (7, bI (bDiv (v4 + v5) 2))]) (st' := [bI (bDiv (v4 + v5) 2)]) l48_79 (fun _ => rfl) ?_
          refine b_s (pc' := 82) (lv1 := [(0, .ref 30), (2, bLg v2), (4, bI v4), (5, bI v5), (6, bI v6), (7, bI (bDiv (v4 + v5) 2))]) (st' := [bI 1, bI (bDiv (v4 + v5) 2)]) l48_81 (fun _ => rfl) ?_
          refine b_isub l48_82 fun g6 => (b_pc (pc' := 83) rfl ?_)
          refine b_w (pc' := 85) (lv1 := ax_st1 [(0, .ref 30), (2, bLg v2), (4, bI v4), (5, bI v5), (6, bI v6), (7, bI (bDiv (v4 + v5) 2))] 5 (bI ((bDiv (v4 + v5) 2) - 1))) (lv' := [(0, .ref 30), (2, bLg v2), (4, bI v4), (5, bI ((bDiv (v4 + v5) 2) - 1)), (6, bI v6)]) (st' := []) l48_83 (fun _ => rfl) (bSb rfl (bSb rfl (bSb rfl (bSb rfl (bSb rfl bSn))))) ?_
          refine b_inc (lv' := [(0, .ref 30), (2, bLg v2), (4, bI v4), (5, bI ((bDiv (v4 + v5) 2) - 1)), (6, bI (v6 + 1))]) l48_85 rfl (by decide +kernel) (bSb rfl (bSb rfl (bSb rfl (bSb rfl (bSb rfl bSn))))) fun g7 => (b_pc (pc' := 88) rfl ?_)
          refine b_s (pc' := 17) (lv1 := [(0, .ref 30), (2, bLg v2), (4, bI v4), (5, bI ((bDiv (v4 + v5) 2) - 1)), (6, bI (v6 + 1))]) (st' := []) l48_88 (fun _ => rfl) ?_
          refine bD.wk (lv' := [(0, .ref 30), (2, bLg v2), (4, bI v4), (5, bI ((bDiv (v4 + v5) 2) - 1)), (6, bI (v6 + 1))]) (bSb rfl (bSb rfl (bSb rfl (bSb rfl (bSb rfl bSn))))) ?_
          exact H17 v4 ((bDiv (v4 + v5) 2) - 1) (v6 + 1) h4 g6 g7
        · refine b_s (pc' := 72) (lv1 := [(0, .ref 30), (2, bLg v2), (4, bI v4), (5, bI v5), (6, bI v6), (7, bI (bDiv (v4 + v5) 2))]) (st' := [bI (bDiv (v4 + v5) 2)]) l48_70 (fun _ => rfl) ?_
          refine b_s (pc' := 73) (lv1 := [(0, .ref 30), (2, bLg v2), (4, bI v4), (5, bI v5), (6, bI v6), (7, bI (bDiv (v4 + v5) 2))]) (st' := [bI 1, bI (bDiv (v4 + v5) 2)]) l48_72 (fun _ => rfl) ?_
          refine b_iadd l48_73 fun g8 => (b_pc (pc' := 74) rfl ?_)
          refine b_w (pc' := 76) (lv1 := ax_st1 [(0, .ref 30), (2, bLg v2), (4, bI v4), (5, bI v5), (6, bI v6), (7, bI (bDiv (v4 + v5) 2))] 4 (bI ((bDiv (v4 + v5) 2) + 1))) (lv' := [(0, .ref 30), (2, bLg v2), (4, bI ((bDiv (v4 + v5) 2) + 1)), (5, bI v5), (6, bI v6)]) (st' := []) l48_74 (fun _ => rfl) (bSb rfl (bSb rfl (bSb rfl (bSb rfl (bSb rfl bSn))))) ?_
          refine b_s (pc' := 85) (lv1 := [(0, .ref 30), (2, bLg v2), (4, bI ((bDiv (v4 + v5) 2) + 1)), (5, bI v5), (6, bI v6)]) (st' := []) l48_76 (fun _ => rfl) ?_
          refine b_inc (lv' := [(0, .ref 30), (2, bLg v2), (4, bI ((bDiv (v4 + v5) 2) + 1)), (5, bI v5), (6, bI (v6 + 1))]) l48_85 rfl (by decide +kernel) (bSb rfl (bSb rfl (bSb rfl (bSb rfl (bSb rfl bSn))))) fun g9 => (b_pc (pc' := 88) rfl ?_)
          refine b_s (pc' := 17) (lv1 := [(0, .ref 30), (2, bLg v2), (4, bI ((bDiv (v4 + v5) 2) + 1)), (5, bI v5), (6, bI (v6 + 1))]) (st' := []) l48_88 (fun _ => rfl) ?_
          refine bD.wk (lv' := [(0, .ref 30), (2, bLg v2), (4, bI ((bDiv (v4 + v5) 2) + 1)), (5, bI v5), (6, bI (v6 + 1))]) (bSb rfl (bSb rfl (bSb rfl (bSb rfl (bSb rfl bSn))))) ?_
          exact H17 ((bDiv (v4 + v5) 2) + 1) v5 (v6 + 1) g8 h5 g9
      · refine b_s (pc' := 56) (lv1 := [(0, .ref 30), (2, bLg v2), (4, bI v4), (5, bI v5), (6, bI v6), (7, bI (bDiv (v4 + v5) 2))]) (st' := [bI (bDiv (v4 + v5) 2)]) l48_54 (fun _ => rfl) ?_
        exact b_reti l48_56 rfl (bi_rg _) (hr _)
theorem p_X4_entryAt_17 {L : Nat} {xs : Nat → Int32} {d : Nat} {μ : bM}  {κ : (Int) → Option bX} (hr : ∀ r : Int, κ r = (bPc μ) r)  {v2 : Int} (h2 : bRL v2) {v4 : Int} (h4 : bR v4) {v5 : Int} (h5 : bR v5) {v6 : Int} (h6 : bR v6) : bD L xs (d + 0) 48 17 [(0, .ref 30), (2, bLg v2), (4, bI v4), (5, bI v5), (6, bI v6)] [] μ ((bLoop (fun z => F_X4_entryAt_17 v2 μ z.1 z.2.1 z.2.2) (v4, v5, v6)).bind κ) :=
  b_loop (fun z => [(0, .ref 30), (2, bLg v2), (4, bI z.1), (5, bI z.2.1), (6, bI z.2.2)]) (fun z => μ) (fun z => bR z.1 ∧ bR z.2.1 ∧ bR z.2.2) (fun κ' hκ HH z hz => q_X4_entryAt_17 (κ := κ') (fun r => (hκ _).trans (hr r)) (fun a4 a5 a6 b4 b5 b6 => HH (a4, a5, a6) ⟨b4, b5, b6⟩)  h2 hz.1 hz.2.1 hz.2.2) (v4, v5, v6) ⟨h4, h5, h6⟩
theorem r_X4_entryAt {L : Nat} {xs : Nat → Int32} {d : Nat} {μ : bM}  (v1 : Int) (h1 : bR v1) (v2 : Int) (h2 : bRL v2) : bD L xs (d + 0) 48 0 [(0, .ref 30), (1, bI v1), (2, bLg v2)] [] μ ((F_X4_entryAt v1 v2 μ).bind (bPc μ)) := by
  have hr : ∀ r, (bPc μ) r = (bPc μ) r := fun _ => rfl
  unfold F_X4_entryAt
  refine bD.ok fun hk => ?_
  refine b_s (pc' := 1) (lv1 := [(0, .ref 30), (1, bI v1), (2, bLg v2)]) (st' := [bI v1]) l48_0 (fun _ => rfl) ?_
  refine b_w (pc' := 3) (lv1 := ax_st1 [(0, .ref 30), (1, bI v1), (2, bLg v2)] 4 (bI v1)) (lv' := [(0, .ref 30), (2, bLg v2), (4, bI v1)]) (st' := []) l48_1 (fun _ => rfl) (bSb rfl (bSb rfl (bSb rfl bSn))) ?_
  refine b_s (pc' := 4) (lv1 := [(0, .ref 30), (2, bLg v2), (4, bI v1)]) (st' := [.ref 30]) l48_3 (fun _ => rfl) ?_
  refine b_gr l48_4 (by rfl) (by decide) (by decide) rfl (b_pc (pc' := 7) rfl ?_)
  refine b_gi l48_7 (bO_ft hk (ci := 3) (by rfl) rfl) (by decide) (by decide) rfl (b_pc (pc' := 10) rfl ?_)
  refine b_s (pc' := 11) (lv1 := [(0, .ref 30), (2, bLg v2), (4, bI v1)]) (st' := [bI 1, bI (μ (μ 30 0).toNat 1)]) l48_10 (fun _ => rfl) ?_
  refine b_isub l48_11 fun g1 => (b_pc (pc' := 12) rfl ?_)
  refine b_w (pc' := 14) (lv1 := ax_st1 [(0, .ref 30), (2, bLg v2), (4, bI v1)] 5 (bI ((μ (μ 30 0).toNat 1) - 1))) (lv' := [(0, .ref 30), (2, bLg v2), (4, bI v1), (5, bI ((μ (μ 30 0).toNat 1) - 1))]) (st' := []) l48_12 (fun _ => rfl) (bSb rfl (bSb rfl (bSb rfl (bSb rfl bSn)))) ?_
  refine b_s (pc' := 15) (lv1 := [(0, .ref 30), (2, bLg v2), (4, bI v1), (5, bI ((μ (μ 30 0).toNat 1) - 1))]) (st' := [bI 0]) l48_14 (fun _ => rfl) ?_
  refine b_w (pc' := 17) (lv1 := ax_st1 [(0, .ref 30), (2, bLg v2), (4, bI v1), (5, bI ((μ (μ 30 0).toNat 1) - 1))] 6 (bI 0)) (lv' := [(0, .ref 30), (2, bLg v2), (4, bI v1), (5, bI ((μ (μ 30 0).toNat 1) - 1)), (6, bI 0)]) (st' := []) l48_15 (fun _ => rfl) (bSb rfl (bSb rfl (bSb rfl (bSb rfl (bSb rfl bSn))))) ?_
  refine bD.wk (lv' := [(0, .ref 30), (2, bLg v2), (4, bI v1), (5, bI ((μ (μ 30 0).toNat 1) - 1)), (6, bI 0)]) (bSb rfl (bSb rfl (bSb rfl (bSb rfl (bSb rfl bSn))))) ?_
  exact p_X4_entryAt_17 hr h2 h1 g1 (by decide)
/-! ET$Reader.resolveReferences -/
theorem l47_0 : (ax_dt (ax_T 47)).lookup 0 = some (.iload_n 1, 1, 0, 0, 0) := by decide +kernel
theorem l47_1 : (ax_dt (ax_T 47)).lookup 1 = some (.istore_n 2, 1, 0, 0, 0) := by decide +kernel
theorem l47_2 : (ax_dt (ax_T 47)).lookup 2 = some (.iload_n 2, 1, 0, 0, 0) := by decide +kernel
theorem l47_3 : (ax_dt (ax_T 47)).lookup 3 = some (.aload_n 0, 1, 0, 0, 0) := by decide +kernel
theorem l47_4 : (ax_dt (ax_T 47)).lookup 4 = some (.getfield 12, 3, 3, 0, 0) := by decide +kernel
theorem l47_7 : (ax_dt (ax_T 47)).lookup 7 = some (.getfield 126, 3, 7, 1, 0) := by decide +kernel
theorem l47_10 : (ax_dt (ax_T 47)).lookup 10 = some (.if_icmp .ge 105, 3, 0, 0, 0) := by decide +kernel
theorem l47_13 : (ax_dt (ax_T 47)).lookup 13 = some (.iconst 0, 1, 0, 0, 0) := by decide +kernel
theorem l47_14 : (ax_dt (ax_T 47)).lookup 14 = some (.istore_n 3, 1, 0, 0, 0) := by decide +kernel
theorem l47_15 : (ax_dt (ax_T 47)).lookup 15 = some (.iload_n 3, 1, 0, 0, 0) := by decide +kernel
theorem l47_16 : (ax_dt (ax_T 47)).lookup 16 = some (.aload_n 0, 1, 0, 0, 0) := by decide +kernel
theorem l47_17 : (ax_dt (ax_T 47)).lookup 17 = some (.getfield 12, 3, 3, 0, 0) := by decide +kernel
theorem l47_20 : (ax_dt (ax_T 47)).lookup 20 = some (.getfield 166, 3, 7, 11, 0) := by decide +kernel
theorem l47_23 : (ax_dt (ax_T 47)).lookup 23 = some (.iload_n 2, 1, 0, 0, 0) := by decide +kernel
theorem l47_24 : (ax_dt (ax_T 47)).lookup 24 = some (.iaload, 1, 0, 0, 0) := by decide +kernel
theorem l47_25 : (ax_dt (ax_T 47)).lookup 25 = some (.if_icmp .ge 84, 3, 0, 0, 0) := by decide +kernel
theorem l47_28 : (ax_dt (ax_T 47)).lookup 28 = some (.iload_n 2, 1, 0, 0, 0) := by decide +kernel
theorem l47_29 : (ax_dt (ax_T 47)).lookup 29 = some (.iload_n 3, 1, 0, 0, 0) := by decide +kernel
theorem l47_30 : (ax_dt (ax_T 47)).lookup 30 = some (.invokestatic 144, 3, 77, 2, 0) := by decide +kernel
theorem l47_33 : (ax_dt (ax_T 47)).lookup 33 = some (.istore 4, 2, 0, 0, 0) := by decide +kernel
theorem l47_35 : (ax_dt (ax_T 47)).lookup 35 = some (.aload_n 0, 1, 0, 0, 0) := by decide +kernel
theorem l47_36 : (ax_dt (ax_T 47)).lookup 36 = some (.getfield 12, 3, 3, 0, 0) := by decide +kernel
theorem l47_39 : (ax_dt (ax_T 47)).lookup 39 = some (.getfield 194, 3, 7, 13, 0) := by decide +kernel
theorem l47_42 : (ax_dt (ax_T 47)).lookup 42 = some (.iload 4, 2, 0, 0, 0) := by decide +kernel
theorem l47_44 : (ax_dt (ax_T 47)).lookup 44 = some (.iaload, 1, 0, 0, 0) := by decide +kernel
theorem l47_45 : (ax_dt (ax_T 47)).lookup 45 = some (.invokestatic 195, 3, 17, 1, 0) := by decide +kernel
theorem l47_48 : (ax_dt (ax_T 47)).lookup 48 = some (.ifCond .eq 55, 3, 0, 0, 0) := by decide +kernel
theorem l47_51 : (ax_dt (ax_T 47)).lookup 51 = some (.aload_n 0, 1, 0, 0, 0) := by decide +kernel
theorem l47_52 : (ax_dt (ax_T 47)).lookup 52 = some (.iload_n 1, 1, 0, 0, 0) := by decide +kernel
theorem l47_53 : (ax_dt (ax_T 47)).lookup 53 = some (.aload_n 0, 1, 0, 0, 0) := by decide +kernel
theorem l47_54 : (ax_dt (ax_T 47)).lookup 54 = some (.getfield 12, 3, 3, 0, 0) := by decide +kernel
theorem l47_57 : (ax_dt (ax_T 47)).lookup 57 = some (.getfield 198, 3, 7, 14, 0) := by decide +kernel
theorem l47_60 : (ax_dt (ax_T 47)).lookup 60 = some (.iload 4, 2, 0, 0, 0) := by decide +kernel
theorem l47_62 : (ax_dt (ax_T 47)).lookup 62 = some (.laload, 1, 0, 0, 0) := by decide +kernel
theorem l47_63 : (ax_dt (ax_T 47)).lookup 63 = some (.invokevirtual 202, 3, 48, 2, 0) := by decide +kernel
theorem l47_66 : (ax_dt (ax_T 47)).lookup 66 = some (.istore 5, 2, 0, 0, 0) := by decide +kernel
theorem l47_68 : (ax_dt (ax_T 47)).lookup 68 = some (.iload 5, 2, 0, 0, 0) := by decide +kernel
theorem l47_70 : (ax_dt (ax_T 47)).lookup 70 = some (.iconst (-1), 1, 0, 0, 0) := by decide +kernel
theorem l47_71 : (ax_dt (ax_T 47)).lookup 71 = some (.if_icmp .ne 19, 3, 0, 0, 0) := by decide +kernel
theorem l47_74 : (ax_dt (ax_T 47)).lookup 74 = some (.aload_n 0, 1, 0, 0, 0) := by decide +kernel
theorem l47_75 : (ax_dt (ax_T 47)).lookup 75 = some (.getfield 21, 3, 3, 1, 0) := by decide +kernel
theorem l47_78 : (ax_dt (ax_T 47)).lookup 78 = some (.bipush 7, 2, 0, 0, 0) := by decide +kernel
theorem l47_80 : (ax_dt (ax_T 47)).lookup 80 = some (.aload_n 0, 1, 0, 0, 0) := by decide +kernel
theorem l47_81 : (ax_dt (ax_T 47)).lookup 81 = some (.getfield 36, 3, 3, 6, 0) := by decide +kernel
theorem l47_84 : (ax_dt (ax_T 47)).lookup 84 = some (.iload 4, 2, 0, 0, 0) := by decide +kernel
theorem l47_86 : (ax_dt (ax_T 47)).lookup 86 = some (.iaload, 1, 0, 0, 0) := by decide +kernel
theorem l47_87 : (ax_dt (ax_T 47)).lookup 87 = some (.invokevirtual 68, 3, 9, 2, 0) := by decide +kernel
theorem l47_90 : (ax_dt (ax_T 47)).lookup 90 = some (.aload_n 0, 1, 0, 0, 0) := by decide +kernel
theorem l47_91 : (ax_dt (ax_T 47)).lookup 91 = some (.getfield 12, 3, 3, 0, 0) := by decide +kernel
theorem l47_94 : (ax_dt (ax_T 47)).lookup 94 = some (.getfield 198, 3, 7, 14, 0) := by decide +kernel
theorem l47_97 : (ax_dt (ax_T 47)).lookup 97 = some (.iload 4, 2, 0, 0, 0) := by decide +kernel
theorem l47_99 : (ax_dt (ax_T 47)).lookup 99 = some (.iload 5, 2, 0, 0, 0) := by decide +kernel
theorem l47_101 : (ax_dt (ax_T 47)).lookup 101 = some (.i2l, 1, 0, 0, 0) := by decide +kernel
theorem l47_102 : (ax_dt (ax_T 47)).lookup 102 = some (.lastore, 1, 0, 0, 0) := by decide +kernel
theorem l47_103 : (ax_dt (ax_T 47)).lookup 103 = some (.iinc 3 1, 3, 0, 0, 0) := by decide +kernel
theorem l47_106 : (ax_dt (ax_T 47)).lookup 106 = some (.goto (-91), 3, 0, 0, 0) := by decide +kernel
theorem l47_109 : (ax_dt (ax_T 47)).lookup 109 = some (.iinc 2 1, 3, 0, 0, 0) := by decide +kernel
theorem l47_112 : (ax_dt (ax_T 47)).lookup 112 = some (.goto (-110), 3, 0, 0, 0) := by decide +kernel
theorem l47_115 : (ax_dt (ax_T 47)).lookup 115 = some (.return_, 1, 0, 0, 0) := by decide +kernel
noncomputable def F_X4_resolveReferences_15 (v1 : Int) (v2 : Int) (v3 : Int) (μ : bM) : Option ((Int × bM) ⊕ ((Int × bM) ⊕ ((Int ⊕ String) × bM))) := bG (0 ≤ v2 ∧ v2 < 400) (if (μ ((μ 30 0).toNat + 10) v2.toNat) ≤ v3 then bG (bR (v2 + 1)) (some (.inr (.inl ((v2 + 1), μ)))) else (F_X8_slotAt v2 v3 μ).bind fun w3 => bG (0 ≤ w3 ∧ w3 < 3200) ((F_X2_isReference (μ ((μ 30 0).toNat + 12) w3.toNat) μ).bind fun w4 => if w4 = 0 then bG (bR (v3 + 1)) (some (.inl ((v3 + 1), μ))) else bG (0 ≤ w3 ∧ w3 < 3200) ((F_X4_entryAt v1 (μ ((μ 30 0).toNat + 13) w3.toNat) μ).bind fun w7 => if ¬ w7 = (-1) then bG (0 ≤ w3 ∧ w3 < 3200) (bG (bR (v3 + 1)) (some (.inl ((v3 + 1), (bset μ ((μ 30 0).toNat + 13) w3.toNat w7))))) else bG (0 ≤ w3 ∧ w3 < 3200) (bXm (F_X1_refuse 7 (μ 60 w3.toNat) μ) (fun w12 μ13 => bG (0 ≤ w3 ∧ w3 < 3200) (bG (bR (v3 + 1)) (some (.inl ((v3 + 1), (bset μ13 ((μ13 30 0).toNat + 13) w3.toNat w7)))))) (fun e μ => some (.inr (.inr (.inr e, μ))))))))
noncomputable def F_X4_resolveReferences_2 (v1 : Int) (v2 : Int) (μ : bM) : Option ((Int × bM) ⊕ ((Int ⊕ String) × bM)) := if (μ (μ 30 0).toNat 1) ≤ v2 then some (.inr (.inl 0, μ)) else bLoop (fun z => F_X4_resolveReferences_15 v1 v2 z.1 z.2) (0, μ)
noncomputable def F_X4_resolveReferences (v1 : Int) (μ : bM) : Option ((Int ⊕ String) × bM) := bLoop (fun z => F_X4_resolveReferences_2 v1 z.1 z.2) (v1, μ)
theorem q_X4_resolveReferences_15 {L : Nat} {xs : Nat → Int32} {d : Nat} {μ : bM} {v1 : Int} {v2 : Int} {κ : ((Int × bM) ⊕ ((Int × bM) ⊕ ((Int ⊕ String) × bM))) → Option bX} (hr : ∀ r : (Int ⊕ String) × bM, κ (.inr (.inr r)) = (bXc) r) (H2 : ∀ (v2 : Int) (μ : bM), bR v2 → bD L xs (d + 1) 47 2 [(0, .ref 30), (1, bI v1), (2, bI v2)] [] μ (κ (.inr (.inl (v2, μ))))) (H15 : ∀ (v3 : Int) (μ : bM), bR v3 → bD L xs (d + 1) 47 15 [(0, .ref 30), (1, bI v1), (2, bI v2), (3, bI v3)] [] μ (κ (.inl (v3, μ))))  (h1 : bR v1) (h2 : bR v2) {v3 : Int} (h3 : bR v3) : bD L xs (d + 1) 47 15 [(0, .ref 30), (1, bI v1), (2, bI v2), (3, bI v3)] [] μ ((F_X4_resolveReferences_15 v1 v2 v3 μ).bind κ) := by
  unfold F_X4_resolveReferences_15
  refine bD.ok fun hk => ?_
  refine b_s (pc' := 16) (lv1 := [(0, .ref 30), (1, bI v1), (2, bI v2), (3, bI v3)]) (st' := [bI v3]) l47_15 (fun _ => rfl) ?_
  refine b_s (pc' := 17) (lv1 := [(0, .ref 30), (1, bI v1), (2, bI v2), (3, bI v3)]) (st' := [.ref 30, bI v3]) l47_16 (fun _ => rfl) ?_
  refine b_gr l47_17 (by rfl) (by decide) (by decide) rfl (b_pc (pc' := 20) rfl ?_)
  refine b_gp (q' := ((μ 30 0).toNat + 10)) (j := 10) l47_20 (bO_ft hk (ci := 3) (by rfl) rfl) (by decide) (by decide) rfl hk rfl rfl (b_pc (pc' := 23) rfl ?_)
  refine b_s (pc' := 24) (lv1 := [(0, .ref 30), (1, bI v1), (2, bI v2), (3, bI v3)]) (st' := [bI v2, .ref ((μ 30 0).toNat + 10), bI v3]) l47_23 (fun _ => rfl) ?_
  refine b_g fun g21 => ?_
  refine b_ial l47_24 (bTree_e (bO_ft hk (ci := 3) (by rfl) rfl) 10 (by decide)) g21 (b_pc (pc' := 25) rfl ?_)
  refine b_ige (pt := 109) l47_25 h3 (bO_i hk (bTree_e (bO_ft hk (ci := 3) (by rfl) rfl) 10 (by decide))) (by decide) rfl (fun c1 => ?_) (fun c1 => b_pc (pc' := 28) rfl ?_)
  · refine b_inc (lv' := [(0, .ref 30), (1, bI v1), (2, bI (v2 + 1))]) l47_109 rfl (by decide +kernel) (bSb rfl (bSb rfl (bSb rfl bSn))) fun g2 => (b_pc (pc' := 112) rfl ?_)
    refine b_s (pc' := 2) (lv1 := [(0, .ref 30), (1, bI v1), (2, bI (v2 + 1))]) (st' := []) l47_112 (fun _ => rfl) ?_
    refine bD.wk (lv' := [(0, .ref 30), (1, bI v1), (2, bI (v2 + 1))]) (bSb rfl (bSb rfl (bSb rfl bSn))) ?_
    exact H2 (v2 + 1) μ g2
  · refine b_s (pc' := 29) (lv1 := [(0, .ref 30), (1, bI v1), (2, bI v2), (3, bI v3)]) (st' := [bI v2]) l47_28 (fun _ => rfl) ?_
    refine b_s (pc' := 30) (lv1 := [(0, .ref 30), (1, bI v1), (2, bI v2), (3, bI v3)]) (st' := [bI v3, bI v2]) l47_29 (fun _ => rfl) ?_
    refine b_cPi l47_30 rfl (fun _ => trivial) (Nat.le_of_ble_eq_true rfl) (Nat.le_of_ble_eq_true rfl) rfl (r_X8_slotAt v2 h2 v3 h3) fun w3 hw3 => b_pc (pc' := 33) rfl ?_
    refine b_w (pc' := 35) (lv1 := ax_st1 [(0, .ref 30), (1, bI v1), (2, bI v2), (3, bI v3)] 4 (bI w3)) (lv' := [(0, .ref 30), (1, bI v1), (2, bI v2), (3, bI v3), (4, bI w3)]) (st' := []) l47_33 (fun _ => rfl) (bSb rfl (bSb rfl (bSb rfl (bSb rfl (bSb rfl bSn))))) ?_
    refine b_s (pc' := 36) (lv1 := [(0, .ref 30), (1, bI v1), (2, bI v2), (3, bI v3), (4, bI w3)]) (st' := [.ref 30]) l47_35 (fun _ => rfl) ?_
    refine b_gr l47_36 (by rfl) (by decide) (by decide) rfl (b_pc (pc' := 39) rfl ?_)
    refine b_gp (q' := ((μ 30 0).toNat + 12)) (j := 12) l47_39 (bO_ft hk (ci := 3) (by rfl) rfl) (by decide) (by decide) rfl hk rfl rfl (b_pc (pc' := 42) rfl ?_)
    refine b_s (pc' := 44) (lv1 := [(0, .ref 30), (1, bI v1), (2, bI v2), (3, bI v3), (4, bI w3)]) (st' := [bI w3, .ref ((μ 30 0).toNat + 12)]) l47_42 (fun _ => rfl) ?_
    refine b_g fun g20 => ?_
    refine b_ial l47_44 (bTree_f (bO_ft hk (ci := 3) (by rfl) rfl)) g20 (b_pc (pc' := 45) rfl ?_)
    refine b_cPz l47_45 rfl (fun _ => trivial) (Nat.le_of_ble_eq_true rfl) (Nat.le_of_ble_eq_true rfl) rfl (r_X2_isReference (μ ((μ 30 0).toNat + 12) w3.toNat) (bO_i hk (bTree_f (bO_ft hk (ci := 3) (by rfl) rfl)))) fun w4 hw4 => b_pc (pc' := 48) rfl ?_
    refine b_zeq (pt := 103) l47_48 (bZ_R hw4) (by decide) rfl (fun c5 => ?_) (fun c5 => b_pc (pc' := 51) rfl ?_)
    · refine b_inc (lv' := [(0, .ref 30), (1, bI v1), (2, bI v2), (3, bI (v3 + 1))]) l47_103 rfl (by decide +kernel) (bSb rfl (bSb rfl (bSb rfl (bSb rfl bSn)))) fun g6 => (b_pc (pc' := 106) rfl ?_)
      refine b_s (pc' := 15) (lv1 := [(0, .ref 30), (1, bI v1), (2, bI v2), (3, bI (v3 + 1))]) (st' := []) l47_106 (fun _ => rfl) ?_
      refine bD.wk (lv' := [(0, .ref 30), (1, bI v1), (2, bI v2), (3, bI (v3 + 1))]) (bSb rfl (bSb rfl (bSb rfl (bSb rfl bSn)))) ?_
      exact H15 (v3 + 1) μ g6
    · refine b_s (pc' := 52) (lv1 := [(0, .ref 30), (1, bI v1), (2, bI v2), (3, bI v3), (4, bI w3)]) (st' := [.ref 30]) l47_51 (fun _ => rfl) ?_
      refine b_s (pc' := 53) (lv1 := [(0, .ref 30), (1, bI v1), (2, bI v2), (3, bI v3), (4, bI w3)]) (st' := [bI v1, .ref 30]) l47_52 (fun _ => rfl) ?_
      refine b_s (pc' := 54) (lv1 := [(0, .ref 30), (1, bI v1), (2, bI v2), (3, bI v3), (4, bI w3)]) (st' := [.ref 30, bI v1, .ref 30]) l47_53 (fun _ => rfl) ?_
      refine b_gr l47_54 (by rfl) (by decide) (by decide) rfl (b_pc (pc' := 57) rfl ?_)
      refine b_gp (q' := ((μ 30 0).toNat + 13)) (j := 13) l47_57 (bO_ft hk (ci := 3) (by rfl) rfl) (by decide) (by decide) rfl hk rfl rfl (b_pc (pc' := 60) rfl ?_)
      refine b_s (pc' := 62) (lv1 := [(0, .ref 30), (1, bI v1), (2, bI v2), (3, bI v3), (4, bI w3)]) (st' := [bI w3, .ref ((μ 30 0).toNat + 13), bI v1, .ref 30]) l47_60 (fun _ => rfl) ?_
      refine b_g fun g19 => ?_
      refine b_lal l47_62 (bTree_v (bO_ft hk (ci := 3) (by rfl) rfl)) g19 (b_pc (pc' := 63) rfl ?_)
      refine b_cPi l47_63 rfl (b_rc (ci := 3) (by rfl) (by decide) (by decide +kernel)) (Nat.le_of_ble_eq_true rfl) (Nat.le_of_ble_eq_true rfl) rfl (r_X4_entryAt v1 h1 (μ ((μ 30 0).toNat + 13) w3.toNat) (bO_l hk (bTree_v (bO_ft hk (ci := 3) (by rfl) rfl)))) fun w7 hw7 => b_pc (pc' := 66) rfl ?_
      refine b_w (pc' := 68) (lv1 := ax_st1 [(0, .ref 30), (1, bI v1), (2, bI v2), (3, bI v3), (4, bI w3)] 5 (bI w7)) (lv' := [(0, .ref 30), (1, bI v1), (2, bI v2), (3, bI v3), (4, bI w3), (5, bI w7)]) (st' := []) l47_66 (fun _ => rfl) (bSb rfl (bSb rfl (bSb rfl (bSb rfl (bSb rfl (bSb rfl bSn)))))) ?_
      refine b_s (pc' := 70) (lv1 := [(0, .ref 30), (1, bI v1), (2, bI v2), (3, bI v3), (4, bI w3), (5, bI w7)]) (st' := [bI w7]) l47_68 (fun _ => rfl) ?_
      refine b_s (pc' := 71) (lv1 := [(0, .ref 30), (1, bI v1), (2, bI v2), (3, bI v3), (4, bI w3), (5, bI w7)]) (st' := [bI (-1), bI w7]) l47_70 (fun _ => rfl) ?_
      refine b_ine (pt := 90) l47_71 hw7 (by decide) (by decide) rfl (fun c8 => ?_) (fun c8 => b_pc (pc' := 74) rfl ?_)
      · refine b_s (pc' := 91) (lv1 := [(0, .ref 30), (1, bI v1), (2, bI v2), (3, bI v3), (4, bI w3), (5, bI w7)]) (st' := [.ref 30]) l47_90 (fun _ => rfl) ?_
        refine b_gr l47_91 (by rfl) (by decide) (by decide) rfl (b_pc (pc' := 94) rfl ?_)
        refine b_gp (q' := ((μ 30 0).toNat + 13)) (j := 13) l47_94 (bO_ft hk (ci := 3) (by rfl) rfl) (by decide) (by decide) rfl hk rfl rfl (b_pc (pc' := 97) rfl ?_)
        refine b_s (pc' := 99) (lv1 := [(0, .ref 30), (1, bI v1), (2, bI v2), (3, bI v3), (4, bI w3), (5, bI w7)]) (st' := [bI w3, .ref ((μ 30 0).toNat + 13)]) l47_97 (fun _ => rfl) ?_
        refine b_s (pc' := 101) (lv1 := [(0, .ref 30), (1, bI v1), (2, bI v2), (3, bI v3), (4, bI w3), (5, bI w7)]) (st' := [bI w7, bI w3, .ref ((μ 30 0).toNat + 13)]) l47_99 (fun _ => rfl) ?_
        refine b_i2l l47_101 hw7 (b_pc (pc' := 102) rfl ?_)
        refine b_g fun g11 => ?_
        refine b_las l47_102 (bTree_v (bO_ft hk (ci := 3) (by rfl) rfl)) g11 (bR_L hw7) (bD.ok fun hk9 => b_pc (pc' := 103) rfl ?_)
        refine b_inc (lv' := [(0, .ref 30), (1, bI v1), (2, bI v2), (3, bI (v3 + 1))]) l47_103 rfl (by decide +kernel) (bSb rfl (bSb rfl (bSb rfl (bSb rfl bSn)))) fun g10 => (b_pc (pc' := 106) rfl ?_)
        refine b_s (pc' := 15) (lv1 := [(0, .ref 30), (1, bI v1), (2, bI v2), (3, bI (v3 + 1))]) (st' := []) l47_106 (fun _ => rfl) ?_
        refine bD.wk (lv' := [(0, .ref 30), (1, bI v1), (2, bI v2), (3, bI (v3 + 1))]) (bSb rfl (bSb rfl (bSb rfl (bSb rfl bSn)))) ?_
        exact H15 (v3 + 1) (bset μ ((μ 30 0).toNat + 13) w3.toNat w7) g10
      · refine b_s (pc' := 75) (lv1 := [(0, .ref 30), (1, bI v1), (2, bI v2), (3, bI v3), (4, bI w3), (5, bI w7)]) (st' := [.ref 30]) l47_74 (fun _ => rfl) ?_
        refine b_gp (q' := 46) (j := 16) l47_75 (by rfl) (by decide) (by decide) rfl hk rfl rfl (b_pc (pc' := 78) rfl ?_)
        refine b_bipush l47_78 (by decide) (b_pc (pc' := 80) rfl ?_)
        refine b_s (pc' := 81) (lv1 := [(0, .ref 30), (1, bI v1), (2, bI v2), (3, bI v3), (4, bI w3), (5, bI w7)]) (st' := [.ref 30, bI 7, .ref 46]) l47_80 (fun _ => rfl) ?_
        refine b_gp (q' := 60) (j := 30) l47_81 (by rfl) (by decide) (by decide) rfl hk rfl rfl (b_pc (pc' := 84) rfl ?_)
        refine b_s (pc' := 86) (lv1 := [(0, .ref 30), (1, bI v1), (2, bI v2), (3, bI v3), (4, bI w3), (5, bI w7)]) (st' := [bI w3, .ref 60, bI 7, .ref 46]) l47_84 (fun _ => rfl) ?_
        refine b_g fun g18 => ?_
        refine b_ial l47_86 (by rfl) g18 (b_pc (pc' := 87) rfl ?_)
        refine b_cXv l47_87 rfl (b_rc (ci := 1) (by rfl) (by decide) (by decide +kernel)) (Nat.le_of_ble_eq_true rfl) (Nat.le_of_ble_eq_true rfl) rfl (r_X1_refuse 7 (by decide) (μ 60 w3.toNat) (bO_i hk (by rfl))) ⟨fun _ z => (by cases z), (by decide +kernel)⟩ rfl (fun _ _ => hr _) fun w12 μ13 hw12 => bD.ok fun hk14 => b_pc (pc' := 90) rfl ?_
        refine b_s (pc' := 91) (lv1 := [(0, .ref 30), (1, bI v1), (2, bI v2), (3, bI v3), (4, bI w3), (5, bI w7)]) (st' := [.ref 30]) l47_90 (fun _ => rfl) ?_
        refine b_gr l47_91 (by rfl) (by decide) (by decide) rfl (b_pc (pc' := 94) rfl ?_)
        refine b_gp (q' := ((μ13 30 0).toNat + 13)) (j := 13) l47_94 (bO_ft hk14 (ci := 3) (by rfl) rfl) (by decide) (by decide) rfl hk14 rfl rfl (b_pc (pc' := 97) rfl ?_)
        refine b_s (pc' := 99) (lv1 := [(0, .ref 30), (1, bI v1), (2, bI v2), (3, bI v3), (4, bI w3), (5, bI w7)]) (st' := [bI w3, .ref ((μ13 30 0).toNat + 13)]) l47_97 (fun _ => rfl) ?_
        refine b_s (pc' := 101) (lv1 := [(0, .ref 30), (1, bI v1), (2, bI v2), (3, bI v3), (4, bI w3), (5, bI w7)]) (st' := [bI w7, bI w3, .ref ((μ13 30 0).toNat + 13)]) l47_99 (fun _ => rfl) ?_
        refine b_i2l l47_101 hw7 (b_pc (pc' := 102) rfl ?_)
        refine b_g fun g17 => ?_
        refine b_las l47_102 (bTree_v (bO_ft hk14 (ci := 3) (by rfl) rfl)) g17 (bR_L hw7) (bD.ok fun hk15 => b_pc (pc' := 103) rfl ?_)
        refine b_inc (lv' := [(0, .ref 30), (1, bI v1), (2, bI v2), (3, bI (v3 + 1))]) l47_103 rfl (by decide +kernel) (bSb rfl (bSb rfl (bSb rfl (bSb rfl bSn)))) fun g16 => (b_pc (pc' := 106) rfl ?_)
        refine b_s (pc' := 15) (lv1 := [(0, .ref 30), (1, bI v1), (2, bI v2), (3, bI (v3 + 1))]) (st' := []) l47_106 (fun _ => rfl) ?_
        refine bD.wk (lv' := [(0, .ref 30), (1, bI v1), (2, bI v2), (3, bI (v3 + 1))]) (bSb rfl (bSb rfl (bSb rfl (bSb rfl bSn)))) ?_
        exact H15 (v3 + 1) (bset μ13 ((μ13 30 0).toNat + 13) w3.toNat w7) g16
theorem p_X4_resolveReferences_15 {L : Nat} {xs : Nat → Int32} {d : Nat} {μ : bM} {v1 : Int} {κ : ((Int × bM) ⊕ ((Int ⊕ String) × bM)) → Option bX} (hr : ∀ r : (Int ⊕ String) × bM, κ (.inr r) = (bXc) r) (H2 : ∀ (v2 : Int) (μ : bM), bR v2 → bD L xs (d + 1) 47 2 [(0, .ref 30), (1, bI v1), (2, bI v2)] [] μ (κ (.inl (v2, μ))))  (h1 : bR v1) {v2 : Int} (h2 : bR v2) {v3 : Int} (h3 : bR v3) : bD L xs (d + 1) 47 15 [(0, .ref 30), (1, bI v1), (2, bI v2), (3, bI v3)] [] μ ((bLoop (fun z => F_X4_resolveReferences_15 v1 v2 z.1 z.2) (v3, μ)).bind κ) :=
  b_loop (fun z => [(0, .ref 30), (1, bI v1), (2, bI v2), (3, bI z.1)]) (fun z => z.2) (fun z => bR z.1) (fun κ' hκ HH z hz => q_X4_resolveReferences_15 (κ := κ') (fun r => (hκ _).trans (hr r)) (fun a2 am b2 => b_eq (hκ _) (H2 a2 am b2)) (fun a3 am b3 => HH (a3, am) b3)  h1 h2 hz) (v3, μ) h3
theorem q_X4_resolveReferences_2 {L : Nat} {xs : Nat → Int32} {d : Nat} {μ : bM} {v1 : Int} {κ : ((Int × bM) ⊕ ((Int ⊕ String) × bM)) → Option bX} (hr : ∀ r : (Int ⊕ String) × bM, κ (.inr r) = (bXc) r) (H2 : ∀ (v2 : Int) (μ : bM), bR v2 → bD L xs (d + 1) 47 2 [(0, .ref 30), (1, bI v1), (2, bI v2)] [] μ (κ (.inl (v2, μ))))  (h1 : bR v1) {v2 : Int} (h2 : bR v2) : bD L xs (d + 1) 47 2 [(0, .ref 30), (1, bI v1), (2, bI v2)] [] μ ((F_X4_resolveReferences_2 v1 v2 μ).bind κ) := by
  unfold F_X4_resolveReferences_2
  refine bD.ok fun hk => ?_
  refine b_s (pc' := 3) (lv1 := [(0, .ref 30), (1, bI v1), (2, bI v2)]) (st' := [bI v2]) l47_2 (fun _ => rfl) ?_
  refine b_s (pc' := 4) (lv1 := [(0, .ref 30), (1, bI v1), (2, bI v2)]) (st' := [.ref 30, bI v2]) l47_3 (fun _ => rfl) ?_
  refine b_gr l47_4 (by rfl) (by decide) (by decide) rfl (b_pc (pc' := 7) rfl ?_)
  refine b_gi l47_7 (bO_ft hk (ci := 3) (by rfl) rfl) (by decide) (by decide) rfl (b_pc (pc' := 10) rfl ?_)
  refine b_ige (pt := 115) l47_10 h2 (bO_f hk (ci := 7) (bO_ft hk (ci := 3) (by rfl) rfl) rfl) (by decide) rfl (fun c1 => ?_) (fun c1 => b_pc (pc' := 13) rfl ?_)
  · exact b_retv l47_115 rfl (hr _)
  · refine b_s (pc' := 14) (lv1 := [(0, .ref 30), (1, bI v1), (2, bI v2)]) (st' := [bI 0]) l47_13 (fun _ => rfl) ?_
    refine b_w (pc' := 15) (lv1 := ax_st1 [(0, .ref 30), (1, bI v1), (2, bI v2)] 3 (bI 0)) (lv' := [(0, .ref 30), (1, bI v1), (2, bI v2), (3, bI 0)]) (st' := []) l47_14 (fun _ => rfl) (bSb rfl (bSb rfl (bSb rfl (bSb rfl bSn)))) ?_
    refine bD.wk (lv' := [(0, .ref 30), (1, bI v1), (2, bI v2), (3, bI 0)]) (bSb rfl (bSb rfl (bSb rfl (bSb rfl bSn)))) ?_
    exact p_X4_resolveReferences_15 hr H2 h1 h2 (by decide)
theorem p_X4_resolveReferences_2 {L : Nat} {xs : Nat → Int32} {d : Nat} {μ : bM}  {κ : ((Int ⊕ String) × bM) → Option bX} (hr : ∀ r : (Int ⊕ String) × bM, κ r = (bXc) r)  {v1 : Int} (h1 : bR v1) {v2 : Int} (h2 : bR v2) : bD L xs (d + 1) 47 2 [(0, .ref 30), (1, bI v1), (2, bI v2)] [] μ ((bLoop (fun z => F_X4_resolveReferences_2 v1 z.1 z.2) (v2, μ)).bind κ) :=
  b_loop (fun z => [(0, .ref 30), (1, bI v1), (2, bI z.1)]) (fun z => z.2) (fun z => bR z.1) (fun κ' hκ HH z hz => q_X4_resolveReferences_2 (κ := κ') (fun r => (hκ _).trans (hr r)) (fun a2 am b2 => HH (a2, am) b2)  h1 hz) (v2, μ) h2
theorem r_X4_resolveReferences {L : Nat} {xs : Nat → Int32} {d : Nat} {μ : bM}  (v1 : Int) (h1 : bR v1) : bD L xs (d + 1) 47 0 [(0, .ref 30), (1, bI v1)] [] μ ((F_X4_resolveReferences v1 μ).bind (bXc)) := by
  have hr : ∀ r, (bXc) r = (bXc) r := fun _ => rfl
  unfold F_X4_resolveReferences
  refine bD.ok fun hk => ?_
  refine b_s (pc' := 1) (lv1 := [(0, .ref 30), (1, bI v1)]) (st' := [bI v1]) l47_0 (fun _ => rfl) ?_
  refine b_w (pc' := 2) (lv1 := ax_st1 [(0, .ref 30), (1, bI v1)] 2 (bI v1)) (lv' := [(0, .ref 30), (1, bI v1), (2, bI v1)]) (st' := []) l47_1 (fun _ => rfl) (bSb rfl (bSb rfl (bSb rfl bSn))) ?_
  refine bD.wk (lv' := [(0, .ref 30), (1, bI v1), (2, bI v1)]) (bSb rfl (bSb rfl (bSb rfl bSn))) ?_
  exact p_X4_resolveReferences_2 hr h1 h1
/-! ET$Reader.readUnits -/
theorem l40_0 : (ax_dt (ax_T 40)).lookup 0 = some (.aload_n 0, 1, 0, 0, 0) := by decide +kernel
theorem l40_1 : (ax_dt (ax_T 40)).lookup 1 = some (.getfield 21, 3, 3, 1, 0) := by decide +kernel
theorem l40_4 : (ax_dt (ax_T 40)).lookup 4 = some (.invokevirtual 39, 3, 8, 0, 0) := by decide +kernel
theorem l40_7 : (ax_dt (ax_T 40)).lookup 7 = some (.aload_n 0, 1, 0, 0, 0) := by decide +kernel
theorem l40_8 : (ax_dt (ax_T 40)).lookup 8 = some (.getfield 12, 3, 3, 0, 0) := by decide +kernel
theorem l40_11 : (ax_dt (ax_T 40)).lookup 11 = some (.invokevirtual 42, 3, 78, 0, 0) := by decide +kernel
theorem l40_14 : (ax_dt (ax_T 40)).lookup 14 = some (.aload_n 0, 1, 0, 0, 0) := by decide +kernel
theorem l40_15 : (ax_dt (ax_T 40)).lookup 15 = some (.iconst (-1), 1, 0, 0, 0) := by decide +kernel
theorem l40_16 : (ax_dt (ax_T 40)).lookup 16 = some (.putfield 45, 3, 3, 3, 0) := by decide +kernel
theorem l40_19 : (ax_dt (ax_T 40)).lookup 19 = some (.aload_n 0, 1, 0, 0, 0) := by decide +kernel
theorem l40_20 : (ax_dt (ax_T 40)).lookup 20 = some (.iconst 0, 1, 0, 0, 0) := by decide +kernel
theorem l40_21 : (ax_dt (ax_T 40)).lookup 21 = some (.putfield 49, 3, 3, 4, 0) := by decide +kernel
theorem l40_24 : (ax_dt (ax_T 40)).lookup 24 = some (.aload_n 1, 1, 0, 0, 0) := by decide +kernel
theorem l40_25 : (ax_dt (ax_T 40)).lookup 25 = some (.getfield 52, 3, 4, 0, 0) := by decide +kernel
theorem l40_28 : (ax_dt (ax_T 40)).lookup 28 = some (.invokevirtual 58, 3, 52, 0, 0) := by decide +kernel
theorem l40_31 : (ax_dt (ax_T 40)).lookup 31 = some (.istore_n 2, 1, 0, 0, 0) := by decide +kernel
theorem l40_32 : (ax_dt (ax_T 40)).lookup 32 = some (.iconst 0, 1, 0, 0, 0) := by decide +kernel
theorem l40_33 : (ax_dt (ax_T 40)).lookup 33 = some (.istore_n 3, 1, 0, 0, 0) := by decide +kernel
theorem l40_34 : (ax_dt (ax_T 40)).lookup 34 = some (.iconst 0, 1, 0, 0, 0) := by decide +kernel
theorem l40_35 : (ax_dt (ax_T 40)).lookup 35 = some (.istore 4, 2, 0, 0, 0) := by decide +kernel
theorem l40_37 : (ax_dt (ax_T 40)).lookup 37 = some (.iload 4, 2, 0, 0, 0) := by decide +kernel
theorem l40_39 : (ax_dt (ax_T 40)).lookup 39 = some (.bipush 6, 2, 0, 0, 0) := by decide +kernel
theorem l40_41 : (ax_dt (ax_T 40)).lookup 41 = some (.if_icmp .gt 168, 3, 0, 0, 0) := by decide +kernel
theorem l40_44 : (ax_dt (ax_T 40)).lookup 44 = some (.iload_n 3, 1, 0, 0, 0) := by decide +kernel
theorem l40_45 : (ax_dt (ax_T 40)).lookup 45 = some (.iload_n 2, 1, 0, 0, 0) := by decide +kernel
theorem l40_46 : (ax_dt (ax_T 40)).lookup 46 = some (.if_icmp .ge 163, 3, 0, 0, 0) := by decide +kernel
theorem l40_49 : (ax_dt (ax_T 40)).lookup 49 = some (.aload_n 0, 1, 0, 0, 0) := by decide +kernel
theorem l40_50 : (ax_dt (ax_T 40)).lookup 50 = some (.getfield 21, 3, 3, 1, 0) := by decide +kernel
theorem l40_53 : (ax_dt (ax_T 40)).lookup 53 = some (.aload_n 1, 1, 0, 0, 0) := by decide +kernel
theorem l40_54 : (ax_dt (ax_T 40)).lookup 54 = some (.iconst 0, 1, 0, 0, 0) := by decide +kernel
theorem l40_55 : (ax_dt (ax_T 40)).lookup 55 = some (.iload_n 3, 1, 0, 0, 0) := by decide +kernel
theorem l40_56 : (ax_dt (ax_T 40)).lookup 56 = some (.iload_n 2, 1, 0, 0, 0) := by decide +kernel
theorem l40_57 : (ax_dt (ax_T 40)).lookup 57 = some (.invokevirtual 64, 3, 7, 4, 0) := by decide +kernel
theorem l40_60 : (ax_dt (ax_T 40)).lookup 60 = some (.iload 4, 2, 0, 0, 0) := by decide +kernel
theorem l40_62 : (ax_dt (ax_T 40)).lookup 62 = some (.bipush 6, 2, 0, 0, 0) := by decide +kernel
theorem l40_64 : (ax_dt (ax_T 40)).lookup 64 = some (.if_icmp .ne 13, 3, 0, 0, 0) := by decide +kernel
theorem l40_67 : (ax_dt (ax_T 40)).lookup 67 = some (.aload_n 0, 1, 0, 0, 0) := by decide +kernel
theorem l40_68 : (ax_dt (ax_T 40)).lookup 68 = some (.getfield 21, 3, 3, 1, 0) := by decide +kernel
theorem l40_71 : (ax_dt (ax_T 40)).lookup 71 = some (.bipush 8, 2, 0, 0, 0) := by decide +kernel
theorem l40_73 : (ax_dt (ax_T 40)).lookup 73 = some (.iload_n 3, 1, 0, 0, 0) := by decide +kernel
theorem l40_74 : (ax_dt (ax_T 40)).lookup 74 = some (.invokevirtual 68, 3, 9, 2, 0) := by decide +kernel
theorem l40_77 : (ax_dt (ax_T 40)).lookup 77 = some (.aload_n 0, 1, 0, 0, 0) := by decide +kernel
theorem l40_78 : (ax_dt (ax_T 40)).lookup 78 = some (.aload_n 1, 1, 0, 0, 0) := by decide +kernel
theorem l40_79 : (ax_dt (ax_T 40)).lookup 79 = some (.iload_n 3, 1, 0, 0, 0) := by decide +kernel
theorem l40_80 : (ax_dt (ax_T 40)).lookup 80 = some (.invokevirtual 72, 3, 41, 2, 0) := by decide +kernel
theorem l40_83 : (ax_dt (ax_T 40)).lookup 83 = some (.istore 5, 2, 0, 0, 0) := by decide +kernel
theorem l40_85 : (ax_dt (ax_T 40)).lookup 85 = some (.aload_n 0, 1, 0, 0, 0) := by decide +kernel
theorem l40_86 : (ax_dt (ax_T 40)).lookup 86 = some (.getfield 21, 3, 3, 1, 0) := by decide +kernel
theorem l40_89 : (ax_dt (ax_T 40)).lookup 89 = some (.getfield 76, 3, 1, 1, 0) := by decide +kernel
theorem l40_92 : (ax_dt (ax_T 40)).lookup 92 = some (.istore 6, 2, 0, 0, 0) := by decide +kernel
theorem l40_94 : (ax_dt (ax_T 40)).lookup 94 = some (.iload 5, 2, 0, 0, 0) := by decide +kernel
theorem l40_96 : (ax_dt (ax_T 40)).lookup 96 = some (.aload_n 0, 1, 0, 0, 0) := by decide +kernel
theorem l40_97 : (ax_dt (ax_T 40)).lookup 97 = some (.getfield 45, 3, 3, 3, 0) := by decide +kernel
theorem l40_100 : (ax_dt (ax_T 40)).lookup 100 = some (.if_icmp .eq 38, 3, 0, 0, 0) := by decide +kernel
theorem l40_103 : (ax_dt (ax_T 40)).lookup 103 = some (.aload_n 0, 1, 0, 0, 0) := by decide +kernel
theorem l40_104 : (ax_dt (ax_T 40)).lookup 104 = some (.getfield 21, 3, 3, 1, 0) := by decide +kernel
theorem l40_107 : (ax_dt (ax_T 40)).lookup 107 = some (.aload_n 1, 1, 0, 0, 0) := by decide +kernel
theorem l40_108 : (ax_dt (ax_T 40)).lookup 108 = some (.iconst 1, 1, 0, 0, 0) := by decide +kernel
theorem l40_109 : (ax_dt (ax_T 40)).lookup 109 = some (.iload 5, 2, 0, 0, 0) := by decide +kernel
theorem l40_111 : (ax_dt (ax_T 40)).lookup 111 = some (.aload_n 1, 1, 0, 0, 0) := by decide +kernel
theorem l40_112 : (ax_dt (ax_T 40)).lookup 112 = some (.getfield 79, 3, 4, 1, 0) := by decide +kernel
theorem l40_115 : (ax_dt (ax_T 40)).lookup 115 = some (.invokevirtual 58, 3, 52, 0, 0) := by decide +kernel
theorem l40_118 : (ax_dt (ax_T 40)).lookup 118 = some (.invokevirtual 64, 3, 7, 4, 0) := by decide +kernel
theorem l40_121 : (ax_dt (ax_T 40)).lookup 121 = some (.aload_n 0, 1, 0, 0, 0) := by decide +kernel
theorem l40_122 : (ax_dt (ax_T 40)).lookup 122 = some (.getfield 28, 3, 3, 2, 0) := by decide +kernel
theorem l40_125 : (ax_dt (ax_T 40)).lookup 125 = some (.aload_n 0, 1, 0, 0, 0) := by decide +kernel
theorem l40_126 : (ax_dt (ax_T 40)).lookup 126 = some (.getfield 21, 3, 3, 1, 0) := by decide +kernel
theorem l40_129 : (ax_dt (ax_T 40)).lookup 129 = some (.invokevirtual 82, 3, 72, 1, 0) := by decide +kernel
theorem l40_132 : (ax_dt (ax_T 40)).lookup 132 = some (.aload_n 0, 1, 0, 0, 0) := by decide +kernel
theorem l40_133 : (ax_dt (ax_T 40)).lookup 133 = some (.iload 5, 2, 0, 0, 0) := by decide +kernel
theorem l40_135 : (ax_dt (ax_T 40)).lookup 135 = some (.putfield 45, 3, 3, 3, 0) := by decide +kernel
theorem l40_138 : (ax_dt (ax_T 40)).lookup 138 = some (.aload_n 0, 1, 0, 0, 0) := by decide +kernel
theorem l40_139 : (ax_dt (ax_T 40)).lookup 139 = some (.getfield 21, 3, 3, 1, 0) := by decide +kernel
theorem l40_142 : (ax_dt (ax_T 40)).lookup 142 = some (.aload_n 1, 1, 0, 0, 0) := by decide +kernel
theorem l40_143 : (ax_dt (ax_T 40)).lookup 143 = some (.iconst 0, 1, 0, 0, 0) := by decide +kernel
theorem l40_144 : (ax_dt (ax_T 40)).lookup 144 = some (.iload_n 3, 1, 0, 0, 0) := by decide +kernel
theorem l40_145 : (ax_dt (ax_T 40)).lookup 145 = some (.bipush 11, 2, 0, 0, 0) := by decide +kernel
theorem l40_147 : (ax_dt (ax_T 40)).lookup 147 = some (.iadd, 1, 0, 0, 0) := by decide +kernel
theorem l40_148 : (ax_dt (ax_T 40)).lookup 148 = some (.iload 6, 2, 0, 0, 0) := by decide +kernel
theorem l40_150 : (ax_dt (ax_T 40)).lookup 150 = some (.invokevirtual 64, 3, 7, 4, 0) := by decide +kernel
theorem l40_153 : (ax_dt (ax_T 40)).lookup 153 = some (.aload_n 0, 1, 0, 0, 0) := by decide +kernel
theorem l40_154 : (ax_dt (ax_T 40)).lookup 154 = some (.aload_n 1, 1, 0, 0, 0) := by decide +kernel
theorem l40_155 : (ax_dt (ax_T 40)).lookup 155 = some (.iload_n 3, 1, 0, 0, 0) := by decide +kernel
theorem l40_156 : (ax_dt (ax_T 40)).lookup 156 = some (.invokevirtual 86, 3, 42, 2, 0) := by decide +kernel
theorem l40_159 : (ax_dt (ax_T 40)).lookup 159 = some (.aload_n 0, 1, 0, 0, 0) := by decide +kernel
theorem l40_160 : (ax_dt (ax_T 40)).lookup 160 = some (.getfield 21, 3, 3, 1, 0) := by decide +kernel
theorem l40_163 : (ax_dt (ax_T 40)).lookup 163 = some (.getfield 90, 3, 1, 0, 0) := by decide +kernel
theorem l40_166 : (ax_dt (ax_T 40)).lookup 166 = some (.iload 6, 2, 0, 0, 0) := by decide +kernel
theorem l40_168 : (ax_dt (ax_T 40)).lookup 168 = some (.if_icmp .ge 18, 3, 0, 0, 0) := by decide +kernel
theorem l40_171 : (ax_dt (ax_T 40)).lookup 171 = some (.aload_n 0, 1, 0, 0, 0) := by decide +kernel
theorem l40_172 : (ax_dt (ax_T 40)).lookup 172 = some (.getfield 21, 3, 3, 1, 0) := by decide +kernel
theorem l40_175 : (ax_dt (ax_T 40)).lookup 175 = some (.iconst 5, 1, 0, 0, 0) := by decide +kernel
theorem l40_176 : (ax_dt (ax_T 40)).lookup 176 = some (.aload_n 0, 1, 0, 0, 0) := by decide +kernel
theorem l40_177 : (ax_dt (ax_T 40)).lookup 177 = some (.getfield 21, 3, 3, 1, 0) := by decide +kernel
theorem l40_180 : (ax_dt (ax_T 40)).lookup 180 = some (.getfield 90, 3, 1, 0, 0) := by decide +kernel
theorem l40_183 : (ax_dt (ax_T 40)).lookup 183 = some (.invokevirtual 68, 3, 9, 2, 0) := by decide +kernel
theorem l40_186 : (ax_dt (ax_T 40)).lookup 186 = some (.aload_n 0, 1, 0, 0, 0) := by decide +kernel
theorem l40_187 : (ax_dt (ax_T 40)).lookup 187 = some (.aload_n 0, 1, 0, 0, 0) := by decide +kernel
theorem l40_188 : (ax_dt (ax_T 40)).lookup 188 = some (.getfield 12, 3, 3, 0, 0) := by decide +kernel
theorem l40_191 : (ax_dt (ax_T 40)).lookup 191 = some (.getfield 93, 3, 7, 2, 0) := by decide +kernel
theorem l40_194 : (ax_dt (ax_T 40)).lookup 194 = some (.iload 4, 2, 0, 0, 0) := by decide +kernel
theorem l40_196 : (ax_dt (ax_T 40)).lookup 196 = some (.iaload, 1, 0, 0, 0) := by decide +kernel
theorem l40_197 : (ax_dt (ax_T 40)).lookup 197 = some (.invokevirtual 96, 3, 47, 1, 0) := by decide +kernel
theorem l40_200 : (ax_dt (ax_T 40)).lookup 200 = some (.iload 6, 2, 0, 0, 0) := by decide +kernel
theorem l40_202 : (ax_dt (ax_T 40)).lookup 202 = some (.istore_n 3, 1, 0, 0, 0) := by decide +kernel
theorem l40_203 : (ax_dt (ax_T 40)).lookup 203 = some (.iinc 4 1, 3, 0, 0, 0) := by decide +kernel
theorem l40_206 : (ax_dt (ax_T 40)).lookup 206 = some (.goto (-169), 3, 0, 0, 0) := by decide +kernel
theorem l40_209 : (ax_dt (ax_T 40)).lookup 209 = some (.return_, 1, 0, 0, 0) := by decide +kernel
noncomputable def F_X4_readUnits_186 (v2 : Int) (v4 : Int) (v6 : Int) (μ : bM) : Option ((Int × Int × bM) ⊕ ((Int ⊕ String) × bM)) := bG (0 ≤ v4 ∧ v4 < 6) (bXm (F_X4_resolveReferences (μ ((μ 30 0).toNat + 1) v4.toNat) μ) (fun w1 μ2 => bG (bR (v4 + 1)) (some (.inl (v6, (v4 + 1), μ2)))) (fun e μ => some (.inr (.inr e, μ))))
noncomputable def F_X4_readUnits_138 (v2 : Int) (v3 : Int) (v4 : Int) (v6 : Int) (μ : bM) : Option ((Int × Int × bM) ⊕ ((Int ⊕ String) × bM)) := bG (bR (v3 + 11)) (bMm (F_X1_over 0 (v3 + 11) v6 μ) (fun w2 μ3 => bXm (F_X4_readEntries v3 μ3) (fun w5 μ6 => if v6 ≤ (μ6 46 0) then F_X4_readUnits_186 v2 v4 v6 μ6 else bXm (F_X1_refuse 5 (μ6 46 0) μ6) (fun w9 μ10 => F_X4_readUnits_186 v2 v4 v6 μ10) (fun e μ => some (.inr (.inr e, μ)))) (fun e μ => some (.inr (.inr e, μ)))))
noncomputable def F_X4_readUnits_77 (v2 : Int) (v3 : Int) (v4 : Int) (μ : bM) : Option ((Int × Int × bM) ⊕ ((Int ⊕ String) × bM)) := bXm (F_X4_readHeader v3 μ) (fun w1 μ2 => if w1 = (μ2 30 3) then F_X4_readUnits_138 v2 v3 v4 (μ2 46 1) μ2 else (F_X6_used 9 μ2).bind fun w5 => bMm (F_X1_over 1 w1 w5 μ2) (fun w6 μ7 => bXm (F_X7_readFrom μ7) (fun w9 μ10 => F_X4_readUnits_138 v2 v3 v4 (μ2 46 1) (bset μ10 30 3 w1)) (fun e μ => some (.inr (.inr e, μ))))) (fun e μ => some (.inr (.inr e, μ)))
noncomputable def F_X4_readUnits_37 (v2 : Int) (v3 : Int) (v4 : Int) (μ : bM) : Option ((Int × Int × bM) ⊕ ((Int ⊕ String) × bM)) := if 6 < v4 then some (.inr (.inl 0, μ)) else if v2 ≤ v3 then some (.inr (.inl 0, μ)) else bMm (F_X1_over 0 v3 v2 μ) (fun w3 μ4 => if ¬ v4 = 6 then F_X4_readUnits_77 v2 v3 v4 μ4 else bXm (F_X1_refuse 8 v3 μ4) (fun w7 μ8 => F_X4_readUnits_77 v2 v3 v4 μ8) (fun e μ => some (.inr (.inr e, μ))))
noncomputable def F_X4_readUnits (μ : bM) : Option ((Int ⊕ String) × bM) := bMm (F_X1_forgetFault μ) (fun w1 μ2 => bMm (F_X8_forget (μ2 30 0).toNat μ2) (fun w4 μ5 => (F_X6_used 7 (bset (bset μ5 30 3 (-1)) 30 4 0)).bind fun w9 => bLoop (fun z => F_X4_readUnits_37 w9 z.1 z.2.1 z.2.2) (0, 0, (bset (bset μ5 30 3 (-1)) 30 4 0))))
theorem p_X4_readUnits_186 {L : Nat} {xs : Nat → Int32} {d : Nat} {μ : bM} {v2 : Int} {κ : ((Int × Int × bM) ⊕ ((Int ⊕ String) × bM)) → Option bX} (hr : ∀ r : (Int ⊕ String) × bM, κ (.inr r) = (bXc) r) (H37 : ∀ (v3 : Int) (v4 : Int) (μ : bM), bR v3 → bR v4 → bD L xs (d + 6) 40 37 [(0, .ref 30), (1, .ref 6), (2, bI v2), (3, bI v3), (4, bI v4)] [] μ (κ (.inl (v3, v4, μ))))  (h2 : bR v2) {v4 : Int} (h4 : bR v4) {v6 : Int} (h6 : bR v6) : bD L xs (d + 6) 40 186 [(0, .ref 30), (1, .ref 6), (2, bI v2), (4, bI v4), (6, bI v6)] [] μ ((F_X4_readUnits_186 v2 v4 v6 μ).bind κ) := by
  unfold F_X4_readUnits_186
  refine bD.ok fun hk => ?_
  refine b_s (pc' := 187) (lv1 := [(0, .ref 30), (1, .ref 6), (2, bI v2), (4, bI v4), (6, bI v6)]) (st' := [.ref 30]) l40_186 (fun _ => rfl) ?_
  refine b_s (pc' := 188) (lv1 := [(0, .ref 30), (1, .ref 6), (2, bI v2), (4, bI v4), (6, bI v6)]) (st' := [.ref 30, .ref 30]) l40_187 (fun _ => rfl) ?_
  refine b_gr l40_188 (by rfl) (by decide) (by decide) rfl (b_pc (pc' := 191) rfl ?_)
  refine b_gp (q' := ((μ 30 0).toNat + 1)) (j := 1) l40_191 (bO_ft hk (ci := 3) (by rfl) rfl) (by decide) (by decide) rfl hk rfl rfl (b_pc (pc' := 194) rfl ?_)
  refine b_s (pc' := 196) (lv1 := [(0, .ref 30), (1, .ref 6), (2, bI v2), (4, bI v4), (6, bI v6)]) (st' := [bI v4, .ref ((μ 30 0).toNat + 1), .ref 30]) l40_194 (fun _ => rfl) ?_
  refine b_g fun g5 => ?_
  refine b_ial l40_196 (bTree_r (bO_ft hk (ci := 3) (by rfl) rfl)) g5 (b_pc (pc' := 197) rfl ?_)
  refine b_cXv l40_197 rfl (b_rc (ci := 3) (by rfl) (by decide) (by decide +kernel)) (Nat.le_of_ble_eq_true rfl) (Nat.le_of_ble_eq_true rfl) rfl (r_X4_resolveReferences (μ ((μ 30 0).toNat + 1) v4.toNat) (bO_i hk (bTree_r (bO_ft hk (ci := 3) (by rfl) rfl)))) ⟨fun _ z => (by cases z), (by decide +kernel)⟩ rfl (fun _ _ => hr _) fun w1 μ2 hw1 => bD.ok fun hk3 => b_pc (pc' := 200) rfl ?_
  refine b_s (pc' := 202) (lv1 := [(0, .ref 30), (1, .ref 6), (2, bI v2), (4, bI v4), (6, bI v6)]) (st' := [bI v6]) l40_200 (fun _ => rfl) ?_
  refine b_w (pc' := 203) (lv1 := ax_st1 [(0, .ref 30), (1, .ref 6), (2, bI v2), (4, bI v4), (6, bI v6)] 3 (bI v6)) (lv' := [(0, .ref 30), (1, .ref 6), (2, bI v2), (3, bI v6), (4, bI v4)]) (st' := []) l40_202 (fun _ => rfl) (bSb rfl (bSb rfl (bSb rfl (bSb rfl (bSb rfl bSn))))) ?_
  refine b_inc (lv' := [(0, .ref 30), (1, .ref 6), (2, bI v2), (3, bI v6), (4, bI (v4 + 1))]) l40_203 rfl (by decide +kernel) (bSb rfl (bSb rfl (bSb rfl (bSb rfl (bSb rfl bSn))))) fun g4 => (b_pc (pc' := 206) rfl ?_)
  refine b_s (pc' := 37) (lv1 := [(0, .ref 30), (1, .ref 6), (2, bI v2), (3, bI v6), (4, bI (v4 + 1))]) (st' := []) l40_206 (fun _ => rfl) ?_
  refine bD.wk (lv' := [(0, .ref 30), (1, .ref 6), (2, bI v2), (3, bI v6), (4, bI (v4 + 1))]) (bSb rfl (bSb rfl (bSb rfl (bSb rfl (bSb rfl bSn))))) ?_
  exact H37 v6 (v4 + 1) μ2 h6 g4
theorem p_X4_readUnits_138 {L : Nat} {xs : Nat → Int32} {d : Nat} {μ : bM} {v2 : Int} {κ : ((Int × Int × bM) ⊕ ((Int ⊕ String) × bM)) → Option bX} (hr : ∀ r : (Int ⊕ String) × bM, κ (.inr r) = (bXc) r) (H37 : ∀ (v3 : Int) (v4 : Int) (μ : bM), bR v3 → bR v4 → bD L xs (d + 6) 40 37 [(0, .ref 30), (1, .ref 6), (2, bI v2), (3, bI v3), (4, bI v4)] [] μ (κ (.inl (v3, v4, μ))))  (h2 : bR v2) {v3 : Int} (h3 : bR v3) {v4 : Int} (h4 : bR v4) {v6 : Int} (h6 : bR v6) : bD L xs (d + 6) 40 138 [(0, .ref 30), (1, .ref 6), (2, bI v2), (3, bI v3), (4, bI v4), (6, bI v6)] [] μ ((F_X4_readUnits_138 v2 v3 v4 v6 μ).bind κ) := by
  unfold F_X4_readUnits_138
  refine bD.ok fun hk => ?_
  refine b_s (pc' := 139) (lv1 := [(0, .ref 30), (1, .ref 6), (2, bI v2), (3, bI v3), (4, bI v4), (6, bI v6)]) (st' := [.ref 30]) l40_138 (fun _ => rfl) ?_
  refine b_gp (q' := 46) (j := 16) l40_139 (by rfl) (by decide) (by decide) rfl hk rfl rfl (b_pc (pc' := 142) rfl ?_)
  refine b_s (pc' := 143) (lv1 := [(0, .ref 30), (1, .ref 6), (2, bI v2), (3, bI v3), (4, bI v4), (6, bI v6)]) (st' := [.ref 6, .ref 46]) l40_142 (fun _ => rfl) ?_
  refine b_s (pc' := 144) (lv1 := [(0, .ref 30), (1, .ref 6), (2, bI v2), (3, bI v3), (4, bI v4), (6, bI v6)]) (st' := [bI 0, .ref 6, .ref 46]) l40_143 (fun _ => rfl) ?_
  refine b_s (pc' := 145) (lv1 := [(0, .ref 30), (1, .ref 6), (2, bI v2), (3, bI v3), (4, bI v4), (6, bI v6)]) (st' := [bI v3, bI 0, .ref 6, .ref 46]) l40_144 (fun _ => rfl) ?_
  refine b_bipush l40_145 (by decide) (b_pc (pc' := 147) rfl ?_)
  refine b_iadd l40_147 fun g1 => (b_pc (pc' := 148) rfl ?_)
  refine b_s (pc' := 150) (lv1 := [(0, .ref 30), (1, .ref 6), (2, bI v2), (3, bI v3), (4, bI v4), (6, bI v6)]) (st' := [bI v6, bI (v3 + 11), bI 0, .ref 6, .ref 46]) l40_148 (fun _ => rfl) ?_
  refine b_cMv l40_150 rfl (b_rc (ci := 1) (by rfl) (by decide) (by decide +kernel)) (Nat.le_of_ble_eq_true rfl) (Nat.le_of_ble_eq_true rfl) rfl (r_X1_over 0 (by decide) (v3 + 11) g1 v6 h6) fun w2 μ3 hw2 => bD.ok fun hk4 => b_pc (pc' := 153) rfl ?_
  refine b_s (pc' := 154) (lv1 := [(0, .ref 30), (1, .ref 6), (2, bI v2), (3, bI v3), (4, bI v4), (6, bI v6)]) (st' := [.ref 30]) l40_153 (fun _ => rfl) ?_
  refine b_s (pc' := 155) (lv1 := [(0, .ref 30), (1, .ref 6), (2, bI v2), (3, bI v3), (4, bI v4), (6, bI v6)]) (st' := [.ref 6, .ref 30]) l40_154 (fun _ => rfl) ?_
  refine b_s (pc' := 156) (lv1 := [(0, .ref 30), (1, .ref 6), (2, bI v2), (3, bI v3), (4, bI v4), (6, bI v6)]) (st' := [bI v3, .ref 6, .ref 30]) l40_155 (fun _ => rfl) ?_
  refine b_cXv l40_156 rfl (b_rc (ci := 3) (by rfl) (by decide) (by decide +kernel)) (Nat.le_of_ble_eq_true rfl) (Nat.le_of_ble_eq_true rfl) rfl (r_X4_readEntries v3 h3) ⟨fun _ z => (by cases z), (by decide +kernel)⟩ rfl (fun _ _ => hr _) fun w5 μ6 hw5 => bD.ok fun hk7 => b_pc (pc' := 159) rfl ?_
  refine b_s (pc' := 160) (lv1 := [(0, .ref 30), (1, .ref 6), (2, bI v2), (3, bI v3), (4, bI v4), (6, bI v6)]) (st' := [.ref 30]) l40_159 (fun _ => rfl) ?_
  refine b_gp (q' := 46) (j := 16) l40_160 (by rfl) (by decide) (by decide) rfl hk7 rfl rfl (b_pc (pc' := 163) rfl ?_)
  refine b_gi l40_163 (by rfl) (by decide) (by decide) rfl (b_pc (pc' := 166) rfl ?_)
  refine b_s (pc' := 168) (lv1 := [(0, .ref 30), (1, .ref 6), (2, bI v2), (3, bI v3), (4, bI v4), (6, bI v6)]) (st' := [bI v6, bI (μ6 46 0)]) l40_166 (fun _ => rfl) ?_
  refine b_ige (pt := 186) l40_168 (bO_f hk7 (ci := 1) (by rfl) rfl) h6 (by decide) rfl (fun c8 => ?_) (fun c8 => b_pc (pc' := 171) rfl ?_)
  · refine bD.wk (lv' := [(0, .ref 30), (1, .ref 6), (2, bI v2), (4, bI v4), (6, bI v6)]) (bSb rfl (bSb rfl (bSb rfl (bSb rfl (bSb rfl bSn))))) ?_
    exact p_X4_readUnits_186 hr H37 h2 h4 h6
  · refine b_s (pc' := 172) (lv1 := [(0, .ref 30), (1, .ref 6), (2, bI v2), (3, bI v3), (4, bI v4), (6, bI v6)]) (st' := [.ref 30]) l40_171 (fun _ => rfl) ?_
    refine b_gp (q' := 46) (j := 16) l40_172 (by rfl) (by decide) (by decide) rfl hk7 rfl rfl (b_pc (pc' := 175) rfl ?_)
    refine b_s (pc' := 176) (lv1 := [(0, .ref 30), (1, .ref 6), (2, bI v2), (3, bI v3), (4, bI v4), (6, bI v6)]) (st' := [bI 5, .ref 46]) l40_175 (fun _ => rfl) ?_
    refine b_s (pc' := 177) (lv1 := [(0, .ref 30), (1, .ref 6), (2, bI v2), (3, bI v3), (4, bI v4), (6, bI v6)]) (st' := [.ref 30, bI 5, .ref 46]) l40_176 (fun _ => rfl) ?_
    refine b_gp (q' := 46) (j := 16) l40_177 (by rfl) (by decide) (by decide) rfl hk7 rfl rfl (b_pc (pc' := 180) rfl ?_)
    refine b_gi l40_180 (by rfl) (by decide) (by decide) rfl (b_pc (pc' := 183) rfl ?_)
    refine b_cXv l40_183 rfl (b_rc (ci := 1) (by rfl) (by decide) (by decide +kernel)) (Nat.le_of_ble_eq_true rfl) (Nat.le_of_ble_eq_true rfl) rfl (r_X1_refuse 5 (by decide) (μ6 46 0) (bO_f hk7 (ci := 1) (by rfl) rfl)) ⟨fun _ z => (by cases z), (by decide +kernel)⟩ rfl (fun _ _ => hr _) fun w9 μ10 hw9 => bD.ok fun hk11 => b_pc (pc' := 186) rfl ?_
    refine bD.wk (lv' := [(0, .ref 30), (1, .ref 6), (2, bI v2), (4, bI v4), (6, bI v6)]) (bSb rfl (bSb rfl (bSb rfl (bSb rfl (bSb rfl bSn))))) ?_
    exact p_X4_readUnits_186 hr H37 h2 h4 h6
theorem p_X4_readUnits_77 {L : Nat} {xs : Nat → Int32} {d : Nat} {μ : bM} {v2 : Int} {κ : ((Int × Int × bM) ⊕ ((Int ⊕ String) × bM)) → Option bX} (hr : ∀ r : (Int ⊕ String) × bM, κ (.inr r) = (bXc) r) (H37 : ∀ (v3 : Int) (v4 : Int) (μ : bM), bR v3 → bR v4 → bD L xs (d + 6) 40 37 [(0, .ref 30), (1, .ref 6), (2, bI v2), (3, bI v3), (4, bI v4)] [] μ (κ (.inl (v3, v4, μ))))  (h2 : bR v2) {v3 : Int} (h3 : bR v3) {v4 : Int} (h4 : bR v4) : bD L xs (d + 6) 40 77 [(0, .ref 30), (1, .ref 6), (2, bI v2), (3, bI v3), (4, bI v4)] [] μ ((F_X4_readUnits_77 v2 v3 v4 μ).bind κ) := by
  unfold F_X4_readUnits_77
  refine bD.ok fun hk => ?_
  refine b_s (pc' := 78) (lv1 := [(0, .ref 30), (1, .ref 6), (2, bI v2), (3, bI v3), (4, bI v4)]) (st' := [.ref 30]) l40_77 (fun _ => rfl) ?_
  refine b_s (pc' := 79) (lv1 := [(0, .ref 30), (1, .ref 6), (2, bI v2), (3, bI v3), (4, bI v4)]) (st' := [.ref 6, .ref 30]) l40_78 (fun _ => rfl) ?_
  refine b_s (pc' := 80) (lv1 := [(0, .ref 30), (1, .ref 6), (2, bI v2), (3, bI v3), (4, bI v4)]) (st' := [bI v3, .ref 6, .ref 30]) l40_79 (fun _ => rfl) ?_
  refine b_cXi l40_80 rfl (b_rc (ci := 3) (by rfl) (by decide) (by decide +kernel)) (Nat.le_of_ble_eq_true rfl) (Nat.le_of_ble_eq_true rfl) rfl (r_X4_readHeader v3 h3) ⟨fun _ z => (by cases z), (by decide +kernel)⟩ rfl (fun _ _ => hr _) fun w1 μ2 hw1 => bD.ok fun hk3 => b_pc (pc' := 83) rfl ?_
  refine b_w (pc' := 85) (lv1 := ax_st1 [(0, .ref 30), (1, .ref 6), (2, bI v2), (3, bI v3), (4, bI v4)] 5 (bI w1)) (lv' := [(0, .ref 30), (1, .ref 6), (2, bI v2), (3, bI v3), (4, bI v4), (5, bI w1)]) (st' := []) l40_83 (fun _ => rfl) (bSb rfl (bSb rfl (bSb rfl (bSb rfl (bSb rfl (bSb rfl bSn)))))) ?_
  refine b_s (pc' := 86) (lv1 := [(0, .ref 30), (1, .ref 6), (2, bI v2), (3, bI v3), (4, bI v4), (5, bI w1)]) (st' := [.ref 30]) l40_85 (fun _ => rfl) ?_
  refine b_gp (q' := 46) (j := 16) l40_86 (by rfl) (by decide) (by decide) rfl hk3 rfl rfl (b_pc (pc' := 89) rfl ?_)
  refine b_gi l40_89 (by rfl) (by decide) (by decide) rfl (b_pc (pc' := 92) rfl ?_)
  refine b_w (pc' := 94) (lv1 := ax_st1 [(0, .ref 30), (1, .ref 6), (2, bI v2), (3, bI v3), (4, bI v4), (5, bI w1)] 6 (bI (μ2 46 1))) (lv' := [(0, .ref 30), (1, .ref 6), (2, bI v2), (3, bI v3), (4, bI v4), (5, bI w1), (6, bI (μ2 46 1))]) (st' := []) l40_92 (fun _ => rfl) (bSb rfl (bSb rfl (bSb rfl (bSb rfl (bSb rfl (bSb rfl (bSb rfl bSn))))))) ?_
  refine b_s (pc' := 96) (lv1 := [(0, .ref 30), (1, .ref 6), (2, bI v2), (3, bI v3), (4, bI v4), (5, bI w1), (6, bI (μ2 46 1))]) (st' := [bI w1]) l40_94 (fun _ => rfl) ?_
  refine b_s (pc' := 97) (lv1 := [(0, .ref 30), (1, .ref 6), (2, bI v2), (3, bI v3), (4, bI v4), (5, bI w1), (6, bI (μ2 46 1))]) (st' := [.ref 30, bI w1]) l40_96 (fun _ => rfl) ?_
  refine b_gi l40_97 (by rfl) (by decide) (by decide) rfl (b_pc (pc' := 100) rfl ?_)
  refine b_ieq (pt := 138) l40_100 hw1 (bO_f hk3 (ci := 3) (by rfl) rfl) (by decide) rfl (fun c4 => ?_) (fun c4 => b_pc (pc' := 103) rfl ?_)
  · refine bD.wk (lv' := [(0, .ref 30), (1, .ref 6), (2, bI v2), (3, bI v3), (4, bI v4), (6, bI (μ2 46 1))]) (bSb rfl (bSb rfl (bSb rfl (bSb rfl (bSb rfl (bSb rfl bSn)))))) ?_
    exact p_X4_readUnits_138 hr H37 h2 h3 h4 (bO_f hk3 (ci := 1) (by rfl) rfl)
  · refine b_s (pc' := 104) (lv1 := [(0, .ref 30), (1, .ref 6), (2, bI v2), (3, bI v3), (4, bI v4), (5, bI w1), (6, bI (μ2 46 1))]) (st' := [.ref 30]) l40_103 (fun _ => rfl) ?_
    refine b_gp (q' := 46) (j := 16) l40_104 (by rfl) (by decide) (by decide) rfl hk3 rfl rfl (b_pc (pc' := 107) rfl ?_)
    refine b_s (pc' := 108) (lv1 := [(0, .ref 30), (1, .ref 6), (2, bI v2), (3, bI v3), (4, bI v4), (5, bI w1), (6, bI (μ2 46 1))]) (st' := [.ref 6, .ref 46]) l40_107 (fun _ => rfl) ?_
    refine b_s (pc' := 109) (lv1 := [(0, .ref 30), (1, .ref 6), (2, bI v2), (3, bI v3), (4, bI v4), (5, bI w1), (6, bI (μ2 46 1))]) (st' := [bI 1, .ref 6, .ref 46]) l40_108 (fun _ => rfl) ?_
    refine b_s (pc' := 111) (lv1 := [(0, .ref 30), (1, .ref 6), (2, bI v2), (3, bI v3), (4, bI v4), (5, bI w1), (6, bI (μ2 46 1))]) (st' := [bI w1, bI 1, .ref 6, .ref 46]) l40_109 (fun _ => rfl) ?_
    refine b_s (pc' := 112) (lv1 := [(0, .ref 30), (1, .ref 6), (2, bI v2), (3, bI v3), (4, bI v4), (5, bI w1), (6, bI (μ2 46 1))]) (st' := [.ref 6, bI w1, bI 1, .ref 6, .ref 46]) l40_111 (fun _ => rfl) ?_
    refine b_gp (q' := 9) (j := 3) l40_112 (by rfl) (by decide) (by decide) rfl hk3 rfl rfl (b_pc (pc' := 115) rfl ?_)
    refine b_cPi l40_115 rfl (b_rc (ci := 5) (by rfl) (by decide) (by decide +kernel)) (Nat.le_of_ble_eq_true rfl) (Nat.le_of_ble_eq_true rfl) rfl (r_X6_used 9 (by rfl)) fun w5 hw5 => b_pc (pc' := 118) rfl ?_
    refine b_cMv l40_118 rfl (b_rc (ci := 1) (by rfl) (by decide) (by decide +kernel)) (Nat.le_of_ble_eq_true rfl) (Nat.le_of_ble_eq_true rfl) rfl (r_X1_over 1 (by decide) w1 hw1 w5 hw5) fun w6 μ7 hw6 => bD.ok fun hk8 => b_pc (pc' := 121) rfl ?_
    refine b_s (pc' := 122) (lv1 := [(0, .ref 30), (1, .ref 6), (2, bI v2), (3, bI v3), (4, bI v4), (5, bI w1), (6, bI (μ2 46 1))]) (st' := [.ref 30]) l40_121 (fun _ => rfl) ?_
    refine b_gp (q' := 49) (j := 19) l40_122 (by rfl) (by decide) (by decide) rfl hk8 rfl rfl (b_pc (pc' := 125) rfl ?_)
    refine b_s (pc' := 126) (lv1 := [(0, .ref 30), (1, .ref 6), (2, bI v2), (3, bI v3), (4, bI v4), (5, bI w1), (6, bI (μ2 46 1))]) (st' := [.ref 30, .ref 49]) l40_125 (fun _ => rfl) ?_
    refine b_gp (q' := 46) (j := 16) l40_126 (by rfl) (by decide) (by decide) rfl hk8 rfl rfl (b_pc (pc' := 129) rfl ?_)
    refine b_cXv l40_129 rfl (b_rc (ci := 6) (by rfl) (by decide) (by decide +kernel)) (Nat.le_of_ble_eq_true rfl) (Nat.le_of_ble_eq_true rfl) rfl (r_X7_readFrom ) ⟨fun _ z => (by cases z), (by decide +kernel)⟩ rfl (fun _ _ => hr _) fun w9 μ10 hw9 => bD.ok fun hk11 => b_pc (pc' := 132) rfl ?_
    refine b_s (pc' := 133) (lv1 := [(0, .ref 30), (1, .ref 6), (2, bI v2), (3, bI v3), (4, bI v4), (5, bI w1), (6, bI (μ2 46 1))]) (st' := [.ref 30]) l40_132 (fun _ => rfl) ?_
    refine b_s (pc' := 135) (lv1 := [(0, .ref 30), (1, .ref 6), (2, bI v2), (3, bI v3), (4, bI v4), (5, bI w1), (6, bI (μ2 46 1))]) (st' := [bI w1, .ref 30]) l40_133 (fun _ => rfl) ?_
    refine b_pi l40_135 (by rfl) (by decide) (by decide) rfl rfl hw1 (bD.ok fun hk12 => b_pc (pc' := 138) rfl ?_)
    refine bD.wk (lv' := [(0, .ref 30), (1, .ref 6), (2, bI v2), (3, bI v3), (4, bI v4), (6, bI (μ2 46 1))]) (bSb rfl (bSb rfl (bSb rfl (bSb rfl (bSb rfl (bSb rfl bSn)))))) ?_
    exact p_X4_readUnits_138 hr H37 h2 h3 h4 (bO_f hk3 (ci := 1) (by rfl) rfl)
theorem q_X4_readUnits_37 {L : Nat} {xs : Nat → Int32} {d : Nat} {μ : bM} {v2 : Int} {κ : ((Int × Int × bM) ⊕ ((Int ⊕ String) × bM)) → Option bX} (hr : ∀ r : (Int ⊕ String) × bM, κ (.inr r) = (bXc) r) (H37 : ∀ (v3 : Int) (v4 : Int) (μ : bM), bR v3 → bR v4 → bD L xs (d + 6) 40 37 [(0, .ref 30), (1, .ref 6), (2, bI v2), (3, bI v3), (4, bI v4)] [] μ (κ (.inl (v3, v4, μ))))  (h2 : bR v2) {v3 : Int} (h3 : bR v3) {v4 : Int} (h4 : bR v4) : bD L xs (d + 6) 40 37 [(0, .ref 30), (1, .ref 6), (2, bI v2), (3, bI v3), (4, bI v4)] [] μ ((F_X4_readUnits_37 v2 v3 v4 μ).bind κ) := by
  unfold F_X4_readUnits_37
  refine bD.ok fun hk => ?_
  refine b_s (pc' := 39) (lv1 := [(0, .ref 30), (1, .ref 6), (2, bI v2), (3, bI v3), (4, bI v4)]) (st' := [bI v4]) l40_37 (fun _ => rfl) ?_
  refine b_bipush l40_39 (by decide) (b_pc (pc' := 41) rfl ?_)
  refine b_igt (pt := 209) l40_41 h4 (by decide) (by decide) rfl (fun c1 => ?_) (fun c1 => b_pc (pc' := 44) rfl ?_)
  · exact b_retv l40_209 rfl (hr _)
  · refine b_s (pc' := 45) (lv1 := [(0, .ref 30), (1, .ref 6), (2, bI v2), (3, bI v3), (4, bI v4)]) (st' := [bI v3]) l40_44 (fun _ => rfl) ?_
    refine b_s (pc' := 46) (lv1 := [(0, .ref 30), (1, .ref 6), (2, bI v2), (3, bI v3), (4, bI v4)]) (st' := [bI v2, bI v3]) l40_45 (fun _ => rfl) ?_
    refine b_ige (pt := 209) l40_46 h3 h2 (by decide) rfl (fun c2 => ?_) (fun c2 => b_pc (pc' := 49) rfl ?_)
    · exact b_retv l40_209 rfl (hr _)
    · refine b_s (pc' := 50) (lv1 := [(0, .ref 30), (1, .ref 6), (2, bI v2), (3, bI v3), (4, bI v4)]) (st' := [.ref 30]) l40_49 (fun _ => rfl) ?_
      refine b_gp (q' := 46) (j := 16) l40_50 (by rfl) (by decide) (by decide) rfl hk rfl rfl (b_pc (pc' := 53) rfl ?_)
      refine b_s (pc' := 54) (lv1 := [(0, .ref 30), (1, .ref 6), (2, bI v2), (3, bI v3), (4, bI v4)]) (st' := [.ref 6, .ref 46]) l40_53 (fun _ => rfl) ?_
      refine b_s (pc' := 55) (lv1 := [(0, .ref 30), (1, .ref 6), (2, bI v2), (3, bI v3), (4, bI v4)]) (st' := [bI 0, .ref 6, .ref 46]) l40_54 (fun _ => rfl) ?_
      refine b_s (pc' := 56) (lv1 := [(0, .ref 30), (1, .ref 6), (2, bI v2), (3, bI v3), (4, bI v4)]) (st' := [bI v3, bI 0, .ref 6, .ref 46]) l40_55 (fun _ => rfl) ?_
      refine b_s (pc' := 57) (lv1 := [(0, .ref 30), (1, .ref 6), (2, bI v2), (3, bI v3), (4, bI v4)]) (st' := [bI v2, bI v3, bI 0, .ref 6, .ref 46]) l40_56 (fun _ => rfl) ?_
      refine b_cMv l40_57 rfl (b_rc (ci := 1) (by rfl) (by decide) (by decide +kernel)) (Nat.le_of_ble_eq_true rfl) (Nat.le_of_ble_eq_true rfl) rfl (r_X1_over 0 (by decide) v3 h3 v2 h2) fun w3 μ4 hw3 => bD.ok fun hk5 => b_pc (pc' := 60) rfl ?_
      refine b_s (pc' := 62) (lv1 := [(0, .ref 30), (1, .ref 6), (2, bI v2), (3, bI v3), (4, bI v4)]) (st' := [bI v4]) l40_60 (fun _ => rfl) ?_
      refine b_bipush l40_62 (by decide) (b_pc (pc' := 64) rfl ?_)
      refine b_ine (pt := 77) l40_64 h4 (by decide) (by decide) rfl (fun c6 => ?_) (fun c6 => b_pc (pc' := 67) rfl ?_)
      · refine bD.wk (lv' := [(0, .ref 30), (1, .ref 6), (2, bI v2), (3, bI v3), (4, bI v4)]) (bSb rfl (bSb rfl (bSb rfl (bSb rfl (bSb rfl bSn))))) ?_
        exact p_X4_readUnits_77 hr H37 h2 h3 h4
      · refine b_s (pc' := 68) (lv1 := [(0, .ref 30), (1, .ref 6), (2, bI v2), (3, bI v3), (4, bI v4)]) (st' := [.ref 30]) l40_67 (fun _ => rfl) ?_
        refine b_gp (q' := 46) (j := 16) l40_68 (by rfl) (by decide) (by decide) rfl hk5 rfl rfl (b_pc (pc' := 71) rfl ?_)
        refine b_bipush l40_71 (by decide) (b_pc (pc' := 73) rfl ?_)
        refine b_s (pc' := 74) (lv1 := [(0, .ref 30), (1, .ref 6), (2, bI v2), (3, bI v3), (4, bI v4)]) (st' := [bI v3, bI 8, .ref 46]) l40_73 (fun _ => rfl) ?_
        refine b_cXv l40_74 rfl (b_rc (ci := 1) (by rfl) (by decide) (by decide +kernel)) (Nat.le_of_ble_eq_true rfl) (Nat.le_of_ble_eq_true rfl) rfl (r_X1_refuse 8 (by decide) v3 h3) ⟨fun _ z => (by cases z), (by decide +kernel)⟩ rfl (fun _ _ => hr _) fun w7 μ8 hw7 => bD.ok fun hk9 => b_pc (pc' := 77) rfl ?_
        refine bD.wk (lv' := [(0, .ref 30), (1, .ref 6), (2, bI v2), (3, bI v3), (4, bI v4)]) (bSb rfl (bSb rfl (bSb rfl (bSb rfl (bSb rfl bSn))))) ?_
        exact p_X4_readUnits_77 hr H37 h2 h3 h4
theorem p_X4_readUnits_37 {L : Nat} {xs : Nat → Int32} {d : Nat} {μ : bM}  {κ : ((Int ⊕ String) × bM) → Option bX} (hr : ∀ r : (Int ⊕ String) × bM, κ r = (bXc) r)  {v2 : Int} (h2 : bR v2) {v3 : Int} (h3 : bR v3) {v4 : Int} (h4 : bR v4) : bD L xs (d + 6) 40 37 [(0, .ref 30), (1, .ref 6), (2, bI v2), (3, bI v3), (4, bI v4)] [] μ ((bLoop (fun z => F_X4_readUnits_37 v2 z.1 z.2.1 z.2.2) (v3, v4, μ)).bind κ) :=
  b_loop (fun z => [(0, .ref 30), (1, .ref 6), (2, bI v2), (3, bI z.1), (4, bI z.2.1)]) (fun z => z.2.2) (fun z => bR z.1 ∧ bR z.2.1) (fun κ' hκ HH z hz => q_X4_readUnits_37 (κ := κ') (fun r => (hκ _).trans (hr r)) (fun a3 a4 am b3 b4 => HH (a3, a4, am) ⟨b3, b4⟩)  h2 hz.1 hz.2) (v3, v4, μ) ⟨h3, h4⟩
theorem r_X4_readUnits {L : Nat} {xs : Nat → Int32} {d : Nat} {μ : bM}   : bD L xs (d + 6) 40 0 [(0, .ref 30), (1, .ref 6)] [] μ ((F_X4_readUnits μ).bind (bXc)) := by
  have hr : ∀ r, (bXc) r = (bXc) r := fun _ => rfl
  unfold F_X4_readUnits
  refine bD.ok fun hk => ?_
  refine b_s (pc' := 1) (lv1 := [(0, .ref 30), (1, .ref 6)]) (st' := [.ref 30]) l40_0 (fun _ => rfl) ?_
  refine b_gp (q' := 46) (j := 16) l40_1 (by rfl) (by decide) (by decide) rfl hk rfl rfl (b_pc (pc' := 4) rfl ?_)
  refine b_cMv l40_4 rfl (b_rc (ci := 1) (by rfl) (by decide) (by decide +kernel)) (Nat.le_of_ble_eq_true rfl) (Nat.le_of_ble_eq_true rfl) rfl (r_X1_forgetFault ) fun w1 μ2 hw1 => bD.ok fun hk3 => b_pc (pc' := 7) rfl ?_
  refine b_s (pc' := 8) (lv1 := [(0, .ref 30), (1, .ref 6)]) (st' := [.ref 30]) l40_7 (fun _ => rfl) ?_
  refine b_gr l40_8 (by rfl) (by decide) (by decide) rfl (b_pc (pc' := 11) rfl ?_)
  refine b_cMv l40_11 rfl (b_rc (ci := 7) (bO_ft hk3 (ci := 3) (by rfl) rfl) (by decide) (by decide +kernel)) (Nat.le_of_ble_eq_true rfl) (Nat.le_of_ble_eq_true rfl) rfl (r_X8_forget (μ2 30 0).toNat (bO_ft hk3 (ci := 3) (by rfl) rfl)) fun w4 μ5 hw4 => bD.ok fun hk6 => b_pc (pc' := 14) rfl ?_
  refine b_s (pc' := 15) (lv1 := [(0, .ref 30), (1, .ref 6)]) (st' := [.ref 30]) l40_14 (fun _ => rfl) ?_
  refine b_s (pc' := 16) (lv1 := [(0, .ref 30), (1, .ref 6)]) (st' := [bI (-1), .ref 30]) l40_15 (fun _ => rfl) ?_
  refine b_pi l40_16 (by rfl) (by decide) (by decide) rfl rfl (by decide) (bD.ok fun hk7 => b_pc (pc' := 19) rfl ?_)
  refine b_s (pc' := 20) (lv1 := [(0, .ref 30), (1, .ref 6)]) (st' := [.ref 30]) l40_19 (fun _ => rfl) ?_
  refine b_s (pc' := 21) (lv1 := [(0, .ref 30), (1, .ref 6)]) (st' := [bI 0, .ref 30]) l40_20 (fun _ => rfl) ?_
  refine b_pi l40_21 (by rfl) (by decide) (by decide) rfl rfl (by decide) (bD.ok fun hk8 => b_pc (pc' := 24) rfl ?_)
  refine b_s (pc' := 25) (lv1 := [(0, .ref 30), (1, .ref 6)]) (st' := [.ref 6]) l40_24 (fun _ => rfl) ?_
  refine b_gp (q' := 7) (j := 1) l40_25 (by rfl) (by decide) (by decide) rfl hk8 rfl rfl (b_pc (pc' := 28) rfl ?_)
  refine b_cPi l40_28 rfl (b_rc (ci := 5) (by rfl) (by decide) (by decide +kernel)) (Nat.le_of_ble_eq_true rfl) (Nat.le_of_ble_eq_true rfl) rfl (r_X6_used 7 (by rfl)) fun w9 hw9 => b_pc (pc' := 31) rfl ?_
  refine b_w (pc' := 32) (lv1 := ax_st1 [(0, .ref 30), (1, .ref 6)] 2 (bI w9)) (lv' := [(0, .ref 30), (1, .ref 6), (2, bI w9)]) (st' := []) l40_31 (fun _ => rfl) (bSb rfl (bSb rfl (bSb rfl bSn))) ?_
  refine b_s (pc' := 33) (lv1 := [(0, .ref 30), (1, .ref 6), (2, bI w9)]) (st' := [bI 0]) l40_32 (fun _ => rfl) ?_
  refine b_w (pc' := 34) (lv1 := ax_st1 [(0, .ref 30), (1, .ref 6), (2, bI w9)] 3 (bI 0)) (lv' := [(0, .ref 30), (1, .ref 6), (2, bI w9), (3, bI 0)]) (st' := []) l40_33 (fun _ => rfl) (bSb rfl (bSb rfl (bSb rfl (bSb rfl bSn)))) ?_
  refine b_s (pc' := 35) (lv1 := [(0, .ref 30), (1, .ref 6), (2, bI w9), (3, bI 0)]) (st' := [bI 0]) l40_34 (fun _ => rfl) ?_
  refine b_w (pc' := 37) (lv1 := ax_st1 [(0, .ref 30), (1, .ref 6), (2, bI w9), (3, bI 0)] 4 (bI 0)) (lv' := [(0, .ref 30), (1, .ref 6), (2, bI w9), (3, bI 0), (4, bI 0)]) (st' := []) l40_35 (fun _ => rfl) (bSb rfl (bSb rfl (bSb rfl (bSb rfl (bSb rfl bSn))))) ?_
  refine bD.wk (lv' := [(0, .ref 30), (1, .ref 6), (2, bI w9), (3, bI 0), (4, bI 0)]) (bSb rfl (bSb rfl (bSb rfl (bSb rfl (bSb rfl bSn))))) ?_
  exact p_X4_readUnits_37 hr hw9 (by decide) (by decide)
end
