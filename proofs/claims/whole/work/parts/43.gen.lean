section
/-! ET$Writer.writeValue -/
theorem l88_0 : (ax_dt (ax_T 88)).lookup 0 = some (.aload_n 0, 1, 0, 0, 0) := by decide +kernel
theorem l88_1 : (ax_dt (ax_T 88)).lookup 1 = some (.getfield 68, 3, 7, 14, 0) := by decide +kernel
theorem l88_4 : (ax_dt (ax_T 88)).lookup 4 = some (.iload 4, 2, 0, 0, 0) := by decide +kernel
theorem l88_6 : (ax_dt (ax_T 88)).lookup 6 = some (.laload, 1, 0, 0, 0) := by decide +kernel
theorem l88_7 : (ax_dt (ax_T 88)).lookup 7 = some (.lstore 5, 2, 0, 0, 0) := by decide +kernel
theorem l88_9 : (ax_dt (ax_T 88)).lookup 9 = some (.aload_n 0, 1, 0, 0, 0) := by decide +kernel
theorem l88_10 : (ax_dt (ax_T 88)).lookup 10 = some (.getfield 72, 3, 7, 13, 0) := by decide +kernel
theorem l88_13 : (ax_dt (ax_T 88)).lookup 13 = some (.iload 4, 2, 0, 0, 0) := by decide +kernel
theorem l88_15 : (ax_dt (ax_T 88)).lookup 15 = some (.iaload, 1, 0, 0, 0) := by decide +kernel
theorem l88_16 : (ax_dt (ax_T 88)).lookup 16 = some (.istore 7, 2, 0, 0, 0) := by decide +kernel
theorem l88_18 : (ax_dt (ax_T 88)).lookup 18 = some (.iload 7, 2, 0, 0, 0) := by decide +kernel
theorem l88_20 : (ax_dt (ax_T 88)).lookup 20 = some (.tableswitch 197 8 21 #[90, 197, 116, 197, 197, 72, 148, 81, 197, 197, 197, 164, 197, 181], 72, 0, 0, 0) := by decide +kernel
theorem l88_92 : (ax_dt (ax_T 88)).lookup 92 = some (.aload_n 3, 1, 0, 0, 0) := by decide +kernel
theorem l88_93 : (ax_dt (ax_T 88)).lookup 93 = some (.lload 5, 2, 0, 0, 0) := by decide +kernel
theorem l88_95 : (ax_dt (ax_T 88)).lookup 95 = some (.invokevirtual 75, 3, 62, 1, 0) := by decide +kernel
theorem l88_98 : (ax_dt (ax_T 88)).lookup 98 = some (.goto 130, 3, 0, 0, 0) := by decide +kernel
theorem l88_101 : (ax_dt (ax_T 88)).lookup 101 = some (.aload_n 3, 1, 0, 0, 0) := by decide +kernel
theorem l88_102 : (ax_dt (ax_T 88)).lookup 102 = some (.lload 5, 2, 0, 0, 0) := by decide +kernel
theorem l88_104 : (ax_dt (ax_T 88)).lookup 104 = some (.invokevirtual 51, 3, 61, 1, 0) := by decide +kernel
theorem l88_107 : (ax_dt (ax_T 88)).lookup 107 = some (.goto 121, 3, 0, 0, 0) := by decide +kernel
theorem l88_110 : (ax_dt (ax_T 88)).lookup 110 = some (.aload_n 3, 1, 0, 0, 0) := by decide +kernel
theorem l88_111 : (ax_dt (ax_T 88)).lookup 111 = some (.aload_n 1, 1, 0, 0, 0) := by decide +kernel
theorem l88_112 : (ax_dt (ax_T 88)).lookup 112 = some (.aload_n 0, 1, 0, 0, 0) := by decide +kernel
theorem l88_113 : (ax_dt (ax_T 88)).lookup 113 = some (.iload 4, 2, 0, 0, 0) := by decide +kernel
theorem l88_115 : (ax_dt (ax_T 88)).lookup 115 = some (.invokevirtual 78, 3, 84, 1, 0) := by decide +kernel
theorem l88_118 : (ax_dt (ax_T 88)).lookup 118 = some (.aload_n 0, 1, 0, 0, 0) := by decide +kernel
theorem l88_119 : (ax_dt (ax_T 88)).lookup 119 = some (.getfield 82, 3, 7, 15, 0) := by decide +kernel
theorem l88_122 : (ax_dt (ax_T 88)).lookup 122 = some (.iload 4, 2, 0, 0, 0) := by decide +kernel
theorem l88_124 : (ax_dt (ax_T 88)).lookup 124 = some (.iaload, 1, 0, 0, 0) := by decide +kernel
theorem l88_125 : (ax_dt (ax_T 88)).lookup 125 = some (.invokevirtual 85, 3, 64, 3, 0) := by decide +kernel
theorem l88_128 : (ax_dt (ax_T 88)).lookup 128 = some (.aload_n 3, 1, 0, 0, 0) := by decide +kernel
theorem l88_129 : (ax_dt (ax_T 88)).lookup 129 = some (.iconst 0, 1, 0, 0, 0) := by decide +kernel
theorem l88_130 : (ax_dt (ax_T 88)).lookup 130 = some (.invokevirtual 33, 3, 58, 1, 0) := by decide +kernel
theorem l88_133 : (ax_dt (ax_T 88)).lookup 133 = some (.goto 95, 3, 0, 0, 0) := by decide +kernel
theorem l88_136 : (ax_dt (ax_T 88)).lookup 136 = some (.aload_n 3, 1, 0, 0, 0) := by decide +kernel
theorem l88_137 : (ax_dt (ax_T 88)).lookup 137 = some (.aload_n 0, 1, 0, 0, 0) := by decide +kernel
theorem l88_138 : (ax_dt (ax_T 88)).lookup 138 = some (.getfield 82, 3, 7, 15, 0) := by decide +kernel
theorem l88_141 : (ax_dt (ax_T 88)).lookup 141 = some (.iload 4, 2, 0, 0, 0) := by decide +kernel
theorem l88_143 : (ax_dt (ax_T 88)).lookup 143 = some (.iaload, 1, 0, 0, 0) := by decide +kernel
theorem l88_144 : (ax_dt (ax_T 88)).lookup 144 = some (.invokevirtual 33, 3, 58, 1, 0) := by decide +kernel
theorem l88_147 : (ax_dt (ax_T 88)).lookup 147 = some (.aload_n 3, 1, 0, 0, 0) := by decide +kernel
theorem l88_148 : (ax_dt (ax_T 88)).lookup 148 = some (.aload_n 1, 1, 0, 0, 0) := by decide +kernel
theorem l88_149 : (ax_dt (ax_T 88)).lookup 149 = some (.aload_n 0, 1, 0, 0, 0) := by decide +kernel
theorem l88_150 : (ax_dt (ax_T 88)).lookup 150 = some (.iload 4, 2, 0, 0, 0) := by decide +kernel
theorem l88_152 : (ax_dt (ax_T 88)).lookup 152 = some (.invokevirtual 78, 3, 84, 1, 0) := by decide +kernel
theorem l88_155 : (ax_dt (ax_T 88)).lookup 155 = some (.aload_n 0, 1, 0, 0, 0) := by decide +kernel
theorem l88_156 : (ax_dt (ax_T 88)).lookup 156 = some (.getfield 82, 3, 7, 15, 0) := by decide +kernel
theorem l88_159 : (ax_dt (ax_T 88)).lookup 159 = some (.iload 4, 2, 0, 0, 0) := by decide +kernel
theorem l88_161 : (ax_dt (ax_T 88)).lookup 161 = some (.iaload, 1, 0, 0, 0) := by decide +kernel
theorem l88_162 : (ax_dt (ax_T 88)).lookup 162 = some (.invokevirtual 85, 3, 64, 3, 0) := by decide +kernel
theorem l88_165 : (ax_dt (ax_T 88)).lookup 165 = some (.goto 63, 3, 0, 0, 0) := by decide +kernel
theorem l88_168 : (ax_dt (ax_T 88)).lookup 168 = some (.aload_n 3, 1, 0, 0, 0) := by decide +kernel
theorem l88_169 : (ax_dt (ax_T 88)).lookup 169 = some (.aload_n 2, 1, 0, 0, 0) := by decide +kernel
theorem l88_170 : (ax_dt (ax_T 88)).lookup 170 = some (.getfield 89, 3, 2, 15, 0) := by decide +kernel
theorem l88_173 : (ax_dt (ax_T 88)).lookup 173 = some (.iload 4, 2, 0, 0, 0) := by decide +kernel
theorem l88_175 : (ax_dt (ax_T 88)).lookup 175 = some (.iaload, 1, 0, 0, 0) := by decide +kernel
theorem l88_176 : (ax_dt (ax_T 88)).lookup 176 = some (.i2l, 1, 0, 0, 0) := by decide +kernel
theorem l88_177 : (ax_dt (ax_T 88)).lookup 177 = some (.iconst 4, 1, 0, 0, 0) := by decide +kernel
theorem l88_178 : (ax_dt (ax_T 88)).lookup 178 = some (.invokevirtual 27, 3, 60, 2, 0) := by decide +kernel
theorem l88_181 : (ax_dt (ax_T 88)).lookup 181 = some (.goto 47, 3, 0, 0, 0) := by decide +kernel
theorem l88_184 : (ax_dt (ax_T 88)).lookup 184 = some (.aload_n 3, 1, 0, 0, 0) := by decide +kernel
theorem l88_185 : (ax_dt (ax_T 88)).lookup 185 = some (.aload_n 2, 1, 0, 0, 0) := by decide +kernel
theorem l88_186 : (ax_dt (ax_T 88)).lookup 186 = some (.getfield 92, 3, 2, 12, 0) := by decide +kernel
theorem l88_189 : (ax_dt (ax_T 88)).lookup 189 = some (.lload 5, 2, 0, 0, 0) := by decide +kernel
theorem l88_191 : (ax_dt (ax_T 88)).lookup 191 = some (.l2i, 1, 0, 0, 0) := by decide +kernel
theorem l88_192 : (ax_dt (ax_T 88)).lookup 192 = some (.iaload, 1, 0, 0, 0) := by decide +kernel
theorem l88_193 : (ax_dt (ax_T 88)).lookup 193 = some (.i2l, 1, 0, 0, 0) := by decide +kernel
theorem l88_194 : (ax_dt (ax_T 88)).lookup 194 = some (.iconst 4, 1, 0, 0, 0) := by decide +kernel
theorem l88_195 : (ax_dt (ax_T 88)).lookup 195 = some (.invokevirtual 27, 3, 60, 2, 0) := by decide +kernel
theorem l88_198 : (ax_dt (ax_T 88)).lookup 198 = some (.goto 30, 3, 0, 0, 0) := by decide +kernel
theorem l88_201 : (ax_dt (ax_T 88)).lookup 201 = some (.aload_n 3, 1, 0, 0, 0) := by decide +kernel
theorem l88_202 : (ax_dt (ax_T 88)).lookup 202 = some (.aload_n 2, 1, 0, 0, 0) := by decide +kernel
theorem l88_203 : (ax_dt (ax_T 88)).lookup 203 = some (.getfield 92, 3, 2, 12, 0) := by decide +kernel
theorem l88_206 : (ax_dt (ax_T 88)).lookup 206 = some (.lload 5, 2, 0, 0, 0) := by decide +kernel
theorem l88_208 : (ax_dt (ax_T 88)).lookup 208 = some (.l2i, 1, 0, 0, 0) := by decide +kernel
theorem l88_209 : (ax_dt (ax_T 88)).lookup 209 = some (.iaload, 1, 0, 0, 0) := by decide +kernel
theorem l88_210 : (ax_dt (ax_T 88)).lookup 210 = some (.i2l, 1, 0, 0, 0) := by decide +kernel
theorem l88_211 : (ax_dt (ax_T 88)).lookup 211 = some (.invokevirtual 51, 3, 61, 1, 0) := by decide +kernel
theorem l88_214 : (ax_dt (ax_T 88)).lookup 214 = some (.goto 14, 3, 0, 0, 0) := by decide +kernel
theorem l88_217 : (ax_dt (ax_T 88)).lookup 217 = some (.aload_n 3, 1, 0, 0, 0) := by decide +kernel
theorem l88_218 : (ax_dt (ax_T 88)).lookup 218 = some (.lload 5, 2, 0, 0, 0) := by decide +kernel
theorem l88_220 : (ax_dt (ax_T 88)).lookup 220 = some (.iload 7, 2, 0, 0, 0) := by decide +kernel
theorem l88_222 : (ax_dt (ax_T 88)).lookup 222 = some (.invokestatic 95, 3, 21, 1, 0) := by decide +kernel
theorem l88_225 : (ax_dt (ax_T 88)).lookup 225 = some (.invokevirtual 27, 3, 60, 2, 0) := by decide +kernel
theorem l88_228 : (ax_dt (ax_T 88)).lookup 228 = some (.return_, 1, 0, 0, 0) := by decide +kernel
noncomputable def F_X9_writeValue (t : Nat) (s : Nat) (s2 : Nat) (v4 : Int) (μ : bM) : Option (Int × bM) := bG (0 ≤ v4 ∧ v4 < 3200) (bG (0 ≤ v4 ∧ v4 < 3200) (if (μ (t + 12) v4.toNat) = 8 then (F_X8_start t v4 μ).bind fun w1 => bG (0 ≤ v4 ∧ v4 < 3200) (bMm (F_X6_addFrom s2 s w1 (μ (t + 14) v4.toNat) μ) (fun w2 μ3 => bMm (F_X6_add s2 0 μ3) (fun w5 μ6 => some (0, μ6)))) else if (μ (t + 12) v4.toNat) = 9 then (F_X2_width (μ (t + 12) v4.toNat) μ).bind fun w9 => bMm (F_X6_addLowFirst s2 (μ (t + 13) v4.toNat) w9 μ) (fun w10 μ11 => some (0, μ11)) else if (μ (t + 12) v4.toNat) = 10 then bG (0 ≤ v4 ∧ v4 < 3200) (bMm (F_X6_add s2 (μ (t + 14) v4.toNat) μ) (fun w13 μ14 => (F_X8_start t v4 μ14).bind fun w16 => bG (0 ≤ v4 ∧ v4 < 3200) (bMm (F_X6_addFrom s2 s w16 (μ14 (t + 14) v4.toNat) μ14) (fun w17 μ18 => some (0, μ18))))) else if (μ (t + 12) v4.toNat) = 11 then (F_X2_width (μ (t + 12) v4.toNat) μ).bind fun w22 => bMm (F_X6_addLowFirst s2 (μ (t + 13) v4.toNat) w22 μ) (fun w23 μ24 => some (0, μ24)) else if (μ (t + 12) v4.toNat) = 12 then (F_X2_width (μ (t + 12) v4.toNat) μ).bind fun w26 => bMm (F_X6_addLowFirst s2 (μ (t + 13) v4.toNat) w26 μ) (fun w27 μ28 => some (0, μ28)) else if (μ (t + 12) v4.toNat) = 13 then bMm (F_X6_addSignedRow s2 (μ (t + 13) v4.toNat) μ) (fun w30 μ31 => some (0, μ31)) else if (μ (t + 12) v4.toNat) = 14 then bG (0 ≤ v4 ∧ v4 < 3200) (bMm (F_X6_addLowFirst s2 (μ 22 v4.toNat) 4 μ) (fun w33 μ34 => some (0, μ34))) else if (μ (t + 12) v4.toNat) = 15 then bMm (F_X6_addRow s2 (μ (t + 13) v4.toNat) μ) (fun w37 μ38 => some (0, μ38)) else if (μ (t + 12) v4.toNat) = 16 then (F_X2_width (μ (t + 12) v4.toNat) μ).bind fun w40 => bMm (F_X6_addLowFirst s2 (μ (t + 13) v4.toNat) w40 μ) (fun w41 μ42 => some (0, μ42)) else if (μ (t + 12) v4.toNat) = 17 then (F_X2_width (μ (t + 12) v4.toNat) μ).bind fun w44 => bMm (F_X6_addLowFirst s2 (μ (t + 13) v4.toNat) w44 μ) (fun w45 μ46 => some (0, μ46)) else if (μ (t + 12) v4.toNat) = 18 then (F_X2_width (μ (t + 12) v4.toNat) μ).bind fun w48 => bMm (F_X6_addLowFirst s2 (μ (t + 13) v4.toNat) w48 μ) (fun w49 μ50 => some (0, μ50)) else if (μ (t + 12) v4.toNat) = 19 then bG (0 ≤ (b32 (μ (t + 13) v4.toNat)) ∧ (b32 (μ (t + 13) v4.toNat)) < 400) (bMm (F_X6_addLowFirst s2 (μ 19 (b32 (μ (t + 13) v4.toNat)).toNat) 4 μ) (fun w52 μ53 => some (0, μ53))) else if (μ (t + 12) v4.toNat) = 20 then (F_X2_width (μ (t + 12) v4.toNat) μ).bind fun w56 => bMm (F_X6_addLowFirst s2 (μ (t + 13) v4.toNat) w56 μ) (fun w57 μ58 => some (0, μ58)) else if (μ (t + 12) v4.toNat) = 21 then bG (0 ≤ (b32 (μ (t + 13) v4.toNat)) ∧ (b32 (μ (t + 13) v4.toNat)) < 400) (bMm (F_X6_addRow s2 (μ 19 (b32 (μ (t + 13) v4.toNat)).toNat) μ) (fun w60 μ61 => some (0, μ61))) else (F_X2_width (μ (t + 12) v4.toNat) μ).bind fun w64 => bMm (F_X6_addLowFirst s2 (μ (t + 13) v4.toNat) w64 μ) (fun w65 μ66 => some (0, μ66))))
theorem r_X9_writeValue {L : Nat} {xs : Nat → Int32} {d : Nat} {μ : bM} (t : Nat) (ht : bTree t) (s : Nat) (hs : bStore s) (s2 : Nat) (hs2 : bStore s2) (v4 : Int) (h4 : bR v4) : bD L xs (d + 3) 88 0 [(0, .ref t), (1, .ref s), (2, .ref 13), (3, .ref s2), (4, bI v4)] [] μ ((F_X9_writeValue t s s2 v4 μ).bind (bMc)) := by
  have hr : ∀ r, (bMc) r = (bMc) r := fun _ => rfl
  unfold F_X9_writeValue
  refine bD.ok fun hk => ?_
  refine b_s (pc' := 1) (lv1 := [(0, .ref t), (1, .ref s), (2, .ref 13), (3, .ref s2), (4, bI v4)]) (st' := [.ref t]) l88_0 (fun _ => rfl) ?_
  refine b_gp (q' := (t + 13)) (j := 13) l88_1 ht (by decide) (by decide) rfl hk rfl rfl (b_pc (pc' := 4) rfl ?_)
  refine b_s (pc' := 6) (lv1 := [(0, .ref t), (1, .ref s), (2, .ref 13), (3, .ref s2), (4, bI v4)]) (st' := [bI v4, .ref (t + 13)]) l88_4 (fun _ => rfl) ?_
  refine b_g fun g83 => ?_
  refine b_lal l88_6 (bTree_v ht) g83 (b_pc (pc' := 7) rfl ?_)
  refine b_w (pc' := 9) (lv1 := ax_st2 [(0, .ref t), (1, .ref s), (2, .ref 13), (3, .ref s2), (4, bI v4)] 5 (bLg (μ (t + 13) v4.toNat))) (lv' := [(0, .ref t), (1, .ref s), (2, .ref 13), (3, .ref s2), (4, bI v4), (5, bLg (μ (t + 13) v4.toNat))]) (st' := []) l88_7 (fun _ => rfl) (bSb rfl (bSb rfl (bSb rfl (bSb rfl (bSb rfl (bSb rfl bSn)))))) ?_
  refine b_s (pc' := 10) (lv1 := [(0, .ref t), (1, .ref s), (2, .ref 13), (3, .ref s2), (4, bI v4), (5, bLg (μ (t + 13) v4.toNat))]) (st' := [.ref t]) l88_9 (fun _ => rfl) ?_
  refine b_gp (q' := (t + 12)) (j := 12) l88_10 ht (by decide) (by decide) rfl hk rfl rfl (b_pc (pc' := 13) rfl ?_)
  refine b_s (pc' := 15) (lv1 := [(0, .ref t), (1, .ref s), (2, .ref 13), (3, .ref s2), (4, bI v4), (5, bLg (μ (t + 13) v4.toNat))]) (st' := [bI v4, .ref (t + 12)]) l88_13 (fun _ => rfl) ?_
  refine b_g fun g82 => ?_
  refine b_ial l88_15 (bTree_f ht) g82 (b_pc (pc' := 16) rfl ?_)
  refine b_w (pc' := 18) (lv1 := ax_st1 [(0, .ref t), (1, .ref s), (2, .ref 13), (3, .ref s2), (4, bI v4), (5, bLg (μ (t + 13) v4.toNat))] 7 (bI (μ (t + 12) v4.toNat))) (lv' := [(0, .ref t), (1, .ref s), (2, .ref 13), (3, .ref s2), (4, bI v4), (5, bLg (μ (t + 13) v4.toNat)), (7, bI (μ (t + 12) v4.toNat))]) (st' := []) l88_16 (fun _ => rfl) (bSb rfl (bSb rfl (bSb rfl (bSb rfl (bSb rfl (bSb rfl (bSb rfl bSn))))))) ?_
  refine b_s (pc' := 20) (lv1 := [(0, .ref t), (1, .ref s), (2, .ref 13), (3, .ref s2), (4, bI v4), (5, bLg (μ (t + 13) v4.toNat)), (7, bI (μ (t + 12) v4.toNat))]) (st' := [bI (μ (t + 12) v4.toNat)]) l88_18 (fun _ => rfl) ?_
  refine b_tsw l88_20 (bO_i hk (bTree_f ht)) (by decide) (by decide) (by decide) ?_
  refine b_pc (pc' := bTg [(8, 110), (9, 217), (10, 136), (11, 217), (12, 217), (13, 92), (14, 168), (15, 101), (16, 217), (17, 217), (18, 217), (19, 184), (20, 217), (21, 201)] 217 (μ (t + 12) v4.toNat)) rfl ?_
  refine b_tg (fun c81 => ?_) (fun c81 => ?_)
  · refine b_s (pc' := 111) (lv1 := [(0, .ref t), (1, .ref s), (2, .ref 13), (3, .ref s2), (4, bI v4), (5, bLg (μ (t + 13) v4.toNat)), (7, bI (μ (t + 12) v4.toNat))]) (st' := [.ref s2]) l88_110 (fun _ => rfl) ?_
    refine b_s (pc' := 112) (lv1 := [(0, .ref t), (1, .ref s), (2, .ref 13), (3, .ref s2), (4, bI v4), (5, bLg (μ (t + 13) v4.toNat)), (7, bI (μ (t + 12) v4.toNat))]) (st' := [.ref s, .ref s2]) l88_111 (fun _ => rfl) ?_
    refine b_s (pc' := 113) (lv1 := [(0, .ref t), (1, .ref s), (2, .ref 13), (3, .ref s2), (4, bI v4), (5, bLg (μ (t + 13) v4.toNat)), (7, bI (μ (t + 12) v4.toNat))]) (st' := [.ref t, .ref s, .ref s2]) l88_112 (fun _ => rfl) ?_
    refine b_s (pc' := 115) (lv1 := [(0, .ref t), (1, .ref s), (2, .ref 13), (3, .ref s2), (4, bI v4), (5, bLg (μ (t + 13) v4.toNat)), (7, bI (μ (t + 12) v4.toNat))]) (st' := [bI v4, .ref t, .ref s, .ref s2]) l88_113 (fun _ => rfl) ?_
    refine b_cPi l88_115 rfl (b_rc (ci := 7) ht (by decide) (by decide +kernel)) (Nat.le_of_ble_eq_true rfl) (Nat.le_of_ble_eq_true rfl) rfl (r_X8_start t ht v4 h4) fun w1 hw1 => b_pc (pc' := 118) rfl ?_
    refine b_s (pc' := 119) (lv1 := [(0, .ref t), (1, .ref s), (2, .ref 13), (3, .ref s2), (4, bI v4), (5, bLg (μ (t + 13) v4.toNat)), (7, bI (μ (t + 12) v4.toNat))]) (st' := [.ref t, bI w1, .ref s, .ref s2]) l88_118 (fun _ => rfl) ?_
    refine b_gp (q' := (t + 14)) (j := 14) l88_119 ht (by decide) (by decide) rfl hk rfl rfl (b_pc (pc' := 122) rfl ?_)
    refine b_s (pc' := 124) (lv1 := [(0, .ref t), (1, .ref s), (2, .ref 13), (3, .ref s2), (4, bI v4), (5, bLg (μ (t + 13) v4.toNat)), (7, bI (μ (t + 12) v4.toNat))]) (st' := [bI v4, .ref (t + 14), bI w1, .ref s, .ref s2]) l88_122 (fun _ => rfl) ?_
    refine b_g fun g8 => ?_
    refine b_ial l88_124 (bTree_l ht) g8 (b_pc (pc' := 125) rfl ?_)
    refine b_cMv l88_125 rfl (b_rc (ci := 5) hs2 (by decide) (by decide +kernel)) (Nat.le_of_ble_eq_true rfl) (Nat.le_of_ble_eq_true rfl) rfl (r_X6_addFrom s2 hs2 s hs w1 hw1 (μ (t + 14) v4.toNat) (bO_i hk (bTree_l ht))) fun w2 μ3 hw2 => bD.ok fun hk4 => b_pc (pc' := 128) rfl ?_
    refine b_s (pc' := 129) (lv1 := [(0, .ref t), (1, .ref s), (2, .ref 13), (3, .ref s2), (4, bI v4), (5, bLg (μ (t + 13) v4.toNat)), (7, bI (μ (t + 12) v4.toNat))]) (st' := [.ref s2]) l88_128 (fun _ => rfl) ?_
    refine b_s (pc' := 130) (lv1 := [(0, .ref t), (1, .ref s), (2, .ref 13), (3, .ref s2), (4, bI v4), (5, bLg (μ (t + 13) v4.toNat)), (7, bI (μ (t + 12) v4.toNat))]) (st' := [bI 0, .ref s2]) l88_129 (fun _ => rfl) ?_
    refine b_cMv l88_130 rfl (b_rc (ci := 5) hs2 (by decide) (by decide +kernel)) (Nat.le_of_ble_eq_true rfl) (Nat.le_of_ble_eq_true rfl) rfl (r_X6_add s2 hs2 0 (by decide)) fun w5 μ6 hw5 => bD.ok fun hk7 => b_pc (pc' := 133) rfl ?_
    refine b_s (pc' := 228) (lv1 := [(0, .ref t), (1, .ref s), (2, .ref 13), (3, .ref s2), (4, bI v4), (5, bLg (μ (t + 13) v4.toNat)), (7, bI (μ (t + 12) v4.toNat))]) (st' := []) l88_133 (fun _ => rfl) ?_
    exact b_retv l88_228 rfl (hr _)
  · refine b_tg (fun c80 => ?_) (fun c80 => ?_)
    · refine b_s (pc' := 218) (lv1 := [(0, .ref t), (1, .ref s), (2, .ref 13), (3, .ref s2), (4, bI v4), (5, bLg (μ (t + 13) v4.toNat)), (7, bI (μ (t + 12) v4.toNat))]) (st' := [.ref s2]) l88_217 (fun _ => rfl) ?_
      refine b_s (pc' := 220) (lv1 := [(0, .ref t), (1, .ref s), (2, .ref 13), (3, .ref s2), (4, bI v4), (5, bLg (μ (t + 13) v4.toNat)), (7, bI (μ (t + 12) v4.toNat))]) (st' := [bLg (μ (t + 13) v4.toNat), .ref s2]) l88_218 (fun _ => rfl) ?_
      refine b_s (pc' := 222) (lv1 := [(0, .ref t), (1, .ref s), (2, .ref 13), (3, .ref s2), (4, bI v4), (5, bLg (μ (t + 13) v4.toNat)), (7, bI (μ (t + 12) v4.toNat))]) (st' := [bI (μ (t + 12) v4.toNat), bLg (μ (t + 13) v4.toNat), .ref s2]) l88_220 (fun _ => rfl) ?_
      refine b_cPi l88_222 rfl (fun _ => trivial) (Nat.le_of_ble_eq_true rfl) (Nat.le_of_ble_eq_true rfl) rfl (r_X2_width (μ (t + 12) v4.toNat) (bO_i hk (bTree_f ht))) fun w9 hw9 => b_pc (pc' := 225) rfl ?_
      refine b_cMv l88_225 rfl (b_rc (ci := 5) hs2 (by decide) (by decide +kernel)) (Nat.le_of_ble_eq_true rfl) (Nat.le_of_ble_eq_true rfl) rfl (r_X6_addLowFirst s2 hs2 (μ (t + 13) v4.toNat) (bO_l hk (bTree_v ht)) w9 hw9) fun w10 μ11 hw10 => bD.ok fun hk12 => b_pc (pc' := 228) rfl ?_
      exact b_retv l88_228 rfl (hr _)
    · refine b_tg (fun c79 => ?_) (fun c79 => ?_)
      · refine b_s (pc' := 137) (lv1 := [(0, .ref t), (1, .ref s), (2, .ref 13), (3, .ref s2), (4, bI v4), (5, bLg (μ (t + 13) v4.toNat)), (7, bI (μ (t + 12) v4.toNat))]) (st' := [.ref s2]) l88_136 (fun _ => rfl) ?_
        refine b_s (pc' := 138) (lv1 := [(0, .ref t), (1, .ref s), (2, .ref 13), (3, .ref s2), (4, bI v4), (5, bLg (μ (t + 13) v4.toNat)), (7, bI (μ (t + 12) v4.toNat))]) (st' := [.ref t, .ref s2]) l88_137 (fun _ => rfl) ?_
        refine b_gp (q' := (t + 14)) (j := 14) l88_138 ht (by decide) (by decide) rfl hk rfl rfl (b_pc (pc' := 141) rfl ?_)
        refine b_s (pc' := 143) (lv1 := [(0, .ref t), (1, .ref s), (2, .ref 13), (3, .ref s2), (4, bI v4), (5, bLg (μ (t + 13) v4.toNat)), (7, bI (μ (t + 12) v4.toNat))]) (st' := [bI v4, .ref (t + 14), .ref s2]) l88_141 (fun _ => rfl) ?_
        refine b_g fun g21 => ?_
        refine b_ial l88_143 (bTree_l ht) g21 (b_pc (pc' := 144) rfl ?_)
        refine b_cMv l88_144 rfl (b_rc (ci := 5) hs2 (by decide) (by decide +kernel)) (Nat.le_of_ble_eq_true rfl) (Nat.le_of_ble_eq_true rfl) rfl (r_X6_add s2 hs2 (μ (t + 14) v4.toNat) (bO_i hk (bTree_l ht))) fun w13 μ14 hw13 => bD.ok fun hk15 => b_pc (pc' := 147) rfl ?_
        refine b_s (pc' := 148) (lv1 := [(0, .ref t), (1, .ref s), (2, .ref 13), (3, .ref s2), (4, bI v4), (5, bLg (μ (t + 13) v4.toNat)), (7, bI (μ (t + 12) v4.toNat))]) (st' := [.ref s2]) l88_147 (fun _ => rfl) ?_
        refine b_s (pc' := 149) (lv1 := [(0, .ref t), (1, .ref s), (2, .ref 13), (3, .ref s2), (4, bI v4), (5, bLg (μ (t + 13) v4.toNat)), (7, bI (μ (t + 12) v4.toNat))]) (st' := [.ref s, .ref s2]) l88_148 (fun _ => rfl) ?_
        refine b_s (pc' := 150) (lv1 := [(0, .ref t), (1, .ref s), (2, .ref 13), (3, .ref s2), (4, bI v4), (5, bLg (μ (t + 13) v4.toNat)), (7, bI (μ (t + 12) v4.toNat))]) (st' := [.ref t, .ref s, .ref s2]) l88_149 (fun _ => rfl) ?_
        refine b_s (pc' := 152) (lv1 := [(0, .ref t), (1, .ref s), (2, .ref 13), (3, .ref s2), (4, bI v4), (5, bLg (μ (t + 13) v4.toNat)), (7, bI (μ (t + 12) v4.toNat))]) (st' := [bI v4, .ref t, .ref s, .ref s2]) l88_150 (fun _ => rfl) ?_
        refine b_cPi l88_152 rfl (b_rc (ci := 7) ht (by decide) (by decide +kernel)) (Nat.le_of_ble_eq_true rfl) (Nat.le_of_ble_eq_true rfl) rfl (r_X8_start t ht v4 h4) fun w16 hw16 => b_pc (pc' := 155) rfl ?_
        refine b_s (pc' := 156) (lv1 := [(0, .ref t), (1, .ref s), (2, .ref 13), (3, .ref s2), (4, bI v4), (5, bLg (μ (t + 13) v4.toNat)), (7, bI (μ (t + 12) v4.toNat))]) (st' := [.ref t, bI w16, .ref s, .ref s2]) l88_155 (fun _ => rfl) ?_
        refine b_gp (q' := (t + 14)) (j := 14) l88_156 ht (by decide) (by decide) rfl hk15 rfl rfl (b_pc (pc' := 159) rfl ?_)
        refine b_s (pc' := 161) (lv1 := [(0, .ref t), (1, .ref s), (2, .ref 13), (3, .ref s2), (4, bI v4), (5, bLg (μ (t + 13) v4.toNat)), (7, bI (μ (t + 12) v4.toNat))]) (st' := [bI v4, .ref (t + 14), bI w16, .ref s, .ref s2]) l88_159 (fun _ => rfl) ?_
        refine b_g fun g20 => ?_
        refine b_ial l88_161 (bTree_l ht) g20 (b_pc (pc' := 162) rfl ?_)
        refine b_cMv l88_162 rfl (b_rc (ci := 5) hs2 (by decide) (by decide +kernel)) (Nat.le_of_ble_eq_true rfl) (Nat.le_of_ble_eq_true rfl) rfl (r_X6_addFrom s2 hs2 s hs w16 hw16 (μ14 (t + 14) v4.toNat) (bO_i hk15 (bTree_l ht))) fun w17 μ18 hw17 => bD.ok fun hk19 => b_pc (pc' := 165) rfl ?_
        refine b_s (pc' := 228) (lv1 := [(0, .ref t), (1, .ref s), (2, .ref 13), (3, .ref s2), (4, bI v4), (5, bLg (μ (t + 13) v4.toNat)), (7, bI (μ (t + 12) v4.toNat))]) (st' := []) l88_165 (fun _ => rfl) ?_
        exact b_retv l88_228 rfl (hr _)
      · refine b_tg (fun c78 => ?_) (fun c78 => ?_)
        · refine b_s (pc' := 218) (lv1 := [(0, .ref t), (1, .ref s), (2, .ref 13), (3, .ref s2), (4, bI v4), (5, bLg (μ (t + 13) v4.toNat)), (7, bI (μ (t + 12) v4.toNat))]) (st' := [.ref s2]) l88_217 (fun _ => rfl) ?_
          refine b_s (pc' := 220) (lv1 := [(0, .ref t), (1, .ref s), (2, .ref 13), (3, .ref s2), (4, bI v4), (5, bLg (μ (t + 13) v4.toNat)), (7, bI (μ (t + 12) v4.toNat))]) (st' := [bLg (μ (t + 13) v4.toNat), .ref s2]) l88_218 (fun _ => rfl) ?_
          refine b_s (pc' := 222) (lv1 := [(0, .ref t), (1, .ref s), (2, .ref 13), (3, .ref s2), (4, bI v4), (5, bLg (μ (t + 13) v4.toNat)), (7, bI (μ (t + 12) v4.toNat))]) (st' := [bI (μ (t + 12) v4.toNat), bLg (μ (t + 13) v4.toNat), .ref s2]) l88_220 (fun _ => rfl) ?_
          refine b_cPi l88_222 rfl (fun _ => trivial) (Nat.le_of_ble_eq_true rfl) (Nat.le_of_ble_eq_true rfl) rfl (r_X2_width (μ (t + 12) v4.toNat) (bO_i hk (bTree_f ht))) fun w22 hw22 => b_pc (pc' := 225) rfl ?_
          refine b_cMv l88_225 rfl (b_rc (ci := 5) hs2 (by decide) (by decide +kernel)) (Nat.le_of_ble_eq_true rfl) (Nat.le_of_ble_eq_true rfl) rfl (r_X6_addLowFirst s2 hs2 (μ (t + 13) v4.toNat) (bO_l hk (bTree_v ht)) w22 hw22) fun w23 μ24 hw23 => bD.ok fun hk25 => b_pc (pc' := 228) rfl ?_
          exact b_retv l88_228 rfl (hr _)
        · refine b_tg (fun c77 => ?_) (fun c77 => ?_)
          · refine b_s (pc' := 218) (lv1 := [(0, .ref t), (1, .ref s), (2, .ref 13), (3, .ref s2), (4, bI v4), (5, bLg (μ (t + 13) v4.toNat)), (7, bI (μ (t + 12) v4.toNat))]) (st' := [.ref s2]) l88_217 (fun _ => rfl) ?_
            refine b_s (pc' := 220) (lv1 := [(0, .ref t), (1, .ref s), (2, .ref 13), (3, .ref s2), (4, bI v4), (5, bLg (μ (t + 13) v4.toNat)), (7, bI (μ (t + 12) v4.toNat))]) (st' := [bLg (μ (t + 13) v4.toNat), .ref s2]) l88_218 (fun _ => rfl) ?_
            refine b_s (pc' := 222) (lv1 := [(0, .ref t), (1, .ref s), (2, .ref 13), (3, .ref s2), (4, bI v4), (5, bLg (μ (t + 13) v4.toNat)), (7, bI (μ (t + 12) v4.toNat))]) (st' := [bI (μ (t + 12) v4.toNat), bLg (μ (t + 13) v4.toNat), .ref s2]) l88_220 (fun _ => rfl) ?_
            refine b_cPi l88_222 rfl (fun _ => trivial) (Nat.le_of_ble_eq_true rfl) (Nat.le_of_ble_eq_true rfl) rfl (r_X2_width (μ (t + 12) v4.toNat) (bO_i hk (bTree_f ht))) fun w26 hw26 => b_pc (pc' := 225) rfl ?_
            refine b_cMv l88_225 rfl (b_rc (ci := 5) hs2 (by decide) (by decide +kernel)) (Nat.le_of_ble_eq_true rfl) (Nat.le_of_ble_eq_true rfl) rfl (r_X6_addLowFirst s2 hs2 (μ (t + 13) v4.toNat) (bO_l hk (bTree_v ht)) w26 hw26) fun w27 μ28 hw27 => bD.ok fun hk29 => b_pc (pc' := 228) rfl ?_
            exact b_retv l88_228 rfl (hr _)
          · refine b_tg (fun c76 => ?_) (fun c76 => ?_)
            · refine b_s (pc' := 93) (lv1 := [(0, .ref t), (1, .ref s), (2, .ref 13), (3, .ref s2), (4, bI v4), (5, bLg (μ (t + 13) v4.toNat)), (7, bI (μ (t + 12) v4.toNat))]) (st' := [.ref s2]) l88_92 (fun _ => rfl) ?_
              refine b_s (pc' := 95) (lv1 := [(0, .ref t), (1, .ref s), (2, .ref 13), (3, .ref s2), (4, bI v4), (5, bLg (μ (t + 13) v4.toNat)), (7, bI (μ (t + 12) v4.toNat))]) (st' := [bLg (μ (t + 13) v4.toNat), .ref s2]) l88_93 (fun _ => rfl) ?_
              refine b_cMv l88_95 rfl (b_rc (ci := 5) hs2 (by decide) (by decide +kernel)) (Nat.le_of_ble_eq_true rfl) (Nat.le_of_ble_eq_true rfl) rfl (r_X6_addSignedRow s2 hs2 (μ (t + 13) v4.toNat) (bO_l hk (bTree_v ht))) fun w30 μ31 hw30 => bD.ok fun hk32 => b_pc (pc' := 98) rfl ?_
              refine b_s (pc' := 228) (lv1 := [(0, .ref t), (1, .ref s), (2, .ref 13), (3, .ref s2), (4, bI v4), (5, bLg (μ (t + 13) v4.toNat)), (7, bI (μ (t + 12) v4.toNat))]) (st' := []) l88_98 (fun _ => rfl) ?_
              exact b_retv l88_228 rfl (hr _)
            · refine b_tg (fun c75 => ?_) (fun c75 => ?_)
              · refine b_s (pc' := 169) (lv1 := [(0, .ref t), (1, .ref s), (2, .ref 13), (3, .ref s2), (4, bI v4), (5, bLg (μ (t + 13) v4.toNat)), (7, bI (μ (t + 12) v4.toNat))]) (st' := [.ref s2]) l88_168 (fun _ => rfl) ?_
                refine b_s (pc' := 170) (lv1 := [(0, .ref t), (1, .ref s), (2, .ref 13), (3, .ref s2), (4, bI v4), (5, bLg (μ (t + 13) v4.toNat)), (7, bI (μ (t + 12) v4.toNat))]) (st' := [.ref 13, .ref s2]) l88_169 (fun _ => rfl) ?_
                refine b_gp (q' := 22) (j := 9) l88_170 (by rfl) (by decide) (by decide) rfl hk rfl rfl (b_pc (pc' := 173) rfl ?_)
                refine b_s (pc' := 175) (lv1 := [(0, .ref t), (1, .ref s), (2, .ref 13), (3, .ref s2), (4, bI v4), (5, bLg (μ (t + 13) v4.toNat)), (7, bI (μ (t + 12) v4.toNat))]) (st' := [bI v4, .ref 22, .ref s2]) l88_173 (fun _ => rfl) ?_
                refine b_g fun g36 => ?_
                refine b_ial l88_175 (by rfl) g36 (b_pc (pc' := 176) rfl ?_)
                refine b_i2l l88_176 (bO_i hk (by rfl)) (b_pc (pc' := 177) rfl ?_)
                refine b_s (pc' := 178) (lv1 := [(0, .ref t), (1, .ref s), (2, .ref 13), (3, .ref s2), (4, bI v4), (5, bLg (μ (t + 13) v4.toNat)), (7, bI (μ (t + 12) v4.toNat))]) (st' := [bI 4, bLg (μ 22 v4.toNat), .ref s2]) l88_177 (fun _ => rfl) ?_
                refine b_cMv l88_178 rfl (b_rc (ci := 5) hs2 (by decide) (by decide +kernel)) (Nat.le_of_ble_eq_true rfl) (Nat.le_of_ble_eq_true rfl) rfl (r_X6_addLowFirst s2 hs2 (μ 22 v4.toNat) (bR_L (bO_i hk (by rfl))) 4 (by decide)) fun w33 μ34 hw33 => bD.ok fun hk35 => b_pc (pc' := 181) rfl ?_
                refine b_s (pc' := 228) (lv1 := [(0, .ref t), (1, .ref s), (2, .ref 13), (3, .ref s2), (4, bI v4), (5, bLg (μ (t + 13) v4.toNat)), (7, bI (μ (t + 12) v4.toNat))]) (st' := []) l88_181 (fun _ => rfl) ?_
                exact b_retv l88_228 rfl (hr _)
              · refine b_tg (fun c74 => ?_) (fun c74 => ?_)
                · refine b_s (pc' := 102) (lv1 := [(0, .ref t), (1, .ref s), (2, .ref 13), (3, .ref s2), (4, bI v4), (5, bLg (μ (t + 13) v4.toNat)), (7, bI (μ (t + 12) v4.toNat))]) (st' := [.ref s2]) l88_101 (fun _ => rfl) ?_
                  refine b_s (pc' := 104) (lv1 := [(0, .ref t), (1, .ref s), (2, .ref 13), (3, .ref s2), (4, bI v4), (5, bLg (μ (t + 13) v4.toNat)), (7, bI (μ (t + 12) v4.toNat))]) (st' := [bLg (μ (t + 13) v4.toNat), .ref s2]) l88_102 (fun _ => rfl) ?_
                  refine b_cMv l88_104 rfl (b_rc (ci := 5) hs2 (by decide) (by decide +kernel)) (Nat.le_of_ble_eq_true rfl) (Nat.le_of_ble_eq_true rfl) rfl (r_X6_addRow s2 hs2 (μ (t + 13) v4.toNat) (bO_l hk (bTree_v ht))) fun w37 μ38 hw37 => bD.ok fun hk39 => b_pc (pc' := 107) rfl ?_
                  refine b_s (pc' := 228) (lv1 := [(0, .ref t), (1, .ref s), (2, .ref 13), (3, .ref s2), (4, bI v4), (5, bLg (μ (t + 13) v4.toNat)), (7, bI (μ (t + 12) v4.toNat))]) (st' := []) l88_107 (fun _ => rfl) ?_
                  exact b_retv l88_228 rfl (hr _)
                · refine b_tg (fun c73 => ?_) (fun c73 => ?_)
                  · refine b_s (pc' := 218) (lv1 := [(0, .ref t), (1, .ref s), (2, .ref 13), (3, .ref s2), (4, bI v4), (5, bLg (μ (t + 13) v4.toNat)), (7, bI (μ (t + 12) v4.toNat))]) (st' := [.ref s2]) l88_217 (fun _ => rfl) ?_
                    refine b_s (pc' := 220) (lv1 := [(0, .ref t), (1, .ref s), (2, .ref 13), (3, .ref s2), (4, bI v4), (5, bLg (μ (t + 13) v4.toNat)), (7, bI (μ (t + 12) v4.toNat))]) (st' := [bLg (μ (t + 13) v4.toNat), .ref s2]) l88_218 (fun _ => rfl) ?_
                    refine b_s (pc' := 222) (lv1 := [(0, .ref t), (1, .ref s), (2, .ref 13), (3, .ref s2), (4, bI v4), (5, bLg (μ (t + 13) v4.toNat)), (7, bI (μ (t + 12) v4.toNat))]) (st' := [bI (μ (t + 12) v4.toNat), bLg (μ (t + 13) v4.toNat), .ref s2]) l88_220 (fun _ => rfl) ?_
                    refine b_cPi l88_222 rfl (fun _ => trivial) (Nat.le_of_ble_eq_true rfl) (Nat.le_of_ble_eq_true rfl) rfl (r_X2_width (μ (t + 12) v4.toNat) (bO_i hk (bTree_f ht))) fun w40 hw40 => b_pc (pc' := 225) rfl ?_
                    refine b_cMv l88_225 rfl (b_rc (ci := 5) hs2 (by decide) (by decide +kernel)) (Nat.le_of_ble_eq_true rfl) (Nat.le_of_ble_eq_true rfl) rfl (r_X6_addLowFirst s2 hs2 (μ (t + 13) v4.toNat) (bO_l hk (bTree_v ht)) w40 hw40) fun w41 μ42 hw41 => bD.ok fun hk43 => b_pc (pc' := 228) rfl ?_
                    exact b_retv l88_228 rfl (hr _)
                  · refine b_tg (fun c72 => ?_) (fun c72 => ?_)
                    · refine b_s (pc' := 218) (lv1 := [(0, .ref t), (1, .ref s), (2, .ref 13), (3, .ref s2), (4, bI v4), (5, bLg (μ (t + 13) v4.toNat)), (7, bI (μ (t + 12) v4.toNat))]) (st' := [.ref s2]) l88_217 (fun _ => rfl) ?_
                      refine b_s (pc' := 220) (lv1 := [(0, .ref t), (1, .ref s), (2, .ref 13), (3, .ref s2), (4, bI v4), (5, bLg (μ (t + 13) v4.toNat)), (7, bI (μ (t + 12) v4.toNat))]) (st' := [bLg (μ (t + 13) v4.toNat), .ref s2]) l88_218 (fun _ => rfl) ?_
                      refine b_s (pc' := 222) (lv1 := [(0, .ref t), (1, .ref s), (2, .ref 13), (3, .ref s2), (4, bI v4), (5, bLg (μ (t + 13) v4.toNat)), (7, bI (μ (t + 12) v4.toNat))]) (st' := [bI (μ (t + 12) v4.toNat), bLg (μ (t + 13) v4.toNat), .ref s2]) l88_220 (fun _ => rfl) ?_
                      refine b_cPi l88_222 rfl (fun _ => trivial) (Nat.le_of_ble_eq_true rfl) (Nat.le_of_ble_eq_true rfl) rfl (r_X2_width (μ (t + 12) v4.toNat) (bO_i hk (bTree_f ht))) fun w44 hw44 => b_pc (pc' := 225) rfl ?_
                      refine b_cMv l88_225 rfl (b_rc (ci := 5) hs2 (by decide) (by decide +kernel)) (Nat.le_of_ble_eq_true rfl) (Nat.le_of_ble_eq_true rfl) rfl (r_X6_addLowFirst s2 hs2 (μ (t + 13) v4.toNat) (bO_l hk (bTree_v ht)) w44 hw44) fun w45 μ46 hw45 => bD.ok fun hk47 => b_pc (pc' := 228) rfl ?_
                      exact b_retv l88_228 rfl (hr _)
                    · refine b_tg (fun c71 => ?_) (fun c71 => ?_)
                      · refine b_s (pc' := 218) (lv1 := [(0, .ref t), (1, .ref s), (2, .ref 13), (3, .ref s2), (4, bI v4), (5, bLg (μ (t + 13) v4.toNat)), (7, bI (μ (t + 12) v4.toNat))]) (st' := [.ref s2]) l88_217 (fun _ => rfl) ?_
                        refine b_s (pc' := 220) (lv1 := [(0, .ref t), (1, .ref s), (2, .ref 13), (3, .ref s2), (4, bI v4), (5, bLg (μ (t + 13) v4.toNat)), (7, bI (μ (t + 12) v4.toNat))]) (st' := [bLg (μ (t + 13) v4.toNat), .ref s2]) l88_218 (fun _ => rfl) ?_
                        refine b_s (pc' := 222) (lv1 := [(0, .ref t), (1, .ref s), (2, .ref 13), (3, .ref s2), (4, bI v4), (5, bLg (μ (t + 13) v4.toNat)), (7, bI (μ (t + 12) v4.toNat))]) (st' := [bI (μ (t + 12) v4.toNat), bLg (μ (t + 13) v4.toNat), .ref s2]) l88_220 (fun _ => rfl) ?_
                        refine b_cPi l88_222 rfl (fun _ => trivial) (Nat.le_of_ble_eq_true rfl) (Nat.le_of_ble_eq_true rfl) rfl (r_X2_width (μ (t + 12) v4.toNat) (bO_i hk (bTree_f ht))) fun w48 hw48 => b_pc (pc' := 225) rfl ?_
                        refine b_cMv l88_225 rfl (b_rc (ci := 5) hs2 (by decide) (by decide +kernel)) (Nat.le_of_ble_eq_true rfl) (Nat.le_of_ble_eq_true rfl) rfl (r_X6_addLowFirst s2 hs2 (μ (t + 13) v4.toNat) (bO_l hk (bTree_v ht)) w48 hw48) fun w49 μ50 hw49 => bD.ok fun hk51 => b_pc (pc' := 228) rfl ?_
                        exact b_retv l88_228 rfl (hr _)
                      · refine b_tg (fun c70 => ?_) (fun c70 => ?_)
                        · refine b_s (pc' := 185) (lv1 := [(0, .ref t), (1, .ref s), (2, .ref 13), (3, .ref s2), (4, bI v4), (5, bLg (μ (t + 13) v4.toNat)), (7, bI (μ (t + 12) v4.toNat))]) (st' := [.ref s2]) l88_184 (fun _ => rfl) ?_
                          refine b_s (pc' := 186) (lv1 := [(0, .ref t), (1, .ref s), (2, .ref 13), (3, .ref s2), (4, bI v4), (5, bLg (μ (t + 13) v4.toNat)), (7, bI (μ (t + 12) v4.toNat))]) (st' := [.ref 13, .ref s2]) l88_185 (fun _ => rfl) ?_
                          refine b_gp (q' := 19) (j := 6) l88_186 (by rfl) (by decide) (by decide) rfl hk rfl rfl (b_pc (pc' := 189) rfl ?_)
                          refine b_s (pc' := 191) (lv1 := [(0, .ref t), (1, .ref s), (2, .ref 13), (3, .ref s2), (4, bI v4), (5, bLg (μ (t + 13) v4.toNat)), (7, bI (μ (t + 12) v4.toNat))]) (st' := [bLg (μ (t + 13) v4.toNat), .ref 19, .ref s2]) l88_189 (fun _ => rfl) ?_
                          refine b_l2i l88_191 (b_pc (pc' := 192) rfl ?_)
                          refine b_g fun g55 => ?_
                          refine b_ial l88_192 (by rfl) g55 (b_pc (pc' := 193) rfl ?_)
                          refine b_i2l l88_193 (bO_i hk (by rfl)) (b_pc (pc' := 194) rfl ?_)
                          refine b_s (pc' := 195) (lv1 := [(0, .ref t), (1, .ref s), (2, .ref 13), (3, .ref s2), (4, bI v4), (5, bLg (μ (t + 13) v4.toNat)), (7, bI (μ (t + 12) v4.toNat))]) (st' := [bI 4, bLg (μ 19 (b32 (μ (t + 13) v4.toNat)).toNat), .ref s2]) l88_194 (fun _ => rfl) ?_
                          refine b_cMv l88_195 rfl (b_rc (ci := 5) hs2 (by decide) (by decide +kernel)) (Nat.le_of_ble_eq_true rfl) (Nat.le_of_ble_eq_true rfl) rfl (r_X6_addLowFirst s2 hs2 (μ 19 (b32 (μ (t + 13) v4.toNat)).toNat) (bR_L (bO_i hk (by rfl))) 4 (by decide)) fun w52 μ53 hw52 => bD.ok fun hk54 => b_pc (pc' := 198) rfl ?_
                          refine b_s (pc' := 228) (lv1 := [(0, .ref t), (1, .ref s), (2, .ref 13), (3, .ref s2), (4, bI v4), (5, bLg (μ (t + 13) v4.toNat)), (7, bI (μ (t + 12) v4.toNat))]) (st' := []) l88_198 (fun _ => rfl) ?_
                          exact b_retv l88_228 rfl (hr _)
                        · refine b_tg (fun c69 => ?_) (fun c69 => ?_)
                          · refine b_s (pc' := 218) (lv1 := [(0, .ref t), (1, .ref s), (2, .ref 13), (3, .ref s2), (4, bI v4), (5, bLg (μ (t + 13) v4.toNat)), (7, bI (μ (t + 12) v4.toNat))]) (st' := [.ref s2]) l88_217 (fun _ => rfl) ?_
                            refine b_s (pc' := 220) (lv1 := [(0, .ref t), (1, .ref s), (2, .ref 13), (3, .ref s2), (4, bI v4), (5, bLg (μ (t + 13) v4.toNat)), (7, bI (μ (t + 12) v4.toNat))]) (st' := [bLg (μ (t + 13) v4.toNat), .ref s2]) l88_218 (fun _ => rfl) ?_
                            refine b_s (pc' := 222) (lv1 := [(0, .ref t), (1, .ref s), (2, .ref 13), (3, .ref s2), (4, bI v4), (5, bLg (μ (t + 13) v4.toNat)), (7, bI (μ (t + 12) v4.toNat))]) (st' := [bI (μ (t + 12) v4.toNat), bLg (μ (t + 13) v4.toNat), .ref s2]) l88_220 (fun _ => rfl) ?_
                            refine b_cPi l88_222 rfl (fun _ => trivial) (Nat.le_of_ble_eq_true rfl) (Nat.le_of_ble_eq_true rfl) rfl (r_X2_width (μ (t + 12) v4.toNat) (bO_i hk (bTree_f ht))) fun w56 hw56 => b_pc (pc' := 225) rfl ?_
                            refine b_cMv l88_225 rfl (b_rc (ci := 5) hs2 (by decide) (by decide +kernel)) (Nat.le_of_ble_eq_true rfl) (Nat.le_of_ble_eq_true rfl) rfl (r_X6_addLowFirst s2 hs2 (μ (t + 13) v4.toNat) (bO_l hk (bTree_v ht)) w56 hw56) fun w57 μ58 hw57 => bD.ok fun hk59 => b_pc (pc' := 228) rfl ?_
                            exact b_retv l88_228 rfl (hr _)
                          · refine b_tg (fun c68 => ?_) (fun c68 => ?_)
                            · refine b_s (pc' := 202) (lv1 := [(0, .ref t), (1, .ref s), (2, .ref 13), (3, .ref s2), (4, bI v4), (5, bLg (μ (t + 13) v4.toNat)), (7, bI (μ (t + 12) v4.toNat))]) (st' := [.ref s2]) l88_201 (fun _ => rfl) ?_
                              refine b_s (pc' := 203) (lv1 := [(0, .ref t), (1, .ref s), (2, .ref 13), (3, .ref s2), (4, bI v4), (5, bLg (μ (t + 13) v4.toNat)), (7, bI (μ (t + 12) v4.toNat))]) (st' := [.ref 13, .ref s2]) l88_202 (fun _ => rfl) ?_
                              refine b_gp (q' := 19) (j := 6) l88_203 (by rfl) (by decide) (by decide) rfl hk rfl rfl (b_pc (pc' := 206) rfl ?_)
                              refine b_s (pc' := 208) (lv1 := [(0, .ref t), (1, .ref s), (2, .ref 13), (3, .ref s2), (4, bI v4), (5, bLg (μ (t + 13) v4.toNat)), (7, bI (μ (t + 12) v4.toNat))]) (st' := [bLg (μ (t + 13) v4.toNat), .ref 19, .ref s2]) l88_206 (fun _ => rfl) ?_
                              refine b_l2i l88_208 (b_pc (pc' := 209) rfl ?_)
                              refine b_g fun g63 => ?_
                              refine b_ial l88_209 (by rfl) g63 (b_pc (pc' := 210) rfl ?_)
                              refine b_i2l l88_210 (bO_i hk (by rfl)) (b_pc (pc' := 211) rfl ?_)
                              refine b_cMv l88_211 rfl (b_rc (ci := 5) hs2 (by decide) (by decide +kernel)) (Nat.le_of_ble_eq_true rfl) (Nat.le_of_ble_eq_true rfl) rfl (r_X6_addRow s2 hs2 (μ 19 (b32 (μ (t + 13) v4.toNat)).toNat) (bR_L (bO_i hk (by rfl)))) fun w60 μ61 hw60 => bD.ok fun hk62 => b_pc (pc' := 214) rfl ?_
                              refine b_s (pc' := 228) (lv1 := [(0, .ref t), (1, .ref s), (2, .ref 13), (3, .ref s2), (4, bI v4), (5, bLg (μ (t + 13) v4.toNat)), (7, bI (μ (t + 12) v4.toNat))]) (st' := []) l88_214 (fun _ => rfl) ?_
                              exact b_retv l88_228 rfl (hr _)
                            · refine b_pc (pc' := 217) rfl ?_
                              refine b_s (pc' := 218) (lv1 := [(0, .ref t), (1, .ref s), (2, .ref 13), (3, .ref s2), (4, bI v4), (5, bLg (μ (t + 13) v4.toNat)), (7, bI (μ (t + 12) v4.toNat))]) (st' := [.ref s2]) l88_217 (fun _ => rfl) ?_
                              refine b_s (pc' := 220) (lv1 := [(0, .ref t), (1, .ref s), (2, .ref 13), (3, .ref s2), (4, bI v4), (5, bLg (μ (t + 13) v4.toNat)), (7, bI (μ (t + 12) v4.toNat))]) (st' := [bLg (μ (t + 13) v4.toNat), .ref s2]) l88_218 (fun _ => rfl) ?_
                              refine b_s (pc' := 222) (lv1 := [(0, .ref t), (1, .ref s), (2, .ref 13), (3, .ref s2), (4, bI v4), (5, bLg (μ (t + 13) v4.toNat)), (7, bI (μ (t + 12) v4.toNat))]) (st' := [bI (μ (t + 12) v4.toNat), bLg (μ (t + 13) v4.toNat), .ref s2]) l88_220 (fun _ => rfl) ?_
                              refine b_cPi l88_222 rfl (fun _ => trivial) (Nat.le_of_ble_eq_true rfl) (Nat.le_of_ble_eq_true rfl) rfl (r_X2_width (μ (t + 12) v4.toNat) (bO_i hk (bTree_f ht))) fun w64 hw64 => b_pc (pc' := 225) rfl ?_
                              refine b_cMv l88_225 rfl (b_rc (ci := 5) hs2 (by decide) (by decide +kernel)) (Nat.le_of_ble_eq_true rfl) (Nat.le_of_ble_eq_true rfl) rfl (r_X6_addLowFirst s2 hs2 (μ (t + 13) v4.toNat) (bO_l hk (bTree_v ht)) w64 hw64) fun w65 μ66 hw65 => bD.ok fun hk67 => b_pc (pc' := 228) rfl ?_
                              exact b_retv l88_228 rfl (hr _)
/-! ET$Writer.writeEntry -/
theorem l87_0 : (ax_dt (ax_T 87)).lookup 0 = some (.aload_n 3, 1, 0, 0, 0) := by decide +kernel
theorem l87_1 : (ax_dt (ax_T 87)).lookup 1 = some (.aload_n 2, 1, 0, 0, 0) := by decide +kernel
theorem l87_2 : (ax_dt (ax_T 87)).lookup 2 = some (.getfield 48, 3, 2, 13, 0) := by decide +kernel
theorem l87_5 : (ax_dt (ax_T 87)).lookup 5 = some (.iload 4, 2, 0, 0, 0) := by decide +kernel
theorem l87_7 : (ax_dt (ax_T 87)).lookup 7 = some (.iaload, 1, 0, 0, 0) := by decide +kernel
theorem l87_8 : (ax_dt (ax_T 87)).lookup 8 = some (.i2l, 1, 0, 0, 0) := by decide +kernel
theorem l87_9 : (ax_dt (ax_T 87)).lookup 9 = some (.invokevirtual 51, 3, 61, 1, 0) := by decide +kernel
theorem l87_12 : (ax_dt (ax_T 87)).lookup 12 = some (.iconst 0, 1, 0, 0, 0) := by decide +kernel
theorem l87_13 : (ax_dt (ax_T 87)).lookup 13 = some (.istore 5, 2, 0, 0, 0) := by decide +kernel
theorem l87_15 : (ax_dt (ax_T 87)).lookup 15 = some (.iload 5, 2, 0, 0, 0) := by decide +kernel
theorem l87_17 : (ax_dt (ax_T 87)).lookup 17 = some (.aload_n 0, 1, 0, 0, 0) := by decide +kernel
theorem l87_18 : (ax_dt (ax_T 87)).lookup 18 = some (.getfield 55, 3, 7, 11, 0) := by decide +kernel
theorem l87_21 : (ax_dt (ax_T 87)).lookup 21 = some (.iload 4, 2, 0, 0, 0) := by decide +kernel
theorem l87_23 : (ax_dt (ax_T 87)).lookup 23 = some (.iaload, 1, 0, 0, 0) := by decide +kernel
theorem l87_24 : (ax_dt (ax_T 87)).lookup 24 = some (.if_icmp .ge 23, 3, 0, 0, 0) := by decide +kernel
theorem l87_27 : (ax_dt (ax_T 87)).lookup 27 = some (.aload_n 0, 1, 0, 0, 0) := by decide +kernel
theorem l87_28 : (ax_dt (ax_T 87)).lookup 28 = some (.aload_n 1, 1, 0, 0, 0) := by decide +kernel
theorem l87_29 : (ax_dt (ax_T 87)).lookup 29 = some (.aload_n 2, 1, 0, 0, 0) := by decide +kernel
theorem l87_30 : (ax_dt (ax_T 87)).lookup 30 = some (.aload_n 3, 1, 0, 0, 0) := by decide +kernel
theorem l87_31 : (ax_dt (ax_T 87)).lookup 31 = some (.iload 4, 2, 0, 0, 0) := by decide +kernel
theorem l87_33 : (ax_dt (ax_T 87)).lookup 33 = some (.iload 5, 2, 0, 0, 0) := by decide +kernel
theorem l87_35 : (ax_dt (ax_T 87)).lookup 35 = some (.invokestatic 58, 3, 77, 2, 0) := by decide +kernel
theorem l87_38 : (ax_dt (ax_T 87)).lookup 38 = some (.invokestatic 62, 3, 88, 5, 0) := by decide +kernel
theorem l87_41 : (ax_dt (ax_T 87)).lookup 41 = some (.iinc 5 1, 3, 0, 0, 0) := by decide +kernel
theorem l87_44 : (ax_dt (ax_T 87)).lookup 44 = some (.goto (-29), 3, 0, 0, 0) := by decide +kernel
theorem l87_47 : (ax_dt (ax_T 87)).lookup 47 = some (.aload_n 3, 1, 0, 0, 0) := by decide +kernel
theorem l87_48 : (ax_dt (ax_T 87)).lookup 48 = some (.lconst 0, 1, 0, 0, 0) := by decide +kernel
theorem l87_49 : (ax_dt (ax_T 87)).lookup 49 = some (.aload_n 2, 1, 0, 0, 0) := by decide +kernel
theorem l87_50 : (ax_dt (ax_T 87)).lookup 50 = some (.getfield 65, 3, 2, 10, 0) := by decide +kernel
theorem l87_53 : (ax_dt (ax_T 87)).lookup 53 = some (.iload 4, 2, 0, 0, 0) := by decide +kernel
theorem l87_55 : (ax_dt (ax_T 87)).lookup 55 = some (.iaload, 1, 0, 0, 0) := by decide +kernel
theorem l87_56 : (ax_dt (ax_T 87)).lookup 56 = some (.invokevirtual 27, 3, 60, 2, 0) := by decide +kernel
theorem l87_59 : (ax_dt (ax_T 87)).lookup 59 = some (.return_, 1, 0, 0, 0) := by decide +kernel
noncomputable def F_X9_writeEntry_15 (t : Nat) (s : Nat) (s2 : Nat) (v4 : Int) (v5 : Int) (μ : bM) : Option ((Int × bM) ⊕ (Int × bM)) := bG (0 ≤ v4 ∧ v4 < 400) (if (μ (t + 10) v4.toNat) ≤ v5 then bG (0 ≤ v4 ∧ v4 < 400) (bMm (F_X6_addLowFirst s2 0 (μ 17 v4.toNat) μ) (fun w2 μ3 => some (.inr (0, μ3)))) else (F_X8_slotAt v4 v5 μ).bind fun w6 => bMm (F_X9_writeValue t s s2 w6 μ) (fun w7 μ8 => bG (bR (v5 + 1)) (some (.inl ((v5 + 1), μ8)))))
noncomputable def F_X9_writeEntry (t : Nat) (s : Nat) (s2 : Nat) (v4 : Int) (μ : bM) : Option (Int × bM) := bG (0 ≤ v4 ∧ v4 < 400) (bMm (F_X6_addRow s2 (μ 20 v4.toNat) μ) (fun w1 μ2 => bLoop (fun z => F_X9_writeEntry_15 t s s2 v4 z.1 z.2) (0, μ2)))
theorem q_X9_writeEntry_15 {L : Nat} {xs : Nat → Int32} {d : Nat} {μ : bM} {t : Nat} {s : Nat} {s2 : Nat} {v4 : Int} {κ : ((Int × bM) ⊕ (Int × bM)) → Option bX} (hr : ∀ r : Int × bM, κ (.inr r) = (bMc) r) (H15 : ∀ (v5 : Int) (μ : bM), bR v5 → bD L xs (d + 4) 87 15 [(0, .ref t), (1, .ref s), (2, .ref 13), (3, .ref s2), (4, bI v4), (5, bI v5)] [] μ (κ (.inl (v5, μ)))) (ht : bTree t) (hs : bStore s) (hs2 : bStore s2) (h4 : bR v4) {v5 : Int} (h5 : bR v5) : bD L xs (d + 4) 87 15 [(0, .ref t), (1, .ref s), (2, .ref 13), (3, .ref s2), (4, bI v4), (5, bI v5)] [] μ ((F_X9_writeEntry_15 t s s2 v4 v5 μ).bind κ) := by
  unfold F_X9_writeEntry_15
  refine bD.ok fun hk => ?_
  refine b_s (pc' := 17) (lv1 := [(0, .ref t), (1, .ref s), (2, .ref 13), (3, .ref s2), (4, bI v4), (5, bI v5)]) (st' := [bI v5]) l87_15 (fun _ => rfl) ?_
  refine b_s (pc' := 18) (lv1 := [(0, .ref t), (1, .ref s), (2, .ref 13), (3, .ref s2), (4, bI v4), (5, bI v5)]) (st' := [.ref t, bI v5]) l87_17 (fun _ => rfl) ?_
  refine b_gp (q' := (t + 10)) (j := 10) l87_18 ht (by decide) (by decide) rfl hk rfl rfl (b_pc (pc' := 21) rfl ?_)
  refine b_s (pc' := 23) (lv1 := [(0, .ref t), (1, .ref s), (2, .ref 13), (3, .ref s2), (4, bI v4), (5, bI v5)]) (st' := [bI v4, .ref (t + 10), bI v5]) l87_21 (fun _ => rfl) ?_
  refine b_g fun g11 => ?_
  refine b_ial l87_23 (bTree_e ht 10 (by decide)) g11 (b_pc (pc' := 24) rfl ?_)
  refine b_ige (pt := 47) l87_24 h5 (bO_i hk (bTree_e ht 10 (by decide))) (by decide) rfl (fun c1 => ?_) (fun c1 => b_pc (pc' := 27) rfl ?_)
  · refine b_s (pc' := 48) (lv1 := [(0, .ref t), (1, .ref s), (2, .ref 13), (3, .ref s2), (4, bI v4), (5, bI v5)]) (st' := [.ref s2]) l87_47 (fun _ => rfl) ?_
    refine b_lconst (e := 0) l87_48 (by decide) (b_pc (pc' := 49) rfl ?_)
    refine b_s (pc' := 50) (lv1 := [(0, .ref t), (1, .ref s), (2, .ref 13), (3, .ref s2), (4, bI v4), (5, bI v5)]) (st' := [.ref 13, bLg 0, .ref s2]) l87_49 (fun _ => rfl) ?_
    refine b_gp (q' := 17) (j := 4) l87_50 (by rfl) (by decide) (by decide) rfl hk rfl rfl (b_pc (pc' := 53) rfl ?_)
    refine b_s (pc' := 55) (lv1 := [(0, .ref t), (1, .ref s), (2, .ref 13), (3, .ref s2), (4, bI v4), (5, bI v5)]) (st' := [bI v4, .ref 17, bLg 0, .ref s2]) l87_53 (fun _ => rfl) ?_
    refine b_g fun g5 => ?_
    refine b_ial l87_55 (by rfl) g5 (b_pc (pc' := 56) rfl ?_)
    refine b_cMv l87_56 rfl (b_rc (ci := 5) hs2 (by decide) (by decide +kernel)) (Nat.le_of_ble_eq_true rfl) (Nat.le_of_ble_eq_true rfl) rfl (r_X6_addLowFirst s2 hs2 0 (by decide) (μ 17 v4.toNat) (bO_i hk (by rfl))) fun w2 μ3 hw2 => bD.ok fun hk4 => b_pc (pc' := 59) rfl ?_
    exact b_retv l87_59 rfl (hr _)
  · refine b_s (pc' := 28) (lv1 := [(0, .ref t), (1, .ref s), (2, .ref 13), (3, .ref s2), (4, bI v4), (5, bI v5)]) (st' := [.ref t]) l87_27 (fun _ => rfl) ?_
    refine b_s (pc' := 29) (lv1 := [(0, .ref t), (1, .ref s), (2, .ref 13), (3, .ref s2), (4, bI v4), (5, bI v5)]) (st' := [.ref s, .ref t]) l87_28 (fun _ => rfl) ?_
    refine b_s (pc' := 30) (lv1 := [(0, .ref t), (1, .ref s), (2, .ref 13), (3, .ref s2), (4, bI v4), (5, bI v5)]) (st' := [.ref 13, .ref s, .ref t]) l87_29 (fun _ => rfl) ?_
    refine b_s (pc' := 31) (lv1 := [(0, .ref t), (1, .ref s), (2, .ref 13), (3, .ref s2), (4, bI v4), (5, bI v5)]) (st' := [.ref s2, .ref 13, .ref s, .ref t]) l87_30 (fun _ => rfl) ?_
    refine b_s (pc' := 33) (lv1 := [(0, .ref t), (1, .ref s), (2, .ref 13), (3, .ref s2), (4, bI v4), (5, bI v5)]) (st' := [bI v4, .ref s2, .ref 13, .ref s, .ref t]) l87_31 (fun _ => rfl) ?_
    refine b_s (pc' := 35) (lv1 := [(0, .ref t), (1, .ref s), (2, .ref 13), (3, .ref s2), (4, bI v4), (5, bI v5)]) (st' := [bI v5, bI v4, .ref s2, .ref 13, .ref s, .ref t]) l87_33 (fun _ => rfl) ?_
    refine b_cPi l87_35 rfl (fun _ => trivial) (Nat.le_of_ble_eq_true rfl) (Nat.le_of_ble_eq_true rfl) rfl (r_X8_slotAt v4 h4 v5 h5) fun w6 hw6 => b_pc (pc' := 38) rfl ?_
    refine b_cMv l87_38 rfl (fun _ => trivial) (Nat.le_of_ble_eq_true rfl) (Nat.le_of_ble_eq_true rfl) rfl (r_X9_writeValue t ht s hs s2 hs2 w6 hw6) fun w7 μ8 hw7 => bD.ok fun hk9 => b_pc (pc' := 41) rfl ?_
    refine b_inc (lv' := [(0, .ref t), (1, .ref s), (2, .ref 13), (3, .ref s2), (4, bI v4), (5, bI (v5 + 1))]) l87_41 rfl (by decide +kernel) (bSb rfl (bSb rfl (bSb rfl (bSb rfl (bSb rfl (bSb rfl bSn)))))) fun g10 => (b_pc (pc' := 44) rfl ?_)
    refine b_s (pc' := 15) (lv1 := [(0, .ref t), (1, .ref s), (2, .ref 13), (3, .ref s2), (4, bI v4), (5, bI (v5 + 1))]) (st' := []) l87_44 (fun _ => rfl) ?_
    refine bD.wk (lv' := [(0, .ref t), (1, .ref s), (2, .ref 13), (3, .ref s2), (4, bI v4), (5, bI (v5 + 1))]) (bSb rfl (bSb rfl (bSb rfl (bSb rfl (bSb rfl (bSb rfl bSn)))))) ?_
    exact H15 (v5 + 1) μ8 g10
theorem p_X9_writeEntry_15 {L : Nat} {xs : Nat → Int32} {d : Nat} {μ : bM} {t : Nat} {s : Nat} {s2 : Nat} {κ : (Int × bM) → Option bX} (hr : ∀ r : Int × bM, κ r = (bMc) r) (ht : bTree t) (hs : bStore s) (hs2 : bStore s2) {v4 : Int} (h4 : bR v4) {v5 : Int} (h5 : bR v5) : bD L xs (d + 4) 87 15 [(0, .ref t), (1, .ref s), (2, .ref 13), (3, .ref s2), (4, bI v4), (5, bI v5)] [] μ ((bLoop (fun z => F_X9_writeEntry_15 t s s2 v4 z.1 z.2) (v5, μ)).bind κ) :=
  b_loop (fun z => [(0, .ref t), (1, .ref s), (2, .ref 13), (3, .ref s2), (4, bI v4), (5, bI z.1)]) (fun z => z.2) (fun z => bR z.1) (fun κ' hκ HH z hz => q_X9_writeEntry_15 (κ := κ') (fun r => (hκ _).trans (hr r)) (fun a5 am b5 => HH (a5, am) b5) ht hs hs2 h4 hz) (v5, μ) h5
theorem r_X9_writeEntry {L : Nat} {xs : Nat → Int32} {d : Nat} {μ : bM} (t : Nat) (ht : bTree t) (s : Nat) (hs : bStore s) (s2 : Nat) (hs2 : bStore s2) (v4 : Int) (h4 : bR v4) : bD L xs (d + 4) 87 0 [(0, .ref t), (1, .ref s), (2, .ref 13), (3, .ref s2), (4, bI v4)] [] μ ((F_X9_writeEntry t s s2 v4 μ).bind (bMc)) := by
  have hr : ∀ r, (bMc) r = (bMc) r := fun _ => rfl
  unfold F_X9_writeEntry
  refine bD.ok fun hk => ?_
  refine b_s (pc' := 1) (lv1 := [(0, .ref t), (1, .ref s), (2, .ref 13), (3, .ref s2), (4, bI v4)]) (st' := [.ref s2]) l87_0 (fun _ => rfl) ?_
  refine b_s (pc' := 2) (lv1 := [(0, .ref t), (1, .ref s), (2, .ref 13), (3, .ref s2), (4, bI v4)]) (st' := [.ref 13, .ref s2]) l87_1 (fun _ => rfl) ?_
  refine b_gp (q' := 20) (j := 7) l87_2 (by rfl) (by decide) (by decide) rfl hk rfl rfl (b_pc (pc' := 5) rfl ?_)
  refine b_s (pc' := 7) (lv1 := [(0, .ref t), (1, .ref s), (2, .ref 13), (3, .ref s2), (4, bI v4)]) (st' := [bI v4, .ref 20, .ref s2]) l87_5 (fun _ => rfl) ?_
  refine b_g fun g4 => ?_
  refine b_ial l87_7 (by rfl) g4 (b_pc (pc' := 8) rfl ?_)
  refine b_i2l l87_8 (bO_i hk (by rfl)) (b_pc (pc' := 9) rfl ?_)
  refine b_cMv l87_9 rfl (b_rc (ci := 5) hs2 (by decide) (by decide +kernel)) (Nat.le_of_ble_eq_true rfl) (Nat.le_of_ble_eq_true rfl) rfl (r_X6_addRow s2 hs2 (μ 20 v4.toNat) (bR_L (bO_i hk (by rfl)))) fun w1 μ2 hw1 => bD.ok fun hk3 => b_pc (pc' := 12) rfl ?_
  refine b_s (pc' := 13) (lv1 := [(0, .ref t), (1, .ref s), (2, .ref 13), (3, .ref s2), (4, bI v4)]) (st' := [bI 0]) l87_12 (fun _ => rfl) ?_
  refine b_w (pc' := 15) (lv1 := ax_st1 [(0, .ref t), (1, .ref s), (2, .ref 13), (3, .ref s2), (4, bI v4)] 5 (bI 0)) (lv' := [(0, .ref t), (1, .ref s), (2, .ref 13), (3, .ref s2), (4, bI v4), (5, bI 0)]) (st' := []) l87_13 (fun _ => rfl) (bSb rfl (bSb rfl (bSb rfl (bSb rfl (bSb rfl (bSb rfl bSn)))))) ?_
  refine bD.wk (lv' := [(0, .ref t), (1, .ref s), (2, .ref 13), (3, .ref s2), (4, bI v4), (5, bI 0)]) (bSb rfl (bSb rfl (bSb rfl (bSb rfl (bSb rfl (bSb rfl bSn)))))) ?_
  exact p_X9_writeEntry_15 hr ht hs hs2 h4 (by decide)
/-! ET$Writer.writeUnits -/
theorem l86_0 : (ax_dt (ax_T 86)).lookup 0 = some (.aload_n 3, 1, 0, 0, 0) := by decide +kernel
theorem l86_1 : (ax_dt (ax_T 86)).lookup 1 = some (.iconst 0, 1, 0, 0, 0) := by decide +kernel
theorem l86_2 : (ax_dt (ax_T 86)).lookup 2 = some (.invokevirtual 9, 3, 57, 1, 0) := by decide +kernel
theorem l86_5 : (ax_dt (ax_T 86)).lookup 5 = some (.iconst 0, 1, 0, 0, 0) := by decide +kernel
theorem l86_6 : (ax_dt (ax_T 86)).lookup 6 = some (.istore 4, 2, 0, 0, 0) := by decide +kernel
theorem l86_8 : (ax_dt (ax_T 86)).lookup 8 = some (.iload 4, 2, 0, 0, 0) := by decide +kernel
theorem l86_10 : (ax_dt (ax_T 86)).lookup 10 = some (.aload_n 0, 1, 0, 0, 0) := by decide +kernel
theorem l86_11 : (ax_dt (ax_T 86)).lookup 11 = some (.getfield 15, 3, 7, 0, 0) := by decide +kernel
theorem l86_14 : (ax_dt (ax_T 86)).lookup 14 = some (.if_icmp .ge 87, 3, 0, 0, 0) := by decide +kernel
theorem l86_17 : (ax_dt (ax_T 86)).lookup 17 = some (.aload_n 3, 1, 0, 0, 0) := by decide +kernel
theorem l86_18 : (ax_dt (ax_T 86)).lookup 18 = some (.aload_n 2, 1, 0, 0, 0) := by decide +kernel
theorem l86_19 : (ax_dt (ax_T 86)).lookup 19 = some (.getfield 21, 3, 2, 9, 0) := by decide +kernel
theorem l86_22 : (ax_dt (ax_T 86)).lookup 22 = some (.iload 4, 2, 0, 0, 0) := by decide +kernel
theorem l86_24 : (ax_dt (ax_T 86)).lookup 24 = some (.iaload, 1, 0, 0, 0) := by decide +kernel
theorem l86_25 : (ax_dt (ax_T 86)).lookup 25 = some (.iconst 4, 1, 0, 0, 0) := by decide +kernel
theorem l86_26 : (ax_dt (ax_T 86)).lookup 26 = some (.isub, 1, 0, 0, 0) := by decide +kernel
theorem l86_27 : (ax_dt (ax_T 86)).lookup 27 = some (.i2l, 1, 0, 0, 0) := by decide +kernel
theorem l86_28 : (ax_dt (ax_T 86)).lookup 28 = some (.iconst 4, 1, 0, 0, 0) := by decide +kernel
theorem l86_29 : (ax_dt (ax_T 86)).lookup 29 = some (.invokevirtual 27, 3, 60, 2, 0) := by decide +kernel
theorem l86_32 : (ax_dt (ax_T 86)).lookup 32 = some (.aload_n 3, 1, 0, 0, 0) := by decide +kernel
theorem l86_33 : (ax_dt (ax_T 86)).lookup 33 = some (.ldc2_w 31, 3, 0, 0, 4) := by decide +kernel
theorem l86_36 : (ax_dt (ax_T 86)).lookup 36 = some (.iconst 2, 1, 0, 0, 0) := by decide +kernel
theorem l86_37 : (ax_dt (ax_T 86)).lookup 37 = some (.invokevirtual 27, 3, 60, 2, 0) := by decide +kernel
theorem l86_40 : (ax_dt (ax_T 86)).lookup 40 = some (.aload_n 3, 1, 0, 0, 0) := by decide +kernel
theorem l86_41 : (ax_dt (ax_T 86)).lookup 41 = some (.lconst 0, 1, 0, 0, 0) := by decide +kernel
theorem l86_42 : (ax_dt (ax_T 86)).lookup 42 = some (.iconst 4, 1, 0, 0, 0) := by decide +kernel
theorem l86_43 : (ax_dt (ax_T 86)).lookup 43 = some (.invokevirtual 27, 3, 60, 2, 0) := by decide +kernel
theorem l86_46 : (ax_dt (ax_T 86)).lookup 46 = some (.aload_n 3, 1, 0, 0, 0) := by decide +kernel
theorem l86_47 : (ax_dt (ax_T 86)).lookup 47 = some (.bipush 8, 2, 0, 0, 0) := by decide +kernel
theorem l86_49 : (ax_dt (ax_T 86)).lookup 49 = some (.invokevirtual 33, 3, 58, 1, 0) := by decide +kernel
theorem l86_52 : (ax_dt (ax_T 86)).lookup 52 = some (.aload_n 2, 1, 0, 0, 0) := by decide +kernel
theorem l86_53 : (ax_dt (ax_T 86)).lookup 53 = some (.getfield 36, 3, 2, 8, 0) := by decide +kernel
theorem l86_56 : (ax_dt (ax_T 86)).lookup 56 = some (.iload 4, 2, 0, 0, 0) := by decide +kernel
theorem l86_58 : (ax_dt (ax_T 86)).lookup 58 = some (.iaload, 1, 0, 0, 0) := by decide +kernel
theorem l86_59 : (ax_dt (ax_T 86)).lookup 59 = some (.istore 5, 2, 0, 0, 0) := by decide +kernel
theorem l86_61 : (ax_dt (ax_T 86)).lookup 61 = some (.iload 5, 2, 0, 0, 0) := by decide +kernel
theorem l86_63 : (ax_dt (ax_T 86)).lookup 63 = some (.aload_n 2, 1, 0, 0, 0) := by decide +kernel
theorem l86_64 : (ax_dt (ax_T 86)).lookup 64 = some (.getfield 36, 3, 2, 8, 0) := by decide +kernel
theorem l86_67 : (ax_dt (ax_T 86)).lookup 67 = some (.iload 4, 2, 0, 0, 0) := by decide +kernel
theorem l86_69 : (ax_dt (ax_T 86)).lookup 69 = some (.iconst 1, 1, 0, 0, 0) := by decide +kernel
theorem l86_70 : (ax_dt (ax_T 86)).lookup 70 = some (.iadd, 1, 0, 0, 0) := by decide +kernel
theorem l86_71 : (ax_dt (ax_T 86)).lookup 71 = some (.iaload, 1, 0, 0, 0) := by decide +kernel
theorem l86_72 : (ax_dt (ax_T 86)).lookup 72 = some (.if_icmp .ge 23, 3, 0, 0, 0) := by decide +kernel
theorem l86_75 : (ax_dt (ax_T 86)).lookup 75 = some (.aload_n 0, 1, 0, 0, 0) := by decide +kernel
theorem l86_76 : (ax_dt (ax_T 86)).lookup 76 = some (.aload_n 1, 1, 0, 0, 0) := by decide +kernel
theorem l86_77 : (ax_dt (ax_T 86)).lookup 77 = some (.aload_n 2, 1, 0, 0, 0) := by decide +kernel
theorem l86_78 : (ax_dt (ax_T 86)).lookup 78 = some (.aload_n 3, 1, 0, 0, 0) := by decide +kernel
theorem l86_79 : (ax_dt (ax_T 86)).lookup 79 = some (.aload_n 2, 1, 0, 0, 0) := by decide +kernel
theorem l86_80 : (ax_dt (ax_T 86)).lookup 80 = some (.getfield 39, 3, 2, 7, 0) := by decide +kernel
theorem l86_83 : (ax_dt (ax_T 86)).lookup 83 = some (.iload 5, 2, 0, 0, 0) := by decide +kernel
theorem l86_85 : (ax_dt (ax_T 86)).lookup 85 = some (.iaload, 1, 0, 0, 0) := by decide +kernel
theorem l86_86 : (ax_dt (ax_T 86)).lookup 86 = some (.invokestatic 42, 3, 87, 5, 0) := by decide +kernel
theorem l86_89 : (ax_dt (ax_T 86)).lookup 89 = some (.iinc 5 1, 3, 0, 0, 0) := by decide +kernel
theorem l86_92 : (ax_dt (ax_T 86)).lookup 92 = some (.goto (-31), 3, 0, 0, 0) := by decide +kernel
theorem l86_95 : (ax_dt (ax_T 86)).lookup 95 = some (.iinc 4 1, 3, 0, 0, 0) := by decide +kernel
theorem l86_98 : (ax_dt (ax_T 86)).lookup 98 = some (.goto (-90), 3, 0, 0, 0) := by decide +kernel
theorem l86_101 : (ax_dt (ax_T 86)).lookup 101 = some (.return_, 1, 0, 0, 0) := by decide +kernel
noncomputable def F_X9_writeUnits_61 (t : Nat) (s : Nat) (s2 : Nat) (v4 : Int) (v5 : Int) (μ : bM) : Option ((Int × bM) ⊕ ((Int × bM) ⊕ (Int × bM))) := bG (bR (v4 + 1)) (bG (0 ≤ (v4 + 1) ∧ (v4 + 1) < 7) (if (μ 15 (v4 + 1).toNat) ≤ v5 then bG (bR (v4 + 1)) (some (.inr (.inl ((v4 + 1), μ)))) else bG (0 ≤ v5 ∧ v5 < 400) (bMm (F_X9_writeEntry t s s2 (μ 14 v5.toNat) μ) (fun w4 μ5 => bG (bR (v5 + 1)) (some (.inl ((v5 + 1), μ5)))))))
noncomputable def F_X9_writeUnits_8 (t : Nat) (s : Nat) (s2 : Nat) (v4 : Int) (μ : bM) : Option ((Int × bM) ⊕ (Int × bM)) := if (μ t 0) ≤ v4 then some (.inr (0, μ)) else bG (0 ≤ v4 ∧ v4 < 6) (bG (bR ((μ 16 v4.toNat) - 4)) (bMm (F_X6_addLowFirst s2 ((μ 16 v4.toNat) - 4) 4 μ) (fun w3 μ4 => bMm (F_X6_addLowFirst s2 4 2 μ4) (fun w6 μ7 => bMm (F_X6_addLowFirst s2 0 4 μ7) (fun w9 μ10 => bMm (F_X6_add s2 8 μ10) (fun w12 μ13 => bG (0 ≤ v4 ∧ v4 < 7) (bLoop (fun z => F_X9_writeUnits_61 t s s2 v4 z.1 z.2) ((μ13 15 v4.toNat), μ13))))))))
noncomputable def F_X9_writeUnits (t : Nat) (s : Nat) (s2 : Nat) (μ : bM) : Option (Int × bM) := bMm (F_X6_cut s2 0 μ) (fun w1 μ2 => bLoop (fun z => F_X9_writeUnits_8 t s s2 z.1 z.2) (0, μ2))
theorem q_X9_writeUnits_61 {L : Nat} {xs : Nat → Int32} {d : Nat} {μ : bM} {t : Nat} {s : Nat} {s2 : Nat} {v4 : Int} {κ : ((Int × bM) ⊕ ((Int × bM) ⊕ (Int × bM))) → Option bX} (hr : ∀ r : Int × bM, κ (.inr (.inr r)) = (bMc) r) (H8 : ∀ (v4 : Int) (μ : bM), bR v4 → bD L xs (d + 5) 86 8 [(0, .ref t), (1, .ref s), (2, .ref 13), (3, .ref s2), (4, bI v4)] [] μ (κ (.inr (.inl (v4, μ))))) (H61 : ∀ (v5 : Int) (μ : bM), bR v5 → bD L xs (d + 5) 86 61 [(0, .ref t), (1, .ref s), (2, .ref 13), (3, .ref s2), (4, bI v4), (5, bI v5)] [] μ (κ (.inl (v5, μ)))) (ht : bTree t) (hs : bStore s) (hs2 : bStore s2) (h4 : bR v4) {v5 : Int} (h5 : bR v5) : bD L xs (d + 5) 86 61 [(0, .ref t), (1, .ref s), (2, .ref 13), (3, .ref s2), (4, bI v4), (5, bI v5)] [] μ ((F_X9_writeUnits_61 t s s2 v4 v5 μ).bind κ) := by
  unfold F_X9_writeUnits_61
  refine bD.ok fun hk => ?_
  refine b_s (pc' := 63) (lv1 := [(0, .ref t), (1, .ref s), (2, .ref 13), (3, .ref s2), (4, bI v4), (5, bI v5)]) (st' := [bI v5]) l86_61 (fun _ => rfl) ?_
  refine b_s (pc' := 64) (lv1 := [(0, .ref t), (1, .ref s), (2, .ref 13), (3, .ref s2), (4, bI v4), (5, bI v5)]) (st' := [.ref 13, bI v5]) l86_63 (fun _ => rfl) ?_
  refine b_gp (q' := 15) (j := 2) l86_64 (by rfl) (by decide) (by decide) rfl hk rfl rfl (b_pc (pc' := 67) rfl ?_)
  refine b_s (pc' := 69) (lv1 := [(0, .ref t), (1, .ref s), (2, .ref 13), (3, .ref s2), (4, bI v4), (5, bI v5)]) (st' := [bI v4, .ref 15, bI v5]) l86_67 (fun _ => rfl) ?_
  refine b_s (pc' := 70) (lv1 := [(0, .ref t), (1, .ref s), (2, .ref 13), (3, .ref s2), (4, bI v4), (5, bI v5)]) (st' := [bI 1, bI v4, .ref 15, bI v5]) l86_69 (fun _ => rfl) ?_
  refine b_iadd l86_70 fun g1 => (b_pc (pc' := 71) rfl ?_)
  refine b_g fun g9 => ?_
  refine b_ial l86_71 (by rfl) g9 (b_pc (pc' := 72) rfl ?_)
  refine b_ige (pt := 95) l86_72 h5 (bO_i hk (by rfl)) (by decide) rfl (fun c2 => ?_) (fun c2 => b_pc (pc' := 75) rfl ?_)
  · refine b_inc (lv' := [(0, .ref t), (1, .ref s), (2, .ref 13), (3, .ref s2), (4, bI (v4 + 1))]) l86_95 rfl (by decide +kernel) (bSb rfl (bSb rfl (bSb rfl (bSb rfl (bSb rfl bSn))))) fun g3 => (b_pc (pc' := 98) rfl ?_)
    refine b_s (pc' := 8) (lv1 := [(0, .ref t), (1, .ref s), (2, .ref 13), (3, .ref s2), (4, bI (v4 + 1))]) (st' := []) l86_98 (fun _ => rfl) ?_
    refine bD.wk (lv' := [(0, .ref t), (1, .ref s), (2, .ref 13), (3, .ref s2), (4, bI (v4 + 1))]) (bSb rfl (bSb rfl (bSb rfl (bSb rfl (bSb rfl bSn))))) ?_
    exact H8 (v4 + 1) μ g3
  · refine b_s (pc' := 76) (lv1 := [(0, .ref t), (1, .ref s), (2, .ref 13), (3, .ref s2), (4, bI v4), (5, bI v5)]) (st' := [.ref t]) l86_75 (fun _ => rfl) ?_
    refine b_s (pc' := 77) (lv1 := [(0, .ref t), (1, .ref s), (2, .ref 13), (3, .ref s2), (4, bI v4), (5, bI v5)]) (st' := [.ref s, .ref t]) l86_76 (fun _ => rfl) ?_
    refine b_s (pc' := 78) (lv1 := [(0, .ref t), (1, .ref s), (2, .ref 13), (3, .ref s2), (4, bI v4), (5, bI v5)]) (st' := [.ref 13, .ref s, .ref t]) l86_77 (fun _ => rfl) ?_
    refine b_s (pc' := 79) (lv1 := [(0, .ref t), (1, .ref s), (2, .ref 13), (3, .ref s2), (4, bI v4), (5, bI v5)]) (st' := [.ref s2, .ref 13, .ref s, .ref t]) l86_78 (fun _ => rfl) ?_
    refine b_s (pc' := 80) (lv1 := [(0, .ref t), (1, .ref s), (2, .ref 13), (3, .ref s2), (4, bI v4), (5, bI v5)]) (st' := [.ref 13, .ref s2, .ref 13, .ref s, .ref t]) l86_79 (fun _ => rfl) ?_
    refine b_gp (q' := 14) (j := 1) l86_80 (by rfl) (by decide) (by decide) rfl hk rfl rfl (b_pc (pc' := 83) rfl ?_)
    refine b_s (pc' := 85) (lv1 := [(0, .ref t), (1, .ref s), (2, .ref 13), (3, .ref s2), (4, bI v4), (5, bI v5)]) (st' := [bI v5, .ref 14, .ref s2, .ref 13, .ref s, .ref t]) l86_83 (fun _ => rfl) ?_
    refine b_g fun g8 => ?_
    refine b_ial l86_85 (by rfl) g8 (b_pc (pc' := 86) rfl ?_)
    refine b_cMv l86_86 rfl (fun _ => trivial) (Nat.le_of_ble_eq_true rfl) (Nat.le_of_ble_eq_true rfl) rfl (r_X9_writeEntry t ht s hs s2 hs2 (μ 14 v5.toNat) (bO_i hk (by rfl))) fun w4 μ5 hw4 => bD.ok fun hk6 => b_pc (pc' := 89) rfl ?_
    refine b_inc (lv' := [(0, .ref t), (1, .ref s), (2, .ref 13), (3, .ref s2), (4, bI v4), (5, bI (v5 + 1))]) l86_89 rfl (by decide +kernel) (bSb rfl (bSb rfl (bSb rfl (bSb rfl (bSb rfl (bSb rfl bSn)))))) fun g7 => (b_pc (pc' := 92) rfl ?_)
    refine b_s (pc' := 61) (lv1 := [(0, .ref t), (1, .ref s), (2, .ref 13), (3, .ref s2), (4, bI v4), (5, bI (v5 + 1))]) (st' := []) l86_92 (fun _ => rfl) ?_
    refine bD.wk (lv' := [(0, .ref t), (1, .ref s), (2, .ref 13), (3, .ref s2), (4, bI v4), (5, bI (v5 + 1))]) (bSb rfl (bSb rfl (bSb rfl (bSb rfl (bSb rfl (bSb rfl bSn)))))) ?_
    exact H61 (v5 + 1) μ5 g7
theorem p_X9_writeUnits_61 {L : Nat} {xs : Nat → Int32} {d : Nat} {μ : bM} {t : Nat} {s : Nat} {s2 : Nat} {κ : ((Int × bM) ⊕ (Int × bM)) → Option bX} (hr : ∀ r : Int × bM, κ (.inr r) = (bMc) r) (H8 : ∀ (v4 : Int) (μ : bM), bR v4 → bD L xs (d + 5) 86 8 [(0, .ref t), (1, .ref s), (2, .ref 13), (3, .ref s2), (4, bI v4)] [] μ (κ (.inl (v4, μ)))) (ht : bTree t) (hs : bStore s) (hs2 : bStore s2) {v4 : Int} (h4 : bR v4) {v5 : Int} (h5 : bR v5) : bD L xs (d + 5) 86 61 [(0, .ref t), (1, .ref s), (2, .ref 13), (3, .ref s2), (4, bI v4), (5, bI v5)] [] μ ((bLoop (fun z => F_X9_writeUnits_61 t s s2 v4 z.1 z.2) (v5, μ)).bind κ) :=
  b_loop (fun z => [(0, .ref t), (1, .ref s), (2, .ref 13), (3, .ref s2), (4, bI v4), (5, bI z.1)]) (fun z => z.2) (fun z => bR z.1) (fun κ' hκ HH z hz => q_X9_writeUnits_61 (κ := κ') (fun r => (hκ _).trans (hr r)) (fun a4 am b4 => b_eq (hκ _) (H8 a4 am b4)) (fun a5 am b5 => HH (a5, am) b5) ht hs hs2 h4 hz) (v5, μ) h5
theorem q_X9_writeUnits_8 {L : Nat} {xs : Nat → Int32} {d : Nat} {μ : bM} {t : Nat} {s : Nat} {s2 : Nat} {κ : ((Int × bM) ⊕ (Int × bM)) → Option bX} (hr : ∀ r : Int × bM, κ (.inr r) = (bMc) r) (H8 : ∀ (v4 : Int) (μ : bM), bR v4 → bD L xs (d + 5) 86 8 [(0, .ref t), (1, .ref s), (2, .ref 13), (3, .ref s2), (4, bI v4)] [] μ (κ (.inl (v4, μ)))) (ht : bTree t) (hs : bStore s) (hs2 : bStore s2) {v4 : Int} (h4 : bR v4) : bD L xs (d + 5) 86 8 [(0, .ref t), (1, .ref s), (2, .ref 13), (3, .ref s2), (4, bI v4)] [] μ ((F_X9_writeUnits_8 t s s2 v4 μ).bind κ) := by
  unfold F_X9_writeUnits_8
  refine bD.ok fun hk => ?_
  refine b_s (pc' := 10) (lv1 := [(0, .ref t), (1, .ref s), (2, .ref 13), (3, .ref s2), (4, bI v4)]) (st' := [bI v4]) l86_8 (fun _ => rfl) ?_
  refine b_s (pc' := 11) (lv1 := [(0, .ref t), (1, .ref s), (2, .ref 13), (3, .ref s2), (4, bI v4)]) (st' := [.ref t, bI v4]) l86_10 (fun _ => rfl) ?_
  refine b_gi l86_11 ht (by decide) (by decide) rfl (b_pc (pc' := 14) rfl ?_)
  refine b_ige (pt := 101) l86_14 h4 (bO_f hk (ci := 7) ht rfl) (by decide) rfl (fun c1 => ?_) (fun c1 => b_pc (pc' := 17) rfl ?_)
  · exact b_retv l86_101 rfl (hr _)
  · refine b_s (pc' := 18) (lv1 := [(0, .ref t), (1, .ref s), (2, .ref 13), (3, .ref s2), (4, bI v4)]) (st' := [.ref s2]) l86_17 (fun _ => rfl) ?_
    refine b_s (pc' := 19) (lv1 := [(0, .ref t), (1, .ref s), (2, .ref 13), (3, .ref s2), (4, bI v4)]) (st' := [.ref 13, .ref s2]) l86_18 (fun _ => rfl) ?_
    refine b_gp (q' := 16) (j := 3) l86_19 (by rfl) (by decide) (by decide) rfl hk rfl rfl (b_pc (pc' := 22) rfl ?_)
    refine b_s (pc' := 24) (lv1 := [(0, .ref t), (1, .ref s), (2, .ref 13), (3, .ref s2), (4, bI v4)]) (st' := [bI v4, .ref 16, .ref s2]) l86_22 (fun _ => rfl) ?_
    refine b_g fun g16 => ?_
    refine b_ial l86_24 (by rfl) g16 (b_pc (pc' := 25) rfl ?_)
    refine b_s (pc' := 26) (lv1 := [(0, .ref t), (1, .ref s), (2, .ref 13), (3, .ref s2), (4, bI v4)]) (st' := [bI 4, bI (μ 16 v4.toNat), .ref s2]) l86_25 (fun _ => rfl) ?_
    refine b_isub l86_26 fun g2 => (b_pc (pc' := 27) rfl ?_)
    refine b_i2l l86_27 g2 (b_pc (pc' := 28) rfl ?_)
    refine b_s (pc' := 29) (lv1 := [(0, .ref t), (1, .ref s), (2, .ref 13), (3, .ref s2), (4, bI v4)]) (st' := [bI 4, bLg ((μ 16 v4.toNat) - 4), .ref s2]) l86_28 (fun _ => rfl) ?_
    refine b_cMv l86_29 rfl (b_rc (ci := 5) hs2 (by decide) (by decide +kernel)) (Nat.le_of_ble_eq_true rfl) (Nat.le_of_ble_eq_true rfl) rfl (r_X6_addLowFirst s2 hs2 ((μ 16 v4.toNat) - 4) (bR_L g2) 4 (by decide)) fun w3 μ4 hw3 => bD.ok fun hk5 => b_pc (pc' := 32) rfl ?_
    refine b_s (pc' := 33) (lv1 := [(0, .ref t), (1, .ref s), (2, .ref 13), (3, .ref s2), (4, bI v4)]) (st' := [.ref s2]) l86_32 (fun _ => rfl) ?_
    refine b_s (pc' := 36) (lv1 := [(0, .ref t), (1, .ref s), (2, .ref 13), (3, .ref s2), (4, bI v4)]) (st' := [bLg 4, .ref s2]) l86_33 (fun _ => rfl) ?_
    refine b_s (pc' := 37) (lv1 := [(0, .ref t), (1, .ref s), (2, .ref 13), (3, .ref s2), (4, bI v4)]) (st' := [bI 2, bLg 4, .ref s2]) l86_36 (fun _ => rfl) ?_
    refine b_cMv l86_37 rfl (b_rc (ci := 5) hs2 (by decide) (by decide +kernel)) (Nat.le_of_ble_eq_true rfl) (Nat.le_of_ble_eq_true rfl) rfl (r_X6_addLowFirst s2 hs2 4 (by decide) 2 (by decide)) fun w6 μ7 hw6 => bD.ok fun hk8 => b_pc (pc' := 40) rfl ?_
    refine b_s (pc' := 41) (lv1 := [(0, .ref t), (1, .ref s), (2, .ref 13), (3, .ref s2), (4, bI v4)]) (st' := [.ref s2]) l86_40 (fun _ => rfl) ?_
    refine b_lconst (e := 0) l86_41 (by decide) (b_pc (pc' := 42) rfl ?_)
    refine b_s (pc' := 43) (lv1 := [(0, .ref t), (1, .ref s), (2, .ref 13), (3, .ref s2), (4, bI v4)]) (st' := [bI 4, bLg 0, .ref s2]) l86_42 (fun _ => rfl) ?_
    refine b_cMv l86_43 rfl (b_rc (ci := 5) hs2 (by decide) (by decide +kernel)) (Nat.le_of_ble_eq_true rfl) (Nat.le_of_ble_eq_true rfl) rfl (r_X6_addLowFirst s2 hs2 0 (by decide) 4 (by decide)) fun w9 μ10 hw9 => bD.ok fun hk11 => b_pc (pc' := 46) rfl ?_
    refine b_s (pc' := 47) (lv1 := [(0, .ref t), (1, .ref s), (2, .ref 13), (3, .ref s2), (4, bI v4)]) (st' := [.ref s2]) l86_46 (fun _ => rfl) ?_
    refine b_bipush l86_47 (by decide) (b_pc (pc' := 49) rfl ?_)
    refine b_cMv l86_49 rfl (b_rc (ci := 5) hs2 (by decide) (by decide +kernel)) (Nat.le_of_ble_eq_true rfl) (Nat.le_of_ble_eq_true rfl) rfl (r_X6_add s2 hs2 8 (by decide)) fun w12 μ13 hw12 => bD.ok fun hk14 => b_pc (pc' := 52) rfl ?_
    refine b_s (pc' := 53) (lv1 := [(0, .ref t), (1, .ref s), (2, .ref 13), (3, .ref s2), (4, bI v4)]) (st' := [.ref 13]) l86_52 (fun _ => rfl) ?_
    refine b_gp (q' := 15) (j := 2) l86_53 (by rfl) (by decide) (by decide) rfl hk14 rfl rfl (b_pc (pc' := 56) rfl ?_)
    refine b_s (pc' := 58) (lv1 := [(0, .ref t), (1, .ref s), (2, .ref 13), (3, .ref s2), (4, bI v4)]) (st' := [bI v4, .ref 15]) l86_56 (fun _ => rfl) ?_
    refine b_g fun g15 => ?_
    refine b_ial l86_58 (by rfl) g15 (b_pc (pc' := 59) rfl ?_)
    refine b_w (pc' := 61) (lv1 := ax_st1 [(0, .ref t), (1, .ref s), (2, .ref 13), (3, .ref s2), (4, bI v4)] 5 (bI (μ13 15 v4.toNat))) (lv' := [(0, .ref t), (1, .ref s), (2, .ref 13), (3, .ref s2), (4, bI v4), (5, bI (μ13 15 v4.toNat))]) (st' := []) l86_59 (fun _ => rfl) (bSb rfl (bSb rfl (bSb rfl (bSb rfl (bSb rfl (bSb rfl bSn)))))) ?_
    refine bD.wk (lv' := [(0, .ref t), (1, .ref s), (2, .ref 13), (3, .ref s2), (4, bI v4), (5, bI (μ13 15 v4.toNat))]) (bSb rfl (bSb rfl (bSb rfl (bSb rfl (bSb rfl (bSb rfl bSn)))))) ?_
    exact p_X9_writeUnits_61 hr H8 ht hs hs2 h4 (bO_i hk14 (by rfl))
theorem p_X9_writeUnits_8 {L : Nat} {xs : Nat → Int32} {d : Nat} {μ : bM} {t : Nat} {s : Nat} {s2 : Nat} {κ : (Int × bM) → Option bX} (hr : ∀ r : Int × bM, κ r = (bMc) r) (ht : bTree t) (hs : bStore s) (hs2 : bStore s2) {v4 : Int} (h4 : bR v4) : bD L xs (d + 5) 86 8 [(0, .ref t), (1, .ref s), (2, .ref 13), (3, .ref s2), (4, bI v4)] [] μ ((bLoop (fun z => F_X9_writeUnits_8 t s s2 z.1 z.2) (v4, μ)).bind κ) :=
  b_loop (fun z => [(0, .ref t), (1, .ref s), (2, .ref 13), (3, .ref s2), (4, bI z.1)]) (fun z => z.2) (fun z => bR z.1) (fun κ' hκ HH z hz => q_X9_writeUnits_8 (κ := κ') (fun r => (hκ _).trans (hr r)) (fun a4 am b4 => HH (a4, am) b4) ht hs hs2 hz) (v4, μ) h4
theorem r_X9_writeUnits {L : Nat} {xs : Nat → Int32} {d : Nat} {μ : bM} (t : Nat) (ht : bTree t) (s : Nat) (hs : bStore s) (s2 : Nat) (hs2 : bStore s2)  : bD L xs (d + 5) 86 0 [(0, .ref t), (1, .ref s), (2, .ref 13), (3, .ref s2)] [] μ ((F_X9_writeUnits t s s2 μ).bind (bMc)) := by
  have hr : ∀ r, (bMc) r = (bMc) r := fun _ => rfl
  unfold F_X9_writeUnits
  refine bD.ok fun hk => ?_
  refine b_s (pc' := 1) (lv1 := [(0, .ref t), (1, .ref s), (2, .ref 13), (3, .ref s2)]) (st' := [.ref s2]) l86_0 (fun _ => rfl) ?_
  refine b_s (pc' := 2) (lv1 := [(0, .ref t), (1, .ref s), (2, .ref 13), (3, .ref s2)]) (st' := [bI 0, .ref s2]) l86_1 (fun _ => rfl) ?_
  refine b_cMv l86_2 rfl (b_rc (ci := 5) hs2 (by decide) (by decide +kernel)) (Nat.le_of_ble_eq_true rfl) (Nat.le_of_ble_eq_true rfl) rfl (r_X6_cut s2 hs2 0 (by decide)) fun w1 μ2 hw1 => bD.ok fun hk3 => b_pc (pc' := 5) rfl ?_
  refine b_s (pc' := 6) (lv1 := [(0, .ref t), (1, .ref s), (2, .ref 13), (3, .ref s2)]) (st' := [bI 0]) l86_5 (fun _ => rfl) ?_
  refine b_w (pc' := 8) (lv1 := ax_st1 [(0, .ref t), (1, .ref s), (2, .ref 13), (3, .ref s2)] 4 (bI 0)) (lv' := [(0, .ref t), (1, .ref s), (2, .ref 13), (3, .ref s2), (4, bI 0)]) (st' := []) l86_6 (fun _ => rfl) (bSb rfl (bSb rfl (bSb rfl (bSb rfl (bSb rfl bSn))))) ?_
  refine bD.wk (lv' := [(0, .ref t), (1, .ref s), (2, .ref 13), (3, .ref s2), (4, bI 0)]) (bSb rfl (bSb rfl (bSb rfl (bSb rfl (bSb rfl bSn))))) ?_
  exact p_X9_writeUnits_8 hr ht hs hs2 (by decide)
/-! ET$Writer.writeShapes -/
theorem l89_0 : (ax_dt (ax_T 89)).lookup 0 = some (.aload_n 2, 1, 0, 0, 0) := by decide +kernel
theorem l89_1 : (ax_dt (ax_T 89)).lookup 1 = some (.iconst 0, 1, 0, 0, 0) := by decide +kernel
theorem l89_2 : (ax_dt (ax_T 89)).lookup 2 = some (.invokevirtual 9, 3, 57, 1, 0) := by decide +kernel
theorem l89_5 : (ax_dt (ax_T 89)).lookup 5 = some (.iconst 0, 1, 0, 0, 0) := by decide +kernel
theorem l89_6 : (ax_dt (ax_T 89)).lookup 6 = some (.istore_n 3, 1, 0, 0, 0) := by decide +kernel
theorem l89_7 : (ax_dt (ax_T 89)).lookup 7 = some (.iload_n 3, 1, 0, 0, 0) := by decide +kernel
theorem l89_8 : (ax_dt (ax_T 89)).lookup 8 = some (.aload_n 1, 1, 0, 0, 0) := by decide +kernel
theorem l89_9 : (ax_dt (ax_T 89)).lookup 9 = some (.getfield 100, 3, 2, 0, 0) := by decide +kernel
theorem l89_12 : (ax_dt (ax_T 89)).lookup 12 = some (.if_icmp .ge 116, 3, 0, 0, 0) := by decide +kernel
theorem l89_15 : (ax_dt (ax_T 89)).lookup 15 = some (.aload_n 1, 1, 0, 0, 0) := by decide +kernel
theorem l89_16 : (ax_dt (ax_T 89)).lookup 16 = some (.getfield 103, 3, 2, 14, 0) := by decide +kernel
theorem l89_19 : (ax_dt (ax_T 89)).lookup 19 = some (.iload_n 3, 1, 0, 0, 0) := by decide +kernel
theorem l89_20 : (ax_dt (ax_T 89)).lookup 20 = some (.iaload, 1, 0, 0, 0) := by decide +kernel
theorem l89_21 : (ax_dt (ax_T 89)).lookup 21 = some (.istore 4, 2, 0, 0, 0) := by decide +kernel
theorem l89_23 : (ax_dt (ax_T 89)).lookup 23 = some (.aload_n 2, 1, 0, 0, 0) := by decide +kernel
theorem l89_24 : (ax_dt (ax_T 89)).lookup 24 = some (.iload_n 3, 1, 0, 0, 0) := by decide +kernel
theorem l89_25 : (ax_dt (ax_T 89)).lookup 25 = some (.iconst 1, 1, 0, 0, 0) := by decide +kernel
theorem l89_26 : (ax_dt (ax_T 89)).lookup 26 = some (.iadd, 1, 0, 0, 0) := by decide +kernel
theorem l89_27 : (ax_dt (ax_T 89)).lookup 27 = some (.i2l, 1, 0, 0, 0) := by decide +kernel
theorem l89_28 : (ax_dt (ax_T 89)).lookup 28 = some (.invokevirtual 51, 3, 61, 1, 0) := by decide +kernel
theorem l89_31 : (ax_dt (ax_T 89)).lookup 31 = some (.aload_n 2, 1, 0, 0, 0) := by decide +kernel
theorem l89_32 : (ax_dt (ax_T 89)).lookup 32 = some (.aload_n 0, 1, 0, 0, 0) := by decide +kernel
theorem l89_33 : (ax_dt (ax_T 89)).lookup 33 = some (.getfield 106, 3, 7, 3, 0) := by decide +kernel
theorem l89_36 : (ax_dt (ax_T 89)).lookup 36 = some (.iload 4, 2, 0, 0, 0) := by decide +kernel
theorem l89_38 : (ax_dt (ax_T 89)).lookup 38 = some (.iaload, 1, 0, 0, 0) := by decide +kernel
theorem l89_39 : (ax_dt (ax_T 89)).lookup 39 = some (.i2l, 1, 0, 0, 0) := by decide +kernel
theorem l89_40 : (ax_dt (ax_T 89)).lookup 40 = some (.invokevirtual 51, 3, 61, 1, 0) := by decide +kernel
theorem l89_43 : (ax_dt (ax_T 89)).lookup 43 = some (.aload_n 2, 1, 0, 0, 0) := by decide +kernel
theorem l89_44 : (ax_dt (ax_T 89)).lookup 44 = some (.aload_n 0, 1, 0, 0, 0) := by decide +kernel
theorem l89_45 : (ax_dt (ax_T 89)).lookup 45 = some (.getfield 109, 3, 7, 7, 0) := by decide +kernel
theorem l89_48 : (ax_dt (ax_T 89)).lookup 48 = some (.iload 4, 2, 0, 0, 0) := by decide +kernel
theorem l89_50 : (ax_dt (ax_T 89)).lookup 50 = some (.iaload, 1, 0, 0, 0) := by decide +kernel
theorem l89_51 : (ax_dt (ax_T 89)).lookup 51 = some (.ifCond .le 7, 3, 0, 0, 0) := by decide +kernel
theorem l89_54 : (ax_dt (ax_T 89)).lookup 54 = some (.iconst 1, 1, 0, 0, 0) := by decide +kernel
theorem l89_55 : (ax_dt (ax_T 89)).lookup 55 = some (.goto 4, 3, 0, 0, 0) := by decide +kernel
theorem l89_58 : (ax_dt (ax_T 89)).lookup 58 = some (.iconst 0, 1, 0, 0, 0) := by decide +kernel
theorem l89_59 : (ax_dt (ax_T 89)).lookup 59 = some (.invokevirtual 33, 3, 58, 1, 0) := by decide +kernel
theorem l89_62 : (ax_dt (ax_T 89)).lookup 62 = some (.iconst 0, 1, 0, 0, 0) := by decide +kernel
theorem l89_63 : (ax_dt (ax_T 89)).lookup 63 = some (.istore 5, 2, 0, 0, 0) := by decide +kernel
theorem l89_65 : (ax_dt (ax_T 89)).lookup 65 = some (.iload 5, 2, 0, 0, 0) := by decide +kernel
theorem l89_67 : (ax_dt (ax_T 89)).lookup 67 = some (.aload_n 0, 1, 0, 0, 0) := by decide +kernel
theorem l89_68 : (ax_dt (ax_T 89)).lookup 68 = some (.getfield 55, 3, 7, 11, 0) := by decide +kernel
theorem l89_71 : (ax_dt (ax_T 89)).lookup 71 = some (.iload 4, 2, 0, 0, 0) := by decide +kernel
theorem l89_73 : (ax_dt (ax_T 89)).lookup 73 = some (.iaload, 1, 0, 0, 0) := by decide +kernel
theorem l89_74 : (ax_dt (ax_T 89)).lookup 74 = some (.if_icmp .ge 42, 3, 0, 0, 0) := by decide +kernel
theorem l89_77 : (ax_dt (ax_T 89)).lookup 77 = some (.iload 4, 2, 0, 0, 0) := by decide +kernel
theorem l89_79 : (ax_dt (ax_T 89)).lookup 79 = some (.iload 5, 2, 0, 0, 0) := by decide +kernel
theorem l89_81 : (ax_dt (ax_T 89)).lookup 81 = some (.invokestatic 58, 3, 77, 2, 0) := by decide +kernel
theorem l89_84 : (ax_dt (ax_T 89)).lookup 84 = some (.istore 6, 2, 0, 0, 0) := by decide +kernel
theorem l89_86 : (ax_dt (ax_T 89)).lookup 86 = some (.aload_n 2, 1, 0, 0, 0) := by decide +kernel
theorem l89_87 : (ax_dt (ax_T 89)).lookup 87 = some (.aload_n 0, 1, 0, 0, 0) := by decide +kernel
theorem l89_88 : (ax_dt (ax_T 89)).lookup 88 = some (.getfield 112, 3, 7, 12, 0) := by decide +kernel
theorem l89_91 : (ax_dt (ax_T 89)).lookup 91 = some (.iload 6, 2, 0, 0, 0) := by decide +kernel
theorem l89_93 : (ax_dt (ax_T 89)).lookup 93 = some (.iaload, 1, 0, 0, 0) := by decide +kernel
theorem l89_94 : (ax_dt (ax_T 89)).lookup 94 = some (.i2l, 1, 0, 0, 0) := by decide +kernel
theorem l89_95 : (ax_dt (ax_T 89)).lookup 95 = some (.invokevirtual 51, 3, 61, 1, 0) := by decide +kernel
theorem l89_98 : (ax_dt (ax_T 89)).lookup 98 = some (.aload_n 2, 1, 0, 0, 0) := by decide +kernel
theorem l89_99 : (ax_dt (ax_T 89)).lookup 99 = some (.aload_n 0, 1, 0, 0, 0) := by decide +kernel
theorem l89_100 : (ax_dt (ax_T 89)).lookup 100 = some (.getfield 72, 3, 7, 13, 0) := by decide +kernel
theorem l89_103 : (ax_dt (ax_T 89)).lookup 103 = some (.iload 6, 2, 0, 0, 0) := by decide +kernel
theorem l89_105 : (ax_dt (ax_T 89)).lookup 105 = some (.iaload, 1, 0, 0, 0) := by decide +kernel
theorem l89_106 : (ax_dt (ax_T 89)).lookup 106 = some (.i2l, 1, 0, 0, 0) := by decide +kernel
theorem l89_107 : (ax_dt (ax_T 89)).lookup 107 = some (.invokevirtual 51, 3, 61, 1, 0) := by decide +kernel
theorem l89_110 : (ax_dt (ax_T 89)).lookup 110 = some (.iinc 5 1, 3, 0, 0, 0) := by decide +kernel
theorem l89_113 : (ax_dt (ax_T 89)).lookup 113 = some (.goto (-48), 3, 0, 0, 0) := by decide +kernel
theorem l89_116 : (ax_dt (ax_T 89)).lookup 116 = some (.aload_n 2, 1, 0, 0, 0) := by decide +kernel
theorem l89_117 : (ax_dt (ax_T 89)).lookup 117 = some (.lconst 0, 1, 0, 0, 0) := by decide +kernel
theorem l89_118 : (ax_dt (ax_T 89)).lookup 118 = some (.iconst 2, 1, 0, 0, 0) := by decide +kernel
theorem l89_119 : (ax_dt (ax_T 89)).lookup 119 = some (.invokevirtual 27, 3, 60, 2, 0) := by decide +kernel
theorem l89_122 : (ax_dt (ax_T 89)).lookup 122 = some (.iinc 3 1, 3, 0, 0, 0) := by decide +kernel
theorem l89_125 : (ax_dt (ax_T 89)).lookup 125 = some (.goto (-118), 3, 0, 0, 0) := by decide +kernel
theorem l89_128 : (ax_dt (ax_T 89)).lookup 128 = some (.aload_n 2, 1, 0, 0, 0) := by decide +kernel
theorem l89_129 : (ax_dt (ax_T 89)).lookup 129 = some (.iconst 0, 1, 0, 0, 0) := by decide +kernel
theorem l89_130 : (ax_dt (ax_T 89)).lookup 130 = some (.invokevirtual 33, 3, 58, 1, 0) := by decide +kernel
theorem l89_133 : (ax_dt (ax_T 89)).lookup 133 = some (.return_, 1, 0, 0, 0) := by decide +kernel
noncomputable def F_X9_writeShapes_65 (t : Nat) (s : Nat) (v3 : Int) (v4 : Int) (v5 : Int) (μ : bM) : Option ((Int × bM) ⊕ ((Int × bM) ⊕ (Int × bM))) := bG (0 ≤ v4 ∧ v4 < 400) (if (μ (t + 10) v4.toNat) ≤ v5 then bMm (F_X6_addLowFirst s 0 2 μ) (fun w2 μ3 => bG (bR (v3 + 1)) (some (.inr (.inl ((v3 + 1), μ3))))) else (F_X8_slotAt v4 v5 μ).bind fun w6 => bG (0 ≤ w6 ∧ w6 < 3200) (bMm (F_X6_addRow s (μ (t + 11) w6.toNat) μ) (fun w7 μ8 => bG (0 ≤ w6 ∧ w6 < 3200) (bMm (F_X6_addRow s (μ8 (t + 12) w6.toNat) μ8) (fun w10 μ11 => bG (bR (v5 + 1)) (some (.inl ((v5 + 1), μ11))))))))
noncomputable def F_X9_writeShapes_7 (t : Nat) (s : Nat) (v3 : Int) (μ : bM) : Option ((Int × bM) ⊕ (Int × bM)) := if (μ 13 0) ≤ v3 then bMm (F_X6_add s 0 μ) (fun w2 μ3 => some (.inr (0, μ3))) else bG (0 ≤ v3 ∧ v3 < 400) (bG (bR (v3 + 1)) (bMm (F_X6_addRow s (v3 + 1) μ) (fun w6 μ7 => bG (0 ≤ (μ 21 v3.toNat) ∧ (μ 21 v3.toNat) < 400) (bMm (F_X6_addRow s (μ7 (t + 2) (μ 21 v3.toNat).toNat) μ7) (fun w9 μ10 => bG (0 ≤ (μ 21 v3.toNat) ∧ (μ 21 v3.toNat) < 400) (if (μ10 (t + 6) (μ 21 v3.toNat).toNat) ≤ 0 then bMm (F_X6_add s 0 μ10) (fun w13 μ14 => bLoop (fun z => F_X9_writeShapes_65 t s v3 (μ 21 v3.toNat) z.1 z.2) (0, μ14)) else bMm (F_X6_add s 1 μ10) (fun w16 μ17 => bLoop (fun z => F_X9_writeShapes_65 t s v3 (μ 21 v3.toNat) z.1 z.2) (0, μ17))))))))
noncomputable def F_X9_writeShapes (t : Nat) (s : Nat) (μ : bM) : Option (Int × bM) := bMm (F_X6_cut s 0 μ) (fun w1 μ2 => bLoop (fun z => F_X9_writeShapes_7 t s z.1 z.2) (0, μ2))
theorem q_X9_writeShapes_65 {L : Nat} {xs : Nat → Int32} {d : Nat} {μ : bM} {t : Nat} {s : Nat} {v3 : Int} {v4 : Int} {κ : ((Int × bM) ⊕ ((Int × bM) ⊕ (Int × bM))) → Option bX} (hr : ∀ r : Int × bM, κ (.inr (.inr r)) = (bMc) r) (H7 : ∀ (v3 : Int) (μ : bM), bR v3 → bD L xs (d + 3) 89 7 [(0, .ref t), (1, .ref 13), (2, .ref s), (3, bI v3)] [] μ (κ (.inr (.inl (v3, μ))))) (H65 : ∀ (v5 : Int) (μ : bM), bR v5 → bD L xs (d + 3) 89 65 [(0, .ref t), (1, .ref 13), (2, .ref s), (3, bI v3), (4, bI v4), (5, bI v5)] [] μ (κ (.inl (v5, μ)))) (ht : bTree t) (hs : bStore s) (h3 : bR v3) (h4 : bR v4) {v5 : Int} (h5 : bR v5) : bD L xs (d + 3) 89 65 [(0, .ref t), (1, .ref 13), (2, .ref s), (3, bI v3), (4, bI v4), (5, bI v5)] [] μ ((F_X9_writeShapes_65 t s v3 v4 v5 μ).bind κ) := by
  unfold F_X9_writeShapes_65
  refine bD.ok fun hk => ?_
  refine b_s (pc' := 67) (lv1 := [(0, .ref t), (1, .ref 13), (2, .ref s), (3, bI v3), (4, bI v4), (5, bI v5)]) (st' := [bI v5]) l89_65 (fun _ => rfl) ?_
  refine b_s (pc' := 68) (lv1 := [(0, .ref t), (1, .ref 13), (2, .ref s), (3, bI v3), (4, bI v4), (5, bI v5)]) (st' := [.ref t, bI v5]) l89_67 (fun _ => rfl) ?_
  refine b_gp (q' := (t + 10)) (j := 10) l89_68 ht (by decide) (by decide) rfl hk rfl rfl (b_pc (pc' := 71) rfl ?_)
  refine b_s (pc' := 73) (lv1 := [(0, .ref t), (1, .ref 13), (2, .ref s), (3, bI v3), (4, bI v4), (5, bI v5)]) (st' := [bI v4, .ref (t + 10), bI v5]) l89_71 (fun _ => rfl) ?_
  refine b_g fun g16 => ?_
  refine b_ial l89_73 (bTree_e ht 10 (by decide)) g16 (b_pc (pc' := 74) rfl ?_)
  refine b_ige (pt := 116) l89_74 h5 (bO_i hk (bTree_e ht 10 (by decide))) (by decide) rfl (fun c1 => ?_) (fun c1 => b_pc (pc' := 77) rfl ?_)
  · refine b_s (pc' := 117) (lv1 := [(0, .ref t), (1, .ref 13), (2, .ref s), (3, bI v3), (4, bI v4), (5, bI v5)]) (st' := [.ref s]) l89_116 (fun _ => rfl) ?_
    refine b_lconst (e := 0) l89_117 (by decide) (b_pc (pc' := 118) rfl ?_)
    refine b_s (pc' := 119) (lv1 := [(0, .ref t), (1, .ref 13), (2, .ref s), (3, bI v3), (4, bI v4), (5, bI v5)]) (st' := [bI 2, bLg 0, .ref s]) l89_118 (fun _ => rfl) ?_
    refine b_cMv l89_119 rfl (b_rc (ci := 5) hs (by decide) (by decide +kernel)) (Nat.le_of_ble_eq_true rfl) (Nat.le_of_ble_eq_true rfl) rfl (r_X6_addLowFirst s hs 0 (by decide) 2 (by decide)) fun w2 μ3 hw2 => bD.ok fun hk4 => b_pc (pc' := 122) rfl ?_
    refine b_inc (lv' := [(0, .ref t), (1, .ref 13), (2, .ref s), (3, bI (v3 + 1))]) l89_122 rfl (by decide +kernel) (bSb rfl (bSb rfl (bSb rfl (bSb rfl bSn)))) fun g5 => (b_pc (pc' := 125) rfl ?_)
    refine b_s (pc' := 7) (lv1 := [(0, .ref t), (1, .ref 13), (2, .ref s), (3, bI (v3 + 1))]) (st' := []) l89_125 (fun _ => rfl) ?_
    refine bD.wk (lv' := [(0, .ref t), (1, .ref 13), (2, .ref s), (3, bI (v3 + 1))]) (bSb rfl (bSb rfl (bSb rfl (bSb rfl bSn)))) ?_
    exact H7 (v3 + 1) μ3 g5
  · refine b_s (pc' := 79) (lv1 := [(0, .ref t), (1, .ref 13), (2, .ref s), (3, bI v3), (4, bI v4), (5, bI v5)]) (st' := [bI v4]) l89_77 (fun _ => rfl) ?_
    refine b_s (pc' := 81) (lv1 := [(0, .ref t), (1, .ref 13), (2, .ref s), (3, bI v3), (4, bI v4), (5, bI v5)]) (st' := [bI v5, bI v4]) l89_79 (fun _ => rfl) ?_
    refine b_cPi l89_81 rfl (fun _ => trivial) (Nat.le_of_ble_eq_true rfl) (Nat.le_of_ble_eq_true rfl) rfl (r_X8_slotAt v4 h4 v5 h5) fun w6 hw6 => b_pc (pc' := 84) rfl ?_
    refine b_w (pc' := 86) (lv1 := ax_st1 [(0, .ref t), (1, .ref 13), (2, .ref s), (3, bI v3), (4, bI v4), (5, bI v5)] 6 (bI w6)) (lv' := [(0, .ref t), (1, .ref 13), (2, .ref s), (3, bI v3), (4, bI v4), (5, bI v5), (6, bI w6)]) (st' := []) l89_84 (fun _ => rfl) (bSb rfl (bSb rfl (bSb rfl (bSb rfl (bSb rfl (bSb rfl (bSb rfl bSn))))))) ?_
    refine b_s (pc' := 87) (lv1 := [(0, .ref t), (1, .ref 13), (2, .ref s), (3, bI v3), (4, bI v4), (5, bI v5), (6, bI w6)]) (st' := [.ref s]) l89_86 (fun _ => rfl) ?_
    refine b_s (pc' := 88) (lv1 := [(0, .ref t), (1, .ref 13), (2, .ref s), (3, bI v3), (4, bI v4), (5, bI v5), (6, bI w6)]) (st' := [.ref t, .ref s]) l89_87 (fun _ => rfl) ?_
    refine b_gp (q' := (t + 11)) (j := 11) l89_88 ht (by decide) (by decide) rfl hk rfl rfl (b_pc (pc' := 91) rfl ?_)
    refine b_s (pc' := 93) (lv1 := [(0, .ref t), (1, .ref 13), (2, .ref s), (3, bI v3), (4, bI v4), (5, bI v5), (6, bI w6)]) (st' := [bI w6, .ref (t + 11), .ref s]) l89_91 (fun _ => rfl) ?_
    refine b_g fun g15 => ?_
    refine b_ial l89_93 (bTree_n ht) g15 (b_pc (pc' := 94) rfl ?_)
    refine b_i2l l89_94 (bO_i hk (bTree_n ht)) (b_pc (pc' := 95) rfl ?_)
    refine b_cMv l89_95 rfl (b_rc (ci := 5) hs (by decide) (by decide +kernel)) (Nat.le_of_ble_eq_true rfl) (Nat.le_of_ble_eq_true rfl) rfl (r_X6_addRow s hs (μ (t + 11) w6.toNat) (bR_L (bO_i hk (bTree_n ht)))) fun w7 μ8 hw7 => bD.ok fun hk9 => b_pc (pc' := 98) rfl ?_
    refine b_s (pc' := 99) (lv1 := [(0, .ref t), (1, .ref 13), (2, .ref s), (3, bI v3), (4, bI v4), (5, bI v5), (6, bI w6)]) (st' := [.ref s]) l89_98 (fun _ => rfl) ?_
    refine b_s (pc' := 100) (lv1 := [(0, .ref t), (1, .ref 13), (2, .ref s), (3, bI v3), (4, bI v4), (5, bI v5), (6, bI w6)]) (st' := [.ref t, .ref s]) l89_99 (fun _ => rfl) ?_
    refine b_gp (q' := (t + 12)) (j := 12) l89_100 ht (by decide) (by decide) rfl hk9 rfl rfl (b_pc (pc' := 103) rfl ?_)
    refine b_s (pc' := 105) (lv1 := [(0, .ref t), (1, .ref 13), (2, .ref s), (3, bI v3), (4, bI v4), (5, bI v5), (6, bI w6)]) (st' := [bI w6, .ref (t + 12), .ref s]) l89_103 (fun _ => rfl) ?_
    refine b_g fun g14 => ?_
    refine b_ial l89_105 (bTree_f ht) g14 (b_pc (pc' := 106) rfl ?_)
    refine b_i2l l89_106 (bO_i hk9 (bTree_f ht)) (b_pc (pc' := 107) rfl ?_)
    refine b_cMv l89_107 rfl (b_rc (ci := 5) hs (by decide) (by decide +kernel)) (Nat.le_of_ble_eq_true rfl) (Nat.le_of_ble_eq_true rfl) rfl (r_X6_addRow s hs (μ8 (t + 12) w6.toNat) (bR_L (bO_i hk9 (bTree_f ht)))) fun w10 μ11 hw10 => bD.ok fun hk12 => b_pc (pc' := 110) rfl ?_
    refine b_inc (lv' := [(0, .ref t), (1, .ref 13), (2, .ref s), (3, bI v3), (4, bI v4), (5, bI (v5 + 1))]) l89_110 rfl (by decide +kernel) (bSb rfl (bSb rfl (bSb rfl (bSb rfl (bSb rfl (bSb rfl bSn)))))) fun g13 => (b_pc (pc' := 113) rfl ?_)
    refine b_s (pc' := 65) (lv1 := [(0, .ref t), (1, .ref 13), (2, .ref s), (3, bI v3), (4, bI v4), (5, bI (v5 + 1))]) (st' := []) l89_113 (fun _ => rfl) ?_
    refine bD.wk (lv' := [(0, .ref t), (1, .ref 13), (2, .ref s), (3, bI v3), (4, bI v4), (5, bI (v5 + 1))]) (bSb rfl (bSb rfl (bSb rfl (bSb rfl (bSb rfl (bSb rfl bSn)))))) ?_
    exact H65 (v5 + 1) μ11 g13
theorem p_X9_writeShapes_65 {L : Nat} {xs : Nat → Int32} {d : Nat} {μ : bM} {t : Nat} {s : Nat} {κ : ((Int × bM) ⊕ (Int × bM)) → Option bX} (hr : ∀ r : Int × bM, κ (.inr r) = (bMc) r) (H7 : ∀ (v3 : Int) (μ : bM), bR v3 → bD L xs (d + 3) 89 7 [(0, .ref t), (1, .ref 13), (2, .ref s), (3, bI v3)] [] μ (κ (.inl (v3, μ)))) (ht : bTree t) (hs : bStore s) {v3 : Int} (h3 : bR v3) {v4 : Int} (h4 : bR v4) {v5 : Int} (h5 : bR v5) : bD L xs (d + 3) 89 65 [(0, .ref t), (1, .ref 13), (2, .ref s), (3, bI v3), (4, bI v4), (5, bI v5)] [] μ ((bLoop (fun z => F_X9_writeShapes_65 t s v3 v4 z.1 z.2) (v5, μ)).bind κ) :=
  b_loop (fun z => [(0, .ref t), (1, .ref 13), (2, .ref s), (3, bI v3), (4, bI v4), (5, bI z.1)]) (fun z => z.2) (fun z => bR z.1) (fun κ' hκ HH z hz => q_X9_writeShapes_65 (κ := κ') (fun r => (hκ _).trans (hr r)) (fun a3 am b3 => b_eq (hκ _) (H7 a3 am b3)) (fun a5 am b5 => HH (a5, am) b5) ht hs h3 h4 hz) (v5, μ) h5
theorem q_X9_writeShapes_7 {L : Nat} {xs : Nat → Int32} {d : Nat} {μ : bM} {t : Nat} {s : Nat} {κ : ((Int × bM) ⊕ (Int × bM)) → Option bX} (hr : ∀ r : Int × bM, κ (.inr r) = (bMc) r) (H7 : ∀ (v3 : Int) (μ : bM), bR v3 → bD L xs (d + 3) 89 7 [(0, .ref t), (1, .ref 13), (2, .ref s), (3, bI v3)] [] μ (κ (.inl (v3, μ)))) (ht : bTree t) (hs : bStore s) {v3 : Int} (h3 : bR v3) : bD L xs (d + 3) 89 7 [(0, .ref t), (1, .ref 13), (2, .ref s), (3, bI v3)] [] μ ((F_X9_writeShapes_7 t s v3 μ).bind κ) := by
  unfold F_X9_writeShapes_7
  refine bD.ok fun hk => ?_
  refine b_s (pc' := 8) (lv1 := [(0, .ref t), (1, .ref 13), (2, .ref s), (3, bI v3)]) (st' := [bI v3]) l89_7 (fun _ => rfl) ?_
  refine b_s (pc' := 9) (lv1 := [(0, .ref t), (1, .ref 13), (2, .ref s), (3, bI v3)]) (st' := [.ref 13, bI v3]) l89_8 (fun _ => rfl) ?_
  refine b_gi l89_9 (by rfl) (by decide) (by decide) rfl (b_pc (pc' := 12) rfl ?_)
  refine b_ige (pt := 128) l89_12 h3 (bO_f hk (ci := 2) (by rfl) rfl) (by decide) rfl (fun c1 => ?_) (fun c1 => b_pc (pc' := 15) rfl ?_)
  · refine b_s (pc' := 129) (lv1 := [(0, .ref t), (1, .ref 13), (2, .ref s), (3, bI v3)]) (st' := [.ref s]) l89_128 (fun _ => rfl) ?_
    refine b_s (pc' := 130) (lv1 := [(0, .ref t), (1, .ref 13), (2, .ref s), (3, bI v3)]) (st' := [bI 0, .ref s]) l89_129 (fun _ => rfl) ?_
    refine b_cMv l89_130 rfl (b_rc (ci := 5) hs (by decide) (by decide +kernel)) (Nat.le_of_ble_eq_true rfl) (Nat.le_of_ble_eq_true rfl) rfl (r_X6_add s hs 0 (by decide)) fun w2 μ3 hw2 => bD.ok fun hk4 => b_pc (pc' := 133) rfl ?_
    exact b_retv l89_133 rfl (hr _)
  · refine b_s (pc' := 16) (lv1 := [(0, .ref t), (1, .ref 13), (2, .ref s), (3, bI v3)]) (st' := [.ref 13]) l89_15 (fun _ => rfl) ?_
    refine b_gp (q' := 21) (j := 8) l89_16 (by rfl) (by decide) (by decide) rfl hk rfl rfl (b_pc (pc' := 19) rfl ?_)
    refine b_s (pc' := 20) (lv1 := [(0, .ref t), (1, .ref 13), (2, .ref s), (3, bI v3)]) (st' := [bI v3, .ref 21]) l89_19 (fun _ => rfl) ?_
    refine b_g fun g21 => ?_
    refine b_ial l89_20 (by rfl) g21 (b_pc (pc' := 21) rfl ?_)
    refine b_w (pc' := 23) (lv1 := ax_st1 [(0, .ref t), (1, .ref 13), (2, .ref s), (3, bI v3)] 4 (bI (μ 21 v3.toNat))) (lv' := [(0, .ref t), (1, .ref 13), (2, .ref s), (3, bI v3), (4, bI (μ 21 v3.toNat))]) (st' := []) l89_21 (fun _ => rfl) (bSb rfl (bSb rfl (bSb rfl (bSb rfl (bSb rfl bSn))))) ?_
    refine b_s (pc' := 24) (lv1 := [(0, .ref t), (1, .ref 13), (2, .ref s), (3, bI v3), (4, bI (μ 21 v3.toNat))]) (st' := [.ref s]) l89_23 (fun _ => rfl) ?_
    refine b_s (pc' := 25) (lv1 := [(0, .ref t), (1, .ref 13), (2, .ref s), (3, bI v3), (4, bI (μ 21 v3.toNat))]) (st' := [bI v3, .ref s]) l89_24 (fun _ => rfl) ?_
    refine b_s (pc' := 26) (lv1 := [(0, .ref t), (1, .ref 13), (2, .ref s), (3, bI v3), (4, bI (μ 21 v3.toNat))]) (st' := [bI 1, bI v3, .ref s]) l89_25 (fun _ => rfl) ?_
    refine b_iadd l89_26 fun g5 => (b_pc (pc' := 27) rfl ?_)
    refine b_i2l l89_27 g5 (b_pc (pc' := 28) rfl ?_)
    refine b_cMv l89_28 rfl (b_rc (ci := 5) hs (by decide) (by decide +kernel)) (Nat.le_of_ble_eq_true rfl) (Nat.le_of_ble_eq_true rfl) rfl (r_X6_addRow s hs (v3 + 1) (bR_L g5)) fun w6 μ7 hw6 => bD.ok fun hk8 => b_pc (pc' := 31) rfl ?_
    refine b_s (pc' := 32) (lv1 := [(0, .ref t), (1, .ref 13), (2, .ref s), (3, bI v3), (4, bI (μ 21 v3.toNat))]) (st' := [.ref s]) l89_31 (fun _ => rfl) ?_
    refine b_s (pc' := 33) (lv1 := [(0, .ref t), (1, .ref 13), (2, .ref s), (3, bI v3), (4, bI (μ 21 v3.toNat))]) (st' := [.ref t, .ref s]) l89_32 (fun _ => rfl) ?_
    refine b_gp (q' := (t + 2)) (j := 2) l89_33 ht (by decide) (by decide) rfl hk8 rfl rfl (b_pc (pc' := 36) rfl ?_)
    refine b_s (pc' := 38) (lv1 := [(0, .ref t), (1, .ref 13), (2, .ref s), (3, bI v3), (4, bI (μ 21 v3.toNat))]) (st' := [bI (μ 21 v3.toNat), .ref (t + 2), .ref s]) l89_36 (fun _ => rfl) ?_
    refine b_g fun g20 => ?_
    refine b_ial l89_38 (bTree_e ht 2 (by decide)) g20 (b_pc (pc' := 39) rfl ?_)
    refine b_i2l l89_39 (bO_i hk8 (bTree_e ht 2 (by decide))) (b_pc (pc' := 40) rfl ?_)
    refine b_cMv l89_40 rfl (b_rc (ci := 5) hs (by decide) (by decide +kernel)) (Nat.le_of_ble_eq_true rfl) (Nat.le_of_ble_eq_true rfl) rfl (r_X6_addRow s hs (μ7 (t + 2) (μ 21 v3.toNat).toNat) (bR_L (bO_i hk8 (bTree_e ht 2 (by decide))))) fun w9 μ10 hw9 => bD.ok fun hk11 => b_pc (pc' := 43) rfl ?_
    refine b_s (pc' := 44) (lv1 := [(0, .ref t), (1, .ref 13), (2, .ref s), (3, bI v3), (4, bI (μ 21 v3.toNat))]) (st' := [.ref s]) l89_43 (fun _ => rfl) ?_
    refine b_s (pc' := 45) (lv1 := [(0, .ref t), (1, .ref 13), (2, .ref s), (3, bI v3), (4, bI (μ 21 v3.toNat))]) (st' := [.ref t, .ref s]) l89_44 (fun _ => rfl) ?_
    refine b_gp (q' := (t + 6)) (j := 6) l89_45 ht (by decide) (by decide) rfl hk11 rfl rfl (b_pc (pc' := 48) rfl ?_)
    refine b_s (pc' := 50) (lv1 := [(0, .ref t), (1, .ref 13), (2, .ref s), (3, bI v3), (4, bI (μ 21 v3.toNat))]) (st' := [bI (μ 21 v3.toNat), .ref (t + 6), .ref s]) l89_48 (fun _ => rfl) ?_
    refine b_g fun g19 => ?_
    refine b_ial l89_50 (bTree_e ht 6 (by decide)) g19 (b_pc (pc' := 51) rfl ?_)
    refine b_zle (pt := 58) l89_51 (bO_i hk11 (bTree_e ht 6 (by decide))) (by decide) rfl (fun c12 => ?_) (fun c12 => b_pc (pc' := 54) rfl ?_)
    · refine b_s (pc' := 59) (lv1 := [(0, .ref t), (1, .ref 13), (2, .ref s), (3, bI v3), (4, bI (μ 21 v3.toNat))]) (st' := [bI 0, .ref s]) l89_58 (fun _ => rfl) ?_
      refine b_cMv l89_59 rfl (b_rc (ci := 5) hs (by decide) (by decide +kernel)) (Nat.le_of_ble_eq_true rfl) (Nat.le_of_ble_eq_true rfl) rfl (r_X6_add s hs 0 (by decide)) fun w13 μ14 hw13 => bD.ok fun hk15 => b_pc (pc' := 62) rfl ?_
      refine b_s (pc' := 63) (lv1 := [(0, .ref t), (1, .ref 13), (2, .ref s), (3, bI v3), (4, bI (μ 21 v3.toNat))]) (st' := [bI 0]) l89_62 (fun _ => rfl) ?_
      refine b_w (pc' := 65) (lv1 := ax_st1 [(0, .ref t), (1, .ref 13), (2, .ref s), (3, bI v3), (4, bI (μ 21 v3.toNat))] 5 (bI 0)) (lv' := [(0, .ref t), (1, .ref 13), (2, .ref s), (3, bI v3), (4, bI (μ 21 v3.toNat)), (5, bI 0)]) (st' := []) l89_63 (fun _ => rfl) (bSb rfl (bSb rfl (bSb rfl (bSb rfl (bSb rfl (bSb rfl bSn)))))) ?_
      refine bD.wk (lv' := [(0, .ref t), (1, .ref 13), (2, .ref s), (3, bI v3), (4, bI (μ 21 v3.toNat)), (5, bI 0)]) (bSb rfl (bSb rfl (bSb rfl (bSb rfl (bSb rfl (bSb rfl bSn)))))) ?_
      exact p_X9_writeShapes_65 hr H7 ht hs h3 (bO_i hk (by rfl)) (by decide)
    · refine b_s (pc' := 55) (lv1 := [(0, .ref t), (1, .ref 13), (2, .ref s), (3, bI v3), (4, bI (μ 21 v3.toNat))]) (st' := [bI 1, .ref s]) l89_54 (fun _ => rfl) ?_
      refine b_s (pc' := 59) (lv1 := [(0, .ref t), (1, .ref 13), (2, .ref s), (3, bI v3), (4, bI (μ 21 v3.toNat))]) (st' := [bI 1, .ref s]) l89_55 (fun _ => rfl) ?_
      refine b_cMv l89_59 rfl (b_rc (ci := 5) hs (by decide) (by decide +kernel)) (Nat.le_of_ble_eq_true rfl) (Nat.le_of_ble_eq_true rfl) rfl (r_X6_add s hs 1 (by decide)) fun w16 μ17 hw16 => bD.ok fun hk18 => b_pc (pc' := 62) rfl ?_
      refine b_s (pc' := 63) (lv1 := [(0, .ref t), (1, .ref 13), (2, .ref s), (3, bI v3), (4, bI (μ 21 v3.toNat))]) (st' := [bI 0]) l89_62 (fun _ => rfl) ?_
      refine b_w (pc' := 65) (lv1 := ax_st1 [(0, .ref t), (1, .ref 13), (2, .ref s), (3, bI v3), (4, bI (μ 21 v3.toNat))] 5 (bI 0)) (lv' := [(0, .ref t), (1, .ref 13), (2, .ref s), (3, bI v3), (4, bI (μ 21 v3.toNat)), (5, bI 0)]) (st' := []) l89_63 (fun _ => rfl) (bSb rfl (bSb rfl (bSb rfl (bSb rfl (bSb rfl (bSb rfl bSn)))))) ?_
      refine bD.wk (lv' := [(0, .ref t), (1, .ref 13), (2, .ref s), (3, bI v3), (4, bI (μ 21 v3.toNat)), (5, bI 0)]) (bSb rfl (bSb rfl (bSb rfl (bSb rfl (bSb rfl (bSb rfl bSn)))))) ?_
      exact p_X9_writeShapes_65 hr H7 ht hs h3 (bO_i hk (by rfl)) (by decide)
theorem p_X9_writeShapes_7 {L : Nat} {xs : Nat → Int32} {d : Nat} {μ : bM} {t : Nat} {s : Nat} {κ : (Int × bM) → Option bX} (hr : ∀ r : Int × bM, κ r = (bMc) r) (ht : bTree t) (hs : bStore s) {v3 : Int} (h3 : bR v3) : bD L xs (d + 3) 89 7 [(0, .ref t), (1, .ref 13), (2, .ref s), (3, bI v3)] [] μ ((bLoop (fun z => F_X9_writeShapes_7 t s z.1 z.2) (v3, μ)).bind κ) :=
  b_loop (fun z => [(0, .ref t), (1, .ref 13), (2, .ref s), (3, bI z.1)]) (fun z => z.2) (fun z => bR z.1) (fun κ' hκ HH z hz => q_X9_writeShapes_7 (κ := κ') (fun r => (hκ _).trans (hr r)) (fun a3 am b3 => HH (a3, am) b3) ht hs hz) (v3, μ) h3
theorem r_X9_writeShapes {L : Nat} {xs : Nat → Int32} {d : Nat} {μ : bM} (t : Nat) (ht : bTree t) (s : Nat) (hs : bStore s)  : bD L xs (d + 3) 89 0 [(0, .ref t), (1, .ref 13), (2, .ref s)] [] μ ((F_X9_writeShapes t s μ).bind (bMc)) := by
  have hr : ∀ r, (bMc) r = (bMc) r := fun _ => rfl
  unfold F_X9_writeShapes
  refine bD.ok fun hk => ?_
  refine b_s (pc' := 1) (lv1 := [(0, .ref t), (1, .ref 13), (2, .ref s)]) (st' := [.ref s]) l89_0 (fun _ => rfl) ?_
  refine b_s (pc' := 2) (lv1 := [(0, .ref t), (1, .ref 13), (2, .ref s)]) (st' := [bI 0, .ref s]) l89_1 (fun _ => rfl) ?_
  refine b_cMv l89_2 rfl (b_rc (ci := 5) hs (by decide) (by decide +kernel)) (Nat.le_of_ble_eq_true rfl) (Nat.le_of_ble_eq_true rfl) rfl (r_X6_cut s hs 0 (by decide)) fun w1 μ2 hw1 => bD.ok fun hk3 => b_pc (pc' := 5) rfl ?_
  refine b_s (pc' := 6) (lv1 := [(0, .ref t), (1, .ref 13), (2, .ref s)]) (st' := [bI 0]) l89_5 (fun _ => rfl) ?_
  refine b_w (pc' := 7) (lv1 := ax_st1 [(0, .ref t), (1, .ref 13), (2, .ref s)] 3 (bI 0)) (lv' := [(0, .ref t), (1, .ref 13), (2, .ref s), (3, bI 0)]) (st' := []) l89_6 (fun _ => rfl) (bSb rfl (bSb rfl (bSb rfl (bSb rfl bSn)))) ?_
  refine bD.wk (lv' := [(0, .ref t), (1, .ref 13), (2, .ref s), (3, bI 0)]) (bSb rfl (bSb rfl (bSb rfl (bSb rfl bSn)))) ?_
  exact p_X9_writeShapes_7 hr ht hs (by decide)
/-! ET$Writer.writeTexts -/
theorem l90_0 : (ax_dt (ax_T 90)).lookup 0 = some (.aload_n 3, 1, 0, 0, 0) := by decide +kernel
theorem l90_1 : (ax_dt (ax_T 90)).lookup 1 = some (.iconst 0, 1, 0, 0, 0) := by decide +kernel
theorem l90_2 : (ax_dt (ax_T 90)).lookup 2 = some (.invokevirtual 9, 3, 57, 1, 0) := by decide +kernel
theorem l90_5 : (ax_dt (ax_T 90)).lookup 5 = some (.iconst 0, 1, 0, 0, 0) := by decide +kernel
theorem l90_6 : (ax_dt (ax_T 90)).lookup 6 = some (.istore 4, 2, 0, 0, 0) := by decide +kernel
theorem l90_8 : (ax_dt (ax_T 90)).lookup 8 = some (.iload 4, 2, 0, 0, 0) := by decide +kernel
theorem l90_10 : (ax_dt (ax_T 90)).lookup 10 = some (.aload_n 2, 1, 0, 0, 0) := by decide +kernel
theorem l90_11 : (ax_dt (ax_T 90)).lookup 11 = some (.getfield 115, 3, 2, 1, 0) := by decide +kernel
theorem l90_14 : (ax_dt (ax_T 90)).lookup 14 = some (.if_icmp .ge 41, 3, 0, 0, 0) := by decide +kernel
theorem l90_17 : (ax_dt (ax_T 90)).lookup 17 = some (.aload_n 2, 1, 0, 0, 0) := by decide +kernel
theorem l90_18 : (ax_dt (ax_T 90)).lookup 18 = some (.getfield 118, 3, 2, 16, 0) := by decide +kernel
theorem l90_21 : (ax_dt (ax_T 90)).lookup 21 = some (.iload 4, 2, 0, 0, 0) := by decide +kernel
theorem l90_23 : (ax_dt (ax_T 90)).lookup 23 = some (.iaload, 1, 0, 0, 0) := by decide +kernel
theorem l90_24 : (ax_dt (ax_T 90)).lookup 24 = some (.istore 5, 2, 0, 0, 0) := by decide +kernel
theorem l90_26 : (ax_dt (ax_T 90)).lookup 26 = some (.aload_n 3, 1, 0, 0, 0) := by decide +kernel
theorem l90_27 : (ax_dt (ax_T 90)).lookup 27 = some (.aload_n 1, 1, 0, 0, 0) := by decide +kernel
theorem l90_28 : (ax_dt (ax_T 90)).lookup 28 = some (.aload_n 0, 1, 0, 0, 0) := by decide +kernel
theorem l90_29 : (ax_dt (ax_T 90)).lookup 29 = some (.iload 5, 2, 0, 0, 0) := by decide +kernel
theorem l90_31 : (ax_dt (ax_T 90)).lookup 31 = some (.invokevirtual 78, 3, 84, 1, 0) := by decide +kernel
theorem l90_34 : (ax_dt (ax_T 90)).lookup 34 = some (.aload_n 0, 1, 0, 0, 0) := by decide +kernel
theorem l90_35 : (ax_dt (ax_T 90)).lookup 35 = some (.getfield 82, 3, 7, 15, 0) := by decide +kernel
theorem l90_38 : (ax_dt (ax_T 90)).lookup 38 = some (.iload 5, 2, 0, 0, 0) := by decide +kernel
theorem l90_40 : (ax_dt (ax_T 90)).lookup 40 = some (.iaload, 1, 0, 0, 0) := by decide +kernel
theorem l90_41 : (ax_dt (ax_T 90)).lookup 41 = some (.invokevirtual 85, 3, 64, 3, 0) := by decide +kernel
theorem l90_44 : (ax_dt (ax_T 90)).lookup 44 = some (.aload_n 3, 1, 0, 0, 0) := by decide +kernel
theorem l90_45 : (ax_dt (ax_T 90)).lookup 45 = some (.iconst 0, 1, 0, 0, 0) := by decide +kernel
theorem l90_46 : (ax_dt (ax_T 90)).lookup 46 = some (.invokevirtual 33, 3, 58, 1, 0) := by decide +kernel
theorem l90_49 : (ax_dt (ax_T 90)).lookup 49 = some (.iinc 4 1, 3, 0, 0, 0) := by decide +kernel
theorem l90_52 : (ax_dt (ax_T 90)).lookup 52 = some (.goto (-44), 3, 0, 0, 0) := by decide +kernel
theorem l90_55 : (ax_dt (ax_T 90)).lookup 55 = some (.return_, 1, 0, 0, 0) := by decide +kernel
noncomputable def F_X9_writeTexts_8 (t : Nat) (s : Nat) (s2 : Nat) (v4 : Int) (μ : bM) : Option ((Int × bM) ⊕ (Int × bM)) := if (μ 13 1) ≤ v4 then some (.inr (0, μ)) else bG (0 ≤ v4 ∧ v4 < 3200) ((F_X8_start t (μ 23 v4.toNat) μ).bind fun w2 => bG (0 ≤ (μ 23 v4.toNat) ∧ (μ 23 v4.toNat) < 3200) (bMm (F_X6_addFrom s2 s w2 (μ (t + 14) (μ 23 v4.toNat).toNat) μ) (fun w3 μ4 => bMm (F_X6_add s2 0 μ4) (fun w6 μ7 => bG (bR (v4 + 1)) (some (.inl ((v4 + 1), μ7)))))))
noncomputable def F_X9_writeTexts (t : Nat) (s : Nat) (s2 : Nat) (μ : bM) : Option (Int × bM) := bMm (F_X6_cut s2 0 μ) (fun w1 μ2 => bLoop (fun z => F_X9_writeTexts_8 t s s2 z.1 z.2) (0, μ2))
theorem q_X9_writeTexts_8 {L : Nat} {xs : Nat → Int32} {d : Nat} {μ : bM} {t : Nat} {s : Nat} {s2 : Nat} {κ : ((Int × bM) ⊕ (Int × bM)) → Option bX} (hr : ∀ r : Int × bM, κ (.inr r) = (bMc) r) (H8 : ∀ (v4 : Int) (μ : bM), bR v4 → bD L xs (d + 2) 90 8 [(0, .ref t), (1, .ref s), (2, .ref 13), (3, .ref s2), (4, bI v4)] [] μ (κ (.inl (v4, μ)))) (ht : bTree t) (hs : bStore s) (hs2 : bStore s2) {v4 : Int} (h4 : bR v4) : bD L xs (d + 2) 90 8 [(0, .ref t), (1, .ref s), (2, .ref 13), (3, .ref s2), (4, bI v4)] [] μ ((F_X9_writeTexts_8 t s s2 v4 μ).bind κ) := by
  unfold F_X9_writeTexts_8
  refine bD.ok fun hk => ?_
  refine b_s (pc' := 10) (lv1 := [(0, .ref t), (1, .ref s), (2, .ref 13), (3, .ref s2), (4, bI v4)]) (st' := [bI v4]) l90_8 (fun _ => rfl) ?_
  refine b_s (pc' := 11) (lv1 := [(0, .ref t), (1, .ref s), (2, .ref 13), (3, .ref s2), (4, bI v4)]) (st' := [.ref 13, bI v4]) l90_10 (fun _ => rfl) ?_
  refine b_gi l90_11 (by rfl) (by decide) (by decide) rfl (b_pc (pc' := 14) rfl ?_)
  refine b_ige (pt := 55) l90_14 h4 (bO_f hk (ci := 2) (by rfl) rfl) (by decide) rfl (fun c1 => ?_) (fun c1 => b_pc (pc' := 17) rfl ?_)
  · exact b_retv l90_55 rfl (hr _)
  · refine b_s (pc' := 18) (lv1 := [(0, .ref t), (1, .ref s), (2, .ref 13), (3, .ref s2), (4, bI v4)]) (st' := [.ref 13]) l90_17 (fun _ => rfl) ?_
    refine b_gp (q' := 23) (j := 10) l90_18 (by rfl) (by decide) (by decide) rfl hk rfl rfl (b_pc (pc' := 21) rfl ?_)
    refine b_s (pc' := 23) (lv1 := [(0, .ref t), (1, .ref s), (2, .ref 13), (3, .ref s2), (4, bI v4)]) (st' := [bI v4, .ref 23]) l90_21 (fun _ => rfl) ?_
    refine b_g fun g11 => ?_
    refine b_ial l90_23 (by rfl) g11 (b_pc (pc' := 24) rfl ?_)
    refine b_w (pc' := 26) (lv1 := ax_st1 [(0, .ref t), (1, .ref s), (2, .ref 13), (3, .ref s2), (4, bI v4)] 5 (bI (μ 23 v4.toNat))) (lv' := [(0, .ref t), (1, .ref s), (2, .ref 13), (3, .ref s2), (4, bI v4), (5, bI (μ 23 v4.toNat))]) (st' := []) l90_24 (fun _ => rfl) (bSb rfl (bSb rfl (bSb rfl (bSb rfl (bSb rfl (bSb rfl bSn)))))) ?_
    refine b_s (pc' := 27) (lv1 := [(0, .ref t), (1, .ref s), (2, .ref 13), (3, .ref s2), (4, bI v4), (5, bI (μ 23 v4.toNat))]) (st' := [.ref s2]) l90_26 (fun _ => rfl) ?_
    refine b_s (pc' := 28) (lv1 := [(0, .ref t), (1, .ref s), (2, .ref 13), (3, .ref s2), (4, bI v4), (5, bI (μ 23 v4.toNat))]) (st' := [.ref s, .ref s2]) l90_27 (fun _ => rfl) ?_
    refine b_s (pc' := 29) (lv1 := [(0, .ref t), (1, .ref s), (2, .ref 13), (3, .ref s2), (4, bI v4), (5, bI (μ 23 v4.toNat))]) (st' := [.ref t, .ref s, .ref s2]) l90_28 (fun _ => rfl) ?_
    refine b_s (pc' := 31) (lv1 := [(0, .ref t), (1, .ref s), (2, .ref 13), (3, .ref s2), (4, bI v4), (5, bI (μ 23 v4.toNat))]) (st' := [bI (μ 23 v4.toNat), .ref t, .ref s, .ref s2]) l90_29 (fun _ => rfl) ?_
    refine b_cPi l90_31 rfl (b_rc (ci := 7) ht (by decide) (by decide +kernel)) (Nat.le_of_ble_eq_true rfl) (Nat.le_of_ble_eq_true rfl) rfl (r_X8_start t ht (μ 23 v4.toNat) (bO_i hk (by rfl))) fun w2 hw2 => b_pc (pc' := 34) rfl ?_
    refine b_s (pc' := 35) (lv1 := [(0, .ref t), (1, .ref s), (2, .ref 13), (3, .ref s2), (4, bI v4), (5, bI (μ 23 v4.toNat))]) (st' := [.ref t, bI w2, .ref s, .ref s2]) l90_34 (fun _ => rfl) ?_
    refine b_gp (q' := (t + 14)) (j := 14) l90_35 ht (by decide) (by decide) rfl hk rfl rfl (b_pc (pc' := 38) rfl ?_)
    refine b_s (pc' := 40) (lv1 := [(0, .ref t), (1, .ref s), (2, .ref 13), (3, .ref s2), (4, bI v4), (5, bI (μ 23 v4.toNat))]) (st' := [bI (μ 23 v4.toNat), .ref (t + 14), bI w2, .ref s, .ref s2]) l90_38 (fun _ => rfl) ?_
    refine b_g fun g10 => ?_
    refine b_ial l90_40 (bTree_l ht) g10 (b_pc (pc' := 41) rfl ?_)
    refine b_cMv l90_41 rfl (b_rc (ci := 5) hs2 (by decide) (by decide +kernel)) (Nat.le_of_ble_eq_true rfl) (Nat.le_of_ble_eq_true rfl) rfl (r_X6_addFrom s2 hs2 s hs w2 hw2 (μ (t + 14) (μ 23 v4.toNat).toNat) (bO_i hk (bTree_l ht))) fun w3 μ4 hw3 => bD.ok fun hk5 => b_pc (pc' := 44) rfl ?_
    refine b_s (pc' := 45) (lv1 := [(0, .ref t), (1, .ref s), (2, .ref 13), (3, .ref s2), (4, bI v4), (5, bI (μ 23 v4.toNat))]) (st' := [.ref s2]) l90_44 (fun _ => rfl) ?_
    refine b_s (pc' := 46) (lv1 := [(0, .ref t), (1, .ref s), (2, .ref 13), (3, .ref s2), (4, bI v4), (5, bI (μ 23 v4.toNat))]) (st' := [bI 0, .ref s2]) l90_45 (fun _ => rfl) ?_
    refine b_cMv l90_46 rfl (b_rc (ci := 5) hs2 (by decide) (by decide +kernel)) (Nat.le_of_ble_eq_true rfl) (Nat.le_of_ble_eq_true rfl) rfl (r_X6_add s2 hs2 0 (by decide)) fun w6 μ7 hw6 => bD.ok fun hk8 => b_pc (pc' := 49) rfl ?_
    refine b_inc (lv' := [(0, .ref t), (1, .ref s), (2, .ref 13), (3, .ref s2), (4, bI (v4 + 1))]) l90_49 rfl (by decide +kernel) (bSb rfl (bSb rfl (bSb rfl (bSb rfl (bSb rfl bSn))))) fun g9 => (b_pc (pc' := 52) rfl ?_)
    refine b_s (pc' := 8) (lv1 := [(0, .ref t), (1, .ref s), (2, .ref 13), (3, .ref s2), (4, bI (v4 + 1))]) (st' := []) l90_52 (fun _ => rfl) ?_
    refine bD.wk (lv' := [(0, .ref t), (1, .ref s), (2, .ref 13), (3, .ref s2), (4, bI (v4 + 1))]) (bSb rfl (bSb rfl (bSb rfl (bSb rfl (bSb rfl bSn))))) ?_
    exact H8 (v4 + 1) μ7 g9
theorem p_X9_writeTexts_8 {L : Nat} {xs : Nat → Int32} {d : Nat} {μ : bM} {t : Nat} {s : Nat} {s2 : Nat} {κ : (Int × bM) → Option bX} (hr : ∀ r : Int × bM, κ r = (bMc) r) (ht : bTree t) (hs : bStore s) (hs2 : bStore s2) {v4 : Int} (h4 : bR v4) : bD L xs (d + 2) 90 8 [(0, .ref t), (1, .ref s), (2, .ref 13), (3, .ref s2), (4, bI v4)] [] μ ((bLoop (fun z => F_X9_writeTexts_8 t s s2 z.1 z.2) (v4, μ)).bind κ) :=
  b_loop (fun z => [(0, .ref t), (1, .ref s), (2, .ref 13), (3, .ref s2), (4, bI z.1)]) (fun z => z.2) (fun z => bR z.1) (fun κ' hκ HH z hz => q_X9_writeTexts_8 (κ := κ') (fun r => (hκ _).trans (hr r)) (fun a4 am b4 => HH (a4, am) b4) ht hs hs2 hz) (v4, μ) h4
theorem r_X9_writeTexts {L : Nat} {xs : Nat → Int32} {d : Nat} {μ : bM} (t : Nat) (ht : bTree t) (s : Nat) (hs : bStore s) (s2 : Nat) (hs2 : bStore s2)  : bD L xs (d + 2) 90 0 [(0, .ref t), (1, .ref s), (2, .ref 13), (3, .ref s2)] [] μ ((F_X9_writeTexts t s s2 μ).bind (bMc)) := by
  have hr : ∀ r, (bMc) r = (bMc) r := fun _ => rfl
  unfold F_X9_writeTexts
  refine bD.ok fun hk => ?_
  refine b_s (pc' := 1) (lv1 := [(0, .ref t), (1, .ref s), (2, .ref 13), (3, .ref s2)]) (st' := [.ref s2]) l90_0 (fun _ => rfl) ?_
  refine b_s (pc' := 2) (lv1 := [(0, .ref t), (1, .ref s), (2, .ref 13), (3, .ref s2)]) (st' := [bI 0, .ref s2]) l90_1 (fun _ => rfl) ?_
  refine b_cMv l90_2 rfl (b_rc (ci := 5) hs2 (by decide) (by decide +kernel)) (Nat.le_of_ble_eq_true rfl) (Nat.le_of_ble_eq_true rfl) rfl (r_X6_cut s2 hs2 0 (by decide)) fun w1 μ2 hw1 => bD.ok fun hk3 => b_pc (pc' := 5) rfl ?_
  refine b_s (pc' := 6) (lv1 := [(0, .ref t), (1, .ref s), (2, .ref 13), (3, .ref s2)]) (st' := [bI 0]) l90_5 (fun _ => rfl) ?_
  refine b_w (pc' := 8) (lv1 := ax_st1 [(0, .ref t), (1, .ref s), (2, .ref 13), (3, .ref s2)] 4 (bI 0)) (lv' := [(0, .ref t), (1, .ref s), (2, .ref 13), (3, .ref s2), (4, bI 0)]) (st' := []) l90_6 (fun _ => rfl) (bSb rfl (bSb rfl (bSb rfl (bSb rfl (bSb rfl bSn))))) ?_
  refine bD.wk (lv' := [(0, .ref t), (1, .ref s), (2, .ref 13), (3, .ref s2), (4, bI 0)]) (bSb rfl (bSb rfl (bSb rfl (bSb rfl (bSb rfl bSn))))) ?_
  exact p_X9_writeTexts_8 hr ht hs hs2 (by decide)
end
