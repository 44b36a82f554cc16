section
/-! ET$Writer.writeValue -/
theorem l89_0 : (ax_dt (ax_T 89)).lookup 0 = some (.aload_n 0, 1, 0, 0, 0) := by decide +kernel
theorem l89_1 : (ax_dt (ax_T 89)).lookup 1 = some (.getfield 68, 3, 7, 14, 0) := by decide +kernel
theorem l89_4 : (ax_dt (ax_T 89)).lookup 4 = some (.iload 4, 2, 0, 0, 0) := by decide +kernel
theorem l89_6 : (ax_dt (ax_T 89)).lookup 6 = some (.laload, 1, 0, 0, 0) := by decide +kernel
theorem l89_7 : (ax_dt (ax_T 89)).lookup 7 = some (.lstore 5, 2, 0, 0, 0) := by decide +kernel
theorem l89_9 : (ax_dt (ax_T 89)).lookup 9 = some (.aload_n 0, 1, 0, 0, 0) := by decide +kernel
theorem l89_10 : (ax_dt (ax_T 89)).lookup 10 = some (.getfield 72, 3, 7, 13, 0) := by decide +kernel
theorem l89_13 : (ax_dt (ax_T 89)).lookup 13 = some (.iload 4, 2, 0, 0, 0) := by decide +kernel
theorem l89_15 : (ax_dt (ax_T 89)).lookup 15 = some (.iaload, 1, 0, 0, 0) := by decide +kernel
theorem l89_16 : (ax_dt (ax_T 89)).lookup 16 = some (.istore 7, 2, 0, 0, 0) := by decide +kernel
theorem l89_18 : (ax_dt (ax_T 89)).lookup 18 = some (.iload 7, 2, 0, 0, 0) := by decide +kernel
theorem l89_20 : (ax_dt (ax_T 89)).lookup 20 = some (.tableswitch 197 8 21 #[90, 197, 116, 197, 197, 72, 148, 81, 197, 197, 197, 164, 197, 181], 72, 0, 0, 0) := by decide +kernel
theorem l89_92 : (ax_dt (ax_T 89)).lookup 92 = some (.aload_n 3, 1, 0, 0, 0) := by decide +kernel
theorem l89_93 : (ax_dt (ax_T 89)).lookup 93 = some (.lload 5, 2, 0, 0, 0) := by decide +kernel
theorem l89_95 : (ax_dt (ax_T 89)).lookup 95 = some (.invokevirtual 75, 3, 63, 1, 0) := by decide +kernel
theorem l89_98 : (ax_dt (ax_T 89)).lookup 98 = some (.goto 130, 3, 0, 0, 0) := by decide +kernel
theorem l89_101 : (ax_dt (ax_T 89)).lookup 101 = some (.aload_n 3, 1, 0, 0, 0) := by decide +kernel
theorem l89_102 : (ax_dt (ax_T 89)).lookup 102 = some (.lload 5, 2, 0, 0, 0) := by decide +kernel
theorem l89_104 : (ax_dt (ax_T 89)).lookup 104 = some (.invokevirtual 51, 3, 62, 1, 0) := by decide +kernel
theorem l89_107 : (ax_dt (ax_T 89)).lookup 107 = some (.goto 121, 3, 0, 0, 0) := by decide +kernel
theorem l89_110 : (ax_dt (ax_T 89)).lookup 110 = some (.aload_n 3, 1, 0, 0, 0) := by decide +kernel
theorem l89_111 : (ax_dt (ax_T 89)).lookup 111 = some (.aload_n 1, 1, 0, 0, 0) := by decide +kernel
theorem l89_112 : (ax_dt (ax_T 89)).lookup 112 = some (.aload_n 0, 1, 0, 0, 0) := by decide +kernel
theorem l89_113 : (ax_dt (ax_T 89)).lookup 113 = some (.iload 4, 2, 0, 0, 0) := by decide +kernel
theorem l89_115 : (ax_dt (ax_T 89)).lookup 115 = some (.invokevirtual 78, 3, 85, 1, 0) := by decide +kernel
theorem l89_118 : (ax_dt (ax_T 89)).lookup 118 = some (.aload_n 0, 1, 0, 0, 0) := by decide +kernel
theorem l89_119 : (ax_dt (ax_T 89)).lookup 119 = some (.getfield 82, 3, 7, 15, 0) := by decide +kernel
theorem l89_122 : (ax_dt (ax_T 89)).lookup 122 = some (.iload 4, 2, 0, 0, 0) := by decide +kernel
theorem l89_124 : (ax_dt (ax_T 89)).lookup 124 = some (.iaload, 1, 0, 0, 0) := by decide +kernel
theorem l89_125 : (ax_dt (ax_T 89)).lookup 125 = some (.invokevirtual 85, 3, 65, 3, 0) := by decide +kernel
theorem l89_128 : (ax_dt (ax_T 89)).lookup 128 = some (.aload_n 3, 1, 0, 0, 0) := by decide +kernel
theorem l89_129 : (ax_dt (ax_T 89)).lookup 129 = some (.iconst 0, 1, 0, 0, 0) := by decide +kernel
theorem l89_130 : (ax_dt (ax_T 89)).lookup 130 = some (.invokevirtual 33, 3, 59, 1, 0) := by decide +kernel
theorem l89_133 : (ax_dt (ax_T 89)).lookup 133 = some (.goto 95, 3, 0, 0, 0) := by decide +kernel
theorem l89_136 : (ax_dt (ax_T 89)).lookup 136 = some (.aload_n 3, 1, 0, 0, 0) := by decide +kernel
theorem l89_137 : (ax_dt (ax_T 89)).lookup 137 = some (.aload_n 0, 1, 0, 0, 0) := by decide +kernel
theorem l89_138 : (ax_dt (ax_T 89)).lookup 138 = some (.getfield 82, 3, 7, 15, 0) := by decide +kernel
theorem l89_141 : (ax_dt (ax_T 89)).lookup 141 = some (.iload 4, 2, 0, 0, 0) := by decide +kernel
theorem l89_143 : (ax_dt (ax_T 89)).lookup 143 = some (.iaload, 1, 0, 0, 0) := by decide +kernel
theorem l89_144 : (ax_dt (ax_T 89)).lookup 144 = some (.invokevirtual 33, 3, 59, 1, 0) := by decide +kernel
theorem l89_147 : (ax_dt (ax_T 89)).lookup 147 = some (.aload_n 3, 1, 0, 0, 0) := by decide +kernel
theorem l89_148 : (ax_dt (ax_T 89)).lookup 148 = some (.aload_n 1, 1, 0, 0, 0) := by decide +kernel
theorem l89_149 : (ax_dt (ax_T 89)).lookup 149 = some (.aload_n 0, 1, 0, 0, 0) := by decide +kernel
theorem l89_150 : (ax_dt (ax_T 89)).lookup 150 = some (.iload 4, 2, 0, 0, 0) := by decide +kernel
theorem l89_152 : (ax_dt (ax_T 89)).lookup 152 = some (.invokevirtual 78, 3, 85, 1, 0) := by decide +kernel
theorem l89_155 : (ax_dt (ax_T 89)).lookup 155 = some (.aload_n 0, 1, 0, 0, 0) := by decide +kernel
theorem l89_156 : (ax_dt (ax_T 89)).lookup 156 = some (.getfield 82, 3, 7, 15, 0) := by decide +kernel
theorem l89_159 : (ax_dt (ax_T 89)).lookup 159 = some (.iload 4, 2, 0, 0, 0) := by decide +kernel
theorem l89_161 : (ax_dt (ax_T 89)).lookup 161 = some (.iaload, 1, 0, 0, 0) := by decide +kernel
theorem l89_162 : (ax_dt (ax_T 89)).lookup 162 = some (.invokevirtual 85, 3, 65, 3, 0) := by decide +kernel
theorem l89_165 : (ax_dt (ax_T 89)).lookup 165 = some (.goto 63, 3, 0, 0, 0) := by decide +kernel
theorem l89_168 : (ax_dt (ax_T 89)).lookup 168 = some (.aload_n 3, 1, 0, 0, 0) := by decide +kernel
theorem l89_169 : (ax_dt (ax_T 89)).lookup 169 = some (.aload_n 2, 1, 0, 0, 0) := by decide +kernel
theorem l89_170 : (ax_dt (ax_T 89)).lookup 170 = some (.getfield 89, 3, 2, 15, 0) := by decide +kernel
theorem l89_173 : (ax_dt (ax_T 89)).lookup 173 = some (.iload 4, 2, 0, 0, 0) := by decide +kernel
theorem l89_175 : (ax_dt (ax_T 89)).lookup 175 = some (.iaload, 1, 0, 0, 0) := by decide +kernel
theorem l89_176 : (ax_dt (ax_T 89)).lookup 176 = some (.i2l, 1, 0, 0, 0) := by decide +kernel
theorem l89_177 : (ax_dt (ax_T 89)).lookup 177 = some (.iconst 4, 1, 0, 0, 0) := by decide +kernel
theorem l89_178 : (ax_dt (ax_T 89)).lookup 178 = some (.invokevirtual 27, 3, 61, 2, 0) := by decide +kernel
theorem l89_181 : (ax_dt (ax_T 89)).lookup 181 = some (.goto 47, 3, 0, 0, 0) := by decide +kernel
theorem l89_184 : (ax_dt (ax_T 89)).lookup 184 = some (.aload_n 3, 1, 0, 0, 0) := by decide +kernel
theorem l89_185 : (ax_dt (ax_T 89)).lookup 185 = some (.aload_n 2, 1, 0, 0, 0) := by decide +kernel
theorem l89_186 : (ax_dt (ax_T 89)).lookup 186 = some (.getfield 92, 3, 2, 12, 0) := by decide +kernel
theorem l89_189 : (ax_dt (ax_T 89)).lookup 189 = some (.lload 5, 2, 0, 0, 0) := by decide +kernel
theorem l89_191 : (ax_dt (ax_T 89)).lookup 191 = some (.l2i, 1, 0, 0, 0) := by decide +kernel
theorem l89_192 : (ax_dt (ax_T 89)).lookup 192 = some (.iaload, 1, 0, 0, 0) := by decide +kernel
theorem l89_193 : (ax_dt (ax_T 89)).lookup 193 = some (.i2l, 1, 0, 0, 0) := by decide +kernel
theorem l89_194 : (ax_dt (ax_T 89)).lookup 194 = some (.iconst 4, 1, 0, 0, 0) := by decide +kernel
theorem l89_195 : (ax_dt (ax_T 89)).lookup 195 = some (.invokevirtual 27, 3, 61, 2, 0) := by decide +kernel
theorem l89_198 : (ax_dt (ax_T 89)).lookup 198 = some (.goto 30, 3, 0, 0, 0) := by decide +kernel
theorem l89_201 : (ax_dt (ax_T 89)).lookup 201 = some (.aload_n 3, 1, 0, 0, 0) := by decide +kernel
theorem l89_202 : (ax_dt (ax_T 89)).lookup 202 = some (.aload_n 2, 1, 0, 0, 0) := by decide +kernel
theorem l89_203 : (ax_dt (ax_T 89)).lookup 203 = some (.getfield 92, 3, 2, 12, 0) := by decide +kernel
theorem l89_206 : (ax_dt (ax_T 89)).lookup 206 = some (.lload 5, 2, 0, 0, 0) := by decide +kernel
theorem l89_208 : (ax_dt (ax_T 89)).lookup 208 = some (.l2i, 1, 0, 0, 0) := by decide +kernel
theorem l89_209 : (ax_dt (ax_T 89)).lookup 209 = some (.iaload, 1, 0, 0, 0) := by decide +kernel
theorem l89_210 : (ax_dt (ax_T 89)).lookup 210 = some (.i2l, 1, 0, 0, 0) := by decide +kernel
theorem l89_211 : (ax_dt (ax_T 89)).lookup 211 = some (.invokevirtual 51, 3, 62, 1, 0) := by decide +kernel
theorem l89_214 : (ax_dt (ax_T 89)).lookup 214 = some (.goto 14, 3, 0, 0, 0) := by decide +kernel
theorem l89_217 : (ax_dt (ax_T 89)).lookup 217 = some (.aload_n 3, 1, 0, 0, 0) := by decide +kernel
theorem l89_218 : (ax_dt (ax_T 89)).lookup 218 = some (.lload 5, 2, 0, 0, 0) := by decide +kernel
theorem l89_220 : (ax_dt (ax_T 89)).lookup 220 = some (.iload 7, 2, 0, 0, 0) := by decide +kernel
theorem l89_222 : (ax_dt (ax_T 89)).lookup 222 = some (.invokestatic 95, 3, 21, 1, 0) := by decide +kernel
theorem l89_225 : (ax_dt (ax_T 89)).lookup 225 = some (.invokevirtual 27, 3, 61, 2, 0) := by decide +kernel
theorem l89_228 : (ax_dt (ax_T 89)).lookup 228 = some (.return_, 1, 0, 0, 0) := by decide +kernel
noncomputable def F_X9_writeValue (t : Nat) (s : Nat) (s2 : Nat) (v4 : Int) (μ : bM) : Option (Int × bM) := bG (0 ≤ v4 ∧ v4 < 3200) (bG (0 ≤ v4 ∧ v4 < 3200) (if (μ (t + 12) v4.toNat) = 8 then (F_X8_start t v4 μ).bind fun w1 => bG (0 ≤ v4 ∧ v4 < 3200) (bMm (F_X6_addFrom s2 s w1 (μ (t + 14) v4.toNat) μ) (fun w2 μ3 => bMm (F_X6_add s2 0 μ3) (fun w5 μ6 => some (0, μ6)))) else if (μ (t + 12) v4.toNat) = 9 then (F_X2_width (μ (t + 12) v4.toNat) μ).bind fun w9 => bMm (F_X6_addLowFirst s2 (μ (t + 13) v4.toNat) w9 μ) (fun w10 μ11 => some (0, μ11)) else if (μ (t + 12) v4.toNat) = 10 then bG (0 ≤ v4 ∧ v4 < 3200) (bMm (F_X6_add s2 (μ (t + 14) v4.toNat) μ) (fun w13 μ14 => (F_X8_start t v4 μ14).bind fun w16 => bG (0 ≤ v4 ∧ v4 < 3200) (bMm (F_X6_addFrom s2 s w16 (μ14 (t + 14) v4.toNat) μ14) (fun w17 μ18 => some (0, μ18))))) else if (μ (t + 12) v4.toNat) = 11 then (F_X2_width (μ (t + 12) v4.toNat) μ).bind fun w22 => bMm (F_X6_addLowFirst s2 (μ (t + 13) v4.toNat) w22 μ) (fun w23 μ24 => some (0, μ24)) else if (μ (t + 12) v4.toNat) = 12 then (F_X2_width (μ (t + 12) v4.toNat) μ).bind fun w26 => bMm (F_X6_addLowFirst s2 (μ (t + 13) v4.toNat) w26 μ) (fun w27 μ28 => some (0, μ28)) else if (μ (t + 12) v4.toNat) = 13 then bMm (F_X6_addSignedRow s2 (μ (t + 13) v4.toNat) μ) (fun w30 μ31 => some (0, μ31)) else if (μ (t + 12) v4.toNat) = 14 then bG (0 ≤ v4 ∧ v4 < 3200) (bMm (F_X6_addLowFirst s2 (μ 22 v4.toNat) 4 μ) (fun w33 μ34 => some (0, μ34))) else if (μ (t + 12) v4.toNat) = 15 then bMm (F_X6_addRow s2 (μ (t + 13) v4.toNat) μ) (fun w37 μ38 => some (0, μ38)) else if (μ (t + 12) v4.toNat) = 16 then (F_X2_width (μ (t + 12) v4.toNat) μ).bind fun w40 => bMm (F_X6_addLowFirst s2 (μ (t + 13) v4.toNat) w40 μ) (fun w41 μ42 => some (0, μ42)) else if (μ (t + 12) v4.toNat) = 17 then (F_X2_width (μ (t + 12) v4.toNat) μ).bind fun w44 => bMm (F_X6_addLowFirst s2 (μ (t + 13) v4.toNat) w44 μ) (fun w45 μ46 => some (0, μ46)) else if (μ (t + 12) v4.toNat) = 18 then (F_X2_width (μ (t + 12) v4.toNat) μ).bind fun w48 => bMm (F_X6_addLowFirst s2 (μ (t + 13) v4.toNat) w48 μ) (fun w49 μ50 => some (0, μ50)) else if (μ (t + 12) v4.toNat) = 19 then bG (0 ≤ (b32 (μ (t + 13) v4.toNat)) ∧ (b32 (μ (t + 13) v4.toNat)) < 400) (bMm (F_X6_addLowFirst s2 (μ 19 (b32 (μ (t + 13) v4.toNat)).toNat) 4 μ) (fun w52 μ53 => some (0, μ53))) else if (μ (t + 12) v4.toNat) = 20 then (F_X2_width (μ (t + 12) v4.toNat) μ).bind fun w56 => bMm (F_X6_addLowFirst s2 (μ (t + 13) v4.toNat) w56 μ) (fun w57 μ58 => some (0, μ58)) else if (μ (t + 12) v4.toNat) = 21 then bG (0 ≤ (b32 (μ (t + 13) v4.toNat)) ∧ (b32 (μ (t + 13) v4.toNat)) < 400) (bMm (F_X6_addRow s2 (μ 19 (b32 (μ (t + 13) v4.toNat)).toNat) μ) (fun w60 μ61 => some (0, μ61))) else (F_X2_width (μ (t + 12) v4.toNat) μ).bind fun w64 => bMm (F_X6_addLowFirst s2 (μ (t + 13) v4.toNat) w64 μ) (fun w65 μ66 => some (0, μ66))))
theorem r_X9_writeValue {L : Nat} {xs : Nat → Int32} {d : Nat} {μ : bM} (t : Nat) (ht : bTree t) (s : Nat) (hs : bStore s) (s2 : Nat) (hs2 : bStore s2) (v4 : Int) (h4 : bR v4) : bD L xs (d + 3) 89 0 [(0, .ref t), (1, .ref s), (2, .ref 13), (3, .ref s2), (4, bI v4)] [] μ ((F_X9_writeValue t s s2 v4 μ).bind (bMc)) := by
  have hr : ∀ r, (bMc) r = (bMc) r := fun _ => rfl
  unfold F_X9_writeValue
  refine bD.ok fun hk => ?_
  refine b_s (pc' := 1) (lv1 := [(0, .ref t), (1, .ref s), (2, .ref 13), (3, .ref s2), (4, bI v4)]) (st' := [.ref t]) l89_0 (fun _ => rfl) ?_
  refine b_gp (q' := (t + 13)) (j := 13) l89_1 ht (by decide) (by decide) rfl hk rfl rfl (b_pc (pc' := 4) rfl ?_)
  refine b_s (pc' := 6) (lv1 := [(0, .ref t), (1, .ref s), (2, .ref 13), (3, .ref s2), (4, bI v4)]) (st' := [bI v4, .ref (t + 13)]) l89_4 (fun _ => rfl) ?_
  refine b_g fun g83 => ?_
  refine b_lal l89_6 (bTree_v ht) g83 (b_pc (pc' := 7) rfl ?_)
  refine b_w (pc' := 9) (lv1 := ax_st2 [(0, .ref t), (1, .ref s), (2, .ref 13), (3, .ref s2), (4, bI v4)] 5 (bLg (μ (t + 13) v4.toNat))) (lv' := [(0, .ref t), (1, .ref s), (2, .ref 13), (3, .ref s2), (4, bI v4), (5, bLg (μ (t + 13) v4.toNat))]) (st' := []) l89_7 (fun _ => rfl) (bSb rfl (bSb rfl (bSb rfl (bSb rfl (bSb rfl (bSb rfl bSn)))))) ?_
  refine b_s (pc' := 10) (lv1 := [(0, .ref t), (1, .ref s), (2, .ref 13), (3, .ref s2), (4, bI v4), (5, bLg (μ (t + 13) v4.toNat))]) (st' := [.ref t]) l89_9 (fun _ => rfl) ?_
  refine b_gp (q' := (t + 12)) (j := 12) l89_10 ht (by decide) (by decide) rfl hk rfl rfl (b_pc (pc' := 13) rfl ?_)
  refine b_s (pc' := 15) (lv1 := [(0, .ref t), (1, .ref s), (2, .ref 13), (3, .ref s2), (4, bI v4), (5, bLg (μ (t + 13) v4.toNat))]) (st' := [bI v4, .ref (t + 12)]) l89_13 (fun _ => rfl) ?_
  refine b_g fun g82 => ?_
  refine b_ial l89_15 (bTree_f ht) g82 (b_pc (pc' := 16) rfl ?_)
  refine b_w (pc' := 18) (lv1 := ax_st1 [(0, .ref t), (1, .ref s), (2, .ref 13), (3, .ref s2), (4, bI v4), (5, bLg (μ (t + 13) v4.toNat))] 7 (bI (μ (t + 12) v4.toNat))) (lv' := [(0, .ref t), (1, .ref s), (2, .ref 13), (3, .ref s2), (4, bI v4), (5, bLg (μ (t + 13) v4.toNat)), (7, bI (μ (t + 12) v4.toNat))]) (st' := []) l89_16 (fun _ => rfl) (bSb rfl (bSb rfl (bSb rfl (bSb rfl (bSb rfl (bSb rfl (bSb rfl bSn))))))) ?_
  refine b_s (pc' := 20) (lv1 := [(0, .ref t), (1, .ref s), (2, .ref 13), (3, .ref s2), (4, bI v4), (5, bLg (μ (t + 13) v4.toNat)), (7, bI (μ (t + 12) v4.toNat))]) (st' := [bI (μ (t + 12) v4.toNat)]) l89_18 (fun _ => rfl) ?_
  refine b_tsw l89_20 (bO_i hk (bTree_f ht)) (by decide) (by decide) (by decide) ?_
  refine b_pc (pc' := bTg [(8, 110), (9, 217), (10, 136), (11, 217), (12, 217), (13, 92), (14, 168), (15, 101), (16, 217), (17, 217), (18, 217), (19, 184), (20, 217), (21, 201)] 217 (μ (t + 12) v4.toNat)) rfl ?_
  refine b_tg (fun c81 => ?_) (fun c81 => ?_)
  · refine b_s (pc' := 111) (lv1 := [(0, .ref t), (1, .ref s), (2, .ref 13), (3, .ref s2), (4, bI v4), (5, bLg (μ (t + 13) v4.toNat)), (7, bI (μ (t + 12) v4.toNat))]) (st' := [.ref s2]) l89_110 (fun _ => rfl) ?_
    refine b_s (pc' := 112) (lv1 := [(0, .ref t), (1, .ref s), (2, .ref 13), (3, .ref s2), (4, bI v4), (5, bLg (μ (t + 13) v4.toNat)), (7, bI (μ (t + 12) v4.toNat))]) (st' := [.ref s, .ref s2]) l89_111 (fun _ => rfl) ?_
    refine b_s (pc' := 113) (lv1 := [(0, .ref t), (1, .ref s), (2, .ref 13), (3, .ref s2), (4, bI v4), (5, bLg (μ (t + 13) v4.toNat)), (7, bI (μ (t + 12) v4.toNat))]) (st' := [.ref t, .ref s, .ref s2]) l89_112 (fun _ => rfl) ?_
    refine b_s (pc' := 115) (lv1 := [(0, .ref t), (1, .ref s), (2, .ref 13), (3, .ref s2), (4, bI v4), (5, bLg (μ (t + 13) v4.toNat)), (7, bI (μ (t + 12) v4.toNat))]) (st' := [bI v4, .ref t, .ref s, .ref s2]) l89_113 (fun _ => rfl) ?_
    refine b_cPi l89_115 rfl (b_rc (ci := 7) ht (by decide) (by decide +kernel)) (Nat.le_of_ble_eq_true rfl) (Nat.le_of_ble_eq_true rfl) rfl (r_X8_start t ht v4 h4) fun w1 hw1 => b_pc (pc' := 118) rfl ?_
    refine b_s (pc' := 119) (lv1 := [(0, .ref t), (1, .ref s), (2, .ref 13), (3, .ref s2), (4, bI v4), (5, bLg (μ (t + 13) v4.toNat)), (7, bI (μ (t + 12) v4.toNat))]) (st' := [.ref t, bI w1, .ref s, .ref s2]) l89_118 (fun _ => rfl) ?_
    refine b_gp (q' := (t + 14)) (j := 14) l89_119 ht (by decide) (by decide) rfl hk rfl rfl (b_pc (pc' := 122) rfl ?_)
    refine b_s (pc' := 124) (lv1 := [(0, .ref t), (1, .ref s), (2, .ref 13), (3, .ref s2), (4, bI v4), (5, bLg (μ (t + 13) v4.toNat)), (7, bI (μ (t + 12) v4.toNat))]) (st' := [bI v4, .ref (t + 14), bI w1, .ref s, .ref s2]) l89_122 (fun _ => rfl) ?_
    refine b_g fun g8 => ?_
    refine b_ial l89_124 (bTree_l ht) g8 (b_pc (pc' := 125) rfl ?_)
    refine b_cMv l89_125 rfl (b_rc (ci := 5) hs2 (by decide) (by decide +kernel)) (Nat.le_of_ble_eq_true rfl) (Nat.le_of_ble_eq_true rfl) rfl (r_X6_addFrom s2 hs2 s hs w1 hw1 (μ (t + 14) v4.toNat) (bO_i hk (bTree_l ht))) fun w2 μ3 hw2 => bD.ok fun hk4 => b_pc (pc' := 128) rfl ?_
    refine b_s (pc' := 129) (lv1 := [(0, .ref t), (1, .ref s), (2, .ref 13), (3, .ref s2), (4, bI v4), (5, bLg (μ (t + 13) v4.toNat)), (7, bI (μ (t + 12) v4.toNat))]) (st' := [.ref s2]) l89_128 (fun _ => rfl) ?_
    refine b_s (pc' := 130) (lv1 := [(0, .ref t), (1, .ref s), (2, .ref 13), (3, .ref s2), (4, bI v4), (5, bLg (μ (t + 13) v4.toNat)), (7, bI (μ (t + 12) v4.toNat))]) (st' := [bI 0, .ref s2]) l89_129 (fun _ => rfl) ?_
    refine b_cMv l89_130 rfl (b_rc (ci := 5) hs2 (by decide) (by decide +kernel)) (Nat.le_of_ble_eq_true rfl) (Nat.le_of_ble_eq_true rfl) rfl (r_X6_add s2 hs2 0 (by decide)) fun w5 μ6 hw5 => bD.ok fun hk7 => b_pc (pc' := 133) rfl ?_
    refine b_s (pc' := 228) (lv1 := [(0, .ref t), (1, .ref s), (2, .ref 13), (3, .ref s2), (4, bI v4), (5, bLg (μ (t + 13) v4.toNat)), (7, bI (μ (t + 12) v4.toNat))]) (st' := []) l89_133 (fun _ => rfl) ?_
    exact b_retv l89_228 rfl (hr _)
  · refine b_tg (fun c80 => ?_) (fun c80 => ?_)
    · refine b_s (pc' := 218) (lv1 := [(0, .ref t), (1, .ref s), (2, .ref 13), (3, .ref s2), (4, bI v4), (5, bLg (μ (t + 13) v4.toNat)), (7, bI (μ (t + 12) v4.toNat))]) (st' := [.ref s2]) l89_217 (fun _ => rfl) ?_
      refine b_s (pc' := 220) (lv1 := [(0, .ref t), (1, .ref s), (2, .ref 13), (3, .ref s2), (4, bI v4), (5, bLg (μ (t + 13) v4.toNat)), (7, bI (μ (t + 12) v4.toNat))]) (st' := [bLg (μ (t + 13) v4.toNat), .ref s2]) l89_218 (fun _ => rfl) ?_
      refine b_s (pc' := 222) (lv1 := [(0, .ref t), (1, .ref s), (2, .ref 13), (3, .ref s2), (4, bI v4), (5, bLg (μ (t + 13) v4.toNat)), (7, bI (μ (t + 12) v4.toNat))]) (st' := [bI (μ (t + 12) v4.toNat), bLg (μ (t + 13) v4.toNat), .ref s2]) l89_220 (fun _ => rfl) ?_
      refine b_cPi l89_222 rfl (fun _ => trivial) (Nat.le_of_ble_eq_true rfl) (Nat.le_of_ble_eq_true rfl) rfl (r_X2_width (μ (t + 12) v4.toNat) (bO_i hk (bTree_f ht))) fun w9 hw9 => b_pc (pc' := 225) rfl ?_
      refine b_cMv l89_225 rfl (b_rc (ci := 5) hs2 (by decide) (by decide +kernel)) (Nat.le_of_ble_eq_true rfl) (Nat.le_of_ble_eq_true rfl) rfl (r_X6_addLowFirst s2 hs2 (μ (t + 13) v4.toNat) (bO_l hk (bTree_v ht)) w9 hw9) fun w10 μ11 hw10 => bD.ok fun hk12 => b_pc (pc' := 228) rfl ?_
      exact b_retv l89_228 rfl (hr _)
    · refine b_tg (fun c79 => ?_) (fun c79 => ?_)
      · refine b_s (pc' := 137) (lv1 := [(0, .ref t), (1, .ref s), (2, .ref 13), (3, .ref s2), (4, bI v4), (5, bLg (μ (t + 13) v4.toNat)), (7, bI (μ (t + 12) v4.toNat))]) (st' := [.ref s2]) l89_136 (fun _ => rfl) ?_
        refine b_s (pc' := 138) (lv1 := [(0, .ref t), (1, .ref s), (2, .ref 13), (3, .ref s2), (4, bI v4), (5, bLg (μ (t + 13) v4.toNat)), (7, bI (μ (t + 12) v4.toNat))]) (st' := [.ref t, .ref s2]) l89_137 (fun _ => rfl) ?_
        refine b_gp (q' := (t + 14)) (j := 14) l89_138 ht (by decide) (by decide) rfl hk rfl rfl (b_pc (pc' := 141) rfl ?_)
        refine b_s (pc' := 143) (lv1 := [(0, .ref t), (1, .ref s), (2, .ref 13), (3, .ref s2), (4, bI v4), (5, bLg (μ (t + 13) v4.toNat)), (7, bI (μ (t + 12) v4.toNat))]) (st' := [bI v4, .ref (t + 14), .ref s2]) l89_141 (fun _ => rfl) ?_
        refine b_g fun g21 => ?_
        refine b_ial l89_143 (bTree_l ht) g21 (b_pc (pc' := 144) rfl ?_)
        refine b_cMv l89_144 rfl (b_rc (ci := 5) hs2 (by decide) (by decide +kernel)) (Nat.le_of_ble_eq_true rfl) (Nat.le_of_ble_eq_true rfl) rfl (r_X6_add s2 hs2 (μ (t + 14) v4.toNat) (bO_i hk (bTree_l ht))) fun w13 μ14 hw13 => bD.ok fun hk15 => b_pc (pc' := 147) rfl ?_
        refine b_s (pc' := 148) (lv1 := [(0, .ref t), (1, .ref s), (2, .ref 13), (3, .ref s2), (4, bI v4), (5, bLg (μ (t + 13) v4.toNat)), (7, bI (μ (t + 12) v4.toNat))]) (st' := [.ref s2]) l89_147 (fun _ => rfl) ?_
        refine b_s (pc' := 149) (lv1 := [(0, .ref t), (1, .ref s), (2, .ref 13), (3, .ref s2), (4, bI v4), (5, bLg (μ (t + 13) v4.toNat)), (7, bI (μ (t + 12) v4.toNat))]) (st' := [.ref s, .ref s2]) l89_148 (fun _ => rfl) ?_
        refine b_s (pc' := 150) (lv1 := [(0, .ref t), (1, .ref s), (2, .ref 13), (3, .ref s2), (4, bI v4), (5, bLg (μ (t + 13) v4.toNat)), (7, bI (μ (t + 12) v4.toNat))]) (st' := [.ref t, .ref s, .ref s2]) l89_149 (fun _ => rfl) ?_
        refine b_s (pc' := 152) (lv1 := [(0, .ref t), (1, .ref s), (2, .ref 13), (3, .ref s2), (4, bI v4), (5, bLg (μ (t + 13) v4.toNat)), (7, bI (μ (t + 12) v4.toNat))]) (st' := [bI v4, .ref t, .ref s, .ref s2]) l89_150 (fun _ => rfl) ?_
        refine b_cPi l89_152 rfl (b_rc (ci := 7) ht (by decide) (by decide +kernel)) (Nat.le_of_ble_eq_true rfl) (Nat.le_of_ble_eq_true rfl) rfl (r_X8_start t ht v4 h4) fun w16 hw16 => b_pc (pc' := 155) rfl ?_
        refine b_s (pc' := 156) (lv1 := [(0, .ref t), (1, .ref s), (2, .ref 13), (3, .ref s2), (4, bI v4), (5, bLg (μ (t + 13) v4.toNat)), (7, bI (μ (t + 12) v4.toNat))]) (st' := [.ref t, bI w16, .ref s, .ref s2]) l89_155 (fun _ => rfl) ?_
        refine b_gp (q' := (t + 14)) (j := 14) l89_156 ht (by decide) (by decide) rfl hk15 rfl rfl (b_pc (pc' := 159) rfl ?_)
        refine b_s (pc' := 161) (lv1 := [(0, .ref t), (1, .ref s), (2, .ref 13), (3, .ref s2), (4, bI v4), (5, bLg (μ (t + 13) v4.toNat)), (7, bI (μ (t + 12) v4.toNat))]) (st' := [bI v4, .ref (t + 14), bI w16, .ref s, .ref s2]) l89_159 (fun _ => rfl) ?_
        refine b_g fun g20 => ?_
        refine b_ial l89_161 (bTree_l ht) g20 (b_pc (pc' := 162) rfl ?_)
        refine b_cMv l89_162 rfl (b_rc (ci := 5) hs2 (by decide) (by decide +kernel)) (Nat.le_of_ble_eq_true rfl) (Nat.le_of_ble_eq_true rfl) rfl (r_X6_addFrom s2 hs2 s hs w16 hw16 (μ14 (t + 14) v4.toNat) (bO_i hk15 (bTree_l ht))) fun w17 μ18 hw17 => bD.ok fun hk19 => b_pc (pc' := 165) rfl ?_
        refine b_s (pc' := 228) (lv1 := [(0, .ref t), (1, .ref s), (2, .ref 13), (3, .ref s2), (4, bI v4), (5, bLg (μ (t + 13) v4.toNat)), (7, bI (μ (t + 12) v4.toNat))]) (st' := []) l89_165 (fun _ => rfl) ?_
        exact b_retv l89_228 rfl (hr _)
      · refine b_tg (fun c78 => ?_) (fun c78 => ?_)
        · refine b_s (pc' := 218) (lv1 := [(0, .ref t), (1, .ref s), (2, .ref 13), (3, .ref s2), (4, bI v4), (5, bLg (μ (t + 13) v4.toNat)), (7, bI (μ (t + 12) v4.toNat))]) (st' := [.ref s2]) l89_217 (fun _ => rfl) ?_
          refine b_s (pc' := 220) (lv1 := [(0, .ref t), (1, .ref s), (2, .ref 13), (3, .ref s2), (4, bI v4), (5, bLg (μ (t + 13) v4.toNat)), (7, bI (μ (t + 12) v4.toNat))]) (st' := [bLg (μ (t + 13) v4.toNat), .ref s2]) l89_218 (fun _ => rfl) ?_
          refine b_s (pc' := 222) (lv1 := [(0, .ref t), (1, .ref s), (2, .ref 13), (3, .ref s2), (4, bI v4), (5, bLg (μ (t + 13) v4.toNat)), (7, bI (μ (t + 12) v4.toNat))]) (st' := [bI (μ (t + 12) v4.toNat), bLg (μ (t + 13) v4.toNat), .ref s2]) l89_220 (fun _ => rfl) ?_
          refine b_cPi l89_222 rfl (fun _ => trivial) (Nat.le_of_ble_eq_true rfl) (Nat.le_of_ble_eq_true rfl) rfl (r_X2_width (μ (t + 12) v4.toNat) (bO_i hk (bTree_f ht))) fun w22 hw22 => b_pc (pc' := 225) rfl ?_
          refine b_cMv l89_225 rfl (b_rc (ci := 5) hs2 (by decide) (by decide +kernel)) (Nat.le_of_ble_eq_true rfl) (Nat.le_of_ble_eq_true rfl) rfl (r_X6_addLowFirst s2 hs2 (μ (t + 13) v4.toNat) (bO_l hk (bTree_v ht)) w22 hw22) fun w23 μ24 hw23 => bD.ok fun hk25 => b_pc (pc' := 228) rfl ?_
          exact b_retv l89_228 rfl (hr _)
        · refine b_tg (fun c77 => ?_) (fun c77 => ?_)
          · refine b_s (pc' := 218) (lv1 := [(0, .ref t), (1, .ref s), (2, .ref 13), (3, .ref s2), (4, bI v4), (5, bLg (μ (t + 13) v4.toNat)), (7, bI (μ (t + 12) v4.toNat))]) (st' := [.ref s2]) l89_217 (fun _ => rfl) ?_
            refine b_s (pc' := 220) (lv1 := [(0, .ref t), (1, .ref s), (2, .ref 13), (3, .ref s2), (4, bI v4), (5, bLg (μ (t + 13) v4.toNat)), (7, bI (μ (t + 12) v4.toNat))]) (st' := [bLg (μ (t + 13) v4.toNat), .ref s2]) l89_218 (fun _ => rfl) ?_
            refine b_s (pc' := 222) (lv1 := [(0, .ref t), (1, .ref s), (2, .ref 13), (3, .ref s2), (4, bI v4), (5, bLg (μ (t + 13) v4.toNat)), (7, bI (μ (t + 12) v4.toNat))]) (st' := [bI (μ (t + 12) v4.toNat), bLg (μ (t + 13) v4.toNat), .ref s2]) l89_220 (fun _ => rfl) ?_
            refine b_cPi l89_222 rfl (fun _ => trivial) (Nat.le_of_ble_eq_true rfl) (Nat.le_of_ble_eq_true rfl) rfl (r_X2_width (μ (t + 12) v4.toNat) (bO_i hk (bTree_f ht))) fun w26 hw26 => b_pc (pc' := 225) rfl ?_
            refine b_cMv l89_225 rfl (b_rc (ci := 5) hs2 (by decide) (by decide +kernel)) (Nat.le_of_ble_eq_true rfl) (Nat.le_of_ble_eq_true rfl) rfl (r_X6_addLowFirst s2 hs2 (μ (t + 13) v4.toNat) (bO_l hk (bTree_v ht)) w26 hw26) fun w27 μ28 hw27 => bD.ok fun hk29 => b_pc (pc' := 228) rfl ?_
            exact b_retv l89_228 rfl (hr _)
          · refine b_tg (fun c76 => ?_) (fun c76 => ?_)
            · refine b_s (pc' := 93) (lv1 := [(0, .ref t), (1, .ref s), (2, .ref 13), (3, .ref s2), (4, bI v4), (5, bLg (μ (t + 13) v4.toNat)), (7, bI (μ (t + 12) v4.toNat))]) (st' := [.ref s2]) l89_92 (fun _ => rfl) ?_
              refine b_s (pc' := 95) (lv1 := [(0, .ref t), (1, .ref s), (2, .ref 13), (3, .ref s2), (4, bI v4), (5, bLg (μ (t + 13) v4.toNat)), (7, bI (μ (t + 12) v4.toNat))]) (st' := [bLg (μ (t + 13) v4.toNat), .ref s2]) l89_93 (fun _ => rfl) ?_
              refine b_cMv l89_95 rfl (b_rc (ci := 5) hs2 (by decide) (by decide +kernel)) (Nat.le_of_ble_eq_true rfl) (Nat.le_of_ble_eq_true rfl) rfl (r_X6_addSignedRow s2 hs2 (μ (t + 13) v4.toNat) (bO_l hk (bTree_v ht))) fun w30 μ31 hw30 => bD.ok fun hk32 => b_pc (pc' := 98) rfl ?_
              refine b_s (pc' := 228) (lv1 := [(0, .ref t), (1, .ref s), (2, .ref 13), (3, .ref s2), (4, bI v4), (5, bLg (μ (t + 13) v4.toNat)), (7, bI (μ (t + 12) v4.toNat))]) (st' := []) l89_98 (fun _ => rfl) ?_
              exact b_retv l89_228 rfl (hr _)
            · refine b_tg (fun c75 => ?_) (fun c75 => ?_)
              · refine b_s (pc' := 169) (lv1 := [(0, .ref t), (1, .ref s), (2, .ref 13), (3, .ref s2), (4, bI v4), (5, bLg (μ (t + 13) v4.toNat)), (7, bI (μ (t + 12) v4.toNat))]) (st' := [.ref s2]) l89_168 (fun _ => rfl) ?_
                refine b_s (pc' := 170) (lv1 := [(0, .ref t), (1, .ref s), (2, .ref 13), (3, .ref s2), (4, bI v4), (5, bLg (μ (t + 13) v4.toNat)), (7, bI (μ (t + 12) v4.toNat))]) (st' := [.ref 13, .ref s2]) l89_169 (fun _ => rfl) ?_
                refine b_gp (q' := 22) (j := 9) l89_170 (by rfl) (by decide) (by decide) rfl hk rfl rfl (b_pc (pc' := 173) rfl ?_)
                refine b_s (pc' := 175) (lv1 := [(0, .ref t), (1, .ref s), (2, .ref 13), (3, .ref s2), (4, bI v4), (5, bLg (μ (t + 13) v4.toNat)), (7, bI (μ (t + 12) v4.toNat))]) (st' := [bI v4, .ref 22, .ref s2]) l89_173 (fun _ => rfl) ?_
                refine b_g fun g36 => ?_
                refine b_ial l89_175 (by rfl) g36 (b_pc (pc' := 176) rfl ?_)
                refine b_i2l l89_176 (bO_i hk (by rfl)) (b_pc (pc' := 177) rfl ?_)
                refine b_s (pc' := 178) (lv1 := [(0, .ref t), (1, .ref s), (2, .ref 13), (3, .ref s2), (4, bI v4), (5, bLg (μ (t + 13) v4.toNat)), (7, bI (μ (t + 12) v4.toNat))]) (st' := [bI 4, bLg (μ 22 v4.toNat), .ref s2]) l89_177 (fun _ => rfl) ?_
                refine b_cMv l89_178 rfl (b_rc (ci := 5) hs2 (by decide) (by decide +kernel)) (Nat.le_of_ble_eq_true rfl) (Nat.le_of_ble_eq_true rfl) rfl (r_X6_addLowFirst s2 hs2 (μ 22 v4.toNat) (bR_L (bO_i hk (by rfl))) 4 (by decide)) fun w33 μ34 hw33 => bD.ok fun hk35 => b_pc (pc' := 181) rfl ?_
                refine b_s (pc' := 228) (lv1 := [(0, .ref t), (1, .ref s), (2, .ref 13), (3, .ref s2), (4, bI v4), (5, bLg (μ (t + 13) v4.toNat)), (7, bI (μ (t + 12) v4.toNat))]) (st' := []) l89_181 (fun _ => rfl) ?_
                exact b_retv l89_228 rfl (hr _)
              · refine b_tg (fun c74 => ?_) (fun c74 => ?_)
                · refine b_s (pc' := 102) (lv1 := [(0, .ref t), (1, .ref s), (2, .ref 13), (3, .ref s2), (4, bI v4), (5, bLg (μ (t + 13) v4.toNat)), (7, bI (μ (t + 12) v4.toNat))]) (st' := [.ref s2]) l89_101 (fun _ => rfl) ?_
                  refine b_s (pc' := 104) (lv1 := [(0, .ref t), (1, .ref s), (2, .ref 13), (3, .ref s2), (4, bI v4), (5, bLg (μ (t + 13) v4.toNat)), (7, bI (μ (t + 12) v4.toNat))]) (st' := [bLg (μ (t + 13) v4.toNat), .ref s2]) l89_102 (fun _ => rfl) ?_
                  refine b_cMv l89_104 rfl (b_rc (ci := 5) hs2 (by decide) (by decide +kernel)) (Nat.le_of_ble_eq_true rfl) (Nat.le_of_ble_eq_true rfl) rfl (r_X6_addRow s2 hs2 (μ (t + 13) v4.toNat) (bO_l hk (bTree_v ht))) fun w37 μ38 hw37 => bD.ok fun hk39 => b_pc (pc' := 107) rfl ?_
                  refine b_s (pc' := 228) (lv1 := [(0, .ref t), (1, .ref s), (2, .ref 13), (3, .ref s2), (4, bI v4), (5, bLg (μ (t + 13) v4.toNat)), (7, bI (μ (t + 12) v4.toNat))]) (st' := []) l89_107 (fun _ => rfl) ?_
                  exact b_retv l89_228 rfl (hr _)
                · refine b_tg (fun c73 => ?_) (fun c73 => ?_)
                  · refine b_s (pc' := 218) (lv1 := [(0, .ref t), (1, .ref s), (2, .ref 13), (3, .ref s2), (4, bI v4), (5, bLg (μ (t + 13) v4.toNat)), (7, bI (μ (t + 12) v4.toNat))]) (st' := [.ref s2]) l89_217 (fun _ => rfl) ?_
                    refine b_s (pc' := 220) (lv1 := [(0, .ref t), (1, .ref s), (2, .ref 13), (3, .ref s2), (4, bI v4), (5, bLg (μ (t + 13) v4.toNat)), (7, bI (μ (t + 12) v4.toNat))]) (st' := [bLg (μ (t + 13) v4.toNat), .ref s2]) l89_218 (fun _ => rfl) ?_
                    refine b_s (pc' := 222) (lv1 := [(0, .ref t), (1, .ref s), (2, .ref 13), (3, .ref s2), (4, bI v4), (5, bLg (μ (t + 13) v4.toNat)), (7, bI (μ (t + 12) v4.toNat))]) (st' := [bI (μ (t + 12) v4.toNat), bLg (μ (t + 13) v4.toNat), .ref s2]) l89_220 (fun _ => rfl) ?_
                    refine b_cPi l89_222 rfl (fun _ => trivial) (Nat.le_of_ble_eq_true rfl) (Nat.le_of_ble_eq_true rfl) rfl (r_X2_width (μ (t + 12) v4.toNat) (bO_i hk (bTree_f ht))) fun w40 hw40 => b_pc (pc' := 225) rfl ?_
                    refine b_cMv l89_225 rfl (b_rc (ci := 5) hs2 (by decide) (by decide +kernel)) (Nat.le_of_ble_eq_true rfl) (Nat.le_of_ble_eq_true rfl) rfl (r_X6_addLowFirst s2 hs2 (μ (t + 13) v4.toNat) (bO_l hk (bTree_v ht)) w40 hw40) fun w41 μ42 hw41 => bD.ok fun hk43 => b_pc (pc' := 228) rfl ?_
                    exact b_retv l89_228 rfl (hr _)
                  · refine b_tg (fun c72 => ?_) (fun c72 => ?_)
                    · refine b_s (pc' := 218) (lv1 := [(0, .ref t), (1, .ref s), (2, .ref 13), (3, .ref s2), (4, bI v4), (5, bLg (μ (t + 13) v4.toNat)), (7, bI (μ (t + 12) v4.toNat))]) (st' := [.ref s2]) l89_217 (fun _ => rfl) ?_
                      refine b_s (pc' := 220) (lv1 := [(0, .ref t), (1, .ref s), (2, .ref 13), (3, .ref s2), (4, bI v4), (5, bLg (μ (t + 13) v4.toNat)), (7, bI (μ (t + 12) v4.toNat))]) (st' := [bLg (μ (t + 13) v4.toNat), .ref s2]) l89_218 (fun _ => rfl) ?_
                      refine b_s (pc' := 222) (lv1 := [(0, .ref t), (1, .ref s), (2, .ref 13), (3, .ref s2), (4, bI v4), (5, bLg (μ (t + 13) v4.toNat)), (7, bI (μ (t + 12) v4.toNat))]) (st' := [bI (μ (t + 12) v4.toNat), bLg (μ (t + 13) v4.toNat), .ref s2]) l89_220 (fun _ => rfl) ?_
                      refine b_cPi l89_222 rfl (fun _ => trivial) (Nat.le_of_ble_eq_true rfl) (Nat.le_of_ble_eq_true rfl) rfl (r_X2_width (μ (t + 12) v4.toNat) (bO_i hk (bTree_f ht))) fun w44 hw44 => b_pc (pc' := 225) rfl ?_
                      refine b_cMv l89_225 rfl (b_rc (ci := 5) hs2 (by decide) (by decide +kernel)) (Nat.le_of_ble_eq_true rfl) (Nat.le_of_ble_eq_true rfl) rfl (r_X6_addLowFirst s2 hs2 (μ (t + 13) v4.toNat) (bO_l hk (bTree_v ht)) w44 hw44) fun w45 μ46 hw45 => bD.ok fun hk47 => b_pc (pc' := 228) rfl ?_
                      exact b_retv l89_228 rfl (hr _)
                    · refine b_tg (fun c71 => ?_) (fun c71 => ?_)
                      · refine b_s (pc' := 218) (lv1 := [(0, .ref t), (1, .ref s), (2, .ref 13), (3, .ref s2), (4, bI v4), (5, bLg (μ (t + 13) v4.toNat)), (7, bI (μ (t + 12) v4.toNat))]) (st' := [.ref s2]) l89_217 (fun _ => rfl) ?_
                        refine b_s (pc' := 220) (lv1 := [(0, .ref t), (1, .ref s), (2, .ref 13), (3, .ref s2), (4, bI v4), (5, bLg (μ (t + 13) v4.toNat)), (7, bI (μ (t + 12) v4.toNat))]) (st' := [bLg (μ (t + 13) v4.toNat), .ref s2]) l89_218 (fun _ => rfl) ?_
                        refine b_s (pc' := 222) (lv1 := [(0, .ref t), (1, .ref s), (2, .ref 13), (3, .ref s2), (4, bI v4), (5, bLg (μ (t + 13) v4.toNat)), (7, bI (μ (t + 12) v4.toNat))]) (st' := [bI (μ (t + 12) v4.toNat), bLg (μ (t + 13) v4.toNat), .ref s2]) l89_220 (fun _ => rfl) ?_
                        refine b_cPi l89_222 rfl (fun _ => trivial) (Nat.le_of_ble_eq_true rfl) (Nat.le_of_ble_eq_true rfl) rfl (r_X2_width (μ (t + 12) v4.toNat) (bO_i hk (bTree_f ht))) fun w48 hw48 => b_pc (pc' := 225) rfl ?_
                        refine b_cMv l89_225 rfl (b_rc (ci := 5) hs2 (by decide) (by decide +kernel)) (Nat.le_of_ble_eq_true rfl) (Nat.le_of_ble_eq_true rfl) rfl (r_X6_addLowFirst s2 hs2 (μ (t + 13) v4.toNat) (bO_l hk (bTree_v ht)) w48 hw48) fun w49 μ50 hw49 => bD.ok fun hk51 => b_pc (pc' := 228) rfl ?_
                        exact b_retv l89_228 rfl (hr _)
                      · refine b_tg (fun c70 => ?_) (fun c70 => ?_)
                        · refine b_s (pc' := 185) (lv1 := [(0, .ref t), (1, .ref s), (2, .ref 13), (3, .ref s2), (4, bI v4), (5, bLg (μ (t + 13) v4.toNat)), (7, bI (μ (t + 12) v4.toNat))]) (st' := [.ref s2]) l89_184 (fun _ => rfl) ?_
                          refine b_s (pc' := 186) (lv1 := [(0, .ref t), (1, .ref s), (2, .ref 13), (3, .ref s2), (4, bI v4), (5, bLg (μ (t + 13) v4.toNat)), (7, bI (μ (t + 12) v4.toNat))]) (st' := [.ref 13, .ref s2]) l89_185 (fun _ => rfl) ?_
                          refine b_gp (q' := 19) (j := 6) l89_186 (by rfl) (by decide) (by decide) rfl hk rfl rfl (b_pc (pc' := 189) rfl ?_)
                          refine b_s (pc' := 191) (lv1 := [(0, .ref t), (1, .ref s), (2, .ref 13), (3, .ref s2), (4, bI v4), (5, bLg (μ (t + 13) v4.toNat)), (7, bI (μ (t + 12) v4.toNat))]) (st' := [bLg (μ (t + 13) v4.toNat), .ref 19, .ref s2]) l89_189 (fun _ => rfl) ?_
                          refine b_l2i l89_191 (b_pc (pc' := 192) rfl ?_)
                          refine b_g fun g55 => ?_
                          refine b_ial l89_192 (by rfl) g55 (b_pc (pc' := 193) rfl ?_)
                          refine b_i2l l89_193 (bO_i hk (by rfl)) (b_pc (pc' := 194) rfl ?_)
                          refine b_s (pc' := 195) (lv1 := [(0, .ref t), (1, .ref s), (2, .ref 13), (3, .ref s2), (4, bI v4), (5, bLg (μ (t + 13) v4.toNat)), (7, bI (μ (t + 12) v4.toNat))]) (st' := [bI 4, bLg (μ 19 (b32 (μ (t + 13) v4.toNat)).toNat), .ref s2]) l89_194 (fun _ => rfl) ?_
                          refine b_cMv l89_195 rfl (b_rc (ci := 5) hs2 (by decide) (by decide +kernel)) (Nat.le_of_ble_eq_true rfl) (Nat.le_of_ble_eq_true rfl) rfl (r_X6_addLowFirst s2 hs2 (μ 19 (b32 (μ (t + 13) v4.toNat)).toNat) (bR_L (bO_i hk (by rfl))) 4 (by decide)) fun w52 μ53 hw52 => bD.ok fun hk54 => b_pc (pc' := 198) rfl ?_
                          refine b_s (pc' := 228) (lv1 := [(0, .ref t), (1, .ref s), (2, .ref 13), (3, .ref s2), (4, bI v4), (5, bLg (μ (t + 13) v4.toNat)), (7, bI (μ (t + 12) v4.toNat))]) (st' := []) l89_198 (fun _ => rfl) ?_
                          exact b_retv l89_228 rfl (hr _)
                        · refine b_tg (fun c69 => ?_) (fun c69 => ?_)
                          · refine b_s (pc' := 218) (lv1 := [(0, .ref t), (1, .ref s), (2, .ref 13), (3, .ref s2), (4, bI v4), (5, bLg (μ (t + 13) v4.toNat)), (7, bI (μ (t + 12) v4.toNat))]) (st' := [.ref s2]) l89_217 (fun _ => rfl) ?_
                            refine b_s (pc' := 220) (lv1 := [(0, .ref t), (1, .ref s), (2, .ref 13), (3, .ref s2), (4, bI v4), (5, bLg (μ (t + 13) v4.toNat)), (7, bI (μ (t + 12) v4.toNat))]) (st' := [bLg (μ (t + 13) v4.toNat), .ref s2]) l89_218 (fun _ => rfl) ?_
                            refine b_s (pc' := 222) (lv1 := [(0, .ref t), (1, .ref s), (2, .ref 13), (3, .ref s2), (4, bI v4), (5, bLg (μ (t + 13) v4.toNat)), (7, bI (μ (t + 12) v4.toNat))]) (st' := [bI (μ (t + 12) v4.toNat), bLg (μ (t + 13) v4.toNat), .ref s2]) l89_220 (fun _ => rfl) ?_
                            refine b_cPi l89_222 rfl (fun _ => trivial) (Nat.le_of_ble_eq_true rfl) (Nat.le_of_ble_eq_true rfl) rfl (r_X2_width (μ (t + 12) v4.toNat) (bO_i hk (bTree_f ht))) fun w56 hw56 => b_pc (pc' := 225) rfl ?_
                            refine b_cMv l89_225 rfl (b_rc (ci := 5) hs2 (by decide) (by decide +kernel)) (Nat.le_of_ble_eq_true rfl) (Nat.le_of_ble_eq_true rfl) rfl (r_X6_addLowFirst s2 hs2 (μ (t + 13) v4.toNat) (bO_l hk (bTree_v ht)) w56 hw56) fun w57 μ58 hw57 => bD.ok fun hk59 => b_pc (pc' := 228) rfl ?_
                            exact b_retv l89_228 rfl (hr _)
                          · refine b_tg (fun c68 => ?_) (fun c68 => ?_)
                            · refine b_s (pc' := 202) (lv1 := [(0, .ref t), (1, .ref s), (2, .ref 13), (3, .ref s2), (4, bI v4), (5, bLg (μ (t + 13) v4.toNat)), (7, bI (μ (t + 12) v4.toNat))]) (st' := [.ref s2]) l89_201 (fun _ => rfl) ?_
                              refine b_s (pc' := 203) (lv1 := [(0, .ref t), (1, .ref s), (2, .ref 13), (3, .ref s2), (4, bI v4), (5, bLg (μ (t + 13) v4.toNat)), (7, bI (μ (t + 12) v4.toNat))]) (st' := [.ref 13, .ref s2]) l89_202 (fun _ => rfl) ?_
                              refine b_gp (q' := 19) (j := 6) l89_203 (by rfl) (by decide) (by decide) rfl hk rfl rfl (b_pc (pc' := 206) rfl ?_)
                              refine b_s (pc' := 208) (lv1 := [(0, .ref t), (1, .ref s), (2, .ref 13), (3, .ref s2), (4, bI v4), (5, bLg (μ (t + 13) v4.toNat)), (7, bI (μ (t + 12) v4.toNat))]) (st' := [bLg (μ (t + 13) v4.toNat), .ref 19, .ref s2]) l89_206 (fun _ => rfl) ?_
                              refine b_l2i l89_208 (b_pc (pc' := 209) rfl ?_)
                              refine b_g fun g63 => ?_
                              refine b_ial l89_209 (by rfl) g63 (b_pc (pc' := 210) rfl ?_)
                              refine b_i2l l89_210 (bO_i hk (by rfl)) (b_pc (pc' := 211) rfl ?_)
                              refine b_cMv l89_211 rfl (b_rc (ci := 5) hs2 (by decide) (by decide +kernel)) (Nat.le_of_ble_eq_true rfl) (Nat.le_of_ble_eq_true rfl) rfl (r_X6_addRow s2 hs2 (μ 19 (b32 (μ (t + 13) v4.toNat)).toNat) (bR_L (bO_i hk (by rfl)))) fun w60 μ61 hw60 => bD.ok fun hk62 => b_pc (pc' := 214) rfl ?_
                              refine b_s (pc' := 228) (lv1 := [(0, .ref t), (1, .ref s), (2, .ref 13), (3, .ref s2), (4, bI v4), (5, bLg (μ (t + 13) v4.toNat)), (7, bI (μ (t + 12) v4.toNat))]) (st' := []) l89_214 (fun _ => rfl) ?_
                              exact b_retv l89_228 rfl (hr _)
                            · refine b_pc (pc' := 217) rfl ?_
                              refine b_s (pc' := 218) (lv1 := [(0, .ref t), (1, .ref s), (2, .ref 13), (3, .ref s2), (4, bI v4), (5, bLg (μ (t + 13) v4.toNat)), (7, bI (μ (t + 12) v4.toNat))]) (st' := [.ref s2]) l89_217 (fun _ => rfl) ?_
                              refine b_s (pc' := 220) (lv1 := [(0, .ref t), (1, .ref s), (2, .ref 13), (3, .ref s2), (4, bI v4), (5, bLg (μ (t + 13) v4.toNat)), (7, bI (μ (t + 12) v4.toNat))]) (st' := [bLg (μ (t + 13) v4.toNat), .ref s2]) l89_218 (fun _ => rfl) ?_
                              refine b_s (pc' := 222) (lv1 := [(0, .ref t), (1, .ref s), (2, .ref 13), (3, .ref s2), (4, bI v4), (5, bLg (μ (t + 13) v4.toNat)), (7, bI (μ (t + 12) v4.toNat))]) (st' := [bI (μ (t + 12) v4.toNat), bLg (μ (t + 13) v4.toNat), .ref s2]) l89_220 (fun _ => rfl) ?_
                              refine b_cPi l89_222 rfl (fun _ => trivial) (Nat.le_of_ble_eq_true rfl) (Nat.le_of_ble_eq_true rfl) rfl (r_X2_width (μ (t + 12) v4.toNat) (bO_i hk (bTree_f ht))) fun w64 hw64 => b_pc (pc' := 225) rfl ?_
                              refine b_cMv l89_225 rfl (b_rc (ci := 5) hs2 (by decide) (by decide +kernel)) (Nat.le_of_ble_eq_true rfl) (Nat.le_of_ble_eq_true rfl) rfl (r_X6_addLowFirst s2 hs2 (μ (t + 13) v4.toNat) (bO_l hk (bTree_v ht)) w64 hw64) fun w65 μ66 hw65 => bD.ok fun hk67 => b_pc (pc' := 228) rfl ?_
                              exact b_retv l89_228 rfl (hr _)
/-! ET$Writer.writeEntry -/
theorem l88_0 : (ax_dt (ax_T 88)).lookup 0 = some (.aload_n 3, 1, 0, 0, 0) := by decide +kernel
theorem l88_1 : (ax_dt (ax_T 88)).lookup 1 = some (.aload_n 2, 1, 0, 0, 0) := by decide +kernel
theorem l88_2 : (ax_dt (ax_T 88)).lookup 2 = some (.getfield 48, 3, 2, 13, 0) := by decide +kernel
theorem l88_5 : (ax_dt (ax_T 88)).lookup 5 = some (.iload 4, 2, 0, 0, 0) := by decide +kernel
theorem l88_7 : (ax_dt (ax_T 88)).lookup 7 = some (.iaload, 1, 0, 0, 0) := by decide +kernel
theorem l88_8 : (ax_dt (ax_T 88)).lookup 8 = some (.i2l, 1, 0, 0, 0) := by decide +kernel
theorem l88_9 : (ax_dt (ax_T 88)).lookup 9 = some (.invokevirtual 51, 3, 62, 1, 0) := by decide +kernel
theorem l88_12 : (ax_dt (ax_T 88)).lookup 12 = some (.iconst 0, 1, 0, 0, 0) := by decide +kernel
theorem l88_13 : (ax_dt (ax_T 88)).lookup 13 = some (.istore 5, 2, 0, 0, 0) := by decide +kernel
theorem l88_15 : (ax_dt (ax_T 88)).lookup 15 = some (.iload 5, 2, 0, 0, 0) := by decide +kernel
theorem l88_17 : (ax_dt (ax_T 88)).lookup 17 = some (.aload_n 0, 1, 0, 0, 0) := by decide +kernel
theorem l88_18 : (ax_dt (ax_T 88)).lookup 18 = some (.getfield 55, 3, 7, 11, 0) := by decide +kernel
theorem l88_21 : (ax_dt (ax_T 88)).lookup 21 = some (.iload 4, 2, 0, 0, 0) := by decide +kernel
theorem l88_23 : (ax_dt (ax_T 88)).lookup 23 = some (.iaload, 1, 0, 0, 0) := by decide +kernel
theorem l88_24 : (ax_dt (ax_T 88)).lookup 24 = some (.if_icmp .ge 23, 3, 0, 0, 0) := by decide +kernel
theorem l88_27 : (ax_dt (ax_T 88)).lookup 27 = some (.aload_n 0, 1, 0, 0, 0) := by decide +kernel
theorem l88_28 : (ax_dt (ax_T 88)).lookup 28 = some (.aload_n 1, 1, 0, 0, 0) := by decide +kernel
theorem l88_29 : (ax_dt (ax_T 88)).lookup 29 = some (.aload_n 2, 1, 0, 0, 0) := by decide +kernel
theorem l88_30 : (ax_dt (ax_T 88)).lookup 30 = some (.aload_n 3, 1, 0, 0, 0) := by decide +kernel
theorem l88_31 : (ax_dt (ax_T 88)).lookup 31 = some (.iload 4, 2, 0, 0, 0) := by decide +kernel
theorem l88_33 : (ax_dt (ax_T 88)).lookup 33 = some (.iload 5, 2, 0, 0, 0) := by decide +kernel
theorem l88_35 : (ax_dt (ax_T 88)).lookup 35 = some (.invokestatic 58, 3, 78, 2, 0) := by decide +kernel
theorem l88_38 : (ax_dt (ax_T 88)).lookup 38 = some (.invokestatic 62, 3, 89, 5, 0) := by decide +kernel
theorem l88_41 : (ax_dt (ax_T 88)).lookup 41 = some (.iinc 5 1, 3, 0, 0, 0) := by decide +kernel
theorem l88_44 : (ax_dt (ax_T 88)).lookup 44 = some (.goto (-29), 3, 0, 0, 0) := by decide +kernel
theorem l88_47 : (ax_dt (ax_T 88)).lookup 47 = some (.aload_n 3, 1, 0, 0, 0) := by decide +kernel
theorem l88_48 : (ax_dt (ax_T 88)).lookup 48 = some (.lconst 0, 1, 0, 0, 0) := by decide +kernel
theorem l88_49 : (ax_dt (ax_T 88)).lookup 49 = some (.aload_n 2, 1, 0, 0, 0) := by decide +kernel
theorem l88_50 : (ax_dt (ax_T 88)).lookup 50 = some (.getfield 65, 3, 2, 10, 0) := by decide +kernel
theorem l88_53 : (ax_dt (ax_T 88)).lookup 53 = some (.iload 4, 2, 0, 0, 0) := by decide +kernel
theorem l88_55 : (ax_dt (ax_T 88)).lookup 55 = some (.iaload, 1, 0, 0, 0) := by decide +kernel
theorem l88_56 : (ax_dt (ax_T 88)).lookup 56 = some (.invokevirtual 27, 3, 61, 2, 0) := by decide +kernel
theorem l88_59 : (ax_dt (ax_T 88)).lookup 59 = some (.return_, 1, 0, 0, 0) := by decide +kernel
noncomputable def F_X9_writeEntry_15 (t : Nat) (s : Nat) (s2 : Nat) (v4 : Int) (v5 : Int) (μ : bM) : Option ((Int × bM) ⊕ (Int × bM)) := bG (0 ≤ v4 ∧ v4 < 400) (if (μ (t + 10) v4.toNat) ≤ v5 then bG (0 ≤ v4 ∧ v4 < 400) (bMm (F_X6_addLowFirst s2 0 (μ 17 v4.toNat) μ) (fun w2 μ3 => some (.inr (0, μ3)))) else (F_X8_slotAt v4 v5 μ).bind fun w6 => bMm (F_X9_writeValue t s s2 w6 μ) (fun w7 μ8 => bG (bR (v5 + 1)) (some (.inl ((v5 + 1), μ8)))))
noncomputable def F_X9_writeEntry (t : Nat) (s : Nat) (s2 : Nat) (v4 : Int) (μ : bM) : Option (Int × bM) := bG (0 ≤ v4 ∧ v4 < 400) (bMm (F_X6_addRow s2 (μ 20 v4.toNat) μ) (fun w1 μ2 => bLoop (fun z => F_X9_writeEntry_15 t s s2 v4 z.1 z.2) (0, μ2)))
theorem q_X9_writeEntry_15 {L : Nat} {xs : Nat → Int32} {d : Nat} {μ : bM} {t : Nat} {s : Nat} {s2 : Nat} {v4 : Int} {κ : ((Int × bM) ⊕ (Int × bM)) → Option bX} (hr : ∀ r : Int × bM, κ (.inr r) = (bMc) r) (H15 : ∀ (v5 : Int) (μ : bM), bR v5 → bD L xs (d + 4) 88 15 [(0, .ref t), (1, .ref s), (2, .ref 13), (3, .ref s2), (4, bI v4), (5, bI v5)] [] μ (κ (.inl (v5, μ)))) (ht : bTree t) (hs : bStore s) (hs2 : bStore s2) (h4 : bR v4) {v5 : Int} (h5 : bR v5) : bD L xs (d + 4) 88 15 [(0, .ref t), (1, .ref s), (2, .ref 13), (3, .ref s2), (4, bI v4), (5, bI v5)] [] μ ((F_X9_writeEntry_15 t s s2 v4 v5 μ).bind κ) := by
  unfold F_X9_writeEntry_15
  refine bD.ok fun hk => ?_
  refine b_s (pc' := 17) (lv1 := [(0, .ref t), (1, .ref s), (2, .ref 13), (3, .ref s2), (4, bI v4), (5, bI v5)]) (st' := [bI v5]) l88_15 (fun _ => rfl) ?_
  refine b_s (pc' := 18) (lv1 := [(0, .ref t), (1, .ref s), (2, .ref 13), (3, .ref s2), (4, bI v4), (5, bI v5)]) (st' := [.ref t, bI v5]) l88_17 (fun _ => rfl) ?_
  refine b_gp (q' := (t + 10)) (j := 10) l88_18 ht (by decide) (by decide) rfl hk rfl rfl (b_pc (pc' := 21) rfl ?_)
  refine b_s (pc' := 23) (lv1 := [(0, .ref t), (1, .ref s), (2, .ref 13), (3, .ref s2), (4, bI v4), (5, bI v5)]) (st' := [bI v4, .ref (t + 10), bI v5]) l88_21 (fun _ => rfl) ?_
  refine b_g fun g11 => ?_
  refine b_ial l88_23 (bTree_e ht 10 (by decide)) g11 (b_pc (pc' := 24) rfl ?_)
  refine b_ige (pt := 47) l88_24 h5 (bO_i hk (bTree_e ht 10 (by decide))) (by decide) rfl (fun c1 => ?_) (fun c1 => b_pc (pc' := 27) rfl ?_)
  · refine b_s (pc' := 48) (lv1 := [(0, .ref t), (1, .ref s), (2, .ref 13), (3, .ref s2), (4, bI v4), (5, bI v5)]) (st' := [.ref s2]) l88_47 (fun _ => rfl) ?_
    refine b_lconst (e := 0) l88_48 (by decide) (b_pc (pc' := 49) rfl ?_)
    refine b_s (pc' := 50) (lv1 := [(0, .ref t), (1, .ref s), (2, .ref 13), (3, .ref s2), (4, bI v4), (5, bI v5)]) (st' := [.ref 13, bLg 0, .ref s2]) l88_49 (fun _ => rfl) ?_
    refine b_gp (q' := 17) (j := 4) l88_50 (by rfl) (by decide) (by decide) rfl hk rfl rfl (b_pc (pc' := 53) rfl ?_)
    refine b_s (pc' := 55) (lv1 := [(0, .ref t), (1, .ref s), (2, .ref 13), (3, .ref s2), (4, bI v4), (5, bI v5)]) (st' := [bI v4, .ref 17, bLg 0, .ref s2]) l88_53 (fun _ => rfl) ?_
    refine b_g fun g5 => ?_
    refine b_ial l88_55 (by rfl) g5 (b_pc (pc' := 56) rfl ?_)
    refine b_cMv l88_56 rfl (b_rc (ci := 5) hs2 (by decide) (by decide +kernel)) (Nat.le_of_ble_eq_true rfl) (Nat.le_of_ble_eq_true rfl) rfl (r_X6_addLowFirst s2 hs2 0 (by decide) (μ 17 v4.toNat) (bO_i hk (by rfl))) fun w2 μ3 hw2 => bD.ok fun hk4 => b_pc (pc' := 59) rfl ?_
    exact b_retv l88_59 rfl (hr _)
  · refine b_s (pc' := 28) (lv1 := [(0, .ref t), (1, .ref s), (2, .ref 13), (3, .ref s2), (4, bI v4), (5, bI v5)]) (st' := [.ref t]) l88_27 (fun _ => rfl) ?_
    refine b_s (pc' := 29) (lv1 := [(0, .ref t), (1, .ref s), (2, .ref 13), (3, .ref s2), (4, bI v4), (5, bI v5)]) (st' := [.ref s, .ref t]) l88_28 (fun _ => rfl) ?_
    refine b_s (pc' := 30) (lv1 := [(0, .ref t), (1, .ref s), (2, .ref 13), (3, .ref s2), (4, bI v4), (5, bI v5)]) (st' := [.ref 13, .ref s, .ref t]) l88_29 (fun _ => rfl) ?_
    refine b_s (pc' := 31) (lv1 := [(0, .ref t), (1, .ref s), (2, .ref 13), (3, .ref s2), (4, bI v4), (5, bI v5)]) (st' := [.ref s2, .ref 13, .ref s, .ref t]) l88_30 (fun _ => rfl) ?_
    refine b_s (pc' := 33) (lv1 := [(0, .ref t), (1, .ref s), (2, .ref 13), (3, .ref s2), (4, bI v4), (5, bI v5)]) (st' := [bI v4, .ref s2, .ref 13, .ref s, .ref t]) l88_31 (fun _ => rfl) ?_
    refine b_s (pc' := 35) (lv1 := [(0, .ref t), (1, .ref s), (2, .ref 13), (3, .ref s2), (4, bI v4), (5, bI v5)]) (st' := [bI v5, bI v4, .ref s2, .ref 13, .ref s, .ref t]) l88_33 (fun _ => rfl) ?_
    refine b_cPi l88_35 rfl (fun _ => trivial) (Nat.le_of_ble_eq_true rfl) (Nat.le_of_ble_eq_true rfl) rfl (r_X8_slotAt v4 h4 v5 h5) fun w6 hw6 => b_pc (pc' := 38) rfl ?_
    refine b_cMv l88_38 rfl (fun _ => trivial) (Nat.le_of_ble_eq_true rfl) (Nat.le_of_ble_eq_true rfl) rfl (r_X9_writeValue t ht s hs s2 hs2 w6 hw6) fun w7 μ8 hw7 => bD.ok fun hk9 => b_pc (pc' := 41) rfl ?_
    refine b_inc (lv' := [(0, .ref t), (1, .ref s), (2, .ref 13), (3, .ref s2), (4, bI v4), (5, bI (v5 + 1))]) l88_41 rfl (by decide +kernel) (bSb rfl (bSb rfl (bSb rfl (bSb rfl (bSb rfl (bSb rfl bSn)))))) fun g10 => (b_pc (pc' := 44) rfl ?_)
    refine b_s (pc' := 15) (lv1 := [(0, .ref t), (1, .ref s), (2, .ref 13), (3, .ref s2), (4, bI v4), (5, bI (v5 + 1))]) (st' := []) l88_44 (fun _ => rfl) ?_
    refine bD.wk (lv' := [(0, .ref t), (1, .ref s), (2, .ref 13), (3, .ref s2), (4, bI v4), (5, bI (v5 + 1))]) (bSb rfl (bSb rfl (bSb rfl (bSb rfl (bSb rfl (bSb rfl bSn)))))) ?_
    exact H15 (v5 + 1) μ8 g10
theorem p_X9_writeEntry_15 {L : Nat} {xs : Nat → Int32} {d : Nat} {μ : bM} {t : Nat} {s : Nat} {s2 : Nat} {κ : (Int × bM) → Option bX} (hr : ∀ r : Int × bM, κ r = (bMc) r) (ht : bTree t) (hs : bStore s) (hs2 : bStore s2) {v4 : Int} (h4 : bR v4) {v5 : Int} (h5 : bR v5) : bD L xs (d + 4) 88 15 [(0, .ref t), (1, .ref s), (2, .ref 13), (3, .ref s2), (4, bI v4), (5, bI v5)] [] μ ((bLoop (fun z => F_X9_writeEntry_15 t s s2 v4 z.1 z.2) (v5, μ)).bind κ) :=
  b_loop (fun z => [(0, .ref t), (1, .ref s), (2, .ref 13), (3, .ref s2), (4, bI v4), (5, bI z.1)]) (fun z => z.2) (fun z => bR z.1) (fun κ' hκ HH z hz => q_X9_writeEntry_15 (κ := κ') (fun r => (hκ _).trans (hr r)) (fun a5 am b5 => HH (a5, am) b5) ht hs hs2 h4 hz) (v5, μ) h5
theorem r_X9_writeEntry {L : Nat} {xs : Nat → Int32} {d : Nat} {μ : bM} (t : Nat) (ht : bTree t) (s : Nat) (hs : bStore s) (s2 : Nat) (hs2 : bStore s2) (v4 : Int) (h4 : bR v4) : bD L xs (d + 4) 88 0 [(0, .ref t), (1, .ref s), (2, .ref 13), (3, .ref s2), (4, bI v4)] [] μ ((F_X9_writeEntry t s s2 v4 μ).bind (bMc)) := by
  have hr : ∀ r, (bMc) r = (bMc) r := fun _ => rfl
  unfold F_X9_writeEntry
  refine bD.ok fun hk => ?_
  refine b_s (pc' := 1) (lv1 := [(0, .ref t), (1, .ref s), (2, .ref 13), (3, .ref s2), (4, bI v4)]) (st' := [.ref s2]) l88_0 (fun _ => rfl) ?_
  refine b_s (pc' := 2) (lv1 := [(0, .ref t), (1, .ref s), (2, .ref 13), (3, .ref s2), (4, bI v4)]) (st' := [.ref 13, .ref s2]) l88_1 (fun _ => rfl) ?_
  refine b_gp (q' := 20) (j := 7) l88_2 (by rfl) (by decide) (by decide) rfl hk rfl rfl (b_pc (pc' := 5) rfl ?_)
  refine b_s (pc' := 7) (lv1 := [(0, .ref t), (1, .ref s), (2, .ref 13), (3, .ref s2), (4, bI v4)]) (st' := [bI v4, .ref 20, .ref s2]) l88_5 (fun _ => rfl) ?_
  refine b_g fun g4 => ?_
  refine b_ial l88_7 (by rfl) g4 (b_pc (pc' := 8) rfl ?_)
  refine b_i2l l88_8 (bO_i hk (by rfl)) (b_pc (pc' := 9) rfl ?_)
  refine b_cMv l88_9 rfl (b_rc (ci := 5) hs2 (by decide) (by decide +kernel)) (Nat.le_of_ble_eq_true rfl) (Nat.le_of_ble_eq_true rfl) rfl (r_X6_addRow s2 hs2 (μ 20 v4.toNat) (bR_L (bO_i hk (by rfl)))) fun w1 μ2 hw1 => bD.ok fun hk3 => b_pc (pc' := 12) rfl ?_
  refine b_s (pc' := 13) (lv1 := [(0, .ref t), (1, .ref s), (2, .ref 13), (3, .ref s2), (4, bI v4)]) (st' := [bI 0]) l88_12 (fun _ => rfl) ?_
  refine b_w (pc' := 15) (lv1 := ax_st1 [(0, .ref t), (1, .ref s), (2, .ref 13), (3, .ref s2), (4, bI v4)] 5 (bI 0)) (lv' := [(0, .ref t), (1, .ref s), (2, .ref 13), (3, .ref s2), (4, bI v4), (5, bI 0)]) (st' := []) l88_13 (fun _ => rfl) (bSb rfl (bSb rfl (bSb rfl (bSb rfl (bSb rfl (bSb rfl bSn)))))) ?_
  refine bD.wk (lv' := [(0, .ref t), (1, .ref s), (2, .ref 13), (3, .ref s2), (4, bI v4), (5, bI 0)]) (bSb rfl (bSb rfl (bSb rfl (bSb rfl (bSb rfl (bSb rfl bSn)))))) ?_
  exact p_X9_writeEntry_15 hr ht hs hs2 h4 (by decide)
/-! ET$Writer.writeUnits -/
theorem l87_0 : (ax_dt (ax_T 87)).lookup 0 = some (.aload_n 3, 1, 0, 0, 0) := by decide +kernel
theorem l87_1 : (ax_dt (ax_T 87)).lookup 1 = some (.iconst 0, 1, 0, 0, 0) := by decide +kernel
theorem l87_2 : (ax_dt (ax_T 87)).lookup 2 = some (.invokevirtual 9, 3, 58, 1, 0) := by decide +kernel
theorem l87_5 : (ax_dt (ax_T 87)).lookup 5 = some (.iconst 0, 1, 0, 0, 0) := by decide +kernel
theorem l87_6 : (ax_dt (ax_T 87)).lookup 6 = some (.istore 4, 2, 0, 0, 0) := by decide +kernel
theorem l87_8 : (ax_dt (ax_T 87)).lookup 8 = some (.iload 4, 2, 0, 0, 0) := by decide +kernel
theorem l87_10 : (ax_dt (ax_T 87)).lookup 10 = some (.aload_n 0, 1, 0, 0, 0) := by decide +kernel
theorem l87_11 : (ax_dt (ax_T 87)).lookup 11 = some (.getfield 15, 3, 7, 0, 0) := by decide +kernel
theorem l87_14 : (ax_dt (ax_T 87)).lookup 14 = some (.if_icmp .ge 87, 3, 0, 0, 0) := by decide +kernel
theorem l87_17 : (ax_dt (ax_T 87)).lookup 17 = some (.aload_n 3, 1, 0, 0, 0) := by decide +kernel
theorem l87_18 : (ax_dt (ax_T 87)).lookup 18 = some (.aload_n 2, 1, 0, 0, 0) := by decide +kernel
theorem l87_19 : (ax_dt (ax_T 87)).lookup 19 = some (.getfield 21, 3, 2, 9, 0) := by decide +kernel
theorem l87_22 : (ax_dt (ax_T 87)).lookup 22 = some (.iload 4, 2, 0, 0, 0) := by decide +kernel
theorem l87_24 : (ax_dt (ax_T 87)).lookup 24 = some (.iaload, 1, 0, 0, 0) := by decide +kernel
theorem l87_25 : (ax_dt (ax_T 87)).lookup 25 = some (.iconst 4, 1, 0, 0, 0) := by decide +kernel
theorem l87_26 : (ax_dt (ax_T 87)).lookup 26 = some (.isub, 1, 0, 0, 0) := by decide +kernel
theorem l87_27 : (ax_dt (ax_T 87)).lookup 27 = some (.i2l, 1, 0, 0, 0) := by decide +kernel
theorem l87_28 : (ax_dt (ax_T 87)).lookup 28 = some (.iconst 4, 1, 0, 0, 0) := by decide +kernel
theorem l87_29 : (ax_dt (ax_T 87)).lookup 29 = some (.invokevirtual 27, 3, 61, 2, 0) := by decide +kernel
theorem l87_32 : (ax_dt (ax_T 87)).lookup 32 = some (.aload_n 3, 1, 0, 0, 0) := by decide +kernel
theorem l87_33 : (ax_dt (ax_T 87)).lookup 33 = some (.ldc2_w 31, 3, 0, 0, 4) := by decide +kernel
theorem l87_36 : (ax_dt (ax_T 87)).lookup 36 = some (.iconst 2, 1, 0, 0, 0) := by decide +kernel
theorem l87_37 : (ax_dt (ax_T 87)).lookup 37 = some (.invokevirtual 27, 3, 61, 2, 0) := by decide +kernel
theorem l87_40 : (ax_dt (ax_T 87)).lookup 40 = some (.aload_n 3, 1, 0, 0, 0) := by decide +kernel
theorem l87_41 : (ax_dt (ax_T 87)).lookup 41 = some (.lconst 0, 1, 0, 0, 0) := by decide +kernel
theorem l87_42 : (ax_dt (ax_T 87)).lookup 42 = some (.iconst 4, 1, 0, 0, 0) := by decide +kernel
theorem l87_43 : (ax_dt (ax_T 87)).lookup 43 = some (.invokevirtual 27, 3, 61, 2, 0) := by decide +kernel
theorem l87_46 : (ax_dt (ax_T 87)).lookup 46 = some (.aload_n 3, 1, 0, 0, 0) := by decide +kernel
theorem l87_47 : (ax_dt (ax_T 87)).lookup 47 = some (.bipush 8, 2, 0, 0, 0) := by decide +kernel
theorem l87_49 : (ax_dt (ax_T 87)).lookup 49 = some (.invokevirtual 33, 3, 59, 1, 0) := by decide +kernel
theorem l87_52 : (ax_dt (ax_T 87)).lookup 52 = some (.aload_n 2, 1, 0, 0, 0) := by decide +kernel
theorem l87_53 : (ax_dt (ax_T 87)).lookup 53 = some (.getfield 36, 3, 2, 8, 0) := by decide +kernel
theorem l87_56 : (ax_dt (ax_T 87)).lookup 56 = some (.iload 4, 2, 0, 0, 0) := by decide +kernel
theorem l87_58 : (ax_dt (ax_T 87)).lookup 58 = some (.iaload, 1, 0, 0, 0) := by decide +kernel
theorem l87_59 : (ax_dt (ax_T 87)).lookup 59 = some (.istore 5, 2, 0, 0, 0) := by decide +kernel
theorem l87_61 : (ax_dt (ax_T 87)).lookup 61 = some (.iload 5, 2, 0, 0, 0) := by decide +kernel
theorem l87_63 : (ax_dt (ax_T 87)).lookup 63 = some (.aload_n 2, 1, 0, 0, 0) := by decide +kernel
theorem l87_64 : (ax_dt (ax_T 87)).lookup 64 = some (.getfield 36, 3, 2, 8, 0) := by decide +kernel
theorem l87_67 : (ax_dt (ax_T 87)).lookup 67 = some (.iload 4, 2, 0, 0, 0) := by decide +kernel
theorem l87_69 : (ax_dt (ax_T 87)).lookup 69 = some (.iconst 1, 1, 0, 0, 0) := by decide +kernel
theorem l87_70 : (ax_dt (ax_T 87)).lookup 70 = some (.iadd, 1, 0, 0, 0) := by decide +kernel
theorem l87_71 : (ax_dt (ax_T 87)).lookup 71 = some (.iaload, 1, 0, 0, 0) := by decide +kernel
theorem l87_72 : (ax_dt (ax_T 87)).lookup 72 = some (.if_icmp .ge 23, 3, 0, 0, 0) := by decide +kernel
theorem l87_75 : (ax_dt (ax_T 87)).lookup 75 = some (.aload_n 0, 1, 0, 0, 0) := by decide +kernel
theorem l87_76 : (ax_dt (ax_T 87)).lookup 76 = some (.aload_n 1, 1, 0, 0, 0) := by decide +kernel
theorem l87_77 : (ax_dt (ax_T 87)).lookup 77 = some (.aload_n 2, 1, 0, 0, 0) := by decide +kernel
theorem l87_78 : (ax_dt (ax_T 87)).lookup 78 = some (.aload_n 3, 1, 0, 0, 0) := by decide +kernel
theorem l87_79 : (ax_dt (ax_T 87)).lookup 79 = some (.aload_n 2, 1, 0, 0, 0) := by decide +kernel
theorem l87_80 : (ax_dt (ax_T 87)).lookup 80 = some (.getfield 39, 3, 2, 7, 0) := by decide +kernel
theorem l87_83 : (ax_dt (ax_T 87)).lookup 83 = some (.iload 5, 2, 0, 0, 0) := by decide +kernel
theorem l87_85 : (ax_dt (ax_T 87)).lookup 85 = some (.iaload, 1, 0, 0, 0) := by decide +kernel
theorem l87_86 : (ax_dt (ax_T 87)).lookup 86 = some (.invokestatic 42, 3, 88, 5, 0) := by decide +kernel
theorem l87_89 : (ax_dt (ax_T 87)).lookup 89 = some (.iinc 5 1, 3, 0, 0, 0) := by decide +kernel
theorem l87_92 : (ax_dt (ax_T 87)).lookup 92 = some (.goto (-31), 3, 0, 0, 0) := by decide +kernel
theorem l87_95 : (ax_dt (ax_T 87)).lookup 95 = some (.iinc 4 1, 3, 0, 0, 0) := by decide +kernel
theorem l87_98 : (ax_dt (ax_T 87)).lookup 98 = some (.goto (-90), 3, 0, 0, 0) := by decide +kernel
theorem l87_101 : (ax_dt (ax_T 87)).lookup 101 = some (.return_, 1, 0, 0, 0) := by decide +kernel
noncomputable def F_X9_writeUnits_61 (t : Nat) (s : Nat) (s2 : Nat) (v4 : Int) (v5 : Int) (μ : bM) : Option ((Int × bM) ⊕ ((Int × bM) ⊕ (Int × bM))) := bG (bR (v4 + 1)) (bG (0 ≤ (v4 + 1) ∧ (v4 + 1) < 7) (if (μ 15 (v4 + 1).toNat) ≤ v5 then bG (bR (v4 + 1)) (some (.inr (.inl ((v4 + 1), μ)))) else bG (0 ≤ v5 ∧ v5 < 400) (bMm (F_X9_writeEntry t s s2 (μ 14 v5.toNat) μ) (fun w4 μ5 => bG (bR (v5 + 1)) (some (.inl ((v5 + 1), μ5)))))))
noncomputable def F_X9_writeUnits_8 (t : Nat) (s : Nat) (s2 : Nat) (v4 : Int) (μ : bM) : Option ((Int × bM) ⊕ (Int × bM)) := if (μ t 0) ≤ v4 then some (.inr (0, μ)) else bG (0 ≤ v4 ∧ v4 < 6) (bG (bR ((μ 16 v4.toNat) - 4)) (bMm (F_X6_addLowFirst s2 ((μ 16 v4.toNat) - 4) 4 μ) (fun w3 μ4 => bMm (F_X6_addLowFirst s2 4 2 μ4) (fun w6 μ7 => bMm (F_X6_addLowFirst s2 0 4 μ7) (fun w9 μ10 => bMm (F_X6_add s2 8 μ10) (fun w12 μ13 => bG (0 ≤ v4 ∧ v4 < 7) (bLoop (fun z => F_X9_writeUnits_61 t s s2 v4 z.1 z.2) ((μ13 15 v4.toNat), μ13))))))))
noncomputable def F_X9_writeUnits (t : Nat) (s : Nat) (s2 : Nat) (μ : bM) : Option (Int × bM) := bMm (F_X6_cut s2 0 μ) (fun w1 μ2 => bLoop (fun z => F_X9_writeUnits_8 t s s2 z.1 z.2) (0, μ2))
theorem q_X9_writeUnits_61 {L : Nat} {xs : Nat → Int32} {d : Nat} {μ : bM} {t : Nat} {s : Nat} {s2 : Nat} {v4 : Int} {κ : ((Int × bM) ⊕ ((Int × bM) ⊕ (Int × bM))) → Option bX} (hr : ∀ r : Int × bM, κ (.inr (.inr r)) = (bMc) r) (H8 : ∀ (v4 : Int) (μ : bM), bR v4 → bD L xs (d + 5) 87 8 [(0, .ref t), (1, .ref s), (2, .ref 13), (3, .ref s2), (4, bI v4)] [] μ (κ (.inr (.inl (v4, μ))))) (H61 : ∀ (v5 : Int) (μ : bM), bR v5 → bD L xs (d + 5) 87 61 [(0, .ref t), (1, .ref s), (2, .ref 13), (3, .ref s2), (4, bI v4), (5, bI v5)] [] μ (κ (.inl (v5, μ)))) (ht : bTree t) (hs : bStore s) (hs2 : bStore s2) (h4 : bR v4) {v5 : Int} (h5 : bR v5) : bD L xs (d + 5) 87 61 [(0, .ref t), (1, .ref s), (2, .ref 13), (3, .ref s2), (4, bI v4), (5, bI v5)] [] μ ((F_X9_writeUnits_61 t s s2 v4 v5 μ).bind κ) := by
  unfold F_X9_writeUnits_61
  refine bD.ok fun hk => ?_
  refine b_s (pc' := 63) (lv1 := [(0, .ref t), (1, .ref s), (2, .ref 13), (3, .ref s2), (4, bI v4), (5, bI v5)]) (st' := [bI v5]) l87_61 (fun _ => rfl) ?_
  refine b_s (pc' := 64) (lv1 := [(0, .ref t), (1, .ref s), (2, .ref 13), (3, .ref s2), (4, bI v4), (5, bI v5)]) (st' := [.ref 13, bI v5]) l87_63 (fun _ => rfl) ?_
  refine b_gp (q' := 15) (j := 2) l87_64 (by rfl) (by decide) (by decide) rfl hk rfl rfl (b_pc (pc' := 67) rfl ?_)
  refine b_s (pc' := 69) (lv1 := [(0, .ref t), (1, .ref s), (2, .ref 13), (3, .ref s2), (4, bI v4), (5, bI v5)]) (st' := [bI v4, .ref 15, bI v5]) l87_67 (fun _ => rfl) ?_
  refine b_s (pc' := 70) (lv1 := [(0, .ref t), (1, .ref s), (2, .ref 13), (3, .ref s2), (4, bI v4), (5, bI v5)]) (st' := [bI 1, bI v4, .ref 15, bI v5]) l87_69 (fun _ => rfl) ?_
  refine b_iadd l87_70 fun g1 => (b_pc (pc' := 71) rfl ?_)
  refine b_g fun g9 => ?_
  refine b_ial l87_71 (by rfl) g9 (b_pc (pc' := 72) rfl ?_)
  refine b_ige (pt := 95) l87_72 h5 (bO_i hk (by rfl)) (by decide) rfl (fun c2 => ?_) (fun c2 => b_pc (pc' := 75) rfl ?_)
  · refine b_inc (lv' := [(0, .ref t), (1, .ref s), (2, .ref 13), (3, .ref s2), (4, bI (v4 + 1))]) l87_95 rfl (by decide +kernel) (bSb rfl (bSb rfl (bSb rfl (bSb rfl (bSb rfl bSn))))) fun g3 => (b_pc (pc' := 98) rfl ?_)
    refine b_s (pc' := 8) (lv1 := [(0, .ref t), (1, .ref s), (2, .ref 13), (3, .ref s2), (4, bI (v4 + 1))]) (st' := []) l87_98 (fun _ => rfl) ?_
    refine bD.wk (lv' := [(0, .ref t), (1, .ref s), (2, .ref 13), (3, .ref s2), (4, bI (v4 + 1))]) (bSb rfl (bSb rfl (bSb rfl (bSb rfl (bSb rfl bSn))))) ?_
    exact H8 (v4 + 1) μ g3
  · refine b_s (pc' := 76) (lv1 := [(0, .ref t), (1, .ref s), (2, .ref 13), (3, .ref s2), (4, bI v4), (5, bI v5)]) (st' := [.ref t]) l87_75 (fun _ => rfl) ?_
    refine b_s (pc' := 77) (lv1 := [(0, .ref t), (1, .ref s), (2, .ref 13), (3, .ref s2), (4, bI v4), (5, bI v5)]) (st' := [.ref s, .ref t]) l87_76 (fun _ => rfl) ?_
    refine b_s (pc' := 78) (lv1 := [(0, .ref t), (1, .ref s), (2, .ref 13), (3, .ref s2), (4, bI v4), (5, bI v5)]) (st' := [.ref 13, .ref s, .ref t]) l87_77 (fun _ => rfl) ?_
    refine b_s (pc' := 79) (lv1 := [(0, .ref t), (1, .ref s), (2, .ref 13), (3, .ref s2), (4, bI v4), (5, bI v5)]) (st' := [.ref s2, .ref 13, .ref s, .ref t]) l87_78 (fun _ => rfl) ?_
    refine b_s (pc' := 80) (lv1 := [(0, .ref t), (1, .ref s), (2, .ref 13), (3, .ref s2), (4, bI v4), (5, bI v5)]) (st' := [.ref 13, .ref s2, .ref 13, .ref s, .ref t]) l87_79 (fun _ => rfl) ?_
    refine b_gp (q' := 14) (j := 1) l87_80 (by rfl) (by decide) (by decide) rfl hk rfl rfl (b_pc (pc' := 83) rfl ?_)
    refine b_s (pc' := 85) (lv1 := [(0, .ref t), (1, .ref s), (2, .ref 13), (3, .ref s2), (4, bI v4), (5, bI v5)]) (st' := [bI v5, .ref 14, .ref s2, .ref 13, .ref s, .ref t]) l87_83 (fun _ => rfl) ?_
    refine b_g fun g8 => ?_
    refine b_ial l87_85 (by rfl) g8 (b_pc (pc' := 86) rfl ?_)
    refine b_cMv l87_86 rfl (fun _ => trivial) (Nat.le_of_ble_eq_true rfl) (Nat.le_of_ble_eq_true rfl) rfl (r_X9_writeEntry t ht s hs s2 hs2 (μ 14 v5.toNat) (bO_i hk (by rfl))) fun w4 μ5 hw4 => bD.ok fun hk6 => b_pc (pc' := 89) rfl ?_
    refine b_inc (lv' := [(0, .ref t), (1, .ref s), (2, .ref 13), (3, .ref s2), (4, bI v4), (5, bI (v5 + 1))]) l87_89 rfl (by decide +kernel) (bSb rfl (bSb rfl (bSb rfl (bSb rfl (bSb rfl (bSb rfl bSn)))))) fun g7 => (b_pc (pc' := 92) rfl ?_)
    refine b_s (pc' := 61) (lv1 := [(0, .ref t), (1, .ref s), (2, .ref 13), (3, .ref s2), (4, bI v4), (5, bI (v5 + 1))]) (st' := []) l87_92 (fun _ => rfl) ?_
    refine bD.wk (lv' := [(0, .ref t), (1, .ref s), (2, .ref 13), (3, .ref s2), (4, bI v4), (5, bI (v5 + 1))]) (bSb rfl (bSb rfl (bSb rfl (bSb rfl (bSb rfl (bSb rfl bSn)))))) ?_
    exact H61 (v5 + 1) μ5 g7
theorem p_X9_writeUnits_61 {L : Nat} {xs : Nat → Int32} {d : Nat} {μ : bM} {t : Nat} {s : Nat} {s2 : Nat} {κ : ((Int × bM) ⊕ (Int × bM)) → Option bX} (hr : ∀ r : Int × bM, κ (.inr r) = (bMc) r) (H8 : ∀ (v4 : Int) (μ : bM), bR v4 → bD L xs (d + 5) 87 8 [(0, .ref t), (1, .ref s), (2, .ref 13), (3, .ref s2), (4, bI v4)] [] μ (κ (.inl (v4, μ)))) (ht : bTree t) (hs : bStore s) (hs2 : bStore s2) {v4 : Int} (h4 : bR v4) {v5 : Int} (h5 : bR v5) : bD L xs (d + 5) 87 61 [(0, .ref t), (1, .ref s), (2, .ref 13), (3, .ref s2), (4, bI v4), (5, bI v5)] [] μ ((bLoop (fun z => F_X9_writeUnits_61 t s s2 v4 z.1 z.2) (v5, μ)).bind κ) :=
  b_loop (fun z => [(0, .ref t), (1, .ref s), (2, .ref 13), (3, .ref s2), (4, bI v4), (5, bI z.1)]) (fun z => z.2) (fun z => bR z.1) (fun κ' hκ HH z hz => q_X9_writeUnits_61 (κ := κ') (fun r => (hκ _).trans (hr r)) (fun a4 am b4 => b_eq (hκ _) (H8 a4 am b4)) (fun a5 am b5 => HH (a5, am) b5) ht hs hs2 h4 hz) (v5, μ) h5
theorem q_X9_writeUnits_8 {L : Nat} {xs : Nat → Int32} {d : Nat} {μ : bM} {t : Nat} {s : Nat} {s2 : Nat} {κ : ((Int × bM) ⊕ (Int × bM)) → Option bX} (hr : ∀ r : Int × bM, κ (.inr r) = (bMc) r) (H8 : ∀ (v4 : Int) (μ : bM), bR v4 → bD L xs (d + 5) 87 8 [(0, .ref t), (1, .ref s), (2, .ref 13), (3, .ref s2), (4, bI v4)] [] μ (κ (.inl (v4, μ)))) (ht : bTree t) (hs : bStore s) (hs2 : bStore s2) {v4 : Int} (h4 : bR v4) : bD L xs (d + 5) 87 8 [(0, .ref t), (1, .ref s), (2, .ref 13), (3, .ref s2), (4, bI v4)] [] μ ((F_X9_writeUnits_8 t s s2 v4 μ).bind κ) := by
  unfold F_X9_writeUnits_8
  refine bD.ok fun hk => ?_
  refine b_s (pc' := 10) (lv1 := [(0, .ref t), (1, .ref s), (2, .ref 13), (3, .ref s2), (4, bI v4)]) (st' := [bI v4]) l87_8 (fun _ => rfl) ?_
  refine b_s (pc' := 11) (lv1 := [(0, .ref t), (1, .ref s), (2, .ref 13), (3, .ref s2), (4, bI v4)]) (st' := [.ref t, bI v4]) l87_10 (fun _ => rfl) ?_
  refine b_gi l87_11 ht (by decide) (by decide) rfl (b_pc (pc' := 14) rfl ?_)
  refine b_ige (pt := 101) l87_14 h4 (bO_f hk (ci := 7) ht rfl) (by decide) rfl (fun c1 => ?_) (fun c1 => b_pc (pc' := 17) rfl ?_)
  · exact b_retv l87_101 rfl (hr _)
  · refine b_s (pc' := 18) (lv1 := [(0, .ref t), (1, .ref s), (2, .ref 13), (3, .ref s2), (4, bI v4)]) (st' := [.ref s2]) l87_17 (fun _ => rfl) ?_
    refine b_s (pc' := 19) (lv1 := [(0, .ref t), (1, .ref s), (2, .ref 13), (3, .ref s2), (4, bI v4)]) (st' := [.ref 13, .ref s2]) l87_18 (fun _ => rfl) ?_
    refine b_gp (q' := 16) (j := 3) l87_19 (by rfl) (by decide) (by decide) rfl hk rfl rfl (b_pc (pc' := 22) rfl ?_)
    refine b_s (pc' := 24) (lv1 := [(0, .ref t), (1, .ref s), (2, .ref 13), (3, .ref s2), (4, bI v4)]) (st' := [bI v4, .ref 16, .ref s2]) l87_22 (fun _ => rfl) ?_
    refine b_g fun g16 => ?_
    refine b_ial l87_24 (by rfl) g16 (b_pc (pc' := 25) rfl ?_)
    refine b_s (pc' := 26) (lv1 := [(0, .ref t), (1, .ref s), (2, .ref 13), (3, .ref s2), (4, bI v4)]) (st' := [bI 4, bI (μ 16 v4.toNat), .ref s2]) l87_25 (fun _ => rfl) ?_
    refine b_isub l87_26 fun g2 => (b_pc (pc' := 27) rfl ?_)
    refine b_i2l l87_27 g2 (b_pc (pc' := 28) rfl ?_)
    refine b_s (pc' := 29) (lv1 := [(0, .ref t), (1, .ref s), (2, .ref 13), (3, .ref s2), (4, bI v4)]) (st' := [bI 4, bLg ((μ 16 v4.toNat) - 4), .ref s2]) l87_28 (fun _ => rfl) ?_
    refine b_cMv l87_29 rfl (b_rc (ci := 5) hs2 (by decide) (by decide +kernel)) (Nat.le_of_ble_eq_true rfl) (Nat.le_of_ble_eq_true rfl) rfl (r_X6_addLowFirst s2 hs2 ((μ 16 v4.toNat) - 4) (bR_L g2) 4 (by decide)) fun w3 μ4 hw3 => bD.ok fun hk5 => b_pc (pc' := 32) rfl ?_
    refine b_s (pc' := 33) (lv1 := [(0, .ref t), (1, .ref s), (2, .ref 13), (3, .ref s2), (4, bI v4)]) (st' := [.ref s2]) l87_32 (fun _ => rfl) ?_
    refine b_s (pc' := 36) (lv1 := [(0, .ref t), (1, .ref s), (2, .ref 13), (3, .ref s2), (4, bI v4)]) (st' := [bLg 4, .ref s2]) l87_33 (fun _ => rfl) ?_
    refine b_s (pc' := 37) (lv1 := [(0, .ref t), (1, .ref s), (2, .ref 13), (3, .ref s2), (4, bI v4)]) (st' := [bI 2, bLg 4, .ref s2]) l87_36 (fun _ => rfl) ?_
    refine b_cMv l87_37 rfl (b_rc (ci := 5) hs2 (by decide) (by decide +kernel)) (Nat.le_of_ble_eq_true rfl) (Nat.le_of_ble_eq_true rfl) rfl (r_X6_addLowFirst s2 hs2 4 (by decide) 2 (by decide)) fun w6 μ7 hw6 => bD.ok fun hk8 => b_pc (pc' := 40) rfl ?_
    refine b_s (pc' := 41) (lv1 := [(0, .ref t), (1, .ref s), (2, .ref 13), (3, .ref s2), (4, bI v4)]) (st' := [.ref s2]) l87_40 (fun _ => rfl) ?_
    refine b_lconst (e := 0) l87_41 (by decide) (b_pc (pc' := 42) rfl ?_)
    refine b_s (pc' := 43) (lv1 := [(0, .ref t), (1, .ref s), (2, .ref 13), (3, .ref s2), (4, bI v4)]) (st' := [bI 4, bLg 0, .ref s2]) l87_42 (fun _ => rfl) ?_
    refine b_cMv l87_43 rfl (b_rc (ci := 5) hs2 (by decide) (by decide +kernel)) (Nat.le_of_ble_eq_true rfl) (Nat.le_of_ble_eq_true rfl) rfl (r_X6_addLowFirst s2 hs2 0 (by decide) 4 (by decide)) fun w9 μ10 hw9 => bD.ok fun hk11 => b_pc (pc' := 46) rfl ?_
    refine b_s (pc' := 47) (lv1 := [(0, .ref t), (1, .ref s), (2, .ref 13), (3, .ref s2), (4, bI v4)]) (st' := [.ref s2]) l87_46 (fun _ => rfl) ?_
    refine b_bipush l87_47 (by decide) (b_pc (pc' := 49) rfl ?_)
    refine b_cMv l87_49 rfl (b_rc (ci := 5) hs2 (by decide) (by decide +kernel)) (Nat.le_of_ble_eq_true rfl) (Nat.le_of_ble_eq_true rfl) rfl (r_X6_add s2 hs2 8 (by decide)) fun w12 μ13 hw12 => bD.ok fun hk14 => b_pc (pc' := 52) rfl ?_
    refine b_s (pc' := 53) (lv1 := [(0, .ref t), (1, .ref s), (2, .ref 13), (3, .ref s2), (4, bI v4)]) (st' := [.ref 13]) l87_52 (fun _ => rfl) ?_
    refine b_gp (q' := 15) (j := 2) l87_53 (by rfl) (by decide) (by decide) rfl hk14 rfl rfl (b_pc (pc' := 56) rfl ?_)
    refine b_s (pc' := 58) (lv1 := [(0, .ref t), (1, .ref s), (2, .ref 13), (3, .ref s2), (4, bI v4)]) (st' := [bI v4, .ref 15]) l87_56 (fun _ => rfl) ?_
    refine b_g fun g15 => ?_
    refine b_ial l87_58 (by rfl) g15 (b_pc (pc' := 59) rfl ?_)
    refine b_w (pc' := 61) (lv1 := ax_st1 [(0, .ref t), (1, .ref s), (2, .ref 13), (3, .ref s2), (4, bI v4)] 5 (bI (μ13 15 v4.toNat))) (lv' := [(0, .ref t), (1, .ref s), (2, .ref 13), (3, .ref s2), (4, bI v4), (5, bI (μ13 15 v4.toNat))]) (st' := []) l87_59 (fun _ => rfl) (bSb rfl (bSb rfl (bSb rfl (bSb rfl (bSb rfl (bSb rfl bSn)))))) ?_
    refine bD.wk (lv' := [(0, .ref t), (1, .ref s), (2, .ref 13), (3, .ref s2), (4, bI v4), (5, bI (μ13 15 v4.toNat))]) (bSb rfl (bSb rfl (bSb rfl (bSb rfl (bSb rfl (bSb rfl bSn)))))) ?_
    exact p_X9_writeUnits_61 hr H8 ht hs hs2 h4 (bO_i hk14 (by rfl))
theorem p_X9_writeUnits_8 {L : Nat} {xs : Nat → Int32} {d : Nat} {μ : bM} {t : Nat} {s : Nat} {s2 : Nat} {κ : (Int × bM) → Option bX} (hr : ∀ r : Int × bM, κ r = (bMc) r) (ht : bTree t) (hs : bStore s) (hs2 : bStore s2) {v4 : Int} (h4 : bR v4) : bD L xs (d + 5) 87 8 [(0, .ref t), (1, .ref s), (2, .ref 13), (3, .ref s2), (4, bI v4)] [] μ ((bLoop (fun z => F_X9_writeUnits_8 t s s2 z.1 z.2) (v4, μ)).bind κ) :=
  b_loop (fun z => [(0, .ref t), (1, .ref s), (2, .ref 13), (3, .ref s2), (4, bI z.1)]) (fun z => z.2) (fun z => bR z.1) (fun κ' hκ HH z hz => q_X9_writeUnits_8 (κ := κ') (fun r => (hκ _).trans (hr r)) (fun a4 am b4 => HH (a4, am) b4) ht hs hs2 hz) (v4, μ) h4
theorem r_X9_writeUnits {L : Nat} {xs : Nat → Int32} {d : Nat} {μ : bM} (t : Nat) (ht : bTree t) (s : Nat) (hs : bStore s) (s2 : Nat) (hs2 : bStore s2)  : bD L xs (d + 5) 87 0 [(0, .ref t), (1, .ref s), (2, .ref 13), (3, .ref s2)] [] μ ((F_X9_writeUnits t s s2 μ).bind (bMc)) := by
  have hr : ∀ r, (bMc) r = (bMc) r := fun _ => rfl
  unfold F_X9_writeUnits
  refine bD.ok fun hk => ?_
  refine b_s (pc' := 1) (lv1 := [(0, .ref t), (1, .ref s), (2, .ref 13), (3, .ref s2)]) (st' := [.ref s2]) l87_0 (fun _ => rfl) ?_
  refine b_s (pc' := 2) (lv1 := [(0, .ref t), (1, .ref s), (2, .ref 13), (3, .ref s2)]) (st' := [bI 0, .ref s2]) l87_1 (fun _ => rfl) ?_
  refine b_cMv l87_2 rfl (b_rc (ci := 5) hs2 (by decide) (by decide +kernel)) (Nat.le_of_ble_eq_true rfl) (Nat.le_of_ble_eq_true rfl) rfl (r_X6_cut s2 hs2 0 (by decide)) fun w1 μ2 hw1 => bD.ok fun hk3 => b_pc (pc' := 5) rfl ?_
  refine b_s (pc' := 6) (lv1 := [(0, .ref t), (1, .ref s), (2, .ref 13), (3, .ref s2)]) (st' := [bI 0]) l87_5 (fun _ => rfl) ?_
  refine b_w (pc' := 8) (lv1 := ax_st1 [(0, .ref t), (1, .ref s), (2, .ref 13), (3, .ref s2)] 4 (bI 0)) (lv' := [(0, .ref t), (1, .ref s), (2, .ref 13), (3, .ref s2), (4, bI 0)]) (st' := []) l87_6 (fun _ => rfl) (bSb rfl (bSb rfl (bSb rfl (bSb rfl (bSb rfl bSn))))) ?_
  refine bD.wk (lv' := [(0, .ref t), (1, .ref s), (2, .ref 13), (3, .ref s2), (4, bI 0)]) (bSb rfl (bSb rfl (bSb rfl (bSb rfl (bSb rfl bSn))))) ?_
  exact p_X9_writeUnits_8 hr ht hs hs2 (by decide)
/-! ET$Writer.writeShapes -/
theorem l90_0 : (ax_dt (ax_T 90)).lookup 0 = some (.aload_n 2, 1, 0, 0, 0) := by decide +kernel
theorem l90_1 : (ax_dt (ax_T 90)).lookup 1 = some (.iconst 0, 1, 0, 0, 0) := by decide +kernel
theorem l90_2 : (ax_dt (ax_T 90)).lookup 2 = some (.invokevirtual 9, 3, 58, 1, 0) := by decide +kernel
theorem l90_5 : (ax_dt (ax_T 90)).lookup 5 = some (.iconst 0, 1, 0, 0, 0) := by decide +kernel
theorem l90_6 : (ax_dt (ax_T 90)).lookup 6 = some (.istore_n 3, 1, 0, 0, 0) := by decide +kernel
theorem l90_7 : (ax_dt (ax_T 90)).lookup 7 = some (.iload_n 3, 1, 0, 0, 0) := by decide +kernel
theorem l90_8 : (ax_dt (ax_T 90)).lookup 8 = some (.aload_n 1, 1, 0, 0, 0) := by decide +kernel
theorem l90_9 : (ax_dt (ax_T 90)).lookup 9 = some (.getfield 100, 3, 2, 0, 0) := by decide +kernel
theorem l90_12 : (ax_dt (ax_T 90)).lookup 12 = some (.if_icmp .ge 116, 3, 0, 0, 0) := by decide +kernel
theorem l90_15 : (ax_dt (ax_T 90)).lookup 15 = some (.aload_n 1, 1, 0, 0, 0) := by decide +kernel
theorem l90_16 : (ax_dt (ax_T 90)).lookup 16 = some (.getfield 103, 3, 2, 14, 0) := by decide +kernel
theorem l90_19 : (ax_dt (ax_T 90)).lookup 19 = some (.iload_n 3, 1, 0, 0, 0) := by decide +kernel
theorem l90_20 : (ax_dt (ax_T 90)).lookup 20 = some (.iaload, 1, 0, 0, 0) := by decide +kernel
theorem l90_21 : (ax_dt (ax_T 90)).lookup 21 = some (.istore 4, 2, 0, 0, 0) := by decide +kernel
theorem l90_23 : (ax_dt (ax_T 90)).lookup 23 = some (.aload_n 2, 1, 0, 0, 0) := by decide +kernel
theorem l90_24 : (ax_dt (ax_T 90)).lookup 24 = some (.iload_n 3, 1, 0, 0, 0) := by decide +kernel
theorem l90_25 : (ax_dt (ax_T 90)).lookup 25 = some (.iconst 1, 1, 0, 0, 0) := by decide +kernel
theorem l90_26 : (ax_dt (ax_T 90)).lookup 26 = some (.iadd, 1, 0, 0, 0) := by decide +kernel
theorem l90_27 : (ax_dt (ax_T 90)).lookup 27 = some (.i2l, 1, 0, 0, 0) := by decide +kernel
theorem l90_28 : (ax_dt (ax_T 90)).lookup 28 = some (.invokevirtual 51, 3, 62, 1, 0) := by decide +kernel
theorem l90_31 : (ax_dt (ax_T 90)).lookup 31 = some (.aload_n 2, 1, 0, 0, 0) := by decide +kernel
theorem l90_32 : (ax_dt (ax_T 90)).lookup 32 = some (.aload_n 0, 1, 0, 0, 0) := by decide +kernel
theorem l90_33 : (ax_dt (ax_T 90)).lookup 33 = some (.getfield 106, 3, 7, 3, 0) := by decide +kernel
theorem l90_36 : (ax_dt (ax_T 90)).lookup 36 = some (.iload 4, 2, 0, 0, 0) := by decide +kernel
theorem l90_38 : (ax_dt (ax_T 90)).lookup 38 = some (.iaload, 1, 0, 0, 0) := by decide +kernel
theorem l90_39 : (ax_dt (ax_T 90)).lookup 39 = some (.i2l, 1, 0, 0, 0) := by decide +kernel
theorem l90_40 : (ax_dt (ax_T 90)).lookup 40 = some (.invokevirtual 51, 3, 62, 1, 0) := by decide +kernel
theorem l90_43 : (ax_dt (ax_T 90)).lookup 43 = some (.aload_n 2, 1, 0, 0, 0) := by decide +kernel
theorem l90_44 : (ax_dt (ax_T 90)).lookup 44 = some (.aload_n 0, 1, 0, 0, 0) := by decide +kernel
theorem l90_45 : (ax_dt (ax_T 90)).lookup 45 = some (.getfield 109, 3, 7, 7, 0) := by decide +kernel
theorem l90_48 : (ax_dt (ax_T 90)).lookup 48 = some (.iload 4, 2, 0, 0, 0) := by decide +kernel
theorem l90_50 : (ax_dt (ax_T 90)).lookup 50 = some (.iaload, 1, 0, 0, 0) := by decide +kernel
theorem l90_51 : (ax_dt (ax_T 90)).lookup 51 = some (.ifCond .le 7, 3, 0, 0, 0) := by decide +kernel
theorem l90_54 : (ax_dt (ax_T 90)).lookup 54 = some (.iconst 1, 1, 0, 0, 0) := by decide +kernel
theorem l90_55 : (ax_dt (ax_T 90)).lookup 55 = some (.goto 4, 3, 0, 0, 0) := by decide +kernel
theorem l90_58 : (ax_dt (ax_T 90)).lookup 58 = some (.iconst 0, 1, 0, 0, 0) := by decide +kernel
theorem l90_59 : (ax_dt (ax_T 90)).lookup 59 = some (.invokevirtual 33, 3, 59, 1, 0) := by decide +kernel
theorem l90_62 : (ax_dt (ax_T 90)).lookup 62 = some (.iconst 0, 1, 0, 0, 0) := by decide +kernel
theorem l90_63 : (ax_dt (ax_T 90)).lookup 63 = some (.istore 5, 2, 0, 0, 0) := by decide +kernel
theorem l90_65 : (ax_dt (ax_T 90)).lookup 65 = some (.iload 5, 2, 0, 0, 0) := by decide +kernel
theorem l90_67 : (ax_dt (ax_T 90)).lookup 67 = some (.aload_n 0, 1, 0, 0, 0) := by decide +kernel
theorem l90_68 : (ax_dt (ax_T 90)).lookup 68 = some (.getfield 55, 3, 7, 11, 0) := by decide +kernel
theorem l90_71 : (ax_dt (ax_T 90)).lookup 71 = some (.iload 4, 2, 0, 0, 0) := by decide +kernel
theorem l90_73 : (ax_dt (ax_T 90)).lookup 73 = some (.iaload, 1, 0, 0, 0) := by decide +kernel
theorem l90_74 : (ax_dt (ax_T 90)).lookup 74 = some (.if_icmp .ge 42, 3, 0, 0, 0) := by decide +kernel
theorem l90_77 : (ax_dt (ax_T 90)).lookup 77 = some (.iload 4, 2, 0, 0, 0) := by decide +kernel
theorem l90_79 : (ax_dt (ax_T 90)).lookup 79 = some (.iload 5, 2, 0, 0, 0) := by decide +kernel
theorem l90_81 : (ax_dt (ax_T 90)).lookup 81 = some (.invokestatic 58, 3, 78, 2, 0) := by decide +kernel
theorem l90_84 : (ax_dt (ax_T 90)).lookup 84 = some (.istore 6, 2, 0, 0, 0) := by decide +kernel
theorem l90_86 : (ax_dt (ax_T 90)).lookup 86 = some (.aload_n 2, 1, 0, 0, 0) := by decide +kernel
theorem l90_87 : (ax_dt (ax_T 90)).lookup 87 = some (.aload_n 0, 1, 0, 0, 0) := by decide +kernel
theorem l90_88 : (ax_dt (ax_T 90)).lookup 88 = some (.getfield 112, 3, 7, 12, 0) := by decide +kernel
theorem l90_91 : (ax_dt (ax_T 90)).lookup 91 = some (.iload 6, 2, 0, 0, 0) := by decide +kernel
theorem l90_93 : (ax_dt (ax_T 90)).lookup 93 = some (.iaload, 1, 0, 0, 0) := by decide +kernel
theorem l90_94 : (ax_dt (ax_T 90)).lookup 94 = some (.i2l, 1, 0, 0, 0) := by decide +kernel
theorem l90_95 : (ax_dt (ax_T 90)).lookup 95 = some (.invokevirtual 51, 3, 62, 1, 0) := by decide +kernel
theorem l90_98 : (ax_dt (ax_T 90)).lookup 98 = some (.aload_n 2, 1, 0, 0, 0) := by decide +kernel
theorem l90_99 : (ax_dt (ax_T 90)).lookup 99 = some (.aload_n 0, 1, 0, 0, 0) := by decide +kernel
theorem l90_100 : (ax_dt (ax_T 90)).lookup 100 = some (.getfield 72, 3, 7, 13, 0) := by decide +kernel
theorem l90_103 : (ax_dt (ax_T 90)).lookup 103 = some (.iload 6, 2, 0, 0, 0) := by decide +kernel
theorem l90_105 : (ax_dt (ax_T 90)).lookup 105 = some (.iaload, 1, 0, 0, 0) := by decide +kernel
theorem l90_106 : (ax_dt (ax_T 90)).lookup 106 = some (.i2l, 1, 0, 0, 0) := by decide +kernel
theorem l90_107 : (ax_dt (ax_T 90)).lookup 107 = some (.invokevirtual 51, 3, 62, 1, 0) := by decide +kernel
theorem l90_110 : (ax_dt (ax_T 90)).lookup 110 = some (.iinc 5 1, 3, 0, 0, 0) := by decide +kernel
theorem l90_113 : (ax_dt (ax_T 90)).lookup 113 = some (.goto (-48), 3, 0, 0, 0) := by decide +kernel
theorem l90_116 : (ax_dt (ax_T 90)).lookup 116 = some (.aload_n 2, 1, 0, 0, 0) := by decide +kernel
theorem l90_117 : (ax_dt (ax_T 90)).lookup 117 = some (.lconst 0, 1, 0, 0, 0) := by decide +kernel
theorem l90_118 : (ax_dt (ax_T 90)).lookup 118 = some (.iconst 2, 1, 0, 0, 0) := by decide +kernel
theorem l90_119 : (ax_dt (ax_T 90)).lookup 119 = some (.invokevirtual 27, 3, 61, 2, 0) := by decide +kernel
theorem l90_122 : (ax_dt (ax_T 90)).lookup 122 = some (.iinc 3 1, 3, 0, 0, 0) := by decide +kernel
theorem l90_125 : (ax_dt (ax_T 90)).lookup 125 = some (.goto (-118), 3, 0, 0, 0) := by decide +kernel
theorem l90_128 : (ax_dt (ax_T 90)).lookup 128 = some (.aload_n 2, 1, 0, 0, 0) := by decide +kernel
theorem l90_129 : (ax_dt (ax_T 90)).lookup 129 = some (.iconst 0, 1, 0, 0, 0) := by decide +kernel
theorem l90_130 : (ax_dt (ax_T 90)).lookup 130 = some (.invokevirtual 33, 3, 59, 1, 0) := by decide +kernel
theorem l90_133 : (ax_dt (ax_T 90)).lookup 133 = some (.return_, 1, 0, 0, 0) := by decide +kernel
noncomputable def F_X9_writeShapes_65 (t : Nat) (s : Nat) (v3 : Int) (v4 : Int) (v5 : Int) (μ : bM) : Option ((Int × bM) ⊕ ((Int × bM) ⊕ (Int × bM))) := bG (0 ≤ v4 ∧ v4 < 400) (if (μ (t + 10) v4.toNat) ≤ v5 then bMm (F_X6_addLowFirst s 0 2 μ) (fun w2 μ3 => bG (bR (v3 + 1)) (some (.inr (.inl ((v3 + 1), μ3))))) else (F_X8_slotAt v4 v5 μ).bind fun w6 => bG (0 ≤ w6 ∧ w6 < 3200) (bMm (F_X6_addRow s (μ (t + 11) w6.toNat) μ) (fun w7 μ8 => bG (0 ≤ w6 ∧ w6 < 3200) (bMm (F_X6_addRow s (μ8 (t + 12) w6.toNat) μ8) (fun w10 μ11 => bG (bR (v5 + 1)) (some (.inl ((v5 + 1), μ11))))))))
noncomputable def F_X9_writeShapes_7 (t : Nat) (s : Nat) (v3 : Int) (μ : bM) : Option ((Int × bM) ⊕ (Int × bM)) := if (μ 13 0) ≤ v3 then bMm (F_X6_add s 0 μ) (fun w2 μ3 => some (.inr (0, μ3))) else bG (0 ≤ v3 ∧ v3 < 400) (bG (bR (v3 + 1)) (bMm (F_X6_addRow s (v3 + 1) μ) (fun w6 μ7 => bG (0 ≤ (μ 21 v3.toNat) ∧ (μ 21 v3.toNat) < 400) (bMm (F_X6_addRow s (μ7 (t + 2) (μ 21 v3.toNat).toNat) μ7) (fun w9 μ10 => bG (0 ≤ (μ 21 v3.toNat) ∧ (μ 21 v3.toNat) < 400) (if (μ10 (t + 6) (μ 21 v3.toNat).toNat) ≤ 0 then bMm (F_X6_add s 0 μ10) (fun w13 μ14 => bLoop (fun z => F_X9_writeShapes_65 t s v3 (μ 21 v3.toNat) z.1 z.2) (0, μ14)) else bMm (F_X6_add s 1 μ10) (fun w16 μ17 => bLoop (fun z => F_X9_writeShapes_65 t s v3 (μ 21 v3.toNat) z.1 z.2) (0, μ17))))))))
noncomputable def F_X9_writeShapes (t : Nat) (s : Nat) (μ : bM) : Option (Int × bM) := bMm (F_X6_cut s 0 μ) (fun w1 μ2 => bLoop (fun z => F_X9_writeShapes_7 t s z.1 z.2) (0, μ2))
theorem q_X9_writeShapes_65 {L : Nat} {xs : Nat → Int32} {d : Nat} {μ : bM} {t : Nat} {s : Nat} {v3 : Int} {v4 : Int} {κ : ((Int × bM) ⊕ ((Int × bM) ⊕ (Int × bM))) → Option bX} (hr : ∀ r : Int × bM, κ (.inr (.inr r)) = (bMc) r) (H7 : ∀ (v3 : Int) (μ : bM), bR v3 → bD L xs (d + 3) 90 7 [(0, .ref t), (1, .ref 13), (2, .ref s), (3, bI v3)] [] μ (κ (.inr (.inl (v3, μ))))) (H65 : ∀ (v5 : Int) (μ : bM), bR v5 → bD L xs (d + 3) 90 65 [(0, .ref t), (1, .ref 13), (2, .ref s), (3, bI v3), (4, bI v4), (5, bI v5)] [] μ (κ (.inl (v5, μ)))) (ht : bTree t) (hs : bStore s) (h3 : bR v3) (h4 : bR v4) {v5 : Int} (h5 : bR v5) : bD L xs (d + 3) 90 65 [(0, .ref t), (1, .ref 13), (2, .ref s), (3, bI v3), (4, bI v4), (5, bI v5)] [] μ ((F_X9_writeShapes_65 t s v3 v4 v5 μ).bind κ) := by
  unfold F_X9_writeShapes_65
  refine bD.ok fun hk => ?_
  refine b_s (pc' := 67) (lv1 := [(0, .ref t), (1, .ref 13), (2, .ref s), (3, bI v3), (4, bI v4), (5, bI v5)]) (st' := [bI v5]) l90_65 (fun _ => rfl) ?_
  refine b_s (pc' := 68) (lv1 := [(0, .ref t), (1, .ref 13), (2, .ref s), (3, bI v3), (4, bI v4), (5, bI v5)]) (st' := [.ref t, bI v5]) l90_67 (fun _ => rfl) ?_
  refine b_gp (q' := (t + 10)) (j := 10) l90_68 ht (by decide) (by decide) rfl hk rfl rfl (b_pc (pc' := 71) rfl ?_)
  refine b_s (pc' := 73) (lv1 := [(0, .ref t), (1, .ref 13), (2, .ref s), (3, bI v3), (4, bI v4), (5, bI v5)]) (st' := [bI v4, .ref (t + 10), bI v5]) l90_71 (fun _ => rfl) ?_
  refine b_g fun g16 => ?_
  refine b_ial l90_73 (bTree_e ht 10 (by decide)) g16 (b_pc (pc' := 74) rfl ?_)
  refine b_ige (pt := 116) l90_74 h5 (bO_i hk (bTree_e ht 10 (by decide))) (by decide) rfl (fun c1 => ?_) (fun c1 => b_pc (pc' := 77) rfl ?_)
  · refine b_s (pc' := 117) (lv1 := [(0, .ref t), (1, .ref 13), (2, .ref s), (3, bI v3), (4, bI v4), (5, bI v5)]) (st' := [.ref s]) l90_116 (fun _ => rfl) ?_
    refine b_lconst (e := 0) l90_117 (by decide) (b_pc (pc' := 118) rfl ?_)
    refine b_s (pc' := 119) (lv1 := [(0, .ref t), (1, .ref 13), (2, .ref s), (3, bI v3), (4, bI v4), (5, bI v5)]) (st' := [bI 2, bLg 0, .ref s]) l90_118 (fun _ => rfl) ?_
    refine b_cMv l90_119 rfl (b_rc (ci := 5) hs (by decide) (by decide +kernel)) (Nat.le_of_ble_eq_true rfl) (Nat.le_of_ble_eq_true rfl) rfl (r_X6_addLowFirst s hs 0 (by decide) 2 (by decide)) fun w2 μ3 hw2 => bD.ok fun hk4 => b_pc (pc' := 122) rfl ?_
    refine b_inc (lv' := [(0, .ref t), (1, .ref 13), (2, .ref s), (3, bI (v3 + 1))]) l90_122 rfl (by decide +kernel) (bSb rfl (bSb rfl (bSb rfl (bSb rfl bSn)))) fun g5 => (b_pc (pc' := 125) rfl ?_)
    refine b_s (pc' := 7) (lv1 := [(0, .ref t), (1, .ref 13), (2, .ref s), (3, bI (v3 + 1))]) (st' := []) l90_125 (fun _ => rfl) ?_
    refine bD.wk (lv' := [(0, .ref t), (1, .ref 13), (2, .ref s), (3, bI (v3 + 1))]) (bSb rfl (bSb rfl (bSb rfl (bSb rfl bSn)))) ?_
    exact H7 (v3 + 1) μ3 g5
  · refine b_s (pc' := 79) (lv1 := [(0, .ref t), (1, .ref 13), (2, .ref s), (3, bI v3), (4, bI v4), (5, bI v5)]) (st' := [bI v4]) l90_77 (fun _ => rfl) ?_
    refine b_s (pc' := 81) (lv1 := [(0, .ref t), (1, .ref 13), (2, .ref s), (3, bI v3), (4, bI v4), (5, bI v5)]) (st' := [bI v5, bI v4]) l90_79 (fun _ => rfl) ?_
    refine b_cPi l90_81 rfl (fun _ => trivial) (Nat.le_of_ble_eq_true rfl) (Nat.le_of_ble_eq_true rfl) rfl (r_X8_slotAt v4 h4 v5 h5) fun w6 hw6 => b_pc (pc' := 84) rfl ?_
    refine b_w (pc' := 86) (lv1 := ax_st1 [(0, .ref t), (1, .ref 13), (2, .ref s), (3, bI v3), (4, bI v4), (5, bI v5)] 6 (bI w6)) (lv' := [(0, .ref t), (1, .ref 13), (2, .ref s), (3, bI v3), (4, bI v4), (5, bI v5), (6, bI w6)]) (st' := []) l90_84 (fun _ => rfl) (bSb rfl (bSb rfl (bSb rfl (bSb rfl (bSb rfl (bSb rfl (bSb rfl bSn))))))) ?_
    refine b_s (pc' := 87) (lv1 := [(0, .ref t), (1, .ref 13), (2, .ref s), (3, bI v3), (4, bI v4), (5, bI v5), (6, bI w6)]) (st' := [.ref s]) l90_86 (fun _ => rfl) ?_
    refine b_s (pc' := 88) (lv1 := [(0, .ref t), (1, .ref 13), (2, .ref s), (3, bI v3), (4, bI v4), (5, bI v5), (6, bI w6)]) (st' := [.ref t, .ref s]) l90_87 (fun _ => rfl) ?_
    refine b_gp (q' := (t + 11)) (j := 11) l90_88 ht (by decide) (by decide) rfl hk rfl rfl (b_pc (pc' := 91) rfl ?_)
    refine b_s (pc' := 93) (lv1 := [(0, .ref t), (1, .ref 13), (2, .ref s), (3, bI v3), (4, bI v4), (5, bI v5), (6, bI w6)]) (st' := [bI w6, .ref (t + 11), .ref s]) l90_91 (fun _ => rfl) ?_
    refine b_g fun g15 => ?_
    refine b_ial l90_93 (bTree_n ht) g15 (b_pc (pc' := 94) rfl ?_)
    refine b_i2l l90_94 (bO_i hk (bTree_n ht)) (b_pc (pc' := 95) rfl ?_)
    refine b_cMv l90_95 rfl (b_rc (ci := 5) hs (by decide) (by decide +kernel)) (Nat.le_of_ble_eq_true rfl) (Nat.le_of_ble_eq_true rfl) rfl (r_X6_addRow s hs (μ (t + 11) w6.toNat) (bR_L (bO_i hk (bTree_n ht)))) fun w7 μ8 hw7 => bD.ok fun hk9 => b_pc (pc' := 98) rfl ?_
    refine b_s (pc' := 99) (lv1 := [(0, .ref t), (1, .ref 13), (2, .ref s), (3, bI v3), (4, bI v4), (5, bI v5), (6, bI w6)]) (st' := [.ref s]) l90_98 (fun _ => rfl) ?_
    refine b_s (pc' := 100) (lv1 := [(0, .ref t), (1, .ref 13), (2, .ref s), (3, bI v3), (4, bI v4), (5, bI v5), (6, bI w6)]) (st' := [.ref t, .ref s]) l90_99 (fun _ => rfl) ?_
    refine b_gp (q' := (t + 12)) (j := 12) l90_100 ht (by decide) (by decide) rfl hk9 rfl rfl (b_pc (pc' := 103) rfl ?_)
    refine b_s (pc' := 105) (lv1 := [(0, .ref t), (1, .ref 13), (2, .ref s), (3, bI v3), (4, bI v4), (5, bI v5), (6, bI w6)]) (st' := [bI w6, .ref (t + 12), .ref s]) l90_103 (fun _ => rfl) ?_
    refine b_g fun g14 => ?_
    refine b_ial l90_105 (bTree_f ht) g14 (b_pc (pc' := 106) rfl ?_)
    refine b_i2l l90_106 (bO_i hk9 (bTree_f ht)) (b_pc (pc' := 107) rfl ?_)
    refine b_cMv l90_107 rfl (b_rc (ci := 5) hs (by decide) (by decide +kernel)) (Nat.le_of_ble_eq_true rfl) (Nat.le_of_ble_eq_true rfl) rfl (r_X6_addRow s hs (μ8 (t + 12) w6.toNat) (bR_L (bO_i hk9 (bTree_f ht)))) fun w10 μ11 hw10 => bD.ok fun hk12 => b_pc (pc' := 110) rfl ?_
    refine b_inc (lv' := [(0, .ref t), (1, .ref 13), (2, .ref s), (3, bI v3), (4, bI v4), (5, bI (v5 + 1))]) l90_110 rfl (by decide +kernel) (bSb rfl (bSb rfl (bSb rfl (bSb rfl (bSb rfl (bSb rfl bSn)))))) fun g13 => (b_pc (pc' := 113) rfl ?_)
    refine b_s (pc' := 65) (lv1 := [(0, .ref t), (1, .ref 13), (2, .ref s), (3, bI v3), (4, bI v4), (5, bI (v5 + 1))]) (st' := []) l90_113 (fun _ => rfl) ?_
    refine bD.wk (lv' := [(0, .ref t), (1, .ref 13), (2, .ref s), (3, bI v3), (4, bI v4), (5, bI (v5 + 1))]) (bSb rfl (bSb rfl (bSb rfl (bSb rfl (bSb rfl (bSb rfl bSn)))))) ?_
    exact H65 (v5 + 1) μ11 g13
theorem p_X9_writeShapes_65 {L : Nat} {xs : Nat → Int32} {d : Nat} {μ : bM} {t : Nat} {s : Nat} {κ : ((Int × bM) ⊕ (Int × bM)) → Option bX} (hr : ∀ r : Int × bM, κ (.inr r) = (bMc) r) (H7 : ∀ (v3 : Int) (μ : bM), bR v3 → bD L xs (d + 3) 90 7 [(0, .ref t), (1, .ref 13), (2, .ref s), (3, bI v3)] [] μ (κ (.inl (v3, μ)))) (ht : bTree t) (hs : bStore s) {v3 : Int} (h3 : bR v3) {v4 : Int} (h4 : bR v4) {v5 : Int} (h5 : bR v5) : bD L xs (d + 3) 90 65 [(0, .ref t), (1, .ref 13), (2, .ref s), (3, bI v3), (4, bI v4), (5, bI v5)] [] μ ((bLoop (fun z => F_X9_writeShapes_65 t s v3 v4 z.1 z.2) (v5, μ)).bind κ) :=
  b_loop (fun z => [(0, .ref t), (1, .ref 13), (2, .ref s), (3, bI v3), (4, bI v4), (5, bI z.1)]) (fun z => z.2) (fun z => bR z.1) (fun κ' hκ HH z hz => q_X9_writeShapes_65 (κ := κ') (fun r => (hκ _).trans (hr r)) (fun a3 am b3 => b_eq (hκ _) (H7 a3 am b3)) (fun a5 am b5 => HH (a5, am) b5) ht hs h3 h4 hz) (v5, μ) h5
theorem q_X9_writeShapes_7 {L : Nat} {xs : Nat → Int32} {d : Nat} {μ : bM} {t : Nat} {s : Nat} {κ : ((Int × bM) ⊕ (Int × bM)) → Option bX} (hr : ∀ r : Int × bM, κ (.inr r) = (bMc) r) (H7 : ∀ (v3 : Int) (μ : bM), bR v3 → bD L xs (d + 3) 90 7 [(0, .ref t), (1, .ref 13), (2, .ref s), (3, bI v3)] [] μ (κ (.inl (v3, μ)))) (ht : bTree t) (hs : bStore s) {v3 : Int} (h3 : bR v3) : bD L xs (d + 3) 90 7 [(0, .ref t), (1, .ref 13), (2, .ref s), (3, bI v3)] [] μ ((F_X9_writeShapes_7 t s v3 μ).bind κ) := by
  unfold F_X9_writeShapes_7
  refine bD.ok fun hk => ?_
  refine b_s (pc' := 8) (lv1 := [(0, .ref t), (1, .ref 13), (2, .ref s), (3, bI v3)]) (st' := [bI v3]) l90_7 (fun _ => rfl) ?_
  refine b_s (pc' := 9) (lv1 := [(0, .ref t), (1, .ref 13), (2, .ref s), (3, bI v3)]) (st' := [.ref 13, bI v3]) l90_8 (fun _ => rfl) ?_
  refine b_gi l90_9 (by rfl) (by decide) (by decide) rfl (b_pc (pc' := 12) rfl ?_)
  refine b_ige (pt := 128) l90_12 h3 (bO_f hk (ci := 2) (by rfl) rfl) (by decide) rfl (fun c1 => ?_) (fun c1 => b_pc (pc' := 15) rfl ?_)
  · refine b_s (pc' := 129) (lv1 := [(0, .ref t), (1, .ref 13), (2, .ref s), (3, bI v3)]) (st' := [.ref s]) l90_128 (fun _ => rfl) ?_
    refine b_s (pc' := 130) (lv1 := [(0, .ref t), (1, .ref 13), (2, .ref s), (3, bI v3)]) (st' := [bI 0, .ref s]) l90_129 (fun _ => rfl) ?_
    refine b_cMv l90_130 rfl (b_rc (ci := 5) hs (by decide) (by decide +kernel)) (Nat.le_of_ble_eq_true rfl) (Nat.le_of_ble_eq_true rfl) rfl (r_X6_add s hs 0 (by decide)) fun w2 μ3 hw2 => bD.ok fun hk4 => b_pc (pc' := 133) rfl ?_
    exact b_retv l90_133 rfl (hr _)
  · refine b_s (pc' := 16) (lv1 := [(0, .ref t), (1, .ref 13), (2, .ref s), (3, bI v3)]) (st' := [.ref 13]) l90_15 (fun _ => rfl) ?_
    refine b_gp (q' := 21) (j := 8) l90_16 (by rfl) (by decide) (by decide) rfl hk rfl rfl (b_pc (pc' := 19) rfl ?_)
    refine b_s (pc' := 20) (lv1 := [(0, .ref t), (1, .ref 13), (2, .ref s), (3, bI v3)]) (st' := [bI v3, .ref 21]) l90_19 (fun _ => rfl) ?_
    refine b_g fun g21 => ?_
    refine b_ial l90_20 (by rfl) g21 (b_pc (pc' := 21) rfl ?_)
    refine b_w (pc' := 23) (lv1 := ax_st1 [(0, .ref t), (1, .ref 13), (2, .ref s), (3, bI v3)] 4 (bI (μ 21 v3.toNat))) (lv' := [(0, .ref t), (1, .ref 13), (2, .ref s), (3, bI v3), (4, bI (μ 21 v3.toNat))]) (st' := []) l90_21 (fun _ => rfl) (bSb rfl (bSb rfl (bSb rfl (bSb rfl (bSb rfl bSn))))) ?_
    refine b_s (pc' := 24) (lv1 := [(0, .ref t), (1, .ref 13), (2, .ref s), (3, bI v3), (4, bI (μ 21 v3.toNat))]) (st' := [.ref s]) l90_23 (fun _ => rfl) ?_
    refine b_s (pc' := 25) (lv1 := [(0, .ref t), (1, .ref 13), (2, .ref s), (3, bI v3), (4, bI (μ 21 v3.toNat))]) (st' := [bI v3, .ref s]) l90_24 (fun _ => rfl) ?_
    refine b_s (pc' := 26) (lv1 := [(0, .ref t), (1, .ref 13), (2, .ref s), (3, bI v3), (4, bI (μ 21 v3.toNat))]) (st' := [bI 1, bI v3, .ref s]) l90_25 (fun _ => rfl) ?_
    refine b_iadd l90_26 fun g5 => (b_pc (pc' := 27) rfl ?_)
    refine b_i2l l90_27 g5 (b_pc (pc' := 28) rfl ?_)
    refine b_cMv l90_28 rfl (b_rc (ci := 5) hs (by decide) (by decide +kernel)) (Nat.le_of_ble_eq_true rfl) (Nat.le_of_ble_eq_true rfl) rfl (r_X6_addRow s hs (v3 + 1) (bR_L g5)) fun w6 μ7 hw6 => bD.ok fun hk8 => b_pc (pc' := 31) rfl ?_
    refine b_s (pc' := 32) (lv1 := [(0, .ref t), (1, .ref 13), (2, .ref s), (3, bI v3), (4, bI (μ 21 v3.toNat))]) (st' := [.ref s]) l90_31 (fun _ => rfl) ?_
    refine b_s (pc' := 33) (lv1 := [(0, .ref t), (1, .ref 13), (2, .ref s), (3, bI v3), (4, bI (μ 21 v3.toNat))]) (st' := [.ref t, .ref s]) l90_32 (fun _ => rfl) ?_
    refine b_gp (q' := (t + 2)) (j := 2) l90_33 ht (by decide) (by decide) rfl hk8 rfl rfl (b_pc (pc' := 36) rfl ?_)
    refine b_s (pc' := 38) (lv1 := [(0, .ref t), (1, .ref 13), (2, .ref s), (3, bI v3), (4, bI (μ 21 v3.toNat))]) (st' := [bI (μ 21 v3.toNat), .ref (t + 2), .ref s]) l90_36 (fun _ => rfl) ?_
    refine b_g fun g20 => ?_
    refine b_ial l90_38 (bTree_e ht 2 (by decide)) g20 (b_pc (pc' := 39) rfl ?_)
    refine b_i2l l90_39 (bO_i hk8 (bTree_e ht 2 (by decide))) (b_pc (pc' := 40) rfl ?_)
    refine b_cMv l90_40 rfl (b_rc (ci := 5) hs (by decide) (by decide +kernel)) (Nat.le_of_ble_eq_true rfl) (Nat.le_of_ble_eq_true rfl) rfl (r_X6_addRow s hs (μ7 (t + 2) (μ 21 v3.toNat).toNat) (bR_L (bO_i hk8 (bTree_e ht 2 (by decide))))) fun w9 μ10 hw9 => bD.ok fun hk11 => b_pc (pc' := 43) rfl ?_
    refine b_s (pc' := 44) (lv1 := [(0, .ref t), (1, .ref 13), (2, .ref s), (3, bI v3), (4, bI (μ 21 v3.toNat))]) (st' := [.ref s]) l90_43 (fun _ => rfl) ?_
    refine b_s (pc' := 45) (lv1 := [(0, .ref t), (1, .ref 13), (2, .ref s), (3, bI v3), (4, bI (μ 21 v3.toNat))]) (st' := [.ref t, .ref s]) l90_44 (fun _ => rfl) ?_
    refine b_gp (q' := (t + 6)) (j := 6) l90_45 ht (by decide) (by decide) rfl hk11 rfl rfl (b_pc (pc' := 48) rfl ?_)
    refine b_s (pc' := 50) (lv1 := [(0, .ref t), (1, .ref 13), (2, .ref s), (3, bI v3), (4, bI (μ 21 v3.toNat))]) (st' := [bI (μ 21 v3.toNat), .ref (t + 6), .ref s]) l90_48 (fun _ => rfl) ?_
    refine b_g fun g19 => ?_
    refine b_ial l90_50 (bTree_e ht 6 (by decide)) g19 (b_pc (pc' := 51) rfl ?_)
    refine b_zle (pt := 58) l90_51 (bO_i hk11 (bTree_e ht 6 (by decide))) (by decide) rfl (fun c12 => ?_) (fun c12 => b_pc (pc' := 54) rfl ?_)
    · refine b_s (pc' := 59) (lv1 := [(0, .ref t), (1, .ref 13), (2, .ref s), (3, bI v3), (4, bI (μ 21 v3.toNat))]) (st' := [bI 0, .ref s]) l90_58 (fun _ => rfl) ?_
      refine b_cMv l90_59 rfl (b_rc (ci := 5) hs (by decide) (by decide +kernel)) (Nat.le_of_ble_eq_true rfl) (Nat.le_of_ble_eq_true rfl) rfl (r_X6_add s hs 0 (by decide)) fun w13 μ14 hw13 => bD.ok fun hk15 => b_pc (pc' := 62) rfl ?_
      refine b_s (pc' := 63) (lv1 := [(0, .ref t), (1, .ref 13), (2, .ref s), (3, bI v3), (4, bI (μ 21 v3.toNat))]) (st' := [bI 0]) l90_62 (fun _ => rfl) ?_
      refine b_w (pc' := 65) (lv1 := ax_st1 [(0, .ref t), (1, .ref 13), (2, .ref s), (3, bI v3), (4, bI (μ 21 v3.toNat))] 5 (bI 0)) (lv' := [(0, .ref t), (1, .ref 13), (2, .ref s), (3, bI v3), (4, bI (μ 21 v3.toNat)), (5, bI 0)]) (st' := []) l90_63 (fun _ => rfl) (bSb rfl (bSb rfl (bSb rfl (bSb rfl (bSb rfl (bSb rfl bSn)))))) ?_
      refine bD.wk (lv' := [(0, .ref t), (1, .ref 13), (2, .ref s), (3, bI v3), (4, bI (μ 21 v3.toNat)), (5, bI 0)]) (bSb rfl (bSb rfl (bSb rfl (bSb rfl (bSb rfl (bSb rfl bSn)))))) ?_
      exact p_X9_writeShapes_65 hr H7 ht hs h3 (bO_i hk (by rfl)) (by decide)
    · refine b_s (pc' := 55) (lv1 := [(0, .ref t), (1, .ref 13), (2, .ref s), (3, bI v3), (4, bI (μ 21 v3.toNat))]) (st' := [bI 1, .ref s]) l90_54 (fun _ => rfl) ?_
      refine b_s (pc' := 59) (lv1 := [(0, .ref t), (1, .ref 13), (2, .ref s), (3, bI v3), (4, bI (μ 21 v3.toNat))]) (st' := [bI 1, .ref s]) l90_55 (fun _ => rfl) ?_
      refine b_cMv l90_59 rfl (b_rc (ci := 5) hs (by decide) (by decide +kernel)) (Nat.le_of_ble_eq_true rfl) (Nat.le_of_ble_eq_true rfl) rfl (r_X6_add s hs 1 (by decide)) fun w16 μ17 hw16 => bD.ok fun hk18 => b_pc (pc' := 62) rfl ?_
      refine b_s (pc' := 63) (lv1 := [(0, .ref t), (1, .ref 13), (2, .ref s), (3, bI v3), (4, bI (μ 21 v3.toNat))]) (st' := [bI 0]) l90_62 (fun _ => rfl) ?_
      refine b_w (pc' := 65) (lv1 := ax_st1 [(0, .ref t), (1, .ref 13), (2, .ref s), (3, bI v3), (4, bI (μ 21 v3.toNat))] 5 (bI 0)) (lv' := [(0, .ref t), (1, .ref 13), (2, .ref s), (3, bI v3), (4, bI (μ 21 v3.toNat)), (5, bI 0)]) (st' := []) l90_63 (fun _ => rfl) (bSb rfl (bSb rfl (bSb rfl (bSb rfl (bSb rfl (bSb rfl bSn)))))) ?_
      refine bD.wk (lv' := [(0, .ref t), (1, .ref 13), (2, .ref s), (3, bI v3), (4, bI (μ 21 v3.toNat)), (5, bI 0)]) (bSb rfl (bSb rfl (bSb rfl (bSb rfl (bSb rfl (bSb rfl bSn)))))) ?_
      exact p_X9_writeShapes_65 hr H7 ht hs h3 (bO_i hk (by rfl)) (by decide)
theorem p_X9_writeShapes_7 {L : Nat} {xs : Nat → Int32} {d : Nat} {μ : bM} {t : Nat} {s : Nat} {κ : (Int × bM) → Option bX} (hr : ∀ r : Int × bM, κ r = (bMc) r) (ht : bTree t) (hs : bStore s) {v3 : Int} (h3 : bR v3) : bD L xs (d + 3) 90 7 [(0, .ref t), (1, .ref 13), (2, .ref s), (3, bI v3)] [] μ ((bLoop (fun z => F_X9_writeShapes_7 t s z.1 z.2) (v3, μ)).bind κ) :=
  b_loop (fun z => [(0, .ref t), (1, .ref 13), (2, .ref s), (3, bI z.1)]) (fun z => z.2) (fun z => bR z.1) (fun κ' hκ HH z hz => q_X9_writeShapes_7 (κ := κ') (fun r => (hκ _).trans (hr r)) (fun a3 am b3 => HH (a3, am) b3) ht hs hz) (v3, μ) h3
theorem r_X9_writeShapes {L : Nat} {xs : Nat → Int32} {d : Nat} {μ : bM} (t : Nat) (ht : bTree t) (s : Nat) (hs : bStore s)  : bD L xs (d + 3) 90 0 [(0, .ref t), (1, .ref 13), (2, .ref s)] [] μ ((F_X9_writeShapes t s μ).bind (bMc)) := by
  have hr : ∀ r, (bMc) r = (bMc) r := fun _ => rfl
  unfold F_X9_writeShapes
  refine bD.ok fun hk => ?_
  refine b_s (pc' := 1) (lv1 := [(0, .ref t), (1, .ref 13), (2, .ref s)]) (st' := [.ref s]) l90_0 (fun _ => rfl) ?_
  refine b_s (pc' := 2) (lv1 := [(0, .ref t), (1, .ref 13), (2, .ref s)]) (st' := [bI 0, .ref s]) l90_1 (fun _ => rfl) ?_
  refine b_cMv l90_2 rfl (b_rc (ci := 5) hs (by decide) (by decide +kernel)) (Nat.le_of_ble_eq_true rfl) (Nat.le_of_ble_eq_true rfl) rfl (r_X6_cut s hs 0 (by decide)) fun w1 μ2 hw1 => bD.ok fun hk3 => b_pc (pc' := 5) rfl ?_
  refine b_s (pc' := 6) (lv1 := [(0, .ref t), (1, .ref 13), (2, .ref s)]) (st' := [bI 0]) l90_5 (fun _ => rfl) ?_
  refine b_w (pc' := 7) (lv1 := ax_st1 [(0, .ref t), (1, .ref 13), (2, .ref s)] 3 (bI 0)) (lv' := [(0, .ref t), (1, .ref 13), (2, .ref s), (3, bI 0)]) (st' := []) l90_6 (fun _ => rfl) (bSb rfl (bSb rfl (bSb rfl (bSb rfl bSn)))) ?_
  refine bD.wk (lv' := [(0, .ref t), (1, .ref 13), (2, .ref s), (3, bI 0)]) (bSb rfl (bSb rfl (bSb rfl (bSb rfl bSn)))) ?_
  exact p_X9_writeShapes_7 hr ht hs (by decide)
/-! ET$Writer.writeTexts -/
theorem l91_0 : (ax_dt (ax_T 91)).lookup 0 = some (.aload_n 3, 1, 0, 0, 0) := by decide +kernel
theorem l91_1 : (ax_dt (ax_T 91)).lookup 1 = some (.iconst 0, 1, 0, 0, 0) := by decide +kernel
theorem l91_2 : (ax_dt (ax_T 91)).lookup 2 = some (.invokevirtual 9, 3, 58, 1, 0) := by decide +kernel
theorem l91_5 : (ax_dt (ax_T 91)).lookup 5 = some (.iconst 0, 1, 0, 0, 0) := by decide +kernel
theorem l91_6 : (ax_dt (ax_T 91)).lookup 6 = some (.istore 4, 2, 0, 0, 0) := by decide +kernel
theorem l91_8 : (ax_dt (ax_T 91)).lookup 8 = some (.iload 4, 2, 0, 0, 0) := by decide +kernel
theorem l91_10 : (ax_dt (ax_T 91)).lookup 10 = some (.aload_n 2, 1, 0, 0, 0) := by decide +kernel
theorem l91_11 : (ax_dt (ax_T 91)).lookup 11 = some (.getfield 115, 3, 2, 1, 0) := by decide +kernel
theorem l91_14 : (ax_dt (ax_T 91)).lookup 14 = some (.if_icmp .ge 41, 3, 0, 0, 0) := by decide +kernel
theorem l91_17 : (ax_dt (ax_T 91)).lookup 17 = some (.aload_n 2, 1, 0, 0, 0) := by decide +kernel
theorem l91_18 : (ax_dt (ax_T 91)).lookup 18 = some (.getfield 118, 3, 2, 16, 0) := by decide +kernel
theorem l91_21 : (ax_dt (ax_T 91)).lookup 21 = some (.iload 4, 2, 0, 0, 0) := by decide +kernel
theorem l91_23 : (ax_dt (ax_T 91)).lookup 23 = some (.iaload, 1, 0, 0, 0) := by decide +kernel
theorem l91_24 : (ax_dt (ax_T 91)).lookup 24 = some (.istore 5, 2, 0, 0, 0) := by decide +kernel
theorem l91_26 : (ax_dt (ax_T 91)).lookup 26 = some (.aload_n 3, 1, 0, 0, 0) := by decide +kernel
theorem l91_27 : (ax_dt (ax_T 91)).lookup 27 = some (.aload_n 1, 1, 0, 0, 0) := by decide +kernel
theorem l91_28 : (ax_dt (ax_T 91)).lookup 28 = some (.aload_n 0, 1, 0, 0, 0) := by decide +kernel
theorem l91_29 : (ax_dt (ax_T 91)).lookup 29 = some (.iload 5, 2, 0, 0, 0) := by decide +kernel
theorem l91_31 : (ax_dt (ax_T 91)).lookup 31 = some (.invokevirtual 78, 3, 85, 1, 0) := by decide +kernel
theorem l91_34 : (ax_dt (ax_T 91)).lookup 34 = some (.aload_n 0, 1, 0, 0, 0) := by decide +kernel
theorem l91_35 : (ax_dt (ax_T 91)).lookup 35 = some (.getfield 82, 3, 7, 15, 0) := by decide +kernel
theorem l91_38 : (ax_dt (ax_T 91)).lookup 38 = some (.iload 5, 2, 0, 0, 0) := by decide +kernel
theorem l91_40 : (ax_dt (ax_T 91)).lookup 40 = some (.iaload, 1, 0, 0, 0) := by decide +kernel
theorem l91_41 : (ax_dt (ax_T 91)).lookup 41 = some (.invokevirtual 85, 3, 65, 3, 0) := by decide +kernel
theorem l91_44 : (ax_dt (ax_T 91)).lookup 44 = some (.aload_n 3, 1, 0, 0, 0) := by decide +kernel
theorem l91_45 : (ax_dt (ax_T 91)).lookup 45 = some (.iconst 0, 1, 0, 0, 0) := by decide +kernel
theorem l91_46 : (ax_dt (ax_T 91)).lookup 46 = some (.invokevirtual 33, 3, 59, 1, 0) := by decide +kernel
theorem l91_49 : (ax_dt (ax_T 91)).lookup 49 = some (.iinc 4 1, 3, 0, 0, 0) := by decide +kernel
theorem l91_52 : (ax_dt (ax_T 91)).lookup 52 = some (.goto (-44), 3, 0, 0, 0) := by decide +kernel
theorem l91_55 : (ax_dt (ax_T 91)).lookup 55 = some (.return_, 1, 0, 0, 0) := by decide +kernel
noncomputable def F_X9_writeTexts_8 (t : Nat) (s : Nat) (s2 : Nat) (v4 : Int) (μ : bM) : Option ((Int × bM) ⊕ (Int × bM)) := if (μ 13 1) ≤ v4 then some (.inr (0, μ)) else bG (0 ≤ v4 ∧ v4 < 3200) ((F_X8_start t (μ 23 v4.toNat) μ).bind fun w2 => bG (0 ≤ (μ 23 v4.toNat) ∧ (μ 23 v4.toNat) < 3200) (bMm (F_X6_addFrom s2 s w2 (μ (t + 14) (μ 23 v4.toNat).toNat) μ) (fun w3 μ4 => bMm (F_X6_add s2 0 μ4) (fun w6 μ7 => bG (bR (v4 + 1)) (some (.inl ((v4 + 1), μ7)))))))
noncomputable def F_X9_writeTexts (t : Nat) (s : Nat) (s2 : Nat) (μ : bM) : Option (Int × bM) := bMm (F_X6_cut s2 0 μ) (fun w1 μ2 => bLoop (fun z => F_X9_writeTexts_8 t s s2 z.1 z.2) (0, μ2))
theorem q_X9_writeTexts_8 {L : Nat} {xs : Nat → Int32} {d : Nat} {μ : bM} {t : Nat} {s : Nat} {s2 : Nat} {κ : ((Int × bM) ⊕ (Int × bM)) → Option bX} (hr : ∀ r : Int × bM, κ (.inr r) = (bMc) r) (H8 : ∀ (v4 : Int) (μ : bM), bR v4 → bD L xs (d + 2) 91 8 [(0, .ref t), (1, .ref s), (2, .ref 13), (3, .ref s2), (4, bI v4)] [] μ (κ (.inl (v4, μ)))) (ht : bTree t) (hs : bStore s) (hs2 : bStore s2) {v4 : Int} (h4 : bR v4) : bD L xs (d + 2) 91 8 [(0, .ref t), (1, .ref s), (2, .ref 13), (3, .ref s2), (4, bI v4)] [] μ ((F_X9_writeTexts_8 t s s2 v4 μ).bind κ) := by
  unfold F_X9_writeTexts_8
  refine bD.ok fun hk => ?_
  refine b_s (pc' := 10) (lv1 := [(0, .ref t), (1, .ref s), (2, .ref 13), (3, .ref s2), (4, bI v4)]) (st' := [bI v4]) l91_8 (fun _ => rfl) ?_
  refine b_s (pc' := 11) (lv1 := [(0, .ref t), (1, .ref s), (2, .ref 13), (3, .ref s2), (4, bI v4)]) (st' := [.ref 13, bI v4]) l91_10 (fun _ => rfl) ?_
  refine b_gi l91_11 (by rfl) (by decide) (by decide) rfl (b_pc (pc' := 14) rfl ?_)
  refine b_ige (pt := 55) l91_14 h4 (bO_f hk (ci := 2) (by rfl) rfl) (by decide) rfl (fun c1 => ?_) (fun c1 => b_pc (pc' := 17) rfl ?_)
  · exact b_retv l91_55 rfl (hr _)
  · refine b_s (pc' := 18) (lv1 := [(0, .ref t), (1, .ref s), (2, .ref 13), (3, .ref s2), (4, bI v4)]) (st' := [.ref 13]) l91_17 (fun _ => rfl) ?_
    refine b_gp (q' := 23) (j := 10) l91_18 (by rfl) (by decide) (by decide) rfl hk rfl rfl (b_pc (pc' := 21) rfl ?_)
    refine b_s (pc' := 23) (lv1 := [(0, .ref t), (1, .ref s), (2, .ref 13), (3, .ref s2), (4, bI v4)]) (st' := [bI v4, .ref 23]) l91_21 (fun _ => rfl) ?_
    refine b_g fun g11 => ?_
    refine b_ial l91_23 (by rfl) g11 (b_pc (pc' := 24) rfl ?_)
    refine b_w (pc' := 26) (lv1 := ax_st1 [(0, .ref t), (1, .ref s), (2, .ref 13), (3, .ref s2), (4, bI v4)] 5 (bI (μ 23 v4.toNat))) (lv' := [(0, .ref t), (1, .ref s), (2, .ref 13), (3, .ref s2), (4, bI v4), (5, bI (μ 23 v4.toNat))]) (st' := []) l91_24 (fun _ => rfl) (bSb rfl (bSb rfl (bSb rfl (bSb rfl (bSb rfl (bSb rfl bSn)))))) ?_
    refine b_s (pc' := 27) (lv1 := [(0, .ref t), (1, .ref s), (2, .ref 13), (3, .ref s2), (4, bI v4), (5, bI (μ 23 v4.toNat))]) (st' := [.ref s2]) l91_26 (fun _ => rfl) ?_
    refine b_s (pc' := 28) (lv1 := [(0, .ref t), (1, .ref s), (2, .ref 13), (3, .ref s2), (4, bI v4), (5, bI (μ 23 v4.toNat))]) (st' := [.ref s, .ref s2]) l91_27 (fun _ => rfl) ?_
    refine b_s (pc' := 29) (lv1 := [(0, .ref t), (1, .ref s), (2, .ref 13), (3, .ref s2), (4, bI v4), (5, bI (μ 23 v4.toNat))]) (st' := [.ref t, .ref s, .ref s2]) l91_28 (fun _ => rfl) ?_
    refine b_s (pc' := 31) (lv1 := [(0, .ref t), (1, .ref s), (2, .ref 13), (3, .ref s2), (4, bI v4), (5, bI (μ 23 v4.toNat))]) (st' := [bI (μ 23 v4.toNat), .ref t, .ref s, .ref s2]) l91_29 (fun _ => rfl) ?_
    refine b_cPi l91_31 rfl (b_rc (ci := 7) ht (by decide) (by decide +kernel)) (Nat.le_of_ble_eq_true rfl) (Nat.le_of_ble_eq_true rfl) rfl (r_X8_start t ht (μ 23 v4.toNat) (bO_i hk (by rfl))) fun w2 hw2 => b_pc (pc' := 34) rfl ?_
    refine b_s (pc' := 35) (lv1 := [(0, .ref t), (1, .ref s), (2, .ref 13), (3, .ref s2), (4, bI v4), (5, bI (μ 23 v4.toNat))]) (st' := [.ref t, bI w2, .ref s, .ref s2]) l91_34 (fun _ => rfl) ?_
    refine b_gp (q' := (t + 14)) (j := 14) l91_35 ht (by decide) (by decide) rfl hk rfl rfl (b_pc (pc' := 38) rfl ?_)
    refine b_s (pc' := 40) (lv1 := [(0, .ref t), (1, .ref s), (2, .ref 13), (3, .ref s2), (4, bI v4), (5, bI (μ 23 v4.toNat))]) (st' := [bI (μ 23 v4.toNat), .ref (t + 14), bI w2, .ref s, .ref s2]) l91_38 (fun _ => rfl) ?_
    refine b_g fun g10 => ?_
    refine b_ial l91_40 (bTree_l ht) g10 (b_pc (pc' := 41) rfl ?_)
    refine b_cMv l91_41 rfl (b_rc (ci := 5) hs2 (by decide) (by decide +kernel)) (Nat.le_of_ble_eq_true rfl) (Nat.le_of_ble_eq_true rfl) rfl (r_X6_addFrom s2 hs2 s hs w2 hw2 (μ (t + 14) (μ 23 v4.toNat).toNat) (bO_i hk (bTree_l ht))) fun w3 μ4 hw3 => bD.ok fun hk5 => b_pc (pc' := 44) rfl ?_
    refine b_s (pc' := 45) (lv1 := [(0, .ref t), (1, .ref s), (2, .ref 13), (3, .ref s2), (4, bI v4), (5, bI (μ 23 v4.toNat))]) (st' := [.ref s2]) l91_44 (fun _ => rfl) ?_
    refine b_s (pc' := 46) (lv1 := [(0, .ref t), (1, .ref s), (2, .ref 13), (3, .ref s2), (4, bI v4), (5, bI (μ 23 v4.toNat))]) (st' := [bI 0, .ref s2]) l91_45 (fun _ => rfl) ?_
    refine b_cMv l91_46 rfl (b_rc (ci := 5) hs2 (by decide) (by decide +kernel)) (Nat.le_of_ble_eq_true rfl) (Nat.le_of_ble_eq_true rfl) rfl (r_X6_add s2 hs2 0 (by decide)) fun w6 μ7 hw6 => bD.ok fun hk8 => b_pc (pc' := 49) rfl ?_
    refine b_inc (lv' := [(0, .ref t), (1, .ref s), (2, .ref 13), (3, .ref s2), (4, bI (v4 + 1))]) l91_49 rfl (by decide +kernel) (bSb rfl (bSb rfl (bSb rfl (bSb rfl (bSb rfl bSn))))) fun g9 => (b_pc (pc' := 52) rfl ?_)
    refine b_s (pc' := 8) (lv1 := [(0, .ref t), (1, .ref s), (2, .ref 13), (3, .ref s2), (4, bI (v4 + 1))]) (st' := []) l91_52 (fun _ => rfl) ?_
    refine bD.wk (lv' := [(0, .ref t), (1, .ref s), (2, .ref 13), (3, .ref s2), (4, bI (v4 + 1))]) (bSb rfl (bSb rfl (bSb rfl (bSb rfl (bSb rfl bSn))))) ?_
    exact H8 (v4 + 1) μ7 g9
theorem p_X9_writeTexts_8 {L : Nat} {xs : Nat → Int32} {d : Nat} {μ : bM} {t : Nat} {s : Nat} {s2 : Nat} {κ : (Int × bM) → Option bX} (hr : ∀ r : Int × bM, κ r = (bMc) r) (ht : bTree t) (hs : bStore s) (hs2 : bStore s2) {v4 : Int} (h4 : bR v4) : bD L xs (d + 2) 91 8 [(0, .ref t), (1, .ref s), (2, .ref 13), (3, .ref s2), (4, bI v4)] [] μ ((bLoop (fun z => F_X9_writeTexts_8 t s s2 z.1 z.2) (v4, μ)).bind κ) :=
  b_loop (fun z => [(0, .ref t), (1, .ref s), (2, .ref 13), (3, .ref s2), (4, bI z.1)]) (fun z => z.2) (fun z => bR z.1) (fun κ' hκ HH z hz => q_X9_writeTexts_8 (κ := κ') (fun r => (hκ _).trans (hr r)) (fun a4 am b4 => HH (a4, am) b4) ht hs hs2 hz) (v4, μ) h4
theorem r_X9_writeTexts {L : Nat} {xs : Nat → Int32} {d : Nat} {μ : bM} (t : Nat) (ht : bTree t) (s : Nat) (hs : bStore s) (s2 : Nat) (hs2 : bStore s2)  : bD L xs (d + 2) 91 0 [(0, .ref t), (1, .ref s), (2, .ref 13), (3, .ref s2)] [] μ ((F_X9_writeTexts t s s2 μ).bind (bMc)) := by
  have hr : ∀ r, (bMc) r = (bMc) r := fun _ => rfl
  unfold F_X9_writeTexts
  refine bD.ok fun hk => ?_
  refine b_s (pc' := 1) (lv1 := [(0, .ref t), (1, .ref s), (2, .ref 13), (3, .ref s2)]) (st' := [.ref s2]) l91_0 (fun _ => rfl) ?_
  refine b_s (pc' := 2) (lv1 := [(0, .ref t), (1, .ref s), (2, .ref 13), (3, .ref s2)]) (st' := [bI 0, .ref s2]) l91_1 (fun _ => rfl) ?_
  refine b_cMv l91_2 rfl (b_rc (ci := 5) hs2 (by decide) (by decide +kernel)) (Nat.le_of_ble_eq_true rfl) (Nat.le_of_ble_eq_true rfl) rfl (r_X6_cut s2 hs2 0 (by decide)) fun w1 μ2 hw1 => bD.ok fun hk3 => b_pc (pc' := 5) rfl ?_
  refine b_s (pc' := 6) (lv1 := [(0, .ref t), (1, .ref s), (2, .ref 13), (3, .ref s2)]) (st' := [bI 0]) l91_5 (fun _ => rfl) ?_
  refine b_w (pc' := 8) (lv1 := ax_st1 [(0, .ref t), (1, .ref s), (2, .ref 13), (3, .ref s2)] 4 (bI 0)) (lv' := [(0, .ref t), (1, .ref s), (2, .ref 13), (3, .ref s2), (4, bI 0)]) (st' := []) l91_6 (fun _ => rfl) (bSb rfl (bSb rfl (bSb rfl (bSb rfl (bSb rfl bSn))))) ?_
  refine bD.wk (lv' := [(0, .ref t), (1, .ref s), (2, .ref 13), (3, .ref s2), (4, bI 0)]) (bSb rfl (bSb rfl (bSb rfl (bSb rfl (bSb rfl bSn))))) ?_
  exact p_X9_writeTexts_8 hr ht hs hs2 (by decide)
end
