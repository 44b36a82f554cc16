section
/-! ETModel.thrown -/
theorem l132_0 : (ax_dt (ax_T 132)).lookup 0 = some (.aload_n 0, 1, 0, 0, 0) := by decide +kernel
theorem l132_1 : (ax_dt (ax_T 132)).lookup 1 = some (.getfield 120, 3, 9, 0, 0) := by decide +kernel
theorem l132_4 : (ax_dt (ax_T 132)).lookup 4 = some (.ireturn, 1, 0, 0, 0) := by decide +kernel
noncomputable def F_X11_thrown (μ : bM) : Option (Int) := some ((μ 76 0))
theorem r_X11_thrown {L : Nat} {xs : Nat → Int32} {d : Nat} {μ : bM}   : bD L xs (d + 0) 132 0 [(0, .ref 76)] [] μ ((F_X11_thrown μ).bind (bPc μ)) := by
  have hr : ∀ r, (bPc μ) r = (bPc μ) r := fun _ => rfl
  unfold F_X11_thrown
  refine bD.ok fun hk => ?_
  refine b_s (pc' := 1) (lv1 := [(0, .ref 76)]) (st' := [.ref 76]) l132_0 (fun _ => rfl) ?_
  refine b_gi l132_1 (by rfl) (by decide) (by decide) rfl (b_pc (pc' := 4) rfl ?_)
  exact b_reti l132_4 rfl (bO_f hk (ci := 9) (by rfl) rfl) (hr _)
/-! ETModel.in -/
theorem l133_0 : (ax_dt (ax_T 133)).lookup 0 = some (.lload_n 0, 1, 0, 0, 0) := by decide +kernel
theorem l133_1 : (ax_dt (ax_T 133)).lookup 1 = some (.lload_n 2, 1, 0, 0, 0) := by decide +kernel
theorem l133_2 : (ax_dt (ax_T 133)).lookup 2 = some (.lcmp, 1, 0, 0, 0) := by decide +kernel
theorem l133_3 : (ax_dt (ax_T 133)).lookup 3 = some (.ifCond .lt 14, 3, 0, 0, 0) := by decide +kernel
theorem l133_6 : (ax_dt (ax_T 133)).lookup 6 = some (.lload_n 0, 1, 0, 0, 0) := by decide +kernel
theorem l133_7 : (ax_dt (ax_T 133)).lookup 7 = some (.lload 4, 2, 0, 0, 0) := by decide +kernel
theorem l133_9 : (ax_dt (ax_T 133)).lookup 9 = some (.lcmp, 1, 0, 0, 0) := by decide +kernel
theorem l133_10 : (ax_dt (ax_T 133)).lookup 10 = some (.ifCond .gt 7, 3, 0, 0, 0) := by decide +kernel
theorem l133_13 : (ax_dt (ax_T 133)).lookup 13 = some (.iconst 1, 1, 0, 0, 0) := by decide +kernel
theorem l133_14 : (ax_dt (ax_T 133)).lookup 14 = some (.goto 4, 3, 0, 0, 0) := by decide +kernel
theorem l133_17 : (ax_dt (ax_T 133)).lookup 17 = some (.iconst 0, 1, 0, 0, 0) := by decide +kernel
theorem l133_18 : (ax_dt (ax_T 133)).lookup 18 = some (.ireturn, 1, 0, 0, 0) := by decide +kernel
noncomputable def F_X11_in (v0 : Int) (v2 : Int) (v4 : Int) (μ : bM) : Option (Int) := if (bCmp v0 v2) < 0 then some (0) else if 0 < (bCmp v0 v4) then some (0) else some (1)
theorem r_X11_in {L : Nat} {xs : Nat → Int32} {d : Nat} {μ : bM}  (v0 : Int) (h0 : bRL v0) (v2 : Int) (h2 : bRL v2) (v4 : Int) (h4 : bRL v4) : bD L xs (d + 0) 133 0 [(0, bLg v0), (2, bLg v2), (4, bLg v4)] [] μ ((F_X11_in v0 v2 v4 μ).bind (bPc μ)) := by
  have hr : ∀ r, (bPc μ) r = (bPc μ) r := fun _ => rfl
  unfold F_X11_in
  refine bD.ok fun hk => ?_
  refine b_s (pc' := 1) (lv1 := [(0, bLg v0), (2, bLg v2), (4, bLg v4)]) (st' := [bLg v0]) l133_0 (fun _ => rfl) ?_
  refine b_s (pc' := 2) (lv1 := [(0, bLg v0), (2, bLg v2), (4, bLg v4)]) (st' := [bLg v2, bLg v0]) l133_1 (fun _ => rfl) ?_
  refine b_lcmp l133_2 h0 h2 (b_pc (pc' := 3) rfl ?_)
  refine b_zlt (pt := 17) l133_3 (bCmp_R _ _) (by decide) rfl (fun c1 => ?_) (fun c1 => b_pc (pc' := 6) rfl ?_)
  · refine b_s (pc' := 18) (lv1 := [(0, bLg v0), (2, bLg v2), (4, bLg v4)]) (st' := [bI 0]) l133_17 (fun _ => rfl) ?_
    exact b_retz l133_18 rfl (by decide) (hr _)
  · refine b_s (pc' := 7) (lv1 := [(0, bLg v0), (2, bLg v2), (4, bLg v4)]) (st' := [bLg v0]) l133_6 (fun _ => rfl) ?_
    refine b_s (pc' := 9) (lv1 := [(0, bLg v0), (2, bLg v2), (4, bLg v4)]) (st' := [bLg v4, bLg v0]) l133_7 (fun _ => rfl) ?_
    refine b_lcmp l133_9 h0 h4 (b_pc (pc' := 10) rfl ?_)
    refine b_zgt (pt := 17) l133_10 (bCmp_R _ _) (by decide) rfl (fun c2 => ?_) (fun c2 => b_pc (pc' := 13) rfl ?_)
    · refine b_s (pc' := 18) (lv1 := [(0, bLg v0), (2, bLg v2), (4, bLg v4)]) (st' := [bI 0]) l133_17 (fun _ => rfl) ?_
      exact b_retz l133_18 rfl (by decide) (hr _)
    · refine b_s (pc' := 14) (lv1 := [(0, bLg v0), (2, bLg v2), (4, bLg v4)]) (st' := [bI 1]) l133_13 (fun _ => rfl) ?_
      refine b_s (pc' := 18) (lv1 := [(0, bLg v0), (2, bLg v2), (4, bLg v4)]) (st' := [bI 1]) l133_14 (fun _ => rfl) ?_
      exact b_retz l133_18 rfl (by decide) (hr _)
/-! ETModel.goes -/
theorem l134_0 : (ax_dt (ax_T 134)).lookup 0 = some (.aload_n 0, 1, 0, 0, 0) := by decide +kernel
theorem l134_1 : (ax_dt (ax_T 134)).lookup 1 = some (.iload_n 1, 1, 0, 0, 0) := by decide +kernel
theorem l134_2 : (ax_dt (ax_T 134)).lookup 2 = some (.ifCond .eq 7, 3, 0, 0, 0) := by decide +kernel
theorem l134_5 : (ax_dt (ax_T 134)).lookup 5 = some (.iconst 0, 1, 0, 0, 0) := by decide +kernel
theorem l134_6 : (ax_dt (ax_T 134)).lookup 6 = some (.goto 4, 3, 0, 0, 0) := by decide +kernel
theorem l134_9 : (ax_dt (ax_T 134)).lookup 9 = some (.iconst 1, 1, 0, 0, 0) := by decide +kernel
theorem l134_10 : (ax_dt (ax_T 134)).lookup 10 = some (.putfield 120, 3, 9, 0, 0) := by decide +kernel
theorem l134_13 : (ax_dt (ax_T 134)).lookup 13 = some (.iload_n 1, 1, 0, 0, 0) := by decide +kernel
theorem l134_14 : (ax_dt (ax_T 134)).lookup 14 = some (.ireturn, 1, 0, 0, 0) := by decide +kernel
noncomputable def F_X11_goes (v1 : Int) (μ : bM) : Option (Int × bM) := if v1 = 0 then bG (0 ≤ v1 ∧ v1 ≤ 1) (some (v1, (bset μ 76 0 1))) else bG (0 ≤ v1 ∧ v1 ≤ 1) (some (v1, (bset μ 76 0 0)))
theorem r_X11_goes {L : Nat} {xs : Nat → Int32} {d : Nat} {μ : bM}  (v1 : Int) (h1 : bR v1) : bD L xs (d + 0) 134 0 [(0, .ref 76), (1, bI v1)] [] μ ((F_X11_goes v1 μ).bind (bMc)) := by
  have hr : ∀ r, (bMc) r = (bMc) r := fun _ => rfl
  unfold F_X11_goes
  refine bD.ok fun hk => ?_
  refine b_s (pc' := 1) (lv1 := [(0, .ref 76), (1, bI v1)]) (st' := [.ref 76]) l134_0 (fun _ => rfl) ?_
  refine b_s (pc' := 2) (lv1 := [(0, .ref 76), (1, bI v1)]) (st' := [bI v1, .ref 76]) l134_1 (fun _ => rfl) ?_
  refine b_zeq (pt := 9) l134_2 h1 (by decide) rfl (fun c1 => ?_) (fun c1 => b_pc (pc' := 5) rfl ?_)
  · refine b_s (pc' := 10) (lv1 := [(0, .ref 76), (1, bI v1)]) (st' := [bI 1, .ref 76]) l134_9 (fun _ => rfl) ?_
    refine b_pi l134_10 (by rfl) (by decide) (by decide) rfl rfl (by decide) (bD.ok fun hk2 => b_pc (pc' := 13) rfl ?_)
    refine b_s (pc' := 14) (lv1 := [(0, .ref 76), (1, bI v1)]) (st' := [bI v1]) l134_13 (fun _ => rfl) ?_
    refine b_g fun g3 => ?_
    exact b_retz l134_14 rfl g3 (hr _)
  · refine b_s (pc' := 6) (lv1 := [(0, .ref 76), (1, bI v1)]) (st' := [bI 0, .ref 76]) l134_5 (fun _ => rfl) ?_
    refine b_s (pc' := 10) (lv1 := [(0, .ref 76), (1, bI v1)]) (st' := [bI 0, .ref 76]) l134_6 (fun _ => rfl) ?_
    refine b_pi l134_10 (by rfl) (by decide) (by decide) rfl rfl (by decide) (bD.ok fun hk4 => b_pc (pc' := 13) rfl ?_)
    refine b_s (pc' := 14) (lv1 := [(0, .ref 76), (1, bI v1)]) (st' := [bI v1]) l134_13 (fun _ => rfl) ?_
    refine b_g fun g5 => ?_
    exact b_retz l134_14 rfl g5 (hr _)
/-! ETModel.from -/
theorem l135_0 : (ax_dt (ax_T 135)).lookup 0 = some (.iload_n 0, 1, 0, 0, 0) := by decide +kernel
theorem l135_1 : (ax_dt (ax_T 135)).lookup 1 = some (.ifCond .ne 7, 3, 0, 0, 0) := by decide +kernel
theorem l135_4 : (ax_dt (ax_T 135)).lookup 4 = some (.iconst 0, 1, 0, 0, 0) := by decide +kernel
theorem l135_5 : (ax_dt (ax_T 135)).lookup 5 = some (.goto 17, 3, 0, 0, 0) := by decide +kernel
theorem l135_8 : (ax_dt (ax_T 135)).lookup 8 = some (.iload_n 0, 1, 0, 0, 0) := by decide +kernel
theorem l135_9 : (ax_dt (ax_T 135)).lookup 9 = some (.iconst 1, 1, 0, 0, 0) := by decide +kernel
theorem l135_10 : (ax_dt (ax_T 135)).lookup 10 = some (.if_icmp .ne 9, 3, 0, 0, 0) := by decide +kernel
theorem l135_13 : (ax_dt (ax_T 135)).lookup 13 = some (.sipush 24000, 3, 0, 0, 0) := by decide +kernel
theorem l135_16 : (ax_dt (ax_T 135)).lookup 16 = some (.goto 6, 3, 0, 0, 0) := by decide +kernel
theorem l135_19 : (ax_dt (ax_T 135)).lookup 19 = some (.sipush 32000, 3, 0, 0, 0) := by decide +kernel
theorem l135_22 : (ax_dt (ax_T 135)).lookup 22 = some (.ireturn, 1, 0, 0, 0) := by decide +kernel
noncomputable def F_X11_from (v0 : Int) (μ : bM) : Option (Int) := if ¬ v0 = 0 then if ¬ v0 = 1 then some (32000) else some (24000) else some (0)
theorem r_X11_from {L : Nat} {xs : Nat → Int32} {d : Nat} {μ : bM}  (v0 : Int) (h0 : bR v0) : bD L xs (d + 0) 135 0 [(0, bI v0)] [] μ ((F_X11_from v0 μ).bind (bPc μ)) := by
  have hr : ∀ r, (bPc μ) r = (bPc μ) r := fun _ => rfl
  unfold F_X11_from
  refine bD.ok fun hk => ?_
  refine b_s (pc' := 1) (lv1 := [(0, bI v0)]) (st' := [bI v0]) l135_0 (fun _ => rfl) ?_
  refine b_zne (pt := 8) l135_1 h0 (by decide) rfl (fun c1 => ?_) (fun c1 => b_pc (pc' := 4) rfl ?_)
  · refine b_s (pc' := 9) (lv1 := [(0, bI v0)]) (st' := [bI v0]) l135_8 (fun _ => rfl) ?_
    refine b_s (pc' := 10) (lv1 := [(0, bI v0)]) (st' := [bI 1, bI v0]) l135_9 (fun _ => rfl) ?_
    refine b_ine (pt := 19) l135_10 h0 (by decide) (by decide) rfl (fun c2 => ?_) (fun c2 => b_pc (pc' := 13) rfl ?_)
    · refine b_sipush l135_19 (by decide) (b_pc (pc' := 22) rfl ?_)
      exact b_reti l135_22 rfl (by decide) (hr _)
    · refine b_sipush l135_13 (by decide) (b_pc (pc' := 16) rfl ?_)
      refine b_s (pc' := 22) (lv1 := [(0, bI v0)]) (st' := [bI 24000]) l135_16 (fun _ => rfl) ?_
      exact b_reti l135_22 rfl (by decide) (hr _)
  · refine b_s (pc' := 5) (lv1 := [(0, bI v0)]) (st' := [bI 0]) l135_4 (fun _ => rfl) ?_
    refine b_s (pc' := 22) (lv1 := [(0, bI v0)]) (st' := [bI 0]) l135_5 (fun _ => rfl) ?_
    exact b_reti l135_22 rfl (by decide) (hr _)
/-! ETModel.most -/
theorem l136_0 : (ax_dt (ax_T 136)).lookup 0 = some (.iload_n 0, 1, 0, 0, 0) := by decide +kernel
theorem l136_1 : (ax_dt (ax_T 136)).lookup 1 = some (.ifCond .ne 9, 3, 0, 0, 0) := by decide +kernel
theorem l136_4 : (ax_dt (ax_T 136)).lookup 4 = some (.sipush 24000, 3, 0, 0, 0) := by decide +kernel
theorem l136_7 : (ax_dt (ax_T 136)).lookup 7 = some (.goto 6, 3, 0, 0, 0) := by decide +kernel
theorem l136_10 : (ax_dt (ax_T 136)).lookup 10 = some (.sipush 8000, 3, 0, 0, 0) := by decide +kernel
theorem l136_13 : (ax_dt (ax_T 136)).lookup 13 = some (.ireturn, 1, 0, 0, 0) := by decide +kernel
noncomputable def F_X11_most (v0 : Int) (μ : bM) : Option (Int) := if ¬ v0 = 0 then some (8000) else some (24000)
theorem r_X11_most {L : Nat} {xs : Nat → Int32} {d : Nat} {μ : bM}  (v0 : Int) (h0 : bR v0) : bD L xs (d + 0) 136 0 [(0, bI v0)] [] μ ((F_X11_most v0 μ).bind (bPc μ)) := by
  have hr : ∀ r, (bPc μ) r = (bPc μ) r := fun _ => rfl
  unfold F_X11_most
  refine bD.ok fun hk => ?_
  refine b_s (pc' := 1) (lv1 := [(0, bI v0)]) (st' := [bI v0]) l136_0 (fun _ => rfl) ?_
  refine b_zne (pt := 10) l136_1 h0 (by decide) rfl (fun c1 => ?_) (fun c1 => b_pc (pc' := 4) rfl ?_)
  · refine b_sipush l136_10 (by decide) (b_pc (pc' := 13) rfl ?_)
    exact b_reti l136_13 rfl (by decide) (hr _)
  · refine b_sipush l136_4 (by decide) (b_pc (pc' := 7) rfl ?_)
    refine b_s (pc' := 13) (lv1 := [(0, bI v0)]) (st' := [bI 24000]) l136_7 (fun _ => rfl) ?_
    exact b_reti l136_13 rfl (by decide) (hr _)
/-! ETModel.feed -/
theorem l137_0 : (ax_dt (ax_T 137)).lookup 0 = some (.aload_n 0, 1, 0, 0, 0) := by decide +kernel
theorem l137_1 : (ax_dt (ax_T 137)).lookup 1 = some (.aload_n 0, 1, 0, 0, 0) := by decide +kernel
theorem l137_2 : (ax_dt (ax_T 137)).lookup 2 = some (.getfield 124, 3, 9, 2, 0) := by decide +kernel
theorem l137_5 : (ax_dt (ax_T 137)).lookup 5 = some (.bipush 20, 2, 0, 0, 0) := by decide +kernel
theorem l137_7 : (ax_dt (ax_T 137)).lookup 7 = some (.iadd, 1, 0, 0, 0) := by decide +kernel
theorem l137_8 : (ax_dt (ax_T 137)).lookup 8 = some (.sipush 12000, 3, 0, 0, 0) := by decide +kernel
theorem l137_11 : (ax_dt (ax_T 137)).lookup 11 = some (.if_icmp .gt 7, 3, 0, 0, 0) := by decide +kernel
theorem l137_14 : (ax_dt (ax_T 137)).lookup 14 = some (.iconst 1, 1, 0, 0, 0) := by decide +kernel
theorem l137_15 : (ax_dt (ax_T 137)).lookup 15 = some (.goto 4, 3, 0, 0, 0) := by decide +kernel
theorem l137_18 : (ax_dt (ax_T 137)).lookup 18 = some (.iconst 0, 1, 0, 0, 0) := by decide +kernel
theorem l137_19 : (ax_dt (ax_T 137)).lookup 19 = some (.invokevirtual 127, 3, 134, 1, 0) := by decide +kernel
theorem l137_22 : (ax_dt (ax_T 137)).lookup 22 = some (.ifCond .ne 5, 3, 0, 0, 0) := by decide +kernel
theorem l137_25 : (ax_dt (ax_T 137)).lookup 25 = some (.iconst 0, 1, 0, 0, 0) := by decide +kernel
theorem l137_26 : (ax_dt (ax_T 137)).lookup 26 = some (.ireturn, 1, 0, 0, 0) := by decide +kernel
theorem l137_27 : (ax_dt (ax_T 137)).lookup 27 = some (.iconst 0, 1, 0, 0, 0) := by decide +kernel
theorem l137_28 : (ax_dt (ax_T 137)).lookup 28 = some (.istore 6, 2, 0, 0, 0) := by decide +kernel
theorem l137_30 : (ax_dt (ax_T 137)).lookup 30 = some (.iload 6, 2, 0, 0, 0) := by decide +kernel
theorem l137_32 : (ax_dt (ax_T 137)).lookup 32 = some (.bipush 20, 2, 0, 0, 0) := by decide +kernel
theorem l137_34 : (ax_dt (ax_T 137)).lookup 34 = some (.if_icmp .ge 90, 3, 0, 0, 0) := by decide +kernel
theorem l137_37 : (ax_dt (ax_T 137)).lookup 37 = some (.iload 6, 2, 0, 0, 0) := by decide +kernel
theorem l137_39 : (ax_dt (ax_T 137)).lookup 39 = some (.iconst 4, 1, 0, 0, 0) := by decide +kernel
theorem l137_40 : (ax_dt (ax_T 137)).lookup 40 = some (.if_icmp .ge 7, 3, 0, 0, 0) := by decide +kernel
theorem l137_43 : (ax_dt (ax_T 137)).lookup 43 = some (.iload_n 1, 1, 0, 0, 0) := by decide +kernel
theorem l137_44 : (ax_dt (ax_T 137)).lookup 44 = some (.goto 39, 3, 0, 0, 0) := by decide +kernel
theorem l137_47 : (ax_dt (ax_T 137)).lookup 47 = some (.iload 6, 2, 0, 0, 0) := by decide +kernel
theorem l137_49 : (ax_dt (ax_T 137)).lookup 49 = some (.bipush 8, 2, 0, 0, 0) := by decide +kernel
theorem l137_51 : (ax_dt (ax_T 137)).lookup 51 = some (.if_icmp .ge 7, 3, 0, 0, 0) := by decide +kernel
theorem l137_54 : (ax_dt (ax_T 137)).lookup 54 = some (.iload_n 2, 1, 0, 0, 0) := by decide +kernel
theorem l137_55 : (ax_dt (ax_T 137)).lookup 55 = some (.goto 28, 3, 0, 0, 0) := by decide +kernel
theorem l137_58 : (ax_dt (ax_T 137)).lookup 58 = some (.iload 6, 2, 0, 0, 0) := by decide +kernel
theorem l137_60 : (ax_dt (ax_T 137)).lookup 60 = some (.bipush 12, 2, 0, 0, 0) := by decide +kernel
theorem l137_62 : (ax_dt (ax_T 137)).lookup 62 = some (.if_icmp .ge 7, 3, 0, 0, 0) := by decide +kernel
theorem l137_65 : (ax_dt (ax_T 137)).lookup 65 = some (.iload_n 3, 1, 0, 0, 0) := by decide +kernel
theorem l137_66 : (ax_dt (ax_T 137)).lookup 66 = some (.goto 17, 3, 0, 0, 0) := by decide +kernel
theorem l137_69 : (ax_dt (ax_T 137)).lookup 69 = some (.iload 6, 2, 0, 0, 0) := by decide +kernel
theorem l137_71 : (ax_dt (ax_T 137)).lookup 71 = some (.bipush 16, 2, 0, 0, 0) := by decide +kernel
theorem l137_73 : (ax_dt (ax_T 137)).lookup 73 = some (.if_icmp .ge 8, 3, 0, 0, 0) := by decide +kernel
theorem l137_76 : (ax_dt (ax_T 137)).lookup 76 = some (.iload 4, 2, 0, 0, 0) := by decide +kernel
theorem l137_78 : (ax_dt (ax_T 137)).lookup 78 = some (.goto 5, 3, 0, 0, 0) := by decide +kernel
theorem l137_81 : (ax_dt (ax_T 137)).lookup 81 = some (.iload 5, 2, 0, 0, 0) := by decide +kernel
theorem l137_83 : (ax_dt (ax_T 137)).lookup 83 = some (.istore 7, 2, 0, 0, 0) := by decide +kernel
theorem l137_85 : (ax_dt (ax_T 137)).lookup 85 = some (.aload_n 0, 1, 0, 0, 0) := by decide +kernel
theorem l137_86 : (ax_dt (ax_T 137)).lookup 86 = some (.getfield 7, 3, 9, 1, 0) := by decide +kernel
theorem l137_89 : (ax_dt (ax_T 137)).lookup 89 = some (.aload_n 0, 1, 0, 0, 0) := by decide +kernel
theorem l137_90 : (ax_dt (ax_T 137)).lookup 90 = some (.getfield 124, 3, 9, 2, 0) := by decide +kernel
theorem l137_93 : (ax_dt (ax_T 137)).lookup 93 = some (.iload 7, 2, 0, 0, 0) := by decide +kernel
theorem l137_95 : (ax_dt (ax_T 137)).lookup 95 = some (.bipush 24, 2, 0, 0, 0) := by decide +kernel
theorem l137_97 : (ax_dt (ax_T 137)).lookup 97 = some (.bipush 8, 2, 0, 0, 0) := by decide +kernel
theorem l137_99 : (ax_dt (ax_T 137)).lookup 99 = some (.iload 6, 2, 0, 0, 0) := by decide +kernel
theorem l137_101 : (ax_dt (ax_T 137)).lookup 101 = some (.iconst 4, 1, 0, 0, 0) := by decide +kernel
theorem l137_102 : (ax_dt (ax_T 137)).lookup 102 = some (.irem, 1, 0, 0, 0) := by decide +kernel
theorem l137_103 : (ax_dt (ax_T 137)).lookup 103 = some (.imul, 1, 0, 0, 0) := by decide +kernel
theorem l137_104 : (ax_dt (ax_T 137)).lookup 104 = some (.isub, 1, 0, 0, 0) := by decide +kernel
theorem l137_105 : (ax_dt (ax_T 137)).lookup 105 = some (.ishr, 1, 0, 0, 0) := by decide +kernel
theorem l137_106 : (ax_dt (ax_T 137)).lookup 106 = some (.i2b, 1, 0, 0, 0) := by decide +kernel
theorem l137_107 : (ax_dt (ax_T 137)).lookup 107 = some (.bastore, 1, 0, 0, 0) := by decide +kernel
theorem l137_108 : (ax_dt (ax_T 137)).lookup 108 = some (.aload_n 0, 1, 0, 0, 0) := by decide +kernel
theorem l137_109 : (ax_dt (ax_T 137)).lookup 109 = some (.dup, 1, 0, 0, 0) := by decide +kernel
theorem l137_110 : (ax_dt (ax_T 137)).lookup 110 = some (.getfield 124, 3, 9, 2, 0) := by decide +kernel
theorem l137_113 : (ax_dt (ax_T 137)).lookup 113 = some (.iconst 1, 1, 0, 0, 0) := by decide +kernel
theorem l137_114 : (ax_dt (ax_T 137)).lookup 114 = some (.iadd, 1, 0, 0, 0) := by decide +kernel
theorem l137_115 : (ax_dt (ax_T 137)).lookup 115 = some (.putfield 124, 3, 9, 2, 0) := by decide +kernel
theorem l137_118 : (ax_dt (ax_T 137)).lookup 118 = some (.iinc 6 1, 3, 0, 0, 0) := by decide +kernel
theorem l137_121 : (ax_dt (ax_T 137)).lookup 121 = some (.goto (-91), 3, 0, 0, 0) := by decide +kernel
theorem l137_124 : (ax_dt (ax_T 137)).lookup 124 = some (.aload_n 0, 1, 0, 0, 0) := by decide +kernel
theorem l137_125 : (ax_dt (ax_T 137)).lookup 125 = some (.getfield 124, 3, 9, 2, 0) := by decide +kernel
theorem l137_128 : (ax_dt (ax_T 137)).lookup 128 = some (.ireturn, 1, 0, 0, 0) := by decide +kernel
noncomputable def F_X11_feed_83 (v1 : Int) (v2 : Int) (v3 : Int) (v4 : Int) (v5 : Int) (v6 : Int) (y0 : Int) (μ : bM) : Option ((Int × bM) ⊕ (Int × bM)) := bG (bR (8 * (bRem v6 4))) (bG (bR (24 - (8 * (bRem v6 4)))) (bG (0 ≤ (μ 76 2) ∧ (μ 76 2) < 12000) (bG (bR (((bset μ 77 (μ 76 2).toNat (b8 (bShr y0 (24 - (8 * (bRem v6 4)))))) 76 2) + 1)) (bG (bR (v6 + 1)) (some (.inl ((v6 + 1), (bset (bset μ 77 (μ 76 2).toNat (b8 (bShr y0 (24 - (8 * (bRem v6 4)))))) 76 2 (((bset μ 77 (μ 76 2).toNat (b8 (bShr y0 (24 - (8 * (bRem v6 4)))))) 76 2) + 1)))))))))
noncomputable def F_X11_feed_30 (v1 : Int) (v2 : Int) (v3 : Int) (v4 : Int) (v5 : Int) (v6 : Int) (μ : bM) : Option ((Int × bM) ⊕ (Int × bM)) := if 20 ≤ v6 then some (.inr ((μ 76 2), μ)) else if 4 ≤ v6 then if 8 ≤ v6 then if 12 ≤ v6 then if 16 ≤ v6 then F_X11_feed_83 v1 v2 v3 v4 v5 v6 v5 μ else F_X11_feed_83 v1 v2 v3 v4 v5 v6 v4 μ else F_X11_feed_83 v1 v2 v3 v4 v5 v6 v3 μ else F_X11_feed_83 v1 v2 v3 v4 v5 v6 v2 μ else F_X11_feed_83 v1 v2 v3 v4 v5 v6 v1 μ
noncomputable def F_X11_feed (v1 : Int) (v2 : Int) (v3 : Int) (v4 : Int) (v5 : Int) (μ : bM) : Option (Int × bM) := bG (bR ((μ 76 2) + 20)) (if 12000 < ((μ 76 2) + 20) then bMm (F_X11_goes 0 μ) (fun w3 μ4 => if ¬ w3 = 0 then bLoop (fun z => F_X11_feed_30 v1 v2 v3 v4 v5 z.1 z.2) (0, μ4) else some (0, μ4)) else bMm (F_X11_goes 1 μ) (fun w7 μ8 => if ¬ w7 = 0 then bLoop (fun z => F_X11_feed_30 v1 v2 v3 v4 v5 z.1 z.2) (0, μ8) else some (0, μ8)))
theorem p_X11_feed_83 {L : Nat} {xs : Nat → Int32} {d : Nat} {μ : bM} {v1 : Int} {v2 : Int} {v3 : Int} {v4 : Int} {v5 : Int} {κ : ((Int × bM) ⊕ (Int × bM)) → Option bX} (hr : ∀ r : Int × bM, κ (.inr r) = (bMc) r) (H30 : ∀ (v6 : Int) (μ : bM), bR v6 → bD L xs (d + 1) 137 30 [(0, .ref 76), (1, bI v1), (2, bI v2), (3, bI v3), (4, bI v4), (5, bI v5), (6, bI v6)] [] μ (κ (.inl (v6, μ))))  (h1 : bR v1) (h2 : bR v2) (h3 : bR v3) (h4 : bR v4) (h5 : bR v5) {v6 : Int} (h6 : bR v6) {y0 : Int} (hy0 : bR y0) : bD L xs (d + 1) 137 83 [(0, .ref 76), (1, bI v1), (2, bI v2), (3, bI v3), (4, bI v4), (5, bI v5), (6, bI v6)] [bI y0] μ ((F_X11_feed_83 v1 v2 v3 v4 v5 v6 y0 μ).bind κ) := by
  unfold F_X11_feed_83
  refine bD.ok fun hk => ?_
  refine b_w (pc' := 85) (lv1 := ax_st1 [(0, .ref 76), (1, bI v1), (2, bI v2), (3, bI v3), (4, bI v4), (5, bI v5), (6, bI v6)] 7 (bI y0)) (lv' := [(0, .ref 76), (1, bI v1), (2, bI v2), (3, bI v3), (4, bI v4), (5, bI v5), (6, bI v6), (7, bI y0)]) (st' := []) l137_83 (fun _ => rfl) (bSb rfl (bSb rfl (bSb rfl (bSb rfl (bSb rfl (bSb rfl (bSb rfl (bSb rfl bSn)))))))) ?_
  refine b_s (pc' := 86) (lv1 := [(0, .ref 76), (1, bI v1), (2, bI v2), (3, bI v3), (4, bI v4), (5, bI v5), (6, bI v6), (7, bI y0)]) (st' := [.ref 76]) l137_85 (fun _ => rfl) ?_
  refine b_gp (q' := 77) (j := 1) l137_86 (by rfl) (by decide) (by decide) rfl hk rfl rfl (b_pc (pc' := 89) rfl ?_)
  refine b_s (pc' := 90) (lv1 := [(0, .ref 76), (1, bI v1), (2, bI v2), (3, bI v3), (4, bI v4), (5, bI v5), (6, bI v6), (7, bI y0)]) (st' := [.ref 76, .ref 77]) l137_89 (fun _ => rfl) ?_
  refine b_gi l137_90 (by rfl) (by decide) (by decide) rfl (b_pc (pc' := 93) rfl ?_)
  refine b_s (pc' := 95) (lv1 := [(0, .ref 76), (1, bI v1), (2, bI v2), (3, bI v3), (4, bI v4), (5, bI v5), (6, bI v6), (7, bI y0)]) (st' := [bI y0, bI (μ 76 2), .ref 77]) l137_93 (fun _ => rfl) ?_
  refine b_bipush l137_95 (by decide) (b_pc (pc' := 97) rfl ?_)
  refine b_bipush l137_97 (by decide) (b_pc (pc' := 99) rfl ?_)
  refine b_s (pc' := 101) (lv1 := [(0, .ref 76), (1, bI v1), (2, bI v2), (3, bI v3), (4, bI v4), (5, bI v5), (6, bI v6), (7, bI y0)]) (st' := [bI v6, bI 8, bI 24, bI y0, bI (μ 76 2), .ref 77]) l137_99 (fun _ => rfl) ?_
  refine b_s (pc' := 102) (lv1 := [(0, .ref 76), (1, bI v1), (2, bI v2), (3, bI v3), (4, bI v4), (5, bI v5), (6, bI v6), (7, bI y0)]) (st' := [bI 4, bI v6, bI 8, bI 24, bI y0, bI (μ 76 2), .ref 77]) l137_101 (fun _ => rfl) ?_
  refine b_irem l137_102 (by decide) (b_pc (pc' := 103) rfl ?_)
  refine b_imul l137_103 fun g1 => (b_pc (pc' := 104) rfl ?_)
  refine b_isub l137_104 fun g2 => (b_pc (pc' := 105) rfl ?_)
  refine b_ishr l137_105 (b_pc (pc' := 106) rfl ?_)
  refine b_i2b l137_106 (b_pc (pc' := 107) rfl ?_)
  refine b_g fun g7 => ?_
  refine b_bas l137_107 (by rfl) g7 (b8_B _) (bD.ok fun hk3 => b_pc (pc' := 108) rfl ?_)
  refine b_s (pc' := 109) (lv1 := [(0, .ref 76), (1, bI v1), (2, bI v2), (3, bI v3), (4, bI v4), (5, bI v5), (6, bI v6), (7, bI y0)]) (st' := [.ref 76]) l137_108 (fun _ => rfl) ?_
  refine b_s (pc' := 110) (lv1 := [(0, .ref 76), (1, bI v1), (2, bI v2), (3, bI v3), (4, bI v4), (5, bI v5), (6, bI v6), (7, bI y0)]) (st' := [.ref 76, .ref 76]) l137_109 (fun _ => rfl) ?_
  refine b_gi l137_110 (by rfl) (by decide) (by decide) rfl (b_pc (pc' := 113) rfl ?_)
  refine b_s (pc' := 114) (lv1 := [(0, .ref 76), (1, bI v1), (2, bI v2), (3, bI v3), (4, bI v4), (5, bI v5), (6, bI v6), (7, bI y0)]) (st' := [bI 1, bI ((bset μ 77 (μ 76 2).toNat (b8 (bShr y0 (24 - (8 * (bRem v6 4)))))) 76 2), .ref 76]) l137_113 (fun _ => rfl) ?_
  refine b_iadd l137_114 fun g4 => (b_pc (pc' := 115) rfl ?_)
  refine b_pi l137_115 (by rfl) (by decide) (by decide) rfl rfl g4 (bD.ok fun hk5 => b_pc (pc' := 118) rfl ?_)
  refine b_inc (lv' := [(0, .ref 76), (1, bI v1), (2, bI v2), (3, bI v3), (4, bI v4), (5, bI v5), (6, bI (v6 + 1))]) l137_118 rfl (by decide +kernel) (bSb rfl (bSb rfl (bSb rfl (bSb rfl (bSb rfl (bSb rfl (bSb rfl bSn))))))) fun g6 => (b_pc (pc' := 121) rfl ?_)
  refine b_s (pc' := 30) (lv1 := [(0, .ref 76), (1, bI v1), (2, bI v2), (3, bI v3), (4, bI v4), (5, bI v5), (6, bI (v6 + 1))]) (st' := []) l137_121 (fun _ => rfl) ?_
  refine bD.wk (lv' := [(0, .ref 76), (1, bI v1), (2, bI v2), (3, bI v3), (4, bI v4), (5, bI v5), (6, bI (v6 + 1))]) (bSb rfl (bSb rfl (bSb rfl (bSb rfl (bSb rfl (bSb rfl (bSb rfl bSn))))))) ?_
  exact H30 (v6 + 1) (bset (bset μ 77 (μ 76 2).toNat (b8 (bShr y0 (24 - (8 * (bRem v6 4)))))) 76 2 (((bset μ 77 (μ 76 2).toNat (b8 (bShr y0 (24 - (8 * (bRem v6 4)))))) 76 2) + 1)) g6
theorem q_X11_feed_30 {L : Nat} {xs : Nat → Int32} {d : Nat} {μ : bM} {v1 : Int} {v2 : Int} {v3 : Int} {v4 : Int} {v5 : Int} {κ : ((Int × bM) ⊕ (Int × bM)) → Option bX} (hr : ∀ r : Int × bM, κ (.inr r) = (bMc) r) (H30 : ∀ (v6 : Int) (μ : bM), bR v6 → bD L xs (d + 1) 137 30 [(0, .ref 76), (1, bI v1), (2, bI v2), (3, bI v3), (4, bI v4), (5, bI v5), (6, bI v6)] [] μ (κ (.inl (v6, μ))))  (h1 : bR v1) (h2 : bR v2) (h3 : bR v3) (h4 : bR v4) (h5 : bR v5) {v6 : Int} (h6 : bR v6) : bD L xs (d + 1) 137 30 [(0, .ref 76), (1, bI v1), (2, bI v2), (3, bI v3), (4, bI v4), (5, bI v5), (6, bI v6)] [] μ ((F_X11_feed_30 v1 v2 v3 v4 v5 v6 μ).bind κ) := by
  unfold F_X11_feed_30
  refine bD.ok fun hk => ?_
  refine b_s (pc' := 32) (lv1 := [(0, .ref 76), (1, bI v1), (2, bI v2), (3, bI v3), (4, bI v4), (5, bI v5), (6, bI v6)]) (st' := [bI v6]) l137_30 (fun _ => rfl) ?_
  refine b_bipush l137_32 (by decide) (b_pc (pc' := 34) rfl ?_)
  refine b_ige (pt := 124) l137_34 h6 (by decide) (by decide) rfl (fun c1 => ?_) (fun c1 => b_pc (pc' := 37) rfl ?_)
  · refine b_s (pc' := 125) (lv1 := [(0, .ref 76), (1, bI v1), (2, bI v2), (3, bI v3), (4, bI v4), (5, bI v5), (6, bI v6)]) (st' := [.ref 76]) l137_124 (fun _ => rfl) ?_
    refine b_gi l137_125 (by rfl) (by decide) (by decide) rfl (b_pc (pc' := 128) rfl ?_)
    exact b_reti l137_128 rfl (bO_f hk (ci := 9) (by rfl) rfl) (hr _)
  · refine b_s (pc' := 39) (lv1 := [(0, .ref 76), (1, bI v1), (2, bI v2), (3, bI v3), (4, bI v4), (5, bI v5), (6, bI v6)]) (st' := [bI v6]) l137_37 (fun _ => rfl) ?_
    refine b_s (pc' := 40) (lv1 := [(0, .ref 76), (1, bI v1), (2, bI v2), (3, bI v3), (4, bI v4), (5, bI v5), (6, bI v6)]) (st' := [bI 4, bI v6]) l137_39 (fun _ => rfl) ?_
    refine b_ige (pt := 47) l137_40 h6 (by decide) (by decide) rfl (fun c2 => ?_) (fun c2 => b_pc (pc' := 43) rfl ?_)
    · refine b_s (pc' := 49) (lv1 := [(0, .ref 76), (1, bI v1), (2, bI v2), (3, bI v3), (4, bI v4), (5, bI v5), (6, bI v6)]) (st' := [bI v6]) l137_47 (fun _ => rfl) ?_
      refine b_bipush l137_49 (by decide) (b_pc (pc' := 51) rfl ?_)
      refine b_ige (pt := 58) l137_51 h6 (by decide) (by decide) rfl (fun c3 => ?_) (fun c3 => b_pc (pc' := 54) rfl ?_)
      · refine b_s (pc' := 60) (lv1 := [(0, .ref 76), (1, bI v1), (2, bI v2), (3, bI v3), (4, bI v4), (5, bI v5), (6, bI v6)]) (st' := [bI v6]) l137_58 (fun _ => rfl) ?_
        refine b_bipush l137_60 (by decide) (b_pc (pc' := 62) rfl ?_)
        refine b_ige (pt := 69) l137_62 h6 (by decide) (by decide) rfl (fun c4 => ?_) (fun c4 => b_pc (pc' := 65) rfl ?_)
        · refine b_s (pc' := 71) (lv1 := [(0, .ref 76), (1, bI v1), (2, bI v2), (3, bI v3), (4, bI v4), (5, bI v5), (6, bI v6)]) (st' := [bI v6]) l137_69 (fun _ => rfl) ?_
          refine b_bipush l137_71 (by decide) (b_pc (pc' := 73) rfl ?_)
          refine b_ige (pt := 81) l137_73 h6 (by decide) (by decide) rfl (fun c5 => ?_) (fun c5 => b_pc (pc' := 76) rfl ?_)
          · refine b_s (pc' := 83) (lv1 := [(0, .ref 76), (1, bI v1), (2, bI v2), (3, bI v3), (4, bI v4), (5, bI v5), (6, bI v6)]) (st' := [bI v5]) l137_81 (fun _ => rfl) ?_
            refine bD.wk (lv' := [(0, .ref 76), (1, bI v1), (2, bI v2), (3, bI v3), (4, bI v4), (5, bI v5), (6, bI v6)]) (bSb rfl (bSb rfl (bSb rfl (bSb rfl (bSb rfl (bSb rfl (bSb rfl bSn))))))) ?_
            exact p_X11_feed_83 hr H30 h1 h2 h3 h4 h5 h6 h5
          · refine b_s (pc' := 78) (lv1 := [(0, .ref 76), (1, bI v1), (2, bI v2), (3, bI v3), (4, bI v4), (5, bI v5), (6, bI v6)]) (st' := [bI v4]) l137_76 (fun _ => rfl) ?_
            refine b_s (pc' := 83) (lv1 := [(0, .ref 76), (1, bI v1), (2, bI v2), (3, bI v3), (4, bI v4), (5, bI v5), (6, bI v6)]) (st' := [bI v4]) l137_78 (fun _ => rfl) ?_
            refine bD.wk (lv' := [(0, .ref 76), (1, bI v1), (2, bI v2), (3, bI v3), (4, bI v4), (5, bI v5), (6, bI v6)]) (bSb rfl (bSb rfl (bSb rfl (bSb rfl (bSb rfl (bSb rfl (bSb rfl bSn))))))) ?_
            exact p_X11_feed_83 hr H30 h1 h2 h3 h4 h5 h6 h4
        · refine b_s (pc' := 66) (lv1 := [(0, .ref 76), (1, bI v1), (2, bI v2), (3, bI v3), (4, bI v4), (5, bI v5), (6, bI v6)]) (st' := [bI v3]) l137_65 (fun _ => rfl) ?_
          refine b_s (pc' := 83) (lv1 := [(0, .ref 76), (1, bI v1), (2, bI v2), (3, bI v3), (4, bI v4), (5, bI v5), (6, bI v6)]) (st' := [bI v3]) l137_66 (fun _ => rfl) ?_
          refine bD.wk (lv' := [(0, .ref 76), (1, bI v1), (2, bI v2), (3, bI v3), (4, bI v4), (5, bI v5), (6, bI v6)]) (bSb rfl (bSb rfl (bSb rfl (bSb rfl (bSb rfl (bSb rfl (bSb rfl bSn))))))) ?_
          exact p_X11_feed_83 hr H30 h1 h2 h3 h4 h5 h6 h3
      · refine b_s (pc' := 55) (lv1 := [(0, .ref 76), (1, bI v1), (2, bI v2), (3, bI v3), (4, bI v4), (5, bI v5), (6, bI v6)]) (st' := [bI v2]) l137_54 (fun _ => rfl) ?_
        refine b_s (pc' := 83) (lv1 := [(0, .ref 76), (1, bI v1), (2, bI v2), (3, bI v3), (4, bI v4), (5, bI v5), (6, bI v6)]) (st' := [bI v2]) l137_55 (fun _ => rfl) ?_
        refine bD.wk (lv' := [(0, .ref 76), (1, bI v1), (2, bI v2), (3, bI v3), (4, bI v4), (5, bI v5), (6, bI v6)]) (bSb rfl (bSb rfl (bSb rfl (bSb rfl (bSb rfl (bSb rfl (bSb rfl bSn))))))) ?_
        exact p_X11_feed_83 hr H30 h1 h2 h3 h4 h5 h6 h2
    · refine b_s (pc' := 44) (lv1 := [(0, .ref 76), (1, bI v1), (2, bI v2), (3, bI v3), (4, bI v4), (5, bI v5), (6, bI v6)]) (st' := [bI v1]) l137_43 (fun _ => rfl) ?_
      refine b_s (pc' := 83) (lv1 := [(0, .ref 76), (1, bI v1), (2, bI v2), (3, bI v3), (4, bI v4), (5, bI v5), (6, bI v6)]) (st' := [bI v1]) l137_44 (fun _ => rfl) ?_
      refine bD.wk (lv' := [(0, .ref 76), (1, bI v1), (2, bI v2), (3, bI v3), (4, bI v4), (5, bI v5), (6, bI v6)]) (bSb rfl (bSb rfl (bSb rfl (bSb rfl (bSb rfl (bSb rfl (bSb rfl bSn))))))) ?_
      exact p_X11_feed_83 hr H30 h1 h2 h3 h4 h5 h6 h1
theorem p_X11_feed_30 {L : Nat} {xs : Nat → Int32} {d : Nat} {μ : bM}  {κ : (Int × bM) → Option bX} (hr : ∀ r : Int × bM, κ r = (bMc) r)  {v1 : Int} (h1 : bR v1) {v2 : Int} (h2 : bR v2) {v3 : Int} (h3 : bR v3) {v4 : Int} (h4 : bR v4) {v5 : Int} (h5 : bR v5) {v6 : Int} (h6 : bR v6) : bD L xs (d + 1) 137 30 [(0, .ref 76), (1, bI v1), (2, bI v2), (3, bI v3), (4, bI v4), (5, bI v5), (6, bI v6)] [] μ ((bLoop (fun z => F_X11_feed_30 v1 v2 v3 v4 v5 z.1 z.2) (v6, μ)).bind κ) :=
  b_loop (fun z => [(0, .ref 76), (1, bI v1), (2, bI v2), (3, bI v3), (4, bI v4), (5, bI v5), (6, bI z.1)]) (fun z => z.2) (fun z => bR z.1) (fun κ' hκ HH z hz => q_X11_feed_30 (κ := κ') (fun r => (hκ _).trans (hr r)) (fun a6 am b6 => HH (a6, am) b6)  h1 h2 h3 h4 h5 hz) (v6, μ) h6
theorem r_X11_feed {L : Nat} {xs : Nat → Int32} {d : Nat} {μ : bM}  (v1 : Int) (h1 : bR v1) (v2 : Int) (h2 : bR v2) (v3 : Int) (h3 : bR v3) (v4 : Int) (h4 : bR v4) (v5 : Int) (h5 : bR v5) : bD L xs (d + 1) 137 0 [(0, .ref 76), (1, bI v1), (2, bI v2), (3, bI v3), (4, bI v4), (5, bI v5)] [] μ ((F_X11_feed v1 v2 v3 v4 v5 μ).bind (bMc)) := by
  have hr : ∀ r, (bMc) r = (bMc) r := fun _ => rfl
  unfold F_X11_feed
  refine bD.ok fun hk => ?_
  refine b_s (pc' := 1) (lv1 := [(0, .ref 76), (1, bI v1), (2, bI v2), (3, bI v3), (4, bI v4), (5, bI v5)]) (st' := [.ref 76]) l137_0 (fun _ => rfl) ?_
  refine b_s (pc' := 2) (lv1 := [(0, .ref 76), (1, bI v1), (2, bI v2), (3, bI v3), (4, bI v4), (5, bI v5)]) (st' := [.ref 76, .ref 76]) l137_1 (fun _ => rfl) ?_
  refine b_gi l137_2 (by rfl) (by decide) (by decide) rfl (b_pc (pc' := 5) rfl ?_)
  refine b_bipush l137_5 (by decide) (b_pc (pc' := 7) rfl ?_)
  refine b_iadd l137_7 fun g1 => (b_pc (pc' := 8) rfl ?_)
  refine b_sipush l137_8 (by decide) (b_pc (pc' := 11) rfl ?_)
  refine b_igt (pt := 18) l137_11 g1 (by decide) (by decide) rfl (fun c2 => ?_) (fun c2 => b_pc (pc' := 14) rfl ?_)
  · refine b_s (pc' := 19) (lv1 := [(0, .ref 76), (1, bI v1), (2, bI v2), (3, bI v3), (4, bI v4), (5, bI v5)]) (st' := [bI 0, .ref 76]) l137_18 (fun _ => rfl) ?_
    refine b_cMz l137_19 rfl (b_rc (ci := 9) (by rfl) (by decide) (by decide +kernel)) (Nat.le_of_ble_eq_true rfl) (Nat.le_of_ble_eq_true rfl) rfl (r_X11_goes 0 (by decide)) fun w3 μ4 hw3 => bD.ok fun hk5 => b_pc (pc' := 22) rfl ?_
    refine b_zne (pt := 27) l137_22 (bZ_R hw3) (by decide) rfl (fun c6 => ?_) (fun c6 => b_pc (pc' := 25) rfl ?_)
    · refine b_s (pc' := 28) (lv1 := [(0, .ref 76), (1, bI v1), (2, bI v2), (3, bI v3), (4, bI v4), (5, bI v5)]) (st' := [bI 0]) l137_27 (fun _ => rfl) ?_
      refine b_w (pc' := 30) (lv1 := ax_st1 [(0, .ref 76), (1, bI v1), (2, bI v2), (3, bI v3), (4, bI v4), (5, bI v5)] 6 (bI 0)) (lv' := [(0, .ref 76), (1, bI v1), (2, bI v2), (3, bI v3), (4, bI v4), (5, bI v5), (6, bI 0)]) (st' := []) l137_28 (fun _ => rfl) (bSb rfl (bSb rfl (bSb rfl (bSb rfl (bSb rfl (bSb rfl (bSb rfl bSn))))))) ?_
      refine bD.wk (lv' := [(0, .ref 76), (1, bI v1), (2, bI v2), (3, bI v3), (4, bI v4), (5, bI v5), (6, bI 0)]) (bSb rfl (bSb rfl (bSb rfl (bSb rfl (bSb rfl (bSb rfl (bSb rfl bSn))))))) ?_
      exact p_X11_feed_30 hr h1 h2 h3 h4 h5 (by decide)
    · refine b_s (pc' := 26) (lv1 := [(0, .ref 76), (1, bI v1), (2, bI v2), (3, bI v3), (4, bI v4), (5, bI v5)]) (st' := [bI 0]) l137_25 (fun _ => rfl) ?_
      exact b_reti l137_26 rfl (by decide) (hr _)
  · refine b_s (pc' := 15) (lv1 := [(0, .ref 76), (1, bI v1), (2, bI v2), (3, bI v3), (4, bI v4), (5, bI v5)]) (st' := [bI 1, .ref 76]) l137_14 (fun _ => rfl) ?_
    refine b_s (pc' := 19) (lv1 := [(0, .ref 76), (1, bI v1), (2, bI v2), (3, bI v3), (4, bI v4), (5, bI v5)]) (st' := [bI 1, .ref 76]) l137_15 (fun _ => rfl) ?_
    refine b_cMz l137_19 rfl (b_rc (ci := 9) (by rfl) (by decide) (by decide +kernel)) (Nat.le_of_ble_eq_true rfl) (Nat.le_of_ble_eq_true rfl) rfl (r_X11_goes 1 (by decide)) fun w7 μ8 hw7 => bD.ok fun hk9 => b_pc (pc' := 22) rfl ?_
    refine b_zne (pt := 27) l137_22 (bZ_R hw7) (by decide) rfl (fun c10 => ?_) (fun c10 => b_pc (pc' := 25) rfl ?_)
    · refine b_s (pc' := 28) (lv1 := [(0, .ref 76), (1, bI v1), (2, bI v2), (3, bI v3), (4, bI v4), (5, bI v5)]) (st' := [bI 0]) l137_27 (fun _ => rfl) ?_
      refine b_w (pc' := 30) (lv1 := ax_st1 [(0, .ref 76), (1, bI v1), (2, bI v2), (3, bI v3), (4, bI v4), (5, bI v5)] 6 (bI 0)) (lv' := [(0, .ref 76), (1, bI v1), (2, bI v2), (3, bI v3), (4, bI v4), (5, bI v5), (6, bI 0)]) (st' := []) l137_28 (fun _ => rfl) (bSb rfl (bSb rfl (bSb rfl (bSb rfl (bSb rfl (bSb rfl (bSb rfl bSn))))))) ?_
      refine bD.wk (lv' := [(0, .ref 76), (1, bI v1), (2, bI v2), (3, bI v3), (4, bI v4), (5, bI v5), (6, bI 0)]) (bSb rfl (bSb rfl (bSb rfl (bSb rfl (bSb rfl (bSb rfl (bSb rfl bSn))))))) ?_
      exact p_X11_feed_30 hr h1 h2 h3 h4 h5 (by decide)
    · refine b_s (pc' := 26) (lv1 := [(0, .ref 76), (1, bI v1), (2, bI v2), (3, bI v3), (4, bI v4), (5, bI v5)]) (st' := [bI 0]) l137_25 (fun _ => rfl) ?_
      exact b_reti l137_26 rfl (by decide) (hr _)
/-! ETModel.end -/
theorem l138_0 : (ax_dt (ax_T 138)).lookup 0 = some (.aload_n 0, 1, 0, 0, 0) := by decide +kernel
theorem l138_1 : (ax_dt (ax_T 138)).lookup 1 = some (.aload_n 0, 1, 0, 0, 0) := by decide +kernel
theorem l138_2 : (ax_dt (ax_T 138)).lookup 2 = some (.iload_n 1, 1, 0, 0, 0) := by decide +kernel
theorem l138_3 : (ax_dt (ax_T 138)).lookup 3 = some (.i2l, 1, 0, 0, 0) := by decide +kernel
theorem l138_4 : (ax_dt (ax_T 138)).lookup 4 = some (.lconst 0, 1, 0, 0, 0) := by decide +kernel
theorem l138_5 : (ax_dt (ax_T 138)).lookup 5 = some (.aload_n 0, 1, 0, 0, 0) := by decide +kernel
theorem l138_6 : (ax_dt (ax_T 138)).lookup 6 = some (.getfield 124, 3, 9, 2, 0) := by decide +kernel
theorem l138_9 : (ax_dt (ax_T 138)).lookup 9 = some (.i2l, 1, 0, 0, 0) := by decide +kernel
theorem l138_10 : (ax_dt (ax_T 138)).lookup 10 = some (.invokestatic 131, 3, 133, 3, 0) := by decide +kernel
theorem l138_13 : (ax_dt (ax_T 138)).lookup 13 = some (.invokevirtual 127, 3, 134, 1, 0) := by decide +kernel
theorem l138_16 : (ax_dt (ax_T 138)).lookup 16 = some (.ifCond .eq 7, 3, 0, 0, 0) := by decide +kernel
theorem l138_19 : (ax_dt (ax_T 138)).lookup 19 = some (.iload_n 1, 1, 0, 0, 0) := by decide +kernel
theorem l138_20 : (ax_dt (ax_T 138)).lookup 20 = some (.goto 7, 3, 0, 0, 0) := by decide +kernel
theorem l138_23 : (ax_dt (ax_T 138)).lookup 23 = some (.aload_n 0, 1, 0, 0, 0) := by decide +kernel
theorem l138_24 : (ax_dt (ax_T 138)).lookup 24 = some (.getfield 124, 3, 9, 2, 0) := by decide +kernel
theorem l138_27 : (ax_dt (ax_T 138)).lookup 27 = some (.putfield 124, 3, 9, 2, 0) := by decide +kernel
theorem l138_30 : (ax_dt (ax_T 138)).lookup 30 = some (.return_, 1, 0, 0, 0) := by decide +kernel
noncomputable def F_X11_end (v1 : Int) (μ : bM) : Option (Int × bM) := (F_X11_in v1 0 (μ 76 2) μ).bind fun w1 => bMm (F_X11_goes w1 μ) (fun w2 μ3 => if w2 = 0 then some (0, (bset μ3 76 2 (μ3 76 2))) else some (0, (bset μ3 76 2 v1)))
theorem r_X11_end {L : Nat} {xs : Nat → Int32} {d : Nat} {μ : bM}  (v1 : Int) (h1 : bR v1) : bD L xs (d + 1) 138 0 [(0, .ref 76), (1, bI v1)] [] μ ((F_X11_end v1 μ).bind (bMc)) := by
  have hr : ∀ r, (bMc) r = (bMc) r := fun _ => rfl
  unfold F_X11_end
  refine bD.ok fun hk => ?_
  refine b_s (pc' := 1) (lv1 := [(0, .ref 76), (1, bI v1)]) (st' := [.ref 76]) l138_0 (fun _ => rfl) ?_
  refine b_s (pc' := 2) (lv1 := [(0, .ref 76), (1, bI v1)]) (st' := [.ref 76, .ref 76]) l138_1 (fun _ => rfl) ?_
  refine b_s (pc' := 3) (lv1 := [(0, .ref 76), (1, bI v1)]) (st' := [bI v1, .ref 76, .ref 76]) l138_2 (fun _ => rfl) ?_
  refine b_i2l l138_3 h1 (b_pc (pc' := 4) rfl ?_)
  refine b_lconst (e := 0) l138_4 (by decide) (b_pc (pc' := 5) rfl ?_)
  refine b_s (pc' := 6) (lv1 := [(0, .ref 76), (1, bI v1)]) (st' := [.ref 76, bLg 0, bLg v1, .ref 76, .ref 76]) l138_5 (fun _ => rfl) ?_
  refine b_gi l138_6 (by rfl) (by decide) (by decide) rfl (b_pc (pc' := 9) rfl ?_)
  refine b_i2l l138_9 (bO_f hk (ci := 9) (by rfl) rfl) (b_pc (pc' := 10) rfl ?_)
  refine b_cPz l138_10 rfl (fun _ => trivial) (Nat.le_of_ble_eq_true rfl) (Nat.le_of_ble_eq_true rfl) rfl (r_X11_in v1 (bR_L h1) 0 (by decide) (μ 76 2) (bR_L (bO_f hk (ci := 9) (by rfl) rfl))) fun w1 hw1 => b_pc (pc' := 13) rfl ?_
  refine b_cMz l138_13 rfl (b_rc (ci := 9) (by rfl) (by decide) (by decide +kernel)) (Nat.le_of_ble_eq_true rfl) (Nat.le_of_ble_eq_true rfl) rfl (r_X11_goes w1 (bZ_R hw1)) fun w2 μ3 hw2 => bD.ok fun hk4 => b_pc (pc' := 16) rfl ?_
  refine b_zeq (pt := 23) l138_16 (bZ_R hw2) (by decide) rfl (fun c5 => ?_) (fun c5 => b_pc (pc' := 19) rfl ?_)
  · refine b_s (pc' := 24) (lv1 := [(0, .ref 76), (1, bI v1)]) (st' := [.ref 76, .ref 76]) l138_23 (fun _ => rfl) ?_
    refine b_gi l138_24 (by rfl) (by decide) (by decide) rfl (b_pc (pc' := 27) rfl ?_)
    refine b_pi l138_27 (by rfl) (by decide) (by decide) rfl rfl (bO_f hk4 (ci := 9) (by rfl) rfl) (bD.ok fun hk6 => b_pc (pc' := 30) rfl ?_)
    exact b_retv l138_30 rfl (hr _)
  · refine b_s (pc' := 20) (lv1 := [(0, .ref 76), (1, bI v1)]) (st' := [bI v1, .ref 76]) l138_19 (fun _ => rfl) ?_
    refine b_s (pc' := 27) (lv1 := [(0, .ref 76), (1, bI v1)]) (st' := [bI v1, .ref 76]) l138_20 (fun _ => rfl) ?_
    refine b_pi l138_27 (by rfl) (by decide) (by decide) rfl rfl h1 (bD.ok fun hk7 => b_pc (pc' := 30) rfl ?_)
    exact b_retv l138_30 rfl (hr _)
/-! ETModel.isName -/
theorem l139_0 : (ax_dt (ax_T 139)).lookup 0 = some (.iload_n 0, 1, 0, 0, 0) := by decide +kernel
theorem l139_1 : (ax_dt (ax_T 139)).lookup 1 = some (.i2l, 1, 0, 0, 0) := by decide +kernel
theorem l139_2 : (ax_dt (ax_T 139)).lookup 2 = some (.lconst 1, 1, 0, 0, 0) := by decide +kernel
theorem l139_3 : (ax_dt (ax_T 139)).lookup 3 = some (.ldc2_w 135, 3, 0, 0, 16383) := by decide +kernel
theorem l139_6 : (ax_dt (ax_T 139)).lookup 6 = some (.invokestatic 131, 3, 133, 3, 0) := by decide +kernel
theorem l139_9 : (ax_dt (ax_T 139)).lookup 9 = some (.ireturn, 1, 0, 0, 0) := by decide +kernel
noncomputable def F_X11_isName (v0 : Int) (μ : bM) : Option (Int) := (F_X11_in v0 1 16383 μ).bind fun w1 => some (w1)
theorem r_X11_isName {L : Nat} {xs : Nat → Int32} {d : Nat} {μ : bM}  (v0 : Int) (h0 : bR v0) : bD L xs (d + 1) 139 0 [(0, bI v0)] [] μ ((F_X11_isName v0 μ).bind (bPc μ)) := by
  have hr : ∀ r, (bPc μ) r = (bPc μ) r := fun _ => rfl
  unfold F_X11_isName
  refine bD.ok fun hk => ?_
  refine b_s (pc' := 1) (lv1 := [(0, bI v0)]) (st' := [bI v0]) l139_0 (fun _ => rfl) ?_
  refine b_i2l l139_1 h0 (b_pc (pc' := 2) rfl ?_)
  refine b_lconst (e := 1) l139_2 (by decide) (b_pc (pc' := 3) rfl ?_)
  refine b_s (pc' := 6) (lv1 := [(0, bI v0)]) (st' := [bLg 16383, bLg 1, bLg v0]) l139_3 (fun _ => rfl) ?_
  refine b_cPz l139_6 rfl (fun _ => trivial) (Nat.le_of_ble_eq_true rfl) (Nat.le_of_ble_eq_true rfl) rfl (r_X11_in v0 (bR_L h0) 1 (by decide) 16383 (by decide)) fun w1 hw1 => b_pc (pc' := 9) rfl ?_
  exact b_retz l139_9 rfl hw1 (hr _)
/-! ETModel.at -/
theorem l140_0 : (ax_dt (ax_T 140)).lookup 0 = some (.sipush 400, 3, 0, 0, 0) := by decide +kernel
theorem l140_3 : (ax_dt (ax_T 140)).lookup 3 = some (.aload_n 0, 1, 0, 0, 0) := by decide +kernel
theorem l140_4 : (ax_dt (ax_T 140)).lookup 4 = some (.getfield 137, 3, 9, 3, 0) := by decide +kernel
theorem l140_7 : (ax_dt (ax_T 140)).lookup 7 = some (.imul, 1, 0, 0, 0) := by decide +kernel
theorem l140_8 : (ax_dt (ax_T 140)).lookup 8 = some (.iload_n 1, 1, 0, 0, 0) := by decide +kernel
theorem l140_9 : (ax_dt (ax_T 140)).lookup 9 = some (.iadd, 1, 0, 0, 0) := by decide +kernel
theorem l140_10 : (ax_dt (ax_T 140)).lookup 10 = some (.ireturn, 1, 0, 0, 0) := by decide +kernel
noncomputable def F_X11_at (v1 : Int) (μ : bM) : Option (Int) := bG (bR (400 * (μ 76 3))) (bG (bR ((400 * (μ 76 3)) + v1)) (some (((400 * (μ 76 3)) + v1))))
theorem r_X11_at {L : Nat} {xs : Nat → Int32} {d : Nat} {μ : bM}  (v1 : Int) (h1 : bR v1) : bD L xs (d + 0) 140 0 [(0, .ref 76), (1, bI v1)] [] μ ((F_X11_at v1 μ).bind (bPc μ)) := by
  have hr : ∀ r, (bPc μ) r = (bPc μ) r := fun _ => rfl
  unfold F_X11_at
  refine bD.ok fun hk => ?_
  refine b_sipush l140_0 (by decide) (b_pc (pc' := 3) rfl ?_)
  refine b_s (pc' := 4) (lv1 := [(0, .ref 76), (1, bI v1)]) (st' := [.ref 76, bI 400]) l140_3 (fun _ => rfl) ?_
  refine b_gi l140_4 (by rfl) (by decide) (by decide) rfl (b_pc (pc' := 7) rfl ?_)
  refine b_imul l140_7 fun g1 => (b_pc (pc' := 8) rfl ?_)
  refine b_s (pc' := 9) (lv1 := [(0, .ref 76), (1, bI v1)]) (st' := [bI v1, bI (400 * (μ 76 3))]) l140_8 (fun _ => rfl) ?_
  refine b_iadd l140_9 fun g2 => (b_pc (pc' := 10) rfl ?_)
  exact b_reti l140_10 rfl g2 (hr _)
/-! ETModel.isEntry -/
theorem l141_0 : (ax_dt (ax_T 141)).lookup 0 = some (.iload_n 1, 1, 0, 0, 0) := by decide +kernel
theorem l141_1 : (ax_dt (ax_T 141)).lookup 1 = some (.i2l, 1, 0, 0, 0) := by decide +kernel
theorem l141_2 : (ax_dt (ax_T 141)).lookup 2 = some (.lconst 0, 1, 0, 0, 0) := by decide +kernel
theorem l141_3 : (ax_dt (ax_T 141)).lookup 3 = some (.aload_n 0, 1, 0, 0, 0) := by decide +kernel
theorem l141_4 : (ax_dt (ax_T 141)).lookup 4 = some (.getfield 13, 3, 9, 4, 0) := by decide +kernel
theorem l141_7 : (ax_dt (ax_T 141)).lookup 7 = some (.aload_n 0, 1, 0, 0, 0) := by decide +kernel
theorem l141_8 : (ax_dt (ax_T 141)).lookup 8 = some (.getfield 137, 3, 9, 3, 0) := by decide +kernel
theorem l141_11 : (ax_dt (ax_T 141)).lookup 11 = some (.iaload, 1, 0, 0, 0) := by decide +kernel
theorem l141_12 : (ax_dt (ax_T 141)).lookup 12 = some (.iconst 1, 1, 0, 0, 0) := by decide +kernel
theorem l141_13 : (ax_dt (ax_T 141)).lookup 13 = some (.isub, 1, 0, 0, 0) := by decide +kernel
theorem l141_14 : (ax_dt (ax_T 141)).lookup 14 = some (.i2l, 1, 0, 0, 0) := by decide +kernel
theorem l141_15 : (ax_dt (ax_T 141)).lookup 15 = some (.invokestatic 131, 3, 133, 3, 0) := by decide +kernel
theorem l141_18 : (ax_dt (ax_T 141)).lookup 18 = some (.ireturn, 1, 0, 0, 0) := by decide +kernel
noncomputable def F_X11_isEntry (v1 : Int) (μ : bM) : Option (Int) := bG (0 ≤ (μ 76 3) ∧ (μ 76 3) < 2) (bG (bR ((μ 78 (μ 76 3).toNat) - 1)) ((F_X11_in v1 0 ((μ 78 (μ 76 3).toNat) - 1) μ).bind fun w2 => some (w2)))
theorem r_X11_isEntry {L : Nat} {xs : Nat → Int32} {d : Nat} {μ : bM}  (v1 : Int) (h1 : bR v1) : bD L xs (d + 1) 141 0 [(0, .ref 76), (1, bI v1)] [] μ ((F_X11_isEntry v1 μ).bind (bPc μ)) := by
  have hr : ∀ r, (bPc μ) r = (bPc μ) r := fun _ => rfl
  unfold F_X11_isEntry
  refine bD.ok fun hk => ?_
  refine b_s (pc' := 1) (lv1 := [(0, .ref 76), (1, bI v1)]) (st' := [bI v1]) l141_0 (fun _ => rfl) ?_
  refine b_i2l l141_1 h1 (b_pc (pc' := 2) rfl ?_)
  refine b_lconst (e := 0) l141_2 (by decide) (b_pc (pc' := 3) rfl ?_)
  refine b_s (pc' := 4) (lv1 := [(0, .ref 76), (1, bI v1)]) (st' := [.ref 76, bLg 0, bLg v1]) l141_3 (fun _ => rfl) ?_
  refine b_gp (q' := 78) (j := 2) l141_4 (by rfl) (by decide) (by decide) rfl hk rfl rfl (b_pc (pc' := 7) rfl ?_)
  refine b_s (pc' := 8) (lv1 := [(0, .ref 76), (1, bI v1)]) (st' := [.ref 76, .ref 78, bLg 0, bLg v1]) l141_7 (fun _ => rfl) ?_
  refine b_gi l141_8 (by rfl) (by decide) (by decide) rfl (b_pc (pc' := 11) rfl ?_)
  refine b_g fun g3 => ?_
  refine b_ial l141_11 (by rfl) g3 (b_pc (pc' := 12) rfl ?_)
  refine b_s (pc' := 13) (lv1 := [(0, .ref 76), (1, bI v1)]) (st' := [bI 1, bI (μ 78 (μ 76 3).toNat), bLg 0, bLg v1]) l141_12 (fun _ => rfl) ?_
  refine b_isub l141_13 fun g1 => (b_pc (pc' := 14) rfl ?_)
  refine b_i2l l141_14 g1 (b_pc (pc' := 15) rfl ?_)
  refine b_cPz l141_15 rfl (fun _ => trivial) (Nat.le_of_ble_eq_true rfl) (Nat.le_of_ble_eq_true rfl) rfl (r_X11_in v1 (bR_L h1) 0 (by decide) ((μ 78 (μ 76 3).toNat) - 1) (bR_L g1)) fun w2 hw2 => b_pc (pc' := 18) rfl ?_
  exact b_retz l141_18 rfl hw2 (hr _)
/-! ETModel.make -/
theorem l142_0 : (ax_dt (ax_T 142)).lookup 0 = some (.aload_n 0, 1, 0, 0, 0) := by decide +kernel
theorem l142_1 : (ax_dt (ax_T 142)).lookup 1 = some (.getfield 13, 3, 9, 4, 0) := by decide +kernel
theorem l142_4 : (ax_dt (ax_T 142)).lookup 4 = some (.aload_n 0, 1, 0, 0, 0) := by decide +kernel
theorem l142_5 : (ax_dt (ax_T 142)).lookup 5 = some (.getfield 137, 3, 9, 3, 0) := by decide +kernel
theorem l142_8 : (ax_dt (ax_T 142)).lookup 8 = some (.iaload, 1, 0, 0, 0) := by decide +kernel
theorem l142_9 : (ax_dt (ax_T 142)).lookup 9 = some (.istore 4, 2, 0, 0, 0) := by decide +kernel
theorem l142_11 : (ax_dt (ax_T 142)).lookup 11 = some (.aload_n 0, 1, 0, 0, 0) := by decide +kernel
theorem l142_12 : (ax_dt (ax_T 142)).lookup 12 = some (.getfield 13, 3, 9, 4, 0) := by decide +kernel
theorem l142_15 : (ax_dt (ax_T 142)).lookup 15 = some (.aload_n 0, 1, 0, 0, 0) := by decide +kernel
theorem l142_16 : (ax_dt (ax_T 142)).lookup 16 = some (.getfield 137, 3, 9, 3, 0) := by decide +kernel
theorem l142_19 : (ax_dt (ax_T 142)).lookup 19 = some (.dup2, 1, 0, 0, 0) := by decide +kernel
theorem l142_20 : (ax_dt (ax_T 142)).lookup 20 = some (.iaload, 1, 0, 0, 0) := by decide +kernel
theorem l142_21 : (ax_dt (ax_T 142)).lookup 21 = some (.iconst 1, 1, 0, 0, 0) := by decide +kernel
theorem l142_22 : (ax_dt (ax_T 142)).lookup 22 = some (.iadd, 1, 0, 0, 0) := by decide +kernel
theorem l142_23 : (ax_dt (ax_T 142)).lookup 23 = some (.iastore, 1, 0, 0, 0) := by decide +kernel
theorem l142_24 : (ax_dt (ax_T 142)).lookup 24 = some (.aload_n 0, 1, 0, 0, 0) := by decide +kernel
theorem l142_25 : (ax_dt (ax_T 142)).lookup 25 = some (.iload 4, 2, 0, 0, 0) := by decide +kernel
theorem l142_27 : (ax_dt (ax_T 142)).lookup 27 = some (.invokevirtual 140, 3, 140, 1, 0) := by decide +kernel
theorem l142_30 : (ax_dt (ax_T 142)).lookup 30 = some (.istore 5, 2, 0, 0, 0) := by decide +kernel
theorem l142_32 : (ax_dt (ax_T 142)).lookup 32 = some (.aload_n 0, 1, 0, 0, 0) := by decide +kernel
theorem l142_33 : (ax_dt (ax_T 142)).lookup 33 = some (.getfield 23, 3, 9, 7, 0) := by decide +kernel
theorem l142_36 : (ax_dt (ax_T 142)).lookup 36 = some (.iload 5, 2, 0, 0, 0) := by decide +kernel
theorem l142_38 : (ax_dt (ax_T 142)).lookup 38 = some (.iload_n 1, 1, 0, 0, 0) := by decide +kernel
theorem l142_39 : (ax_dt (ax_T 142)).lookup 39 = some (.iastore, 1, 0, 0, 0) := by decide +kernel
theorem l142_40 : (ax_dt (ax_T 142)).lookup 40 = some (.aload_n 0, 1, 0, 0, 0) := by decide +kernel
theorem l142_41 : (ax_dt (ax_T 142)).lookup 41 = some (.getfield 26, 3, 9, 8, 0) := by decide +kernel
theorem l142_44 : (ax_dt (ax_T 142)).lookup 44 = some (.iload 5, 2, 0, 0, 0) := by decide +kernel
theorem l142_46 : (ax_dt (ax_T 142)).lookup 46 = some (.iload_n 2, 1, 0, 0, 0) := by decide +kernel
theorem l142_47 : (ax_dt (ax_T 142)).lookup 47 = some (.iastore, 1, 0, 0, 0) := by decide +kernel
theorem l142_48 : (ax_dt (ax_T 142)).lookup 48 = some (.aload_n 0, 1, 0, 0, 0) := by decide +kernel
theorem l142_49 : (ax_dt (ax_T 142)).lookup 49 = some (.getfield 29, 3, 9, 9, 0) := by decide +kernel
theorem l142_52 : (ax_dt (ax_T 142)).lookup 52 = some (.iload 5, 2, 0, 0, 0) := by decide +kernel
theorem l142_54 : (ax_dt (ax_T 142)).lookup 54 = some (.iload_n 3, 1, 0, 0, 0) := by decide +kernel
theorem l142_55 : (ax_dt (ax_T 142)).lookup 55 = some (.iastore, 1, 0, 0, 0) := by decide +kernel
theorem l142_56 : (ax_dt (ax_T 142)).lookup 56 = some (.aload_n 0, 1, 0, 0, 0) := by decide +kernel
theorem l142_57 : (ax_dt (ax_T 142)).lookup 57 = some (.getfield 32, 3, 9, 10, 0) := by decide +kernel
theorem l142_60 : (ax_dt (ax_T 142)).lookup 60 = some (.iload 5, 2, 0, 0, 0) := by decide +kernel
theorem l142_62 : (ax_dt (ax_T 142)).lookup 62 = some (.iconst 0, 1, 0, 0, 0) := by decide +kernel
theorem l142_63 : (ax_dt (ax_T 142)).lookup 63 = some (.iastore, 1, 0, 0, 0) := by decide +kernel
theorem l142_64 : (ax_dt (ax_T 142)).lookup 64 = some (.iload 4, 2, 0, 0, 0) := by decide +kernel
theorem l142_66 : (ax_dt (ax_T 142)).lookup 66 = some (.ireturn, 1, 0, 0, 0) := by decide +kernel
noncomputable def F_X11_make (v1 : Int) (v2 : Int) (v3 : Int) (μ : bM) : Option (Int × bM) := bG (0 ≤ (μ 76 3) ∧ (μ 76 3) < 2) (bG (0 ≤ (μ 76 3) ∧ (μ 76 3) < 2) (bG (bR ((μ 78 (μ 76 3).toNat) + 1)) (bG (0 ≤ (μ 76 3) ∧ (μ 76 3) < 2) ((F_X11_at (μ 78 (μ 76 3).toNat) (bset μ 78 (μ 76 3).toNat ((μ 78 (μ 76 3).toNat) + 1))).bind fun w3 => bG (0 ≤ w3 ∧ w3 < 800) (bG (0 ≤ w3 ∧ w3 < 800) (bG (0 ≤ w3 ∧ w3 < 800) (bG (0 ≤ w3 ∧ w3 < 800) (some ((μ 78 (μ 76 3).toNat), (bset (bset (bset (bset (bset μ 78 (μ 76 3).toNat ((μ 78 (μ 76 3).toNat) + 1)) 81 w3.toNat v1) 82 w3.toNat v2) 83 w3.toNat v3) 84 w3.toNat 0))))))))))
theorem r_X11_make {L : Nat} {xs : Nat → Int32} {d : Nat} {μ : bM}  (v1 : Int) (h1 : bR v1) (v2 : Int) (h2 : bR v2) (v3 : Int) (h3 : bR v3) : bD L xs (d + 1) 142 0 [(0, .ref 76), (1, bI v1), (2, bI v2), (3, bI v3)] [] μ ((F_X11_make v1 v2 v3 μ).bind (bMc)) := by
  have hr : ∀ r, (bMc) r = (bMc) r := fun _ => rfl
  unfold F_X11_make
  refine bD.ok fun hk => ?_
  refine b_s (pc' := 1) (lv1 := [(0, .ref 76), (1, bI v1), (2, bI v2), (3, bI v3)]) (st' := [.ref 76]) l142_0 (fun _ => rfl) ?_
  refine b_gp (q' := 78) (j := 2) l142_1 (by rfl) (by decide) (by decide) rfl hk rfl rfl (b_pc (pc' := 4) rfl ?_)
  refine b_s (pc' := 5) (lv1 := [(0, .ref 76), (1, bI v1), (2, bI v2), (3, bI v3)]) (st' := [.ref 76, .ref 78]) l142_4 (fun _ => rfl) ?_
  refine b_gi l142_5 (by rfl) (by decide) (by decide) rfl (b_pc (pc' := 8) rfl ?_)
  refine b_g fun g14 => ?_
  refine b_ial l142_8 (by rfl) g14 (b_pc (pc' := 9) rfl ?_)
  refine b_w (pc' := 11) (lv1 := ax_st1 [(0, .ref 76), (1, bI v1), (2, bI v2), (3, bI v3)] 4 (bI (μ 78 (μ 76 3).toNat))) (lv' := [(0, .ref 76), (1, bI v1), (2, bI v2), (3, bI v3), (4, bI (μ 78 (μ 76 3).toNat))]) (st' := []) l142_9 (fun _ => rfl) (bSb rfl (bSb rfl (bSb rfl (bSb rfl (bSb rfl bSn))))) ?_
  refine b_s (pc' := 12) (lv1 := [(0, .ref 76), (1, bI v1), (2, bI v2), (3, bI v3), (4, bI (μ 78 (μ 76 3).toNat))]) (st' := [.ref 76]) l142_11 (fun _ => rfl) ?_
  refine b_gp (q' := 78) (j := 2) l142_12 (by rfl) (by decide) (by decide) rfl hk rfl rfl (b_pc (pc' := 15) rfl ?_)
  refine b_s (pc' := 16) (lv1 := [(0, .ref 76), (1, bI v1), (2, bI v2), (3, bI v3), (4, bI (μ 78 (μ 76 3).toNat))]) (st' := [.ref 76, .ref 78]) l142_15 (fun _ => rfl) ?_
  refine b_gi l142_16 (by rfl) (by decide) (by decide) rfl (b_pc (pc' := 19) rfl ?_)
  refine b_s (pc' := 20) (lv1 := [(0, .ref 76), (1, bI v1), (2, bI v2), (3, bI v3), (4, bI (μ 78 (μ 76 3).toNat))]) (st' := [bI (μ 76 3), .ref 78, bI (μ 76 3), .ref 78]) l142_19 (fun _ => rfl) ?_
  refine b_g fun g13 => ?_
  refine b_ial l142_20 (by rfl) g13 (b_pc (pc' := 21) rfl ?_)
  refine b_s (pc' := 22) (lv1 := [(0, .ref 76), (1, bI v1), (2, bI v2), (3, bI v3), (4, bI (μ 78 (μ 76 3).toNat))]) (st' := [bI 1, bI (μ 78 (μ 76 3).toNat), bI (μ 76 3), .ref 78]) l142_21 (fun _ => rfl) ?_
  refine b_iadd l142_22 fun g1 => (b_pc (pc' := 23) rfl ?_)
  refine b_g fun g12 => ?_
  refine b_ias l142_23 (by rfl) g12 g1 (bD.ok fun hk2 => b_pc (pc' := 24) rfl ?_)
  refine b_s (pc' := 25) (lv1 := [(0, .ref 76), (1, bI v1), (2, bI v2), (3, bI v3), (4, bI (μ 78 (μ 76 3).toNat))]) (st' := [.ref 76]) l142_24 (fun _ => rfl) ?_
  refine b_s (pc' := 27) (lv1 := [(0, .ref 76), (1, bI v1), (2, bI v2), (3, bI v3), (4, bI (μ 78 (μ 76 3).toNat))]) (st' := [bI (μ 78 (μ 76 3).toNat), .ref 76]) l142_25 (fun _ => rfl) ?_
  refine b_cPi l142_27 rfl (b_rc (ci := 9) (by rfl) (by decide) (by decide +kernel)) (Nat.le_of_ble_eq_true rfl) (Nat.le_of_ble_eq_true rfl) rfl (r_X11_at (μ 78 (μ 76 3).toNat) (bO_i hk (by rfl))) fun w3 hw3 => b_pc (pc' := 30) rfl ?_
  refine b_w (pc' := 32) (lv1 := ax_st1 [(0, .ref 76), (1, bI v1), (2, bI v2), (3, bI v3), (4, bI (μ 78 (μ 76 3).toNat))] 5 (bI w3)) (lv' := [(0, .ref 76), (1, bI v1), (2, bI v2), (3, bI v3), (4, bI (μ 78 (μ 76 3).toNat)), (5, bI w3)]) (st' := []) l142_30 (fun _ => rfl) (bSb rfl (bSb rfl (bSb rfl (bSb rfl (bSb rfl (bSb rfl bSn)))))) ?_
  refine b_s (pc' := 33) (lv1 := [(0, .ref 76), (1, bI v1), (2, bI v2), (3, bI v3), (4, bI (μ 78 (μ 76 3).toNat)), (5, bI w3)]) (st' := [.ref 76]) l142_32 (fun _ => rfl) ?_
  refine b_gp (q' := 81) (j := 5) l142_33 (by rfl) (by decide) (by decide) rfl hk2 rfl rfl (b_pc (pc' := 36) rfl ?_)
  refine b_s (pc' := 38) (lv1 := [(0, .ref 76), (1, bI v1), (2, bI v2), (3, bI v3), (4, bI (μ 78 (μ 76 3).toNat)), (5, bI w3)]) (st' := [bI w3, .ref 81]) l142_36 (fun _ => rfl) ?_
  refine b_s (pc' := 39) (lv1 := [(0, .ref 76), (1, bI v1), (2, bI v2), (3, bI v3), (4, bI (μ 78 (μ 76 3).toNat)), (5, bI w3)]) (st' := [bI v1, bI w3, .ref 81]) l142_38 (fun _ => rfl) ?_
  refine b_g fun g11 => ?_
  refine b_ias l142_39 (by rfl) g11 h1 (bD.ok fun hk4 => b_pc (pc' := 40) rfl ?_)
  refine b_s (pc' := 41) (lv1 := [(0, .ref 76), (1, bI v1), (2, bI v2), (3, bI v3), (4, bI (μ 78 (μ 76 3).toNat)), (5, bI w3)]) (st' := [.ref 76]) l142_40 (fun _ => rfl) ?_
  refine b_gp (q' := 82) (j := 6) l142_41 (by rfl) (by decide) (by decide) rfl hk4 rfl rfl (b_pc (pc' := 44) rfl ?_)
  refine b_s (pc' := 46) (lv1 := [(0, .ref 76), (1, bI v1), (2, bI v2), (3, bI v3), (4, bI (μ 78 (μ 76 3).toNat)), (5, bI w3)]) (st' := [bI w3, .ref 82]) l142_44 (fun _ => rfl) ?_
  refine b_s (pc' := 47) (lv1 := [(0, .ref 76), (1, bI v1), (2, bI v2), (3, bI v3), (4, bI (μ 78 (μ 76 3).toNat)), (5, bI w3)]) (st' := [bI v2, bI w3, .ref 82]) l142_46 (fun _ => rfl) ?_
  refine b_g fun g10 => ?_
  refine b_ias l142_47 (by rfl) g10 h2 (bD.ok fun hk5 => b_pc (pc' := 48) rfl ?_)
  refine b_s (pc' := 49) (lv1 := [(0, .ref 76), (1, bI v1), (2, bI v2), (3, bI v3), (4, bI (μ 78 (μ 76 3).toNat)), (5, bI w3)]) (st' := [.ref 76]) l142_48 (fun _ => rfl) ?_
  refine b_gp (q' := 83) (j := 7) l142_49 (by rfl) (by decide) (by decide) rfl hk5 rfl rfl (b_pc (pc' := 52) rfl ?_)
  refine b_s (pc' := 54) (lv1 := [(0, .ref 76), (1, bI v1), (2, bI v2), (3, bI v3), (4, bI (μ 78 (μ 76 3).toNat)), (5, bI w3)]) (st' := [bI w3, .ref 83]) l142_52 (fun _ => rfl) ?_
  refine b_s (pc' := 55) (lv1 := [(0, .ref 76), (1, bI v1), (2, bI v2), (3, bI v3), (4, bI (μ 78 (μ 76 3).toNat)), (5, bI w3)]) (st' := [bI v3, bI w3, .ref 83]) l142_54 (fun _ => rfl) ?_
  refine b_g fun g9 => ?_
  refine b_ias l142_55 (by rfl) g9 h3 (bD.ok fun hk6 => b_pc (pc' := 56) rfl ?_)
  refine b_s (pc' := 57) (lv1 := [(0, .ref 76), (1, bI v1), (2, bI v2), (3, bI v3), (4, bI (μ 78 (μ 76 3).toNat)), (5, bI w3)]) (st' := [.ref 76]) l142_56 (fun _ => rfl) ?_
  refine b_gp (q' := 84) (j := 8) l142_57 (by rfl) (by decide) (by decide) rfl hk6 rfl rfl (b_pc (pc' := 60) rfl ?_)
  refine b_s (pc' := 62) (lv1 := [(0, .ref 76), (1, bI v1), (2, bI v2), (3, bI v3), (4, bI (μ 78 (μ 76 3).toNat)), (5, bI w3)]) (st' := [bI w3, .ref 84]) l142_60 (fun _ => rfl) ?_
  refine b_s (pc' := 63) (lv1 := [(0, .ref 76), (1, bI v1), (2, bI v2), (3, bI v3), (4, bI (μ 78 (μ 76 3).toNat)), (5, bI w3)]) (st' := [bI 0, bI w3, .ref 84]) l142_62 (fun _ => rfl) ?_
  refine b_g fun g8 => ?_
  refine b_ias l142_63 (by rfl) g8 (by decide) (bD.ok fun hk7 => b_pc (pc' := 64) rfl ?_)
  refine b_s (pc' := 66) (lv1 := [(0, .ref 76), (1, bI v1), (2, bI v2), (3, bI v3), (4, bI (μ 78 (μ 76 3).toNat)), (5, bI w3)]) (st' := [bI (μ 78 (μ 76 3).toNat)]) l142_64 (fun _ => rfl) ?_
  exact b_reti l142_66 rfl (bO_i hk (by rfl)) (hr _)
/-! ETModel.unit -/
theorem l143_0 : (ax_dt (ax_T 143)).lookup 0 = some (.aload_n 0, 1, 0, 0, 0) := by decide +kernel
theorem l143_1 : (ax_dt (ax_T 143)).lookup 1 = some (.iload_n 1, 1, 0, 0, 0) := by decide +kernel
theorem l143_2 : (ax_dt (ax_T 143)).lookup 2 = some (.invokestatic 144, 3, 139, 1, 0) := by decide +kernel
theorem l143_5 : (ax_dt (ax_T 143)).lookup 5 = some (.ifCond .ne 7, 3, 0, 0, 0) := by decide +kernel
theorem l143_8 : (ax_dt (ax_T 143)).lookup 8 = some (.iconst 1, 1, 0, 0, 0) := by decide +kernel
theorem l143_9 : (ax_dt (ax_T 143)).lookup 9 = some (.goto 37, 3, 0, 0, 0) := by decide +kernel
theorem l143_12 : (ax_dt (ax_T 143)).lookup 12 = some (.aload_n 0, 1, 0, 0, 0) := by decide +kernel
theorem l143_13 : (ax_dt (ax_T 143)).lookup 13 = some (.getfield 17, 3, 9, 5, 0) := by decide +kernel
theorem l143_16 : (ax_dt (ax_T 143)).lookup 16 = some (.aload_n 0, 1, 0, 0, 0) := by decide +kernel
theorem l143_17 : (ax_dt (ax_T 143)).lookup 17 = some (.getfield 137, 3, 9, 3, 0) := by decide +kernel
theorem l143_20 : (ax_dt (ax_T 143)).lookup 20 = some (.iaload, 1, 0, 0, 0) := by decide +kernel
theorem l143_21 : (ax_dt (ax_T 143)).lookup 21 = some (.bipush 6, 2, 0, 0, 0) := by decide +kernel
theorem l143_23 : (ax_dt (ax_T 143)).lookup 23 = some (.if_icmp .eq 18, 3, 0, 0, 0) := by decide +kernel
theorem l143_26 : (ax_dt (ax_T 143)).lookup 26 = some (.aload_n 0, 1, 0, 0, 0) := by decide +kernel
theorem l143_27 : (ax_dt (ax_T 143)).lookup 27 = some (.getfield 13, 3, 9, 4, 0) := by decide +kernel
theorem l143_30 : (ax_dt (ax_T 143)).lookup 30 = some (.aload_n 0, 1, 0, 0, 0) := by decide +kernel
theorem l143_31 : (ax_dt (ax_T 143)).lookup 31 = some (.getfield 137, 3, 9, 3, 0) := by decide +kernel
theorem l143_34 : (ax_dt (ax_T 143)).lookup 34 = some (.iaload, 1, 0, 0, 0) := by decide +kernel
theorem l143_35 : (ax_dt (ax_T 143)).lookup 35 = some (.sipush 400, 3, 0, 0, 0) := by decide +kernel
theorem l143_38 : (ax_dt (ax_T 143)).lookup 38 = some (.if_icmp .ne 7, 3, 0, 0, 0) := by decide +kernel
theorem l143_41 : (ax_dt (ax_T 143)).lookup 41 = some (.iconst 2, 1, 0, 0, 0) := by decide +kernel
theorem l143_42 : (ax_dt (ax_T 143)).lookup 42 = some (.goto 4, 3, 0, 0, 0) := by decide +kernel
theorem l143_45 : (ax_dt (ax_T 143)).lookup 45 = some (.iconst 0, 1, 0, 0, 0) := by decide +kernel
theorem l143_46 : (ax_dt (ax_T 143)).lookup 46 = some (.putfield 120, 3, 9, 0, 0) := by decide +kernel
theorem l143_49 : (ax_dt (ax_T 143)).lookup 49 = some (.aload_n 0, 1, 0, 0, 0) := by decide +kernel
theorem l143_50 : (ax_dt (ax_T 143)).lookup 50 = some (.getfield 120, 3, 9, 0, 0) := by decide +kernel
theorem l143_53 : (ax_dt (ax_T 143)).lookup 53 = some (.ifCond .le 5, 3, 0, 0, 0) := by decide +kernel
theorem l143_56 : (ax_dt (ax_T 143)).lookup 56 = some (.iconst 0, 1, 0, 0, 0) := by decide +kernel
theorem l143_57 : (ax_dt (ax_T 143)).lookup 57 = some (.ireturn, 1, 0, 0, 0) := by decide +kernel
theorem l143_58 : (ax_dt (ax_T 143)).lookup 58 = some (.aload_n 0, 1, 0, 0, 0) := by decide +kernel
theorem l143_59 : (ax_dt (ax_T 143)).lookup 59 = some (.iload_n 1, 1, 0, 0, 0) := by decide +kernel
theorem l143_60 : (ax_dt (ax_T 143)).lookup 60 = some (.iconst (-1), 1, 0, 0, 0) := by decide +kernel
theorem l143_61 : (ax_dt (ax_T 143)).lookup 61 = some (.aload_n 0, 1, 0, 0, 0) := by decide +kernel
theorem l143_62 : (ax_dt (ax_T 143)).lookup 62 = some (.getfield 17, 3, 9, 5, 0) := by decide +kernel
theorem l143_65 : (ax_dt (ax_T 143)).lookup 65 = some (.aload_n 0, 1, 0, 0, 0) := by decide +kernel
theorem l143_66 : (ax_dt (ax_T 143)).lookup 66 = some (.getfield 137, 3, 9, 3, 0) := by decide +kernel
theorem l143_69 : (ax_dt (ax_T 143)).lookup 69 = some (.iaload, 1, 0, 0, 0) := by decide +kernel
theorem l143_70 : (ax_dt (ax_T 143)).lookup 70 = some (.invokevirtual 148, 3, 142, 3, 0) := by decide +kernel
theorem l143_73 : (ax_dt (ax_T 143)).lookup 73 = some (.istore_n 2, 1, 0, 0, 0) := by decide +kernel
theorem l143_74 : (ax_dt (ax_T 143)).lookup 74 = some (.aload_n 0, 1, 0, 0, 0) := by decide +kernel
theorem l143_75 : (ax_dt (ax_T 143)).lookup 75 = some (.getfield 20, 3, 9, 6, 0) := by decide +kernel
theorem l143_78 : (ax_dt (ax_T 143)).lookup 78 = some (.bipush 6, 2, 0, 0, 0) := by decide +kernel
theorem l143_80 : (ax_dt (ax_T 143)).lookup 80 = some (.aload_n 0, 1, 0, 0, 0) := by decide +kernel
theorem l143_81 : (ax_dt (ax_T 143)).lookup 81 = some (.getfield 137, 3, 9, 3, 0) := by decide +kernel
theorem l143_84 : (ax_dt (ax_T 143)).lookup 84 = some (.imul, 1, 0, 0, 0) := by decide +kernel
theorem l143_85 : (ax_dt (ax_T 143)).lookup 85 = some (.aload_n 0, 1, 0, 0, 0) := by decide +kernel
theorem l143_86 : (ax_dt (ax_T 143)).lookup 86 = some (.getfield 17, 3, 9, 5, 0) := by decide +kernel
theorem l143_89 : (ax_dt (ax_T 143)).lookup 89 = some (.aload_n 0, 1, 0, 0, 0) := by decide +kernel
theorem l143_90 : (ax_dt (ax_T 143)).lookup 90 = some (.getfield 137, 3, 9, 3, 0) := by decide +kernel
theorem l143_93 : (ax_dt (ax_T 143)).lookup 93 = some (.iaload, 1, 0, 0, 0) := by decide +kernel
theorem l143_94 : (ax_dt (ax_T 143)).lookup 94 = some (.iadd, 1, 0, 0, 0) := by decide +kernel
theorem l143_95 : (ax_dt (ax_T 143)).lookup 95 = some (.iload_n 2, 1, 0, 0, 0) := by decide +kernel
theorem l143_96 : (ax_dt (ax_T 143)).lookup 96 = some (.iastore, 1, 0, 0, 0) := by decide +kernel
theorem l143_97 : (ax_dt (ax_T 143)).lookup 97 = some (.aload_n 0, 1, 0, 0, 0) := by decide +kernel
theorem l143_98 : (ax_dt (ax_T 143)).lookup 98 = some (.getfield 17, 3, 9, 5, 0) := by decide +kernel
theorem l143_101 : (ax_dt (ax_T 143)).lookup 101 = some (.aload_n 0, 1, 0, 0, 0) := by decide +kernel
theorem l143_102 : (ax_dt (ax_T 143)).lookup 102 = some (.getfield 137, 3, 9, 3, 0) := by decide +kernel
theorem l143_105 : (ax_dt (ax_T 143)).lookup 105 = some (.dup2, 1, 0, 0, 0) := by decide +kernel
theorem l143_106 : (ax_dt (ax_T 143)).lookup 106 = some (.iaload, 1, 0, 0, 0) := by decide +kernel
theorem l143_107 : (ax_dt (ax_T 143)).lookup 107 = some (.iconst 1, 1, 0, 0, 0) := by decide +kernel
theorem l143_108 : (ax_dt (ax_T 143)).lookup 108 = some (.iadd, 1, 0, 0, 0) := by decide +kernel
theorem l143_109 : (ax_dt (ax_T 143)).lookup 109 = some (.iastore, 1, 0, 0, 0) := by decide +kernel
theorem l143_110 : (ax_dt (ax_T 143)).lookup 110 = some (.iload_n 2, 1, 0, 0, 0) := by decide +kernel
theorem l143_111 : (ax_dt (ax_T 143)).lookup 111 = some (.ireturn, 1, 0, 0, 0) := by decide +kernel
noncomputable def F_X11_unit_46 (v1 : Int) (y1 : Int) (μ : bM) : Option (Int × bM) := if ((bset μ 76 0 y1) 76 0) ≤ 0 then bG (0 ≤ ((bset μ 76 0 y1) 76 3) ∧ ((bset μ 76 0 y1) 76 3) < 2) (bMm (F_X11_make v1 (-1) ((bset μ 76 0 y1) 79 ((bset μ 76 0 y1) 76 3).toNat) (bset μ 76 0 y1)) (fun w3 μ4 => bG (bR (6 * (μ4 76 3))) (bG (0 ≤ (μ4 76 3) ∧ (μ4 76 3) < 2) (bG (bR ((6 * (μ4 76 3)) + (μ4 79 (μ4 76 3).toNat))) (bG (0 ≤ ((6 * (μ4 76 3)) + (μ4 79 (μ4 76 3).toNat)) ∧ ((6 * (μ4 76 3)) + (μ4 79 (μ4 76 3).toNat)) < 12) (bG (0 ≤ ((bset μ4 80 ((6 * (μ4 76 3)) + (μ4 79 (μ4 76 3).toNat)).toNat w3) 76 3) ∧ ((bset μ4 80 ((6 * (μ4 76 3)) + (μ4 79 (μ4 76 3).toNat)).toNat w3) 76 3) < 2) (bG (bR (((bset μ4 80 ((6 * (μ4 76 3)) + (μ4 79 (μ4 76 3).toNat)).toNat w3) 79 ((bset μ4 80 ((6 * (μ4 76 3)) + (μ4 79 (μ4 76 3).toNat)).toNat w3) 76 3).toNat) + 1)) (bG (0 ≤ ((bset μ4 80 ((6 * (μ4 76 3)) + (μ4 79 (μ4 76 3).toNat)).toNat w3) 76 3) ∧ ((bset μ4 80 ((6 * (μ4 76 3)) + (μ4 79 (μ4 76 3).toNat)).toNat w3) 76 3) < 2) (some (w3, (bset (bset μ4 80 ((6 * (μ4 76 3)) + (μ4 79 (μ4 76 3).toNat)).toNat w3) 79 ((bset μ4 80 ((6 * (μ4 76 3)) + (μ4 79 (μ4 76 3).toNat)).toNat w3) 76 3).toNat (((bset μ4 80 ((6 * (μ4 76 3)) + (μ4 79 (μ4 76 3).toNat)).toNat w3) 79 ((bset μ4 80 ((6 * (μ4 76 3)) + (μ4 79 (μ4 76 3).toNat)).toNat w3) 76 3).toNat) + 1)))))))))))) else some (0, (bset μ 76 0 y1))
noncomputable def F_X11_unit_41 (v1 : Int) (μ : bM) : Option (Int × bM) := F_X11_unit_46 v1 2 μ
noncomputable def F_X11_unit (v1 : Int) (μ : bM) : Option (Int × bM) := (F_X11_isName v1 μ).bind fun w1 => if ¬ w1 = 0 then bG (0 ≤ (μ 76 3) ∧ (μ 76 3) < 2) (if (μ 79 (μ 76 3).toNat) = 6 then F_X11_unit_41 v1 μ else bG (0 ≤ (μ 76 3) ∧ (μ 76 3) < 2) (if ¬ (μ 78 (μ 76 3).toNat) = 400 then F_X11_unit_46 v1 0 μ else F_X11_unit_41 v1 μ)) else F_X11_unit_46 v1 1 μ
theorem p_X11_unit_46 {L : Nat} {xs : Nat → Int32} {d : Nat} {μ : bM}  {κ : (Int × bM) → Option bX} (hr : ∀ r : Int × bM, κ r = (bMc) r)  {v1 : Int} (h1 : bR v1) {y1 : Int} (hy1 : bR y1) : bD L xs (d + 2) 143 46 [(0, .ref 76), (1, bI v1)] [bI y1, .ref 76] μ ((F_X11_unit_46 v1 y1 μ).bind κ) := by
  unfold F_X11_unit_46
  refine bD.ok fun hk => ?_
  refine b_pi l143_46 (by rfl) (by decide) (by decide) rfl rfl hy1 (bD.ok fun hk1 => b_pc (pc' := 49) rfl ?_)
  refine b_s (pc' := 50) (lv1 := [(0, .ref 76), (1, bI v1)]) (st' := [.ref 76]) l143_49 (fun _ => rfl) ?_
  refine b_gi l143_50 (by rfl) (by decide) (by decide) rfl (b_pc (pc' := 53) rfl ?_)
  refine b_zle (pt := 58) l143_53 (bO_f hk1 (ci := 9) (by rfl) rfl) (by decide) rfl (fun c2 => ?_) (fun c2 => b_pc (pc' := 56) rfl ?_)
  · refine b_s (pc' := 59) (lv1 := [(0, .ref 76), (1, bI v1)]) (st' := [.ref 76]) l143_58 (fun _ => rfl) ?_
    refine b_s (pc' := 60) (lv1 := [(0, .ref 76), (1, bI v1)]) (st' := [bI v1, .ref 76]) l143_59 (fun _ => rfl) ?_
    refine b_s (pc' := 61) (lv1 := [(0, .ref 76), (1, bI v1)]) (st' := [bI (-1), bI v1, .ref 76]) l143_60 (fun _ => rfl) ?_
    refine b_s (pc' := 62) (lv1 := [(0, .ref 76), (1, bI v1)]) (st' := [.ref 76, bI (-1), bI v1, .ref 76]) l143_61 (fun _ => rfl) ?_
    refine b_gp (q' := 79) (j := 3) l143_62 (by rfl) (by decide) (by decide) rfl hk1 rfl rfl (b_pc (pc' := 65) rfl ?_)
    refine b_s (pc' := 66) (lv1 := [(0, .ref 76), (1, bI v1)]) (st' := [.ref 76, .ref 79, bI (-1), bI v1, .ref 76]) l143_65 (fun _ => rfl) ?_
    refine b_gi l143_66 (by rfl) (by decide) (by decide) rfl (b_pc (pc' := 69) rfl ?_)
    refine b_g fun g15 => ?_
    refine b_ial l143_69 (by rfl) g15 (b_pc (pc' := 70) rfl ?_)
    refine b_cMi l143_70 rfl (b_rc (ci := 9) (by rfl) (by decide) (by decide +kernel)) (Nat.le_of_ble_eq_true rfl) (Nat.le_of_ble_eq_true rfl) rfl (r_X11_make v1 h1 (-1) (by decide) ((bset μ 76 0 y1) 79 ((bset μ 76 0 y1) 76 3).toNat) (bO_i hk1 (by rfl))) fun w3 μ4 hw3 => bD.ok fun hk5 => b_pc (pc' := 73) rfl ?_
    refine b_w (pc' := 74) (lv1 := ax_st1 [(0, .ref 76), (1, bI v1)] 2 (bI w3)) (lv' := [(0, .ref 76), (2, bI w3)]) (st' := []) l143_73 (fun _ => rfl) (bSb rfl (bSb rfl bSn)) ?_
    refine b_s (pc' := 75) (lv1 := [(0, .ref 76), (2, bI w3)]) (st' := [.ref 76]) l143_74 (fun _ => rfl) ?_
    refine b_gp (q' := 80) (j := 4) l143_75 (by rfl) (by decide) (by decide) rfl hk5 rfl rfl (b_pc (pc' := 78) rfl ?_)
    refine b_bipush l143_78 (by decide) (b_pc (pc' := 80) rfl ?_)
    refine b_s (pc' := 81) (lv1 := [(0, .ref 76), (2, bI w3)]) (st' := [.ref 76, bI 6, .ref 80]) l143_80 (fun _ => rfl) ?_
    refine b_gi l143_81 (by rfl) (by decide) (by decide) rfl (b_pc (pc' := 84) rfl ?_)
    refine b_imul l143_84 fun g6 => (b_pc (pc' := 85) rfl ?_)
    refine b_s (pc' := 86) (lv1 := [(0, .ref 76), (2, bI w3)]) (st' := [.ref 76, bI (6 * (μ4 76 3)), .ref 80]) l143_85 (fun _ => rfl) ?_
    refine b_gp (q' := 79) (j := 3) l143_86 (by rfl) (by decide) (by decide) rfl hk5 rfl rfl (b_pc (pc' := 89) rfl ?_)
    refine b_s (pc' := 90) (lv1 := [(0, .ref 76), (2, bI w3)]) (st' := [.ref 76, .ref 79, bI (6 * (μ4 76 3)), .ref 80]) l143_89 (fun _ => rfl) ?_
    refine b_gi l143_90 (by rfl) (by decide) (by decide) rfl (b_pc (pc' := 93) rfl ?_)
    refine b_g fun g14 => ?_
    refine b_ial l143_93 (by rfl) g14 (b_pc (pc' := 94) rfl ?_)
    refine b_iadd l143_94 fun g7 => (b_pc (pc' := 95) rfl ?_)
    refine b_s (pc' := 96) (lv1 := [(0, .ref 76), (2, bI w3)]) (st' := [bI w3, bI ((6 * (μ4 76 3)) + (μ4 79 (μ4 76 3).toNat)), .ref 80]) l143_95 (fun _ => rfl) ?_
    refine b_g fun g13 => ?_
    refine b_ias l143_96 (by rfl) g13 hw3 (bD.ok fun hk8 => b_pc (pc' := 97) rfl ?_)
    refine b_s (pc' := 98) (lv1 := [(0, .ref 76), (2, bI w3)]) (st' := [.ref 76]) l143_97 (fun _ => rfl) ?_
    refine b_gp (q' := 79) (j := 3) l143_98 (by rfl) (by decide) (by decide) rfl hk8 rfl rfl (b_pc (pc' := 101) rfl ?_)
    refine b_s (pc' := 102) (lv1 := [(0, .ref 76), (2, bI w3)]) (st' := [.ref 76, .ref 79]) l143_101 (fun _ => rfl) ?_
    refine b_gi l143_102 (by rfl) (by decide) (by decide) rfl (b_pc (pc' := 105) rfl ?_)
    refine b_s (pc' := 106) (lv1 := [(0, .ref 76), (2, bI w3)]) (st' := [bI ((bset μ4 80 ((6 * (μ4 76 3)) + (μ4 79 (μ4 76 3).toNat)).toNat w3) 76 3), .ref 79, bI ((bset μ4 80 ((6 * (μ4 76 3)) + (μ4 79 (μ4 76 3).toNat)).toNat w3) 76 3), .ref 79]) l143_105 (fun _ => rfl) ?_
    refine b_g fun g12 => ?_
    refine b_ial l143_106 (by rfl) g12 (b_pc (pc' := 107) rfl ?_)
    refine b_s (pc' := 108) (lv1 := [(0, .ref 76), (2, bI w3)]) (st' := [bI 1, bI ((bset μ4 80 ((6 * (μ4 76 3)) + (μ4 79 (μ4 76 3).toNat)).toNat w3) 79 ((bset μ4 80 ((6 * (μ4 76 3)) + (μ4 79 (μ4 76 3).toNat)).toNat w3) 76 3).toNat), bI ((bset μ4 80 ((6 * (μ4 76 3)) + (μ4 79 (μ4 76 3).toNat)).toNat w3) 76 3), .ref 79]) l143_107 (fun _ => rfl) ?_
    refine b_iadd l143_108 fun g9 => (b_pc (pc' := 109) rfl ?_)
    refine b_g fun g11 => ?_
    refine b_ias l143_109 (by rfl) g11 g9 (bD.ok fun hk10 => b_pc (pc' := 110) rfl ?_)
    refine b_s (pc' := 111) (lv1 := [(0, .ref 76), (2, bI w3)]) (st' := [bI w3]) l143_110 (fun _ => rfl) ?_
    exact b_reti l143_111 rfl hw3 (hr _)
  · refine b_s (pc' := 57) (lv1 := [(0, .ref 76), (1, bI v1)]) (st' := [bI 0]) l143_56 (fun _ => rfl) ?_
    exact b_reti l143_57 rfl (by decide) (hr _)
theorem p_X11_unit_41 {L : Nat} {xs : Nat → Int32} {d : Nat} {μ : bM}  {κ : (Int × bM) → Option bX} (hr : ∀ r : Int × bM, κ r = (bMc) r)  {v1 : Int} (h1 : bR v1) : bD L xs (d + 2) 143 41 [(0, .ref 76), (1, bI v1)] [.ref 76] μ ((F_X11_unit_41 v1 μ).bind κ) := by
  unfold F_X11_unit_41
  refine bD.ok fun hk => ?_
  refine b_s (pc' := 42) (lv1 := [(0, .ref 76), (1, bI v1)]) (st' := [bI 2, .ref 76]) l143_41 (fun _ => rfl) ?_
  refine b_s (pc' := 46) (lv1 := [(0, .ref 76), (1, bI v1)]) (st' := [bI 2, .ref 76]) l143_42 (fun _ => rfl) ?_
  refine bD.wk (lv' := [(0, .ref 76), (1, bI v1)]) (bSb rfl (bSb rfl bSn)) ?_
  exact p_X11_unit_46 hr h1 (by decide)
theorem r_X11_unit {L : Nat} {xs : Nat → Int32} {d : Nat} {μ : bM}  (v1 : Int) (h1 : bR v1) : bD L xs (d + 2) 143 0 [(0, .ref 76), (1, bI v1)] [] μ ((F_X11_unit v1 μ).bind (bMc)) := by
  have hr : ∀ r, (bMc) r = (bMc) r := fun _ => rfl
  unfold F_X11_unit
  refine bD.ok fun hk => ?_
  refine b_s (pc' := 1) (lv1 := [(0, .ref 76), (1, bI v1)]) (st' := [.ref 76]) l143_0 (fun _ => rfl) ?_
  refine b_s (pc' := 2) (lv1 := [(0, .ref 76), (1, bI v1)]) (st' := [bI v1, .ref 76]) l143_1 (fun _ => rfl) ?_
  refine b_cPz l143_2 rfl (fun _ => trivial) (Nat.le_of_ble_eq_true rfl) (Nat.le_of_ble_eq_true rfl) rfl (r_X11_isName v1 h1) fun w1 hw1 => b_pc (pc' := 5) rfl ?_
  refine b_zne (pt := 12) l143_5 (bZ_R hw1) (by decide) rfl (fun c2 => ?_) (fun c2 => b_pc (pc' := 8) rfl ?_)
  · refine b_s (pc' := 13) (lv1 := [(0, .ref 76), (1, bI v1)]) (st' := [.ref 76, .ref 76]) l143_12 (fun _ => rfl) ?_
    refine b_gp (q' := 79) (j := 3) l143_13 (by rfl) (by decide) (by decide) rfl hk rfl rfl (b_pc (pc' := 16) rfl ?_)
    refine b_s (pc' := 17) (lv1 := [(0, .ref 76), (1, bI v1)]) (st' := [.ref 76, .ref 79, .ref 76]) l143_16 (fun _ => rfl) ?_
    refine b_gi l143_17 (by rfl) (by decide) (by decide) rfl (b_pc (pc' := 20) rfl ?_)
    refine b_g fun g6 => ?_
    refine b_ial l143_20 (by rfl) g6 (b_pc (pc' := 21) rfl ?_)
    refine b_bipush l143_21 (by decide) (b_pc (pc' := 23) rfl ?_)
    refine b_ieq (pt := 41) l143_23 (bO_i hk (by rfl)) (by decide) (by decide) rfl (fun c3 => ?_) (fun c3 => b_pc (pc' := 26) rfl ?_)
    · refine bD.wk (lv' := [(0, .ref 76), (1, bI v1)]) (bSb rfl (bSb rfl bSn)) ?_
      exact p_X11_unit_41 hr h1
    · refine b_s (pc' := 27) (lv1 := [(0, .ref 76), (1, bI v1)]) (st' := [.ref 76, .ref 76]) l143_26 (fun _ => rfl) ?_
      refine b_gp (q' := 78) (j := 2) l143_27 (by rfl) (by decide) (by decide) rfl hk rfl rfl (b_pc (pc' := 30) rfl ?_)
      refine b_s (pc' := 31) (lv1 := [(0, .ref 76), (1, bI v1)]) (st' := [.ref 76, .ref 78, .ref 76]) l143_30 (fun _ => rfl) ?_
      refine b_gi l143_31 (by rfl) (by decide) (by decide) rfl (b_pc (pc' := 34) rfl ?_)
      refine b_g fun g5 => ?_
      refine b_ial l143_34 (by rfl) g5 (b_pc (pc' := 35) rfl ?_)
      refine b_sipush l143_35 (by decide) (b_pc (pc' := 38) rfl ?_)
      refine b_ine (pt := 45) l143_38 (bO_i hk (by rfl)) (by decide) (by decide) rfl (fun c4 => ?_) (fun c4 => b_pc (pc' := 41) rfl ?_)
      · refine b_s (pc' := 46) (lv1 := [(0, .ref 76), (1, bI v1)]) (st' := [bI 0, .ref 76]) l143_45 (fun _ => rfl) ?_
        refine bD.wk (lv' := [(0, .ref 76), (1, bI v1)]) (bSb rfl (bSb rfl bSn)) ?_
        exact p_X11_unit_46 hr h1 (by decide)
      · refine bD.wk (lv' := [(0, .ref 76), (1, bI v1)]) (bSb rfl (bSb rfl bSn)) ?_
        exact p_X11_unit_41 hr h1
  · refine b_s (pc' := 9) (lv1 := [(0, .ref 76), (1, bI v1)]) (st' := [bI 1, .ref 76]) l143_8 (fun _ => rfl) ?_
    refine b_s (pc' := 46) (lv1 := [(0, .ref 76), (1, bI v1)]) (st' := [bI 1, .ref 76]) l143_9 (fun _ => rfl) ?_
    refine bD.wk (lv' := [(0, .ref 76), (1, bI v1)]) (bSb rfl (bSb rfl bSn)) ?_
    exact p_X11_unit_46 hr h1 (by decide)
/-! ETModel.depth -/
theorem l144_0 : (ax_dt (ax_T 144)).lookup 0 = some (.iconst 0, 1, 0, 0, 0) := by decide +kernel
theorem l144_1 : (ax_dt (ax_T 144)).lookup 1 = some (.istore_n 2, 1, 0, 0, 0) := by decide +kernel
theorem l144_2 : (ax_dt (ax_T 144)).lookup 2 = some (.aload_n 0, 1, 0, 0, 0) := by decide +kernel
theorem l144_3 : (ax_dt (ax_T 144)).lookup 3 = some (.getfield 26, 3, 9, 8, 0) := by decide +kernel
theorem l144_6 : (ax_dt (ax_T 144)).lookup 6 = some (.aload_n 0, 1, 0, 0, 0) := by decide +kernel
theorem l144_7 : (ax_dt (ax_T 144)).lookup 7 = some (.iload_n 1, 1, 0, 0, 0) := by decide +kernel
theorem l144_8 : (ax_dt (ax_T 144)).lookup 8 = some (.invokevirtual 140, 3, 140, 1, 0) := by decide +kernel
theorem l144_11 : (ax_dt (ax_T 144)).lookup 11 = some (.iaload, 1, 0, 0, 0) := by decide +kernel
theorem l144_12 : (ax_dt (ax_T 144)).lookup 12 = some (.istore_n 3, 1, 0, 0, 0) := by decide +kernel
theorem l144_13 : (ax_dt (ax_T 144)).lookup 13 = some (.iload_n 3, 1, 0, 0, 0) := by decide +kernel
theorem l144_14 : (ax_dt (ax_T 144)).lookup 14 = some (.iconst (-1), 1, 0, 0, 0) := by decide +kernel
theorem l144_15 : (ax_dt (ax_T 144)).lookup 15 = some (.if_icmp .eq 20, 3, 0, 0, 0) := by decide +kernel
theorem l144_18 : (ax_dt (ax_T 144)).lookup 18 = some (.iinc 2 1, 3, 0, 0, 0) := by decide +kernel
theorem l144_21 : (ax_dt (ax_T 144)).lookup 21 = some (.aload_n 0, 1, 0, 0, 0) := by decide +kernel
theorem l144_22 : (ax_dt (ax_T 144)).lookup 22 = some (.getfield 26, 3, 9, 8, 0) := by decide +kernel
theorem l144_25 : (ax_dt (ax_T 144)).lookup 25 = some (.aload_n 0, 1, 0, 0, 0) := by decide +kernel
theorem l144_26 : (ax_dt (ax_T 144)).lookup 26 = some (.iload_n 3, 1, 0, 0, 0) := by decide +kernel
theorem l144_27 : (ax_dt (ax_T 144)).lookup 27 = some (.invokevirtual 140, 3, 140, 1, 0) := by decide +kernel
theorem l144_30 : (ax_dt (ax_T 144)).lookup 30 = some (.iaload, 1, 0, 0, 0) := by decide +kernel
theorem l144_31 : (ax_dt (ax_T 144)).lookup 31 = some (.istore_n 3, 1, 0, 0, 0) := by decide +kernel
theorem l144_32 : (ax_dt (ax_T 144)).lookup 32 = some (.goto (-19), 3, 0, 0, 0) := by decide +kernel
theorem l144_35 : (ax_dt (ax_T 144)).lookup 35 = some (.iload_n 2, 1, 0, 0, 0) := by decide +kernel
theorem l144_36 : (ax_dt (ax_T 144)).lookup 36 = some (.ireturn, 1, 0, 0, 0) := by decide +kernel
noncomputable def F_X11_depth_13 (μ : bM) (v2 : Int) (v3 : Int) : Option ((Int × Int) ⊕ (Int)) := if v3 = (-1) then some (.inr (v2)) else bG (bR (v2 + 1)) ((F_X11_at v3 μ).bind fun w3 => bG (0 ≤ w3 ∧ w3 < 800) (some (.inl ((v2 + 1), (μ 82 w3.toNat)))))
noncomputable def F_X11_depth (v1 : Int) (μ : bM) : Option (Int) := (F_X11_at v1 μ).bind fun w1 => bG (0 ≤ w1 ∧ w1 < 800) (bLoop (fun z => F_X11_depth_13 μ z.1 z.2) (0, (μ 82 w1.toNat)))
theorem q_X11_depth_13 {L : Nat} {xs : Nat → Int32} {d : Nat} {μ : bM}  {κ : ((Int × Int) ⊕ (Int)) → Option bX} (hr : ∀ r : Int, κ (.inr r) = (bPc μ) r) (H13 : ∀ (v2 : Int) (v3 : Int), bR v2 → bR v3 → bD L xs (d + 1) 144 13 [(0, .ref 76), (2, bI v2), (3, bI v3)] [] μ (κ (.inl (v2, v3))))  {v2 : Int} (h2 : bR v2) {v3 : Int} (h3 : bR v3) : bD L xs (d + 1) 144 13 [(0, .ref 76), (2, bI v2), (3, bI v3)] [] μ ((F_X11_depth_13 μ v2 v3).bind κ) := by
  unfold F_X11_depth_13
  refine bD.ok fun hk => ?_
  refine b_s (pc' := 14) (lv1 := [(0, .ref 76), (2, bI v2), (3, bI v3)]) (st' := [bI v3]) l144_13 (fun _ => rfl) ?_
  refine b_s (pc' := 15) (lv1 := [(0, .ref 76), (2, bI v2), (3, bI v3)]) (st' := [bI (-1), bI v3]) l144_14 (fun _ => rfl) ?_
  refine b_ieq (pt := 35) l144_15 h3 (by decide) (by decide) rfl (fun c1 => ?_) (fun c1 => b_pc (pc' := 18) rfl ?_)
  · refine b_s (pc' := 36) (lv1 := [(0, .ref 76), (2, bI v2), (3, bI v3)]) (st' := [bI v2]) l144_35 (fun _ => rfl) ?_
    exact b_reti l144_36 rfl h2 (hr _)
  · refine b_inc (lv' := [(0, .ref 76), (2, bI (v2 + 1)), (3, bI v3)]) l144_18 rfl (by decide +kernel) (bSb rfl (bSb rfl (bSb rfl bSn))) fun g2 => (b_pc (pc' := 21) rfl ?_)
    refine b_s (pc' := 22) (lv1 := [(0, .ref 76), (2, bI (v2 + 1)), (3, bI v3)]) (st' := [.ref 76]) l144_21 (fun _ => rfl) ?_
    refine b_gp (q' := 82) (j := 6) l144_22 (by rfl) (by decide) (by decide) rfl hk rfl rfl (b_pc (pc' := 25) rfl ?_)
    refine b_s (pc' := 26) (lv1 := [(0, .ref 76), (2, bI (v2 + 1)), (3, bI v3)]) (st' := [.ref 76, .ref 82]) l144_25 (fun _ => rfl) ?_
    refine b_s (pc' := 27) (lv1 := [(0, .ref 76), (2, bI (v2 + 1)), (3, bI v3)]) (st' := [bI v3, .ref 76, .ref 82]) l144_26 (fun _ => rfl) ?_
    refine b_cPi l144_27 rfl (b_rc (ci := 9) (by rfl) (by decide) (by decide +kernel)) (Nat.le_of_ble_eq_true rfl) (Nat.le_of_ble_eq_true rfl) rfl (r_X11_at v3 h3) fun w3 hw3 => b_pc (pc' := 30) rfl ?_
    refine b_g fun g4 => ?_
    refine b_ial l144_30 (by rfl) g4 (b_pc (pc' := 31) rfl ?_)
    refine b_w (pc' := 32) (lv1 := ax_st1 [(0, .ref 76), (2, bI (v2 + 1)), (3, bI v3)] 3 (bI (μ 82 w3.toNat))) (lv' := [(0, .ref 76), (2, bI (v2 + 1)), (3, bI (μ 82 w3.toNat))]) (st' := []) l144_31 (fun _ => rfl) (bSb rfl (bSb rfl (bSb rfl bSn))) ?_
    refine b_s (pc' := 13) (lv1 := [(0, .ref 76), (2, bI (v2 + 1)), (3, bI (μ 82 w3.toNat))]) (st' := []) l144_32 (fun _ => rfl) ?_
    refine bD.wk (lv' := [(0, .ref 76), (2, bI (v2 + 1)), (3, bI (μ 82 w3.toNat))]) (bSb rfl (bSb rfl (bSb rfl bSn))) ?_
    exact H13 (v2 + 1) (μ 82 w3.toNat) g2 (bO_i hk (by rfl))
theorem p_X11_depth_13 {L : Nat} {xs : Nat → Int32} {d : Nat} {μ : bM}  {κ : (Int) → Option bX} (hr : ∀ r : Int, κ r = (bPc μ) r)  {v2 : Int} (h2 : bR v2) {v3 : Int} (h3 : bR v3) : bD L xs (d + 1) 144 13 [(0, .ref 76), (2, bI v2), (3, bI v3)] [] μ ((bLoop (fun z => F_X11_depth_13 μ z.1 z.2) (v2, v3)).bind κ) :=
  b_loop (fun z => [(0, .ref 76), (2, bI z.1), (3, bI z.2)]) (fun z => μ) (fun z => bR z.1 ∧ bR z.2) (fun κ' hκ HH z hz => q_X11_depth_13 (κ := κ') (fun r => (hκ _).trans (hr r)) (fun a2 a3 b2 b3 => HH (a2, a3) ⟨b2, b3⟩)  hz.1 hz.2) (v2, v3) ⟨h2, h3⟩
theorem r_X11_depth {L : Nat} {xs : Nat → Int32} {d : Nat} {μ : bM}  (v1 : Int) (h1 : bR v1) : bD L xs (d + 1) 144 0 [(0, .ref 76), (1, bI v1)] [] μ ((F_X11_depth v1 μ).bind (bPc μ)) := by
  have hr : ∀ r, (bPc μ) r = (bPc μ) r := fun _ => rfl
  unfold F_X11_depth
  refine bD.ok fun hk => ?_
  refine b_s (pc' := 1) (lv1 := [(0, .ref 76), (1, bI v1)]) (st' := [bI 0]) l144_0 (fun _ => rfl) ?_
  refine b_w (pc' := 2) (lv1 := ax_st1 [(0, .ref 76), (1, bI v1)] 2 (bI 0)) (lv' := [(0, .ref 76), (1, bI v1), (2, bI 0)]) (st' := []) l144_1 (fun _ => rfl) (bSb rfl (bSb rfl (bSb rfl bSn))) ?_
  refine b_s (pc' := 3) (lv1 := [(0, .ref 76), (1, bI v1), (2, bI 0)]) (st' := [.ref 76]) l144_2 (fun _ => rfl) ?_
  refine b_gp (q' := 82) (j := 6) l144_3 (by rfl) (by decide) (by decide) rfl hk rfl rfl (b_pc (pc' := 6) rfl ?_)
  refine b_s (pc' := 7) (lv1 := [(0, .ref 76), (1, bI v1), (2, bI 0)]) (st' := [.ref 76, .ref 82]) l144_6 (fun _ => rfl) ?_
  refine b_s (pc' := 8) (lv1 := [(0, .ref 76), (1, bI v1), (2, bI 0)]) (st' := [bI v1, .ref 76, .ref 82]) l144_7 (fun _ => rfl) ?_
  refine b_cPi l144_8 rfl (b_rc (ci := 9) (by rfl) (by decide) (by decide +kernel)) (Nat.le_of_ble_eq_true rfl) (Nat.le_of_ble_eq_true rfl) rfl (r_X11_at v1 h1) fun w1 hw1 => b_pc (pc' := 11) rfl ?_
  refine b_g fun g2 => ?_
  refine b_ial l144_11 (by rfl) g2 (b_pc (pc' := 12) rfl ?_)
  refine b_w (pc' := 13) (lv1 := ax_st1 [(0, .ref 76), (1, bI v1), (2, bI 0)] 3 (bI (μ 82 w1.toNat))) (lv' := [(0, .ref 76), (2, bI 0), (3, bI (μ 82 w1.toNat))]) (st' := []) l144_12 (fun _ => rfl) (bSb rfl (bSb rfl (bSb rfl bSn))) ?_
  refine bD.wk (lv' := [(0, .ref 76), (2, bI 0), (3, bI (μ 82 w1.toNat))]) (bSb rfl (bSb rfl (bSb rfl bSn))) ?_
  exact p_X11_depth_13 hr (by decide) (bO_i hk (by rfl))
/-! ETModel.entry -/
theorem l145_0 : (ax_dt (ax_T 145)).lookup 0 = some (.aload_n 0, 1, 0, 0, 0) := by decide +kernel
theorem l145_1 : (ax_dt (ax_T 145)).lookup 1 = some (.aload_n 0, 1, 0, 0, 0) := by decide +kernel
theorem l145_2 : (ax_dt (ax_T 145)).lookup 2 = some (.iload_n 1, 1, 0, 0, 0) := by decide +kernel
theorem l145_3 : (ax_dt (ax_T 145)).lookup 3 = some (.invokevirtual 152, 3, 141, 1, 0) := by decide +kernel
theorem l145_6 : (ax_dt (ax_T 145)).lookup 6 = some (.ifCond .ne 7, 3, 0, 0, 0) := by decide +kernel
theorem l145_9 : (ax_dt (ax_T 145)).lookup 9 = some (.iconst 1, 1, 0, 0, 0) := by decide +kernel
theorem l145_10 : (ax_dt (ax_T 145)).lookup 10 = some (.goto 44, 3, 0, 0, 0) := by decide +kernel
theorem l145_13 : (ax_dt (ax_T 145)).lookup 13 = some (.iload_n 2, 1, 0, 0, 0) := by decide +kernel
theorem l145_14 : (ax_dt (ax_T 145)).lookup 14 = some (.invokestatic 144, 3, 139, 1, 0) := by decide +kernel
theorem l145_17 : (ax_dt (ax_T 145)).lookup 17 = some (.ifCond .ne 7, 3, 0, 0, 0) := by decide +kernel
theorem l145_20 : (ax_dt (ax_T 145)).lookup 20 = some (.iconst 2, 1, 0, 0, 0) := by decide +kernel
theorem l145_21 : (ax_dt (ax_T 145)).lookup 21 = some (.goto 33, 3, 0, 0, 0) := by decide +kernel
theorem l145_24 : (ax_dt (ax_T 145)).lookup 24 = some (.aload_n 0, 1, 0, 0, 0) := by decide +kernel
theorem l145_25 : (ax_dt (ax_T 145)).lookup 25 = some (.getfield 13, 3, 9, 4, 0) := by decide +kernel
theorem l145_28 : (ax_dt (ax_T 145)).lookup 28 = some (.aload_n 0, 1, 0, 0, 0) := by decide +kernel
theorem l145_29 : (ax_dt (ax_T 145)).lookup 29 = some (.getfield 137, 3, 9, 3, 0) := by decide +kernel
theorem l145_32 : (ax_dt (ax_T 145)).lookup 32 = some (.iaload, 1, 0, 0, 0) := by decide +kernel
theorem l145_33 : (ax_dt (ax_T 145)).lookup 33 = some (.sipush 400, 3, 0, 0, 0) := by decide +kernel
theorem l145_36 : (ax_dt (ax_T 145)).lookup 36 = some (.if_icmp .eq 13, 3, 0, 0, 0) := by decide +kernel
theorem l145_39 : (ax_dt (ax_T 145)).lookup 39 = some (.aload_n 0, 1, 0, 0, 0) := by decide +kernel
theorem l145_40 : (ax_dt (ax_T 145)).lookup 40 = some (.iload_n 1, 1, 0, 0, 0) := by decide +kernel
theorem l145_41 : (ax_dt (ax_T 145)).lookup 41 = some (.invokevirtual 155, 3, 144, 1, 0) := by decide +kernel
theorem l145_44 : (ax_dt (ax_T 145)).lookup 44 = some (.bipush 30, 2, 0, 0, 0) := by decide +kernel
theorem l145_46 : (ax_dt (ax_T 145)).lookup 46 = some (.if_icmp .ne 7, 3, 0, 0, 0) := by decide +kernel
theorem l145_49 : (ax_dt (ax_T 145)).lookup 49 = some (.iconst 3, 1, 0, 0, 0) := by decide +kernel
theorem l145_50 : (ax_dt (ax_T 145)).lookup 50 = some (.goto 4, 3, 0, 0, 0) := by decide +kernel
theorem l145_53 : (ax_dt (ax_T 145)).lookup 53 = some (.iconst 0, 1, 0, 0, 0) := by decide +kernel
theorem l145_54 : (ax_dt (ax_T 145)).lookup 54 = some (.putfield 120, 3, 9, 0, 0) := by decide +kernel
theorem l145_57 : (ax_dt (ax_T 145)).lookup 57 = some (.aload_n 0, 1, 0, 0, 0) := by decide +kernel
theorem l145_58 : (ax_dt (ax_T 145)).lookup 58 = some (.getfield 120, 3, 9, 0, 0) := by decide +kernel
theorem l145_61 : (ax_dt (ax_T 145)).lookup 61 = some (.ifCond .le 5, 3, 0, 0, 0) := by decide +kernel
theorem l145_64 : (ax_dt (ax_T 145)).lookup 64 = some (.iconst 0, 1, 0, 0, 0) := by decide +kernel
theorem l145_65 : (ax_dt (ax_T 145)).lookup 65 = some (.ireturn, 1, 0, 0, 0) := by decide +kernel
theorem l145_66 : (ax_dt (ax_T 145)).lookup 66 = some (.aload_n 0, 1, 0, 0, 0) := by decide +kernel
theorem l145_67 : (ax_dt (ax_T 145)).lookup 67 = some (.iload_n 2, 1, 0, 0, 0) := by decide +kernel
theorem l145_68 : (ax_dt (ax_T 145)).lookup 68 = some (.iload_n 1, 1, 0, 0, 0) := by decide +kernel
theorem l145_69 : (ax_dt (ax_T 145)).lookup 69 = some (.aload_n 0, 1, 0, 0, 0) := by decide +kernel
theorem l145_70 : (ax_dt (ax_T 145)).lookup 70 = some (.getfield 29, 3, 9, 9, 0) := by decide +kernel
theorem l145_73 : (ax_dt (ax_T 145)).lookup 73 = some (.aload_n 0, 1, 0, 0, 0) := by decide +kernel
theorem l145_74 : (ax_dt (ax_T 145)).lookup 74 = some (.iload_n 1, 1, 0, 0, 0) := by decide +kernel
theorem l145_75 : (ax_dt (ax_T 145)).lookup 75 = some (.invokevirtual 140, 3, 140, 1, 0) := by decide +kernel
theorem l145_78 : (ax_dt (ax_T 145)).lookup 78 = some (.iaload, 1, 0, 0, 0) := by decide +kernel
theorem l145_79 : (ax_dt (ax_T 145)).lookup 79 = some (.invokevirtual 148, 3, 142, 3, 0) := by decide +kernel
theorem l145_82 : (ax_dt (ax_T 145)).lookup 82 = some (.ireturn, 1, 0, 0, 0) := by decide +kernel
noncomputable def F_X11_entry_54 (v1 : Int) (v2 : Int) (y1 : Int) (μ : bM) : Option (Int × bM) := if ((bset μ 76 0 y1) 76 0) ≤ 0 then (F_X11_at v1 (bset μ 76 0 y1)).bind fun w3 => bG (0 ≤ w3 ∧ w3 < 800) (bMm (F_X11_make v2 v1 ((bset μ 76 0 y1) 83 w3.toNat) (bset μ 76 0 y1)) (fun w4 μ5 => some (w4, μ5))) else some (0, (bset μ 76 0 y1))
noncomputable def F_X11_entry_49 (v1 : Int) (v2 : Int) (μ : bM) : Option (Int × bM) := F_X11_entry_54 v1 v2 3 μ
noncomputable def F_X11_entry (v1 : Int) (v2 : Int) (μ : bM) : Option (Int × bM) := (F_X11_isEntry v1 μ).bind fun w1 => if ¬ w1 = 0 then (F_X11_isName v2 μ).bind fun w3 => if ¬ w3 = 0 then bG (0 ≤ (μ 76 3) ∧ (μ 76 3) < 2) (if (μ 78 (μ 76 3).toNat) = 400 then F_X11_entry_49 v1 v2 μ else (F_X11_depth v1 μ).bind fun w6 => if ¬ w6 = 30 then F_X11_entry_54 v1 v2 0 μ else F_X11_entry_49 v1 v2 μ) else F_X11_entry_54 v1 v2 2 μ else F_X11_entry_54 v1 v2 1 μ
theorem p_X11_entry_54 {L : Nat} {xs : Nat → Int32} {d : Nat} {μ : bM}  {κ : (Int × bM) → Option bX} (hr : ∀ r : Int × bM, κ r = (bMc) r)  {v1 : Int} (h1 : bR v1) {v2 : Int} (h2 : bR v2) {y1 : Int} (hy1 : bR y1) : bD L xs (d + 2) 145 54 [(0, .ref 76), (1, bI v1), (2, bI v2)] [bI y1, .ref 76] μ ((F_X11_entry_54 v1 v2 y1 μ).bind κ) := by
  unfold F_X11_entry_54
  refine bD.ok fun hk => ?_
  refine b_pi l145_54 (by rfl) (by decide) (by decide) rfl rfl hy1 (bD.ok fun hk1 => b_pc (pc' := 57) rfl ?_)
  refine b_s (pc' := 58) (lv1 := [(0, .ref 76), (1, bI v1), (2, bI v2)]) (st' := [.ref 76]) l145_57 (fun _ => rfl) ?_
  refine b_gi l145_58 (by rfl) (by decide) (by decide) rfl (b_pc (pc' := 61) rfl ?_)
  refine b_zle (pt := 66) l145_61 (bO_f hk1 (ci := 9) (by rfl) rfl) (by decide) rfl (fun c2 => ?_) (fun c2 => b_pc (pc' := 64) rfl ?_)
  · refine b_s (pc' := 67) (lv1 := [(0, .ref 76), (1, bI v1), (2, bI v2)]) (st' := [.ref 76]) l145_66 (fun _ => rfl) ?_
    refine b_s (pc' := 68) (lv1 := [(0, .ref 76), (1, bI v1), (2, bI v2)]) (st' := [bI v2, .ref 76]) l145_67 (fun _ => rfl) ?_
    refine b_s (pc' := 69) (lv1 := [(0, .ref 76), (1, bI v1), (2, bI v2)]) (st' := [bI v1, bI v2, .ref 76]) l145_68 (fun _ => rfl) ?_
    refine b_s (pc' := 70) (lv1 := [(0, .ref 76), (1, bI v1), (2, bI v2)]) (st' := [.ref 76, bI v1, bI v2, .ref 76]) l145_69 (fun _ => rfl) ?_
    refine b_gp (q' := 83) (j := 7) l145_70 (by rfl) (by decide) (by decide) rfl hk1 rfl rfl (b_pc (pc' := 73) rfl ?_)
    refine b_s (pc' := 74) (lv1 := [(0, .ref 76), (1, bI v1), (2, bI v2)]) (st' := [.ref 76, .ref 83, bI v1, bI v2, .ref 76]) l145_73 (fun _ => rfl) ?_
    refine b_s (pc' := 75) (lv1 := [(0, .ref 76), (1, bI v1), (2, bI v2)]) (st' := [bI v1, .ref 76, .ref 83, bI v1, bI v2, .ref 76]) l145_74 (fun _ => rfl) ?_
    refine b_cPi l145_75 rfl (b_rc (ci := 9) (by rfl) (by decide) (by decide +kernel)) (Nat.le_of_ble_eq_true rfl) (Nat.le_of_ble_eq_true rfl) rfl (r_X11_at v1 h1) fun w3 hw3 => b_pc (pc' := 78) rfl ?_
    refine b_g fun g7 => ?_
    refine b_ial l145_78 (by rfl) g7 (b_pc (pc' := 79) rfl ?_)
    refine b_cMi l145_79 rfl (b_rc (ci := 9) (by rfl) (by decide) (by decide +kernel)) (Nat.le_of_ble_eq_true rfl) (Nat.le_of_ble_eq_true rfl) rfl (r_X11_make v2 h2 v1 h1 ((bset μ 76 0 y1) 83 w3.toNat) (bO_i hk1 (by rfl))) fun w4 μ5 hw4 => bD.ok fun hk6 => b_pc (pc' := 82) rfl ?_
    exact b_reti l145_82 rfl hw4 (hr _)
  · refine b_s (pc' := 65) (lv1 := [(0, .ref 76), (1, bI v1), (2, bI v2)]) (st' := [bI 0]) l145_64 (fun _ => rfl) ?_
    exact b_reti l145_65 rfl (by decide) (hr _)
theorem p_X11_entry_49 {L : Nat} {xs : Nat → Int32} {d : Nat} {μ : bM}  {κ : (Int × bM) → Option bX} (hr : ∀ r : Int × bM, κ r = (bMc) r)  {v1 : Int} (h1 : bR v1) {v2 : Int} (h2 : bR v2) : bD L xs (d + 2) 145 49 [(0, .ref 76), (1, bI v1), (2, bI v2)] [.ref 76] μ ((F_X11_entry_49 v1 v2 μ).bind κ) := by
  unfold F_X11_entry_49
  refine bD.ok fun hk => ?_
  refine b_s (pc' := 50) (lv1 := [(0, .ref 76), (1, bI v1), (2, bI v2)]) (st' := [bI 3, .ref 76]) l145_49 (fun _ => rfl) ?_
  refine b_s (pc' := 54) (lv1 := [(0, .ref 76), (1, bI v1), (2, bI v2)]) (st' := [bI 3, .ref 76]) l145_50 (fun _ => rfl) ?_
  refine bD.wk (lv' := [(0, .ref 76), (1, bI v1), (2, bI v2)]) (bSb rfl (bSb rfl (bSb rfl bSn))) ?_
  exact p_X11_entry_54 hr h1 h2 (by decide)
theorem r_X11_entry {L : Nat} {xs : Nat → Int32} {d : Nat} {μ : bM}  (v1 : Int) (h1 : bR v1) (v2 : Int) (h2 : bR v2) : bD L xs (d + 2) 145 0 [(0, .ref 76), (1, bI v1), (2, bI v2)] [] μ ((F_X11_entry v1 v2 μ).bind (bMc)) := by
  have hr : ∀ r, (bMc) r = (bMc) r := fun _ => rfl
  unfold F_X11_entry
  refine bD.ok fun hk => ?_
  refine b_s (pc' := 1) (lv1 := [(0, .ref 76), (1, bI v1), (2, bI v2)]) (st' := [.ref 76]) l145_0 (fun _ => rfl) ?_
  refine b_s (pc' := 2) (lv1 := [(0, .ref 76), (1, bI v1), (2, bI v2)]) (st' := [.ref 76, .ref 76]) l145_1 (fun _ => rfl) ?_
  refine b_s (pc' := 3) (lv1 := [(0, .ref 76), (1, bI v1), (2, bI v2)]) (st' := [bI v1, .ref 76, .ref 76]) l145_2 (fun _ => rfl) ?_
  refine b_cPz l145_3 rfl (b_rc (ci := 9) (by rfl) (by decide) (by decide +kernel)) (Nat.le_of_ble_eq_true rfl) (Nat.le_of_ble_eq_true rfl) rfl (r_X11_isEntry v1 h1) fun w1 hw1 => b_pc (pc' := 6) rfl ?_
  refine b_zne (pt := 13) l145_6 (bZ_R hw1) (by decide) rfl (fun c2 => ?_) (fun c2 => b_pc (pc' := 9) rfl ?_)
  · refine b_s (pc' := 14) (lv1 := [(0, .ref 76), (1, bI v1), (2, bI v2)]) (st' := [bI v2, .ref 76]) l145_13 (fun _ => rfl) ?_
    refine b_cPz l145_14 rfl (fun _ => trivial) (Nat.le_of_ble_eq_true rfl) (Nat.le_of_ble_eq_true rfl) rfl (r_X11_isName v2 h2) fun w3 hw3 => b_pc (pc' := 17) rfl ?_
    refine b_zne (pt := 24) l145_17 (bZ_R hw3) (by decide) rfl (fun c4 => ?_) (fun c4 => b_pc (pc' := 20) rfl ?_)
    · refine b_s (pc' := 25) (lv1 := [(0, .ref 76), (1, bI v1), (2, bI v2)]) (st' := [.ref 76, .ref 76]) l145_24 (fun _ => rfl) ?_
      refine b_gp (q' := 78) (j := 2) l145_25 (by rfl) (by decide) (by decide) rfl hk rfl rfl (b_pc (pc' := 28) rfl ?_)
      refine b_s (pc' := 29) (lv1 := [(0, .ref 76), (1, bI v1), (2, bI v2)]) (st' := [.ref 76, .ref 78, .ref 76]) l145_28 (fun _ => rfl) ?_
      refine b_gi l145_29 (by rfl) (by decide) (by decide) rfl (b_pc (pc' := 32) rfl ?_)
      refine b_g fun g8 => ?_
      refine b_ial l145_32 (by rfl) g8 (b_pc (pc' := 33) rfl ?_)
      refine b_sipush l145_33 (by decide) (b_pc (pc' := 36) rfl ?_)
      refine b_ieq (pt := 49) l145_36 (bO_i hk (by rfl)) (by decide) (by decide) rfl (fun c5 => ?_) (fun c5 => b_pc (pc' := 39) rfl ?_)
      · refine bD.wk (lv' := [(0, .ref 76), (1, bI v1), (2, bI v2)]) (bSb rfl (bSb rfl (bSb rfl bSn))) ?_
        exact p_X11_entry_49 hr h1 h2
      · refine b_s (pc' := 40) (lv1 := [(0, .ref 76), (1, bI v1), (2, bI v2)]) (st' := [.ref 76, .ref 76]) l145_39 (fun _ => rfl) ?_
        refine b_s (pc' := 41) (lv1 := [(0, .ref 76), (1, bI v1), (2, bI v2)]) (st' := [bI v1, .ref 76, .ref 76]) l145_40 (fun _ => rfl) ?_
        refine b_cPi l145_41 rfl (b_rc (ci := 9) (by rfl) (by decide) (by decide +kernel)) (Nat.le_of_ble_eq_true rfl) (Nat.le_of_ble_eq_true rfl) rfl (r_X11_depth v1 h1) fun w6 hw6 => b_pc (pc' := 44) rfl ?_
        refine b_bipush l145_44 (by decide) (b_pc (pc' := 46) rfl ?_)
        refine b_ine (pt := 53) l145_46 hw6 (by decide) (by decide) rfl (fun c7 => ?_) (fun c7 => b_pc (pc' := 49) rfl ?_)
        · refine b_s (pc' := 54) (lv1 := [(0, .ref 76), (1, bI v1), (2, bI v2)]) (st' := [bI 0, .ref 76]) l145_53 (fun _ => rfl) ?_
          refine bD.wk (lv' := [(0, .ref 76), (1, bI v1), (2, bI v2)]) (bSb rfl (bSb rfl (bSb rfl bSn))) ?_
          exact p_X11_entry_54 hr h1 h2 (by decide)
        · refine bD.wk (lv' := [(0, .ref 76), (1, bI v1), (2, bI v2)]) (bSb rfl (bSb rfl (bSb rfl bSn))) ?_
          exact p_X11_entry_49 hr h1 h2
    · refine b_s (pc' := 21) (lv1 := [(0, .ref 76), (1, bI v1), (2, bI v2)]) (st' := [bI 2, .ref 76]) l145_20 (fun _ => rfl) ?_
      refine b_s (pc' := 54) (lv1 := [(0, .ref 76), (1, bI v1), (2, bI v2)]) (st' := [bI 2, .ref 76]) l145_21 (fun _ => rfl) ?_
      refine bD.wk (lv' := [(0, .ref 76), (1, bI v1), (2, bI v2)]) (bSb rfl (bSb rfl (bSb rfl bSn))) ?_
      exact p_X11_entry_54 hr h1 h2 (by decide)
  · refine b_s (pc' := 10) (lv1 := [(0, .ref 76), (1, bI v1), (2, bI v2)]) (st' := [bI 1, .ref 76]) l145_9 (fun _ => rfl) ?_
    refine b_s (pc' := 54) (lv1 := [(0, .ref 76), (1, bI v1), (2, bI v2)]) (st' := [bI 1, .ref 76]) l145_10 (fun _ => rfl) ?_
    refine bD.wk (lv' := [(0, .ref 76), (1, bI v1), (2, bI v2)]) (bSb rfl (bSb rfl (bSb rfl bSn))) ?_
    exact p_X11_entry_54 hr h1 h2 (by decide)
/-! ETModel.isNumber -/
theorem l146_0 : (ax_dt (ax_T 146)).lookup 0 = some (.iload_n 0, 1, 0, 0, 0) := by decide +kernel
theorem l146_1 : (ax_dt (ax_T 146)).lookup 1 = some (.iconst 5, 1, 0, 0, 0) := by decide +kernel
theorem l146_2 : (ax_dt (ax_T 146)).lookup 2 = some (.if_icmp .eq 45, 3, 0, 0, 0) := by decide +kernel
theorem l146_5 : (ax_dt (ax_T 146)).lookup 5 = some (.iload_n 0, 1, 0, 0, 0) := by decide +kernel
theorem l146_6 : (ax_dt (ax_T 146)).lookup 6 = some (.bipush 6, 2, 0, 0, 0) := by decide +kernel
theorem l146_8 : (ax_dt (ax_T 146)).lookup 8 = some (.if_icmp .eq 39, 3, 0, 0, 0) := by decide +kernel
theorem l146_11 : (ax_dt (ax_T 146)).lookup 11 = some (.iload_n 0, 1, 0, 0, 0) := by decide +kernel
theorem l146_12 : (ax_dt (ax_T 146)).lookup 12 = some (.bipush 7, 2, 0, 0, 0) := by decide +kernel
theorem l146_14 : (ax_dt (ax_T 146)).lookup 14 = some (.if_icmp .eq 33, 3, 0, 0, 0) := by decide +kernel
theorem l146_17 : (ax_dt (ax_T 146)).lookup 17 = some (.iload_n 0, 1, 0, 0, 0) := by decide +kernel
theorem l146_18 : (ax_dt (ax_T 146)).lookup 18 = some (.bipush 11, 2, 0, 0, 0) := by decide +kernel
theorem l146_20 : (ax_dt (ax_T 146)).lookup 20 = some (.if_icmp .eq 27, 3, 0, 0, 0) := by decide +kernel
theorem l146_23 : (ax_dt (ax_T 146)).lookup 23 = some (.iload_n 0, 1, 0, 0, 0) := by decide +kernel
theorem l146_24 : (ax_dt (ax_T 146)).lookup 24 = some (.bipush 12, 2, 0, 0, 0) := by decide +kernel
theorem l146_26 : (ax_dt (ax_T 146)).lookup 26 = some (.if_icmp .eq 21, 3, 0, 0, 0) := by decide +kernel
theorem l146_29 : (ax_dt (ax_T 146)).lookup 29 = some (.iload_n 0, 1, 0, 0, 0) := by decide +kernel
theorem l146_30 : (ax_dt (ax_T 146)).lookup 30 = some (.bipush 13, 2, 0, 0, 0) := by decide +kernel
theorem l146_32 : (ax_dt (ax_T 146)).lookup 32 = some (.if_icmp .eq 15, 3, 0, 0, 0) := by decide +kernel
theorem l146_35 : (ax_dt (ax_T 146)).lookup 35 = some (.iload_n 0, 1, 0, 0, 0) := by decide +kernel
theorem l146_36 : (ax_dt (ax_T 146)).lookup 36 = some (.bipush 15, 2, 0, 0, 0) := by decide +kernel
theorem l146_38 : (ax_dt (ax_T 146)).lookup 38 = some (.if_icmp .eq 9, 3, 0, 0, 0) := by decide +kernel
theorem l146_41 : (ax_dt (ax_T 146)).lookup 41 = some (.iload_n 0, 1, 0, 0, 0) := by decide +kernel
theorem l146_42 : (ax_dt (ax_T 146)).lookup 42 = some (.bipush 25, 2, 0, 0, 0) := by decide +kernel
theorem l146_44 : (ax_dt (ax_T 146)).lookup 44 = some (.if_icmp .ne 7, 3, 0, 0, 0) := by decide +kernel
theorem l146_47 : (ax_dt (ax_T 146)).lookup 47 = some (.iconst 1, 1, 0, 0, 0) := by decide +kernel
theorem l146_48 : (ax_dt (ax_T 146)).lookup 48 = some (.goto 4, 3, 0, 0, 0) := by decide +kernel
theorem l146_51 : (ax_dt (ax_T 146)).lookup 51 = some (.iconst 0, 1, 0, 0, 0) := by decide +kernel
theorem l146_52 : (ax_dt (ax_T 146)).lookup 52 = some (.ireturn, 1, 0, 0, 0) := by decide +kernel
noncomputable def F_X11_isNumber (v0 : Int) (μ : bM) : Option (Int) := if v0 = 5 then some (1) else if v0 = 6 then some (1) else if v0 = 7 then some (1) else if v0 = 11 then some (1) else if v0 = 12 then some (1) else if v0 = 13 then some (1) else if v0 = 15 then some (1) else if ¬ v0 = 25 then some (0) else some (1)
theorem r_X11_isNumber {L : Nat} {xs : Nat → Int32} {d : Nat} {μ : bM}  (v0 : Int) (h0 : bR v0) : bD L xs (d + 0) 146 0 [(0, bI v0)] [] μ ((F_X11_isNumber v0 μ).bind (bPc μ)) := by
  have hr : ∀ r, (bPc μ) r = (bPc μ) r := fun _ => rfl
  unfold F_X11_isNumber
  refine bD.ok fun hk => ?_
  refine b_s (pc' := 1) (lv1 := [(0, bI v0)]) (st' := [bI v0]) l146_0 (fun _ => rfl) ?_
  refine b_s (pc' := 2) (lv1 := [(0, bI v0)]) (st' := [bI 5, bI v0]) l146_1 (fun _ => rfl) ?_
  refine b_ieq (pt := 47) l146_2 h0 (by decide) (by decide) rfl (fun c1 => ?_) (fun c1 => b_pc (pc' := 5) rfl ?_)
  · refine b_s (pc' := 48) (lv1 := [(0, bI v0)]) (st' := [bI 1]) l146_47 (fun _ => rfl) ?_
    refine b_s (pc' := 52) (lv1 := [(0, bI v0)]) (st' := [bI 1]) l146_48 (fun _ => rfl) ?_
    exact b_retz l146_52 rfl (by decide) (hr _)
  · refine b_s (pc' := 6) (lv1 := [(0, bI v0)]) (st' := [bI v0]) l146_5 (fun _ => rfl) ?_
    refine b_bipush l146_6 (by decide) (b_pc (pc' := 8) rfl ?_)
    refine b_ieq (pt := 47) l146_8 h0 (by decide) (by decide) rfl (fun c2 => ?_) (fun c2 => b_pc (pc' := 11) rfl ?_)
    · refine b_s (pc' := 48) (lv1 := [(0, bI v0)]) (st' := [bI 1]) l146_47 (fun _ => rfl) ?_
      refine b_s (pc' := 52) (lv1 := [(0, bI v0)]) (st' := [bI 1]) l146_48 (fun _ => rfl) ?_
      exact b_retz l146_52 rfl (by decide) (hr _)
    · refine b_s (pc' := 12) (lv1 := [(0, bI v0)]) (st' := [bI v0]) l146_11 (fun _ => rfl) ?_
      refine b_bipush l146_12 (by decide) (b_pc (pc' := 14) rfl ?_)
      refine b_ieq (pt := 47) l146_14 h0 (by decide) (by decide) rfl (fun c3 => ?_) (fun c3 => b_pc (pc' := 17) rfl ?_)
      · refine b_s (pc' := 48) (lv1 := [(0, bI v0)]) (st' := [bI 1]) l146_47 (fun _ => rfl) ?_
        refine b_s (pc' := 52) (lv1 := [(0, bI v0)]) (st' := [bI 1]) l146_48 (fun _ => rfl) ?_
        exact b_retz l146_52 rfl (by decide) (hr _)
      · refine b_s (pc' := 18) (lv1 := [(0, bI v0)]) (st' := [bI v0]) l146_17 (fun _ => rfl) ?_
        refine b_bipush l146_18 (by decide) (b_pc (pc' := 20) rfl ?_)
        refine b_ieq (pt := 47) l146_20 h0 (by decide) (by decide) rfl (fun c4 => ?_) (fun c4 => b_pc (pc' := 23) rfl ?_)
        · refine b_s (pc' := 48) (lv1 := [(0, bI v0)]) (st' := [bI 1]) l146_47 (fun _ => rfl) ?_
          refine b_s (pc' := 52) (lv1 := [(0, bI v0)]) (st' := [bI 1]) l146_48 (fun _ => rfl) ?_
          exact b_retz l146_52 rfl (by decide) (hr _)
        · refine b_s (pc' := 24) (lv1 := [(0, bI v0)]) (st' := [bI v0]) l146_23 (fun _ => rfl) ?_
          refine b_bipush l146_24 (by decide) (b_pc (pc' := 26) rfl ?_)
          refine b_ieq (pt := 47) l146_26 h0 (by decide) (by decide) rfl (fun c5 => ?_) (fun c5 => b_pc (pc' := 29) rfl ?_)
          · refine b_s (pc' := 48) (lv1 := [(0, bI v0)]) (st' := [bI 1]) l146_47 (fun _ => rfl) ?_
            refine b_s (pc' := 52) (lv1 := [(0, bI v0)]) (st' := [bI 1]) l146_48 (fun _ => rfl) ?_
            exact b_retz l146_52 rfl (by decide) (hr _)
          · refine b_s (pc' := 30) (lv1 := [(0, bI v0)]) (st' := [bI v0]) l146_29 (fun _ => rfl) ?_
            refine b_bipush l146_30 (by decide) (b_pc (pc' := 32) rfl ?_)
            refine b_ieq (pt := 47) l146_32 h0 (by decide) (by decide) rfl (fun c6 => ?_) (fun c6 => b_pc (pc' := 35) rfl ?_)
            · refine b_s (pc' := 48) (lv1 := [(0, bI v0)]) (st' := [bI 1]) l146_47 (fun _ => rfl) ?_
              refine b_s (pc' := 52) (lv1 := [(0, bI v0)]) (st' := [bI 1]) l146_48 (fun _ => rfl) ?_
              exact b_retz l146_52 rfl (by decide) (hr _)
            · refine b_s (pc' := 36) (lv1 := [(0, bI v0)]) (st' := [bI v0]) l146_35 (fun _ => rfl) ?_
              refine b_bipush l146_36 (by decide) (b_pc (pc' := 38) rfl ?_)
              refine b_ieq (pt := 47) l146_38 h0 (by decide) (by decide) rfl (fun c7 => ?_) (fun c7 => b_pc (pc' := 41) rfl ?_)
              · refine b_s (pc' := 48) (lv1 := [(0, bI v0)]) (st' := [bI 1]) l146_47 (fun _ => rfl) ?_
                refine b_s (pc' := 52) (lv1 := [(0, bI v0)]) (st' := [bI 1]) l146_48 (fun _ => rfl) ?_
                exact b_retz l146_52 rfl (by decide) (hr _)
              · refine b_s (pc' := 42) (lv1 := [(0, bI v0)]) (st' := [bI v0]) l146_41 (fun _ => rfl) ?_
                refine b_bipush l146_42 (by decide) (b_pc (pc' := 44) rfl ?_)
                refine b_ine (pt := 51) l146_44 h0 (by decide) (by decide) rfl (fun c8 => ?_) (fun c8 => b_pc (pc' := 47) rfl ?_)
                · refine b_s (pc' := 52) (lv1 := [(0, bI v0)]) (st' := [bI 0]) l146_51 (fun _ => rfl) ?_
                  exact b_retz l146_52 rfl (by decide) (hr _)
                · refine b_s (pc' := 48) (lv1 := [(0, bI v0)]) (st' := [bI 1]) l146_47 (fun _ => rfl) ?_
                  refine b_s (pc' := 52) (lv1 := [(0, bI v0)]) (st' := [bI 1]) l146_48 (fun _ => rfl) ?_
                  exact b_retz l146_52 rfl (by decide) (hr _)
/-! ETModel.isText -/
theorem l147_0 : (ax_dt (ax_T 147)).lookup 0 = some (.iload_n 0, 1, 0, 0, 0) := by decide +kernel
theorem l147_1 : (ax_dt (ax_T 147)).lookup 1 = some (.bipush 8, 2, 0, 0, 0) := by decide +kernel
theorem l147_3 : (ax_dt (ax_T 147)).lookup 3 = some (.if_icmp .eq 9, 3, 0, 0, 0) := by decide +kernel
theorem l147_6 : (ax_dt (ax_T 147)).lookup 6 = some (.iload_n 0, 1, 0, 0, 0) := by decide +kernel
theorem l147_7 : (ax_dt (ax_T 147)).lookup 7 = some (.bipush 14, 2, 0, 0, 0) := by decide +kernel
theorem l147_9 : (ax_dt (ax_T 147)).lookup 9 = some (.if_icmp .ne 7, 3, 0, 0, 0) := by decide +kernel
theorem l147_12 : (ax_dt (ax_T 147)).lookup 12 = some (.iconst 1, 1, 0, 0, 0) := by decide +kernel
theorem l147_13 : (ax_dt (ax_T 147)).lookup 13 = some (.goto 4, 3, 0, 0, 0) := by decide +kernel
theorem l147_16 : (ax_dt (ax_T 147)).lookup 16 = some (.iconst 0, 1, 0, 0, 0) := by decide +kernel
theorem l147_17 : (ax_dt (ax_T 147)).lookup 17 = some (.ireturn, 1, 0, 0, 0) := by decide +kernel
noncomputable def F_X11_isText (v0 : Int) (μ : bM) : Option (Int) := if v0 = 8 then some (1) else if ¬ v0 = 14 then some (0) else some (1)
theorem r_X11_isText {L : Nat} {xs : Nat → Int32} {d : Nat} {μ : bM}  (v0 : Int) (h0 : bR v0) : bD L xs (d + 0) 147 0 [(0, bI v0)] [] μ ((F_X11_isText v0 μ).bind (bPc μ)) := by
  have hr : ∀ r, (bPc μ) r = (bPc μ) r := fun _ => rfl
  unfold F_X11_isText
  refine bD.ok fun hk => ?_
  refine b_s (pc' := 1) (lv1 := [(0, bI v0)]) (st' := [bI v0]) l147_0 (fun _ => rfl) ?_
  refine b_bipush l147_1 (by decide) (b_pc (pc' := 3) rfl ?_)
  refine b_ieq (pt := 12) l147_3 h0 (by decide) (by decide) rfl (fun c1 => ?_) (fun c1 => b_pc (pc' := 6) rfl ?_)
  · refine b_s (pc' := 13) (lv1 := [(0, bI v0)]) (st' := [bI 1]) l147_12 (fun _ => rfl) ?_
    refine b_s (pc' := 17) (lv1 := [(0, bI v0)]) (st' := [bI 1]) l147_13 (fun _ => rfl) ?_
    exact b_retz l147_17 rfl (by decide) (hr _)
  · refine b_s (pc' := 7) (lv1 := [(0, bI v0)]) (st' := [bI v0]) l147_6 (fun _ => rfl) ?_
    refine b_bipush l147_7 (by decide) (b_pc (pc' := 9) rfl ?_)
    refine b_ine (pt := 16) l147_9 h0 (by decide) (by decide) rfl (fun c2 => ?_) (fun c2 => b_pc (pc' := 12) rfl ?_)
    · refine b_s (pc' := 17) (lv1 := [(0, bI v0)]) (st' := [bI 0]) l147_16 (fun _ => rfl) ?_
      exact b_retz l147_17 rfl (by decide) (hr _)
    · refine b_s (pc' := 13) (lv1 := [(0, bI v0)]) (st' := [bI 1]) l147_12 (fun _ => rfl) ?_
      refine b_s (pc' := 17) (lv1 := [(0, bI v0)]) (st' := [bI 1]) l147_13 (fun _ => rfl) ?_
      exact b_retz l147_17 rfl (by decide) (hr _)
/-! ETModel.isReference -/
theorem l148_0 : (ax_dt (ax_T 148)).lookup 0 = some (.iload_n 0, 1, 0, 0, 0) := by decide +kernel
theorem l148_1 : (ax_dt (ax_T 148)).lookup 1 = some (.bipush 19, 2, 0, 0, 0) := by decide +kernel
theorem l148_3 : (ax_dt (ax_T 148)).lookup 3 = some (.if_icmp .eq 9, 3, 0, 0, 0) := by decide +kernel
theorem l148_6 : (ax_dt (ax_T 148)).lookup 6 = some (.iload_n 0, 1, 0, 0, 0) := by decide +kernel
theorem l148_7 : (ax_dt (ax_T 148)).lookup 7 = some (.bipush 21, 2, 0, 0, 0) := by decide +kernel
theorem l148_9 : (ax_dt (ax_T 148)).lookup 9 = some (.if_icmp .ne 7, 3, 0, 0, 0) := by decide +kernel
theorem l148_12 : (ax_dt (ax_T 148)).lookup 12 = some (.iconst 1, 1, 0, 0, 0) := by decide +kernel
theorem l148_13 : (ax_dt (ax_T 148)).lookup 13 = some (.goto 4, 3, 0, 0, 0) := by decide +kernel
theorem l148_16 : (ax_dt (ax_T 148)).lookup 16 = some (.iconst 0, 1, 0, 0, 0) := by decide +kernel
theorem l148_17 : (ax_dt (ax_T 148)).lookup 17 = some (.ireturn, 1, 0, 0, 0) := by decide +kernel
noncomputable def F_X11_isReference (v0 : Int) (μ : bM) : Option (Int) := if v0 = 19 then some (1) else if ¬ v0 = 21 then some (0) else some (1)
theorem r_X11_isReference {L : Nat} {xs : Nat → Int32} {d : Nat} {μ : bM}  (v0 : Int) (h0 : bR v0) : bD L xs (d + 0) 148 0 [(0, bI v0)] [] μ ((F_X11_isReference v0 μ).bind (bPc μ)) := by
  have hr : ∀ r, (bPc μ) r = (bPc μ) r := fun _ => rfl
  unfold F_X11_isReference
  refine bD.ok fun hk => ?_
  refine b_s (pc' := 1) (lv1 := [(0, bI v0)]) (st' := [bI v0]) l148_0 (fun _ => rfl) ?_
  refine b_bipush l148_1 (by decide) (b_pc (pc' := 3) rfl ?_)
  refine b_ieq (pt := 12) l148_3 h0 (by decide) (by decide) rfl (fun c1 => ?_) (fun c1 => b_pc (pc' := 6) rfl ?_)
  · refine b_s (pc' := 13) (lv1 := [(0, bI v0)]) (st' := [bI 1]) l148_12 (fun _ => rfl) ?_
    refine b_s (pc' := 17) (lv1 := [(0, bI v0)]) (st' := [bI 1]) l148_13 (fun _ => rfl) ?_
    exact b_retz l148_17 rfl (by decide) (hr _)
  · refine b_s (pc' := 7) (lv1 := [(0, bI v0)]) (st' := [bI v0]) l148_6 (fun _ => rfl) ?_
    refine b_bipush l148_7 (by decide) (b_pc (pc' := 9) rfl ?_)
    refine b_ine (pt := 16) l148_9 h0 (by decide) (by decide) rfl (fun c2 => ?_) (fun c2 => b_pc (pc' := 12) rfl ?_)
    · refine b_s (pc' := 17) (lv1 := [(0, bI v0)]) (st' := [bI 0]) l148_16 (fun _ => rfl) ?_
      exact b_retz l148_17 rfl (by decide) (hr _)
    · refine b_s (pc' := 13) (lv1 := [(0, bI v0)]) (st' := [bI 1]) l148_12 (fun _ => rfl) ?_
      refine b_s (pc' := 17) (lv1 := [(0, bI v0)]) (st' := [bI 1]) l148_13 (fun _ => rfl) ?_
      exact b_retz l148_17 rfl (by decide) (hr _)
/-! ETModel.isForm -/
theorem l149_0 : (ax_dt (ax_T 149)).lookup 0 = some (.lload_n 0, 1, 0, 0, 0) := by decide +kernel
theorem l149_1 : (ax_dt (ax_T 149)).lookup 1 = some (.lconst 0, 1, 0, 0, 0) := by decide +kernel
theorem l149_2 : (ax_dt (ax_T 149)).lookup 2 = some (.ldc2_w 158, 3, 0, 0, 30) := by decide +kernel
theorem l149_5 : (ax_dt (ax_T 149)).lookup 5 = some (.invokestatic 131, 3, 133, 3, 0) := by decide +kernel
theorem l149_8 : (ax_dt (ax_T 149)).lookup 8 = some (.ifCond .eq 39, 3, 0, 0, 0) := by decide +kernel
theorem l149_11 : (ax_dt (ax_T 149)).lookup 11 = some (.lload_n 0, 1, 0, 0, 0) := by decide +kernel
theorem l149_12 : (ax_dt (ax_T 149)).lookup 12 = some (.l2i, 1, 0, 0, 0) := by decide +kernel
theorem l149_13 : (ax_dt (ax_T 149)).lookup 13 = some (.invokestatic 160, 3, 146, 1, 0) := by decide +kernel
theorem l149_16 : (ax_dt (ax_T 149)).lookup 16 = some (.ifCond .ne 27, 3, 0, 0, 0) := by decide +kernel
theorem l149_19 : (ax_dt (ax_T 149)).lookup 19 = some (.lload_n 0, 1, 0, 0, 0) := by decide +kernel
theorem l149_20 : (ax_dt (ax_T 149)).lookup 20 = some (.l2i, 1, 0, 0, 0) := by decide +kernel
theorem l149_21 : (ax_dt (ax_T 149)).lookup 21 = some (.invokestatic 163, 3, 147, 1, 0) := by decide +kernel
theorem l149_24 : (ax_dt (ax_T 149)).lookup 24 = some (.ifCond .ne 19, 3, 0, 0, 0) := by decide +kernel
theorem l149_27 : (ax_dt (ax_T 149)).lookup 27 = some (.lload_n 0, 1, 0, 0, 0) := by decide +kernel
theorem l149_28 : (ax_dt (ax_T 149)).lookup 28 = some (.ldc2_w 166, 3, 0, 0, 10) := by decide +kernel
theorem l149_31 : (ax_dt (ax_T 149)).lookup 31 = some (.lcmp, 1, 0, 0, 0) := by decide +kernel
theorem l149_32 : (ax_dt (ax_T 149)).lookup 32 = some (.ifCond .eq 11, 3, 0, 0, 0) := by decide +kernel
theorem l149_35 : (ax_dt (ax_T 149)).lookup 35 = some (.lload_n 0, 1, 0, 0, 0) := by decide +kernel
theorem l149_36 : (ax_dt (ax_T 149)).lookup 36 = some (.l2i, 1, 0, 0, 0) := by decide +kernel
theorem l149_37 : (ax_dt (ax_T 149)).lookup 37 = some (.invokestatic 168, 3, 148, 1, 0) := by decide +kernel
theorem l149_40 : (ax_dt (ax_T 149)).lookup 40 = some (.ifCond .eq 7, 3, 0, 0, 0) := by decide +kernel
theorem l149_43 : (ax_dt (ax_T 149)).lookup 43 = some (.iconst 1, 1, 0, 0, 0) := by decide +kernel
theorem l149_44 : (ax_dt (ax_T 149)).lookup 44 = some (.goto 4, 3, 0, 0, 0) := by decide +kernel
theorem l149_47 : (ax_dt (ax_T 149)).lookup 47 = some (.iconst 0, 1, 0, 0, 0) := by decide +kernel
theorem l149_48 : (ax_dt (ax_T 149)).lookup 48 = some (.ireturn, 1, 0, 0, 0) := by decide +kernel
noncomputable def F_X11_isForm (v0 : Int) (μ : bM) : Option (Int) := (F_X11_in v0 0 30 μ).bind fun w1 => if w1 = 0 then some (0) else (F_X11_isNumber (b32 v0) μ).bind fun w3 => if ¬ w3 = 0 then some (1) else (F_X11_isText (b32 v0) μ).bind fun w5 => if ¬ w5 = 0 then some (1) else if (bCmp v0 10) = 0 then some (1) else (F_X11_isReference (b32 v0) μ).bind fun w8 => if w8 = 0 then some (0) else some (1)
theorem r_X11_isForm {L : Nat} {xs : Nat → Int32} {d : Nat} {μ : bM}  (v0 : Int) (h0 : bRL v0) : bD L xs (d + 1) 149 0 [(0, bLg v0)] [] μ ((F_X11_isForm v0 μ).bind (bPc μ)) := by
  have hr : ∀ r, (bPc μ) r = (bPc μ) r := fun _ => rfl
  unfold F_X11_isForm
  refine bD.ok fun hk => ?_
  refine b_s (pc' := 1) (lv1 := [(0, bLg v0)]) (st' := [bLg v0]) l149_0 (fun _ => rfl) ?_
  refine b_lconst (e := 0) l149_1 (by decide) (b_pc (pc' := 2) rfl ?_)
  refine b_s (pc' := 5) (lv1 := [(0, bLg v0)]) (st' := [bLg 30, bLg 0, bLg v0]) l149_2 (fun _ => rfl) ?_
  refine b_cPz l149_5 rfl (fun _ => trivial) (Nat.le_of_ble_eq_true rfl) (Nat.le_of_ble_eq_true rfl) rfl (r_X11_in v0 h0 0 (by decide) 30 (by decide)) fun w1 hw1 => b_pc (pc' := 8) rfl ?_
  refine b_zeq (pt := 47) l149_8 (bZ_R hw1) (by decide) rfl (fun c2 => ?_) (fun c2 => b_pc (pc' := 11) rfl ?_)
  · refine b_s (pc' := 48) (lv1 := [(0, bLg v0)]) (st' := [bI 0]) l149_47 (fun _ => rfl) ?_
    exact b_retz l149_48 rfl (by decide) (hr _)
  · refine b_s (pc' := 12) (lv1 := [(0, bLg v0)]) (st' := [bLg v0]) l149_11 (fun _ => rfl) ?_
    refine b_l2i l149_12 (b_pc (pc' := 13) rfl ?_)
    refine b_cPz l149_13 rfl (fun _ => trivial) (Nat.le_of_ble_eq_true rfl) (Nat.le_of_ble_eq_true rfl) rfl (r_X11_isNumber (b32 v0) (b32_R _)) fun w3 hw3 => b_pc (pc' := 16) rfl ?_
    refine b_zne (pt := 43) l149_16 (bZ_R hw3) (by decide) rfl (fun c4 => ?_) (fun c4 => b_pc (pc' := 19) rfl ?_)
    · refine b_s (pc' := 44) (lv1 := [(0, bLg v0)]) (st' := [bI 1]) l149_43 (fun _ => rfl) ?_
      refine b_s (pc' := 48) (lv1 := [(0, bLg v0)]) (st' := [bI 1]) l149_44 (fun _ => rfl) ?_
      exact b_retz l149_48 rfl (by decide) (hr _)
    · refine b_s (pc' := 20) (lv1 := [(0, bLg v0)]) (st' := [bLg v0]) l149_19 (fun _ => rfl) ?_
      refine b_l2i l149_20 (b_pc (pc' := 21) rfl ?_)
      refine b_cPz l149_21 rfl (fun _ => trivial) (Nat.le_of_ble_eq_true rfl) (Nat.le_of_ble_eq_true rfl) rfl (r_X11_isText (b32 v0) (b32_R _)) fun w5 hw5 => b_pc (pc' := 24) rfl ?_
      refine b_zne (pt := 43) l149_24 (bZ_R hw5) (by decide) rfl (fun c6 => ?_) (fun c6 => b_pc (pc' := 27) rfl ?_)
      · refine b_s (pc' := 44) (lv1 := [(0, bLg v0)]) (st' := [bI 1]) l149_43 (fun _ => rfl) ?_
        refine b_s (pc' := 48) (lv1 := [(0, bLg v0)]) (st' := [bI 1]) l149_44 (fun _ => rfl) ?_
        exact b_retz l149_48 rfl (by decide) (hr _)
      · refine b_s (pc' := 28) (lv1 := [(0, bLg v0)]) (st' := [bLg v0]) l149_27 (fun _ => rfl) ?_
        refine b_s (pc' := 31) (lv1 := [(0, bLg v0)]) (st' := [bLg 10, bLg v0]) l149_28 (fun _ => rfl) ?_
        refine b_lcmp l149_31 h0 (by decide) (b_pc (pc' := 32) rfl ?_)
        refine b_zeq (pt := 43) l149_32 (bCmp_R _ _) (by decide) rfl (fun c7 => ?_) (fun c7 => b_pc (pc' := 35) rfl ?_)
        · refine b_s (pc' := 44) (lv1 := [(0, bLg v0)]) (st' := [bI 1]) l149_43 (fun _ => rfl) ?_
          refine b_s (pc' := 48) (lv1 := [(0, bLg v0)]) (st' := [bI 1]) l149_44 (fun _ => rfl) ?_
          exact b_retz l149_48 rfl (by decide) (hr _)
        · refine b_s (pc' := 36) (lv1 := [(0, bLg v0)]) (st' := [bLg v0]) l149_35 (fun _ => rfl) ?_
          refine b_l2i l149_36 (b_pc (pc' := 37) rfl ?_)
          refine b_cPz l149_37 rfl (fun _ => trivial) (Nat.le_of_ble_eq_true rfl) (Nat.le_of_ble_eq_true rfl) rfl (r_X11_isReference (b32 v0) (b32_R _)) fun w8 hw8 => b_pc (pc' := 40) rfl ?_
          refine b_zeq (pt := 47) l149_40 (bZ_R hw8) (by decide) rfl (fun c9 => ?_) (fun c9 => b_pc (pc' := 43) rfl ?_)
          · refine b_s (pc' := 48) (lv1 := [(0, bLg v0)]) (st' := [bI 0]) l149_47 (fun _ => rfl) ?_
            exact b_retz l149_48 rfl (by decide) (hr _)
          · refine b_s (pc' := 44) (lv1 := [(0, bLg v0)]) (st' := [bI 1]) l149_43 (fun _ => rfl) ?_
            refine b_s (pc' := 48) (lv1 := [(0, bLg v0)]) (st' := [bI 1]) l149_44 (fun _ => rfl) ?_
            exact b_retz l149_48 rfl (by decide) (hr _)
/-! ETModel.fits -/
theorem l150_0 : (ax_dt (ax_T 150)).lookup 0 = some (.iload_n 0, 1, 0, 0, 0) := by decide +kernel
theorem l150_1 : (ax_dt (ax_T 150)).lookup 1 = some (.lookupswitch 117 #[(5, 68), (6, 77), (11, 59), (12, 86), (15, 93), (25, 105)], 59, 0, 0, 0) := by decide +kernel
theorem l150_60 : (ax_dt (ax_T 150)).lookup 60 = some (.lload_n 1, 1, 0, 0, 0) := by decide +kernel
theorem l150_61 : (ax_dt (ax_T 150)).lookup 61 = some (.lconst 0, 1, 0, 0, 0) := by decide +kernel
theorem l150_62 : (ax_dt (ax_T 150)).lookup 62 = some (.ldc2_w 171, 3, 0, 0, 255) := by decide +kernel
theorem l150_65 : (ax_dt (ax_T 150)).lookup 65 = some (.invokestatic 131, 3, 133, 3, 0) := by decide +kernel
theorem l150_68 : (ax_dt (ax_T 150)).lookup 68 = some (.ireturn, 1, 0, 0, 0) := by decide +kernel
theorem l150_69 : (ax_dt (ax_T 150)).lookup 69 = some (.lload_n 1, 1, 0, 0, 0) := by decide +kernel
theorem l150_70 : (ax_dt (ax_T 150)).lookup 70 = some (.lconst 0, 1, 0, 0, 0) := by decide +kernel
theorem l150_71 : (ax_dt (ax_T 150)).lookup 71 = some (.ldc2_w 173, 3, 0, 0, 65535) := by decide +kernel
theorem l150_74 : (ax_dt (ax_T 150)).lookup 74 = some (.invokestatic 131, 3, 133, 3, 0) := by decide +kernel
theorem l150_77 : (ax_dt (ax_T 150)).lookup 77 = some (.ireturn, 1, 0, 0, 0) := by decide +kernel
theorem l150_78 : (ax_dt (ax_T 150)).lookup 78 = some (.lload_n 1, 1, 0, 0, 0) := by decide +kernel
theorem l150_79 : (ax_dt (ax_T 150)).lookup 79 = some (.lconst 0, 1, 0, 0, 0) := by decide +kernel
theorem l150_80 : (ax_dt (ax_T 150)).lookup 80 = some (.ldc2_w 175, 3, 0, 0, 4294967295) := by decide +kernel
theorem l150_83 : (ax_dt (ax_T 150)).lookup 83 = some (.invokestatic 131, 3, 133, 3, 0) := by decide +kernel
theorem l150_86 : (ax_dt (ax_T 150)).lookup 86 = some (.ireturn, 1, 0, 0, 0) := by decide +kernel
theorem l150_87 : (ax_dt (ax_T 150)).lookup 87 = some (.lload_n 1, 1, 0, 0, 0) := by decide +kernel
theorem l150_88 : (ax_dt (ax_T 150)).lookup 88 = some (.lconst 0, 1, 0, 0, 0) := by decide +kernel
theorem l150_89 : (ax_dt (ax_T 150)).lookup 89 = some (.lconst 1, 1, 0, 0, 0) := by decide +kernel
theorem l150_90 : (ax_dt (ax_T 150)).lookup 90 = some (.invokestatic 131, 3, 133, 3, 0) := by decide +kernel
theorem l150_93 : (ax_dt (ax_T 150)).lookup 93 = some (.ireturn, 1, 0, 0, 0) := by decide +kernel
theorem l150_94 : (ax_dt (ax_T 150)).lookup 94 = some (.lload_n 1, 1, 0, 0, 0) := by decide +kernel
theorem l150_95 : (ax_dt (ax_T 150)).lookup 95 = some (.lconst 0, 1, 0, 0, 0) := by decide +kernel
theorem l150_96 : (ax_dt (ax_T 150)).lookup 96 = some (.lcmp, 1, 0, 0, 0) := by decide +kernel
theorem l150_97 : (ax_dt (ax_T 150)).lookup 97 = some (.ifCond .lt 7, 3, 0, 0, 0) := by decide +kernel
theorem l150_100 : (ax_dt (ax_T 150)).lookup 100 = some (.iconst 1, 1, 0, 0, 0) := by decide +kernel
theorem l150_101 : (ax_dt (ax_T 150)).lookup 101 = some (.goto 4, 3, 0, 0, 0) := by decide +kernel
theorem l150_104 : (ax_dt (ax_T 150)).lookup 104 = some (.iconst 0, 1, 0, 0, 0) := by decide +kernel
theorem l150_105 : (ax_dt (ax_T 150)).lookup 105 = some (.ireturn, 1, 0, 0, 0) := by decide +kernel
theorem l150_106 : (ax_dt (ax_T 150)).lookup 106 = some (.lload_n 1, 1, 0, 0, 0) := by decide +kernel
theorem l150_107 : (ax_dt (ax_T 150)).lookup 107 = some (.lconst 1, 1, 0, 0, 0) := by decide +kernel
theorem l150_108 : (ax_dt (ax_T 150)).lookup 108 = some (.lcmp, 1, 0, 0, 0) := by decide +kernel
theorem l150_109 : (ax_dt (ax_T 150)).lookup 109 = some (.ifCond .ne 7, 3, 0, 0, 0) := by decide +kernel
theorem l150_112 : (ax_dt (ax_T 150)).lookup 112 = some (.iconst 1, 1, 0, 0, 0) := by decide +kernel
theorem l150_113 : (ax_dt (ax_T 150)).lookup 113 = some (.goto 4, 3, 0, 0, 0) := by decide +kernel
theorem l150_116 : (ax_dt (ax_T 150)).lookup 116 = some (.iconst 0, 1, 0, 0, 0) := by decide +kernel
theorem l150_117 : (ax_dt (ax_T 150)).lookup 117 = some (.ireturn, 1, 0, 0, 0) := by decide +kernel
theorem l150_118 : (ax_dt (ax_T 150)).lookup 118 = some (.iconst 1, 1, 0, 0, 0) := by decide +kernel
theorem l150_119 : (ax_dt (ax_T 150)).lookup 119 = some (.ireturn, 1, 0, 0, 0) := by decide +kernel
noncomputable def F_X11_fits (v0 : Int) (v1 : Int) (μ : bM) : Option (Int) := if v0 = 5 then (F_X11_in v1 0 65535 μ).bind fun w1 => some (w1) else if v0 = 6 then (F_X11_in v1 0 4294967295 μ).bind fun w2 => some (w2) else if v0 = 11 then (F_X11_in v1 0 255 μ).bind fun w3 => some (w3) else if v0 = 12 then (F_X11_in v1 0 1 μ).bind fun w4 => some (w4) else if v0 = 15 then if (bCmp v1 0) < 0 then some (0) else some (1) else if v0 = 25 then if ¬ (bCmp v1 1) = 0 then some (0) else some (1) else some (1)
theorem r_X11_fits {L : Nat} {xs : Nat → Int32} {d : Nat} {μ : bM}  (v0 : Int) (h0 : bR v0) (v1 : Int) (h1 : bRL v1) : bD L xs (d + 1) 150 0 [(0, bI v0), (1, bLg v1)] [] μ ((F_X11_fits v0 v1 μ).bind (bPc μ)) := by
  have hr : ∀ r, (bPc μ) r = (bPc μ) r := fun _ => rfl
  unfold F_X11_fits
  refine bD.ok fun hk => ?_
  refine b_s (pc' := 1) (lv1 := [(0, bI v0), (1, bLg v1)]) (st' := [bI v0]) l150_0 (fun _ => rfl) ?_
  refine b_lsw l150_1 h0 (by decide) (by decide) (by decide) ?_
  refine b_pc (pc' := bTg [(5, 69), (6, 78), (11, 60), (12, 87), (15, 94), (25, 106)] 118 v0) rfl ?_
  refine b_tg (fun c12 => ?_) (fun c12 => ?_)
  · refine b_s (pc' := 70) (lv1 := [(0, bI v0), (1, bLg v1)]) (st' := [bLg v1]) l150_69 (fun _ => rfl) ?_
    refine b_lconst (e := 0) l150_70 (by decide) (b_pc (pc' := 71) rfl ?_)
    refine b_s (pc' := 74) (lv1 := [(0, bI v0), (1, bLg v1)]) (st' := [bLg 65535, bLg 0, bLg v1]) l150_71 (fun _ => rfl) ?_
    refine b_cPz l150_74 rfl (fun _ => trivial) (Nat.le_of_ble_eq_true rfl) (Nat.le_of_ble_eq_true rfl) rfl (r_X11_in v1 h1 0 (by decide) 65535 (by decide)) fun w1 hw1 => b_pc (pc' := 77) rfl ?_
    exact b_retz l150_77 rfl hw1 (hr _)
  · refine b_tg (fun c11 => ?_) (fun c11 => ?_)
    · refine b_s (pc' := 79) (lv1 := [(0, bI v0), (1, bLg v1)]) (st' := [bLg v1]) l150_78 (fun _ => rfl) ?_
      refine b_lconst (e := 0) l150_79 (by decide) (b_pc (pc' := 80) rfl ?_)
      refine b_s (pc' := 83) (lv1 := [(0, bI v0), (1, bLg v1)]) (st' := [bLg 4294967295, bLg 0, bLg v1]) l150_80 (fun _ => rfl) ?_
      refine b_cPz l150_83 rfl (fun _ => trivial) (Nat.le_of_ble_eq_true rfl) (Nat.le_of_ble_eq_true rfl) rfl (r_X11_in v1 h1 0 (by decide) 4294967295 (by decide)) fun w2 hw2 => b_pc (pc' := 86) rfl ?_
      exact b_retz l150_86 rfl hw2 (hr _)
    · refine b_tg (fun c10 => ?_) (fun c10 => ?_)
      · refine b_s (pc' := 61) (lv1 := [(0, bI v0), (1, bLg v1)]) (st' := [bLg v1]) l150_60 (fun _ => rfl) ?_
        refine b_lconst (e := 0) l150_61 (by decide) (b_pc (pc' := 62) rfl ?_)
        refine b_s (pc' := 65) (lv1 := [(0, bI v0), (1, bLg v1)]) (st' := [bLg 255, bLg 0, bLg v1]) l150_62 (fun _ => rfl) ?_
        refine b_cPz l150_65 rfl (fun _ => trivial) (Nat.le_of_ble_eq_true rfl) (Nat.le_of_ble_eq_true rfl) rfl (r_X11_in v1 h1 0 (by decide) 255 (by decide)) fun w3 hw3 => b_pc (pc' := 68) rfl ?_
        exact b_retz l150_68 rfl hw3 (hr _)
      · refine b_tg (fun c9 => ?_) (fun c9 => ?_)
        · refine b_s (pc' := 88) (lv1 := [(0, bI v0), (1, bLg v1)]) (st' := [bLg v1]) l150_87 (fun _ => rfl) ?_
          refine b_lconst (e := 0) l150_88 (by decide) (b_pc (pc' := 89) rfl ?_)
          refine b_lconst (e := 1) l150_89 (by decide) (b_pc (pc' := 90) rfl ?_)
          refine b_cPz l150_90 rfl (fun _ => trivial) (Nat.le_of_ble_eq_true rfl) (Nat.le_of_ble_eq_true rfl) rfl (r_X11_in v1 h1 0 (by decide) 1 (by decide)) fun w4 hw4 => b_pc (pc' := 93) rfl ?_
          exact b_retz l150_93 rfl hw4 (hr _)
        · refine b_tg (fun c8 => ?_) (fun c8 => ?_)
          · refine b_s (pc' := 95) (lv1 := [(0, bI v0), (1, bLg v1)]) (st' := [bLg v1]) l150_94 (fun _ => rfl) ?_
            refine b_lconst (e := 0) l150_95 (by decide) (b_pc (pc' := 96) rfl ?_)
            refine b_lcmp l150_96 h1 (by decide) (b_pc (pc' := 97) rfl ?_)
            refine b_zlt (pt := 104) l150_97 (bCmp_R _ _) (by decide) rfl (fun c5 => ?_) (fun c5 => b_pc (pc' := 100) rfl ?_)
            · refine b_s (pc' := 105) (lv1 := [(0, bI v0), (1, bLg v1)]) (st' := [bI 0]) l150_104 (fun _ => rfl) ?_
              exact b_retz l150_105 rfl (by decide) (hr _)
            · refine b_s (pc' := 101) (lv1 := [(0, bI v0), (1, bLg v1)]) (st' := [bI 1]) l150_100 (fun _ => rfl) ?_
              refine b_s (pc' := 105) (lv1 := [(0, bI v0), (1, bLg v1)]) (st' := [bI 1]) l150_101 (fun _ => rfl) ?_
              exact b_retz l150_105 rfl (by decide) (hr _)
          · refine b_tg (fun c7 => ?_) (fun c7 => ?_)
            · refine b_s (pc' := 107) (lv1 := [(0, bI v0), (1, bLg v1)]) (st' := [bLg v1]) l150_106 (fun _ => rfl) ?_
              refine b_lconst (e := 1) l150_107 (by decide) (b_pc (pc' := 108) rfl ?_)
              refine b_lcmp l150_108 h1 (by decide) (b_pc (pc' := 109) rfl ?_)
              refine b_zne (pt := 116) l150_109 (bCmp_R _ _) (by decide) rfl (fun c6 => ?_) (fun c6 => b_pc (pc' := 112) rfl ?_)
              · refine b_s (pc' := 117) (lv1 := [(0, bI v0), (1, bLg v1)]) (st' := [bI 0]) l150_116 (fun _ => rfl) ?_
                exact b_retz l150_117 rfl (by decide) (hr _)
              · refine b_s (pc' := 113) (lv1 := [(0, bI v0), (1, bLg v1)]) (st' := [bI 1]) l150_112 (fun _ => rfl) ?_
                refine b_s (pc' := 117) (lv1 := [(0, bI v0), (1, bLg v1)]) (st' := [bI 1]) l150_113 (fun _ => rfl) ?_
                exact b_retz l150_117 rfl (by decide) (hr _)
            · refine b_pc (pc' := 118) rfl ?_
              refine b_s (pc' := 119) (lv1 := [(0, bI v0), (1, bLg v1)]) (st' := [bI 1]) l150_118 (fun _ => rfl) ?_
              exact b_retz l150_119 rfl (by decide) (hr _)
/-! ETModel.isTold -/
theorem l151_0 : (ax_dt (ax_T 151)).lookup 0 = some (.aload_n 0, 1, 0, 0, 0) := by decide +kernel
theorem l151_1 : (ax_dt (ax_T 151)).lookup 1 = some (.iload_n 1, 1, 0, 0, 0) := by decide +kernel
theorem l151_2 : (ax_dt (ax_T 151)).lookup 2 = some (.invokevirtual 140, 3, 140, 1, 0) := by decide +kernel
theorem l151_5 : (ax_dt (ax_T 151)).lookup 5 = some (.istore_n 3, 1, 0, 0, 0) := by decide +kernel
theorem l151_6 : (ax_dt (ax_T 151)).lookup 6 = some (.iconst 0, 1, 0, 0, 0) := by decide +kernel
theorem l151_7 : (ax_dt (ax_T 151)).lookup 7 = some (.istore 4, 2, 0, 0, 0) := by decide +kernel
theorem l151_9 : (ax_dt (ax_T 151)).lookup 9 = some (.iconst 0, 1, 0, 0, 0) := by decide +kernel
theorem l151_10 : (ax_dt (ax_T 151)).lookup 10 = some (.istore 5, 2, 0, 0, 0) := by decide +kernel
theorem l151_12 : (ax_dt (ax_T 151)).lookup 12 = some (.iload 5, 2, 0, 0, 0) := by decide +kernel
theorem l151_14 : (ax_dt (ax_T 151)).lookup 14 = some (.aload_n 0, 1, 0, 0, 0) := by decide +kernel
theorem l151_15 : (ax_dt (ax_T 151)).lookup 15 = some (.getfield 32, 3, 9, 10, 0) := by decide +kernel
theorem l151_18 : (ax_dt (ax_T 151)).lookup 18 = some (.iload_n 3, 1, 0, 0, 0) := by decide +kernel
theorem l151_19 : (ax_dt (ax_T 151)).lookup 19 = some (.iaload, 1, 0, 0, 0) := by decide +kernel
theorem l151_20 : (ax_dt (ax_T 151)).lookup 20 = some (.if_icmp .ge 37, 3, 0, 0, 0) := by decide +kernel
theorem l151_23 : (ax_dt (ax_T 151)).lookup 23 = some (.iload 4, 2, 0, 0, 0) := by decide +kernel
theorem l151_25 : (ax_dt (ax_T 151)).lookup 25 = some (.ifCond .ne 19, 3, 0, 0, 0) := by decide +kernel
theorem l151_28 : (ax_dt (ax_T 151)).lookup 28 = some (.aload_n 0, 1, 0, 0, 0) := by decide +kernel
theorem l151_29 : (ax_dt (ax_T 151)).lookup 29 = some (.getfield 35, 3, 9, 11, 0) := by decide +kernel
theorem l151_32 : (ax_dt (ax_T 151)).lookup 32 = some (.bipush 8, 2, 0, 0, 0) := by decide +kernel
theorem l151_34 : (ax_dt (ax_T 151)).lookup 34 = some (.iload_n 3, 1, 0, 0, 0) := by decide +kernel
theorem l151_35 : (ax_dt (ax_T 151)).lookup 35 = some (.imul, 1, 0, 0, 0) := by decide +kernel
theorem l151_36 : (ax_dt (ax_T 151)).lookup 36 = some (.iload 5, 2, 0, 0, 0) := by decide +kernel
theorem l151_38 : (ax_dt (ax_T 151)).lookup 38 = some (.iadd, 1, 0, 0, 0) := by decide +kernel
theorem l151_39 : (ax_dt (ax_T 151)).lookup 39 = some (.iaload, 1, 0, 0, 0) := by decide +kernel
theorem l151_40 : (ax_dt (ax_T 151)).lookup 40 = some (.iload_n 2, 1, 0, 0, 0) := by decide +kernel
theorem l151_41 : (ax_dt (ax_T 151)).lookup 41 = some (.if_icmp .ne 7, 3, 0, 0, 0) := by decide +kernel
theorem l151_44 : (ax_dt (ax_T 151)).lookup 44 = some (.iconst 1, 1, 0, 0, 0) := by decide +kernel
theorem l151_45 : (ax_dt (ax_T 151)).lookup 45 = some (.goto 4, 3, 0, 0, 0) := by decide +kernel
theorem l151_48 : (ax_dt (ax_T 151)).lookup 48 = some (.iconst 0, 1, 0, 0, 0) := by decide +kernel
theorem l151_49 : (ax_dt (ax_T 151)).lookup 49 = some (.istore 4, 2, 0, 0, 0) := by decide +kernel
theorem l151_51 : (ax_dt (ax_T 151)).lookup 51 = some (.iinc 5 1, 3, 0, 0, 0) := by decide +kernel
theorem l151_54 : (ax_dt (ax_T 151)).lookup 54 = some (.goto (-42), 3, 0, 0, 0) := by decide +kernel
theorem l151_57 : (ax_dt (ax_T 151)).lookup 57 = some (.iload 4, 2, 0, 0, 0) := by decide +kernel
theorem l151_59 : (ax_dt (ax_T 151)).lookup 59 = some (.ireturn, 1, 0, 0, 0) := by decide +kernel
noncomputable def F_X11_isTold_12 (v2 : Int) (v3 : Int) (μ : bM) (v4 : Int) (v5 : Int) : Option ((Int × Int) ⊕ (Int)) := bG (0 ≤ v3 ∧ v3 < 800) (if (μ 84 v3.toNat) ≤ v5 then bG (0 ≤ v4 ∧ v4 ≤ 1) (some (.inr (v4))) else if ¬ v4 = 0 then bG (bR (v5 + 1)) (some (.inl (1, (v5 + 1)))) else bG (bR (8 * v3)) (bG (bR ((8 * v3) + v5)) (bG (0 ≤ ((8 * v3) + v5) ∧ ((8 * v3) + v5) < 6400) (if ¬ (μ 85 ((8 * v3) + v5).toNat) = v2 then bG (bR (v5 + 1)) (some (.inl (0, (v5 + 1)))) else bG (bR (v5 + 1)) (some (.inl (1, (v5 + 1))))))))
noncomputable def F_X11_isTold (v1 : Int) (v2 : Int) (μ : bM) : Option (Int) := (F_X11_at v1 μ).bind fun w1 => bLoop (fun z => F_X11_isTold_12 v2 w1 μ z.1 z.2) (0, 0)
theorem q_X11_isTold_12 {L : Nat} {xs : Nat → Int32} {d : Nat} {μ : bM} {v2 : Int} {v3 : Int} {κ : ((Int × Int) ⊕ (Int)) → Option bX} (hr : ∀ r : Int, κ (.inr r) = (bPc μ) r) (H12 : ∀ (v4 : Int) (v5 : Int), bR v4 → bR v5 → bD L xs (d + 1) 151 12 [(0, .ref 76), (2, bI v2), (3, bI v3), (4, bI v4), (5, bI v5)] [] μ (κ (.inl (v4, v5))))  (h2 : bR v2) (h3 : bR v3) {v4 : Int} (h4 : bR v4) {v5 : Int} (h5 : bR v5) : bD L xs (d + 1) 151 12 [(0, .ref 76), (2, bI v2), (3, bI v3), (4, bI v4), (5, bI v5)] [] μ ((F_X11_isTold_12 v2 v3 μ v4 v5).bind κ) := by
  unfold F_X11_isTold_12
  refine bD.ok fun hk => ?_
  refine b_s (pc' := 14) (lv1 := [(0, .ref 76), (2, bI v2), (3, bI v3), (4, bI v4), (5, bI v5)]) (st' := [bI v5]) l151_12 (fun _ => rfl) ?_
  refine b_s (pc' := 15) (lv1 := [(0, .ref 76), (2, bI v2), (3, bI v3), (4, bI v4), (5, bI v5)]) (st' := [.ref 76, bI v5]) l151_14 (fun _ => rfl) ?_
  refine b_gp (q' := 84) (j := 8) l151_15 (by rfl) (by decide) (by decide) rfl hk rfl rfl (b_pc (pc' := 18) rfl ?_)
  refine b_s (pc' := 19) (lv1 := [(0, .ref 76), (2, bI v2), (3, bI v3), (4, bI v4), (5, bI v5)]) (st' := [bI v3, .ref 84, bI v5]) l151_18 (fun _ => rfl) ?_
  refine b_g fun g11 => ?_
  refine b_ial l151_19 (by rfl) g11 (b_pc (pc' := 20) rfl ?_)
  refine b_ige (pt := 57) l151_20 h5 (bO_i hk (by rfl)) (by decide) rfl (fun c1 => ?_) (fun c1 => b_pc (pc' := 23) rfl ?_)
  · refine b_s (pc' := 59) (lv1 := [(0, .ref 76), (2, bI v2), (3, bI v3), (4, bI v4), (5, bI v5)]) (st' := [bI v4]) l151_57 (fun _ => rfl) ?_
    refine b_g fun g2 => ?_
    exact b_retz l151_59 rfl g2 (hr _)
  · refine b_s (pc' := 25) (lv1 := [(0, .ref 76), (2, bI v2), (3, bI v3), (4, bI v4), (5, bI v5)]) (st' := [bI v4]) l151_23 (fun _ => rfl) ?_
    refine b_zne (pt := 44) l151_25 h4 (by decide) rfl (fun c3 => ?_) (fun c3 => b_pc (pc' := 28) rfl ?_)
    · refine b_s (pc' := 45) (lv1 := [(0, .ref 76), (2, bI v2), (3, bI v3), (4, bI v4), (5, bI v5)]) (st' := [bI 1]) l151_44 (fun _ => rfl) ?_
      refine b_s (pc' := 49) (lv1 := [(0, .ref 76), (2, bI v2), (3, bI v3), (4, bI v4), (5, bI v5)]) (st' := [bI 1]) l151_45 (fun _ => rfl) ?_
      refine b_w (pc' := 51) (lv1 := ax_st1 [(0, .ref 76), (2, bI v2), (3, bI v3), (4, bI v4), (5, bI v5)] 4 (bI 1)) (lv' := [(0, .ref 76), (2, bI v2), (3, bI v3), (4, bI 1), (5, bI v5)]) (st' := []) l151_49 (fun _ => rfl) (bSb rfl (bSb rfl (bSb rfl (bSb rfl (bSb rfl bSn))))) ?_
      refine b_inc (lv' := [(0, .ref 76), (2, bI v2), (3, bI v3), (4, bI 1), (5, bI (v5 + 1))]) l151_51 rfl (by decide +kernel) (bSb rfl (bSb rfl (bSb rfl (bSb rfl (bSb rfl bSn))))) fun g4 => (b_pc (pc' := 54) rfl ?_)
      refine b_s (pc' := 12) (lv1 := [(0, .ref 76), (2, bI v2), (3, bI v3), (4, bI 1), (5, bI (v5 + 1))]) (st' := []) l151_54 (fun _ => rfl) ?_
      refine bD.wk (lv' := [(0, .ref 76), (2, bI v2), (3, bI v3), (4, bI 1), (5, bI (v5 + 1))]) (bSb rfl (bSb rfl (bSb rfl (bSb rfl (bSb rfl bSn))))) ?_
      exact H12 1 (v5 + 1) (by decide) g4
    · refine b_s (pc' := 29) (lv1 := [(0, .ref 76), (2, bI v2), (3, bI v3), (4, bI v4), (5, bI v5)]) (st' := [.ref 76]) l151_28 (fun _ => rfl) ?_
      refine b_gp (q' := 85) (j := 9) l151_29 (by rfl) (by decide) (by decide) rfl hk rfl rfl (b_pc (pc' := 32) rfl ?_)
      refine b_bipush l151_32 (by decide) (b_pc (pc' := 34) rfl ?_)
      refine b_s (pc' := 35) (lv1 := [(0, .ref 76), (2, bI v2), (3, bI v3), (4, bI v4), (5, bI v5)]) (st' := [bI v3, bI 8, .ref 85]) l151_34 (fun _ => rfl) ?_
      refine b_imul l151_35 fun g5 => (b_pc (pc' := 36) rfl ?_)
      refine b_s (pc' := 38) (lv1 := [(0, .ref 76), (2, bI v2), (3, bI v3), (4, bI v4), (5, bI v5)]) (st' := [bI v5, bI (8 * v3), .ref 85]) l151_36 (fun _ => rfl) ?_
      refine b_iadd l151_38 fun g6 => (b_pc (pc' := 39) rfl ?_)
      refine b_g fun g10 => ?_
      refine b_ial l151_39 (by rfl) g10 (b_pc (pc' := 40) rfl ?_)
      refine b_s (pc' := 41) (lv1 := [(0, .ref 76), (2, bI v2), (3, bI v3), (4, bI v4), (5, bI v5)]) (st' := [bI v2, bI (μ 85 ((8 * v3) + v5).toNat)]) l151_40 (fun _ => rfl) ?_
      refine b_ine (pt := 48) l151_41 (bO_i hk (by rfl)) h2 (by decide) rfl (fun c7 => ?_) (fun c7 => b_pc (pc' := 44) rfl ?_)
      · refine b_s (pc' := 49) (lv1 := [(0, .ref 76), (2, bI v2), (3, bI v3), (4, bI v4), (5, bI v5)]) (st' := [bI 0]) l151_48 (fun _ => rfl) ?_
        refine b_w (pc' := 51) (lv1 := ax_st1 [(0, .ref 76), (2, bI v2), (3, bI v3), (4, bI v4), (5, bI v5)] 4 (bI 0)) (lv' := [(0, .ref 76), (2, bI v2), (3, bI v3), (4, bI 0), (5, bI v5)]) (st' := []) l151_49 (fun _ => rfl) (bSb rfl (bSb rfl (bSb rfl (bSb rfl (bSb rfl bSn))))) ?_
        refine b_inc (lv' := [(0, .ref 76), (2, bI v2), (3, bI v3), (4, bI 0), (5, bI (v5 + 1))]) l151_51 rfl (by decide +kernel) (bSb rfl (bSb rfl (bSb rfl (bSb rfl (bSb rfl bSn))))) fun g8 => (b_pc (pc' := 54) rfl ?_)
        refine b_s (pc' := 12) (lv1 := [(0, .ref 76), (2, bI v2), (3, bI v3), (4, bI 0), (5, bI (v5 + 1))]) (st' := []) l151_54 (fun _ => rfl) ?_
        refine bD.wk (lv' := [(0, .ref 76), (2, bI v2), (3, bI v3), (4, bI 0), (5, bI (v5 + 1))]) (bSb rfl (bSb rfl (bSb rfl (bSb rfl (bSb rfl bSn))))) ?_
        exact H12 0 (v5 + 1) (by decide) g8
      · refine b_s (pc' := 45) (lv1 := [(0, .ref 76), (2, bI v2), (3, bI v3), (4, bI v4), (5, bI v5)]) (st' := [bI 1]) l151_44 (fun _ => rfl) ?_
        refine b_s (pc' := 49) (lv1 := [(0, .ref 76), (2, bI v2), (3, bI v3), (4, bI v4), (5, bI v5)]) (st' := [bI 1]) l151_45 (fun _ => rfl) ?_
        refine b_w (pc' := 51) (lv1 := ax_st1 [(0, .ref 76), (2, bI v2), (3, bI v3), (4, bI v4), (5, bI v5)] 4 (bI 1)) (lv' := [(0, .ref 76), (2, bI v2), (3, bI v3), (4, bI 1), (5, bI v5)]) (st' := []) l151_49 (fun _ => rfl) (bSb rfl (bSb rfl (bSb rfl (bSb rfl (bSb rfl bSn))))) ?_
        refine b_inc (lv' := [(0, .ref 76), (2, bI v2), (3, bI v3), (4, bI 1), (5, bI (v5 + 1))]) l151_51 rfl (by decide +kernel) (bSb rfl (bSb rfl (bSb rfl (bSb rfl (bSb rfl bSn))))) fun g9 => (b_pc (pc' := 54) rfl ?_)
        refine b_s (pc' := 12) (lv1 := [(0, .ref 76), (2, bI v2), (3, bI v3), (4, bI 1), (5, bI (v5 + 1))]) (st' := []) l151_54 (fun _ => rfl) ?_
        refine bD.wk (lv' := [(0, .ref 76), (2, bI v2), (3, bI v3), (4, bI 1), (5, bI (v5 + 1))]) (bSb rfl (bSb rfl (bSb rfl (bSb rfl (bSb rfl bSn))))) ?_
        exact H12 1 (v5 + 1) (by decide) g9
theorem p_X11_isTold_12 {L : Nat} {xs : Nat → Int32} {d : Nat} {μ : bM}  {κ : (Int) → Option bX} (hr : ∀ r : Int, κ r = (bPc μ) r)  {v2 : Int} (h2 : bR v2) {v3 : Int} (h3 : bR v3) {v4 : Int} (h4 : bR v4) {v5 : Int} (h5 : bR v5) : bD L xs (d + 1) 151 12 [(0, .ref 76), (2, bI v2), (3, bI v3), (4, bI v4), (5, bI v5)] [] μ ((bLoop (fun z => F_X11_isTold_12 v2 v3 μ z.1 z.2) (v4, v5)).bind κ) :=
  b_loop (fun z => [(0, .ref 76), (2, bI v2), (3, bI v3), (4, bI z.1), (5, bI z.2)]) (fun z => μ) (fun z => bR z.1 ∧ bR z.2) (fun κ' hκ HH z hz => q_X11_isTold_12 (κ := κ') (fun r => (hκ _).trans (hr r)) (fun a4 a5 b4 b5 => HH (a4, a5) ⟨b4, b5⟩)  h2 h3 hz.1 hz.2) (v4, v5) ⟨h4, h5⟩
theorem r_X11_isTold {L : Nat} {xs : Nat → Int32} {d : Nat} {μ : bM}  (v1 : Int) (h1 : bR v1) (v2 : Int) (h2 : bR v2) : bD L xs (d + 1) 151 0 [(0, .ref 76), (1, bI v1), (2, bI v2)] [] μ ((F_X11_isTold v1 v2 μ).bind (bPc μ)) := by
  have hr : ∀ r, (bPc μ) r = (bPc μ) r := fun _ => rfl
  unfold F_X11_isTold
  refine bD.ok fun hk => ?_
  refine b_s (pc' := 1) (lv1 := [(0, .ref 76), (1, bI v1), (2, bI v2)]) (st' := [.ref 76]) l151_0 (fun _ => rfl) ?_
  refine b_s (pc' := 2) (lv1 := [(0, .ref 76), (1, bI v1), (2, bI v2)]) (st' := [bI v1, .ref 76]) l151_1 (fun _ => rfl) ?_
  refine b_cPi l151_2 rfl (b_rc (ci := 9) (by rfl) (by decide) (by decide +kernel)) (Nat.le_of_ble_eq_true rfl) (Nat.le_of_ble_eq_true rfl) rfl (r_X11_at v1 h1) fun w1 hw1 => b_pc (pc' := 5) rfl ?_
  refine b_w (pc' := 6) (lv1 := ax_st1 [(0, .ref 76), (1, bI v1), (2, bI v2)] 3 (bI w1)) (lv' := [(0, .ref 76), (2, bI v2), (3, bI w1)]) (st' := []) l151_5 (fun _ => rfl) (bSb rfl (bSb rfl (bSb rfl bSn))) ?_
  refine b_s (pc' := 7) (lv1 := [(0, .ref 76), (2, bI v2), (3, bI w1)]) (st' := [bI 0]) l151_6 (fun _ => rfl) ?_
  refine b_w (pc' := 9) (lv1 := ax_st1 [(0, .ref 76), (2, bI v2), (3, bI w1)] 4 (bI 0)) (lv' := [(0, .ref 76), (2, bI v2), (3, bI w1), (4, bI 0)]) (st' := []) l151_7 (fun _ => rfl) (bSb rfl (bSb rfl (bSb rfl (bSb rfl bSn)))) ?_
  refine b_s (pc' := 10) (lv1 := [(0, .ref 76), (2, bI v2), (3, bI w1), (4, bI 0)]) (st' := [bI 0]) l151_9 (fun _ => rfl) ?_
  refine b_w (pc' := 12) (lv1 := ax_st1 [(0, .ref 76), (2, bI v2), (3, bI w1), (4, bI 0)] 5 (bI 0)) (lv' := [(0, .ref 76), (2, bI v2), (3, bI w1), (4, bI 0), (5, bI 0)]) (st' := []) l151_10 (fun _ => rfl) (bSb rfl (bSb rfl (bSb rfl (bSb rfl (bSb rfl bSn))))) ?_
  refine bD.wk (lv' := [(0, .ref 76), (2, bI v2), (3, bI w1), (4, bI 0), (5, bI 0)]) (bSb rfl (bSb rfl (bSb rfl (bSb rfl (bSb rfl bSn))))) ?_
  exact p_X11_isTold_12 hr h2 hw1 (by decide) (by decide)
/-! ETModel.add -/
theorem l152_0 : (ax_dt (ax_T 152)).lookup 0 = some (.aload_n 0, 1, 0, 0, 0) := by decide +kernel
theorem l152_1 : (ax_dt (ax_T 152)).lookup 1 = some (.iload_n 1, 1, 0, 0, 0) := by decide +kernel
theorem l152_2 : (ax_dt (ax_T 152)).lookup 2 = some (.invokevirtual 140, 3, 140, 1, 0) := by decide +kernel
theorem l152_5 : (ax_dt (ax_T 152)).lookup 5 = some (.istore 6, 2, 0, 0, 0) := by decide +kernel
theorem l152_7 : (ax_dt (ax_T 152)).lookup 7 = some (.bipush 8, 2, 0, 0, 0) := by decide +kernel
theorem l152_9 : (ax_dt (ax_T 152)).lookup 9 = some (.iload 6, 2, 0, 0, 0) := by decide +kernel
theorem l152_11 : (ax_dt (ax_T 152)).lookup 11 = some (.imul, 1, 0, 0, 0) := by decide +kernel
theorem l152_12 : (ax_dt (ax_T 152)).lookup 12 = some (.aload_n 0, 1, 0, 0, 0) := by decide +kernel
theorem l152_13 : (ax_dt (ax_T 152)).lookup 13 = some (.getfield 32, 3, 9, 10, 0) := by decide +kernel
theorem l152_16 : (ax_dt (ax_T 152)).lookup 16 = some (.iload 6, 2, 0, 0, 0) := by decide +kernel
theorem l152_18 : (ax_dt (ax_T 152)).lookup 18 = some (.iaload, 1, 0, 0, 0) := by decide +kernel
theorem l152_19 : (ax_dt (ax_T 152)).lookup 19 = some (.iadd, 1, 0, 0, 0) := by decide +kernel
theorem l152_20 : (ax_dt (ax_T 152)).lookup 20 = some (.istore 7, 2, 0, 0, 0) := by decide +kernel
theorem l152_22 : (ax_dt (ax_T 152)).lookup 22 = some (.aload_n 0, 1, 0, 0, 0) := by decide +kernel
theorem l152_23 : (ax_dt (ax_T 152)).lookup 23 = some (.getfield 35, 3, 9, 11, 0) := by decide +kernel
theorem l152_26 : (ax_dt (ax_T 152)).lookup 26 = some (.iload 7, 2, 0, 0, 0) := by decide +kernel
theorem l152_28 : (ax_dt (ax_T 152)).lookup 28 = some (.iload_n 2, 1, 0, 0, 0) := by decide +kernel
theorem l152_29 : (ax_dt (ax_T 152)).lookup 29 = some (.iastore, 1, 0, 0, 0) := by decide +kernel
theorem l152_30 : (ax_dt (ax_T 152)).lookup 30 = some (.aload_n 0, 1, 0, 0, 0) := by decide +kernel
theorem l152_31 : (ax_dt (ax_T 152)).lookup 31 = some (.getfield 38, 3, 9, 12, 0) := by decide +kernel
theorem l152_34 : (ax_dt (ax_T 152)).lookup 34 = some (.iload 7, 2, 0, 0, 0) := by decide +kernel
theorem l152_36 : (ax_dt (ax_T 152)).lookup 36 = some (.iload_n 3, 1, 0, 0, 0) := by decide +kernel
theorem l152_37 : (ax_dt (ax_T 152)).lookup 37 = some (.iastore, 1, 0, 0, 0) := by decide +kernel
theorem l152_38 : (ax_dt (ax_T 152)).lookup 38 = some (.aload_n 0, 1, 0, 0, 0) := by decide +kernel
theorem l152_39 : (ax_dt (ax_T 152)).lookup 39 = some (.getfield 41, 3, 9, 13, 0) := by decide +kernel
theorem l152_42 : (ax_dt (ax_T 152)).lookup 42 = some (.iload 7, 2, 0, 0, 0) := by decide +kernel
theorem l152_44 : (ax_dt (ax_T 152)).lookup 44 = some (.lload 4, 2, 0, 0, 0) := by decide +kernel
theorem l152_46 : (ax_dt (ax_T 152)).lookup 46 = some (.lastore, 1, 0, 0, 0) := by decide +kernel
theorem l152_47 : (ax_dt (ax_T 152)).lookup 47 = some (.aload_n 0, 1, 0, 0, 0) := by decide +kernel
theorem l152_48 : (ax_dt (ax_T 152)).lookup 48 = some (.getfield 45, 3, 9, 14, 0) := by decide +kernel
theorem l152_51 : (ax_dt (ax_T 152)).lookup 51 = some (.iload 7, 2, 0, 0, 0) := by decide +kernel
theorem l152_53 : (ax_dt (ax_T 152)).lookup 53 = some (.iconst 0, 1, 0, 0, 0) := by decide +kernel
theorem l152_54 : (ax_dt (ax_T 152)).lookup 54 = some (.iastore, 1, 0, 0, 0) := by decide +kernel
theorem l152_55 : (ax_dt (ax_T 152)).lookup 55 = some (.aload_n 0, 1, 0, 0, 0) := by decide +kernel
theorem l152_56 : (ax_dt (ax_T 152)).lookup 56 = some (.getfield 48, 3, 9, 15, 0) := by decide +kernel
theorem l152_59 : (ax_dt (ax_T 152)).lookup 59 = some (.iload 7, 2, 0, 0, 0) := by decide +kernel
theorem l152_61 : (ax_dt (ax_T 152)).lookup 61 = some (.iconst 0, 1, 0, 0, 0) := by decide +kernel
theorem l152_62 : (ax_dt (ax_T 152)).lookup 62 = some (.iastore, 1, 0, 0, 0) := by decide +kernel
theorem l152_63 : (ax_dt (ax_T 152)).lookup 63 = some (.aload_n 0, 1, 0, 0, 0) := by decide +kernel
theorem l152_64 : (ax_dt (ax_T 152)).lookup 64 = some (.getfield 32, 3, 9, 10, 0) := by decide +kernel
theorem l152_67 : (ax_dt (ax_T 152)).lookup 67 = some (.iload 6, 2, 0, 0, 0) := by decide +kernel
theorem l152_69 : (ax_dt (ax_T 152)).lookup 69 = some (.dup2, 1, 0, 0, 0) := by decide +kernel
theorem l152_70 : (ax_dt (ax_T 152)).lookup 70 = some (.iaload, 1, 0, 0, 0) := by decide +kernel
theorem l152_71 : (ax_dt (ax_T 152)).lookup 71 = some (.iconst 1, 1, 0, 0, 0) := by decide +kernel
theorem l152_72 : (ax_dt (ax_T 152)).lookup 72 = some (.iadd, 1, 0, 0, 0) := by decide +kernel
theorem l152_73 : (ax_dt (ax_T 152)).lookup 73 = some (.iastore, 1, 0, 0, 0) := by decide +kernel
theorem l152_74 : (ax_dt (ax_T 152)).lookup 74 = some (.aload_n 0, 1, 0, 0, 0) := by decide +kernel
theorem l152_75 : (ax_dt (ax_T 152)).lookup 75 = some (.getfield 32, 3, 9, 10, 0) := by decide +kernel
theorem l152_78 : (ax_dt (ax_T 152)).lookup 78 = some (.iload 6, 2, 0, 0, 0) := by decide +kernel
theorem l152_80 : (ax_dt (ax_T 152)).lookup 80 = some (.iaload, 1, 0, 0, 0) := by decide +kernel
theorem l152_81 : (ax_dt (ax_T 152)).lookup 81 = some (.ireturn, 1, 0, 0, 0) := by decide +kernel
noncomputable def F_X11_add (v1 : Int) (v2 : Int) (v3 : Int) (v4 : Int) (μ : bM) : Option (Int × bM) := (F_X11_at v1 μ).bind fun w1 => bG (bR (8 * w1)) (bG (0 ≤ w1 ∧ w1 < 800) (bG (bR ((8 * w1) + (μ 84 w1.toNat))) (bG (0 ≤ ((8 * w1) + (μ 84 w1.toNat)) ∧ ((8 * w1) + (μ 84 w1.toNat)) < 6400) (bG (0 ≤ ((8 * w1) + (μ 84 w1.toNat)) ∧ ((8 * w1) + (μ 84 w1.toNat)) < 6400) (bG (0 ≤ ((8 * w1) + (μ 84 w1.toNat)) ∧ ((8 * w1) + (μ 84 w1.toNat)) < 6400) (bG (0 ≤ ((8 * w1) + (μ 84 w1.toNat)) ∧ ((8 * w1) + (μ 84 w1.toNat)) < 6400) (bG (0 ≤ ((8 * w1) + (μ 84 w1.toNat)) ∧ ((8 * w1) + (μ 84 w1.toNat)) < 6400) (bG (0 ≤ w1 ∧ w1 < 800) (bG (bR (((bset (bset (bset (bset (bset μ 85 ((8 * w1) + (μ 84 w1.toNat)).toNat v2) 86 ((8 * w1) + (μ 84 w1.toNat)).toNat v3) 87 ((8 * w1) + (μ 84 w1.toNat)).toNat v4) 88 ((8 * w1) + (μ 84 w1.toNat)).toNat 0) 89 ((8 * w1) + (μ 84 w1.toNat)).toNat 0) 84 w1.toNat) + 1)) (bG (0 ≤ w1 ∧ w1 < 800) (bG (0 ≤ w1 ∧ w1 < 800) (some (((bset (bset (bset (bset (bset (bset μ 85 ((8 * w1) + (μ 84 w1.toNat)).toNat v2) 86 ((8 * w1) + (μ 84 w1.toNat)).toNat v3) 87 ((8 * w1) + (μ 84 w1.toNat)).toNat v4) 88 ((8 * w1) + (μ 84 w1.toNat)).toNat 0) 89 ((8 * w1) + (μ 84 w1.toNat)).toNat 0) 84 w1.toNat (((bset (bset (bset (bset (bset μ 85 ((8 * w1) + (μ 84 w1.toNat)).toNat v2) 86 ((8 * w1) + (μ 84 w1.toNat)).toNat v3) 87 ((8 * w1) + (μ 84 w1.toNat)).toNat v4) 88 ((8 * w1) + (μ 84 w1.toNat)).toNat 0) 89 ((8 * w1) + (μ 84 w1.toNat)).toNat 0) 84 w1.toNat) + 1)) 84 w1.toNat), (bset (bset (bset (bset (bset (bset μ 85 ((8 * w1) + (μ 84 w1.toNat)).toNat v2) 86 ((8 * w1) + (μ 84 w1.toNat)).toNat v3) 87 ((8 * w1) + (μ 84 w1.toNat)).toNat v4) 88 ((8 * w1) + (μ 84 w1.toNat)).toNat 0) 89 ((8 * w1) + (μ 84 w1.toNat)).toNat 0) 84 w1.toNat (((bset (bset (bset (bset (bset μ 85 ((8 * w1) + (μ 84 w1.toNat)).toNat v2) 86 ((8 * w1) + (μ 84 w1.toNat)).toNat v3) 87 ((8 * w1) + (μ 84 w1.toNat)).toNat v4) 88 ((8 * w1) + (μ 84 w1.toNat)).toNat 0) 89 ((8 * w1) + (μ 84 w1.toNat)).toNat 0) 84 w1.toNat) + 1)))))))))))))))
theorem r_X11_add {L : Nat} {xs : Nat → Int32} {d : Nat} {μ : bM}  (v1 : Int) (h1 : bR v1) (v2 : Int) (h2 : bR v2) (v3 : Int) (h3 : bR v3) (v4 : Int) (h4 : bRL v4) : bD L xs (d + 1) 152 0 [(0, .ref 76), (1, bI v1), (2, bI v2), (3, bI v3), (4, bLg v4)] [] μ ((F_X11_add v1 v2 v3 v4 μ).bind (bMc)) := by
  have hr : ∀ r, (bMc) r = (bMc) r := fun _ => rfl
  unfold F_X11_add
  refine bD.ok fun hk => ?_
  refine b_s (pc' := 1) (lv1 := [(0, .ref 76), (1, bI v1), (2, bI v2), (3, bI v3), (4, bLg v4)]) (st' := [.ref 76]) l152_0 (fun _ => rfl) ?_
  refine b_s (pc' := 2) (lv1 := [(0, .ref 76), (1, bI v1), (2, bI v2), (3, bI v3), (4, bLg v4)]) (st' := [bI v1, .ref 76]) l152_1 (fun _ => rfl) ?_
  refine b_cPi l152_2 rfl (b_rc (ci := 9) (by rfl) (by decide) (by decide +kernel)) (Nat.le_of_ble_eq_true rfl) (Nat.le_of_ble_eq_true rfl) rfl (r_X11_at v1 h1) fun w1 hw1 => b_pc (pc' := 5) rfl ?_
  refine b_w (pc' := 7) (lv1 := ax_st1 [(0, .ref 76), (1, bI v1), (2, bI v2), (3, bI v3), (4, bLg v4)] 6 (bI w1)) (lv' := [(0, .ref 76), (2, bI v2), (3, bI v3), (4, bLg v4), (6, bI w1)]) (st' := []) l152_5 (fun _ => rfl) (bSb rfl (bSb rfl (bSb rfl (bSb rfl (bSb rfl bSn))))) ?_
  refine b_bipush l152_7 (by decide) (b_pc (pc' := 9) rfl ?_)
  refine b_s (pc' := 11) (lv1 := [(0, .ref 76), (2, bI v2), (3, bI v3), (4, bLg v4), (6, bI w1)]) (st' := [bI w1, bI 8]) l152_9 (fun _ => rfl) ?_
  refine b_imul l152_11 fun g2 => (b_pc (pc' := 12) rfl ?_)
  refine b_s (pc' := 13) (lv1 := [(0, .ref 76), (2, bI v2), (3, bI v3), (4, bLg v4), (6, bI w1)]) (st' := [.ref 76, bI (8 * w1)]) l152_12 (fun _ => rfl) ?_
  refine b_gp (q' := 84) (j := 8) l152_13 (by rfl) (by decide) (by decide) rfl hk rfl rfl (b_pc (pc' := 16) rfl ?_)
  refine b_s (pc' := 18) (lv1 := [(0, .ref 76), (2, bI v2), (3, bI v3), (4, bLg v4), (6, bI w1)]) (st' := [bI w1, .ref 84, bI (8 * w1)]) l152_16 (fun _ => rfl) ?_
  refine b_g fun g19 => ?_
  refine b_ial l152_18 (by rfl) g19 (b_pc (pc' := 19) rfl ?_)
  refine b_iadd l152_19 fun g3 => (b_pc (pc' := 20) rfl ?_)
  refine b_w (pc' := 22) (lv1 := ax_st1 [(0, .ref 76), (2, bI v2), (3, bI v3), (4, bLg v4), (6, bI w1)] 7 (bI ((8 * w1) + (μ 84 w1.toNat)))) (lv' := [(0, .ref 76), (2, bI v2), (3, bI v3), (4, bLg v4), (6, bI w1), (7, bI ((8 * w1) + (μ 84 w1.toNat)))]) (st' := []) l152_20 (fun _ => rfl) (bSb rfl (bSb rfl (bSb rfl (bSb rfl (bSb rfl (bSb rfl bSn)))))) ?_
  refine b_s (pc' := 23) (lv1 := [(0, .ref 76), (2, bI v2), (3, bI v3), (4, bLg v4), (6, bI w1), (7, bI ((8 * w1) + (μ 84 w1.toNat)))]) (st' := [.ref 76]) l152_22 (fun _ => rfl) ?_
  refine b_gp (q' := 85) (j := 9) l152_23 (by rfl) (by decide) (by decide) rfl hk rfl rfl (b_pc (pc' := 26) rfl ?_)
  refine b_s (pc' := 28) (lv1 := [(0, .ref 76), (2, bI v2), (3, bI v3), (4, bLg v4), (6, bI w1), (7, bI ((8 * w1) + (μ 84 w1.toNat)))]) (st' := [bI ((8 * w1) + (μ 84 w1.toNat)), .ref 85]) l152_26 (fun _ => rfl) ?_
  refine b_s (pc' := 29) (lv1 := [(0, .ref 76), (2, bI v2), (3, bI v3), (4, bLg v4), (6, bI w1), (7, bI ((8 * w1) + (μ 84 w1.toNat)))]) (st' := [bI v2, bI ((8 * w1) + (μ 84 w1.toNat)), .ref 85]) l152_28 (fun _ => rfl) ?_
  refine b_g fun g18 => ?_
  refine b_ias l152_29 (by rfl) g18 h2 (bD.ok fun hk4 => b_pc (pc' := 30) rfl ?_)
  refine b_s (pc' := 31) (lv1 := [(0, .ref 76), (2, bI v2), (3, bI v3), (4, bLg v4), (6, bI w1), (7, bI ((8 * w1) + (μ 84 w1.toNat)))]) (st' := [.ref 76]) l152_30 (fun _ => rfl) ?_
  refine b_gp (q' := 86) (j := 10) l152_31 (by rfl) (by decide) (by decide) rfl hk4 rfl rfl (b_pc (pc' := 34) rfl ?_)
  refine b_s (pc' := 36) (lv1 := [(0, .ref 76), (2, bI v2), (3, bI v3), (4, bLg v4), (6, bI w1), (7, bI ((8 * w1) + (μ 84 w1.toNat)))]) (st' := [bI ((8 * w1) + (μ 84 w1.toNat)), .ref 86]) l152_34 (fun _ => rfl) ?_
  refine b_s (pc' := 37) (lv1 := [(0, .ref 76), (2, bI v2), (3, bI v3), (4, bLg v4), (6, bI w1), (7, bI ((8 * w1) + (μ 84 w1.toNat)))]) (st' := [bI v3, bI ((8 * w1) + (μ 84 w1.toNat)), .ref 86]) l152_36 (fun _ => rfl) ?_
  refine b_g fun g17 => ?_
  refine b_ias l152_37 (by rfl) g17 h3 (bD.ok fun hk5 => b_pc (pc' := 38) rfl ?_)
  refine b_s (pc' := 39) (lv1 := [(0, .ref 76), (2, bI v2), (3, bI v3), (4, bLg v4), (6, bI w1), (7, bI ((8 * w1) + (μ 84 w1.toNat)))]) (st' := [.ref 76]) l152_38 (fun _ => rfl) ?_
  refine b_gp (q' := 87) (j := 11) l152_39 (by rfl) (by decide) (by decide) rfl hk5 rfl rfl (b_pc (pc' := 42) rfl ?_)
  refine b_s (pc' := 44) (lv1 := [(0, .ref 76), (2, bI v2), (3, bI v3), (4, bLg v4), (6, bI w1), (7, bI ((8 * w1) + (μ 84 w1.toNat)))]) (st' := [bI ((8 * w1) + (μ 84 w1.toNat)), .ref 87]) l152_42 (fun _ => rfl) ?_
  refine b_s (pc' := 46) (lv1 := [(0, .ref 76), (2, bI v2), (3, bI v3), (4, bLg v4), (6, bI w1), (7, bI ((8 * w1) + (μ 84 w1.toNat)))]) (st' := [bLg v4, bI ((8 * w1) + (μ 84 w1.toNat)), .ref 87]) l152_44 (fun _ => rfl) ?_
  refine b_g fun g16 => ?_
  refine b_las l152_46 (by rfl) g16 h4 (bD.ok fun hk6 => b_pc (pc' := 47) rfl ?_)
  refine b_s (pc' := 48) (lv1 := [(0, .ref 76), (2, bI v2), (3, bI v3), (4, bLg v4), (6, bI w1), (7, bI ((8 * w1) + (μ 84 w1.toNat)))]) (st' := [.ref 76]) l152_47 (fun _ => rfl) ?_
  refine b_gp (q' := 88) (j := 12) l152_48 (by rfl) (by decide) (by decide) rfl hk6 rfl rfl (b_pc (pc' := 51) rfl ?_)
  refine b_s (pc' := 53) (lv1 := [(0, .ref 76), (2, bI v2), (3, bI v3), (4, bLg v4), (6, bI w1), (7, bI ((8 * w1) + (μ 84 w1.toNat)))]) (st' := [bI ((8 * w1) + (μ 84 w1.toNat)), .ref 88]) l152_51 (fun _ => rfl) ?_
  refine b_s (pc' := 54) (lv1 := [(0, .ref 76), (2, bI v2), (3, bI v3), (4, bLg v4), (6, bI w1), (7, bI ((8 * w1) + (μ 84 w1.toNat)))]) (st' := [bI 0, bI ((8 * w1) + (μ 84 w1.toNat)), .ref 88]) l152_53 (fun _ => rfl) ?_
  refine b_g fun g15 => ?_
  refine b_ias l152_54 (by rfl) g15 (by decide) (bD.ok fun hk7 => b_pc (pc' := 55) rfl ?_)
  refine b_s (pc' := 56) (lv1 := [(0, .ref 76), (2, bI v2), (3, bI v3), (4, bLg v4), (6, bI w1), (7, bI ((8 * w1) + (μ 84 w1.toNat)))]) (st' := [.ref 76]) l152_55 (fun _ => rfl) ?_
  refine b_gp (q' := 89) (j := 13) l152_56 (by rfl) (by decide) (by decide) rfl hk7 rfl rfl (b_pc (pc' := 59) rfl ?_)
  refine b_s (pc' := 61) (lv1 := [(0, .ref 76), (2, bI v2), (3, bI v3), (4, bLg v4), (6, bI w1), (7, bI ((8 * w1) + (μ 84 w1.toNat)))]) (st' := [bI ((8 * w1) + (μ 84 w1.toNat)), .ref 89]) l152_59 (fun _ => rfl) ?_
  refine b_s (pc' := 62) (lv1 := [(0, .ref 76), (2, bI v2), (3, bI v3), (4, bLg v4), (6, bI w1), (7, bI ((8 * w1) + (μ 84 w1.toNat)))]) (st' := [bI 0, bI ((8 * w1) + (μ 84 w1.toNat)), .ref 89]) l152_61 (fun _ => rfl) ?_
  refine b_g fun g14 => ?_
  refine b_ias l152_62 (by rfl) g14 (by decide) (bD.ok fun hk8 => b_pc (pc' := 63) rfl ?_)
  refine b_s (pc' := 64) (lv1 := [(0, .ref 76), (2, bI v2), (3, bI v3), (4, bLg v4), (6, bI w1), (7, bI ((8 * w1) + (μ 84 w1.toNat)))]) (st' := [.ref 76]) l152_63 (fun _ => rfl) ?_
  refine b_gp (q' := 84) (j := 8) l152_64 (by rfl) (by decide) (by decide) rfl hk8 rfl rfl (b_pc (pc' := 67) rfl ?_)
  refine b_s (pc' := 69) (lv1 := [(0, .ref 76), (2, bI v2), (3, bI v3), (4, bLg v4), (6, bI w1), (7, bI ((8 * w1) + (μ 84 w1.toNat)))]) (st' := [bI w1, .ref 84]) l152_67 (fun _ => rfl) ?_
  refine b_s (pc' := 70) (lv1 := [(0, .ref 76), (2, bI v2), (3, bI v3), (4, bLg v4), (6, bI w1), (7, bI ((8 * w1) + (μ 84 w1.toNat)))]) (st' := [bI w1, .ref 84, bI w1, .ref 84]) l152_69 (fun _ => rfl) ?_
  refine b_g fun g13 => ?_
  refine b_ial l152_70 (by rfl) g13 (b_pc (pc' := 71) rfl ?_)
  refine b_s (pc' := 72) (lv1 := [(0, .ref 76), (2, bI v2), (3, bI v3), (4, bLg v4), (6, bI w1), (7, bI ((8 * w1) + (μ 84 w1.toNat)))]) (st' := [bI 1, bI ((bset (bset (bset (bset (bset μ 85 ((8 * w1) + (μ 84 w1.toNat)).toNat v2) 86 ((8 * w1) + (μ 84 w1.toNat)).toNat v3) 87 ((8 * w1) + (μ 84 w1.toNat)).toNat v4) 88 ((8 * w1) + (μ 84 w1.toNat)).toNat 0) 89 ((8 * w1) + (μ 84 w1.toNat)).toNat 0) 84 w1.toNat), bI w1, .ref 84]) l152_71 (fun _ => rfl) ?_
  refine b_iadd l152_72 fun g9 => (b_pc (pc' := 73) rfl ?_)
  refine b_g fun g12 => ?_
  refine b_ias l152_73 (by rfl) g12 g9 (bD.ok fun hk10 => b_pc (pc' := 74) rfl ?_)
  refine b_s (pc' := 75) (lv1 := [(0, .ref 76), (2, bI v2), (3, bI v3), (4, bLg v4), (6, bI w1), (7, bI ((8 * w1) + (μ 84 w1.toNat)))]) (st' := [.ref 76]) l152_74 (fun _ => rfl) ?_
  refine b_gp (q' := 84) (j := 8) l152_75 (by rfl) (by decide) (by decide) rfl hk10 rfl rfl (b_pc (pc' := 78) rfl ?_)
  refine b_s (pc' := 80) (lv1 := [(0, .ref 76), (2, bI v2), (3, bI v3), (4, bLg v4), (6, bI w1), (7, bI ((8 * w1) + (μ 84 w1.toNat)))]) (st' := [bI w1, .ref 84]) l152_78 (fun _ => rfl) ?_
  refine b_g fun g11 => ?_
  refine b_ial l152_80 (by rfl) g11 (b_pc (pc' := 81) rfl ?_)
  exact b_reti l152_81 rfl (bO_i hk10 (by rfl)) (hr _)
/-! ETModel.isFull -/
theorem l153_0 : (ax_dt (ax_T 153)).lookup 0 = some (.aload_n 0, 1, 0, 0, 0) := by decide +kernel
theorem l153_1 : (ax_dt (ax_T 153)).lookup 1 = some (.getfield 32, 3, 9, 10, 0) := by decide +kernel
theorem l153_4 : (ax_dt (ax_T 153)).lookup 4 = some (.aload_n 0, 1, 0, 0, 0) := by decide +kernel
theorem l153_5 : (ax_dt (ax_T 153)).lookup 5 = some (.iload_n 1, 1, 0, 0, 0) := by decide +kernel
theorem l153_6 : (ax_dt (ax_T 153)).lookup 6 = some (.invokevirtual 140, 3, 140, 1, 0) := by decide +kernel
theorem l153_9 : (ax_dt (ax_T 153)).lookup 9 = some (.iaload, 1, 0, 0, 0) := by decide +kernel
theorem l153_10 : (ax_dt (ax_T 153)).lookup 10 = some (.bipush 8, 2, 0, 0, 0) := by decide +kernel
theorem l153_12 : (ax_dt (ax_T 153)).lookup 12 = some (.if_icmp .ne 7, 3, 0, 0, 0) := by decide +kernel
theorem l153_15 : (ax_dt (ax_T 153)).lookup 15 = some (.iconst 1, 1, 0, 0, 0) := by decide +kernel
theorem l153_16 : (ax_dt (ax_T 153)).lookup 16 = some (.goto 4, 3, 0, 0, 0) := by decide +kernel
theorem l153_19 : (ax_dt (ax_T 153)).lookup 19 = some (.iconst 0, 1, 0, 0, 0) := by decide +kernel
theorem l153_20 : (ax_dt (ax_T 153)).lookup 20 = some (.ireturn, 1, 0, 0, 0) := by decide +kernel
noncomputable def F_X11_isFull (v1 : Int) (μ : bM) : Option (Int) := (F_X11_at v1 μ).bind fun w1 => bG (0 ≤ w1 ∧ w1 < 800) (if ¬ (μ 84 w1.toNat) = 8 then some (0) else some (1))
theorem r_X11_isFull {L : Nat} {xs : Nat → Int32} {d : Nat} {μ : bM}  (v1 : Int) (h1 : bR v1) : bD L xs (d + 1) 153 0 [(0, .ref 76), (1, bI v1)] [] μ ((F_X11_isFull v1 μ).bind (bPc μ)) := by
  have hr : ∀ r, (bPc μ) r = (bPc μ) r := fun _ => rfl
  unfold F_X11_isFull
  refine bD.ok fun hk => ?_
  refine b_s (pc' := 1) (lv1 := [(0, .ref 76), (1, bI v1)]) (st' := [.ref 76]) l153_0 (fun _ => rfl) ?_
  refine b_gp (q' := 84) (j := 8) l153_1 (by rfl) (by decide) (by decide) rfl hk rfl rfl (b_pc (pc' := 4) rfl ?_)
  refine b_s (pc' := 5) (lv1 := [(0, .ref 76), (1, bI v1)]) (st' := [.ref 76, .ref 84]) l153_4 (fun _ => rfl) ?_
  refine b_s (pc' := 6) (lv1 := [(0, .ref 76), (1, bI v1)]) (st' := [bI v1, .ref 76, .ref 84]) l153_5 (fun _ => rfl) ?_
  refine b_cPi l153_6 rfl (b_rc (ci := 9) (by rfl) (by decide) (by decide +kernel)) (Nat.le_of_ble_eq_true rfl) (Nat.le_of_ble_eq_true rfl) rfl (r_X11_at v1 h1) fun w1 hw1 => b_pc (pc' := 9) rfl ?_
  refine b_g fun g3 => ?_
  refine b_ial l153_9 (by rfl) g3 (b_pc (pc' := 10) rfl ?_)
  refine b_bipush l153_10 (by decide) (b_pc (pc' := 12) rfl ?_)
  refine b_ine (pt := 19) l153_12 (bO_i hk (by rfl)) (by decide) (by decide) rfl (fun c2 => ?_) (fun c2 => b_pc (pc' := 15) rfl ?_)
  · refine b_s (pc' := 20) (lv1 := [(0, .ref 76), (1, bI v1)]) (st' := [bI 0]) l153_19 (fun _ => rfl) ?_
    exact b_retz l153_20 rfl (by decide) (hr _)
  · refine b_s (pc' := 16) (lv1 := [(0, .ref 76), (1, bI v1)]) (st' := [bI 1]) l153_15 (fun _ => rfl) ?_
    refine b_s (pc' := 20) (lv1 := [(0, .ref 76), (1, bI v1)]) (st' := [bI 1]) l153_16 (fun _ => rfl) ?_
    exact b_retz l153_20 rfl (by decide) (hr _)
/-! ETModel.number -/
theorem l154_0 : (ax_dt (ax_T 154)).lookup 0 = some (.aload_n 0, 1, 0, 0, 0) := by decide +kernel
theorem l154_1 : (ax_dt (ax_T 154)).lookup 1 = some (.aload_n 0, 1, 0, 0, 0) := by decide +kernel
theorem l154_2 : (ax_dt (ax_T 154)).lookup 2 = some (.iload_n 1, 1, 0, 0, 0) := by decide +kernel
theorem l154_3 : (ax_dt (ax_T 154)).lookup 3 = some (.invokevirtual 152, 3, 141, 1, 0) := by decide +kernel
theorem l154_6 : (ax_dt (ax_T 154)).lookup 6 = some (.ifCond .ne 7, 3, 0, 0, 0) := by decide +kernel
theorem l154_9 : (ax_dt (ax_T 154)).lookup 9 = some (.iconst 1, 1, 0, 0, 0) := by decide +kernel
theorem l154_10 : (ax_dt (ax_T 154)).lookup 10 = some (.goto 52, 3, 0, 0, 0) := by decide +kernel
theorem l154_13 : (ax_dt (ax_T 154)).lookup 13 = some (.iload_n 2, 1, 0, 0, 0) := by decide +kernel
theorem l154_14 : (ax_dt (ax_T 154)).lookup 14 = some (.invokestatic 144, 3, 139, 1, 0) := by decide +kernel
theorem l154_17 : (ax_dt (ax_T 154)).lookup 17 = some (.ifCond .eq 28, 3, 0, 0, 0) := by decide +kernel
theorem l154_20 : (ax_dt (ax_T 154)).lookup 20 = some (.iload_n 3, 1, 0, 0, 0) := by decide +kernel
theorem l154_21 : (ax_dt (ax_T 154)).lookup 21 = some (.invokestatic 160, 3, 146, 1, 0) := by decide +kernel
theorem l154_24 : (ax_dt (ax_T 154)).lookup 24 = some (.ifCond .eq 21, 3, 0, 0, 0) := by decide +kernel
theorem l154_27 : (ax_dt (ax_T 154)).lookup 27 = some (.iload_n 3, 1, 0, 0, 0) := by decide +kernel
theorem l154_28 : (ax_dt (ax_T 154)).lookup 28 = some (.lload 4, 2, 0, 0, 0) := by decide +kernel
theorem l154_30 : (ax_dt (ax_T 154)).lookup 30 = some (.invokestatic 177, 3, 150, 2, 0) := by decide +kernel
theorem l154_33 : (ax_dt (ax_T 154)).lookup 33 = some (.ifCond .eq 12, 3, 0, 0, 0) := by decide +kernel
theorem l154_36 : (ax_dt (ax_T 154)).lookup 36 = some (.aload_n 0, 1, 0, 0, 0) := by decide +kernel
theorem l154_37 : (ax_dt (ax_T 154)).lookup 37 = some (.iload_n 1, 1, 0, 0, 0) := by decide +kernel
theorem l154_38 : (ax_dt (ax_T 154)).lookup 38 = some (.iload_n 2, 1, 0, 0, 0) := by decide +kernel
theorem l154_39 : (ax_dt (ax_T 154)).lookup 39 = some (.invokevirtual 181, 3, 151, 2, 0) := by decide +kernel
theorem l154_42 : (ax_dt (ax_T 154)).lookup 42 = some (.ifCond .eq 7, 3, 0, 0, 0) := by decide +kernel
theorem l154_45 : (ax_dt (ax_T 154)).lookup 45 = some (.iconst 2, 1, 0, 0, 0) := by decide +kernel
theorem l154_46 : (ax_dt (ax_T 154)).lookup 46 = some (.goto 16, 3, 0, 0, 0) := by decide +kernel
theorem l154_49 : (ax_dt (ax_T 154)).lookup 49 = some (.aload_n 0, 1, 0, 0, 0) := by decide +kernel
theorem l154_50 : (ax_dt (ax_T 154)).lookup 50 = some (.iload_n 1, 1, 0, 0, 0) := by decide +kernel
theorem l154_51 : (ax_dt (ax_T 154)).lookup 51 = some (.invokevirtual 185, 3, 153, 1, 0) := by decide +kernel
theorem l154_54 : (ax_dt (ax_T 154)).lookup 54 = some (.ifCond .eq 7, 3, 0, 0, 0) := by decide +kernel
theorem l154_57 : (ax_dt (ax_T 154)).lookup 57 = some (.iconst 3, 1, 0, 0, 0) := by decide +kernel
theorem l154_58 : (ax_dt (ax_T 154)).lookup 58 = some (.goto 4, 3, 0, 0, 0) := by decide +kernel
theorem l154_61 : (ax_dt (ax_T 154)).lookup 61 = some (.iconst 0, 1, 0, 0, 0) := by decide +kernel
theorem l154_62 : (ax_dt (ax_T 154)).lookup 62 = some (.putfield 120, 3, 9, 0, 0) := by decide +kernel
theorem l154_65 : (ax_dt (ax_T 154)).lookup 65 = some (.aload_n 0, 1, 0, 0, 0) := by decide +kernel
theorem l154_66 : (ax_dt (ax_T 154)).lookup 66 = some (.getfield 120, 3, 9, 0, 0) := by decide +kernel
theorem l154_69 : (ax_dt (ax_T 154)).lookup 69 = some (.ifCond .le 7, 3, 0, 0, 0) := by decide +kernel
theorem l154_72 : (ax_dt (ax_T 154)).lookup 72 = some (.iconst 0, 1, 0, 0, 0) := by decide +kernel
theorem l154_73 : (ax_dt (ax_T 154)).lookup 73 = some (.goto 12, 3, 0, 0, 0) := by decide +kernel
theorem l154_76 : (ax_dt (ax_T 154)).lookup 76 = some (.aload_n 0, 1, 0, 0, 0) := by decide +kernel
theorem l154_77 : (ax_dt (ax_T 154)).lookup 77 = some (.iload_n 1, 1, 0, 0, 0) := by decide +kernel
theorem l154_78 : (ax_dt (ax_T 154)).lookup 78 = some (.iload_n 2, 1, 0, 0, 0) := by decide +kernel
theorem l154_79 : (ax_dt (ax_T 154)).lookup 79 = some (.iload_n 3, 1, 0, 0, 0) := by decide +kernel
theorem l154_80 : (ax_dt (ax_T 154)).lookup 80 = some (.lload 4, 2, 0, 0, 0) := by decide +kernel
theorem l154_82 : (ax_dt (ax_T 154)).lookup 82 = some (.invokevirtual 188, 3, 152, 4, 0) := by decide +kernel
theorem l154_85 : (ax_dt (ax_T 154)).lookup 85 = some (.ireturn, 1, 0, 0, 0) := by decide +kernel
noncomputable def F_X11_number_62 (v1 : Int) (v2 : Int) (v3 : Int) (v4 : Int) (y1 : Int) (μ : bM) : Option (Int × bM) := if ((bset μ 76 0 y1) 76 0) ≤ 0 then bMm (F_X11_add v1 v2 v3 v4 (bset μ 76 0 y1)) (fun w3 μ4 => some (w3, μ4)) else some (0, (bset μ 76 0 y1))
noncomputable def F_X11_number_45 (v1 : Int) (v2 : Int) (v3 : Int) (v4 : Int) (μ : bM) : Option (Int × bM) := F_X11_number_62 v1 v2 v3 v4 2 μ
noncomputable def F_X11_number (v1 : Int) (v2 : Int) (v3 : Int) (v4 : Int) (μ : bM) : Option (Int × bM) := (F_X11_isEntry v1 μ).bind fun w1 => if ¬ w1 = 0 then (F_X11_isName v2 μ).bind fun w3 => if w3 = 0 then F_X11_number_45 v1 v2 v3 v4 μ else (F_X11_isNumber v3 μ).bind fun w5 => if w5 = 0 then F_X11_number_45 v1 v2 v3 v4 μ else (F_X11_fits v3 v4 μ).bind fun w7 => if w7 = 0 then F_X11_number_45 v1 v2 v3 v4 μ else (F_X11_isTold v1 v2 μ).bind fun w9 => if w9 = 0 then (F_X11_isFull v1 μ).bind fun w11 => if w11 = 0 then F_X11_number_62 v1 v2 v3 v4 0 μ else F_X11_number_62 v1 v2 v3 v4 3 μ else F_X11_number_45 v1 v2 v3 v4 μ else F_X11_number_62 v1 v2 v3 v4 1 μ
theorem p_X11_number_62 {L : Nat} {xs : Nat → Int32} {d : Nat} {μ : bM}  {κ : (Int × bM) → Option bX} (hr : ∀ r : Int × bM, κ r = (bMc) r)  {v1 : Int} (h1 : bR v1) {v2 : Int} (h2 : bR v2) {v3 : Int} (h3 : bR v3) {v4 : Int} (h4 : bRL v4) {y1 : Int} (hy1 : bR y1) : bD L xs (d + 2) 154 62 [(0, .ref 76), (1, bI v1), (2, bI v2), (3, bI v3), (4, bLg v4)] [bI y1, .ref 76] μ ((F_X11_number_62 v1 v2 v3 v4 y1 μ).bind κ) := by
  unfold F_X11_number_62
  refine bD.ok fun hk => ?_
  refine b_pi l154_62 (by rfl) (by decide) (by decide) rfl rfl hy1 (bD.ok fun hk1 => b_pc (pc' := 65) rfl ?_)
  refine b_s (pc' := 66) (lv1 := [(0, .ref 76), (1, bI v1), (2, bI v2), (3, bI v3), (4, bLg v4)]) (st' := [.ref 76]) l154_65 (fun _ => rfl) ?_
  refine b_gi l154_66 (by rfl) (by decide) (by decide) rfl (b_pc (pc' := 69) rfl ?_)
  refine b_zle (pt := 76) l154_69 (bO_f hk1 (ci := 9) (by rfl) rfl) (by decide) rfl (fun c2 => ?_) (fun c2 => b_pc (pc' := 72) rfl ?_)
  · refine b_s (pc' := 77) (lv1 := [(0, .ref 76), (1, bI v1), (2, bI v2), (3, bI v3), (4, bLg v4)]) (st' := [.ref 76]) l154_76 (fun _ => rfl) ?_
    refine b_s (pc' := 78) (lv1 := [(0, .ref 76), (1, bI v1), (2, bI v2), (3, bI v3), (4, bLg v4)]) (st' := [bI v1, .ref 76]) l154_77 (fun _ => rfl) ?_
    refine b_s (pc' := 79) (lv1 := [(0, .ref 76), (1, bI v1), (2, bI v2), (3, bI v3), (4, bLg v4)]) (st' := [bI v2, bI v1, .ref 76]) l154_78 (fun _ => rfl) ?_
    refine b_s (pc' := 80) (lv1 := [(0, .ref 76), (1, bI v1), (2, bI v2), (3, bI v3), (4, bLg v4)]) (st' := [bI v3, bI v2, bI v1, .ref 76]) l154_79 (fun _ => rfl) ?_
    refine b_s (pc' := 82) (lv1 := [(0, .ref 76), (1, bI v1), (2, bI v2), (3, bI v3), (4, bLg v4)]) (st' := [bLg v4, bI v3, bI v2, bI v1, .ref 76]) l154_80 (fun _ => rfl) ?_
    refine b_cMi l154_82 rfl (b_rc (ci := 9) (by rfl) (by decide) (by decide +kernel)) (Nat.le_of_ble_eq_true rfl) (Nat.le_of_ble_eq_true rfl) rfl (r_X11_add v1 h1 v2 h2 v3 h3 v4 h4) fun w3 μ4 hw3 => bD.ok fun hk5 => b_pc (pc' := 85) rfl ?_
    exact b_reti l154_85 rfl hw3 (hr _)
  · refine b_s (pc' := 73) (lv1 := [(0, .ref 76), (1, bI v1), (2, bI v2), (3, bI v3), (4, bLg v4)]) (st' := [bI 0]) l154_72 (fun _ => rfl) ?_
    refine b_s (pc' := 85) (lv1 := [(0, .ref 76), (1, bI v1), (2, bI v2), (3, bI v3), (4, bLg v4)]) (st' := [bI 0]) l154_73 (fun _ => rfl) ?_
    exact b_reti l154_85 rfl (by decide) (hr _)
theorem p_X11_number_45 {L : Nat} {xs : Nat → Int32} {d : Nat} {μ : bM}  {κ : (Int × bM) → Option bX} (hr : ∀ r : Int × bM, κ r = (bMc) r)  {v1 : Int} (h1 : bR v1) {v2 : Int} (h2 : bR v2) {v3 : Int} (h3 : bR v3) {v4 : Int} (h4 : bRL v4) : bD L xs (d + 2) 154 45 [(0, .ref 76), (1, bI v1), (2, bI v2), (3, bI v3), (4, bLg v4)] [.ref 76] μ ((F_X11_number_45 v1 v2 v3 v4 μ).bind κ) := by
  unfold F_X11_number_45
  refine bD.ok fun hk => ?_
  refine b_s (pc' := 46) (lv1 := [(0, .ref 76), (1, bI v1), (2, bI v2), (3, bI v3), (4, bLg v4)]) (st' := [bI 2, .ref 76]) l154_45 (fun _ => rfl) ?_
  refine b_s (pc' := 62) (lv1 := [(0, .ref 76), (1, bI v1), (2, bI v2), (3, bI v3), (4, bLg v4)]) (st' := [bI 2, .ref 76]) l154_46 (fun _ => rfl) ?_
  refine bD.wk (lv' := [(0, .ref 76), (1, bI v1), (2, bI v2), (3, bI v3), (4, bLg v4)]) (bSb rfl (bSb rfl (bSb rfl (bSb rfl (bSb rfl bSn))))) ?_
  exact p_X11_number_62 hr h1 h2 h3 h4 (by decide)
theorem r_X11_number {L : Nat} {xs : Nat → Int32} {d : Nat} {μ : bM}  (v1 : Int) (h1 : bR v1) (v2 : Int) (h2 : bR v2) (v3 : Int) (h3 : bR v3) (v4 : Int) (h4 : bRL v4) : bD L xs (d + 2) 154 0 [(0, .ref 76), (1, bI v1), (2, bI v2), (3, bI v3), (4, bLg v4)] [] μ ((F_X11_number v1 v2 v3 v4 μ).bind (bMc)) := by
  have hr : ∀ r, (bMc) r = (bMc) r := fun _ => rfl
  unfold F_X11_number
  refine bD.ok fun hk => ?_
  refine b_s (pc' := 1) (lv1 := [(0, .ref 76), (1, bI v1), (2, bI v2), (3, bI v3), (4, bLg v4)]) (st' := [.ref 76]) l154_0 (fun _ => rfl) ?_
  refine b_s (pc' := 2) (lv1 := [(0, .ref 76), (1, bI v1), (2, bI v2), (3, bI v3), (4, bLg v4)]) (st' := [.ref 76, .ref 76]) l154_1 (fun _ => rfl) ?_
  refine b_s (pc' := 3) (lv1 := [(0, .ref 76), (1, bI v1), (2, bI v2), (3, bI v3), (4, bLg v4)]) (st' := [bI v1, .ref 76, .ref 76]) l154_2 (fun _ => rfl) ?_
  refine b_cPz l154_3 rfl (b_rc (ci := 9) (by rfl) (by decide) (by decide +kernel)) (Nat.le_of_ble_eq_true rfl) (Nat.le_of_ble_eq_true rfl) rfl (r_X11_isEntry v1 h1) fun w1 hw1 => b_pc (pc' := 6) rfl ?_
  refine b_zne (pt := 13) l154_6 (bZ_R hw1) (by decide) rfl (fun c2 => ?_) (fun c2 => b_pc (pc' := 9) rfl ?_)
  · refine b_s (pc' := 14) (lv1 := [(0, .ref 76), (1, bI v1), (2, bI v2), (3, bI v3), (4, bLg v4)]) (st' := [bI v2, .ref 76]) l154_13 (fun _ => rfl) ?_
    refine b_cPz l154_14 rfl (fun _ => trivial) (Nat.le_of_ble_eq_true rfl) (Nat.le_of_ble_eq_true rfl) rfl (r_X11_isName v2 h2) fun w3 hw3 => b_pc (pc' := 17) rfl ?_
    refine b_zeq (pt := 45) l154_17 (bZ_R hw3) (by decide) rfl (fun c4 => ?_) (fun c4 => b_pc (pc' := 20) rfl ?_)
    · refine bD.wk (lv' := [(0, .ref 76), (1, bI v1), (2, bI v2), (3, bI v3), (4, bLg v4)]) (bSb rfl (bSb rfl (bSb rfl (bSb rfl (bSb rfl bSn))))) ?_
      exact p_X11_number_45 hr h1 h2 h3 h4
    · refine b_s (pc' := 21) (lv1 := [(0, .ref 76), (1, bI v1), (2, bI v2), (3, bI v3), (4, bLg v4)]) (st' := [bI v3, .ref 76]) l154_20 (fun _ => rfl) ?_
      refine b_cPz l154_21 rfl (fun _ => trivial) (Nat.le_of_ble_eq_true rfl) (Nat.le_of_ble_eq_true rfl) rfl (r_X11_isNumber v3 h3) fun w5 hw5 => b_pc (pc' := 24) rfl ?_
      refine b_zeq (pt := 45) l154_24 (bZ_R hw5) (by decide) rfl (fun c6 => ?_) (fun c6 => b_pc (pc' := 27) rfl ?_)
      · refine bD.wk (lv' := [(0, .ref 76), (1, bI v1), (2, bI v2), (3, bI v3), (4, bLg v4)]) (bSb rfl (bSb rfl (bSb rfl (bSb rfl (bSb rfl bSn))))) ?_
        exact p_X11_number_45 hr h1 h2 h3 h4
      · refine b_s (pc' := 28) (lv1 := [(0, .ref 76), (1, bI v1), (2, bI v2), (3, bI v3), (4, bLg v4)]) (st' := [bI v3, .ref 76]) l154_27 (fun _ => rfl) ?_
        refine b_s (pc' := 30) (lv1 := [(0, .ref 76), (1, bI v1), (2, bI v2), (3, bI v3), (4, bLg v4)]) (st' := [bLg v4, bI v3, .ref 76]) l154_28 (fun _ => rfl) ?_
        refine b_cPz l154_30 rfl (fun _ => trivial) (Nat.le_of_ble_eq_true rfl) (Nat.le_of_ble_eq_true rfl) rfl (r_X11_fits v3 h3 v4 h4) fun w7 hw7 => b_pc (pc' := 33) rfl ?_
        refine b_zeq (pt := 45) l154_33 (bZ_R hw7) (by decide) rfl (fun c8 => ?_) (fun c8 => b_pc (pc' := 36) rfl ?_)
        · refine bD.wk (lv' := [(0, .ref 76), (1, bI v1), (2, bI v2), (3, bI v3), (4, bLg v4)]) (bSb rfl (bSb rfl (bSb rfl (bSb rfl (bSb rfl bSn))))) ?_
          exact p_X11_number_45 hr h1 h2 h3 h4
        · refine b_s (pc' := 37) (lv1 := [(0, .ref 76), (1, bI v1), (2, bI v2), (3, bI v3), (4, bLg v4)]) (st' := [.ref 76, .ref 76]) l154_36 (fun _ => rfl) ?_
          refine b_s (pc' := 38) (lv1 := [(0, .ref 76), (1, bI v1), (2, bI v2), (3, bI v3), (4, bLg v4)]) (st' := [bI v1, .ref 76, .ref 76]) l154_37 (fun _ => rfl) ?_
          refine b_s (pc' := 39) (lv1 := [(0, .ref 76), (1, bI v1), (2, bI v2), (3, bI v3), (4, bLg v4)]) (st' := [bI v2, bI v1, .ref 76, .ref 76]) l154_38 (fun _ => rfl) ?_
          refine b_cPz l154_39 rfl (b_rc (ci := 9) (by rfl) (by decide) (by decide +kernel)) (Nat.le_of_ble_eq_true rfl) (Nat.le_of_ble_eq_true rfl) rfl (r_X11_isTold v1 h1 v2 h2) fun w9 hw9 => b_pc (pc' := 42) rfl ?_
          refine b_zeq (pt := 49) l154_42 (bZ_R hw9) (by decide) rfl (fun c10 => ?_) (fun c10 => b_pc (pc' := 45) rfl ?_)
          · refine b_s (pc' := 50) (lv1 := [(0, .ref 76), (1, bI v1), (2, bI v2), (3, bI v3), (4, bLg v4)]) (st' := [.ref 76, .ref 76]) l154_49 (fun _ => rfl) ?_
            refine b_s (pc' := 51) (lv1 := [(0, .ref 76), (1, bI v1), (2, bI v2), (3, bI v3), (4, bLg v4)]) (st' := [bI v1, .ref 76, .ref 76]) l154_50 (fun _ => rfl) ?_
            refine b_cPz l154_51 rfl (b_rc (ci := 9) (by rfl) (by decide) (by decide +kernel)) (Nat.le_of_ble_eq_true rfl) (Nat.le_of_ble_eq_true rfl) rfl (r_X11_isFull v1 h1) fun w11 hw11 => b_pc (pc' := 54) rfl ?_
            refine b_zeq (pt := 61) l154_54 (bZ_R hw11) (by decide) rfl (fun c12 => ?_) (fun c12 => b_pc (pc' := 57) rfl ?_)
            · refine b_s (pc' := 62) (lv1 := [(0, .ref 76), (1, bI v1), (2, bI v2), (3, bI v3), (4, bLg v4)]) (st' := [bI 0, .ref 76]) l154_61 (fun _ => rfl) ?_
              refine bD.wk (lv' := [(0, .ref 76), (1, bI v1), (2, bI v2), (3, bI v3), (4, bLg v4)]) (bSb rfl (bSb rfl (bSb rfl (bSb rfl (bSb rfl bSn))))) ?_
              exact p_X11_number_62 hr h1 h2 h3 h4 (by decide)
            · refine b_s (pc' := 58) (lv1 := [(0, .ref 76), (1, bI v1), (2, bI v2), (3, bI v3), (4, bLg v4)]) (st' := [bI 3, .ref 76]) l154_57 (fun _ => rfl) ?_
              refine b_s (pc' := 62) (lv1 := [(0, .ref 76), (1, bI v1), (2, bI v2), (3, bI v3), (4, bLg v4)]) (st' := [bI 3, .ref 76]) l154_58 (fun _ => rfl) ?_
              refine bD.wk (lv' := [(0, .ref 76), (1, bI v1), (2, bI v2), (3, bI v3), (4, bLg v4)]) (bSb rfl (bSb rfl (bSb rfl (bSb rfl (bSb rfl bSn))))) ?_
              exact p_X11_number_62 hr h1 h2 h3 h4 (by decide)
          · refine bD.wk (lv' := [(0, .ref 76), (1, bI v1), (2, bI v2), (3, bI v3), (4, bLg v4)]) (bSb rfl (bSb rfl (bSb rfl (bSb rfl (bSb rfl bSn))))) ?_
            exact p_X11_number_45 hr h1 h2 h3 h4
  · refine b_s (pc' := 10) (lv1 := [(0, .ref 76), (1, bI v1), (2, bI v2), (3, bI v3), (4, bLg v4)]) (st' := [bI 1, .ref 76]) l154_9 (fun _ => rfl) ?_
    refine b_s (pc' := 62) (lv1 := [(0, .ref 76), (1, bI v1), (2, bI v2), (3, bI v3), (4, bLg v4)]) (st' := [bI 1, .ref 76]) l154_10 (fun _ => rfl) ?_
    refine bD.wk (lv' := [(0, .ref 76), (1, bI v1), (2, bI v2), (3, bI v3), (4, bLg v4)]) (bSb rfl (bSb rfl (bSb rfl (bSb rfl (bSb rfl bSn))))) ?_
    exact p_X11_number_62 hr h1 h2 h3 h4 (by decide)
/-! ETModel.areBytes -/
theorem l155_0 : (ax_dt (ax_T 155)).lookup 0 = some (.aload_n 0, 1, 0, 0, 0) := by decide +kernel
theorem l155_1 : (ax_dt (ax_T 155)).lookup 1 = some (.getfield 124, 3, 9, 2, 0) := by decide +kernel
theorem l155_4 : (ax_dt (ax_T 155)).lookup 4 = some (.sipush 255, 3, 0, 0, 0) := by decide +kernel
theorem l155_7 : (ax_dt (ax_T 155)).lookup 7 = some (.if_icmp .gt 7, 3, 0, 0, 0) := by decide +kernel
theorem l155_10 : (ax_dt (ax_T 155)).lookup 10 = some (.iconst 1, 1, 0, 0, 0) := by decide +kernel
theorem l155_11 : (ax_dt (ax_T 155)).lookup 11 = some (.goto 4, 3, 0, 0, 0) := by decide +kernel
theorem l155_14 : (ax_dt (ax_T 155)).lookup 14 = some (.iconst 0, 1, 0, 0, 0) := by decide +kernel
theorem l155_15 : (ax_dt (ax_T 155)).lookup 15 = some (.istore_n 2, 1, 0, 0, 0) := by decide +kernel
theorem l155_16 : (ax_dt (ax_T 155)).lookup 16 = some (.iconst 0, 1, 0, 0, 0) := by decide +kernel
theorem l155_17 : (ax_dt (ax_T 155)).lookup 17 = some (.istore_n 3, 1, 0, 0, 0) := by decide +kernel
theorem l155_18 : (ax_dt (ax_T 155)).lookup 18 = some (.iload_n 3, 1, 0, 0, 0) := by decide +kernel
theorem l155_19 : (ax_dt (ax_T 155)).lookup 19 = some (.aload_n 0, 1, 0, 0, 0) := by decide +kernel
theorem l155_20 : (ax_dt (ax_T 155)).lookup 20 = some (.getfield 124, 3, 9, 2, 0) := by decide +kernel
theorem l155_23 : (ax_dt (ax_T 155)).lookup 23 = some (.if_icmp .ge 34, 3, 0, 0, 0) := by decide +kernel
theorem l155_26 : (ax_dt (ax_T 155)).lookup 26 = some (.iload_n 2, 1, 0, 0, 0) := by decide +kernel
theorem l155_27 : (ax_dt (ax_T 155)).lookup 27 = some (.ifCond .eq 30, 3, 0, 0, 0) := by decide +kernel
theorem l155_30 : (ax_dt (ax_T 155)).lookup 30 = some (.iload_n 1, 1, 0, 0, 0) := by decide +kernel
theorem l155_31 : (ax_dt (ax_T 155)).lookup 31 = some (.bipush 10, 2, 0, 0, 0) := by decide +kernel
theorem l155_33 : (ax_dt (ax_T 155)).lookup 33 = some (.if_icmp .eq 24, 3, 0, 0, 0) := by decide +kernel
theorem l155_36 : (ax_dt (ax_T 155)).lookup 36 = some (.aload_n 0, 1, 0, 0, 0) := by decide +kernel
theorem l155_37 : (ax_dt (ax_T 155)).lookup 37 = some (.getfield 7, 3, 9, 1, 0) := by decide +kernel
theorem l155_40 : (ax_dt (ax_T 155)).lookup 40 = some (.iload_n 3, 1, 0, 0, 0) := by decide +kernel
theorem l155_41 : (ax_dt (ax_T 155)).lookup 41 = some (.baload, 1, 0, 0, 0) := by decide +kernel
theorem l155_42 : (ax_dt (ax_T 155)).lookup 42 = some (.ifCond .eq 7, 3, 0, 0, 0) := by decide +kernel
theorem l155_45 : (ax_dt (ax_T 155)).lookup 45 = some (.iconst 1, 1, 0, 0, 0) := by decide +kernel
theorem l155_46 : (ax_dt (ax_T 155)).lookup 46 = some (.goto 4, 3, 0, 0, 0) := by decide +kernel
theorem l155_49 : (ax_dt (ax_T 155)).lookup 49 = some (.iconst 0, 1, 0, 0, 0) := by decide +kernel
theorem l155_50 : (ax_dt (ax_T 155)).lookup 50 = some (.istore_n 2, 1, 0, 0, 0) := by decide +kernel
theorem l155_51 : (ax_dt (ax_T 155)).lookup 51 = some (.iinc 3 1, 3, 0, 0, 0) := by decide +kernel
theorem l155_54 : (ax_dt (ax_T 155)).lookup 54 = some (.goto (-36), 3, 0, 0, 0) := by decide +kernel
theorem l155_57 : (ax_dt (ax_T 155)).lookup 57 = some (.iload_n 2, 1, 0, 0, 0) := by decide +kernel
theorem l155_58 : (ax_dt (ax_T 155)).lookup 58 = some (.ireturn, 1, 0, 0, 0) := by decide +kernel
noncomputable def F_X11_areBytes_18 (v1 : Int) (μ : bM) (v2 : Int) (v3 : Int) : Option ((Int × Int) ⊕ (Int)) := if (μ 76 2) ≤ v3 then bG (0 ≤ v2 ∧ v2 ≤ 1) (some (.inr (v2))) else if v2 = 0 then bG (0 ≤ v2 ∧ v2 ≤ 1) (some (.inr (v2))) else if v1 = 10 then bG (0 ≤ v2 ∧ v2 ≤ 1) (some (.inr (v2))) else bG (0 ≤ v3 ∧ v3 < 12000) (if (μ 77 v3.toNat) = 0 then bG (bR (v3 + 1)) (some (.inl (0, (v3 + 1)))) else bG (bR (v3 + 1)) (some (.inl (1, (v3 + 1)))))
noncomputable def F_X11_areBytes (v1 : Int) (μ : bM) : Option (Int) := if 255 < (μ 76 2) then bLoop (fun z => F_X11_areBytes_18 v1 μ z.1 z.2) (0, 0) else bLoop (fun z => F_X11_areBytes_18 v1 μ z.1 z.2) (1, 0)
theorem q_X11_areBytes_18 {L : Nat} {xs : Nat → Int32} {d : Nat} {μ : bM} {v1 : Int} {κ : ((Int × Int) ⊕ (Int)) → Option bX} (hr : ∀ r : Int, κ (.inr r) = (bPc μ) r) (H18 : ∀ (v2 : Int) (v3 : Int), bR v2 → bR v3 → bD L xs (d + 0) 155 18 [(0, .ref 76), (1, bI v1), (2, bI v2), (3, bI v3)] [] μ (κ (.inl (v2, v3))))  (h1 : bR v1) {v2 : Int} (h2 : bR v2) {v3 : Int} (h3 : bR v3) : bD L xs (d + 0) 155 18 [(0, .ref 76), (1, bI v1), (2, bI v2), (3, bI v3)] [] μ ((F_X11_areBytes_18 v1 μ v2 v3).bind κ) := by
  unfold F_X11_areBytes_18
  refine bD.ok fun hk => ?_
  refine b_s (pc' := 19) (lv1 := [(0, .ref 76), (1, bI v1), (2, bI v2), (3, bI v3)]) (st' := [bI v3]) l155_18 (fun _ => rfl) ?_
  refine b_s (pc' := 20) (lv1 := [(0, .ref 76), (1, bI v1), (2, bI v2), (3, bI v3)]) (st' := [.ref 76, bI v3]) l155_19 (fun _ => rfl) ?_
  refine b_gi l155_20 (by rfl) (by decide) (by decide) rfl (b_pc (pc' := 23) rfl ?_)
  refine b_ige (pt := 57) l155_23 h3 (bO_f hk (ci := 9) (by rfl) rfl) (by decide) rfl (fun c1 => ?_) (fun c1 => b_pc (pc' := 26) rfl ?_)
  · refine b_s (pc' := 58) (lv1 := [(0, .ref 76), (1, bI v1), (2, bI v2), (3, bI v3)]) (st' := [bI v2]) l155_57 (fun _ => rfl) ?_
    refine b_g fun g2 => ?_
    exact b_retz l155_58 rfl g2 (hr _)
  · refine b_s (pc' := 27) (lv1 := [(0, .ref 76), (1, bI v1), (2, bI v2), (3, bI v3)]) (st' := [bI v2]) l155_26 (fun _ => rfl) ?_
    refine b_zeq (pt := 57) l155_27 h2 (by decide) rfl (fun c3 => ?_) (fun c3 => b_pc (pc' := 30) rfl ?_)
    · refine b_s (pc' := 58) (lv1 := [(0, .ref 76), (1, bI v1), (2, bI v2), (3, bI v3)]) (st' := [bI v2]) l155_57 (fun _ => rfl) ?_
      refine b_g fun g4 => ?_
      exact b_retz l155_58 rfl g4 (hr _)
    · refine b_s (pc' := 31) (lv1 := [(0, .ref 76), (1, bI v1), (2, bI v2), (3, bI v3)]) (st' := [bI v1]) l155_30 (fun _ => rfl) ?_
      refine b_bipush l155_31 (by decide) (b_pc (pc' := 33) rfl ?_)
      refine b_ieq (pt := 57) l155_33 h1 (by decide) (by decide) rfl (fun c5 => ?_) (fun c5 => b_pc (pc' := 36) rfl ?_)
      · refine b_s (pc' := 58) (lv1 := [(0, .ref 76), (1, bI v1), (2, bI v2), (3, bI v3)]) (st' := [bI v2]) l155_57 (fun _ => rfl) ?_
        refine b_g fun g6 => ?_
        exact b_retz l155_58 rfl g6 (hr _)
      · refine b_s (pc' := 37) (lv1 := [(0, .ref 76), (1, bI v1), (2, bI v2), (3, bI v3)]) (st' := [.ref 76]) l155_36 (fun _ => rfl) ?_
        refine b_gp (q' := 77) (j := 1) l155_37 (by rfl) (by decide) (by decide) rfl hk rfl rfl (b_pc (pc' := 40) rfl ?_)
        refine b_s (pc' := 41) (lv1 := [(0, .ref 76), (1, bI v1), (2, bI v2), (3, bI v3)]) (st' := [bI v3, .ref 77]) l155_40 (fun _ => rfl) ?_
        refine b_g fun g10 => ?_
        refine b_bal l155_41 (by rfl) g10 (b_pc (pc' := 42) rfl ?_)
        refine b_zeq (pt := 49) l155_42 (bO_br hk (by rfl)) (by decide) rfl (fun c7 => ?_) (fun c7 => b_pc (pc' := 45) rfl ?_)
        · refine b_s (pc' := 50) (lv1 := [(0, .ref 76), (1, bI v1), (2, bI v2), (3, bI v3)]) (st' := [bI 0]) l155_49 (fun _ => rfl) ?_
          refine b_w (pc' := 51) (lv1 := ax_st1 [(0, .ref 76), (1, bI v1), (2, bI v2), (3, bI v3)] 2 (bI 0)) (lv' := [(0, .ref 76), (1, bI v1), (2, bI 0), (3, bI v3)]) (st' := []) l155_50 (fun _ => rfl) (bSb rfl (bSb rfl (bSb rfl (bSb rfl bSn)))) ?_
          refine b_inc (lv' := [(0, .ref 76), (1, bI v1), (2, bI 0), (3, bI (v3 + 1))]) l155_51 rfl (by decide +kernel) (bSb rfl (bSb rfl (bSb rfl (bSb rfl bSn)))) fun g8 => (b_pc (pc' := 54) rfl ?_)
          refine b_s (pc' := 18) (lv1 := [(0, .ref 76), (1, bI v1), (2, bI 0), (3, bI (v3 + 1))]) (st' := []) l155_54 (fun _ => rfl) ?_
          refine bD.wk (lv' := [(0, .ref 76), (1, bI v1), (2, bI 0), (3, bI (v3 + 1))]) (bSb rfl (bSb rfl (bSb rfl (bSb rfl bSn)))) ?_
          exact H18 0 (v3 + 1) (by decide) g8
        · refine b_s (pc' := 46) (lv1 := [(0, .ref 76), (1, bI v1), (2, bI v2), (3, bI v3)]) (st' := [bI 1]) l155_45 (fun _ => rfl) ?_
          refine b_s (pc' := 50) (lv1 := [(0, .ref 76), (1, bI v1), (2, bI v2), (3, bI v3)]) (st' := [bI 1]) l155_46 (fun _ => rfl) ?_
          refine b_w (pc' := 51) (lv1 := ax_st1 [(0, .ref 76), (1, bI v1), (2, bI v2), (3, bI v3)] 2 (bI 1)) (lv' := [(0, .ref 76), (1, bI v1), (2, bI 1), (3, bI v3)]) (st' := []) l155_50 (fun _ => rfl) (bSb rfl (bSb rfl (bSb rfl (bSb rfl bSn)))) ?_
          refine b_inc (lv' := [(0, .ref 76), (1, bI v1), (2, bI 1), (3, bI (v3 + 1))]) l155_51 rfl (by decide +kernel) (bSb rfl (bSb rfl (bSb rfl (bSb rfl bSn)))) fun g9 => (b_pc (pc' := 54) rfl ?_)
          refine b_s (pc' := 18) (lv1 := [(0, .ref 76), (1, bI v1), (2, bI 1), (3, bI (v3 + 1))]) (st' := []) l155_54 (fun _ => rfl) ?_
          refine bD.wk (lv' := [(0, .ref 76), (1, bI v1), (2, bI 1), (3, bI (v3 + 1))]) (bSb rfl (bSb rfl (bSb rfl (bSb rfl bSn)))) ?_
          exact H18 1 (v3 + 1) (by decide) g9
theorem p_X11_areBytes_18 {L : Nat} {xs : Nat → Int32} {d : Nat} {μ : bM}  {κ : (Int) → Option bX} (hr : ∀ r : Int, κ r = (bPc μ) r)  {v1 : Int} (h1 : bR v1) {v2 : Int} (h2 : bR v2) {v3 : Int} (h3 : bR v3) : bD L xs (d + 0) 155 18 [(0, .ref 76), (1, bI v1), (2, bI v2), (3, bI v3)] [] μ ((bLoop (fun z => F_X11_areBytes_18 v1 μ z.1 z.2) (v2, v3)).bind κ) :=
  b_loop (fun z => [(0, .ref 76), (1, bI v1), (2, bI z.1), (3, bI z.2)]) (fun z => μ) (fun z => bR z.1 ∧ bR z.2) (fun κ' hκ HH z hz => q_X11_areBytes_18 (κ := κ') (fun r => (hκ _).trans (hr r)) (fun a2 a3 b2 b3 => HH (a2, a3) ⟨b2, b3⟩)  h1 hz.1 hz.2) (v2, v3) ⟨h2, h3⟩
theorem r_X11_areBytes {L : Nat} {xs : Nat → Int32} {d : Nat} {μ : bM}  (v1 : Int) (h1 : bR v1) : bD L xs (d + 0) 155 0 [(0, .ref 76), (1, bI v1)] [] μ ((F_X11_areBytes v1 μ).bind (bPc μ)) := by
  have hr : ∀ r, (bPc μ) r = (bPc μ) r := fun _ => rfl
  unfold F_X11_areBytes
  refine bD.ok fun hk => ?_
  refine b_s (pc' := 1) (lv1 := [(0, .ref 76), (1, bI v1)]) (st' := [.ref 76]) l155_0 (fun _ => rfl) ?_
  refine b_gi l155_1 (by rfl) (by decide) (by decide) rfl (b_pc (pc' := 4) rfl ?_)
  refine b_sipush l155_4 (by decide) (b_pc (pc' := 7) rfl ?_)
  refine b_igt (pt := 14) l155_7 (bO_f hk (ci := 9) (by rfl) rfl) (by decide) (by decide) rfl (fun c1 => ?_) (fun c1 => b_pc (pc' := 10) rfl ?_)
  · refine b_s (pc' := 15) (lv1 := [(0, .ref 76), (1, bI v1)]) (st' := [bI 0]) l155_14 (fun _ => rfl) ?_
    refine b_w (pc' := 16) (lv1 := ax_st1 [(0, .ref 76), (1, bI v1)] 2 (bI 0)) (lv' := [(0, .ref 76), (1, bI v1), (2, bI 0)]) (st' := []) l155_15 (fun _ => rfl) (bSb rfl (bSb rfl (bSb rfl bSn))) ?_
    refine b_s (pc' := 17) (lv1 := [(0, .ref 76), (1, bI v1), (2, bI 0)]) (st' := [bI 0]) l155_16 (fun _ => rfl) ?_
    refine b_w (pc' := 18) (lv1 := ax_st1 [(0, .ref 76), (1, bI v1), (2, bI 0)] 3 (bI 0)) (lv' := [(0, .ref 76), (1, bI v1), (2, bI 0), (3, bI 0)]) (st' := []) l155_17 (fun _ => rfl) (bSb rfl (bSb rfl (bSb rfl (bSb rfl bSn)))) ?_
    refine bD.wk (lv' := [(0, .ref 76), (1, bI v1), (2, bI 0), (3, bI 0)]) (bSb rfl (bSb rfl (bSb rfl (bSb rfl bSn)))) ?_
    exact p_X11_areBytes_18 hr h1 (by decide) (by decide)
  · refine b_s (pc' := 11) (lv1 := [(0, .ref 76), (1, bI v1)]) (st' := [bI 1]) l155_10 (fun _ => rfl) ?_
    refine b_s (pc' := 15) (lv1 := [(0, .ref 76), (1, bI v1)]) (st' := [bI 1]) l155_11 (fun _ => rfl) ?_
    refine b_w (pc' := 16) (lv1 := ax_st1 [(0, .ref 76), (1, bI v1)] 2 (bI 1)) (lv' := [(0, .ref 76), (1, bI v1), (2, bI 1)]) (st' := []) l155_15 (fun _ => rfl) (bSb rfl (bSb rfl (bSb rfl bSn))) ?_
    refine b_s (pc' := 17) (lv1 := [(0, .ref 76), (1, bI v1), (2, bI 1)]) (st' := [bI 0]) l155_16 (fun _ => rfl) ?_
    refine b_w (pc' := 18) (lv1 := ax_st1 [(0, .ref 76), (1, bI v1), (2, bI 1)] 3 (bI 0)) (lv' := [(0, .ref 76), (1, bI v1), (2, bI 1), (3, bI 0)]) (st' := []) l155_17 (fun _ => rfl) (bSb rfl (bSb rfl (bSb rfl (bSb rfl bSn)))) ?_
    refine bD.wk (lv' := [(0, .ref 76), (1, bI v1), (2, bI 1), (3, bI 0)]) (bSb rfl (bSb rfl (bSb rfl (bSb rfl bSn)))) ?_
    exact p_X11_areBytes_18 hr h1 (by decide) (by decide)
/-! ETModel.bytes -/
theorem l156_0 : (ax_dt (ax_T 156)).lookup 0 = some (.aload_n 0, 1, 0, 0, 0) := by decide +kernel
theorem l156_1 : (ax_dt (ax_T 156)).lookup 1 = some (.aload_n 0, 1, 0, 0, 0) := by decide +kernel
theorem l156_2 : (ax_dt (ax_T 156)).lookup 2 = some (.iload_n 1, 1, 0, 0, 0) := by decide +kernel
theorem l156_3 : (ax_dt (ax_T 156)).lookup 3 = some (.invokevirtual 152, 3, 141, 1, 0) := by decide +kernel
theorem l156_6 : (ax_dt (ax_T 156)).lookup 6 = some (.ifCond .ne 7, 3, 0, 0, 0) := by decide +kernel
theorem l156_9 : (ax_dt (ax_T 156)).lookup 9 = some (.iconst 1, 1, 0, 0, 0) := by decide +kernel
theorem l156_10 : (ax_dt (ax_T 156)).lookup 10 = some (.goto 77, 3, 0, 0, 0) := by decide +kernel
theorem l156_13 : (ax_dt (ax_T 156)).lookup 13 = some (.iload_n 2, 1, 0, 0, 0) := by decide +kernel
theorem l156_14 : (ax_dt (ax_T 156)).lookup 14 = some (.invokestatic 144, 3, 139, 1, 0) := by decide +kernel
theorem l156_17 : (ax_dt (ax_T 156)).lookup 17 = some (.ifCond .eq 33, 3, 0, 0, 0) := by decide +kernel
theorem l156_20 : (ax_dt (ax_T 156)).lookup 20 = some (.iload_n 3, 1, 0, 0, 0) := by decide +kernel
theorem l156_21 : (ax_dt (ax_T 156)).lookup 21 = some (.invokestatic 163, 3, 147, 1, 0) := by decide +kernel
theorem l156_24 : (ax_dt (ax_T 156)).lookup 24 = some (.ifCond .ne 9, 3, 0, 0, 0) := by decide +kernel
theorem l156_27 : (ax_dt (ax_T 156)).lookup 27 = some (.iload_n 3, 1, 0, 0, 0) := by decide +kernel
theorem l156_28 : (ax_dt (ax_T 156)).lookup 28 = some (.bipush 10, 2, 0, 0, 0) := by decide +kernel
theorem l156_30 : (ax_dt (ax_T 156)).lookup 30 = some (.if_icmp .ne 20, 3, 0, 0, 0) := by decide +kernel
theorem l156_33 : (ax_dt (ax_T 156)).lookup 33 = some (.aload_n 0, 1, 0, 0, 0) := by decide +kernel
theorem l156_34 : (ax_dt (ax_T 156)).lookup 34 = some (.iload_n 3, 1, 0, 0, 0) := by decide +kernel
theorem l156_35 : (ax_dt (ax_T 156)).lookup 35 = some (.invokevirtual 192, 3, 155, 1, 0) := by decide +kernel
theorem l156_38 : (ax_dt (ax_T 156)).lookup 38 = some (.ifCond .eq 12, 3, 0, 0, 0) := by decide +kernel
theorem l156_41 : (ax_dt (ax_T 156)).lookup 41 = some (.aload_n 0, 1, 0, 0, 0) := by decide +kernel
theorem l156_42 : (ax_dt (ax_T 156)).lookup 42 = some (.iload_n 1, 1, 0, 0, 0) := by decide +kernel
theorem l156_43 : (ax_dt (ax_T 156)).lookup 43 = some (.iload_n 2, 1, 0, 0, 0) := by decide +kernel
theorem l156_44 : (ax_dt (ax_T 156)).lookup 44 = some (.invokevirtual 181, 3, 151, 2, 0) := by decide +kernel
theorem l156_47 : (ax_dt (ax_T 156)).lookup 47 = some (.ifCond .eq 7, 3, 0, 0, 0) := by decide +kernel
theorem l156_50 : (ax_dt (ax_T 156)).lookup 50 = some (.iconst 2, 1, 0, 0, 0) := by decide +kernel
theorem l156_51 : (ax_dt (ax_T 156)).lookup 51 = some (.goto 36, 3, 0, 0, 0) := by decide +kernel
theorem l156_54 : (ax_dt (ax_T 156)).lookup 54 = some (.aload_n 0, 1, 0, 0, 0) := by decide +kernel
theorem l156_55 : (ax_dt (ax_T 156)).lookup 55 = some (.iload_n 1, 1, 0, 0, 0) := by decide +kernel
theorem l156_56 : (ax_dt (ax_T 156)).lookup 56 = some (.invokevirtual 185, 3, 153, 1, 0) := by decide +kernel
theorem l156_59 : (ax_dt (ax_T 156)).lookup 59 = some (.ifCond .ne 23, 3, 0, 0, 0) := by decide +kernel
theorem l156_62 : (ax_dt (ax_T 156)).lookup 62 = some (.aload_n 0, 1, 0, 0, 0) := by decide +kernel
theorem l156_63 : (ax_dt (ax_T 156)).lookup 63 = some (.getfield 51, 3, 9, 16, 0) := by decide +kernel
theorem l156_66 : (ax_dt (ax_T 156)).lookup 66 = some (.aload_n 0, 1, 0, 0, 0) := by decide +kernel
theorem l156_67 : (ax_dt (ax_T 156)).lookup 67 = some (.getfield 137, 3, 9, 3, 0) := by decide +kernel
theorem l156_70 : (ax_dt (ax_T 156)).lookup 70 = some (.iaload, 1, 0, 0, 0) := by decide +kernel
theorem l156_71 : (ax_dt (ax_T 156)).lookup 71 = some (.aload_n 0, 1, 0, 0, 0) := by decide +kernel
theorem l156_72 : (ax_dt (ax_T 156)).lookup 72 = some (.getfield 124, 3, 9, 2, 0) := by decide +kernel
theorem l156_75 : (ax_dt (ax_T 156)).lookup 75 = some (.iadd, 1, 0, 0, 0) := by decide +kernel
theorem l156_76 : (ax_dt (ax_T 156)).lookup 76 = some (.sipush 30000, 3, 0, 0, 0) := by decide +kernel
theorem l156_79 : (ax_dt (ax_T 156)).lookup 79 = some (.if_icmp .le 7, 3, 0, 0, 0) := by decide +kernel
theorem l156_82 : (ax_dt (ax_T 156)).lookup 82 = some (.iconst 3, 1, 0, 0, 0) := by decide +kernel
theorem l156_83 : (ax_dt (ax_T 156)).lookup 83 = some (.goto 4, 3, 0, 0, 0) := by decide +kernel
theorem l156_86 : (ax_dt (ax_T 156)).lookup 86 = some (.iconst 0, 1, 0, 0, 0) := by decide +kernel
theorem l156_87 : (ax_dt (ax_T 156)).lookup 87 = some (.putfield 120, 3, 9, 0, 0) := by decide +kernel
theorem l156_90 : (ax_dt (ax_T 156)).lookup 90 = some (.aload_n 0, 1, 0, 0, 0) := by decide +kernel
theorem l156_91 : (ax_dt (ax_T 156)).lookup 91 = some (.getfield 120, 3, 9, 0, 0) := by decide +kernel
theorem l156_94 : (ax_dt (ax_T 156)).lookup 94 = some (.ifCond .le 5, 3, 0, 0, 0) := by decide +kernel
theorem l156_97 : (ax_dt (ax_T 156)).lookup 97 = some (.iconst 0, 1, 0, 0, 0) := by decide +kernel
theorem l156_98 : (ax_dt (ax_T 156)).lookup 98 = some (.ireturn, 1, 0, 0, 0) := by decide +kernel
theorem l156_99 : (ax_dt (ax_T 156)).lookup 99 = some (.aload_n 0, 1, 0, 0, 0) := by decide +kernel
theorem l156_100 : (ax_dt (ax_T 156)).lookup 100 = some (.iload_n 1, 1, 0, 0, 0) := by decide +kernel
theorem l156_101 : (ax_dt (ax_T 156)).lookup 101 = some (.iload_n 2, 1, 0, 0, 0) := by decide +kernel
theorem l156_102 : (ax_dt (ax_T 156)).lookup 102 = some (.iload_n 3, 1, 0, 0, 0) := by decide +kernel
theorem l156_103 : (ax_dt (ax_T 156)).lookup 103 = some (.lconst 0, 1, 0, 0, 0) := by decide +kernel
theorem l156_104 : (ax_dt (ax_T 156)).lookup 104 = some (.invokevirtual 188, 3, 152, 4, 0) := by decide +kernel
theorem l156_107 : (ax_dt (ax_T 156)).lookup 107 = some (.istore 4, 2, 0, 0, 0) := by decide +kernel
theorem l156_109 : (ax_dt (ax_T 156)).lookup 109 = some (.bipush 8, 2, 0, 0, 0) := by decide +kernel
theorem l156_111 : (ax_dt (ax_T 156)).lookup 111 = some (.aload_n 0, 1, 0, 0, 0) := by decide +kernel
theorem l156_112 : (ax_dt (ax_T 156)).lookup 112 = some (.iload_n 1, 1, 0, 0, 0) := by decide +kernel
theorem l156_113 : (ax_dt (ax_T 156)).lookup 113 = some (.invokevirtual 140, 3, 140, 1, 0) := by decide +kernel
theorem l156_116 : (ax_dt (ax_T 156)).lookup 116 = some (.imul, 1, 0, 0, 0) := by decide +kernel
theorem l156_117 : (ax_dt (ax_T 156)).lookup 117 = some (.iload 4, 2, 0, 0, 0) := by decide +kernel
theorem l156_119 : (ax_dt (ax_T 156)).lookup 119 = some (.iadd, 1, 0, 0, 0) := by decide +kernel
theorem l156_120 : (ax_dt (ax_T 156)).lookup 120 = some (.iconst 1, 1, 0, 0, 0) := by decide +kernel
theorem l156_121 : (ax_dt (ax_T 156)).lookup 121 = some (.isub, 1, 0, 0, 0) := by decide +kernel
theorem l156_122 : (ax_dt (ax_T 156)).lookup 122 = some (.istore 5, 2, 0, 0, 0) := by decide +kernel
theorem l156_124 : (ax_dt (ax_T 156)).lookup 124 = some (.aload_n 0, 1, 0, 0, 0) := by decide +kernel
theorem l156_125 : (ax_dt (ax_T 156)).lookup 125 = some (.getfield 45, 3, 9, 14, 0) := by decide +kernel
theorem l156_128 : (ax_dt (ax_T 156)).lookup 128 = some (.iload 5, 2, 0, 0, 0) := by decide +kernel
theorem l156_130 : (ax_dt (ax_T 156)).lookup 130 = some (.ldc 195, 2, 0, 0, 90000) := by decide +kernel
theorem l156_132 : (ax_dt (ax_T 156)).lookup 132 = some (.aload_n 0, 1, 0, 0, 0) := by decide +kernel
theorem l156_133 : (ax_dt (ax_T 156)).lookup 133 = some (.getfield 137, 3, 9, 3, 0) := by decide +kernel
theorem l156_136 : (ax_dt (ax_T 156)).lookup 136 = some (.imul, 1, 0, 0, 0) := by decide +kernel
theorem l156_137 : (ax_dt (ax_T 156)).lookup 137 = some (.aload_n 0, 1, 0, 0, 0) := by decide +kernel
theorem l156_138 : (ax_dt (ax_T 156)).lookup 138 = some (.getfield 54, 3, 9, 17, 0) := by decide +kernel
theorem l156_141 : (ax_dt (ax_T 156)).lookup 141 = some (.aload_n 0, 1, 0, 0, 0) := by decide +kernel
theorem l156_142 : (ax_dt (ax_T 156)).lookup 142 = some (.getfield 137, 3, 9, 3, 0) := by decide +kernel
theorem l156_145 : (ax_dt (ax_T 156)).lookup 145 = some (.iaload, 1, 0, 0, 0) := by decide +kernel
theorem l156_146 : (ax_dt (ax_T 156)).lookup 146 = some (.iadd, 1, 0, 0, 0) := by decide +kernel
theorem l156_147 : (ax_dt (ax_T 156)).lookup 147 = some (.iastore, 1, 0, 0, 0) := by decide +kernel
theorem l156_148 : (ax_dt (ax_T 156)).lookup 148 = some (.aload_n 0, 1, 0, 0, 0) := by decide +kernel
theorem l156_149 : (ax_dt (ax_T 156)).lookup 149 = some (.getfield 48, 3, 9, 15, 0) := by decide +kernel
theorem l156_152 : (ax_dt (ax_T 156)).lookup 152 = some (.iload 5, 2, 0, 0, 0) := by decide +kernel
theorem l156_154 : (ax_dt (ax_T 156)).lookup 154 = some (.aload_n 0, 1, 0, 0, 0) := by decide +kernel
theorem l156_155 : (ax_dt (ax_T 156)).lookup 155 = some (.getfield 124, 3, 9, 2, 0) := by decide +kernel
theorem l156_158 : (ax_dt (ax_T 156)).lookup 158 = some (.iastore, 1, 0, 0, 0) := by decide +kernel
theorem l156_159 : (ax_dt (ax_T 156)).lookup 159 = some (.aload_n 0, 1, 0, 0, 0) := by decide +kernel
theorem l156_160 : (ax_dt (ax_T 156)).lookup 160 = some (.getfield 51, 3, 9, 16, 0) := by decide +kernel
theorem l156_163 : (ax_dt (ax_T 156)).lookup 163 = some (.aload_n 0, 1, 0, 0, 0) := by decide +kernel
theorem l156_164 : (ax_dt (ax_T 156)).lookup 164 = some (.getfield 137, 3, 9, 3, 0) := by decide +kernel
theorem l156_167 : (ax_dt (ax_T 156)).lookup 167 = some (.aload_n 0, 1, 0, 0, 0) := by decide +kernel
theorem l156_168 : (ax_dt (ax_T 156)).lookup 168 = some (.getfield 51, 3, 9, 16, 0) := by decide +kernel
theorem l156_171 : (ax_dt (ax_T 156)).lookup 171 = some (.aload_n 0, 1, 0, 0, 0) := by decide +kernel
theorem l156_172 : (ax_dt (ax_T 156)).lookup 172 = some (.getfield 137, 3, 9, 3, 0) := by decide +kernel
theorem l156_175 : (ax_dt (ax_T 156)).lookup 175 = some (.iaload, 1, 0, 0, 0) := by decide +kernel
theorem l156_176 : (ax_dt (ax_T 156)).lookup 176 = some (.aload_n 0, 1, 0, 0, 0) := by decide +kernel
theorem l156_177 : (ax_dt (ax_T 156)).lookup 177 = some (.getfield 124, 3, 9, 2, 0) := by decide +kernel
theorem l156_180 : (ax_dt (ax_T 156)).lookup 180 = some (.iadd, 1, 0, 0, 0) := by decide +kernel
theorem l156_181 : (ax_dt (ax_T 156)).lookup 181 = some (.iastore, 1, 0, 0, 0) := by decide +kernel
theorem l156_182 : (ax_dt (ax_T 156)).lookup 182 = some (.iconst 0, 1, 0, 0, 0) := by decide +kernel
theorem l156_183 : (ax_dt (ax_T 156)).lookup 183 = some (.istore 6, 2, 0, 0, 0) := by decide +kernel
theorem l156_185 : (ax_dt (ax_T 156)).lookup 185 = some (.iload 6, 2, 0, 0, 0) := by decide +kernel
theorem l156_187 : (ax_dt (ax_T 156)).lookup 187 = some (.aload_n 0, 1, 0, 0, 0) := by decide +kernel
theorem l156_188 : (ax_dt (ax_T 156)).lookup 188 = some (.getfield 124, 3, 9, 2, 0) := by decide +kernel
theorem l156_191 : (ax_dt (ax_T 156)).lookup 191 = some (.if_icmp .ge 31, 3, 0, 0, 0) := by decide +kernel
theorem l156_194 : (ax_dt (ax_T 156)).lookup 194 = some (.aload_n 0, 1, 0, 0, 0) := by decide +kernel
theorem l156_195 : (ax_dt (ax_T 156)).lookup 195 = some (.getfield 58, 3, 9, 18, 0) := by decide +kernel
theorem l156_198 : (ax_dt (ax_T 156)).lookup 198 = some (.aload_n 0, 1, 0, 0, 0) := by decide +kernel
theorem l156_199 : (ax_dt (ax_T 156)).lookup 199 = some (.getfield 45, 3, 9, 14, 0) := by decide +kernel
theorem l156_202 : (ax_dt (ax_T 156)).lookup 202 = some (.iload 5, 2, 0, 0, 0) := by decide +kernel
theorem l156_204 : (ax_dt (ax_T 156)).lookup 204 = some (.iaload, 1, 0, 0, 0) := by decide +kernel
theorem l156_205 : (ax_dt (ax_T 156)).lookup 205 = some (.iload 6, 2, 0, 0, 0) := by decide +kernel
theorem l156_207 : (ax_dt (ax_T 156)).lookup 207 = some (.iadd, 1, 0, 0, 0) := by decide +kernel
theorem l156_208 : (ax_dt (ax_T 156)).lookup 208 = some (.aload_n 0, 1, 0, 0, 0) := by decide +kernel
theorem l156_209 : (ax_dt (ax_T 156)).lookup 209 = some (.getfield 7, 3, 9, 1, 0) := by decide +kernel
theorem l156_212 : (ax_dt (ax_T 156)).lookup 212 = some (.iload 6, 2, 0, 0, 0) := by decide +kernel
theorem l156_214 : (ax_dt (ax_T 156)).lookup 214 = some (.baload, 1, 0, 0, 0) := by decide +kernel
theorem l156_215 : (ax_dt (ax_T 156)).lookup 215 = some (.bastore, 1, 0, 0, 0) := by decide +kernel
theorem l156_216 : (ax_dt (ax_T 156)).lookup 216 = some (.iinc 6 1, 3, 0, 0, 0) := by decide +kernel
theorem l156_219 : (ax_dt (ax_T 156)).lookup 219 = some (.goto (-34), 3, 0, 0, 0) := by decide +kernel
theorem l156_222 : (ax_dt (ax_T 156)).lookup 222 = some (.aload_n 0, 1, 0, 0, 0) := by decide +kernel
theorem l156_223 : (ax_dt (ax_T 156)).lookup 223 = some (.getfield 54, 3, 9, 17, 0) := by decide +kernel
theorem l156_226 : (ax_dt (ax_T 156)).lookup 226 = some (.aload_n 0, 1, 0, 0, 0) := by decide +kernel
theorem l156_227 : (ax_dt (ax_T 156)).lookup 227 = some (.getfield 137, 3, 9, 3, 0) := by decide +kernel
theorem l156_230 : (ax_dt (ax_T 156)).lookup 230 = some (.aload_n 0, 1, 0, 0, 0) := by decide +kernel
theorem l156_231 : (ax_dt (ax_T 156)).lookup 231 = some (.getfield 54, 3, 9, 17, 0) := by decide +kernel
theorem l156_234 : (ax_dt (ax_T 156)).lookup 234 = some (.aload_n 0, 1, 0, 0, 0) := by decide +kernel
theorem l156_235 : (ax_dt (ax_T 156)).lookup 235 = some (.getfield 137, 3, 9, 3, 0) := by decide +kernel
theorem l156_238 : (ax_dt (ax_T 156)).lookup 238 = some (.iaload, 1, 0, 0, 0) := by decide +kernel
theorem l156_239 : (ax_dt (ax_T 156)).lookup 239 = some (.aload_n 0, 1, 0, 0, 0) := by decide +kernel
theorem l156_240 : (ax_dt (ax_T 156)).lookup 240 = some (.getfield 124, 3, 9, 2, 0) := by decide +kernel
theorem l156_243 : (ax_dt (ax_T 156)).lookup 243 = some (.iadd, 1, 0, 0, 0) := by decide +kernel
theorem l156_244 : (ax_dt (ax_T 156)).lookup 244 = some (.iastore, 1, 0, 0, 0) := by decide +kernel
theorem l156_245 : (ax_dt (ax_T 156)).lookup 245 = some (.aload_n 0, 1, 0, 0, 0) := by decide +kernel
theorem l156_246 : (ax_dt (ax_T 156)).lookup 246 = some (.iconst 0, 1, 0, 0, 0) := by decide +kernel
theorem l156_247 : (ax_dt (ax_T 156)).lookup 247 = some (.putfield 124, 3, 9, 2, 0) := by decide +kernel
theorem l156_250 : (ax_dt (ax_T 156)).lookup 250 = some (.iload 4, 2, 0, 0, 0) := by decide +kernel
theorem l156_252 : (ax_dt (ax_T 156)).lookup 252 = some (.ireturn, 1, 0, 0, 0) := by decide +kernel
noncomputable def F_X11_bytes_222 (v4 : Int) (μ : bM) : Option (Int × bM) := bG (0 ≤ (μ 76 3) ∧ (μ 76 3) < 2) (bG (bR ((μ 91 (μ 76 3).toNat) + (μ 76 2))) (bG (0 ≤ (μ 76 3) ∧ (μ 76 3) < 2) (some (v4, (bset (bset μ 91 (μ 76 3).toNat ((μ 91 (μ 76 3).toNat) + (μ 76 2))) 76 2 0)))))
noncomputable def F_X11_bytes_185 (v4 : Int) (v5 : Int) (v6 : Int) (μ : bM) : Option ((Int × bM) ⊕ (Int × bM)) := if (μ 76 2) ≤ v6 then bUp (F_X11_bytes_222 v4 μ) else bG (0 ≤ v5 ∧ v5 < 6400) (bG (bR ((μ 88 v5.toNat) + v6)) (bG (0 ≤ v6 ∧ v6 < 12000) (bG (0 ≤ ((μ 88 v5.toNat) + v6) ∧ ((μ 88 v5.toNat) + v6) < 180000) (bG (bR (v6 + 1)) (some (.inl ((v6 + 1), (bset μ 92 ((μ 88 v5.toNat) + v6).toNat (μ 77 v6.toNat)))))))))
noncomputable def F_X11_bytes_87 (v1 : Int) (v2 : Int) (v3 : Int) (y1 : Int) (μ : bM) : Option (Int × bM) := if ((bset μ 76 0 y1) 76 0) ≤ 0 then bMm (F_X11_add v1 v2 v3 0 (bset μ 76 0 y1)) (fun w3 μ4 => (F_X11_at v1 μ4).bind fun w6 => bG (bR (8 * w6)) (bG (bR ((8 * w6) + w3)) (bG (bR (((8 * w6) + w3) - 1)) (bG (bR (90000 * (μ4 76 3))) (bG (0 ≤ (μ4 76 3) ∧ (μ4 76 3) < 2) (bG (bR ((90000 * (μ4 76 3)) + (μ4 91 (μ4 76 3).toNat))) (bG (0 ≤ (((8 * w6) + w3) - 1) ∧ (((8 * w6) + w3) - 1) < 6400) (bG (0 ≤ (((8 * w6) + w3) - 1) ∧ (((8 * w6) + w3) - 1) < 6400) (bG (0 ≤ ((bset (bset μ4 88 (((8 * w6) + w3) - 1).toNat ((90000 * (μ4 76 3)) + (μ4 91 (μ4 76 3).toNat))) 89 (((8 * w6) + w3) - 1).toNat ((bset μ4 88 (((8 * w6) + w3) - 1).toNat ((90000 * (μ4 76 3)) + (μ4 91 (μ4 76 3).toNat))) 76 2)) 76 3) ∧ ((bset (bset μ4 88 (((8 * w6) + w3) - 1).toNat ((90000 * (μ4 76 3)) + (μ4 91 (μ4 76 3).toNat))) 89 (((8 * w6) + w3) - 1).toNat ((bset μ4 88 (((8 * w6) + w3) - 1).toNat ((90000 * (μ4 76 3)) + (μ4 91 (μ4 76 3).toNat))) 76 2)) 76 3) < 2) (bG (bR (((bset (bset μ4 88 (((8 * w6) + w3) - 1).toNat ((90000 * (μ4 76 3)) + (μ4 91 (μ4 76 3).toNat))) 89 (((8 * w6) + w3) - 1).toNat ((bset μ4 88 (((8 * w6) + w3) - 1).toNat ((90000 * (μ4 76 3)) + (μ4 91 (μ4 76 3).toNat))) 76 2)) 90 ((bset (bset μ4 88 (((8 * w6) + w3) - 1).toNat ((90000 * (μ4 76 3)) + (μ4 91 (μ4 76 3).toNat))) 89 (((8 * w6) + w3) - 1).toNat ((bset μ4 88 (((8 * w6) + w3) - 1).toNat ((90000 * (μ4 76 3)) + (μ4 91 (μ4 76 3).toNat))) 76 2)) 76 3).toNat) + ((bset (bset μ4 88 (((8 * w6) + w3) - 1).toNat ((90000 * (μ4 76 3)) + (μ4 91 (μ4 76 3).toNat))) 89 (((8 * w6) + w3) - 1).toNat ((bset μ4 88 (((8 * w6) + w3) - 1).toNat ((90000 * (μ4 76 3)) + (μ4 91 (μ4 76 3).toNat))) 76 2)) 76 2))) (bG (0 ≤ ((bset (bset μ4 88 (((8 * w6) + w3) - 1).toNat ((90000 * (μ4 76 3)) + (μ4 91 (μ4 76 3).toNat))) 89 (((8 * w6) + w3) - 1).toNat ((bset μ4 88 (((8 * w6) + w3) - 1).toNat ((90000 * (μ4 76 3)) + (μ4 91 (μ4 76 3).toNat))) 76 2)) 76 3) ∧ ((bset (bset μ4 88 (((8 * w6) + w3) - 1).toNat ((90000 * (μ4 76 3)) + (μ4 91 (μ4 76 3).toNat))) 89 (((8 * w6) + w3) - 1).toNat ((bset μ4 88 (((8 * w6) + w3) - 1).toNat ((90000 * (μ4 76 3)) + (μ4 91 (μ4 76 3).toNat))) 76 2)) 76 3) < 2) (bLoop (fun z => F_X11_bytes_185 w3 (((8 * w6) + w3) - 1) z.1 z.2) (0, (bset (bset (bset μ4 88 (((8 * w6) + w3) - 1).toNat ((90000 * (μ4 76 3)) + (μ4 91 (μ4 76 3).toNat))) 89 (((8 * w6) + w3) - 1).toNat ((bset μ4 88 (((8 * w6) + w3) - 1).toNat ((90000 * (μ4 76 3)) + (μ4 91 (μ4 76 3).toNat))) 76 2)) 90 ((bset (bset μ4 88 (((8 * w6) + w3) - 1).toNat ((90000 * (μ4 76 3)) + (μ4 91 (μ4 76 3).toNat))) 89 (((8 * w6) + w3) - 1).toNat ((bset μ4 88 (((8 * w6) + w3) - 1).toNat ((90000 * (μ4 76 3)) + (μ4 91 (μ4 76 3).toNat))) 76 2)) 76 3).toNat (((bset (bset μ4 88 (((8 * w6) + w3) - 1).toNat ((90000 * (μ4 76 3)) + (μ4 91 (μ4 76 3).toNat))) 89 (((8 * w6) + w3) - 1).toNat ((bset μ4 88 (((8 * w6) + w3) - 1).toNat ((90000 * (μ4 76 3)) + (μ4 91 (μ4 76 3).toNat))) 76 2)) 90 ((bset (bset μ4 88 (((8 * w6) + w3) - 1).toNat ((90000 * (μ4 76 3)) + (μ4 91 (μ4 76 3).toNat))) 89 (((8 * w6) + w3) - 1).toNat ((bset μ4 88 (((8 * w6) + w3) - 1).toNat ((90000 * (μ4 76 3)) + (μ4 91 (μ4 76 3).toNat))) 76 2)) 76 3).toNat) + ((bset (bset μ4 88 (((8 * w6) + w3) - 1).toNat ((90000 * (μ4 76 3)) + (μ4 91 (μ4 76 3).toNat))) 89 (((8 * w6) + w3) - 1).toNat ((bset μ4 88 (((8 * w6) + w3) - 1).toNat ((90000 * (μ4 76 3)) + (μ4 91 (μ4 76 3).toNat))) 76 2)) 76 2)))))))))))))))) else some (0, (bset μ 76 0 y1))
noncomputable def F_X11_bytes_50 (v1 : Int) (v2 : Int) (v3 : Int) (μ : bM) : Option (Int × bM) := F_X11_bytes_87 v1 v2 v3 2 μ
noncomputable def F_X11_bytes_82 (v1 : Int) (v2 : Int) (v3 : Int) (μ : bM) : Option (Int × bM) := F_X11_bytes_87 v1 v2 v3 3 μ
noncomputable def F_X11_bytes_33 (v1 : Int) (v2 : Int) (v3 : Int) (μ : bM) : Option (Int × bM) := (F_X11_areBytes v3 μ).bind fun w1 => if w1 = 0 then F_X11_bytes_50 v1 v2 v3 μ else (F_X11_isTold v1 v2 μ).bind fun w3 => if w3 = 0 then (F_X11_isFull v1 μ).bind fun w5 => if ¬ w5 = 0 then F_X11_bytes_82 v1 v2 v3 μ else bG (0 ≤ (μ 76 3) ∧ (μ 76 3) < 2) (bG (bR ((μ 90 (μ 76 3).toNat) + (μ 76 2))) (if ((μ 90 (μ 76 3).toNat) + (μ 76 2)) ≤ 30000 then F_X11_bytes_87 v1 v2 v3 0 μ else F_X11_bytes_82 v1 v2 v3 μ)) else F_X11_bytes_50 v1 v2 v3 μ
noncomputable def F_X11_bytes (v1 : Int) (v2 : Int) (v3 : Int) (μ : bM) : Option (Int × bM) := (F_X11_isEntry v1 μ).bind fun w1 => if ¬ w1 = 0 then (F_X11_isName v2 μ).bind fun w3 => if w3 = 0 then F_X11_bytes_50 v1 v2 v3 μ else (F_X11_isText v3 μ).bind fun w5 => if ¬ w5 = 0 then F_X11_bytes_33 v1 v2 v3 μ else if ¬ v3 = 10 then F_X11_bytes_50 v1 v2 v3 μ else F_X11_bytes_33 v1 v2 v3 μ else F_X11_bytes_87 v1 v2 v3 1 μ
theorem p_X11_bytes_222 {L : Nat} {xs : Nat → Int32} {d : Nat} {μ : bM}  {κ : (Int × bM) → Option bX} (hr : ∀ r : Int × bM, κ r = (bMc) r)  {v4 : Int} (h4 : bR v4) : bD L xs (d + 2) 156 222 [(0, .ref 76), (4, bI v4)] [] μ ((F_X11_bytes_222 v4 μ).bind κ) := by
  unfold F_X11_bytes_222
  refine bD.ok fun hk => ?_
  refine b_s (pc' := 223) (lv1 := [(0, .ref 76), (4, bI v4)]) (st' := [.ref 76]) l156_222 (fun _ => rfl) ?_
  refine b_gp (q' := 91) (j := 15) l156_223 (by rfl) (by decide) (by decide) rfl hk rfl rfl (b_pc (pc' := 226) rfl ?_)
  refine b_s (pc' := 227) (lv1 := [(0, .ref 76), (4, bI v4)]) (st' := [.ref 76, .ref 91]) l156_226 (fun _ => rfl) ?_
  refine b_gi l156_227 (by rfl) (by decide) (by decide) rfl (b_pc (pc' := 230) rfl ?_)
  refine b_s (pc' := 231) (lv1 := [(0, .ref 76), (4, bI v4)]) (st' := [.ref 76, bI (μ 76 3), .ref 91]) l156_230 (fun _ => rfl) ?_
  refine b_gp (q' := 91) (j := 15) l156_231 (by rfl) (by decide) (by decide) rfl hk rfl rfl (b_pc (pc' := 234) rfl ?_)
  refine b_s (pc' := 235) (lv1 := [(0, .ref 76), (4, bI v4)]) (st' := [.ref 76, .ref 91, bI (μ 76 3), .ref 91]) l156_234 (fun _ => rfl) ?_
  refine b_gi l156_235 (by rfl) (by decide) (by decide) rfl (b_pc (pc' := 238) rfl ?_)
  refine b_g fun g5 => ?_
  refine b_ial l156_238 (by rfl) g5 (b_pc (pc' := 239) rfl ?_)
  refine b_s (pc' := 240) (lv1 := [(0, .ref 76), (4, bI v4)]) (st' := [.ref 76, bI (μ 91 (μ 76 3).toNat), bI (μ 76 3), .ref 91]) l156_239 (fun _ => rfl) ?_
  refine b_gi l156_240 (by rfl) (by decide) (by decide) rfl (b_pc (pc' := 243) rfl ?_)
  refine b_iadd l156_243 fun g1 => (b_pc (pc' := 244) rfl ?_)
  refine b_g fun g4 => ?_
  refine b_ias l156_244 (by rfl) g4 g1 (bD.ok fun hk2 => b_pc (pc' := 245) rfl ?_)
  refine b_s (pc' := 246) (lv1 := [(0, .ref 76), (4, bI v4)]) (st' := [.ref 76]) l156_245 (fun _ => rfl) ?_
  refine b_s (pc' := 247) (lv1 := [(0, .ref 76), (4, bI v4)]) (st' := [bI 0, .ref 76]) l156_246 (fun _ => rfl) ?_
  refine b_pi l156_247 (by rfl) (by decide) (by decide) rfl rfl (by decide) (bD.ok fun hk3 => b_pc (pc' := 250) rfl ?_)
  refine b_s (pc' := 252) (lv1 := [(0, .ref 76), (4, bI v4)]) (st' := [bI v4]) l156_250 (fun _ => rfl) ?_
  exact b_reti l156_252 rfl h4 (hr _)
theorem q_X11_bytes_185 {L : Nat} {xs : Nat → Int32} {d : Nat} {μ : bM} {v4 : Int} {v5 : Int} {κ : ((Int × bM) ⊕ (Int × bM)) → Option bX} (hr : ∀ r : Int × bM, κ (.inr r) = (bMc) r) (H185 : ∀ (v6 : Int) (μ : bM), bR v6 → bD L xs (d + 2) 156 185 [(0, .ref 76), (4, bI v4), (5, bI v5), (6, bI v6)] [] μ (κ (.inl (v6, μ))))  (h4 : bR v4) (h5 : bR v5) {v6 : Int} (h6 : bR v6) : bD L xs (d + 2) 156 185 [(0, .ref 76), (4, bI v4), (5, bI v5), (6, bI v6)] [] μ ((F_X11_bytes_185 v4 v5 v6 μ).bind κ) := by
  unfold F_X11_bytes_185
  refine bD.ok fun hk => ?_
  refine b_s (pc' := 187) (lv1 := [(0, .ref 76), (4, bI v4), (5, bI v5), (6, bI v6)]) (st' := [bI v6]) l156_185 (fun _ => rfl) ?_
  refine b_s (pc' := 188) (lv1 := [(0, .ref 76), (4, bI v4), (5, bI v5), (6, bI v6)]) (st' := [.ref 76, bI v6]) l156_187 (fun _ => rfl) ?_
  refine b_gi l156_188 (by rfl) (by decide) (by decide) rfl (b_pc (pc' := 191) rfl ?_)
  refine b_ige (pt := 222) l156_191 h6 (bO_f hk (ci := 9) (by rfl) rfl) (by decide) rfl (fun c1 => ?_) (fun c1 => b_pc (pc' := 194) rfl ?_)
  · refine b_up (fun _ => rfl) ?_
    refine bD.wk (lv' := [(0, .ref 76), (4, bI v4)]) (bSb rfl (bSb rfl bSn)) ?_
    exact p_X11_bytes_222 hr h4
  · refine b_s (pc' := 195) (lv1 := [(0, .ref 76), (4, bI v4), (5, bI v5), (6, bI v6)]) (st' := [.ref 76]) l156_194 (fun _ => rfl) ?_
    refine b_gp (q' := 92) (j := 16) l156_195 (by rfl) (by decide) (by decide) rfl hk rfl rfl (b_pc (pc' := 198) rfl ?_)
    refine b_s (pc' := 199) (lv1 := [(0, .ref 76), (4, bI v4), (5, bI v5), (6, bI v6)]) (st' := [.ref 76, .ref 92]) l156_198 (fun _ => rfl) ?_
    refine b_gp (q' := 88) (j := 12) l156_199 (by rfl) (by decide) (by decide) rfl hk rfl rfl (b_pc (pc' := 202) rfl ?_)
    refine b_s (pc' := 204) (lv1 := [(0, .ref 76), (4, bI v4), (5, bI v5), (6, bI v6)]) (st' := [bI v5, .ref 88, .ref 92]) l156_202 (fun _ => rfl) ?_
    refine b_g fun g7 => ?_
    refine b_ial l156_204 (by rfl) g7 (b_pc (pc' := 205) rfl ?_)
    refine b_s (pc' := 207) (lv1 := [(0, .ref 76), (4, bI v4), (5, bI v5), (6, bI v6)]) (st' := [bI v6, bI (μ 88 v5.toNat), .ref 92]) l156_205 (fun _ => rfl) ?_
    refine b_iadd l156_207 fun g2 => (b_pc (pc' := 208) rfl ?_)
    refine b_s (pc' := 209) (lv1 := [(0, .ref 76), (4, bI v4), (5, bI v5), (6, bI v6)]) (st' := [.ref 76, bI ((μ 88 v5.toNat) + v6), .ref 92]) l156_208 (fun _ => rfl) ?_
    refine b_gp (q' := 77) (j := 1) l156_209 (by rfl) (by decide) (by decide) rfl hk rfl rfl (b_pc (pc' := 212) rfl ?_)
    refine b_s (pc' := 214) (lv1 := [(0, .ref 76), (4, bI v4), (5, bI v5), (6, bI v6)]) (st' := [bI v6, .ref 77, bI ((μ 88 v5.toNat) + v6), .ref 92]) l156_212 (fun _ => rfl) ?_
    refine b_g fun g6 => ?_
    refine b_bal l156_214 (by rfl) g6 (b_pc (pc' := 215) rfl ?_)
    refine b_g fun g5 => ?_
    refine b_bas l156_215 (by rfl) g5 (bO_b hk (by rfl)) (bD.ok fun hk3 => b_pc (pc' := 216) rfl ?_)
    refine b_inc (lv' := [(0, .ref 76), (4, bI v4), (5, bI v5), (6, bI (v6 + 1))]) l156_216 rfl (by decide +kernel) (bSb rfl (bSb rfl (bSb rfl (bSb rfl bSn)))) fun g4 => (b_pc (pc' := 219) rfl ?_)
    refine b_s (pc' := 185) (lv1 := [(0, .ref 76), (4, bI v4), (5, bI v5), (6, bI (v6 + 1))]) (st' := []) l156_219 (fun _ => rfl) ?_
    refine bD.wk (lv' := [(0, .ref 76), (4, bI v4), (5, bI v5), (6, bI (v6 + 1))]) (bSb rfl (bSb rfl (bSb rfl (bSb rfl bSn)))) ?_
    exact H185 (v6 + 1) (bset μ 92 ((μ 88 v5.toNat) + v6).toNat (μ 77 v6.toNat)) g4
theorem p_X11_bytes_185 {L : Nat} {xs : Nat → Int32} {d : Nat} {μ : bM}  {κ : (Int × bM) → Option bX} (hr : ∀ r : Int × bM, κ r = (bMc) r)  {v4 : Int} (h4 : bR v4) {v5 : Int} (h5 : bR v5) {v6 : Int} (h6 : bR v6) : bD L xs (d + 2) 156 185 [(0, .ref 76), (4, bI v4), (5, bI v5), (6, bI v6)] [] μ ((bLoop (fun z => F_X11_bytes_185 v4 v5 z.1 z.2) (v6, μ)).bind κ) :=
  b_loop (fun z => [(0, .ref 76), (4, bI v4), (5, bI v5), (6, bI z.1)]) (fun z => z.2) (fun z => bR z.1) (fun κ' hκ HH z hz => q_X11_bytes_185 (κ := κ') (fun r => (hκ _).trans (hr r)) (fun a6 am b6 => HH (a6, am) b6)  h4 h5 hz) (v6, μ) h6
theorem p_X11_bytes_87 {L : Nat} {xs : Nat → Int32} {d : Nat} {μ : bM}  {κ : (Int × bM) → Option bX} (hr : ∀ r : Int × bM, κ r = (bMc) r)  {v1 : Int} (h1 : bR v1) {v2 : Int} (h2 : bR v2) {v3 : Int} (h3 : bR v3) {y1 : Int} (hy1 : bR y1) : bD L xs (d + 2) 156 87 [(0, .ref 76), (1, bI v1), (2, bI v2), (3, bI v3)] [bI y1, .ref 76] μ ((F_X11_bytes_87 v1 v2 v3 y1 μ).bind κ) := by
  unfold F_X11_bytes_87
  refine bD.ok fun hk => ?_
  refine b_pi l156_87 (by rfl) (by decide) (by decide) rfl rfl hy1 (bD.ok fun hk1 => b_pc (pc' := 90) rfl ?_)
  refine b_s (pc' := 91) (lv1 := [(0, .ref 76), (1, bI v1), (2, bI v2), (3, bI v3)]) (st' := [.ref 76]) l156_90 (fun _ => rfl) ?_
  refine b_gi l156_91 (by rfl) (by decide) (by decide) rfl (b_pc (pc' := 94) rfl ?_)
  refine b_zle (pt := 99) l156_94 (bO_f hk1 (ci := 9) (by rfl) rfl) (by decide) rfl (fun c2 => ?_) (fun c2 => b_pc (pc' := 97) rfl ?_)
  · refine b_s (pc' := 100) (lv1 := [(0, .ref 76), (1, bI v1), (2, bI v2), (3, bI v3)]) (st' := [.ref 76]) l156_99 (fun _ => rfl) ?_
    refine b_s (pc' := 101) (lv1 := [(0, .ref 76), (1, bI v1), (2, bI v2), (3, bI v3)]) (st' := [bI v1, .ref 76]) l156_100 (fun _ => rfl) ?_
    refine b_s (pc' := 102) (lv1 := [(0, .ref 76), (1, bI v1), (2, bI v2), (3, bI v3)]) (st' := [bI v2, bI v1, .ref 76]) l156_101 (fun _ => rfl) ?_
    refine b_s (pc' := 103) (lv1 := [(0, .ref 76), (1, bI v1), (2, bI v2), (3, bI v3)]) (st' := [bI v3, bI v2, bI v1, .ref 76]) l156_102 (fun _ => rfl) ?_
    refine b_lconst (e := 0) l156_103 (by decide) (b_pc (pc' := 104) rfl ?_)
    refine b_cMi l156_104 rfl (b_rc (ci := 9) (by rfl) (by decide) (by decide +kernel)) (Nat.le_of_ble_eq_true rfl) (Nat.le_of_ble_eq_true rfl) rfl (r_X11_add v1 h1 v2 h2 v3 h3 0 (by decide)) fun w3 μ4 hw3 => bD.ok fun hk5 => b_pc (pc' := 107) rfl ?_
    refine b_w (pc' := 109) (lv1 := ax_st1 [(0, .ref 76), (1, bI v1), (2, bI v2), (3, bI v3)] 4 (bI w3)) (lv' := [(0, .ref 76), (1, bI v1), (4, bI w3)]) (st' := []) l156_107 (fun _ => rfl) (bSb rfl (bSb rfl (bSb rfl bSn))) ?_
    refine b_bipush l156_109 (by decide) (b_pc (pc' := 111) rfl ?_)
    refine b_s (pc' := 112) (lv1 := [(0, .ref 76), (1, bI v1), (4, bI w3)]) (st' := [.ref 76, bI 8]) l156_111 (fun _ => rfl) ?_
    refine b_s (pc' := 113) (lv1 := [(0, .ref 76), (1, bI v1), (4, bI w3)]) (st' := [bI v1, .ref 76, bI 8]) l156_112 (fun _ => rfl) ?_
    refine b_cPi l156_113 rfl (b_rc (ci := 9) (by rfl) (by decide) (by decide +kernel)) (Nat.le_of_ble_eq_true rfl) (Nat.le_of_ble_eq_true rfl) rfl (r_X11_at v1 h1) fun w6 hw6 => b_pc (pc' := 116) rfl ?_
    refine b_imul l156_116 fun g7 => (b_pc (pc' := 117) rfl ?_)
    refine b_s (pc' := 119) (lv1 := [(0, .ref 76), (1, bI v1), (4, bI w3)]) (st' := [bI w3, bI (8 * w6)]) l156_117 (fun _ => rfl) ?_
    refine b_iadd l156_119 fun g8 => (b_pc (pc' := 120) rfl ?_)
    refine b_s (pc' := 121) (lv1 := [(0, .ref 76), (1, bI v1), (4, bI w3)]) (st' := [bI 1, bI ((8 * w6) + w3)]) l156_120 (fun _ => rfl) ?_
    refine b_isub l156_121 fun g9 => (b_pc (pc' := 122) rfl ?_)
    refine b_w (pc' := 124) (lv1 := ax_st1 [(0, .ref 76), (1, bI v1), (4, bI w3)] 5 (bI (((8 * w6) + w3) - 1))) (lv' := [(0, .ref 76), (4, bI w3), (5, bI (((8 * w6) + w3) - 1))]) (st' := []) l156_122 (fun _ => rfl) (bSb rfl (bSb rfl (bSb rfl bSn))) ?_
    refine b_s (pc' := 125) (lv1 := [(0, .ref 76), (4, bI w3), (5, bI (((8 * w6) + w3) - 1))]) (st' := [.ref 76]) l156_124 (fun _ => rfl) ?_
    refine b_gp (q' := 88) (j := 12) l156_125 (by rfl) (by decide) (by decide) rfl hk5 rfl rfl (b_pc (pc' := 128) rfl ?_)
    refine b_s (pc' := 130) (lv1 := [(0, .ref 76), (4, bI w3), (5, bI (((8 * w6) + w3) - 1))]) (st' := [bI (((8 * w6) + w3) - 1), .ref 88]) l156_128 (fun _ => rfl) ?_
    refine b_s (pc' := 132) (lv1 := [(0, .ref 76), (4, bI w3), (5, bI (((8 * w6) + w3) - 1))]) (st' := [bI 90000, bI (((8 * w6) + w3) - 1), .ref 88]) l156_130 (fun _ => rfl) ?_
    refine b_s (pc' := 133) (lv1 := [(0, .ref 76), (4, bI w3), (5, bI (((8 * w6) + w3) - 1))]) (st' := [.ref 76, bI 90000, bI (((8 * w6) + w3) - 1), .ref 88]) l156_132 (fun _ => rfl) ?_
    refine b_gi l156_133 (by rfl) (by decide) (by decide) rfl (b_pc (pc' := 136) rfl ?_)
    refine b_imul l156_136 fun g10 => (b_pc (pc' := 137) rfl ?_)
    refine b_s (pc' := 138) (lv1 := [(0, .ref 76), (4, bI w3), (5, bI (((8 * w6) + w3) - 1))]) (st' := [.ref 76, bI (90000 * (μ4 76 3)), bI (((8 * w6) + w3) - 1), .ref 88]) l156_137 (fun _ => rfl) ?_
    refine b_gp (q' := 91) (j := 15) l156_138 (by rfl) (by decide) (by decide) rfl hk5 rfl rfl (b_pc (pc' := 141) rfl ?_)
    refine b_s (pc' := 142) (lv1 := [(0, .ref 76), (4, bI w3), (5, bI (((8 * w6) + w3) - 1))]) (st' := [.ref 76, .ref 91, bI (90000 * (μ4 76 3)), bI (((8 * w6) + w3) - 1), .ref 88]) l156_141 (fun _ => rfl) ?_
    refine b_gi l156_142 (by rfl) (by decide) (by decide) rfl (b_pc (pc' := 145) rfl ?_)
    refine b_g fun g20 => ?_
    refine b_ial l156_145 (by rfl) g20 (b_pc (pc' := 146) rfl ?_)
    refine b_iadd l156_146 fun g11 => (b_pc (pc' := 147) rfl ?_)
    refine b_g fun g19 => ?_
    refine b_ias l156_147 (by rfl) g19 g11 (bD.ok fun hk12 => b_pc (pc' := 148) rfl ?_)
    refine b_s (pc' := 149) (lv1 := [(0, .ref 76), (4, bI w3), (5, bI (((8 * w6) + w3) - 1))]) (st' := [.ref 76]) l156_148 (fun _ => rfl) ?_
    refine b_gp (q' := 89) (j := 13) l156_149 (by rfl) (by decide) (by decide) rfl hk12 rfl rfl (b_pc (pc' := 152) rfl ?_)
    refine b_s (pc' := 154) (lv1 := [(0, .ref 76), (4, bI w3), (5, bI (((8 * w6) + w3) - 1))]) (st' := [bI (((8 * w6) + w3) - 1), .ref 89]) l156_152 (fun _ => rfl) ?_
    refine b_s (pc' := 155) (lv1 := [(0, .ref 76), (4, bI w3), (5, bI (((8 * w6) + w3) - 1))]) (st' := [.ref 76, bI (((8 * w6) + w3) - 1), .ref 89]) l156_154 (fun _ => rfl) ?_
    refine b_gi l156_155 (by rfl) (by decide) (by decide) rfl (b_pc (pc' := 158) rfl ?_)
    refine b_g fun g18 => ?_
    refine b_ias l156_158 (by rfl) g18 (bO_f hk12 (ci := 9) (by rfl) rfl) (bD.ok fun hk13 => b_pc (pc' := 159) rfl ?_)
    refine b_s (pc' := 160) (lv1 := [(0, .ref 76), (4, bI w3), (5, bI (((8 * w6) + w3) - 1))]) (st' := [.ref 76]) l156_159 (fun _ => rfl) ?_
    refine b_gp (q' := 90) (j := 14) l156_160 (by rfl) (by decide) (by decide) rfl hk13 rfl rfl (b_pc (pc' := 163) rfl ?_)
    refine b_s (pc' := 164) (lv1 := [(0, .ref 76), (4, bI w3), (5, bI (((8 * w6) + w3) - 1))]) (st' := [.ref 76, .ref 90]) l156_163 (fun _ => rfl) ?_
    refine b_gi l156_164 (by rfl) (by decide) (by decide) rfl (b_pc (pc' := 167) rfl ?_)
    refine b_s (pc' := 168) (lv1 := [(0, .ref 76), (4, bI w3), (5, bI (((8 * w6) + w3) - 1))]) (st' := [.ref 76, bI ((bset (bset μ4 88 (((8 * w6) + w3) - 1).toNat ((90000 * (μ4 76 3)) + (μ4 91 (μ4 76 3).toNat))) 89 (((8 * w6) + w3) - 1).toNat ((bset μ4 88 (((8 * w6) + w3) - 1).toNat ((90000 * (μ4 76 3)) + (μ4 91 (μ4 76 3).toNat))) 76 2)) 76 3), .ref 90]) l156_167 (fun _ => rfl) ?_
    refine b_gp (q' := 90) (j := 14) l156_168 (by rfl) (by decide) (by decide) rfl hk13 rfl rfl (b_pc (pc' := 171) rfl ?_)
    refine b_s (pc' := 172) (lv1 := [(0, .ref 76), (4, bI w3), (5, bI (((8 * w6) + w3) - 1))]) (st' := [.ref 76, .ref 90, bI ((bset (bset μ4 88 (((8 * w6) + w3) - 1).toNat ((90000 * (μ4 76 3)) + (μ4 91 (μ4 76 3).toNat))) 89 (((8 * w6) + w3) - 1).toNat ((bset μ4 88 (((8 * w6) + w3) - 1).toNat ((90000 * (μ4 76 3)) + (μ4 91 (μ4 76 3).toNat))) 76 2)) 76 3), .ref 90]) l156_171 (fun _ => rfl) ?_
    refine b_gi l156_172 (by rfl) (by decide) (by decide) rfl (b_pc (pc' := 175) rfl ?_)
    refine b_g fun g17 => ?_
    refine b_ial l156_175 (by rfl) g17 (b_pc (pc' := 176) rfl ?_)
    refine b_s (pc' := 177) (lv1 := [(0, .ref 76), (4, bI w3), (5, bI (((8 * w6) + w3) - 1))]) (st' := [.ref 76, bI ((bset (bset μ4 88 (((8 * w6) + w3) - 1).toNat ((90000 * (μ4 76 3)) + (μ4 91 (μ4 76 3).toNat))) 89 (((8 * w6) + w3) - 1).toNat ((bset μ4 88 (((8 * w6) + w3) - 1).toNat ((90000 * (μ4 76 3)) + (μ4 91 (μ4 76 3).toNat))) 76 2)) 90 ((bset (bset μ4 88 (((8 * w6) + w3) - 1).toNat ((90000 * (μ4 76 3)) + (μ4 91 (μ4 76 3).toNat))) 89 (((8 * w6) + w3) - 1).toNat ((bset μ4 88 (((8 * w6) + w3) - 1).toNat ((90000 * (μ4 76 3)) + (μ4 91 (μ4 76 3).toNat))) 76 2)) 76 3).toNat), bI ((bset (bset μ4 88 (((8 * w6) + w3) - 1).toNat ((90000 * (μ4 76 3)) + (μ4 91 (μ4 76 3).toNat))) 89 (((8 * w6) + w3) - 1).toNat ((bset μ4 88 (((8 * w6) + w3) - 1).toNat ((90000 * (μ4 76 3)) + (μ4 91 (μ4 76 3).toNat))) 76 2)) 76 3), .ref 90]) l156_176 (fun _ => rfl) ?_
    refine b_gi l156_177 (by rfl) (by decide) (by decide) rfl (b_pc (pc' := 180) rfl ?_)
    refine b_iadd l156_180 fun g14 => (b_pc (pc' := 181) rfl ?_)
    refine b_g fun g16 => ?_
    refine b_ias l156_181 (by rfl) g16 g14 (bD.ok fun hk15 => b_pc (pc' := 182) rfl ?_)
    refine b_s (pc' := 183) (lv1 := [(0, .ref 76), (4, bI w3), (5, bI (((8 * w6) + w3) - 1))]) (st' := [bI 0]) l156_182 (fun _ => rfl) ?_
    refine b_w (pc' := 185) (lv1 := ax_st1 [(0, .ref 76), (4, bI w3), (5, bI (((8 * w6) + w3) - 1))] 6 (bI 0)) (lv' := [(0, .ref 76), (4, bI w3), (5, bI (((8 * w6) + w3) - 1)), (6, bI 0)]) (st' := []) l156_183 (fun _ => rfl) (bSb rfl (bSb rfl (bSb rfl (bSb rfl bSn)))) ?_
    refine bD.wk (lv' := [(0, .ref 76), (4, bI w3), (5, bI (((8 * w6) + w3) - 1)), (6, bI 0)]) (bSb rfl (bSb rfl (bSb rfl (bSb rfl bSn)))) ?_
    exact p_X11_bytes_185 hr hw3 g9 (by decide)
  · refine b_s (pc' := 98) (lv1 := [(0, .ref 76), (1, bI v1), (2, bI v2), (3, bI v3)]) (st' := [bI 0]) l156_97 (fun _ => rfl) ?_
    exact b_reti l156_98 rfl (by decide) (hr _)
theorem p_X11_bytes_50 {L : Nat} {xs : Nat → Int32} {d : Nat} {μ : bM}  {κ : (Int × bM) → Option bX} (hr : ∀ r : Int × bM, κ r = (bMc) r)  {v1 : Int} (h1 : bR v1) {v2 : Int} (h2 : bR v2) {v3 : Int} (h3 : bR v3) : bD L xs (d + 2) 156 50 [(0, .ref 76), (1, bI v1), (2, bI v2), (3, bI v3)] [.ref 76] μ ((F_X11_bytes_50 v1 v2 v3 μ).bind κ) := by
  unfold F_X11_bytes_50
  refine bD.ok fun hk => ?_
  refine b_s (pc' := 51) (lv1 := [(0, .ref 76), (1, bI v1), (2, bI v2), (3, bI v3)]) (st' := [bI 2, .ref 76]) l156_50 (fun _ => rfl) ?_
  refine b_s (pc' := 87) (lv1 := [(0, .ref 76), (1, bI v1), (2, bI v2), (3, bI v3)]) (st' := [bI 2, .ref 76]) l156_51 (fun _ => rfl) ?_
  refine bD.wk (lv' := [(0, .ref 76), (1, bI v1), (2, bI v2), (3, bI v3)]) (bSb rfl (bSb rfl (bSb rfl (bSb rfl bSn)))) ?_
  exact p_X11_bytes_87 hr h1 h2 h3 (by decide)
theorem p_X11_bytes_82 {L : Nat} {xs : Nat → Int32} {d : Nat} {μ : bM}  {κ : (Int × bM) → Option bX} (hr : ∀ r : Int × bM, κ r = (bMc) r)  {v1 : Int} (h1 : bR v1) {v2 : Int} (h2 : bR v2) {v3 : Int} (h3 : bR v3) : bD L xs (d + 2) 156 82 [(0, .ref 76), (1, bI v1), (2, bI v2), (3, bI v3)] [.ref 76] μ ((F_X11_bytes_82 v1 v2 v3 μ).bind κ) := by
  unfold F_X11_bytes_82
  refine bD.ok fun hk => ?_
  refine b_s (pc' := 83) (lv1 := [(0, .ref 76), (1, bI v1), (2, bI v2), (3, bI v3)]) (st' := [bI 3, .ref 76]) l156_82 (fun _ => rfl) ?_
  refine b_s (pc' := 87) (lv1 := [(0, .ref 76), (1, bI v1), (2, bI v2), (3, bI v3)]) (st' := [bI 3, .ref 76]) l156_83 (fun _ => rfl) ?_
  refine bD.wk (lv' := [(0, .ref 76), (1, bI v1), (2, bI v2), (3, bI v3)]) (bSb rfl (bSb rfl (bSb rfl (bSb rfl bSn)))) ?_
  exact p_X11_bytes_87 hr h1 h2 h3 (by decide)
theorem p_X11_bytes_33 {L : Nat} {xs : Nat → Int32} {d : Nat} {μ : bM}  {κ : (Int × bM) → Option bX} (hr : ∀ r : Int × bM, κ r = (bMc) r)  {v1 : Int} (h1 : bR v1) {v2 : Int} (h2 : bR v2) {v3 : Int} (h3 : bR v3) : bD L xs (d + 2) 156 33 [(0, .ref 76), (1, bI v1), (2, bI v2), (3, bI v3)] [.ref 76] μ ((F_X11_bytes_33 v1 v2 v3 μ).bind κ) := by
  unfold F_X11_bytes_33
  refine bD.ok fun hk => ?_
  refine b_s (pc' := 34) (lv1 := [(0, .ref 76), (1, bI v1), (2, bI v2), (3, bI v3)]) (st' := [.ref 76, .ref 76]) l156_33 (fun _ => rfl) ?_
  refine b_s (pc' := 35) (lv1 := [(0, .ref 76), (1, bI v1), (2, bI v2), (3, bI v3)]) (st' := [bI v3, .ref 76, .ref 76]) l156_34 (fun _ => rfl) ?_
  refine b_cPz l156_35 rfl (b_rc (ci := 9) (by rfl) (by decide) (by decide +kernel)) (Nat.le_of_ble_eq_true rfl) (Nat.le_of_ble_eq_true rfl) rfl (r_X11_areBytes v3 h3) fun w1 hw1 => b_pc (pc' := 38) rfl ?_
  refine b_zeq (pt := 50) l156_38 (bZ_R hw1) (by decide) rfl (fun c2 => ?_) (fun c2 => b_pc (pc' := 41) rfl ?_)
  · refine bD.wk (lv' := [(0, .ref 76), (1, bI v1), (2, bI v2), (3, bI v3)]) (bSb rfl (bSb rfl (bSb rfl (bSb rfl bSn)))) ?_
    exact p_X11_bytes_50 hr h1 h2 h3
  · refine b_s (pc' := 42) (lv1 := [(0, .ref 76), (1, bI v1), (2, bI v2), (3, bI v3)]) (st' := [.ref 76, .ref 76]) l156_41 (fun _ => rfl) ?_
    refine b_s (pc' := 43) (lv1 := [(0, .ref 76), (1, bI v1), (2, bI v2), (3, bI v3)]) (st' := [bI v1, .ref 76, .ref 76]) l156_42 (fun _ => rfl) ?_
    refine b_s (pc' := 44) (lv1 := [(0, .ref 76), (1, bI v1), (2, bI v2), (3, bI v3)]) (st' := [bI v2, bI v1, .ref 76, .ref 76]) l156_43 (fun _ => rfl) ?_
    refine b_cPz l156_44 rfl (b_rc (ci := 9) (by rfl) (by decide) (by decide +kernel)) (Nat.le_of_ble_eq_true rfl) (Nat.le_of_ble_eq_true rfl) rfl (r_X11_isTold v1 h1 v2 h2) fun w3 hw3 => b_pc (pc' := 47) rfl ?_
    refine b_zeq (pt := 54) l156_47 (bZ_R hw3) (by decide) rfl (fun c4 => ?_) (fun c4 => b_pc (pc' := 50) rfl ?_)
    · refine b_s (pc' := 55) (lv1 := [(0, .ref 76), (1, bI v1), (2, bI v2), (3, bI v3)]) (st' := [.ref 76, .ref 76]) l156_54 (fun _ => rfl) ?_
      refine b_s (pc' := 56) (lv1 := [(0, .ref 76), (1, bI v1), (2, bI v2), (3, bI v3)]) (st' := [bI v1, .ref 76, .ref 76]) l156_55 (fun _ => rfl) ?_
      refine b_cPz l156_56 rfl (b_rc (ci := 9) (by rfl) (by decide) (by decide +kernel)) (Nat.le_of_ble_eq_true rfl) (Nat.le_of_ble_eq_true rfl) rfl (r_X11_isFull v1 h1) fun w5 hw5 => b_pc (pc' := 59) rfl ?_
      refine b_zne (pt := 82) l156_59 (bZ_R hw5) (by decide) rfl (fun c6 => ?_) (fun c6 => b_pc (pc' := 62) rfl ?_)
      · refine bD.wk (lv' := [(0, .ref 76), (1, bI v1), (2, bI v2), (3, bI v3)]) (bSb rfl (bSb rfl (bSb rfl (bSb rfl bSn)))) ?_
        exact p_X11_bytes_82 hr h1 h2 h3
      · refine b_s (pc' := 63) (lv1 := [(0, .ref 76), (1, bI v1), (2, bI v2), (3, bI v3)]) (st' := [.ref 76, .ref 76]) l156_62 (fun _ => rfl) ?_
        refine b_gp (q' := 90) (j := 14) l156_63 (by rfl) (by decide) (by decide) rfl hk rfl rfl (b_pc (pc' := 66) rfl ?_)
        refine b_s (pc' := 67) (lv1 := [(0, .ref 76), (1, bI v1), (2, bI v2), (3, bI v3)]) (st' := [.ref 76, .ref 90, .ref 76]) l156_66 (fun _ => rfl) ?_
        refine b_gi l156_67 (by rfl) (by decide) (by decide) rfl (b_pc (pc' := 70) rfl ?_)
        refine b_g fun g9 => ?_
        refine b_ial l156_70 (by rfl) g9 (b_pc (pc' := 71) rfl ?_)
        refine b_s (pc' := 72) (lv1 := [(0, .ref 76), (1, bI v1), (2, bI v2), (3, bI v3)]) (st' := [.ref 76, bI (μ 90 (μ 76 3).toNat), .ref 76]) l156_71 (fun _ => rfl) ?_
        refine b_gi l156_72 (by rfl) (by decide) (by decide) rfl (b_pc (pc' := 75) rfl ?_)
        refine b_iadd l156_75 fun g7 => (b_pc (pc' := 76) rfl ?_)
        refine b_sipush l156_76 (by decide) (b_pc (pc' := 79) rfl ?_)
        refine b_ile (pt := 86) l156_79 g7 (by decide) (by decide) rfl (fun c8 => ?_) (fun c8 => b_pc (pc' := 82) rfl ?_)
        · refine b_s (pc' := 87) (lv1 := [(0, .ref 76), (1, bI v1), (2, bI v2), (3, bI v3)]) (st' := [bI 0, .ref 76]) l156_86 (fun _ => rfl) ?_
          refine bD.wk (lv' := [(0, .ref 76), (1, bI v1), (2, bI v2), (3, bI v3)]) (bSb rfl (bSb rfl (bSb rfl (bSb rfl bSn)))) ?_
          exact p_X11_bytes_87 hr h1 h2 h3 (by decide)
        · refine bD.wk (lv' := [(0, .ref 76), (1, bI v1), (2, bI v2), (3, bI v3)]) (bSb rfl (bSb rfl (bSb rfl (bSb rfl bSn)))) ?_
          exact p_X11_bytes_82 hr h1 h2 h3
    · refine bD.wk (lv' := [(0, .ref 76), (1, bI v1), (2, bI v2), (3, bI v3)]) (bSb rfl (bSb rfl (bSb rfl (bSb rfl bSn)))) ?_
      exact p_X11_bytes_50 hr h1 h2 h3
theorem r_X11_bytes {L : Nat} {xs : Nat → Int32} {d : Nat} {μ : bM}  (v1 : Int) (h1 : bR v1) (v2 : Int) (h2 : bR v2) (v3 : Int) (h3 : bR v3) : bD L xs (d + 2) 156 0 [(0, .ref 76), (1, bI v1), (2, bI v2), (3, bI v3)] [] μ ((F_X11_bytes v1 v2 v3 μ).bind (bMc)) := by
  have hr : ∀ r, (bMc) r = (bMc) r := fun _ => rfl
  unfold F_X11_bytes
  refine bD.ok fun hk => ?_
  refine b_s (pc' := 1) (lv1 := [(0, .ref 76), (1, bI v1), (2, bI v2), (3, bI v3)]) (st' := [.ref 76]) l156_0 (fun _ => rfl) ?_
  refine b_s (pc' := 2) (lv1 := [(0, .ref 76), (1, bI v1), (2, bI v2), (3, bI v3)]) (st' := [.ref 76, .ref 76]) l156_1 (fun _ => rfl) ?_
  refine b_s (pc' := 3) (lv1 := [(0, .ref 76), (1, bI v1), (2, bI v2), (3, bI v3)]) (st' := [bI v1, .ref 76, .ref 76]) l156_2 (fun _ => rfl) ?_
  refine b_cPz l156_3 rfl (b_rc (ci := 9) (by rfl) (by decide) (by decide +kernel)) (Nat.le_of_ble_eq_true rfl) (Nat.le_of_ble_eq_true rfl) rfl (r_X11_isEntry v1 h1) fun w1 hw1 => b_pc (pc' := 6) rfl ?_
  refine b_zne (pt := 13) l156_6 (bZ_R hw1) (by decide) rfl (fun c2 => ?_) (fun c2 => b_pc (pc' := 9) rfl ?_)
  · refine b_s (pc' := 14) (lv1 := [(0, .ref 76), (1, bI v1), (2, bI v2), (3, bI v3)]) (st' := [bI v2, .ref 76]) l156_13 (fun _ => rfl) ?_
    refine b_cPz l156_14 rfl (fun _ => trivial) (Nat.le_of_ble_eq_true rfl) (Nat.le_of_ble_eq_true rfl) rfl (r_X11_isName v2 h2) fun w3 hw3 => b_pc (pc' := 17) rfl ?_
    refine b_zeq (pt := 50) l156_17 (bZ_R hw3) (by decide) rfl (fun c4 => ?_) (fun c4 => b_pc (pc' := 20) rfl ?_)
    · refine bD.wk (lv' := [(0, .ref 76), (1, bI v1), (2, bI v2), (3, bI v3)]) (bSb rfl (bSb rfl (bSb rfl (bSb rfl bSn)))) ?_
      exact p_X11_bytes_50 hr h1 h2 h3
    · refine b_s (pc' := 21) (lv1 := [(0, .ref 76), (1, bI v1), (2, bI v2), (3, bI v3)]) (st' := [bI v3, .ref 76]) l156_20 (fun _ => rfl) ?_
      refine b_cPz l156_21 rfl (fun _ => trivial) (Nat.le_of_ble_eq_true rfl) (Nat.le_of_ble_eq_true rfl) rfl (r_X11_isText v3 h3) fun w5 hw5 => b_pc (pc' := 24) rfl ?_
      refine b_zne (pt := 33) l156_24 (bZ_R hw5) (by decide) rfl (fun c6 => ?_) (fun c6 => b_pc (pc' := 27) rfl ?_)
      · refine bD.wk (lv' := [(0, .ref 76), (1, bI v1), (2, bI v2), (3, bI v3)]) (bSb rfl (bSb rfl (bSb rfl (bSb rfl bSn)))) ?_
        exact p_X11_bytes_33 hr h1 h2 h3
      · refine b_s (pc' := 28) (lv1 := [(0, .ref 76), (1, bI v1), (2, bI v2), (3, bI v3)]) (st' := [bI v3, .ref 76]) l156_27 (fun _ => rfl) ?_
        refine b_bipush l156_28 (by decide) (b_pc (pc' := 30) rfl ?_)
        refine b_ine (pt := 50) l156_30 h3 (by decide) (by decide) rfl (fun c7 => ?_) (fun c7 => b_pc (pc' := 33) rfl ?_)
        · refine bD.wk (lv' := [(0, .ref 76), (1, bI v1), (2, bI v2), (3, bI v3)]) (bSb rfl (bSb rfl (bSb rfl (bSb rfl bSn)))) ?_
          exact p_X11_bytes_50 hr h1 h2 h3
        · refine bD.wk (lv' := [(0, .ref 76), (1, bI v1), (2, bI v2), (3, bI v3)]) (bSb rfl (bSb rfl (bSb rfl (bSb rfl bSn)))) ?_
          exact p_X11_bytes_33 hr h1 h2 h3
  · refine b_s (pc' := 10) (lv1 := [(0, .ref 76), (1, bI v1), (2, bI v2), (3, bI v3)]) (st' := [bI 1, .ref 76]) l156_9 (fun _ => rfl) ?_
    refine b_s (pc' := 87) (lv1 := [(0, .ref 76), (1, bI v1), (2, bI v2), (3, bI v3)]) (st' := [bI 1, .ref 76]) l156_10 (fun _ => rfl) ?_
    refine bD.wk (lv' := [(0, .ref 76), (1, bI v1), (2, bI v2), (3, bI v3)]) (bSb rfl (bSb rfl (bSb rfl (bSb rfl bSn)))) ?_
    exact p_X11_bytes_87 hr h1 h2 h3 (by decide)
/-! ETModel.reference -/
theorem l157_0 : (ax_dt (ax_T 157)).lookup 0 = some (.aload_n 0, 1, 0, 0, 0) := by decide +kernel
theorem l157_1 : (ax_dt (ax_T 157)).lookup 1 = some (.aload_n 0, 1, 0, 0, 0) := by decide +kernel
theorem l157_2 : (ax_dt (ax_T 157)).lookup 2 = some (.iload_n 1, 1, 0, 0, 0) := by decide +kernel
theorem l157_3 : (ax_dt (ax_T 157)).lookup 3 = some (.invokevirtual 152, 3, 141, 1, 0) := by decide +kernel
theorem l157_6 : (ax_dt (ax_T 157)).lookup 6 = some (.ifCond .eq 12, 3, 0, 0, 0) := by decide +kernel
theorem l157_9 : (ax_dt (ax_T 157)).lookup 9 = some (.aload_n 0, 1, 0, 0, 0) := by decide +kernel
theorem l157_10 : (ax_dt (ax_T 157)).lookup 10 = some (.iload 4, 2, 0, 0, 0) := by decide +kernel
theorem l157_12 : (ax_dt (ax_T 157)).lookup 12 = some (.invokevirtual 152, 3, 141, 1, 0) := by decide +kernel
theorem l157_15 : (ax_dt (ax_T 157)).lookup 15 = some (.ifCond .ne 7, 3, 0, 0, 0) := by decide +kernel
theorem l157_18 : (ax_dt (ax_T 157)).lookup 18 = some (.iconst 1, 1, 0, 0, 0) := by decide +kernel
theorem l157_19 : (ax_dt (ax_T 157)).lookup 19 = some (.goto 71, 3, 0, 0, 0) := by decide +kernel
theorem l157_22 : (ax_dt (ax_T 157)).lookup 22 = some (.aload_n 0, 1, 0, 0, 0) := by decide +kernel
theorem l157_23 : (ax_dt (ax_T 157)).lookup 23 = some (.getfield 29, 3, 9, 9, 0) := by decide +kernel
theorem l157_26 : (ax_dt (ax_T 157)).lookup 26 = some (.aload_n 0, 1, 0, 0, 0) := by decide +kernel
theorem l157_27 : (ax_dt (ax_T 157)).lookup 27 = some (.iload_n 1, 1, 0, 0, 0) := by decide +kernel
theorem l157_28 : (ax_dt (ax_T 157)).lookup 28 = some (.invokevirtual 140, 3, 140, 1, 0) := by decide +kernel
theorem l157_31 : (ax_dt (ax_T 157)).lookup 31 = some (.iaload, 1, 0, 0, 0) := by decide +kernel
theorem l157_32 : (ax_dt (ax_T 157)).lookup 32 = some (.aload_n 0, 1, 0, 0, 0) := by decide +kernel
theorem l157_33 : (ax_dt (ax_T 157)).lookup 33 = some (.getfield 29, 3, 9, 9, 0) := by decide +kernel
theorem l157_36 : (ax_dt (ax_T 157)).lookup 36 = some (.aload_n 0, 1, 0, 0, 0) := by decide +kernel
theorem l157_37 : (ax_dt (ax_T 157)).lookup 37 = some (.iload 4, 2, 0, 0, 0) := by decide +kernel
theorem l157_39 : (ax_dt (ax_T 157)).lookup 39 = some (.invokevirtual 140, 3, 140, 1, 0) := by decide +kernel
theorem l157_42 : (ax_dt (ax_T 157)).lookup 42 = some (.iaload, 1, 0, 0, 0) := by decide +kernel
theorem l157_43 : (ax_dt (ax_T 157)).lookup 43 = some (.if_icmp .eq 7, 3, 0, 0, 0) := by decide +kernel
theorem l157_46 : (ax_dt (ax_T 157)).lookup 46 = some (.iconst 2, 1, 0, 0, 0) := by decide +kernel
theorem l157_47 : (ax_dt (ax_T 157)).lookup 47 = some (.goto 43, 3, 0, 0, 0) := by decide +kernel
theorem l157_50 : (ax_dt (ax_T 157)).lookup 50 = some (.iload_n 2, 1, 0, 0, 0) := by decide +kernel
theorem l157_51 : (ax_dt (ax_T 157)).lookup 51 = some (.invokestatic 144, 3, 139, 1, 0) := by decide +kernel
theorem l157_54 : (ax_dt (ax_T 157)).lookup 54 = some (.ifCond .eq 19, 3, 0, 0, 0) := by decide +kernel
theorem l157_57 : (ax_dt (ax_T 157)).lookup 57 = some (.iload_n 3, 1, 0, 0, 0) := by decide +kernel
theorem l157_58 : (ax_dt (ax_T 157)).lookup 58 = some (.invokestatic 168, 3, 148, 1, 0) := by decide +kernel
theorem l157_61 : (ax_dt (ax_T 157)).lookup 61 = some (.ifCond .eq 12, 3, 0, 0, 0) := by decide +kernel
theorem l157_64 : (ax_dt (ax_T 157)).lookup 64 = some (.aload_n 0, 1, 0, 0, 0) := by decide +kernel
theorem l157_65 : (ax_dt (ax_T 157)).lookup 65 = some (.iload_n 1, 1, 0, 0, 0) := by decide +kernel
theorem l157_66 : (ax_dt (ax_T 157)).lookup 66 = some (.iload_n 2, 1, 0, 0, 0) := by decide +kernel
theorem l157_67 : (ax_dt (ax_T 157)).lookup 67 = some (.invokevirtual 181, 3, 151, 2, 0) := by decide +kernel
theorem l157_70 : (ax_dt (ax_T 157)).lookup 70 = some (.ifCond .eq 7, 3, 0, 0, 0) := by decide +kernel
theorem l157_73 : (ax_dt (ax_T 157)).lookup 73 = some (.iconst 3, 1, 0, 0, 0) := by decide +kernel
theorem l157_74 : (ax_dt (ax_T 157)).lookup 74 = some (.goto 16, 3, 0, 0, 0) := by decide +kernel
theorem l157_77 : (ax_dt (ax_T 157)).lookup 77 = some (.aload_n 0, 1, 0, 0, 0) := by decide +kernel
theorem l157_78 : (ax_dt (ax_T 157)).lookup 78 = some (.iload_n 1, 1, 0, 0, 0) := by decide +kernel
theorem l157_79 : (ax_dt (ax_T 157)).lookup 79 = some (.invokevirtual 185, 3, 153, 1, 0) := by decide +kernel
theorem l157_82 : (ax_dt (ax_T 157)).lookup 82 = some (.ifCond .eq 7, 3, 0, 0, 0) := by decide +kernel
theorem l157_85 : (ax_dt (ax_T 157)).lookup 85 = some (.iconst 4, 1, 0, 0, 0) := by decide +kernel
theorem l157_86 : (ax_dt (ax_T 157)).lookup 86 = some (.goto 4, 3, 0, 0, 0) := by decide +kernel
theorem l157_89 : (ax_dt (ax_T 157)).lookup 89 = some (.iconst 0, 1, 0, 0, 0) := by decide +kernel
theorem l157_90 : (ax_dt (ax_T 157)).lookup 90 = some (.putfield 120, 3, 9, 0, 0) := by decide +kernel
theorem l157_93 : (ax_dt (ax_T 157)).lookup 93 = some (.aload_n 0, 1, 0, 0, 0) := by decide +kernel
theorem l157_94 : (ax_dt (ax_T 157)).lookup 94 = some (.getfield 120, 3, 9, 0, 0) := by decide +kernel
theorem l157_97 : (ax_dt (ax_T 157)).lookup 97 = some (.ifCond .le 7, 3, 0, 0, 0) := by decide +kernel
theorem l157_100 : (ax_dt (ax_T 157)).lookup 100 = some (.iconst 0, 1, 0, 0, 0) := by decide +kernel
theorem l157_101 : (ax_dt (ax_T 157)).lookup 101 = some (.goto 13, 3, 0, 0, 0) := by decide +kernel
theorem l157_104 : (ax_dt (ax_T 157)).lookup 104 = some (.aload_n 0, 1, 0, 0, 0) := by decide +kernel
theorem l157_105 : (ax_dt (ax_T 157)).lookup 105 = some (.iload_n 1, 1, 0, 0, 0) := by decide +kernel
theorem l157_106 : (ax_dt (ax_T 157)).lookup 106 = some (.iload_n 2, 1, 0, 0, 0) := by decide +kernel
theorem l157_107 : (ax_dt (ax_T 157)).lookup 107 = some (.iload_n 3, 1, 0, 0, 0) := by decide +kernel
theorem l157_108 : (ax_dt (ax_T 157)).lookup 108 = some (.iload 4, 2, 0, 0, 0) := by decide +kernel
theorem l157_110 : (ax_dt (ax_T 157)).lookup 110 = some (.i2l, 1, 0, 0, 0) := by decide +kernel
theorem l157_111 : (ax_dt (ax_T 157)).lookup 111 = some (.invokevirtual 188, 3, 152, 4, 0) := by decide +kernel
theorem l157_114 : (ax_dt (ax_T 157)).lookup 114 = some (.ireturn, 1, 0, 0, 0) := by decide +kernel
noncomputable def F_X11_reference_90 (v1 : Int) (v2 : Int) (v3 : Int) (v4 : Int) (y1 : Int) (μ : bM) : Option (Int × bM) := if ((bset μ 76 0 y1) 76 0) ≤ 0 then bMm (F_X11_add v1 v2 v3 v4 (bset μ 76 0 y1)) (fun w3 μ4 => some (w3, μ4)) else some (0, (bset μ 76 0 y1))
noncomputable def F_X11_reference_18 (v1 : Int) (v2 : Int) (v3 : Int) (v4 : Int) (μ : bM) : Option (Int × bM) := F_X11_reference_90 v1 v2 v3 v4 1 μ
noncomputable def F_X11_reference_73 (v1 : Int) (v2 : Int) (v3 : Int) (v4 : Int) (μ : bM) : Option (Int × bM) := F_X11_reference_90 v1 v2 v3 v4 3 μ
noncomputable def F_X11_reference (v1 : Int) (v2 : Int) (v3 : Int) (v4 : Int) (μ : bM) : Option (Int × bM) := (F_X11_isEntry v1 μ).bind fun w1 => if w1 = 0 then F_X11_reference_18 v1 v2 v3 v4 μ else (F_X11_isEntry v4 μ).bind fun w3 => if ¬ w3 = 0 then (F_X11_at v1 μ).bind fun w5 => bG (0 ≤ w5 ∧ w5 < 800) ((F_X11_at v4 μ).bind fun w6 => bG (0 ≤ w6 ∧ w6 < 800) (if (μ 83 w5.toNat) = (μ 83 w6.toNat) then (F_X11_isName v2 μ).bind fun w8 => if w8 = 0 then F_X11_reference_73 v1 v2 v3 v4 μ else (F_X11_isReference v3 μ).bind fun w10 => if w10 = 0 then F_X11_reference_73 v1 v2 v3 v4 μ else (F_X11_isTold v1 v2 μ).bind fun w12 => if w12 = 0 then (F_X11_isFull v1 μ).bind fun w14 => if w14 = 0 then F_X11_reference_90 v1 v2 v3 v4 0 μ else F_X11_reference_90 v1 v2 v3 v4 4 μ else F_X11_reference_73 v1 v2 v3 v4 μ else F_X11_reference_90 v1 v2 v3 v4 2 μ)) else F_X11_reference_18 v1 v2 v3 v4 μ
theorem p_X11_reference_90 {L : Nat} {xs : Nat → Int32} {d : Nat} {μ : bM}  {κ : (Int × bM) → Option bX} (hr : ∀ r : Int × bM, κ r = (bMc) r)  {v1 : Int} (h1 : bR v1) {v2 : Int} (h2 : bR v2) {v3 : Int} (h3 : bR v3) {v4 : Int} (h4 : bR v4) {y1 : Int} (hy1 : bR y1) : bD L xs (d + 2) 157 90 [(0, .ref 76), (1, bI v1), (2, bI v2), (3, bI v3), (4, bI v4)] [bI y1, .ref 76] μ ((F_X11_reference_90 v1 v2 v3 v4 y1 μ).bind κ) := by
  unfold F_X11_reference_90
  refine bD.ok fun hk => ?_
  refine b_pi l157_90 (by rfl) (by decide) (by decide) rfl rfl hy1 (bD.ok fun hk1 => b_pc (pc' := 93) rfl ?_)
  refine b_s (pc' := 94) (lv1 := [(0, .ref 76), (1, bI v1), (2, bI v2), (3, bI v3), (4, bI v4)]) (st' := [.ref 76]) l157_93 (fun _ => rfl) ?_
  refine b_gi l157_94 (by rfl) (by decide) (by decide) rfl (b_pc (pc' := 97) rfl ?_)
  refine b_zle (pt := 104) l157_97 (bO_f hk1 (ci := 9) (by rfl) rfl) (by decide) rfl (fun c2 => ?_) (fun c2 => b_pc (pc' := 100) rfl ?_)
  · refine b_s (pc' := 105) (lv1 := [(0, .ref 76), (1, bI v1), (2, bI v2), (3, bI v3), (4, bI v4)]) (st' := [.ref 76]) l157_104 (fun _ => rfl) ?_
    refine b_s (pc' := 106) (lv1 := [(0, .ref 76), (1, bI v1), (2, bI v2), (3, bI v3), (4, bI v4)]) (st' := [bI v1, .ref 76]) l157_105 (fun _ => rfl) ?_
    refine b_s (pc' := 107) (lv1 := [(0, .ref 76), (1, bI v1), (2, bI v2), (3, bI v3), (4, bI v4)]) (st' := [bI v2, bI v1, .ref 76]) l157_106 (fun _ => rfl) ?_
    refine b_s (pc' := 108) (lv1 := [(0, .ref 76), (1, bI v1), (2, bI v2), (3, bI v3), (4, bI v4)]) (st' := [bI v3, bI v2, bI v1, .ref 76]) l157_107 (fun _ => rfl) ?_
    refine b_s (pc' := 110) (lv1 := [(0, .ref 76), (1, bI v1), (2, bI v2), (3, bI v3), (4, bI v4)]) (st' := [bI v4, bI v3, bI v2, bI v1, .ref 76]) l157_108 (fun _ => rfl) ?_
    refine b_i2l l157_110 h4 (b_pc (pc' := 111) rfl ?_)
    refine b_cMi l157_111 rfl (b_rc (ci := 9) (by rfl) (by decide) (by decide +kernel)) (Nat.le_of_ble_eq_true rfl) (Nat.le_of_ble_eq_true rfl) rfl (r_X11_add v1 h1 v2 h2 v3 h3 v4 (bR_L h4)) fun w3 μ4 hw3 => bD.ok fun hk5 => b_pc (pc' := 114) rfl ?_
    exact b_reti l157_114 rfl hw3 (hr _)
  · refine b_s (pc' := 101) (lv1 := [(0, .ref 76), (1, bI v1), (2, bI v2), (3, bI v3), (4, bI v4)]) (st' := [bI 0]) l157_100 (fun _ => rfl) ?_
    refine b_s (pc' := 114) (lv1 := [(0, .ref 76), (1, bI v1), (2, bI v2), (3, bI v3), (4, bI v4)]) (st' := [bI 0]) l157_101 (fun _ => rfl) ?_
    exact b_reti l157_114 rfl (by decide) (hr _)
theorem p_X11_reference_18 {L : Nat} {xs : Nat → Int32} {d : Nat} {μ : bM}  {κ : (Int × bM) → Option bX} (hr : ∀ r : Int × bM, κ r = (bMc) r)  {v1 : Int} (h1 : bR v1) {v2 : Int} (h2 : bR v2) {v3 : Int} (h3 : bR v3) {v4 : Int} (h4 : bR v4) : bD L xs (d + 2) 157 18 [(0, .ref 76), (1, bI v1), (2, bI v2), (3, bI v3), (4, bI v4)] [.ref 76] μ ((F_X11_reference_18 v1 v2 v3 v4 μ).bind κ) := by
  unfold F_X11_reference_18
  refine bD.ok fun hk => ?_
  refine b_s (pc' := 19) (lv1 := [(0, .ref 76), (1, bI v1), (2, bI v2), (3, bI v3), (4, bI v4)]) (st' := [bI 1, .ref 76]) l157_18 (fun _ => rfl) ?_
  refine b_s (pc' := 90) (lv1 := [(0, .ref 76), (1, bI v1), (2, bI v2), (3, bI v3), (4, bI v4)]) (st' := [bI 1, .ref 76]) l157_19 (fun _ => rfl) ?_
  refine bD.wk (lv' := [(0, .ref 76), (1, bI v1), (2, bI v2), (3, bI v3), (4, bI v4)]) (bSb rfl (bSb rfl (bSb rfl (bSb rfl (bSb rfl bSn))))) ?_
  exact p_X11_reference_90 hr h1 h2 h3 h4 (by decide)
theorem p_X11_reference_73 {L : Nat} {xs : Nat → Int32} {d : Nat} {μ : bM}  {κ : (Int × bM) → Option bX} (hr : ∀ r : Int × bM, κ r = (bMc) r)  {v1 : Int} (h1 : bR v1) {v2 : Int} (h2 : bR v2) {v3 : Int} (h3 : bR v3) {v4 : Int} (h4 : bR v4) : bD L xs (d + 2) 157 73 [(0, .ref 76), (1, bI v1), (2, bI v2), (3, bI v3), (4, bI v4)] [.ref 76] μ ((F_X11_reference_73 v1 v2 v3 v4 μ).bind κ) := by
  unfold F_X11_reference_73
  refine bD.ok fun hk => ?_
  refine b_s (pc' := 74) (lv1 := [(0, .ref 76), (1, bI v1), (2, bI v2), (3, bI v3), (4, bI v4)]) (st' := [bI 3, .ref 76]) l157_73 (fun _ => rfl) ?_
  refine b_s (pc' := 90) (lv1 := [(0, .ref 76), (1, bI v1), (2, bI v2), (3, bI v3), (4, bI v4)]) (st' := [bI 3, .ref 76]) l157_74 (fun _ => rfl) ?_
  refine bD.wk (lv' := [(0, .ref 76), (1, bI v1), (2, bI v2), (3, bI v3), (4, bI v4)]) (bSb rfl (bSb rfl (bSb rfl (bSb rfl (bSb rfl bSn))))) ?_
  exact p_X11_reference_90 hr h1 h2 h3 h4 (by decide)
theorem r_X11_reference {L : Nat} {xs : Nat → Int32} {d : Nat} {μ : bM}  (v1 : Int) (h1 : bR v1) (v2 : Int) (h2 : bR v2) (v3 : Int) (h3 : bR v3) (v4 : Int) (h4 : bR v4) : bD L xs (d + 2) 157 0 [(0, .ref 76), (1, bI v1), (2, bI v2), (3, bI v3), (4, bI v4)] [] μ ((F_X11_reference v1 v2 v3 v4 μ).bind (bMc)) := by
  have hr : ∀ r, (bMc) r = (bMc) r := fun _ => rfl
  unfold F_X11_reference
  refine bD.ok fun hk => ?_
  refine b_s (pc' := 1) (lv1 := [(0, .ref 76), (1, bI v1), (2, bI v2), (3, bI v3), (4, bI v4)]) (st' := [.ref 76]) l157_0 (fun _ => rfl) ?_
  refine b_s (pc' := 2) (lv1 := [(0, .ref 76), (1, bI v1), (2, bI v2), (3, bI v3), (4, bI v4)]) (st' := [.ref 76, .ref 76]) l157_1 (fun _ => rfl) ?_
  refine b_s (pc' := 3) (lv1 := [(0, .ref 76), (1, bI v1), (2, bI v2), (3, bI v3), (4, bI v4)]) (st' := [bI v1, .ref 76, .ref 76]) l157_2 (fun _ => rfl) ?_
  refine b_cPz l157_3 rfl (b_rc (ci := 9) (by rfl) (by decide) (by decide +kernel)) (Nat.le_of_ble_eq_true rfl) (Nat.le_of_ble_eq_true rfl) rfl (r_X11_isEntry v1 h1) fun w1 hw1 => b_pc (pc' := 6) rfl ?_
  refine b_zeq (pt := 18) l157_6 (bZ_R hw1) (by decide) rfl (fun c2 => ?_) (fun c2 => b_pc (pc' := 9) rfl ?_)
  · refine bD.wk (lv' := [(0, .ref 76), (1, bI v1), (2, bI v2), (3, bI v3), (4, bI v4)]) (bSb rfl (bSb rfl (bSb rfl (bSb rfl (bSb rfl bSn))))) ?_
    exact p_X11_reference_18 hr h1 h2 h3 h4
  · refine b_s (pc' := 10) (lv1 := [(0, .ref 76), (1, bI v1), (2, bI v2), (3, bI v3), (4, bI v4)]) (st' := [.ref 76, .ref 76]) l157_9 (fun _ => rfl) ?_
    refine b_s (pc' := 12) (lv1 := [(0, .ref 76), (1, bI v1), (2, bI v2), (3, bI v3), (4, bI v4)]) (st' := [bI v4, .ref 76, .ref 76]) l157_10 (fun _ => rfl) ?_
    refine b_cPz l157_12 rfl (b_rc (ci := 9) (by rfl) (by decide) (by decide +kernel)) (Nat.le_of_ble_eq_true rfl) (Nat.le_of_ble_eq_true rfl) rfl (r_X11_isEntry v4 h4) fun w3 hw3 => b_pc (pc' := 15) rfl ?_
    refine b_zne (pt := 22) l157_15 (bZ_R hw3) (by decide) rfl (fun c4 => ?_) (fun c4 => b_pc (pc' := 18) rfl ?_)
    · refine b_s (pc' := 23) (lv1 := [(0, .ref 76), (1, bI v1), (2, bI v2), (3, bI v3), (4, bI v4)]) (st' := [.ref 76, .ref 76]) l157_22 (fun _ => rfl) ?_
      refine b_gp (q' := 83) (j := 7) l157_23 (by rfl) (by decide) (by decide) rfl hk rfl rfl (b_pc (pc' := 26) rfl ?_)
      refine b_s (pc' := 27) (lv1 := [(0, .ref 76), (1, bI v1), (2, bI v2), (3, bI v3), (4, bI v4)]) (st' := [.ref 76, .ref 83, .ref 76]) l157_26 (fun _ => rfl) ?_
      refine b_s (pc' := 28) (lv1 := [(0, .ref 76), (1, bI v1), (2, bI v2), (3, bI v3), (4, bI v4)]) (st' := [bI v1, .ref 76, .ref 83, .ref 76]) l157_27 (fun _ => rfl) ?_
      refine b_cPi l157_28 rfl (b_rc (ci := 9) (by rfl) (by decide) (by decide +kernel)) (Nat.le_of_ble_eq_true rfl) (Nat.le_of_ble_eq_true rfl) rfl (r_X11_at v1 h1) fun w5 hw5 => b_pc (pc' := 31) rfl ?_
      refine b_g fun g17 => ?_
      refine b_ial l157_31 (by rfl) g17 (b_pc (pc' := 32) rfl ?_)
      refine b_s (pc' := 33) (lv1 := [(0, .ref 76), (1, bI v1), (2, bI v2), (3, bI v3), (4, bI v4)]) (st' := [.ref 76, bI (μ 83 w5.toNat), .ref 76]) l157_32 (fun _ => rfl) ?_
      refine b_gp (q' := 83) (j := 7) l157_33 (by rfl) (by decide) (by decide) rfl hk rfl rfl (b_pc (pc' := 36) rfl ?_)
      refine b_s (pc' := 37) (lv1 := [(0, .ref 76), (1, bI v1), (2, bI v2), (3, bI v3), (4, bI v4)]) (st' := [.ref 76, .ref 83, bI (μ 83 w5.toNat), .ref 76]) l157_36 (fun _ => rfl) ?_
      refine b_s (pc' := 39) (lv1 := [(0, .ref 76), (1, bI v1), (2, bI v2), (3, bI v3), (4, bI v4)]) (st' := [bI v4, .ref 76, .ref 83, bI (μ 83 w5.toNat), .ref 76]) l157_37 (fun _ => rfl) ?_
      refine b_cPi l157_39 rfl (b_rc (ci := 9) (by rfl) (by decide) (by decide +kernel)) (Nat.le_of_ble_eq_true rfl) (Nat.le_of_ble_eq_true rfl) rfl (r_X11_at v4 h4) fun w6 hw6 => b_pc (pc' := 42) rfl ?_
      refine b_g fun g16 => ?_
      refine b_ial l157_42 (by rfl) g16 (b_pc (pc' := 43) rfl ?_)
      refine b_ieq (pt := 50) l157_43 (bO_i hk (by rfl)) (bO_i hk (by rfl)) (by decide) rfl (fun c7 => ?_) (fun c7 => b_pc (pc' := 46) rfl ?_)
      · refine b_s (pc' := 51) (lv1 := [(0, .ref 76), (1, bI v1), (2, bI v2), (3, bI v3), (4, bI v4)]) (st' := [bI v2, .ref 76]) l157_50 (fun _ => rfl) ?_
        refine b_cPz l157_51 rfl (fun _ => trivial) (Nat.le_of_ble_eq_true rfl) (Nat.le_of_ble_eq_true rfl) rfl (r_X11_isName v2 h2) fun w8 hw8 => b_pc (pc' := 54) rfl ?_
        refine b_zeq (pt := 73) l157_54 (bZ_R hw8) (by decide) rfl (fun c9 => ?_) (fun c9 => b_pc (pc' := 57) rfl ?_)
        · refine bD.wk (lv' := [(0, .ref 76), (1, bI v1), (2, bI v2), (3, bI v3), (4, bI v4)]) (bSb rfl (bSb rfl (bSb rfl (bSb rfl (bSb rfl bSn))))) ?_
          exact p_X11_reference_73 hr h1 h2 h3 h4
        · refine b_s (pc' := 58) (lv1 := [(0, .ref 76), (1, bI v1), (2, bI v2), (3, bI v3), (4, bI v4)]) (st' := [bI v3, .ref 76]) l157_57 (fun _ => rfl) ?_
          refine b_cPz l157_58 rfl (fun _ => trivial) (Nat.le_of_ble_eq_true rfl) (Nat.le_of_ble_eq_true rfl) rfl (r_X11_isReference v3 h3) fun w10 hw10 => b_pc (pc' := 61) rfl ?_
          refine b_zeq (pt := 73) l157_61 (bZ_R hw10) (by decide) rfl (fun c11 => ?_) (fun c11 => b_pc (pc' := 64) rfl ?_)
          · refine bD.wk (lv' := [(0, .ref 76), (1, bI v1), (2, bI v2), (3, bI v3), (4, bI v4)]) (bSb rfl (bSb rfl (bSb rfl (bSb rfl (bSb rfl bSn))))) ?_
            exact p_X11_reference_73 hr h1 h2 h3 h4
          · refine b_s (pc' := 65) (lv1 := [(0, .ref 76), (1, bI v1), (2, bI v2), (3, bI v3), (4, bI v4)]) (st' := [.ref 76, .ref 76]) l157_64 (fun _ => rfl) ?_
            refine b_s (pc' := 66) (lv1 := [(0, .ref 76), (1, bI v1), (2, bI v2), (3, bI v3), (4, bI v4)]) (st' := [bI v1, .ref 76, .ref 76]) l157_65 (fun _ => rfl) ?_
            refine b_s (pc' := 67) (lv1 := [(0, .ref 76), (1, bI v1), (2, bI v2), (3, bI v3), (4, bI v4)]) (st' := [bI v2, bI v1, .ref 76, .ref 76]) l157_66 (fun _ => rfl) ?_
            refine b_cPz l157_67 rfl (b_rc (ci := 9) (by rfl) (by decide) (by decide +kernel)) (Nat.le_of_ble_eq_true rfl) (Nat.le_of_ble_eq_true rfl) rfl (r_X11_isTold v1 h1 v2 h2) fun w12 hw12 => b_pc (pc' := 70) rfl ?_
            refine b_zeq (pt := 77) l157_70 (bZ_R hw12) (by decide) rfl (fun c13 => ?_) (fun c13 => b_pc (pc' := 73) rfl ?_)
            · refine b_s (pc' := 78) (lv1 := [(0, .ref 76), (1, bI v1), (2, bI v2), (3, bI v3), (4, bI v4)]) (st' := [.ref 76, .ref 76]) l157_77 (fun _ => rfl) ?_
              refine b_s (pc' := 79) (lv1 := [(0, .ref 76), (1, bI v1), (2, bI v2), (3, bI v3), (4, bI v4)]) (st' := [bI v1, .ref 76, .ref 76]) l157_78 (fun _ => rfl) ?_
              refine b_cPz l157_79 rfl (b_rc (ci := 9) (by rfl) (by decide) (by decide +kernel)) (Nat.le_of_ble_eq_true rfl) (Nat.le_of_ble_eq_true rfl) rfl (r_X11_isFull v1 h1) fun w14 hw14 => b_pc (pc' := 82) rfl ?_
              refine b_zeq (pt := 89) l157_82 (bZ_R hw14) (by decide) rfl (fun c15 => ?_) (fun c15 => b_pc (pc' := 85) rfl ?_)
              · refine b_s (pc' := 90) (lv1 := [(0, .ref 76), (1, bI v1), (2, bI v2), (3, bI v3), (4, bI v4)]) (st' := [bI 0, .ref 76]) l157_89 (fun _ => rfl) ?_
                refine bD.wk (lv' := [(0, .ref 76), (1, bI v1), (2, bI v2), (3, bI v3), (4, bI v4)]) (bSb rfl (bSb rfl (bSb rfl (bSb rfl (bSb rfl bSn))))) ?_
                exact p_X11_reference_90 hr h1 h2 h3 h4 (by decide)
              · refine b_s (pc' := 86) (lv1 := [(0, .ref 76), (1, bI v1), (2, bI v2), (3, bI v3), (4, bI v4)]) (st' := [bI 4, .ref 76]) l157_85 (fun _ => rfl) ?_
                refine b_s (pc' := 90) (lv1 := [(0, .ref 76), (1, bI v1), (2, bI v2), (3, bI v3), (4, bI v4)]) (st' := [bI 4, .ref 76]) l157_86 (fun _ => rfl) ?_
                refine bD.wk (lv' := [(0, .ref 76), (1, bI v1), (2, bI v2), (3, bI v3), (4, bI v4)]) (bSb rfl (bSb rfl (bSb rfl (bSb rfl (bSb rfl bSn))))) ?_
                exact p_X11_reference_90 hr h1 h2 h3 h4 (by decide)
            · refine bD.wk (lv' := [(0, .ref 76), (1, bI v1), (2, bI v2), (3, bI v3), (4, bI v4)]) (bSb rfl (bSb rfl (bSb rfl (bSb rfl (bSb rfl bSn))))) ?_
              exact p_X11_reference_73 hr h1 h2 h3 h4
      · refine b_s (pc' := 47) (lv1 := [(0, .ref 76), (1, bI v1), (2, bI v2), (3, bI v3), (4, bI v4)]) (st' := [bI 2, .ref 76]) l157_46 (fun _ => rfl) ?_
        refine b_s (pc' := 90) (lv1 := [(0, .ref 76), (1, bI v1), (2, bI v2), (3, bI v3), (4, bI v4)]) (st' := [bI 2, .ref 76]) l157_47 (fun _ => rfl) ?_
        refine bD.wk (lv' := [(0, .ref 76), (1, bI v1), (2, bI v2), (3, bI v3), (4, bI v4)]) (bSb rfl (bSb rfl (bSb rfl (bSb rfl (bSb rfl bSn))))) ?_
        exact p_X11_reference_90 hr h1 h2 h3 h4 (by decide)
    · refine bD.wk (lv' := [(0, .ref 76), (1, bI v1), (2, bI v2), (3, bI v3), (4, bI v4)]) (bSb rfl (bSb rfl (bSb rfl (bSb rfl (bSb rfl bSn))))) ?_
      exact p_X11_reference_18 hr h1 h2 h3 h4
/-! ETModel.clear -/
theorem l158_0 : (ax_dt (ax_T 158)).lookup 0 = some (.aload_n 0, 1, 0, 0, 0) := by decide +kernel
theorem l158_1 : (ax_dt (ax_T 158)).lookup 1 = some (.iconst 0, 1, 0, 0, 0) := by decide +kernel
theorem l158_2 : (ax_dt (ax_T 158)).lookup 2 = some (.putfield 120, 3, 9, 0, 0) := by decide +kernel
theorem l158_5 : (ax_dt (ax_T 158)).lookup 5 = some (.aload_n 0, 1, 0, 0, 0) := by decide +kernel
theorem l158_6 : (ax_dt (ax_T 158)).lookup 6 = some (.getfield 13, 3, 9, 4, 0) := by decide +kernel
theorem l158_9 : (ax_dt (ax_T 158)).lookup 9 = some (.aload_n 0, 1, 0, 0, 0) := by decide +kernel
theorem l158_10 : (ax_dt (ax_T 158)).lookup 10 = some (.getfield 137, 3, 9, 3, 0) := by decide +kernel
theorem l158_13 : (ax_dt (ax_T 158)).lookup 13 = some (.iaload, 1, 0, 0, 0) := by decide +kernel
theorem l158_14 : (ax_dt (ax_T 158)).lookup 14 = some (.istore_n 1, 1, 0, 0, 0) := by decide +kernel
theorem l158_15 : (ax_dt (ax_T 158)).lookup 15 = some (.aload_n 0, 1, 0, 0, 0) := by decide +kernel
theorem l158_16 : (ax_dt (ax_T 158)).lookup 16 = some (.getfield 13, 3, 9, 4, 0) := by decide +kernel
theorem l158_19 : (ax_dt (ax_T 158)).lookup 19 = some (.aload_n 0, 1, 0, 0, 0) := by decide +kernel
theorem l158_20 : (ax_dt (ax_T 158)).lookup 20 = some (.getfield 137, 3, 9, 3, 0) := by decide +kernel
theorem l158_23 : (ax_dt (ax_T 158)).lookup 23 = some (.iconst 0, 1, 0, 0, 0) := by decide +kernel
theorem l158_24 : (ax_dt (ax_T 158)).lookup 24 = some (.iastore, 1, 0, 0, 0) := by decide +kernel
theorem l158_25 : (ax_dt (ax_T 158)).lookup 25 = some (.aload_n 0, 1, 0, 0, 0) := by decide +kernel
theorem l158_26 : (ax_dt (ax_T 158)).lookup 26 = some (.getfield 17, 3, 9, 5, 0) := by decide +kernel
theorem l158_29 : (ax_dt (ax_T 158)).lookup 29 = some (.aload_n 0, 1, 0, 0, 0) := by decide +kernel
theorem l158_30 : (ax_dt (ax_T 158)).lookup 30 = some (.getfield 137, 3, 9, 3, 0) := by decide +kernel
theorem l158_33 : (ax_dt (ax_T 158)).lookup 33 = some (.iconst 0, 1, 0, 0, 0) := by decide +kernel
theorem l158_34 : (ax_dt (ax_T 158)).lookup 34 = some (.iastore, 1, 0, 0, 0) := by decide +kernel
theorem l158_35 : (ax_dt (ax_T 158)).lookup 35 = some (.aload_n 0, 1, 0, 0, 0) := by decide +kernel
theorem l158_36 : (ax_dt (ax_T 158)).lookup 36 = some (.getfield 54, 3, 9, 17, 0) := by decide +kernel
theorem l158_39 : (ax_dt (ax_T 158)).lookup 39 = some (.aload_n 0, 1, 0, 0, 0) := by decide +kernel
theorem l158_40 : (ax_dt (ax_T 158)).lookup 40 = some (.getfield 137, 3, 9, 3, 0) := by decide +kernel
theorem l158_43 : (ax_dt (ax_T 158)).lookup 43 = some (.iconst 0, 1, 0, 0, 0) := by decide +kernel
theorem l158_44 : (ax_dt (ax_T 158)).lookup 44 = some (.iastore, 1, 0, 0, 0) := by decide +kernel
theorem l158_45 : (ax_dt (ax_T 158)).lookup 45 = some (.aload_n 0, 1, 0, 0, 0) := by decide +kernel
theorem l158_46 : (ax_dt (ax_T 158)).lookup 46 = some (.getfield 51, 3, 9, 16, 0) := by decide +kernel
theorem l158_49 : (ax_dt (ax_T 158)).lookup 49 = some (.aload_n 0, 1, 0, 0, 0) := by decide +kernel
theorem l158_50 : (ax_dt (ax_T 158)).lookup 50 = some (.getfield 137, 3, 9, 3, 0) := by decide +kernel
theorem l158_53 : (ax_dt (ax_T 158)).lookup 53 = some (.iconst 0, 1, 0, 0, 0) := by decide +kernel
theorem l158_54 : (ax_dt (ax_T 158)).lookup 54 = some (.iastore, 1, 0, 0, 0) := by decide +kernel
theorem l158_55 : (ax_dt (ax_T 158)).lookup 55 = some (.iload_n 1, 1, 0, 0, 0) := by decide +kernel
theorem l158_56 : (ax_dt (ax_T 158)).lookup 56 = some (.ireturn, 1, 0, 0, 0) := by decide +kernel
noncomputable def F_X11_clear (μ : bM) : Option (Int × bM) := bG (0 ≤ ((bset μ 76 0 0) 76 3) ∧ ((bset μ 76 0 0) 76 3) < 2) (bG (0 ≤ ((bset μ 76 0 0) 76 3) ∧ ((bset μ 76 0 0) 76 3) < 2) (bG (0 ≤ ((bset (bset μ 76 0 0) 78 ((bset μ 76 0 0) 76 3).toNat 0) 76 3) ∧ ((bset (bset μ 76 0 0) 78 ((bset μ 76 0 0) 76 3).toNat 0) 76 3) < 2) (bG (0 ≤ ((bset (bset (bset μ 76 0 0) 78 ((bset μ 76 0 0) 76 3).toNat 0) 79 ((bset (bset μ 76 0 0) 78 ((bset μ 76 0 0) 76 3).toNat 0) 76 3).toNat 0) 76 3) ∧ ((bset (bset (bset μ 76 0 0) 78 ((bset μ 76 0 0) 76 3).toNat 0) 79 ((bset (bset μ 76 0 0) 78 ((bset μ 76 0 0) 76 3).toNat 0) 76 3).toNat 0) 76 3) < 2) (bG (0 ≤ ((bset (bset (bset (bset μ 76 0 0) 78 ((bset μ 76 0 0) 76 3).toNat 0) 79 ((bset (bset μ 76 0 0) 78 ((bset μ 76 0 0) 76 3).toNat 0) 76 3).toNat 0) 91 ((bset (bset (bset μ 76 0 0) 78 ((bset μ 76 0 0) 76 3).toNat 0) 79 ((bset (bset μ 76 0 0) 78 ((bset μ 76 0 0) 76 3).toNat 0) 76 3).toNat 0) 76 3).toNat 0) 76 3) ∧ ((bset (bset (bset (bset μ 76 0 0) 78 ((bset μ 76 0 0) 76 3).toNat 0) 79 ((bset (bset μ 76 0 0) 78 ((bset μ 76 0 0) 76 3).toNat 0) 76 3).toNat 0) 91 ((bset (bset (bset μ 76 0 0) 78 ((bset μ 76 0 0) 76 3).toNat 0) 79 ((bset (bset μ 76 0 0) 78 ((bset μ 76 0 0) 76 3).toNat 0) 76 3).toNat 0) 76 3).toNat 0) 76 3) < 2) (some (((bset μ 76 0 0) 78 ((bset μ 76 0 0) 76 3).toNat), (bset (bset (bset (bset (bset μ 76 0 0) 78 ((bset μ 76 0 0) 76 3).toNat 0) 79 ((bset (bset μ 76 0 0) 78 ((bset μ 76 0 0) 76 3).toNat 0) 76 3).toNat 0) 91 ((bset (bset (bset μ 76 0 0) 78 ((bset μ 76 0 0) 76 3).toNat 0) 79 ((bset (bset μ 76 0 0) 78 ((bset μ 76 0 0) 76 3).toNat 0) 76 3).toNat 0) 76 3).toNat 0) 90 ((bset (bset (bset (bset μ 76 0 0) 78 ((bset μ 76 0 0) 76 3).toNat 0) 79 ((bset (bset μ 76 0 0) 78 ((bset μ 76 0 0) 76 3).toNat 0) 76 3).toNat 0) 91 ((bset (bset (bset μ 76 0 0) 78 ((bset μ 76 0 0) 76 3).toNat 0) 79 ((bset (bset μ 76 0 0) 78 ((bset μ 76 0 0) 76 3).toNat 0) 76 3).toNat 0) 76 3).toNat 0) 76 3).toNat 0)))))))
theorem r_X11_clear {L : Nat} {xs : Nat → Int32} {d : Nat} {μ : bM}   : bD L xs (d + 0) 158 0 [(0, .ref 76)] [] μ ((F_X11_clear μ).bind (bMc)) := by
  have hr : ∀ r, (bMc) r = (bMc) r := fun _ => rfl
  unfold F_X11_clear
  refine bD.ok fun hk => ?_
  refine b_s (pc' := 1) (lv1 := [(0, .ref 76)]) (st' := [.ref 76]) l158_0 (fun _ => rfl) ?_
  refine b_s (pc' := 2) (lv1 := [(0, .ref 76)]) (st' := [bI 0, .ref 76]) l158_1 (fun _ => rfl) ?_
  refine b_pi l158_2 (by rfl) (by decide) (by decide) rfl rfl (by decide) (bD.ok fun hk1 => b_pc (pc' := 5) rfl ?_)
  refine b_s (pc' := 6) (lv1 := [(0, .ref 76)]) (st' := [.ref 76]) l158_5 (fun _ => rfl) ?_
  refine b_gp (q' := 78) (j := 2) l158_6 (by rfl) (by decide) (by decide) rfl hk1 rfl rfl (b_pc (pc' := 9) rfl ?_)
  refine b_s (pc' := 10) (lv1 := [(0, .ref 76)]) (st' := [.ref 76, .ref 78]) l158_9 (fun _ => rfl) ?_
  refine b_gi l158_10 (by rfl) (by decide) (by decide) rfl (b_pc (pc' := 13) rfl ?_)
  refine b_g fun g10 => ?_
  refine b_ial l158_13 (by rfl) g10 (b_pc (pc' := 14) rfl ?_)
  refine b_w (pc' := 15) (lv1 := ax_st1 [(0, .ref 76)] 1 (bI ((bset μ 76 0 0) 78 ((bset μ 76 0 0) 76 3).toNat))) (lv' := [(0, .ref 76), (1, bI ((bset μ 76 0 0) 78 ((bset μ 76 0 0) 76 3).toNat))]) (st' := []) l158_14 (fun _ => rfl) (bSb rfl (bSb rfl bSn)) ?_
  refine b_s (pc' := 16) (lv1 := [(0, .ref 76), (1, bI ((bset μ 76 0 0) 78 ((bset μ 76 0 0) 76 3).toNat))]) (st' := [.ref 76]) l158_15 (fun _ => rfl) ?_
  refine b_gp (q' := 78) (j := 2) l158_16 (by rfl) (by decide) (by decide) rfl hk1 rfl rfl (b_pc (pc' := 19) rfl ?_)
  refine b_s (pc' := 20) (lv1 := [(0, .ref 76), (1, bI ((bset μ 76 0 0) 78 ((bset μ 76 0 0) 76 3).toNat))]) (st' := [.ref 76, .ref 78]) l158_19 (fun _ => rfl) ?_
  refine b_gi l158_20 (by rfl) (by decide) (by decide) rfl (b_pc (pc' := 23) rfl ?_)
  refine b_s (pc' := 24) (lv1 := [(0, .ref 76), (1, bI ((bset μ 76 0 0) 78 ((bset μ 76 0 0) 76 3).toNat))]) (st' := [bI 0, bI ((bset μ 76 0 0) 76 3), .ref 78]) l158_23 (fun _ => rfl) ?_
  refine b_g fun g9 => ?_
  refine b_ias l158_24 (by rfl) g9 (by decide) (bD.ok fun hk2 => b_pc (pc' := 25) rfl ?_)
  refine b_s (pc' := 26) (lv1 := [(0, .ref 76), (1, bI ((bset μ 76 0 0) 78 ((bset μ 76 0 0) 76 3).toNat))]) (st' := [.ref 76]) l158_25 (fun _ => rfl) ?_
  refine b_gp (q' := 79) (j := 3) l158_26 (by rfl) (by decide) (by decide) rfl hk2 rfl rfl (b_pc (pc' := 29) rfl ?_)
  refine b_s (pc' := 30) (lv1 := [(0, .ref 76), (1, bI ((bset μ 76 0 0) 78 ((bset μ 76 0 0) 76 3).toNat))]) (st' := [.ref 76, .ref 79]) l158_29 (fun _ => rfl) ?_
  refine b_gi l158_30 (by rfl) (by decide) (by decide) rfl (b_pc (pc' := 33) rfl ?_)
  refine b_s (pc' := 34) (lv1 := [(0, .ref 76), (1, bI ((bset μ 76 0 0) 78 ((bset μ 76 0 0) 76 3).toNat))]) (st' := [bI 0, bI ((bset (bset μ 76 0 0) 78 ((bset μ 76 0 0) 76 3).toNat 0) 76 3), .ref 79]) l158_33 (fun _ => rfl) ?_
  refine b_g fun g8 => ?_
  refine b_ias l158_34 (by rfl) g8 (by decide) (bD.ok fun hk3 => b_pc (pc' := 35) rfl ?_)
  refine b_s (pc' := 36) (lv1 := [(0, .ref 76), (1, bI ((bset μ 76 0 0) 78 ((bset μ 76 0 0) 76 3).toNat))]) (st' := [.ref 76]) l158_35 (fun _ => rfl) ?_
  refine b_gp (q' := 91) (j := 15) l158_36 (by rfl) (by decide) (by decide) rfl hk3 rfl rfl (b_pc (pc' := 39) rfl ?_)
  refine b_s (pc' := 40) (lv1 := [(0, .ref 76), (1, bI ((bset μ 76 0 0) 78 ((bset μ 76 0 0) 76 3).toNat))]) (st' := [.ref 76, .ref 91]) l158_39 (fun _ => rfl) ?_
  refine b_gi l158_40 (by rfl) (by decide) (by decide) rfl (b_pc (pc' := 43) rfl ?_)
  refine b_s (pc' := 44) (lv1 := [(0, .ref 76), (1, bI ((bset μ 76 0 0) 78 ((bset μ 76 0 0) 76 3).toNat))]) (st' := [bI 0, bI ((bset (bset (bset μ 76 0 0) 78 ((bset μ 76 0 0) 76 3).toNat 0) 79 ((bset (bset μ 76 0 0) 78 ((bset μ 76 0 0) 76 3).toNat 0) 76 3).toNat 0) 76 3), .ref 91]) l158_43 (fun _ => rfl) ?_
  refine b_g fun g7 => ?_
  refine b_ias l158_44 (by rfl) g7 (by decide) (bD.ok fun hk4 => b_pc (pc' := 45) rfl ?_)
  refine b_s (pc' := 46) (lv1 := [(0, .ref 76), (1, bI ((bset μ 76 0 0) 78 ((bset μ 76 0 0) 76 3).toNat))]) (st' := [.ref 76]) l158_45 (fun _ => rfl) ?_
  refine b_gp (q' := 90) (j := 14) l158_46 (by rfl) (by decide) (by decide) rfl hk4 rfl rfl (b_pc (pc' := 49) rfl ?_)
  refine b_s (pc' := 50) (lv1 := [(0, .ref 76), (1, bI ((bset μ 76 0 0) 78 ((bset μ 76 0 0) 76 3).toNat))]) (st' := [.ref 76, .ref 90]) l158_49 (fun _ => rfl) ?_
  refine b_gi l158_50 (by rfl) (by decide) (by decide) rfl (b_pc (pc' := 53) rfl ?_)
  refine b_s (pc' := 54) (lv1 := [(0, .ref 76), (1, bI ((bset μ 76 0 0) 78 ((bset μ 76 0 0) 76 3).toNat))]) (st' := [bI 0, bI ((bset (bset (bset (bset μ 76 0 0) 78 ((bset μ 76 0 0) 76 3).toNat 0) 79 ((bset (bset μ 76 0 0) 78 ((bset μ 76 0 0) 76 3).toNat 0) 76 3).toNat 0) 91 ((bset (bset (bset μ 76 0 0) 78 ((bset μ 76 0 0) 76 3).toNat 0) 79 ((bset (bset μ 76 0 0) 78 ((bset μ 76 0 0) 76 3).toNat 0) 76 3).toNat 0) 76 3).toNat 0) 76 3), .ref 90]) l158_53 (fun _ => rfl) ?_
  refine b_g fun g6 => ?_
  refine b_ias l158_54 (by rfl) g6 (by decide) (bD.ok fun hk5 => b_pc (pc' := 55) rfl ?_)
  refine b_s (pc' := 56) (lv1 := [(0, .ref 76), (1, bI ((bset μ 76 0 0) 78 ((bset μ 76 0 0) 76 3).toNat))]) (st' := [bI ((bset μ 76 0 0) 78 ((bset μ 76 0 0) 76 3).toNat)]) l158_55 (fun _ => rfl) ?_
  exact b_reti l158_56 rfl (bO_i hk1 (by rfl)) (hr _)
end
