section
/-! ETModel.thrown -/
theorem l133_0 : (ax_dt (ax_T 133)).lookup 0 = some (.aload_n 0, 1, 0, 0, 0) := by decide +kernel
theorem l133_1 : (ax_dt (ax_T 133)).lookup 1 = some (.getfield 120, 3, 9, 0, 0) := by decide +kernel
theorem l133_4 : (ax_dt (ax_T 133)).lookup 4 = some (.ireturn, 1, 0, 0, 0) := by decide +kernel
noncomputable def F_X11_thrown (μ : bM) : Option (Int) := some ((μ 76 0))
theorem r_X11_thrown {L : Nat} {xs : Nat → Int32} {d : Nat} {μ : bM}   : bD L xs (d + 0) 133 0 [(0, .ref 76)] [] μ ((F_X11_thrown μ).bind (bPc μ)) := by
  have hr : ∀ r, (bPc μ) r = (bPc μ) r := fun _ => rfl
  unfold F_X11_thrown
  refine bD.ok fun hk => ?_
  refine b_s (pc' := 1) (lv1 := [(0, .ref 76)]) (st' := [.ref 76]) l133_0 (fun _ => rfl) ?_
  refine b_gi l133_1 (by rfl) (by decide) (by decide) rfl (b_pc (pc' := 4) rfl ?_)
  exact b_reti l133_4 rfl (bO_f hk (ci := 9) (by rfl) rfl) (hr _)
/-! ETModel.in -/
theorem l134_0 : (ax_dt (ax_T 134)).lookup 0 = some (.lload_n 0, 1, 0, 0, 0) := by decide +kernel
theorem l134_1 : (ax_dt (ax_T 134)).lookup 1 = some (.lload_n 2, 1, 0, 0, 0) := by decide +kernel
theorem l134_2 : (ax_dt (ax_T 134)).lookup 2 = some (.lcmp, 1, 0, 0, 0) := by decide +kernel
theorem l134_3 : (ax_dt (ax_T 134)).lookup 3 = some (.ifCond .lt 14, 3, 0, 0, 0) := by decide +kernel
theorem l134_6 : (ax_dt (ax_T 134)).lookup 6 = some (.lload_n 0, 1, 0, 0, 0) := by decide +kernel
theorem l134_7 : (ax_dt (ax_T 134)).lookup 7 = some (.lload 4, 2, 0, 0, 0) := by decide +kernel
theorem l134_9 : (ax_dt (ax_T 134)).lookup 9 = some (.lcmp, 1, 0, 0, 0) := by decide +kernel
theorem l134_10 : (ax_dt (ax_T 134)).lookup 10 = some (.ifCond .gt 7, 3, 0, 0, 0) := by decide +kernel
theorem l134_13 : (ax_dt (ax_T 134)).lookup 13 = some (.iconst 1, 1, 0, 0, 0) := by decide +kernel
theorem l134_14 : (ax_dt (ax_T 134)).lookup 14 = some (.goto 4, 3, 0, 0, 0) := by decide +kernel
theorem l134_17 : (ax_dt (ax_T 134)).lookup 17 = some (.iconst 0, 1, 0, 0, 0) := by decide +kernel
theorem l134_18 : (ax_dt (ax_T 134)).lookup 18 = some (.ireturn, 1, 0, 0, 0) := by decide +kernel
noncomputable def F_X11_in (v0 : Int) (v2 : Int) (v4 : Int) (μ : bM) : Option (Int) := if (bCmp v0 v2) < 0 then some (0) else if 0 < (bCmp v0 v4) then some (0) else some (1)
theorem r_X11_in {L : Nat} {xs : Nat → Int32} {d : Nat} {μ : bM}  (v0 : Int) (h0 : bRL v0) (v2 : Int) (h2 : bRL v2) (v4 : Int) (h4 : bRL v4) : bD L xs (d + 0) 134 0 [(0, bLg v0), (2, bLg v2), (4, bLg v4)] [] μ ((F_X11_in v0 v2 v4 μ).bind (bPc μ)) := by
  have hr : ∀ r, (bPc μ) r = (bPc μ) r := fun _ => rfl
  unfold F_X11_in
  refine bD.ok fun hk => ?_
  refine b_s (pc' := 1) (lv1 := [(0, bLg v0), (2, bLg v2), (4, bLg v4)]) (st' := [bLg v0]) l134_0 (fun _ => rfl) ?_
  refine b_s (pc' := 2) (lv1 := [(0, bLg v0), (2, bLg v2), (4, bLg v4)]) (st' := [bLg v2, bLg v0]) l134_1 (fun _ => rfl) ?_
  refine b_lcmp l134_2 h0 h2 (b_pc (pc' := 3) rfl ?_)
  refine b_zlt (pt := 17) l134_3 (bCmp_R _ _) (by decide) rfl (fun c1 => ?_) (fun c1 => b_pc (pc' := 6) rfl ?_)
  · refine b_s (pc' := 18) (lv1 := [(0, bLg v0), (2, bLg v2), (4, bLg v4)]) (st' := [bI 0]) l134_17 (fun _ => rfl) ?_
    exact b_retz l134_18 rfl (by decide) (hr _)
  · refine b_s (pc' := 7) (lv1 := [(0, bLg v0), (2, bLg v2), (4, bLg v4)]) (st' := [bLg v0]) l134_6 (fun _ => rfl) ?_
    refine b_s (pc' := 9) (lv1 := [(0, bLg v0), (2, bLg v2), (4, bLg v4)]) (st' := [bLg v4, bLg v0]) l134_7 (fun _ => rfl) ?_
    refine b_lcmp l134_9 h0 h4 (b_pc (pc' := 10) rfl ?_)
    refine b_zgt (pt := 17) l134_10 (bCmp_R _ _) (by decide) rfl (fun c2 => ?_) (fun c2 => b_pc (pc' := 13) rfl ?_)
    · refine b_s (pc' := 18) (lv1 := [(0, bLg v0), (2, bLg v2), (4, bLg v4)]) (st' := [bI 0]) l134_17 (fun _ => rfl) ?_
      exact b_retz l134_18 rfl (by decide) (hr _)
    · refine b_s (pc' := 14) (lv1 := [(0, bLg v0), (2, bLg v2), (4, bLg v4)]) (st' := [bI 1]) l134_13 (fun _ => rfl) ?_
      refine b_s (pc' := 18) (lv1 := [(0, bLg v0), (2, bLg v2), (4, bLg v4)]) (st' := [bI 1]) l134_14 (fun _ => rfl) ?_
      exact b_retz l134_18 rfl (by decide) (hr _)
/-! ETModel.goes -/
theorem l135_0 : (ax_dt (ax_T 135)).lookup 0 = some (.aload_n 0, 1, 0, 0, 0) := by decide +kernel
theorem l135_1 : (ax_dt (ax_T 135)).lookup 1 = some (.iload_n 1, 1, 0, 0, 0) := by decide +kernel
theorem l135_2 : (ax_dt (ax_T 135)).lookup 2 = some (.ifCond .eq 7, 3, 0, 0, 0) := by decide +kernel
theorem l135_5 : (ax_dt (ax_T 135)).lookup 5 = some (.iconst 0, 1, 0, 0, 0) := by decide +kernel
theorem l135_6 : (ax_dt (ax_T 135)).lookup 6 = some (.goto 4, 3, 0, 0, 0) := by decide +kernel
theorem l135_9 : (ax_dt (ax_T 135)).lookup 9 = some (.iconst 1, 1, 0, 0, 0) := by decide +kernel
theorem l135_10 : (ax_dt (ax_T 135)).lookup 10 = some (.putfield 120, 3, 9, 0, 0) := by decide +kernel
theorem l135_13 : (ax_dt (ax_T 135)).lookup 13 = some (.iload_n 1, 1, 0, 0, 0) := by decide +kernel
theorem l135_14 : (ax_dt (ax_T 135)).lookup 14 = some (.ireturn, 1, 0, 0, 0) := by decide +kernel
noncomputable def F_X11_goes (v1 : Int) (μ : bM) : Option (Int × bM) := if v1 = 0 then bG (0 ≤ v1 ∧ v1 ≤ 1) (some (v1, (bset μ 76 0 1))) else bG (0 ≤ v1 ∧ v1 ≤ 1) (some (v1, (bset μ 76 0 0)))
theorem r_X11_goes {L : Nat} {xs : Nat → Int32} {d : Nat} {μ : bM}  (v1 : Int) (h1 : bR v1) : bD L xs (d + 0) 135 0 [(0, .ref 76), (1, bI v1)] [] μ ((F_X11_goes v1 μ).bind (bMc)) := by
  have hr : ∀ r, (bMc) r = (bMc) r := fun _ => rfl
  unfold F_X11_goes
  refine bD.ok fun hk => ?_
  refine b_s (pc' := 1) (lv1 := [(0, .ref 76), (1, bI v1)]) (st' := [.ref 76]) l135_0 (fun _ => rfl) ?_
  refine b_s (pc' := 2) (lv1 := [(0, .ref 76), (1, bI v1)]) (st' := [bI v1, .ref 76]) l135_1 (fun _ => rfl) ?_
  refine b_zeq (pt := 9) l135_2 h1 (by decide) rfl (fun c1 => ?_) (fun c1 => b_pc (pc' := 5) rfl ?_)
  · refine b_s (pc' := 10) (lv1 := [(0, .ref 76), (1, bI v1)]) (st' := [bI 1, .ref 76]) l135_9 (fun _ => rfl) ?_
    refine b_pi l135_10 (by rfl) (by decide) (by decide) rfl rfl (by decide) (bD.ok fun hk2 => b_pc (pc' := 13) rfl ?_)
    refine b_s (pc' := 14) (lv1 := [(0, .ref 76), (1, bI v1)]) (st' := [bI v1]) l135_13 (fun _ => rfl) ?_
    refine b_g fun g3 => ?_
    exact b_retz l135_14 rfl g3 (hr _)
  · refine b_s (pc' := 6) (lv1 := [(0, .ref 76), (1, bI v1)]) (st' := [bI 0, .ref 76]) l135_5 (fun _ => rfl) ?_
    refine b_s (pc' := 10) (lv1 := [(0, .ref 76), (1, bI v1)]) (st' := [bI 0, .ref 76]) l135_6 (fun _ => rfl) ?_
    refine b_pi l135_10 (by rfl) (by decide) (by decide) rfl rfl (by decide) (bD.ok fun hk4 => b_pc (pc' := 13) rfl ?_)
    refine b_s (pc' := 14) (lv1 := [(0, .ref 76), (1, bI v1)]) (st' := [bI v1]) l135_13 (fun _ => rfl) ?_
    refine b_g fun g5 => ?_
    exact b_retz l135_14 rfl g5 (hr _)
/-! ETModel.from -/
theorem l136_0 : (ax_dt (ax_T 136)).lookup 0 = some (.iload_n 0, 1, 0, 0, 0) := by decide +kernel
theorem l136_1 : (ax_dt (ax_T 136)).lookup 1 = some (.ifCond .ne 7, 3, 0, 0, 0) := by decide +kernel
theorem l136_4 : (ax_dt (ax_T 136)).lookup 4 = some (.iconst 0, 1, 0, 0, 0) := by decide +kernel
theorem l136_5 : (ax_dt (ax_T 136)).lookup 5 = some (.goto 17, 3, 0, 0, 0) := by decide +kernel
theorem l136_8 : (ax_dt (ax_T 136)).lookup 8 = some (.iload_n 0, 1, 0, 0, 0) := by decide +kernel
theorem l136_9 : (ax_dt (ax_T 136)).lookup 9 = some (.iconst 1, 1, 0, 0, 0) := by decide +kernel
theorem l136_10 : (ax_dt (ax_T 136)).lookup 10 = some (.if_icmp .ne 9, 3, 0, 0, 0) := by decide +kernel
theorem l136_13 : (ax_dt (ax_T 136)).lookup 13 = some (.sipush 24000, 3, 0, 0, 0) := by decide +kernel
theorem l136_16 : (ax_dt (ax_T 136)).lookup 16 = some (.goto 6, 3, 0, 0, 0) := by decide +kernel
theorem l136_19 : (ax_dt (ax_T 136)).lookup 19 = some (.sipush 32000, 3, 0, 0, 0) := by decide +kernel
theorem l136_22 : (ax_dt (ax_T 136)).lookup 22 = some (.ireturn, 1, 0, 0, 0) := by decide +kernel
noncomputable def F_X11_from (v0 : Int) (μ : bM) : Option (Int) := if ¬ v0 = 0 then if ¬ v0 = 1 then some (32000) else some (24000) else some (0)
theorem r_X11_from {L : Nat} {xs : Nat → Int32} {d : Nat} {μ : bM}  (v0 : Int) (h0 : bR v0) : bD L xs (d + 0) 136 0 [(0, bI v0)] [] μ ((F_X11_from v0 μ).bind (bPc μ)) := by
  have hr : ∀ r, (bPc μ) r = (bPc μ) r := fun _ => rfl
  unfold F_X11_from
  refine bD.ok fun hk => ?_
  refine b_s (pc' := 1) (lv1 := [(0, bI v0)]) (st' := [bI v0]) l136_0 (fun _ => rfl) ?_
  refine b_zne (pt := 8) l136_1 h0 (by decide) rfl (fun c1 => ?_) (fun c1 => b_pc (pc' := 4) rfl ?_)
  · refine b_s (pc' := 9) (lv1 := [(0, bI v0)]) (st' := [bI v0]) l136_8 (fun _ => rfl) ?_
    refine b_s (pc' := 10) (lv1 := [(0, bI v0)]) (st' := [bI 1, bI v0]) l136_9 (fun _ => rfl) ?_
    refine b_ine (pt := 19) l136_10 h0 (by decide) (by decide) rfl (fun c2 => ?_) (fun c2 => b_pc (pc' := 13) rfl ?_)
    · refine b_sipush l136_19 (by decide) (b_pc (pc' := 22) rfl ?_)
      exact b_reti l136_22 rfl (by decide) (hr _)
    · refine b_sipush l136_13 (by decide) (b_pc (pc' := 16) rfl ?_)
      refine b_s (pc' := 22) (lv1 := [(0, bI v0)]) (st' := [bI 24000]) l136_16 (fun _ => rfl) ?_
      exact b_reti l136_22 rfl (by decide) (hr _)
  · refine b_s (pc' := 5) (lv1 := [(0, bI v0)]) (st' := [bI 0]) l136_4 (fun _ => rfl) ?_
    refine b_s (pc' := 22) (lv1 := [(0, bI v0)]) (st' := [bI 0]) l136_5 (fun _ => rfl) ?_
    exact b_reti l136_22 rfl (by decide) (hr _)
/-! ETModel.most -/
theorem l137_0 : (ax_dt (ax_T 137)).lookup 0 = some (.iload_n 0, 1, 0, 0, 0) := by decide +kernel
theorem l137_1 : (ax_dt (ax_T 137)).lookup 1 = some (.ifCond .ne 9, 3, 0, 0, 0) := by decide +kernel
theorem l137_4 : (ax_dt (ax_T 137)).lookup 4 = some (.sipush 24000, 3, 0, 0, 0) := by decide +kernel
theorem l137_7 : (ax_dt (ax_T 137)).lookup 7 = some (.goto 6, 3, 0, 0, 0) := by decide +kernel
theorem l137_10 : (ax_dt (ax_T 137)).lookup 10 = some (.sipush 8000, 3, 0, 0, 0) := by decide +kernel
theorem l137_13 : (ax_dt (ax_T 137)).lookup 13 = some (.ireturn, 1, 0, 0, 0) := by decide +kernel
noncomputable def F_X11_most (v0 : Int) (μ : bM) : Option (Int) := if ¬ v0 = 0 then some (8000) else some (24000)
theorem r_X11_most {L : Nat} {xs : Nat → Int32} {d : Nat} {μ : bM}  (v0 : Int) (h0 : bR v0) : bD L xs (d + 0) 137 0 [(0, bI v0)] [] μ ((F_X11_most v0 μ).bind (bPc μ)) := by
  have hr : ∀ r, (bPc μ) r = (bPc μ) r := fun _ => rfl
  unfold F_X11_most
  refine bD.ok fun hk => ?_
  refine b_s (pc' := 1) (lv1 := [(0, bI v0)]) (st' := [bI v0]) l137_0 (fun _ => rfl) ?_
  refine b_zne (pt := 10) l137_1 h0 (by decide) rfl (fun c1 => ?_) (fun c1 => b_pc (pc' := 4) rfl ?_)
  · refine b_sipush l137_10 (by decide) (b_pc (pc' := 13) rfl ?_)
    exact b_reti l137_13 rfl (by decide) (hr _)
  · refine b_sipush l137_4 (by decide) (b_pc (pc' := 7) rfl ?_)
    refine b_s (pc' := 13) (lv1 := [(0, bI v0)]) (st' := [bI 24000]) l137_7 (fun _ => rfl) ?_
    exact b_reti l137_13 rfl (by decide) (hr _)
/-! ETModel.feed -/
theorem l138_0 : (ax_dt (ax_T 138)).lookup 0 = some (.aload_n 0, 1, 0, 0, 0) := by decide +kernel
theorem l138_1 : (ax_dt (ax_T 138)).lookup 1 = some (.aload_n 0, 1, 0, 0, 0) := by decide +kernel
theorem l138_2 : (ax_dt (ax_T 138)).lookup 2 = some (.getfield 124, 3, 9, 2, 0) := by decide +kernel
theorem l138_5 : (ax_dt (ax_T 138)).lookup 5 = some (.bipush 20, 2, 0, 0, 0) := by decide +kernel
theorem l138_7 : (ax_dt (ax_T 138)).lookup 7 = some (.iadd, 1, 0, 0, 0) := by decide +kernel
theorem l138_8 : (ax_dt (ax_T 138)).lookup 8 = some (.sipush 12000, 3, 0, 0, 0) := by decide +kernel
theorem l138_11 : (ax_dt (ax_T 138)).lookup 11 = some (.if_icmp .gt 7, 3, 0, 0, 0) := by decide +kernel
theorem l138_14 : (ax_dt (ax_T 138)).lookup 14 = some (.iconst 1, 1, 0, 0, 0) := by decide +kernel
theorem l138_15 : (ax_dt (ax_T 138)).lookup 15 = some (.goto 4, 3, 0, 0, 0) := by decide +kernel
theorem l138_18 : (ax_dt (ax_T 138)).lookup 18 = some (.iconst 0, 1, 0, 0, 0) := by decide +kernel
theorem l138_19 : (ax_dt (ax_T 138)).lookup 19 = some (.invokevirtual 127, 3, 135, 1, 0) := by decide +kernel
theorem l138_22 : (ax_dt (ax_T 138)).lookup 22 = some (.ifCond .ne 5, 3, 0, 0, 0) := by decide +kernel
theorem l138_25 : (ax_dt (ax_T 138)).lookup 25 = some (.iconst 0, 1, 0, 0, 0) := by decide +kernel
theorem l138_26 : (ax_dt (ax_T 138)).lookup 26 = some (.ireturn, 1, 0, 0, 0) := by decide +kernel
theorem l138_27 : (ax_dt (ax_T 138)).lookup 27 = some (.iconst 0, 1, 0, 0, 0) := by decide +kernel
theorem l138_28 : (ax_dt (ax_T 138)).lookup 28 = some (.istore 6, 2, 0, 0, 0) := by decide +kernel
theorem l138_30 : (ax_dt (ax_T 138)).lookup 30 = some (.iload 6, 2, 0, 0, 0) := by decide +kernel
theorem l138_32 : (ax_dt (ax_T 138)).lookup 32 = some (.bipush 20, 2, 0, 0, 0) := by decide +kernel
theorem l138_34 : (ax_dt (ax_T 138)).lookup 34 = some (.if_icmp .ge 90, 3, 0, 0, 0) := by decide +kernel
theorem l138_37 : (ax_dt (ax_T 138)).lookup 37 = some (.iload 6, 2, 0, 0, 0) := by decide +kernel
theorem l138_39 : (ax_dt (ax_T 138)).lookup 39 = some (.iconst 4, 1, 0, 0, 0) := by decide +kernel
theorem l138_40 : (ax_dt (ax_T 138)).lookup 40 = some (.if_icmp .ge 7, 3, 0, 0, 0) := by decide +kernel
theorem l138_43 : (ax_dt (ax_T 138)).lookup 43 = some (.iload_n 1, 1, 0, 0, 0) := by decide +kernel
theorem l138_44 : (ax_dt (ax_T 138)).lookup 44 = some (.goto 39, 3, 0, 0, 0) := by decide +kernel
theorem l138_47 : (ax_dt (ax_T 138)).lookup 47 = some (.iload 6, 2, 0, 0, 0) := by decide +kernel
theorem l138_49 : (ax_dt (ax_T 138)).lookup 49 = some (.bipush 8, 2, 0, 0, 0) := by decide +kernel
theorem l138_51 : (ax_dt (ax_T 138)).lookup 51 = some (.if_icmp .ge 7, 3, 0, 0, 0) := by decide +kernel
theorem l138_54 : (ax_dt (ax_T 138)).lookup 54 = some (.iload_n 2, 1, 0, 0, 0) := by decide +kernel
theorem l138_55 : (ax_dt (ax_T 138)).lookup 55 = some (.goto 28, 3, 0, 0, 0) := by decide +kernel
theorem l138_58 : (ax_dt (ax_T 138)).lookup 58 = some (.iload 6, 2, 0, 0, 0) := by decide +kernel
theorem l138_60 : (ax_dt (ax_T 138)).lookup 60 = some (.bipush 12, 2, 0, 0, 0) := by decide +kernel
theorem l138_62 : (ax_dt (ax_T 138)).lookup 62 = some (.if_icmp .ge 7, 3, 0, 0, 0) := by decide +kernel
theorem l138_65 : (ax_dt (ax_T 138)).lookup 65 = some (.iload_n 3, 1, 0, 0, 0) := by decide +kernel
theorem l138_66 : (ax_dt (ax_T 138)).lookup 66 = some (.goto 17, 3, 0, 0, 0) := by decide +kernel
theorem l138_69 : (ax_dt (ax_T 138)).lookup 69 = some (.iload 6, 2, 0, 0, 0) := by decide +kernel
theorem l138_71 : (ax_dt (ax_T 138)).lookup 71 = some (.bipush 16, 2, 0, 0, 0) := by decide +kernel
theorem l138_73 : (ax_dt (ax_T 138)).lookup 73 = some (.if_icmp .ge 8, 3, 0, 0, 0) := by decide +kernel
theorem l138_76 : (ax_dt (ax_T 138)).lookup 76 = some (.iload 4, 2, 0, 0, 0) := by decide +kernel
theorem l138_78 : (ax_dt (ax_T 138)).lookup 78 = some (.goto 5, 3, 0, 0, 0) := by decide +kernel
theorem l138_81 : (ax_dt (ax_T 138)).lookup 81 = some (.iload 5, 2, 0, 0, 0) := by decide +kernel
theorem l138_83 : (ax_dt (ax_T 138)).lookup 83 = some (.istore 7, 2, 0, 0, 0) := by decide +kernel
theorem l138_85 : (ax_dt (ax_T 138)).lookup 85 = some (.aload_n 0, 1, 0, 0, 0) := by decide +kernel
theorem l138_86 : (ax_dt (ax_T 138)).lookup 86 = some (.getfield 7, 3, 9, 1, 0) := by decide +kernel
theorem l138_89 : (ax_dt (ax_T 138)).lookup 89 = some (.aload_n 0, 1, 0, 0, 0) := by decide +kernel
theorem l138_90 : (ax_dt (ax_T 138)).lookup 90 = some (.getfield 124, 3, 9, 2, 0) := by decide +kernel
theorem l138_93 : (ax_dt (ax_T 138)).lookup 93 = some (.iload 7, 2, 0, 0, 0) := by decide +kernel
theorem l138_95 : (ax_dt (ax_T 138)).lookup 95 = some (.bipush 24, 2, 0, 0, 0) := by decide +kernel
theorem l138_97 : (ax_dt (ax_T 138)).lookup 97 = some (.bipush 8, 2, 0, 0, 0) := by decide +kernel
theorem l138_99 : (ax_dt (ax_T 138)).lookup 99 = some (.iload 6, 2, 0, 0, 0) := by decide +kernel
theorem l138_101 : (ax_dt (ax_T 138)).lookup 101 = some (.iconst 4, 1, 0, 0, 0) := by decide +kernel
theorem l138_102 : (ax_dt (ax_T 138)).lookup 102 = some (.irem, 1, 0, 0, 0) := by decide +kernel
theorem l138_103 : (ax_dt (ax_T 138)).lookup 103 = some (.imul, 1, 0, 0, 0) := by decide +kernel
theorem l138_104 : (ax_dt (ax_T 138)).lookup 104 = some (.isub, 1, 0, 0, 0) := by decide +kernel
theorem l138_105 : (ax_dt (ax_T 138)).lookup 105 = some (.ishr, 1, 0, 0, 0) := by decide +kernel
theorem l138_106 : (ax_dt (ax_T 138)).lookup 106 = some (.i2b, 1, 0, 0, 0) := by decide +kernel
theorem l138_107 : (ax_dt (ax_T 138)).lookup 107 = some (.bastore, 1, 0, 0, 0) := by decide +kernel
theorem l138_108 : (ax_dt (ax_T 138)).lookup 108 = some (.aload_n 0, 1, 0, 0, 0) := by decide +kernel
theorem l138_109 : (ax_dt (ax_T 138)).lookup 109 = some (.dup, 1, 0, 0, 0) := by decide +kernel
theorem l138_110 : (ax_dt (ax_T 138)).lookup 110 = some (.getfield 124, 3, 9, 2, 0) := by decide +kernel
theorem l138_113 : (ax_dt (ax_T 138)).lookup 113 = some (.iconst 1, 1, 0, 0, 0) := by decide +kernel
theorem l138_114 : (ax_dt (ax_T 138)).lookup 114 = some (.iadd, 1, 0, 0, 0) := by decide +kernel
theorem l138_115 : (ax_dt (ax_T 138)).lookup 115 = some (.putfield 124, 3, 9, 2, 0) := by decide +kernel
theorem l138_118 : (ax_dt (ax_T 138)).lookup 118 = some (.iinc 6 1, 3, 0, 0, 0) := by decide +kernel
theorem l138_121 : (ax_dt (ax_T 138)).lookup 121 = some (.goto (-91), 3, 0, 0, 0) := by decide +kernel
theorem l138_124 : (ax_dt (ax_T 138)).lookup 124 = some (.aload_n 0, 1, 0, 0, 0) := by decide +kernel
theorem l138_125 : (ax_dt (ax_T 138)).lookup 125 = some (.getfield 124, 3, 9, 2, 0) := by decide +kernel
theorem l138_128 : (ax_dt (ax_T 138)).lookup 128 = some (.ireturn, 1, 0, 0, 0) := by decide +kernel
noncomputable def F_X11_feed_83 (v1 : Int) (v2 : Int) (v3 : Int) (v4 : Int) (v5 : Int) (v6 : Int) (y0 : Int) (μ : bM) : Option ((Int × bM) ⊕ (Int × bM)) := bG (bR (8 * (bRem v6 4))) (bG (bR (24 - (8 * (bRem v6 4)))) (bG (0 ≤ (μ 76 2) ∧ (μ 76 2) < 12000) (bG (bR (((bset μ 77 (μ 76 2).toNat (b8 (bShr y0 (24 - (8 * (bRem v6 4)))))) 76 2) + 1)) (bG (bR (v6 + 1)) (some (.inl ((v6 + 1), (bset (bset μ 77 (μ 76 2).toNat (b8 (bShr y0 (24 - (8 * (bRem v6 4)))))) 76 2 (((bset μ 77 (μ 76 2).toNat (b8 (bShr y0 (24 - (8 * (bRem v6 4)))))) 76 2) + 1)))))))))
noncomputable def F_X11_feed_30 (v1 : Int) (v2 : Int) (v3 : Int) (v4 : Int) (v5 : Int) (v6 : Int) (μ : bM) : Option ((Int × bM) ⊕ (Int × bM)) := if 20 ≤ v6 then some (.inr ((μ 76 2), μ)) else if 4 ≤ v6 then if 8 ≤ v6 then if 12 ≤ v6 then if 16 ≤ v6 then F_X11_feed_83 v1 v2 v3 v4 v5 v6 v5 μ else F_X11_feed_83 v1 v2 v3 v4 v5 v6 v4 μ else F_X11_feed_83 v1 v2 v3 v4 v5 v6 v3 μ else F_X11_feed_83 v1 v2 v3 v4 v5 v6 v2 μ else F_X11_feed_83 v1 v2 v3 v4 v5 v6 v1 μ
noncomputable def F_X11_feed (v1 : Int) (v2 : Int) (v3 : Int) (v4 : Int) (v5 : Int) (μ : bM) : Option (Int × bM) := bG (bR ((μ 76 2) + 20)) (if 12000 < ((μ 76 2) + 20) then bMm (F_X11_goes 0 μ) (fun w3 μ4 => if ¬ w3 = 0 then bLoop (fun z => F_X11_feed_30 v1 v2 v3 v4 v5 z.1 z.2) (0, μ4) else some (0, μ4)) else bMm (F_X11_goes 1 μ) (fun w7 μ8 => if ¬ w7 = 0 then bLoop (fun z => F_X11_feed_30 v1 v2 v3 v4 v5 z.1 z.2) (0, μ8) else some (0, μ8)))
theorem p_X11_feed_83 {L : Nat} {xs : Nat → Int32} {d : Nat} {μ : bM} {v1 : Int} {v2 : Int} {v3 : Int} {v4 : Int} {v5 : Int} {κ : ((Int × bM) ⊕ (Int × bM)) → Option bX} (hr : ∀ r : Int × bM, κ (.inr r) = (bMc) r) (H30 : ∀ (v6 : Int) (μ : bM), bR v6 → bD L xs (d + 1) 138 30 [(0, .ref 76), (1, bI v1), (2, bI v2), (3, bI v3), (4, bI v4), (5, bI v5), (6, bI v6)] [] μ (κ (.inl (v6, μ))))  (h1 : bR v1) (h2 : bR v2) (h3 : bR v3) (h4 : bR v4) (h5 : bR v5) {v6 : Int} (h6 : bR v6) {y0 : Int} (hy0 : bR y0) : bD L xs (d + 1) 138 83 [(0, .ref 76), (1, bI v1), (2, bI v2), (3, bI v3), (4, bI v4), (5, bI v5), (6, bI v6)] [bI y0] μ ((F_X11_feed_83 v1 v2 v3 v4 v5 v6 y0 μ).bind κ) := by
  unfold F_X11_feed_83
  refine bD.ok fun hk => ?_
  refine b_w (pc' := 85) (lv1 := ax_st1 [(0, .ref 76), (1, bI v1), (2, bI v2), (3, bI v3), (4, bI v4), (5, bI v5), (6, bI v6)] 7 (bI y0)) (lv' := [(0, .ref 76), (1, bI v1), (2, bI v2), (3, bI v3), (4, bI v4), (5, bI v5), (6, bI v6), (7, bI y0)]) (st' := []) l138_83 (fun _ => rfl) (bSb rfl (bSb rfl (bSb rfl (bSb rfl (bSb rfl (bSb rfl (bSb rfl (bSb rfl bSn)))))))) ?_
  refine b_s (pc' := 86) (lv1 := [(0, .ref 76), (1, bI v1), (2, bI v2), (3, bI v3), (4, bI v4), (5, bI v5), (6, bI v6), (7, bI y0)]) (st' := [.ref 76]) l138_85 (fun _ => rfl) ?_
  refine b_gp (q' := 77) (j := 1) l138_86 (by rfl) (by decide) (by decide) rfl hk rfl rfl (b_pc (pc' := 89) rfl ?_)
  refine b_s (pc' := 90) (lv1 := [(0, .ref 76), (1, bI v1), (2, bI v2), (3, bI v3), (4, bI v4), (5, bI v5), (6, bI v6), (7, bI y0)]) (st' := [.ref 76, .ref 77]) l138_89 (fun _ => rfl) ?_
  refine b_gi l138_90 (by rfl) (by decide) (by decide) rfl (b_pc (pc' := 93) rfl ?_)
  refine b_s (pc' := 95) (lv1 := [(0, .ref 76), (1, bI v1), (2, bI v2), (3, bI v3), (4, bI v4), (5, bI v5), (6, bI v6), (7, bI y0)]) (st' := [bI y0, bI (μ 76 2), .ref 77]) l138_93 (fun _ => rfl) ?_
  refine b_bipush l138_95 (by decide) (b_pc (pc' := 97) rfl ?_)
  refine b_bipush l138_97 (by decide) (b_pc (pc' := 99) rfl ?_)
  refine b_s (pc' := 101) (lv1 := [(0, .ref 76), (1, bI v1), (2, bI v2), (3, bI v3), (4, bI v4), (5, bI v5), (6, bI v6), (7, bI y0)]) (st' := [bI v6, bI 8, bI 24, bI y0, bI (μ 76 2), .ref 77]) l138_99 (fun _ => rfl) ?_
  refine b_s (pc' := 102) (lv1 := [(0, .ref 76), (1, bI v1), (2, bI v2), (3, bI v3), (4, bI v4), (5, bI v5), (6, bI v6), (7, bI y0)]) (st' := [bI 4, bI v6, bI 8, bI 24, bI y0, bI (μ 76 2), .ref 77]) l138_101 (fun _ => rfl) ?_
  refine b_irem l138_102 (by decide) (b_pc (pc' := 103) rfl ?_)
  refine b_imul l138_103 fun g1 => (b_pc (pc' := 104) rfl ?_)
  refine b_isub l138_104 fun g2 => (b_pc (pc' := 105) rfl ?_)
  refine b_ishr l138_105 (b_pc (pc' := 106) rfl ?_)
  refine b_i2b l138_106 (b_pc (pc' := 107) rfl ?_)
  refine b_g fun g7 => ?_
  refine b_bas l138_107 (by rfl) g7 (b8_B _) (bD.ok fun hk3 => b_pc (pc' := 108) rfl ?_)
  refine b_s (pc' := 109) (lv1 := [(0, .ref 76), (1, bI v1), (2, bI v2), (3, bI v3), (4, bI v4), (5, bI v5), (6, bI v6), (7, bI y0)]) (st' := [.ref 76]) l138_108 (fun _ => rfl) ?_
  refine b_s (pc' := 110) (lv1 := [(0, .ref 76), (1, bI v1), (2, bI v2), (3, bI v3), (4, bI v4), (5, bI v5), (6, bI v6), (7, bI y0)]) (st' := [.ref 76, .ref 76]) l138_109 (fun _ => rfl) ?_
  refine b_gi l138_110 (by rfl) (by decide) (by decide) rfl (b_pc (pc' := 113) rfl ?_)
  refine b_s (pc' := 114) (lv1 := [(0, .ref 76), (1, bI v1), (2, bI v2), (3, bI v3), (4, bI v4), (5, bI v5), (6, bI v6), (7, bI y0)]) (st' := [bI 1, bI ((bset μ 77 (μ 76 2).toNat (b8 (bShr y0 (24 - (8 * (bRem v6 4)))))) 76 2), .ref 76]) l138_113 (fun _ => rfl) ?_
  refine b_iadd l138_114 fun g4 => (b_pc (pc' := 115) rfl ?_)
  refine b_pi l138_115 (by rfl) (by decide) (by decide) rfl rfl g4 (bD.ok fun hk5 => b_pc (pc' := 118) rfl ?_)
  refine b_inc (lv' := [(0, .ref 76), (1, bI v1), (2, bI v2), (3, bI v3), (4, bI v4), (5, bI v5), (6, bI (v6 + 1))]) l138_118 rfl (by decide +kernel) (bSb rfl (bSb rfl (bSb rfl (bSb rfl (bSb rfl (bSb rfl (bSb rfl bSn))))))) fun g6 => (b_pc (pc' := 121) rfl ?_)
  refine b_s (pc' := 30) (lv1 := [(0, .ref 76), (1, bI v1), (2, bI v2), (3, bI v3), (4, bI v4), (5, bI v5), (6, bI (v6 + 1))]) (st' := []) l138_121 (fun _ => rfl) ?_
  refine bD.wk (lv' := [(0, .ref 76), (1, bI v1), (2, bI v2), (3, bI v3), (4, bI v4), (5, bI v5), (6, bI (v6 + 1))]) (bSb rfl (bSb rfl (bSb rfl (bSb rfl (bSb rfl (bSb rfl (bSb rfl bSn))))))) ?_
  exact H30 (v6 + 1) (bset (bset μ 77 (μ 76 2).toNat (b8 (bShr y0 (24 - (8 * (bRem v6 4)))))) 76 2 (((bset μ 77 (μ 76 2).toNat (b8 (bShr y0 (24 - (8 * (bRem v6 4)))))) 76 2) + 1)) g6
theorem q_X11_feed_30 {L : Nat} {xs : Nat → Int32} {d : Nat} {μ : bM} {v1 : Int} {v2 : Int} {v3 : Int} {v4 : Int} {v5 : Int} {κ : ((Int × bM) ⊕ (Int × bM)) → Option bX} (hr : ∀ r : Int × bM, κ (.inr r) = (bMc) r) (H30 : ∀ (v6 : Int) (μ : bM), bR v6 → bD L xs (d + 1) 138 30 [(0, .ref 76), (1, bI v1), (2, bI v2), (3, bI v3), (4, bI v4), (5, bI v5), (6, bI v6)] [] μ (κ (.inl (v6, μ))))  (h1 : bR v1) (h2 : bR v2) (h3 : bR v3) (h4 : bR v4) (h5 : bR v5) {v6 : Int} (h6 : bR v6) : bD L xs (d + 1) 138 30 [(0, .ref 76), (1, bI v1), (2, bI v2), (3, bI v3), (4, bI v4), (5, bI v5), (6, bI v6)] [] μ ((F_X11_feed_30 v1 v2 v3 v4 v5 v6 μ).bind κ) := by
  unfold F_X11_feed_30
  refine bD.ok fun hk => ?_
  refine b_s (pc' := 32) (lv1 := [(0, .ref 76), (1, bI v1), (2, bI v2), (3, bI v3), (4, bI v4), (5, bI v5), (6, bI v6)]) (st' := [bI v6]) l138_30 (fun _ => rfl) ?_
  refine b_bipush l138_32 (by decide) (b_pc (pc' := 34) rfl ?_)
  refine b_ige (pt := 124) l138_34 h6 (by decide) (by decide) rfl (fun c1 => ?_) (fun c1 => b_pc (pc' := 37) rfl ?_)
  · refine b_s (pc' := 125) (lv1 := [(0, .ref 76), (1, bI v1), (2, bI v2), (3, bI v3), (4, bI v4), (5, bI v5), (6, bI v6)]) (st' := [.ref 76]) l138_124 (fun _ => rfl) ?_
    refine b_gi l138_125 (by rfl) (by decide) (by decide) rfl (b_pc (pc' := 128) rfl ?_)
    exact b_reti l138_128 rfl (bO_f hk (ci := 9) (by rfl) rfl) (hr _)
  · refine b_s (pc' := 39) (lv1 := [(0, .ref 76), (1, bI v1), (2, bI v2), (3, bI v3), (4, bI v4), (5, bI v5), (6, bI v6)]) (st' := [bI v6]) l138_37 (fun _ => rfl) ?_
    refine b_s (pc' := 40) (lv1 := [(0, .ref 76), (1, bI v1), (2, bI v2), (3, bI v3), (4, bI v4), (5, bI v5), (6, bI v6)]) (st' := [bI 4, bI v6]) l138_39 (fun _ => rfl) ?_
    refine b_ige (pt := 47) l138_40 h6 (by decide) (by decide) rfl (fun c2 => ?_) (fun c2 => b_pc (pc' := 43) rfl ?_)
    · refine b_s (pc' := 49) (lv1 := [(0, .ref 76), (1, bI v1), (2, bI v2), (3, bI v3), (4, bI v4), (5, bI v5), (6, bI v6)]) (st' := [bI v6]) l138_47 (fun _ => rfl) ?_
      refine b_bipush l138_49 (by decide) (b_pc (pc' := 51) rfl ?_)
      refine b_ige (pt := 58) l138_51 h6 (by decide) (by decide) rfl (fun c3 => ?_) (fun c3 => b_pc (pc' := 54) rfl ?_)
      · refine b_s (pc' := 60) (lv1 := [(0, .ref 76), (1, bI v1), (2, bI v2), (3, bI v3), (4, bI v4), (5, bI v5), (6, bI v6)]) (st' := [bI v6]) l138_58 (fun _ => rfl) ?_
        refine b_bipush l138_60 (by decide) (b_pc (pc' := 62) rfl ?_)
        refine b_ige (pt := 69) l138_62 h6 (by decide) (by decide) rfl (fun c4 => ?_) (fun c4 => b_pc (pc' := 65) rfl ?_)
        · refine b_s (pc' := 71) (lv1 := [(0, .ref 76), (1, bI v1), (2, bI v2), (3, bI v3), (4, bI v4), (5, bI v5), (6, bI v6)]) (st' := [bI v6]) l138_69 (fun _ => rfl) ?_
          refine b_bipush l138_71 (by decide) (b_pc (pc' := 73) rfl ?_)
          refine b_ige (pt := 81) l138_73 h6 (by decide) (by decide) rfl (fun c5 => ?_) (fun c5 => b_pc (pc' := 76) rfl ?_)
          · refine b_s (pc' := 83) (lv1 := [(0, .ref 76), (1, bI v1), (2, bI v2), (3, bI v3), (4, bI v4), (5, bI v5), (6, bI v6)]) (st' := [bI v5]) l138_81 (fun _ => rfl) ?_
            refine bD.wk (lv' := [(0, .ref 76), (1, bI v1), (2, bI v2), (3, bI v3), (4, bI v4), (5, bI v5), (6, bI v6)]) (bSb rfl (bSb rfl (bSb rfl (bSb rfl (bSb rfl (bSb rfl (bSb rfl bSn))))))) ?_
            exact p_X11_feed_83 hr H30 h1 h2 h3 h4 h5 h6 h5
          · refine b_s (pc' := 78) (lv1 := [(0, .ref 76), (1, bI v1), (2, bI v2), (3, bI v3), (4, bI v4), (5, bI v5), (6, bI v6)]) (st' := [bI v4]) l138_76 (fun _ => rfl) ?_
            refine b_s (pc' := 83) (lv1 := [(0, .ref 76), (1, bI v1), (2, bI v2), (3, bI v3), (4, bI v4), (5, bI v5), (6, bI v6)]) (st' := [bI v4]) l138_78 (fun _ => rfl) ?_
            refine bD.wk (lv' := [(0, .ref 76), (1, bI v1), (2, bI v2), (3, bI v3), (4, bI v4), (5, bI v5), (6, bI v6)]) (bSb rfl (bSb rfl (bSb rfl (bSb rfl (bSb rfl (bSb rfl (bSb rfl bSn))))))) ?_
            exact p_X11_feed_83 hr H30 h1 h2 h3 h4 h5 h6 h4
        · refine b_s (pc' := 66) (lv1 := [(0, .ref 76), (1, bI v1), (2, bI v2), (3, bI v3), (4, bI v4), (5, bI v5), (6, bI v6)]) (st' := [bI v3]) l138_65 (fun _ => rfl) ?_
          refine b_s (pc' := 83) (lv1 := [(0, .ref 76), (1, bI v1), (2, bI v2), (3, bI v3), (4, bI v4), (5, bI v5), (6, bI v6)]) (st' := [bI v3]) l138_66 (fun _ => rfl) ?_
          refine bD.wk (lv' := [(0, .ref 76), (1, bI v1), (2, bI v2), (3, bI v3), (4, bI v4), (5, bI v5), (6, bI v6)]) (bSb rfl (bSb rfl (bSb rfl (bSb rfl (bSb rfl (bSb rfl (bSb rfl bSn))))))) ?_
          exact p_X11_feed_83 hr H30 h1 h2 h3 h4 h5 h6 h3
      · refine b_s (pc' := 55) (lv1 := [(0, .ref 76), (1, bI v1), (2, bI v2), (3, bI v3), (4, bI v4), (5, bI v5), (6, bI v6)]) (st' := [bI v2]) l138_54 (fun _ => rfl) ?_
        refine b_s (pc' := 83) (lv1 := [(0, .ref 76), (1, bI v1), (2, bI v2), (3, bI v3), (4, bI v4), (5, bI v5), (6, bI v6)]) (st' := [bI v2]) l138_55 (fun _ => rfl) ?_
        refine bD.wk (lv' := [(0, .ref 76), (1, bI v1), (2, bI v2), (3, bI v3), (4, bI v4), (5, bI v5), (6, bI v6)]) (bSb rfl (bSb rfl (bSb rfl (bSb rfl (bSb rfl (bSb rfl (bSb rfl bSn))))))) ?_
        exact p_X11_feed_83 hr H30 h1 h2 h3 h4 h5 h6 h2
    · refine b_s (pc' := 44) (lv1 := [(0, .ref 76), (1, bI v1), (2, bI v2), (3, bI v3), (4, bI v4), (5, bI v5), (6, bI v6)]) (st' := [bI v1]) l138_43 (fun _ => rfl) ?_
      refine b_s (pc' := 83) (lv1 := [(0, .ref 76), (1, bI v1), (2, bI v2), (3, bI v3), (4, bI v4), (5, bI v5), (6, bI v6)]) (st' := [bI v1]) l138_44 (fun _ => rfl) ?_
      refine bD.wk (lv' := [(0, .ref 76), (1, bI v1), (2, bI v2), (3, bI v3), (4, bI v4), (5, bI v5), (6, bI v6)]) (bSb rfl (bSb rfl (bSb rfl (bSb rfl (bSb rfl (bSb rfl (bSb rfl bSn))))))) ?_
      exact p_X11_feed_83 hr H30 h1 h2 h3 h4 h5 h6 h1
theorem p_X11_feed_30 {L : Nat} {xs : Nat → Int32} {d : Nat} {μ : bM}  {κ : (Int × bM) → Option bX} (hr : ∀ r : Int × bM, κ r = (bMc) r)  {v1 : Int} (h1 : bR v1) {v2 : Int} (h2 : bR v2) {v3 : Int} (h3 : bR v3) {v4 : Int} (h4 : bR v4) {v5 : Int} (h5 : bR v5) {v6 : Int} (h6 : bR v6) : bD L xs (d + 1) 138 30 [(0, .ref 76), (1, bI v1), (2, bI v2), (3, bI v3), (4, bI v4), (5, bI v5), (6, bI v6)] [] μ ((bLoop (fun z => F_X11_feed_30 v1 v2 v3 v4 v5 z.1 z.2) (v6, μ)).bind κ) :=
  b_loop (fun z => [(0, .ref 76), (1, bI v1), (2, bI v2), (3, bI v3), (4, bI v4), (5, bI v5), (6, bI z.1)]) (fun z => z.2) (fun z => bR z.1) (fun κ' hκ HH z hz => q_X11_feed_30 (κ := κ') (fun r => (hκ _).trans (hr r)) (fun a6 am b6 => HH (a6, am) b6)  h1 h2 h3 h4 h5 hz) (v6, μ) h6
theorem r_X11_feed {L : Nat} {xs : Nat → Int32} {d : Nat} {μ : bM}  (v1 : Int) (h1 : bR v1) (v2 : Int) (h2 : bR v2) (v3 : Int) (h3 : bR v3) (v4 : Int) (h4 : bR v4) (v5 : Int) (h5 : bR v5) : bD L xs (d + 1) 138 0 [(0, .ref 76), (1, bI v1), (2, bI v2), (3, bI v3), (4, bI v4), (5, bI v5)] [] μ ((F_X11_feed v1 v2 v3 v4 v5 μ).bind (bMc)) := by
  have hr : ∀ r, (bMc) r = (bMc) r := fun _ => rfl
  unfold F_X11_feed
  refine bD.ok fun hk => ?_
  refine b_s (pc' := 1) (lv1 := [(0, .ref 76), (1, bI v1), (2, bI v2), (3, bI v3), (4, bI v4), (5, bI v5)]) (st' := [.ref 76]) l138_0 (fun _ => rfl) ?_
  refine b_s (pc' := 2) (lv1 := [(0, .ref 76), (1, bI v1), (2, bI v2), (3, bI v3), (4, bI v4), (5, bI v5)]) (st' := [.ref 76, .ref 76]) l138_1 (fun _ => rfl) ?_
  refine b_gi l138_2 (by rfl) (by decide) (by decide) rfl (b_pc (pc' := 5) rfl ?_)
  refine b_bipush l138_5 (by decide) (b_pc (pc' := 7) rfl ?_)
  refine b_iadd l138_7 fun g1 => (b_pc (pc' := 8) rfl ?_)
  refine b_sipush l138_8 (by decide) (b_pc (pc' := 11) rfl ?_)
  refine b_igt (pt := 18) l138_11 g1 (by decide) (by decide) rfl (fun c2 => ?_) (fun c2 => b_pc (pc' := 14) rfl ?_)
  · refine b_s (pc' := 19) (lv1 := [(0, .ref 76), (1, bI v1), (2, bI v2), (3, bI v3), (4, bI v4), (5, bI v5)]) (st' := [bI 0, .ref 76]) l138_18 (fun _ => rfl) ?_
    refine b_cMz l138_19 rfl (b_rc (ci := 9) (by rfl) (by decide) (by decide +kernel)) (Nat.le_of_ble_eq_true rfl) (Nat.le_of_ble_eq_true rfl) rfl (r_X11_goes 0 (by decide)) fun w3 μ4 hw3 => bD.ok fun hk5 => b_pc (pc' := 22) rfl ?_
    refine b_zne (pt := 27) l138_22 (bZ_R hw3) (by decide) rfl (fun c6 => ?_) (fun c6 => b_pc (pc' := 25) rfl ?_)
    · refine b_s (pc' := 28) (lv1 := [(0, .ref 76), (1, bI v1), (2, bI v2), (3, bI v3), (4, bI v4), (5, bI v5)]) (st' := [bI 0]) l138_27 (fun _ => rfl) ?_
      refine b_w (pc' := 30) (lv1 := ax_st1 [(0, .ref 76), (1, bI v1), (2, bI v2), (3, bI v3), (4, bI v4), (5, bI v5)] 6 (bI 0)) (lv' := [(0, .ref 76), (1, bI v1), (2, bI v2), (3, bI v3), (4, bI v4), (5, bI v5), (6, bI 0)]) (st' := []) l138_28 (fun _ => rfl) (bSb rfl (bSb rfl (bSb rfl (bSb rfl (bSb rfl (bSb rfl (bSb rfl bSn))))))) ?_
      refine bD.wk (lv' := [(0, .ref 76), (1, bI v1), (2, bI v2), (3, bI v3), (4, bI v4), (5, bI v5), (6, bI 0)]) (bSb rfl (bSb rfl (bSb rfl (bSb rfl (bSb rfl (bSb rfl (bSb rfl bSn))))))) ?_
      exact p_X11_feed_30 hr h1 h2 h3 h4 h5 (by decide)
    · refine b_s (pc' := 26) (lv1 := [(0, .ref 76), (1, bI v1), (2, bI v2), (3, bI v3), (4, bI v4), (5, bI v5)]) (st' := [bI 0]) l138_25 (fun _ => rfl) ?_
      exact b_reti l138_26 rfl (by decide) (hr _)
  · refine b_s (pc' := 15) (lv1 := [(0, .ref 76), (1, bI v1), (2, bI v2), (3, bI v3), (4, bI v4), (5, bI v5)]) (st' := [bI 1, .ref 76]) l138_14 (fun _ => rfl) ?_
    refine b_s (pc' := 19) (lv1 := [(0, .ref 76), (1, bI v1), (2, bI v2), (3, bI v3), (4, bI v4), (5, bI v5)]) (st' := [bI 1, .ref 76]) l138_15 (fun _ => rfl) ?_
    refine b_cMz l138_19 rfl (b_rc (ci := 9) (by rfl) (by decide) (by decide +kernel)) (Nat.le_of_ble_eq_true rfl) (Nat.le_of_ble_eq_true rfl) rfl (r_X11_goes 1 (by decide)) fun w7 μ8 hw7 => bD.ok fun hk9 => b_pc (pc' := 22) rfl ?_
    refine b_zne (pt := 27) l138_22 (bZ_R hw7) (by decide) rfl (fun c10 => ?_) (fun c10 => b_pc (pc' := 25) rfl ?_)
    · refine b_s (pc' := 28) (lv1 := [(0, .ref 76), (1, bI v1), (2, bI v2), (3, bI v3), (4, bI v4), (5, bI v5)]) (st' := [bI 0]) l138_27 (fun _ => rfl) ?_
      refine b_w (pc' := 30) (lv1 := ax_st1 [(0, .ref 76), (1, bI v1), (2, bI v2), (3, bI v3), (4, bI v4), (5, bI v5)] 6 (bI 0)) (lv' := [(0, .ref 76), (1, bI v1), (2, bI v2), (3, bI v3), (4, bI v4), (5, bI v5), (6, bI 0)]) (st' := []) l138_28 (fun _ => rfl) (bSb rfl (bSb rfl (bSb rfl (bSb rfl (bSb rfl (bSb rfl (bSb rfl bSn))))))) ?_
      refine bD.wk (lv' := [(0, .ref 76), (1, bI v1), (2, bI v2), (3, bI v3), (4, bI v4), (5, bI v5), (6, bI 0)]) (bSb rfl (bSb rfl (bSb rfl (bSb rfl (bSb rfl (bSb rfl (bSb rfl bSn))))))) ?_
      exact p_X11_feed_30 hr h1 h2 h3 h4 h5 (by decide)
    · refine b_s (pc' := 26) (lv1 := [(0, .ref 76), (1, bI v1), (2, bI v2), (3, bI v3), (4, bI v4), (5, bI v5)]) (st' := [bI 0]) l138_25 (fun _ => rfl) ?_
      exact b_reti l138_26 rfl (by decide) (hr _)
/-! ETModel.end -/
theorem l139_0 : (ax_dt (ax_T 139)).lookup 0 = some (.aload_n 0, 1, 0, 0, 0) := by decide +kernel
theorem l139_1 : (ax_dt (ax_T 139)).lookup 1 = some (.aload_n 0, 1, 0, 0, 0) := by decide +kernel
theorem l139_2 : (ax_dt (ax_T 139)).lookup 2 = some (.iload_n 1, 1, 0, 0, 0) := by decide +kernel
theorem l139_3 : (ax_dt (ax_T 139)).lookup 3 = some (.i2l, 1, 0, 0, 0) := by decide +kernel
theorem l139_4 : (ax_dt (ax_T 139)).lookup 4 = some (.lconst 0, 1, 0, 0, 0) := by decide +kernel
theorem l139_5 : (ax_dt (ax_T 139)).lookup 5 = some (.aload_n 0, 1, 0, 0, 0) := by decide +kernel
theorem l139_6 : (ax_dt (ax_T 139)).lookup 6 = some (.getfield 124, 3, 9, 2, 0) := by decide +kernel
theorem l139_9 : (ax_dt (ax_T 139)).lookup 9 = some (.i2l, 1, 0, 0, 0) := by decide +kernel
theorem l139_10 : (ax_dt (ax_T 139)).lookup 10 = some (.invokestatic 131, 3, 134, 3, 0) := by decide +kernel
theorem l139_13 : (ax_dt (ax_T 139)).lookup 13 = some (.invokevirtual 127, 3, 135, 1, 0) := by decide +kernel
theorem l139_16 : (ax_dt (ax_T 139)).lookup 16 = some (.ifCond .eq 7, 3, 0, 0, 0) := by decide +kernel
theorem l139_19 : (ax_dt (ax_T 139)).lookup 19 = some (.iload_n 1, 1, 0, 0, 0) := by decide +kernel
theorem l139_20 : (ax_dt (ax_T 139)).lookup 20 = some (.goto 7, 3, 0, 0, 0) := by decide +kernel
theorem l139_23 : (ax_dt (ax_T 139)).lookup 23 = some (.aload_n 0, 1, 0, 0, 0) := by decide +kernel
theorem l139_24 : (ax_dt (ax_T 139)).lookup 24 = some (.getfield 124, 3, 9, 2, 0) := by decide +kernel
theorem l139_27 : (ax_dt (ax_T 139)).lookup 27 = some (.putfield 124, 3, 9, 2, 0) := by decide +kernel
theorem l139_30 : (ax_dt (ax_T 139)).lookup 30 = some (.return_, 1, 0, 0, 0) := by decide +kernel
noncomputable def F_X11_end (v1 : Int) (μ : bM) : Option (Int × bM) := (F_X11_in v1 0 (μ 76 2) μ).bind fun w1 => bMm (F_X11_goes w1 μ) (fun w2 μ3 => if w2 = 0 then some (0, (bset μ3 76 2 (μ3 76 2))) else some (0, (bset μ3 76 2 v1)))
theorem r_X11_end {L : Nat} {xs : Nat → Int32} {d : Nat} {μ : bM}  (v1 : Int) (h1 : bR v1) : bD L xs (d + 1) 139 0 [(0, .ref 76), (1, bI v1)] [] μ ((F_X11_end v1 μ).bind (bMc)) := by
  have hr : ∀ r, (bMc) r = (bMc) r := fun _ => rfl
  unfold F_X11_end
  refine bD.ok fun hk => ?_
  refine b_s (pc' := 1) (lv1 := [(0, .ref 76), (1, bI v1)]) (st' := [.ref 76]) l139_0 (fun _ => rfl) ?_
  refine b_s (pc' := 2) (lv1 := [(0, .ref 76), (1, bI v1)]) (st' := [.ref 76, .ref 76]) l139_1 (fun _ => rfl) ?_
  refine b_s (pc' := 3) (lv1 := [(0, .ref 76), (1, bI v1)]) (st' := [bI v1, .ref 76, .ref 76]) l139_2 (fun _ => rfl) ?_
  refine b_i2l l139_3 h1 (b_pc (pc' := 4) rfl ?_)
  refine b_lconst (e := 0) l139_4 (by decide) (b_pc (pc' := 5) rfl ?_)
  refine b_s (pc' := 6) (lv1 := [(0, .ref 76), (1, bI v1)]) (st' := [.ref 76, bLg 0, bLg v1, .ref 76, .ref 76]) l139_5 (fun _ => rfl) ?_
  refine b_gi l139_6 (by rfl) (by decide) (by decide) rfl (b_pc (pc' := 9) rfl ?_)
  refine b_i2l l139_9 (bO_f hk (ci := 9) (by rfl) rfl) (b_pc (pc' := 10) rfl ?_)
  refine b_cPz l139_10 rfl (fun _ => trivial) (Nat.le_of_ble_eq_true rfl) (Nat.le_of_ble_eq_true rfl) rfl (r_X11_in v1 (bR_L h1) 0 (by decide) (μ 76 2) (bR_L (bO_f hk (ci := 9) (by rfl) rfl))) fun w1 hw1 => b_pc (pc' := 13) rfl ?_
  refine b_cMz l139_13 rfl (b_rc (ci := 9) (by rfl) (by decide) (by decide +kernel)) (Nat.le_of_ble_eq_true rfl) (Nat.le_of_ble_eq_true rfl) rfl (r_X11_goes w1 (bZ_R hw1)) fun w2 μ3 hw2 => bD.ok fun hk4 => b_pc (pc' := 16) rfl ?_
  refine b_zeq (pt := 23) l139_16 (bZ_R hw2) (by decide) rfl (fun c5 => ?_) (fun c5 => b_pc (pc' := 19) rfl ?_)
  · refine b_s (pc' := 24) (lv1 := [(0, .ref 76), (1, bI v1)]) (st' := [.ref 76, .ref 76]) l139_23 (fun _ => rfl) ?_
    refine b_gi l139_24 (by rfl) (by decide) (by decide) rfl (b_pc (pc' := 27) rfl ?_)
    refine b_pi l139_27 (by rfl) (by decide) (by decide) rfl rfl (bO_f hk4 (ci := 9) (by rfl) rfl) (bD.ok fun hk6 => b_pc (pc' := 30) rfl ?_)
    exact b_retv l139_30 rfl (hr _)
  · refine b_s (pc' := 20) (lv1 := [(0, .ref 76), (1, bI v1)]) (st' := [bI v1, .ref 76]) l139_19 (fun _ => rfl) ?_
    refine b_s (pc' := 27) (lv1 := [(0, .ref 76), (1, bI v1)]) (st' := [bI v1, .ref 76]) l139_20 (fun _ => rfl) ?_
    refine b_pi l139_27 (by rfl) (by decide) (by decide) rfl rfl h1 (bD.ok fun hk7 => b_pc (pc' := 30) rfl ?_)
    exact b_retv l139_30 rfl (hr _)
/-! ETModel.isName -/
theorem l140_0 : (ax_dt (ax_T 140)).lookup 0 = some (.iload_n 0, 1, 0, 0, 0) := by decide +kernel
theorem l140_1 : (ax_dt (ax_T 140)).lookup 1 = some (.i2l, 1, 0, 0, 0) := by decide +kernel
theorem l140_2 : (ax_dt (ax_T 140)).lookup 2 = some (.lconst 1, 1, 0, 0, 0) := by decide +kernel
theorem l140_3 : (ax_dt (ax_T 140)).lookup 3 = some (.ldc2_w 135, 3, 0, 0, 16383) := by decide +kernel
theorem l140_6 : (ax_dt (ax_T 140)).lookup 6 = some (.invokestatic 131, 3, 134, 3, 0) := by decide +kernel
theorem l140_9 : (ax_dt (ax_T 140)).lookup 9 = some (.ireturn, 1, 0, 0, 0) := by decide +kernel
noncomputable def F_X11_isName (v0 : Int) (μ : bM) : Option (Int) := (F_X11_in v0 1 16383 μ).bind fun w1 => some (w1)
theorem r_X11_isName {L : Nat} {xs : Nat → Int32} {d : Nat} {μ : bM}  (v0 : Int) (h0 : bR v0) : bD L xs (d + 1) 140 0 [(0, bI v0)] [] μ ((F_X11_isName v0 μ).bind (bPc μ)) := by
  have hr : ∀ r, (bPc μ) r = (bPc μ) r := fun _ => rfl
  unfold F_X11_isName
  refine bD.ok fun hk => ?_
  refine b_s (pc' := 1) (lv1 := [(0, bI v0)]) (st' := [bI v0]) l140_0 (fun _ => rfl) ?_
  refine b_i2l l140_1 h0 (b_pc (pc' := 2) rfl ?_)
  refine b_lconst (e := 1) l140_2 (by decide) (b_pc (pc' := 3) rfl ?_)
  refine b_s (pc' := 6) (lv1 := [(0, bI v0)]) (st' := [bLg 16383, bLg 1, bLg v0]) l140_3 (fun _ => rfl) ?_
  refine b_cPz l140_6 rfl (fun _ => trivial) (Nat.le_of_ble_eq_true rfl) (Nat.le_of_ble_eq_true rfl) rfl (r_X11_in v0 (bR_L h0) 1 (by decide) 16383 (by decide)) fun w1 hw1 => b_pc (pc' := 9) rfl ?_
  exact b_retz l140_9 rfl hw1 (hr _)
/-! ETModel.at -/
theorem l141_0 : (ax_dt (ax_T 141)).lookup 0 = some (.sipush 400, 3, 0, 0, 0) := by decide +kernel
theorem l141_3 : (ax_dt (ax_T 141)).lookup 3 = some (.aload_n 0, 1, 0, 0, 0) := by decide +kernel
theorem l141_4 : (ax_dt (ax_T 141)).lookup 4 = some (.getfield 137, 3, 9, 3, 0) := by decide +kernel
theorem l141_7 : (ax_dt (ax_T 141)).lookup 7 = some (.imul, 1, 0, 0, 0) := by decide +kernel
theorem l141_8 : (ax_dt (ax_T 141)).lookup 8 = some (.iload_n 1, 1, 0, 0, 0) := by decide +kernel
theorem l141_9 : (ax_dt (ax_T 141)).lookup 9 = some (.iadd, 1, 0, 0, 0) := by decide +kernel
theorem l141_10 : (ax_dt (ax_T 141)).lookup 10 = some (.ireturn, 1, 0, 0, 0) := by decide +kernel
noncomputable def F_X11_at (v1 : Int) (μ : bM) : Option (Int) := bG (bR (400 * (μ 76 3))) (bG (bR ((400 * (μ 76 3)) + v1)) (some (((400 * (μ 76 3)) + v1))))
theorem r_X11_at {L : Nat} {xs : Nat → Int32} {d : Nat} {μ : bM}  (v1 : Int) (h1 : bR v1) : bD L xs (d + 0) 141 0 [(0, .ref 76), (1, bI v1)] [] μ ((F_X11_at v1 μ).bind (bPc μ)) := by
  have hr : ∀ r, (bPc μ) r = (bPc μ) r := fun _ => rfl
  unfold F_X11_at
  refine bD.ok fun hk => ?_
  refine b_sipush l141_0 (by decide) (b_pc (pc' := 3) rfl ?_)
  refine b_s (pc' := 4) (lv1 := [(0, .ref 76), (1, bI v1)]) (st' := [.ref 76, bI 400]) l141_3 (fun _ => rfl) ?_
  refine b_gi l141_4 (by rfl) (by decide) (by decide) rfl (b_pc (pc' := 7) rfl ?_)
  refine b_imul l141_7 fun g1 => (b_pc (pc' := 8) rfl ?_)
  refine b_s (pc' := 9) (lv1 := [(0, .ref 76), (1, bI v1)]) (st' := [bI v1, bI (400 * (μ 76 3))]) l141_8 (fun _ => rfl) ?_
  refine b_iadd l141_9 fun g2 => (b_pc (pc' := 10) rfl ?_)
  exact b_reti l141_10 rfl g2 (hr _)
/-! ETModel.isEntry -/
theorem l142_0 : (ax_dt (ax_T 142)).lookup 0 = some (.iload_n 1, 1, 0, 0, 0) := by decide +kernel
theorem l142_1 : (ax_dt (ax_T 142)).lookup 1 = some (.i2l, 1, 0, 0, 0) := by decide +kernel
theorem l142_2 : (ax_dt (ax_T 142)).lookup 2 = some (.lconst 0, 1, 0, 0, 0) := by decide +kernel
theorem l142_3 : (ax_dt (ax_T 142)).lookup 3 = some (.aload_n 0, 1, 0, 0, 0) := by decide +kernel
theorem l142_4 : (ax_dt (ax_T 142)).lookup 4 = some (.getfield 13, 3, 9, 4, 0) := by decide +kernel
theorem l142_7 : (ax_dt (ax_T 142)).lookup 7 = some (.aload_n 0, 1, 0, 0, 0) := by decide +kernel
theorem l142_8 : (ax_dt (ax_T 142)).lookup 8 = some (.getfield 137, 3, 9, 3, 0) := by decide +kernel
theorem l142_11 : (ax_dt (ax_T 142)).lookup 11 = some (.iaload, 1, 0, 0, 0) := by decide +kernel
theorem l142_12 : (ax_dt (ax_T 142)).lookup 12 = some (.iconst 1, 1, 0, 0, 0) := by decide +kernel
theorem l142_13 : (ax_dt (ax_T 142)).lookup 13 = some (.isub, 1, 0, 0, 0) := by decide +kernel
theorem l142_14 : (ax_dt (ax_T 142)).lookup 14 = some (.i2l, 1, 0, 0, 0) := by decide +kernel
theorem l142_15 : (ax_dt (ax_T 142)).lookup 15 = some (.invokestatic 131, 3, 134, 3, 0) := by decide +kernel
theorem l142_18 : (ax_dt (ax_T 142)).lookup 18 = some (.ireturn, 1, 0, 0, 0) := by decide +kernel
noncomputable def F_X11_isEntry (v1 : Int) (μ : bM) : Option (Int) := bG (0 ≤ (μ 76 3) ∧ (μ 76 3) < 2) (bG (bR ((μ 78 (μ 76 3).toNat) - 1)) ((F_X11_in v1 0 ((μ 78 (μ 76 3).toNat) - 1) μ).bind fun w2 => some (w2)))
theorem r_X11_isEntry {L : Nat} {xs : Nat → Int32} {d : Nat} {μ : bM}  (v1 : Int) (h1 : bR v1) : bD L xs (d + 1) 142 0 [(0, .ref 76), (1, bI v1)] [] μ ((F_X11_isEntry v1 μ).bind (bPc μ)) := by
  have hr : ∀ r, (bPc μ) r = (bPc μ) r := fun _ => rfl
  unfold F_X11_isEntry
  refine bD.ok fun hk => ?_
  refine b_s (pc' := 1) (lv1 := [(0, .ref 76), (1, bI v1)]) (st' := [bI v1]) l142_0 (fun _ => rfl) ?_
  refine b_i2l l142_1 h1 (b_pc (pc' := 2) rfl ?_)
  refine b_lconst (e := 0) l142_2 (by decide) (b_pc (pc' := 3) rfl ?_)
  refine b_s (pc' := 4) (lv1 := [(0, .ref 76), (1, bI v1)]) (st' := [.ref 76, bLg 0, bLg v1]) l142_3 (fun _ => rfl) ?_
  refine b_gp (q' := 78) (j := 2) l142_4 (by rfl) (by decide) (by decide) rfl hk rfl rfl (b_pc (pc' := 7) rfl ?_)
  refine b_s (pc' := 8) (lv1 := [(0, .ref 76), (1, bI v1)]) (st' := [.ref 76, .ref 78, bLg 0, bLg v1]) l142_7 (fun _ => rfl) ?_
  refine b_gi l142_8 (by rfl) (by decide) (by decide) rfl (b_pc (pc' := 11) rfl ?_)
  refine b_g fun g3 => ?_
  refine b_ial l142_11 (by rfl) g3 (b_pc (pc' := 12) rfl ?_)
  refine b_s (pc' := 13) (lv1 := [(0, .ref 76), (1, bI v1)]) (st' := [bI 1, bI (μ 78 (μ 76 3).toNat), bLg 0, bLg v1]) l142_12 (fun _ => rfl) ?_
  refine b_isub l142_13 fun g1 => (b_pc (pc' := 14) rfl ?_)
  refine b_i2l l142_14 g1 (b_pc (pc' := 15) rfl ?_)
  refine b_cPz l142_15 rfl (fun _ => trivial) (Nat.le_of_ble_eq_true rfl) (Nat.le_of_ble_eq_true rfl) rfl (r_X11_in v1 (bR_L h1) 0 (by decide) ((μ 78 (μ 76 3).toNat) - 1) (bR_L g1)) fun w2 hw2 => b_pc (pc' := 18) rfl ?_
  exact b_retz l142_18 rfl hw2 (hr _)
/-! ETModel.make -/
theorem l143_0 : (ax_dt (ax_T 143)).lookup 0 = some (.aload_n 0, 1, 0, 0, 0) := by decide +kernel
theorem l143_1 : (ax_dt (ax_T 143)).lookup 1 = some (.getfield 13, 3, 9, 4, 0) := by decide +kernel
theorem l143_4 : (ax_dt (ax_T 143)).lookup 4 = some (.aload_n 0, 1, 0, 0, 0) := by decide +kernel
theorem l143_5 : (ax_dt (ax_T 143)).lookup 5 = some (.getfield 137, 3, 9, 3, 0) := by decide +kernel
theorem l143_8 : (ax_dt (ax_T 143)).lookup 8 = some (.iaload, 1, 0, 0, 0) := by decide +kernel
theorem l143_9 : (ax_dt (ax_T 143)).lookup 9 = some (.istore 4, 2, 0, 0, 0) := by decide +kernel
theorem l143_11 : (ax_dt (ax_T 143)).lookup 11 = some (.aload_n 0, 1, 0, 0, 0) := by decide +kernel
theorem l143_12 : (ax_dt (ax_T 143)).lookup 12 = some (.getfield 13, 3, 9, 4, 0) := by decide +kernel
theorem l143_15 : (ax_dt (ax_T 143)).lookup 15 = some (.aload_n 0, 1, 0, 0, 0) := by decide +kernel
theorem l143_16 : (ax_dt (ax_T 143)).lookup 16 = some (.getfield 137, 3, 9, 3, 0) := by decide +kernel
theorem l143_19 : (ax_dt (ax_T 143)).lookup 19 = some (.dup2, 1, 0, 0, 0) := by decide +kernel
theorem l143_20 : (ax_dt (ax_T 143)).lookup 20 = some (.iaload, 1, 0, 0, 0) := by decide +kernel
theorem l143_21 : (ax_dt (ax_T 143)).lookup 21 = some (.iconst 1, 1, 0, 0, 0) := by decide +kernel
theorem l143_22 : (ax_dt (ax_T 143)).lookup 22 = some (.iadd, 1, 0, 0, 0) := by decide +kernel
theorem l143_23 : (ax_dt (ax_T 143)).lookup 23 = some (.iastore, 1, 0, 0, 0) := by decide +kernel
theorem l143_24 : (ax_dt (ax_T 143)).lookup 24 = some (.aload_n 0, 1, 0, 0, 0) := by decide +kernel
theorem l143_25 : (ax_dt (ax_T 143)).lookup 25 = some (.iload 4, 2, 0, 0, 0) := by decide +kernel
theorem l143_27 : (ax_dt (ax_T 143)).lookup 27 = some (.invokevirtual 140, 3, 141, 1, 0) := by decide +kernel
theorem l143_30 : (ax_dt (ax_T 143)).lookup 30 = some (.istore 5, 2, 0, 0, 0) := by decide +kernel
theorem l143_32 : (ax_dt (ax_T 143)).lookup 32 = some (.aload_n 0, 1, 0, 0, 0) := by decide +kernel
theorem l143_33 : (ax_dt (ax_T 143)).lookup 33 = some (.getfield 23, 3, 9, 7, 0) := by decide +kernel
theorem l143_36 : (ax_dt (ax_T 143)).lookup 36 = some (.iload 5, 2, 0, 0, 0) := by decide +kernel
theorem l143_38 : (ax_dt (ax_T 143)).lookup 38 = some (.iload_n 1, 1, 0, 0, 0) := by decide +kernel
theorem l143_39 : (ax_dt (ax_T 143)).lookup 39 = some (.iastore, 1, 0, 0, 0) := by decide +kernel
theorem l143_40 : (ax_dt (ax_T 143)).lookup 40 = some (.aload_n 0, 1, 0, 0, 0) := by decide +kernel
theorem l143_41 : (ax_dt (ax_T 143)).lookup 41 = some (.getfield 26, 3, 9, 8, 0) := by decide +kernel
theorem l143_44 : (ax_dt (ax_T 143)).lookup 44 = some (.iload 5, 2, 0, 0, 0) := by decide +kernel
theorem l143_46 : (ax_dt (ax_T 143)).lookup 46 = some (.iload_n 2, 1, 0, 0, 0) := by decide +kernel
theorem l143_47 : (ax_dt (ax_T 143)).lookup 47 = some (.iastore, 1, 0, 0, 0) := by decide +kernel
theorem l143_48 : (ax_dt (ax_T 143)).lookup 48 = some (.aload_n 0, 1, 0, 0, 0) := by decide +kernel
theorem l143_49 : (ax_dt (ax_T 143)).lookup 49 = some (.getfield 29, 3, 9, 9, 0) := by decide +kernel
theorem l143_52 : (ax_dt (ax_T 143)).lookup 52 = some (.iload 5, 2, 0, 0, 0) := by decide +kernel
theorem l143_54 : (ax_dt (ax_T 143)).lookup 54 = some (.iload_n 3, 1, 0, 0, 0) := by decide +kernel
theorem l143_55 : (ax_dt (ax_T 143)).lookup 55 = some (.iastore, 1, 0, 0, 0) := by decide +kernel
theorem l143_56 : (ax_dt (ax_T 143)).lookup 56 = some (.aload_n 0, 1, 0, 0, 0) := by decide +kernel
theorem l143_57 : (ax_dt (ax_T 143)).lookup 57 = some (.getfield 32, 3, 9, 10, 0) := by decide +kernel
theorem l143_60 : (ax_dt (ax_T 143)).lookup 60 = some (.iload 5, 2, 0, 0, 0) := by decide +kernel
theorem l143_62 : (ax_dt (ax_T 143)).lookup 62 = some (.iconst 0, 1, 0, 0, 0) := by decide +kernel
theorem l143_63 : (ax_dt (ax_T 143)).lookup 63 = some (.iastore, 1, 0, 0, 0) := by decide +kernel
theorem l143_64 : (ax_dt (ax_T 143)).lookup 64 = some (.iload 4, 2, 0, 0, 0) := by decide +kernel
theorem l143_66 : (ax_dt (ax_T 143)).lookup 66 = some (.ireturn, 1, 0, 0, 0) := by decide +kernel
noncomputable def F_X11_make (v1 : Int) (v2 : Int) (v3 : Int) (μ : bM) : Option (Int × bM) := bG (0 ≤ (μ 76 3) ∧ (μ 76 3) < 2) (bG (0 ≤ (μ 76 3) ∧ (μ 76 3) < 2) (bG (bR ((μ 78 (μ 76 3).toNat) + 1)) (bG (0 ≤ (μ 76 3) ∧ (μ 76 3) < 2) ((F_X11_at (μ 78 (μ 76 3).toNat) (bset μ 78 (μ 76 3).toNat ((μ 78 (μ 76 3).toNat) + 1))).bind fun w3 => bG (0 ≤ w3 ∧ w3 < 800) (bG (0 ≤ w3 ∧ w3 < 800) (bG (0 ≤ w3 ∧ w3 < 800) (bG (0 ≤ w3 ∧ w3 < 800) (some ((μ 78 (μ 76 3).toNat), (bset (bset (bset (bset (bset μ 78 (μ 76 3).toNat ((μ 78 (μ 76 3).toNat) + 1)) 81 w3.toNat v1) 82 w3.toNat v2) 83 w3.toNat v3) 84 w3.toNat 0))))))))))
theorem r_X11_make {L : Nat} {xs : Nat → Int32} {d : Nat} {μ : bM}  (v1 : Int) (h1 : bR v1) (v2 : Int) (h2 : bR v2) (v3 : Int) (h3 : bR v3) : bD L xs (d + 1) 143 0 [(0, .ref 76), (1, bI v1), (2, bI v2), (3, bI v3)] [] μ ((F_X11_make v1 v2 v3 μ).bind (bMc)) := by
  have hr : ∀ r, (bMc) r = (bMc) r := fun _ => rfl
  unfold F_X11_make
  refine bD.ok fun hk => ?_
  refine b_s (pc' := 1) (lv1 := [(0, .ref 76), (1, bI v1), (2, bI v2), (3, bI v3)]) (st' := [.ref 76]) l143_0 (fun _ => rfl) ?_
  refine b_gp (q' := 78) (j := 2) l143_1 (by rfl) (by decide) (by decide) rfl hk rfl rfl (b_pc (pc' := 4) rfl ?_)
  refine b_s (pc' := 5) (lv1 := [(0, .ref 76), (1, bI v1), (2, bI v2), (3, bI v3)]) (st' := [.ref 76, .ref 78]) l143_4 (fun _ => rfl) ?_
  refine b_gi l143_5 (by rfl) (by decide) (by decide) rfl (b_pc (pc' := 8) rfl ?_)
  refine b_g fun g14 => ?_
  refine b_ial l143_8 (by rfl) g14 (b_pc (pc' := 9) rfl ?_)
  refine b_w (pc' := 11) (lv1 := ax_st1 [(0, .ref 76), (1, bI v1), (2, bI v2), (3, bI v3)] 4 (bI (μ 78 (μ 76 3).toNat))) (lv' := [(0, .ref 76), (1, bI v1), (2, bI v2), (3, bI v3), (4, bI (μ 78 (μ 76 3).toNat))]) (st' := []) l143_9 (fun _ => rfl) (bSb rfl (bSb rfl (bSb rfl (bSb rfl (bSb rfl bSn))))) ?_
  refine b_s (pc' := 12) (lv1 := [(0, .ref 76), (1, bI v1), (2, bI v2), (3, bI v3), (4, bI (μ 78 (μ 76 3).toNat))]) (st' := [.ref 76]) l143_11 (fun _ => rfl) ?_
  refine b_gp (q' := 78) (j := 2) l143_12 (by rfl) (by decide) (by decide) rfl hk rfl rfl (b_pc (pc' := 15) rfl ?_)
  refine b_s (pc' := 16) (lv1 := [(0, .ref 76), (1, bI v1), (2, bI v2), (3, bI v3), (4, bI (μ 78 (μ 76 3).toNat))]) (st' := [.ref 76, .ref 78]) l143_15 (fun _ => rfl) ?_
  refine b_gi l143_16 (by rfl) (by decide) (by decide) rfl (b_pc (pc' := 19) rfl ?_)
  refine b_s (pc' := 20) (lv1 := [(0, .ref 76), (1, bI v1), (2, bI v2), (3, bI v3), (4, bI (μ 78 (μ 76 3).toNat))]) (st' := [bI (μ 76 3), .ref 78, bI (μ 76 3), .ref 78]) l143_19 (fun _ => rfl) ?_
  refine b_g fun g13 => ?_
  refine b_ial l143_20 (by rfl) g13 (b_pc (pc' := 21) rfl ?_)
  refine b_s (pc' := 22) (lv1 := [(0, .ref 76), (1, bI v1), (2, bI v2), (3, bI v3), (4, bI (μ 78 (μ 76 3).toNat))]) (st' := [bI 1, bI (μ 78 (μ 76 3).toNat), bI (μ 76 3), .ref 78]) l143_21 (fun _ => rfl) ?_
  refine b_iadd l143_22 fun g1 => (b_pc (pc' := 23) rfl ?_)
  refine b_g fun g12 => ?_
  refine b_ias l143_23 (by rfl) g12 g1 (bD.ok fun hk2 => b_pc (pc' := 24) rfl ?_)
  refine b_s (pc' := 25) (lv1 := [(0, .ref 76), (1, bI v1), (2, bI v2), (3, bI v3), (4, bI (μ 78 (μ 76 3).toNat))]) (st' := [.ref 76]) l143_24 (fun _ => rfl) ?_
  refine b_s (pc' := 27) (lv1 := [(0, .ref 76), (1, bI v1), (2, bI v2), (3, bI v3), (4, bI (μ 78 (μ 76 3).toNat))]) (st' := [bI (μ 78 (μ 76 3).toNat), .ref 76]) l143_25 (fun _ => rfl) ?_
  refine b_cPi l143_27 rfl (b_rc (ci := 9) (by rfl) (by decide) (by decide +kernel)) (Nat.le_of_ble_eq_true rfl) (Nat.le_of_ble_eq_true rfl) rfl (r_X11_at (μ 78 (μ 76 3).toNat) (bO_i hk (by rfl))) fun w3 hw3 => b_pc (pc' := 30) rfl ?_
  refine b_w (pc' := 32) (lv1 := ax_st1 [(0, .ref 76), (1, bI v1), (2, bI v2), (3, bI v3), (4, bI (μ 78 (μ 76 3).toNat))] 5 (bI w3)) (lv' := [(0, .ref 76), (1, bI v1), (2, bI v2), (3, bI v3), (4, bI (μ 78 (μ 76 3).toNat)), (5, bI w3)]) (st' := []) l143_30 (fun _ => rfl) (bSb rfl (bSb rfl (bSb rfl (bSb rfl (bSb rfl (bSb rfl bSn)))))) ?_
  refine b_s (pc' := 33) (lv1 := [(0, .ref 76), (1, bI v1), (2, bI v2), (3, bI v3), (4, bI (μ 78 (μ 76 3).toNat)), (5, bI w3)]) (st' := [.ref 76]) l143_32 (fun _ => rfl) ?_
  refine b_gp (q' := 81) (j := 5) l143_33 (by rfl) (by decide) (by decide) rfl hk2 rfl rfl (b_pc (pc' := 36) rfl ?_)
  refine b_s (pc' := 38) (lv1 := [(0, .ref 76), (1, bI v1), (2, bI v2), (3, bI v3), (4, bI (μ 78 (μ 76 3).toNat)), (5, bI w3)]) (st' := [bI w3, .ref 81]) l143_36 (fun _ => rfl) ?_
  refine b_s (pc' := 39) (lv1 := [(0, .ref 76), (1, bI v1), (2, bI v2), (3, bI v3), (4, bI (μ 78 (μ 76 3).toNat)), (5, bI w3)]) (st' := [bI v1, bI w3, .ref 81]) l143_38 (fun _ => rfl) ?_
  refine b_g fun g11 => ?_
  refine b_ias l143_39 (by rfl) g11 h1 (bD.ok fun hk4 => b_pc (pc' := 40) rfl ?_)
  refine b_s (pc' := 41) (lv1 := [(0, .ref 76), (1, bI v1), (2, bI v2), (3, bI v3), (4, bI (μ 78 (μ 76 3).toNat)), (5, bI w3)]) (st' := [.ref 76]) l143_40 (fun _ => rfl) ?_
  refine b_gp (q' := 82) (j := 6) l143_41 (by rfl) (by decide) (by decide) rfl hk4 rfl rfl (b_pc (pc' := 44) rfl ?_)
  refine b_s (pc' := 46) (lv1 := [(0, .ref 76), (1, bI v1), (2, bI v2), (3, bI v3), (4, bI (μ 78 (μ 76 3).toNat)), (5, bI w3)]) (st' := [bI w3, .ref 82]) l143_44 (fun _ => rfl) ?_
  refine b_s (pc' := 47) (lv1 := [(0, .ref 76), (1, bI v1), (2, bI v2), (3, bI v3), (4, bI (μ 78 (μ 76 3).toNat)), (5, bI w3)]) (st' := [bI v2, bI w3, .ref 82]) l143_46 (fun _ => rfl) ?_
  refine b_g fun g10 => ?_
  refine b_ias l143_47 (by rfl) g10 h2 (bD.ok fun hk5 => b_pc (pc' := 48) rfl ?_)
  refine b_s (pc' := 49) (lv1 := [(0, .ref 76), (1, bI v1), (2, bI v2), (3, bI v3), (4, bI (μ 78 (μ 76 3).toNat)), (5, bI w3)]) (st' := [.ref 76]) l143_48 (fun _ => rfl) ?_
  refine b_gp (q' := 83) (j := 7) l143_49 (by rfl) (by decide) (by decide) rfl hk5 rfl rfl (b_pc (pc' := 52) rfl ?_)
  refine b_s (pc' := 54) (lv1 := [(0, .ref 76), (1, bI v1), (2, bI v2), (3, bI v3), (4, bI (μ 78 (μ 76 3).toNat)), (5, bI w3)]) (st' := [bI w3, .ref 83]) l143_52 (fun _ => rfl) ?_
  refine b_s (pc' := 55) (lv1 := [(0, .ref 76), (1, bI v1), (2, bI v2), (3, bI v3), (4, bI (μ 78 (μ 76 3).toNat)), (5, bI w3)]) (st' := [bI v3, bI w3, .ref 83]) l143_54 (fun _ => rfl) ?_
  refine b_g fun g9 => ?_
  refine b_ias l143_55 (by rfl) g9 h3 (bD.ok fun hk6 => b_pc (pc' := 56) rfl ?_)
  refine b_s (pc' := 57) (lv1 := [(0, .ref 76), (1, bI v1), (2, bI v2), (3, bI v3), (4, bI (μ 78 (μ 76 3).toNat)), (5, bI w3)]) (st' := [.ref 76]) l143_56 (fun _ => rfl) ?_
  refine b_gp (q' := 84) (j := 8) l143_57 (by rfl) (by decide) (by decide) rfl hk6 rfl rfl (b_pc (pc' := 60) rfl ?_)
  refine b_s (pc' := 62) (lv1 := [(0, .ref 76), (1, bI v1), (2, bI v2), (3, bI v3), (4, bI (μ 78 (μ 76 3).toNat)), (5, bI w3)]) (st' := [bI w3, .ref 84]) l143_60 (fun _ => rfl) ?_
  refine b_s (pc' := 63) (lv1 := [(0, .ref 76), (1, bI v1), (2, bI v2), (3, bI v3), (4, bI (μ 78 (μ 76 3).toNat)), (5, bI w3)]) (st' := [bI 0, bI w3, .ref 84]) l143_62 (fun _ => rfl) ?_
  refine b_g fun g8 => ?_
  refine b_ias l143_63 (by rfl) g8 (by decide) (bD.ok fun hk7 => b_pc (pc' := 64) rfl ?_)
  refine b_s (pc' := 66) (lv1 := [(0, .ref 76), (1, bI v1), (2, bI v2), (3, bI v3), (4, bI (μ 78 (μ 76 3).toNat)), (5, bI w3)]) (st' := [bI (μ 78 (μ 76 3).toNat)]) l143_64 (fun _ => rfl) ?_
  exact b_reti l143_66 rfl (bO_i hk (by rfl)) (hr _)
/-! ETModel.unit -/
theorem l144_0 : (ax_dt (ax_T 144)).lookup 0 = some (.aload_n 0, 1, 0, 0, 0) := by decide +kernel
theorem l144_1 : (ax_dt (ax_T 144)).lookup 1 = some (.iload_n 1, 1, 0, 0, 0) := by decide +kernel
theorem l144_2 : (ax_dt (ax_T 144)).lookup 2 = some (.invokestatic 144, 3, 140, 1, 0) := by decide +kernel
theorem l144_5 : (ax_dt (ax_T 144)).lookup 5 = some (.ifCond .ne 7, 3, 0, 0, 0) := by decide +kernel
theorem l144_8 : (ax_dt (ax_T 144)).lookup 8 = some (.iconst 1, 1, 0, 0, 0) := by decide +kernel
theorem l144_9 : (ax_dt (ax_T 144)).lookup 9 = some (.goto 37, 3, 0, 0, 0) := by decide +kernel
theorem l144_12 : (ax_dt (ax_T 144)).lookup 12 = some (.aload_n 0, 1, 0, 0, 0) := by decide +kernel
theorem l144_13 : (ax_dt (ax_T 144)).lookup 13 = some (.getfield 17, 3, 9, 5, 0) := by decide +kernel
theorem l144_16 : (ax_dt (ax_T 144)).lookup 16 = some (.aload_n 0, 1, 0, 0, 0) := by decide +kernel
theorem l144_17 : (ax_dt (ax_T 144)).lookup 17 = some (.getfield 137, 3, 9, 3, 0) := by decide +kernel
theorem l144_20 : (ax_dt (ax_T 144)).lookup 20 = some (.iaload, 1, 0, 0, 0) := by decide +kernel
theorem l144_21 : (ax_dt (ax_T 144)).lookup 21 = some (.bipush 6, 2, 0, 0, 0) := by decide +kernel
theorem l144_23 : (ax_dt (ax_T 144)).lookup 23 = some (.if_icmp .eq 18, 3, 0, 0, 0) := by decide +kernel
theorem l144_26 : (ax_dt (ax_T 144)).lookup 26 = some (.aload_n 0, 1, 0, 0, 0) := by decide +kernel
theorem l144_27 : (ax_dt (ax_T 144)).lookup 27 = some (.getfield 13, 3, 9, 4, 0) := by decide +kernel
theorem l144_30 : (ax_dt (ax_T 144)).lookup 30 = some (.aload_n 0, 1, 0, 0, 0) := by decide +kernel
theorem l144_31 : (ax_dt (ax_T 144)).lookup 31 = some (.getfield 137, 3, 9, 3, 0) := by decide +kernel
theorem l144_34 : (ax_dt (ax_T 144)).lookup 34 = some (.iaload, 1, 0, 0, 0) := by decide +kernel
theorem l144_35 : (ax_dt (ax_T 144)).lookup 35 = some (.sipush 400, 3, 0, 0, 0) := by decide +kernel
theorem l144_38 : (ax_dt (ax_T 144)).lookup 38 = some (.if_icmp .ne 7, 3, 0, 0, 0) := by decide +kernel
theorem l144_41 : (ax_dt (ax_T 144)).lookup 41 = some (.iconst 2, 1, 0, 0, 0) := by decide +kernel
theorem l144_42 : (ax_dt (ax_T 144)).lookup 42 = some (.goto 4, 3, 0, 0, 0) := by decide +kernel
theorem l144_45 : (ax_dt (ax_T 144)).lookup 45 = some (.iconst 0, 1, 0, 0, 0) := by decide +kernel
theorem l144_46 : (ax_dt (ax_T 144)).lookup 46 = some (.putfield 120, 3, 9, 0, 0) := by decide +kernel
theorem l144_49 : (ax_dt (ax_T 144)).lookup 49 = some (.aload_n 0, 1, 0, 0, 0) := by decide +kernel
theorem l144_50 : (ax_dt (ax_T 144)).lookup 50 = some (.getfield 120, 3, 9, 0, 0) := by decide +kernel
theorem l144_53 : (ax_dt (ax_T 144)).lookup 53 = some (.ifCond .le 5, 3, 0, 0, 0) := by decide +kernel
theorem l144_56 : (ax_dt (ax_T 144)).lookup 56 = some (.iconst 0, 1, 0, 0, 0) := by decide +kernel
theorem l144_57 : (ax_dt (ax_T 144)).lookup 57 = some (.ireturn, 1, 0, 0, 0) := by decide +kernel
theorem l144_58 : (ax_dt (ax_T 144)).lookup 58 = some (.aload_n 0, 1, 0, 0, 0) := by decide +kernel
theorem l144_59 : (ax_dt (ax_T 144)).lookup 59 = some (.iload_n 1, 1, 0, 0, 0) := by decide +kernel
theorem l144_60 : (ax_dt (ax_T 144)).lookup 60 = some (.iconst (-1), 1, 0, 0, 0) := by decide +kernel
theorem l144_61 : (ax_dt (ax_T 144)).lookup 61 = some (.aload_n 0, 1, 0, 0, 0) := by decide +kernel
theorem l144_62 : (ax_dt (ax_T 144)).lookup 62 = some (.getfield 17, 3, 9, 5, 0) := by decide +kernel
theorem l144_65 : (ax_dt (ax_T 144)).lookup 65 = some (.aload_n 0, 1, 0, 0, 0) := by decide +kernel
theorem l144_66 : (ax_dt (ax_T 144)).lookup 66 = some (.getfield 137, 3, 9, 3, 0) := by decide +kernel
theorem l144_69 : (ax_dt (ax_T 144)).lookup 69 = some (.iaload, 1, 0, 0, 0) := by decide +kernel
theorem l144_70 : (ax_dt (ax_T 144)).lookup 70 = some (.invokevirtual 148, 3, 143, 3, 0) := by decide +kernel
theorem l144_73 : (ax_dt (ax_T 144)).lookup 73 = some (.istore_n 2, 1, 0, 0, 0) := by decide +kernel
theorem l144_74 : (ax_dt (ax_T 144)).lookup 74 = some (.aload_n 0, 1, 0, 0, 0) := by decide +kernel
theorem l144_75 : (ax_dt (ax_T 144)).lookup 75 = some (.getfield 20, 3, 9, 6, 0) := by decide +kernel
theorem l144_78 : (ax_dt (ax_T 144)).lookup 78 = some (.bipush 6, 2, 0, 0, 0) := by decide +kernel
theorem l144_80 : (ax_dt (ax_T 144)).lookup 80 = some (.aload_n 0, 1, 0, 0, 0) := by decide +kernel
theorem l144_81 : (ax_dt (ax_T 144)).lookup 81 = some (.getfield 137, 3, 9, 3, 0) := by decide +kernel
theorem l144_84 : (ax_dt (ax_T 144)).lookup 84 = some (.imul, 1, 0, 0, 0) := by decide +kernel
theorem l144_85 : (ax_dt (ax_T 144)).lookup 85 = some (.aload_n 0, 1, 0, 0, 0) := by decide +kernel
theorem l144_86 : (ax_dt (ax_T 144)).lookup 86 = some (.getfield 17, 3, 9, 5, 0) := by decide +kernel
theorem l144_89 : (ax_dt (ax_T 144)).lookup 89 = some (.aload_n 0, 1, 0, 0, 0) := by decide +kernel
theorem l144_90 : (ax_dt (ax_T 144)).lookup 90 = some (.getfield 137, 3, 9, 3, 0) := by decide +kernel
theorem l144_93 : (ax_dt (ax_T 144)).lookup 93 = some (.iaload, 1, 0, 0, 0) := by decide +kernel
theorem l144_94 : (ax_dt (ax_T 144)).lookup 94 = some (.iadd, 1, 0, 0, 0) := by decide +kernel
theorem l144_95 : (ax_dt (ax_T 144)).lookup 95 = some (.iload_n 2, 1, 0, 0, 0) := by decide +kernel
theorem l144_96 : (ax_dt (ax_T 144)).lookup 96 = some (.iastore, 1, 0, 0, 0) := by decide +kernel
theorem l144_97 : (ax_dt (ax_T 144)).lookup 97 = some (.aload_n 0, 1, 0, 0, 0) := by decide +kernel
theorem l144_98 : (ax_dt (ax_T 144)).lookup 98 = some (.getfield 17, 3, 9, 5, 0) := by decide +kernel
theorem l144_101 : (ax_dt (ax_T 144)).lookup 101 = some (.aload_n 0, 1, 0, 0, 0) := by decide +kernel
theorem l144_102 : (ax_dt (ax_T 144)).lookup 102 = some (.getfield 137, 3, 9, 3, 0) := by decide +kernel
theorem l144_105 : (ax_dt (ax_T 144)).lookup 105 = some (.dup2, 1, 0, 0, 0) := by decide +kernel
theorem l144_106 : (ax_dt (ax_T 144)).lookup 106 = some (.iaload, 1, 0, 0, 0) := by decide +kernel
theorem l144_107 : (ax_dt (ax_T 144)).lookup 107 = some (.iconst 1, 1, 0, 0, 0) := by decide +kernel
theorem l144_108 : (ax_dt (ax_T 144)).lookup 108 = some (.iadd, 1, 0, 0, 0) := by decide +kernel
theorem l144_109 : (ax_dt (ax_T 144)).lookup 109 = some (.iastore, 1, 0, 0, 0) := by decide +kernel
theorem l144_110 : (ax_dt (ax_T 144)).lookup 110 = some (.iload_n 2, 1, 0, 0, 0) := by decide +kernel
theorem l144_111 : (ax_dt (ax_T 144)).lookup 111 = some (.ireturn, 1, 0, 0, 0) := by decide +kernel
noncomputable def F_X11_unit_46 (v1 : Int) (y1 : Int) (μ : bM) : Option (Int × bM) := if ((bset μ 76 0 y1) 76 0) ≤ 0 then bG (0 ≤ ((bset μ 76 0 y1) 76 3) ∧ ((bset μ 76 0 y1) 76 3) < 2) (bMm (F_X11_make v1 (-1) ((bset μ 76 0 y1) 79 ((bset μ 76 0 y1) 76 3).toNat) (bset μ 76 0 y1)) (fun w3 μ4 => bG (bR (6 * (μ4 76 3))) (bG (0 ≤ (μ4 76 3) ∧ (μ4 76 3) < 2) (bG (bR ((6 * (μ4 76 3)) + (μ4 79 (μ4 76 3).toNat))) (bG (0 ≤ ((6 * (μ4 76 3)) + (μ4 79 (μ4 76 3).toNat)) ∧ ((6 * (μ4 76 3)) + (μ4 79 (μ4 76 3).toNat)) < 12) (bG (0 ≤ ((bset μ4 80 ((6 * (μ4 76 3)) + (μ4 79 (μ4 76 3).toNat)).toNat w3) 76 3) ∧ ((bset μ4 80 ((6 * (μ4 76 3)) + (μ4 79 (μ4 76 3).toNat)).toNat w3) 76 3) < 2) (bG (bR (((bset μ4 80 ((6 * (μ4 76 3)) + (μ4 79 (μ4 76 3).toNat)).toNat w3) 79 ((bset μ4 80 ((6 * (μ4 76 3)) + (μ4 79 (μ4 76 3).toNat)).toNat w3) 76 3).toNat) + 1)) (bG (0 ≤ ((bset μ4 80 ((6 * (μ4 76 3)) + (μ4 79 (μ4 76 3).toNat)).toNat w3) 76 3) ∧ ((bset μ4 80 ((6 * (μ4 76 3)) + (μ4 79 (μ4 76 3).toNat)).toNat w3) 76 3) < 2) (some (w3, (bset (bset μ4 80 ((6 * (μ4 76 3)) + (μ4 79 (μ4 76 3).toNat)).toNat w3) 79 ((bset μ4 80 ((6 * (μ4 76 3)) + (μ4 79 (μ4 76 3).toNat)).toNat w3) 76 3).toNat (((bset μ4 80 ((6 * (μ4 76 3)) + (μ4 79 (μ4 76 3).toNat)).toNat w3) 79 ((bset μ4 80 ((6 * (μ4 76 3)) + (μ4 79 (μ4 76 3).toNat)).toNat w3) 76 3).toNat) + 1)))))))))))) else some (0, (bset μ 76 0 y1))
noncomputable def F_X11_unit_41 (v1 : Int) (μ : bM) : Option (Int × bM) := F_X11_unit_46 v1 2 μ
noncomputable def F_X11_unit (v1 : Int) (μ : bM) : Option (Int × bM) := (F_X11_isName v1 μ).bind fun w1 => if ¬ w1 = 0 then bG (0 ≤ (μ 76 3) ∧ (μ 76 3) < 2) (if (μ 79 (μ 76 3).toNat) = 6 then F_X11_unit_41 v1 μ else bG (0 ≤ (μ 76 3) ∧ (μ 76 3) < 2) (if ¬ (μ 78 (μ 76 3).toNat) = 400 then F_X11_unit_46 v1 0 μ else F_X11_unit_41 v1 μ)) else F_X11_unit_46 v1 1 μ
theorem p_X11_unit_46 {L : Nat} {xs : Nat → Int32} {d : Nat} {μ : bM}  {κ : (Int × bM) → Option bX} (hr : ∀ r : Int × bM, κ r = (bMc) r)  {v1 : Int} (h1 : bR v1) {y1 : Int} (hy1 : bR y1) : bD L xs (d + 2) 144 46 [(0, .ref 76), (1, bI v1)] [bI y1, .ref 76] μ ((F_X11_unit_46 v1 y1 μ).bind κ) := by
  unfold F_X11_unit_46
  refine bD.ok fun hk => ?_
  refine b_pi l144_46 (by rfl) (by decide) (by decide) rfl rfl hy1 (bD.ok fun hk1 => b_pc (pc' := 49) rfl ?_)
  refine b_s (pc' := 50) (lv1 := [(0, .ref 76), (1, bI v1)]) (st' := [.ref 76]) l144_49 (fun _ => rfl) ?_
  refine b_gi l144_50 (by rfl) (by decide) (by decide) rfl (b_pc (pc' := 53) rfl ?_)
  refine b_zle (pt := 58) l144_53 (bO_f hk1 (ci := 9) (by rfl) rfl) (by decide) rfl (fun c2 => ?_) (fun c2 => b_pc (pc' := 56) rfl ?_)
  · refine b_s (pc' := 59) (lv1 := [(0, .ref 76), (1, bI v1)]) (st' := [.ref 76]) l144_58 (fun _ => rfl) ?_
    refine b_s (pc' := 60) (lv1 := [(0, .ref 76), (1, bI v1)]) (st' := [bI v1, .ref 76]) l144_59 (fun _ => rfl) ?_
    refine b_s (pc' := 61) (lv1 := [(0, .ref 76), (1, bI v1)]) (st' := [bI (-1), bI v1, .ref 76]) l144_60 (fun _ => rfl) ?_
    refine b_s (pc' := 62) (lv1 := [(0, .ref 76), (1, bI v1)]) (st' := [.ref 76, bI (-1), bI v1, .ref 76]) l144_61 (fun _ => rfl) ?_
    refine b_gp (q' := 79) (j := 3) l144_62 (by rfl) (by decide) (by decide) rfl hk1 rfl rfl (b_pc (pc' := 65) rfl ?_)
    refine b_s (pc' := 66) (lv1 := [(0, .ref 76), (1, bI v1)]) (st' := [.ref 76, .ref 79, bI (-1), bI v1, .ref 76]) l144_65 (fun _ => rfl) ?_
    refine b_gi l144_66 (by rfl) (by decide) (by decide) rfl (b_pc (pc' := 69) rfl ?_)
    refine b_g fun g15 => ?_
    refine b_ial l144_69 (by rfl) g15 (b_pc (pc' := 70) rfl ?_)
    refine b_cMi l144_70 rfl (b_rc (ci := 9) (by rfl) (by decide) (by decide +kernel)) (Nat.le_of_ble_eq_true rfl) (Nat.le_of_ble_eq_true rfl) rfl (r_X11_make v1 h1 (-1) (by decide) ((bset μ 76 0 y1) 79 ((bset μ 76 0 y1) 76 3).toNat) (bO_i hk1 (by rfl))) fun w3 μ4 hw3 => bD.ok fun hk5 => b_pc (pc' := 73) rfl ?_
    refine b_w (pc' := 74) (lv1 := ax_st1 [(0, .ref 76), (1, bI v1)] 2 (bI w3)) (lv' := [(0, .ref 76), (2, bI w3)]) (st' := []) l144_73 (fun _ => rfl) (bSb rfl (bSb rfl bSn)) ?_
    refine b_s (pc' := 75) (lv1 := [(0, .ref 76), (2, bI w3)]) (st' := [.ref 76]) l144_74 (fun _ => rfl) ?_
    refine b_gp (q' := 80) (j := 4) l144_75 (by rfl) (by decide) (by decide) rfl hk5 rfl rfl (b_pc (pc' := 78) rfl ?_)
    refine b_bipush l144_78 (by decide) (b_pc (pc' := 80) rfl ?_)
    refine b_s (pc' := 81) (lv1 := [(0, .ref 76), (2, bI w3)]) (st' := [.ref 76, bI 6, .ref 80]) l144_80 (fun _ => rfl) ?_
    refine b_gi l144_81 (by rfl) (by decide) (by decide) rfl (b_pc (pc' := 84) rfl ?_)
    refine b_imul l144_84 fun g6 => (b_pc (pc' := 85) rfl ?_)
    refine b_s (pc' := 86) (lv1 := [(0, .ref 76), (2, bI w3)]) (st' := [.ref 76, bI (6 * (μ4 76 3)), .ref 80]) l144_85 (fun _ => rfl) ?_
    refine b_gp (q' := 79) (j := 3) l144_86 (by rfl) (by decide) (by decide) rfl hk5 rfl rfl (b_pc (pc' := 89) rfl ?_)
    refine b_s (pc' := 90) (lv1 := [(0, .ref 76), (2, bI w3)]) (st' := [.ref 76, .ref 79, bI (6 * (μ4 76 3)), .ref 80]) l144_89 (fun _ => rfl) ?_
    refine b_gi l144_90 (by rfl) (by decide) (by decide) rfl (b_pc (pc' := 93) rfl ?_)
    refine b_g fun g14 => ?_
    refine b_ial l144_93 (by rfl) g14 (b_pc (pc' := 94) rfl ?_)
    refine b_iadd l144_94 fun g7 => (b_pc (pc' := 95) rfl ?_)
    refine b_s (pc' := 96) (lv1 := [(0, .ref 76), (2, bI w3)]) (st' := [bI w3, bI ((6 * (μ4 76 3)) + (μ4 79 (μ4 76 3).toNat)), .ref 80]) l144_95 (fun _ => rfl) ?_
    refine b_g fun g13 => ?_
    refine b_ias l144_96 (by rfl) g13 hw3 (bD.ok fun hk8 => b_pc (pc' := 97) rfl ?_)
    refine b_s (pc' := 98) (lv1 := [(0, .ref 76), (2, bI w3)]) (st' := [.ref 76]) l144_97 (fun _ => rfl) ?_
    refine b_gp (q' := 79) (j := 3) l144_98 (by rfl) (by decide) (by decide) rfl hk8 rfl rfl (b_pc (pc' := 101) rfl ?_)
    refine b_s (pc' := 102) (lv1 := [(0, .ref 76), (2, bI w3)]) (st' := [.ref 76, .ref 79]) l144_101 (fun _ => rfl) ?_
    refine b_gi l144_102 (by rfl) (by decide) (by decide) rfl (b_pc (pc' := 105) rfl ?_)
    refine b_s (pc' := 106) (lv1 := [(0, .ref 76), (2, bI w3)]) (st' := [bI ((bset μ4 80 ((6 * (μ4 76 3)) + (μ4 79 (μ4 76 3).toNat)).toNat w3) 76 3), .ref 79, bI ((bset μ4 80 ((6 * (μ4 76 3)) + (μ4 79 (μ4 76 3).toNat)).toNat w3) 76 3), .ref 79]) l144_105 (fun _ => rfl) ?_
    refine b_g fun g12 => ?_
    refine b_ial l144_106 (by rfl) g12 (b_pc (pc' := 107) rfl ?_)
    refine b_s (pc' := 108) (lv1 := [(0, .ref 76), (2, bI w3)]) (st' := [bI 1, bI ((bset μ4 80 ((6 * (μ4 76 3)) + (μ4 79 (μ4 76 3).toNat)).toNat w3) 79 ((bset μ4 80 ((6 * (μ4 76 3)) + (μ4 79 (μ4 76 3).toNat)).toNat w3) 76 3).toNat), bI ((bset μ4 80 ((6 * (μ4 76 3)) + (μ4 79 (μ4 76 3).toNat)).toNat w3) 76 3), .ref 79]) l144_107 (fun _ => rfl) ?_
    refine b_iadd l144_108 fun g9 => (b_pc (pc' := 109) rfl ?_)
    refine b_g fun g11 => ?_
    refine b_ias l144_109 (by rfl) g11 g9 (bD.ok fun hk10 => b_pc (pc' := 110) rfl ?_)
    refine b_s (pc' := 111) (lv1 := [(0, .ref 76), (2, bI w3)]) (st' := [bI w3]) l144_110 (fun _ => rfl) ?_
    exact b_reti l144_111 rfl hw3 (hr _)
  · refine b_s (pc' := 57) (lv1 := [(0, .ref 76), (1, bI v1)]) (st' := [bI 0]) l144_56 (fun _ => rfl) ?_
    exact b_reti l144_57 rfl (by decide) (hr _)
theorem p_X11_unit_41 {L : Nat} {xs : Nat → Int32} {d : Nat} {μ : bM}  {κ : (Int × bM) → Option bX} (hr : ∀ r : Int × bM, κ r = (bMc) r)  {v1 : Int} (h1 : bR v1) : bD L xs (d + 2) 144 41 [(0, .ref 76), (1, bI v1)] [.ref 76] μ ((F_X11_unit_41 v1 μ).bind κ) := by
  unfold F_X11_unit_41
  refine bD.ok fun hk => ?_
  refine b_s (pc' := 42) (lv1 := [(0, .ref 76), (1, bI v1)]) (st' := [bI 2, .ref 76]) l144_41 (fun _ => rfl) ?_
  refine b_s (pc' := 46) (lv1 := [(0, .ref 76), (1, bI v1)]) (st' := [bI 2, .ref 76]) l144_42 (fun _ => rfl) ?_
  refine bD.wk (lv' := [(0, .ref 76), (1, bI v1)]) (bSb rfl (bSb rfl bSn)) ?_
  exact p_X11_unit_46 hr h1 (by decide)
theorem r_X11_unit {L : Nat} {xs : Nat → Int32} {d : Nat} {μ : bM}  (v1 : Int) (h1 : bR v1) : bD L xs (d + 2) 144 0 [(0, .ref 76), (1, bI v1)] [] μ ((F_X11_unit v1 μ).bind (bMc)) := by
  have hr : ∀ r, (bMc) r = (bMc) r := fun _ => rfl
  unfold F_X11_unit
  refine bD.ok fun hk => ?_
  refine b_s (pc' := 1) (lv1 := [(0, .ref 76), (1, bI v1)]) (st' := [.ref 76]) l144_0 (fun _ => rfl) ?_
  refine b_s (pc' := 2) (lv1 := [(0, .ref 76), (1, bI v1)]) (st' := [bI v1, .ref 76]) l144_1 (fun _ => rfl) ?_
  refine b_cPz l144_2 rfl (fun _ => trivial) (Nat.le_of_ble_eq_true rfl) (Nat.le_of_ble_eq_true rfl) rfl (r_X11_isName v1 h1) fun w1 hw1 => b_pc (pc' := 5) rfl ?_
  refine b_zne (pt := 12) l144_5 (bZ_R hw1) (by decide) rfl (fun c2 => ?_) (fun c2 => b_pc (pc' := 8) rfl ?_)
  · refine b_s (pc' := 13) (lv1 := [(0, .ref 76), (1, bI v1)]) (st' := [.ref 76, .ref 76]) l144_12 (fun _ => rfl) ?_
    refine b_gp (q' := 79) (j := 3) l144_13 (by rfl) (by decide) (by decide) rfl hk rfl rfl (b_pc (pc' := 16) rfl ?_)
    refine b_s (pc' := 17) (lv1 := [(0, .ref 76), (1, bI v1)]) (st' := [.ref 76, .ref 79, .ref 76]) l144_16 (fun _ => rfl) ?_
    refine b_gi l144_17 (by rfl) (by decide) (by decide) rfl (b_pc (pc' := 20) rfl ?_)
    refine b_g fun g6 => ?_
    refine b_ial l144_20 (by rfl) g6 (b_pc (pc' := 21) rfl ?_)
    refine b_bipush l144_21 (by decide) (b_pc (pc' := 23) rfl ?_)
    refine b_ieq (pt := 41) l144_23 (bO_i hk (by rfl)) (by decide) (by decide) rfl (fun c3 => ?_) (fun c3 => b_pc (pc' := 26) rfl ?_)
    · refine bD.wk (lv' := [(0, .ref 76), (1, bI v1)]) (bSb rfl (bSb rfl bSn)) ?_
      exact p_X11_unit_41 hr h1
    · refine b_s (pc' := 27) (lv1 := [(0, .ref 76), (1, bI v1)]) (st' := [.ref 76, .ref 76]) l144_26 (fun _ => rfl) ?_
      refine b_gp (q' := 78) (j := 2) l144_27 (by rfl) (by decide) (by decide) rfl hk rfl rfl (b_pc (pc' := 30) rfl ?_)
      refine b_s (pc' := 31) (lv1 := [(0, .ref 76), (1, bI v1)]) (st' := [.ref 76, .ref 78, .ref 76]) l144_30 (fun _ => rfl) ?_
      refine b_gi l144_31 (by rfl) (by decide) (by decide) rfl (b_pc (pc' := 34) rfl ?_)
      refine b_g fun g5 => ?_
      refine b_ial l144_34 (by rfl) g5 (b_pc (pc' := 35) rfl ?_)
      refine b_sipush l144_35 (by decide) (b_pc (pc' := 38) rfl ?_)
      refine b_ine (pt := 45) l144_38 (bO_i hk (by rfl)) (by decide) (by decide) rfl (fun c4 => ?_) (fun c4 => b_pc (pc' := 41) rfl ?_)
      · refine b_s (pc' := 46) (lv1 := [(0, .ref 76), (1, bI v1)]) (st' := [bI 0, .ref 76]) l144_45 (fun _ => rfl) ?_
        refine bD.wk (lv' := [(0, .ref 76), (1, bI v1)]) (bSb rfl (bSb rfl bSn)) ?_
        exact p_X11_unit_46 hr h1 (by decide)
      · refine bD.wk (lv' := [(0, .ref 76), (1, bI v1)]) (bSb rfl (bSb rfl bSn)) ?_
        exact p_X11_unit_41 hr h1
  · refine b_s (pc' := 9) (lv1 := [(0, .ref 76), (1, bI v1)]) (st' := [bI 1, .ref 76]) l144_8 (fun _ => rfl) ?_
    refine b_s (pc' := 46) (lv1 := [(0, .ref 76), (1, bI v1)]) (st' := [bI 1, .ref 76]) l144_9 (fun _ => rfl) ?_
    refine bD.wk (lv' := [(0, .ref 76), (1, bI v1)]) (bSb rfl (bSb rfl bSn)) ?_
    exact p_X11_unit_46 hr h1 (by decide)
/-! ETModel.depth -/
theorem l145_0 : (ax_dt (ax_T 145)).lookup 0 = some (.iconst 0, 1, 0, 0, 0) := by decide +kernel
theorem l145_1 : (ax_dt (ax_T 145)).lookup 1 = some (.istore_n 2, 1, 0, 0, 0) := by decide +kernel
theorem l145_2 : (ax_dt (ax_T 145)).lookup 2 = some (.aload_n 0, 1, 0, 0, 0) := by decide +kernel
theorem l145_3 : (ax_dt (ax_T 145)).lookup 3 = some (.getfield 26, 3, 9, 8, 0) := by decide +kernel
theorem l145_6 : (ax_dt (ax_T 145)).lookup 6 = some (.aload_n 0, 1, 0, 0, 0) := by decide +kernel
theorem l145_7 : (ax_dt (ax_T 145)).lookup 7 = some (.iload_n 1, 1, 0, 0, 0) := by decide +kernel
theorem l145_8 : (ax_dt (ax_T 145)).lookup 8 = some (.invokevirtual 140, 3, 141, 1, 0) := by decide +kernel
theorem l145_11 : (ax_dt (ax_T 145)).lookup 11 = some (.iaload, 1, 0, 0, 0) := by decide +kernel
theorem l145_12 : (ax_dt (ax_T 145)).lookup 12 = some (.istore_n 3, 1, 0, 0, 0) := by decide +kernel
theorem l145_13 : (ax_dt (ax_T 145)).lookup 13 = some (.iload_n 3, 1, 0, 0, 0) := by decide +kernel
theorem l145_14 : (ax_dt (ax_T 145)).lookup 14 = some (.iconst (-1), 1, 0, 0, 0) := by decide +kernel
theorem l145_15 : (ax_dt (ax_T 145)).lookup 15 = some (.if_icmp .eq 20, 3, 0, 0, 0) := by decide +kernel
theorem l145_18 : (ax_dt (ax_T 145)).lookup 18 = some (.iinc 2 1, 3, 0, 0, 0) := by decide +kernel
theorem l145_21 : (ax_dt (ax_T 145)).lookup 21 = some (.aload_n 0, 1, 0, 0, 0) := by decide +kernel
theorem l145_22 : (ax_dt (ax_T 145)).lookup 22 = some (.getfield 26, 3, 9, 8, 0) := by decide +kernel
theorem l145_25 : (ax_dt (ax_T 145)).lookup 25 = some (.aload_n 0, 1, 0, 0, 0) := by decide +kernel
theorem l145_26 : (ax_dt (ax_T 145)).lookup 26 = some (.iload_n 3, 1, 0, 0, 0) := by decide +kernel
theorem l145_27 : (ax_dt (ax_T 145)).lookup 27 = some (.invokevirtual 140, 3, 141, 1, 0) := by decide +kernel
theorem l145_30 : (ax_dt (ax_T 145)).lookup 30 = some (.iaload, 1, 0, 0, 0) := by decide +kernel
theorem l145_31 : (ax_dt (ax_T 145)).lookup 31 = some (.istore_n 3, 1, 0, 0, 0) := by decide +kernel
theorem l145_32 : (ax_dt (ax_T 145)).lookup 32 = some (.goto (-19), 3, 0, 0, 0) := by decide +kernel
theorem l145_35 : (ax_dt (ax_T 145)).lookup 35 = some (.iload_n 2, 1, 0, 0, 0) := by decide +kernel
theorem l145_36 : (ax_dt (ax_T 145)).lookup 36 = some (.ireturn, 1, 0, 0, 0) := by decide +kernel
noncomputable def F_X11_depth_13 (μ : bM) (v2 : Int) (v3 : Int) : Option ((Int × Int) ⊕ (Int)) := if v3 = (-1) then some (.inr (v2)) else bG (bR (v2 + 1)) ((F_X11_at v3 μ).bind fun w3 => bG (0 ≤ w3 ∧ w3 < 800) (some (.inl ((v2 + 1), (μ 82 w3.toNat)))))
noncomputable def F_X11_depth (v1 : Int) (μ : bM) : Option (Int) := (F_X11_at v1 μ).bind fun w1 => bG (0 ≤ w1 ∧ w1 < 800) (bLoop (fun z => F_X11_depth_13 μ z.1 z.2) (0, (μ 82 w1.toNat)))
theorem q_X11_depth_13 {L : Nat} {xs : Nat → Int32} {d : Nat} {μ : bM}  {κ : ((Int × Int) ⊕ (Int)) → Option bX} (hr : ∀ r : Int, κ (.inr r) = (bPc μ) r) (H13 : ∀ (v2 : Int) (v3 : Int), bR v2 → bR v3 → bD L xs (d + 1) 145 13 [(0, .ref 76), (2, bI v2), (3, bI v3)] [] μ (κ (.inl (v2, v3))))  {v2 : Int} (h2 : bR v2) {v3 : Int} (h3 : bR v3) : bD L xs (d + 1) 145 13 [(0, .ref 76), (2, bI v2), (3, bI v3)] [] μ ((F_X11_depth_13 μ v2 v3).bind κ) := by
  unfold F_X11_depth_13
  refine bD.ok fun hk => ?_
  refine b_s (pc' := 14) (lv1 := [(0, .ref 76), (2, bI v2), (3, bI v3)]) (st' := [bI v3]) l145_13 (fun _ => rfl) ?_
  refine b_s (pc' := 15) (lv1 := [(0, .ref 76), (2, bI v2), (3, bI v3)]) (st' := [bI (-1), bI v3]) l145_14 (fun _ => rfl) ?_
  refine b_ieq (pt := 35) l145_15 h3 (by decide) (by decide) rfl (fun c1 => ?_) (fun c1 => b_pc (pc' := 18) rfl ?_)
  · refine b_s (pc' := 36) (lv1 := [(0, .ref 76), (2, bI v2), (3, bI v3)]) (st' := [bI v2]) l145_35 (fun _ => rfl) ?_
    exact b_reti l145_36 rfl h2 (hr _)
  · refine b_inc (lv' := [(0, .ref 76), (2, bI (v2 + 1)), (3, bI v3)]) l145_18 rfl (by decide +kernel) (bSb rfl (bSb rfl (bSb rfl bSn))) fun g2 => (b_pc (pc' := 21) rfl ?_)
    refine b_s (pc' := 22) (lv1 := [(0, .ref 76), (2, bI (v2 + 1)), (3, bI v3)]) (st' := [.ref 76]) l145_21 (fun _ => rfl) ?_
    refine b_gp (q' := 82) (j := 6) l145_22 (by rfl) (by decide) (by decide) rfl hk rfl rfl (b_pc (pc' := 25) rfl ?_)
    refine b_s (pc' := 26) (lv1 := [(0, .ref 76), (2, bI (v2 + 1)), (3, bI v3)]) (st' := [.ref 76, .ref 82]) l145_25 (fun _ => rfl) ?_
    refine b_s (pc' := 27) (lv1 := [(0, .ref 76), (2, bI (v2 + 1)), (3, bI v3)]) (st' := [bI v3, .ref 76, .ref 82]) l145_26 (fun _ => rfl) ?_
    refine b_cPi l145_27 rfl (b_rc (ci := 9) (by rfl) (by decide) (by decide +kernel)) (Nat.le_of_ble_eq_true rfl) (Nat.le_of_ble_eq_true rfl) rfl (r_X11_at v3 h3) fun w3 hw3 => b_pc (pc' := 30) rfl ?_
    refine b_g fun g4 => ?_
    refine b_ial l145_30 (by rfl) g4 (b_pc (pc' := 31) rfl ?_)
    refine b_w (pc' := 32) (lv1 := ax_st1 [(0, .ref 76), (2, bI (v2 + 1)), (3, bI v3)] 3 (bI (μ 82 w3.toNat))) (lv' := [(0, .ref 76), (2, bI (v2 + 1)), (3, bI (μ 82 w3.toNat))]) (st' := []) l145_31 (fun _ => rfl) (bSb rfl (bSb rfl (bSb rfl bSn))) ?_
    refine b_s (pc' := 13) (lv1 := [(0, .ref 76), (2, bI (v2 + 1)), (3, bI (μ 82 w3.toNat))]) (st' := []) l145_32 (fun _ => rfl) ?_
    refine bD.wk (lv' := [(0, .ref 76), (2, bI (v2 + 1)), (3, bI (μ 82 w3.toNat))]) (bSb rfl (bSb rfl (bSb rfl bSn))) ?_
    exact H13 (v2 + 1) (μ 82 w3.toNat) g2 (bO_i hk (by rfl))
theorem p_X11_depth_13 {L : Nat} {xs : Nat → Int32} {d : Nat} {μ : bM}  {κ : (Int) → Option bX} (hr : ∀ r : Int, κ r = (bPc μ) r)  {v2 : Int} (h2 : bR v2) {v3 : Int} (h3 : bR v3) : bD L xs (d + 1) 145 13 [(0, .ref 76), (2, bI v2), (3, bI v3)] [] μ ((bLoop (fun z => F_X11_depth_13 μ z.1 z.2) (v2, v3)).bind κ) :=
  b_loop (fun z => [(0, .ref 76), (2, bI z.1), (3, bI z.2)]) (fun z => μ) (fun z => bR z.1 ∧ bR z.2) (fun κ' hκ HH z hz => q_X11_depth_13 (κ := κ') (fun r => (hκ _).trans (hr r)) (fun a2 a3 b2 b3 => HH (a2, a3) ⟨b2, b3⟩)  hz.1 hz.2) (v2, v3) ⟨h2, h3⟩
theorem r_X11_depth {L : Nat} {xs : Nat → Int32} {d : Nat} {μ : bM}  (v1 : Int) (h1 : bR v1) : bD L xs (d + 1) 145 0 [(0, .ref 76), (1, bI v1)] [] μ ((F_X11_depth v1 μ).bind (bPc μ)) := by
  have hr : ∀ r, (bPc μ) r = (bPc μ) r := fun _ => rfl
  unfold F_X11_depth
  refine bD.ok fun hk => ?_
  refine b_s (pc' := 1) (lv1 := [(0, .ref 76), (1, bI v1)]) (st' := [bI 0]) l145_0 (fun _ => rfl) ?_
  refine b_w (pc' := 2) (lv1 := ax_st1 [(0, .ref 76), (1, bI v1)] 2 (bI 0)) (lv' := [(0, .ref 76), (1, bI v1), (2, bI 0)]) (st' := []) l145_1 (fun _ => rfl) (bSb rfl (bSb rfl (bSb rfl bSn))) ?_
  refine b_s (pc' := 3) (lv1 := [(0, .ref 76), (1, bI v1), (2, bI 0)]) (st' := [.ref 76]) l145_2 (fun _ => rfl) ?_
  refine b_gp (q' := 82) (j := 6) l145_3 (by rfl) (by decide) (by decide) rfl hk rfl rfl (b_pc (pc' := 6) rfl ?_)
  refine b_s (pc' := 7) (lv1 := [(0, .ref 76), (1, bI v1), (2, bI 0)]) (st' := [.ref 76, .ref 82]) l145_6 (fun _ => rfl) ?_
  refine b_s (pc' := 8) (lv1 := [(0, .ref 76), (1, bI v1), (2, bI 0)]) (st' := [bI v1, .ref 76, .ref 82]) l145_7 (fun _ => rfl) ?_
  refine b_cPi l145_8 rfl (b_rc (ci := 9) (by rfl) (by decide) (by decide +kernel)) (Nat.le_of_ble_eq_true rfl) (Nat.le_of_ble_eq_true rfl) rfl (r_X11_at v1 h1) fun w1 hw1 => b_pc (pc' := 11) rfl ?_
  refine b_g fun g2 => ?_
  refine b_ial l145_11 (by rfl) g2 (b_pc (pc' := 12) rfl ?_)
  refine b_w (pc' := 13) (lv1 := ax_st1 [(0, .ref 76), (1, bI v1), (2, bI 0)] 3 (bI (μ 82 w1.toNat))) (lv' := [(0, .ref 76), (2, bI 0), (3, bI (μ 82 w1.toNat))]) (st' := []) l145_12 (fun _ => rfl) (bSb rfl (bSb rfl (bSb rfl bSn))) ?_
  refine bD.wk (lv' := [(0, .ref 76), (2, bI 0), (3, bI (μ 82 w1.toNat))]) (bSb rfl (bSb rfl (bSb rfl bSn))) ?_
  exact p_X11_depth_13 hr (by decide) (bO_i hk (by rfl))
/-! ETModel.entry -/
theorem l146_0 : (ax_dt (ax_T 146)).lookup 0 = some (.aload_n 0, 1, 0, 0, 0) := by decide +kernel
theorem l146_1 : (ax_dt (ax_T 146)).lookup 1 = some (.aload_n 0, 1, 0, 0, 0) := by decide +kernel
theorem l146_2 : (ax_dt (ax_T 146)).lookup 2 = some (.iload_n 1, 1, 0, 0, 0) := by decide +kernel
theorem l146_3 : (ax_dt (ax_T 146)).lookup 3 = some (.invokevirtual 152, 3, 142, 1, 0) := by decide +kernel
theorem l146_6 : (ax_dt (ax_T 146)).lookup 6 = some (.ifCond .ne 7, 3, 0, 0, 0) := by decide +kernel
theorem l146_9 : (ax_dt (ax_T 146)).lookup 9 = some (.iconst 1, 1, 0, 0, 0) := by decide +kernel
theorem l146_10 : (ax_dt (ax_T 146)).lookup 10 = some (.goto 44, 3, 0, 0, 0) := by decide +kernel
theorem l146_13 : (ax_dt (ax_T 146)).lookup 13 = some (.iload_n 2, 1, 0, 0, 0) := by decide +kernel
theorem l146_14 : (ax_dt (ax_T 146)).lookup 14 = some (.invokestatic 144, 3, 140, 1, 0) := by decide +kernel
theorem l146_17 : (ax_dt (ax_T 146)).lookup 17 = some (.ifCond .ne 7, 3, 0, 0, 0) := by decide +kernel
theorem l146_20 : (ax_dt (ax_T 146)).lookup 20 = some (.iconst 2, 1, 0, 0, 0) := by decide +kernel
theorem l146_21 : (ax_dt (ax_T 146)).lookup 21 = some (.goto 33, 3, 0, 0, 0) := by decide +kernel
theorem l146_24 : (ax_dt (ax_T 146)).lookup 24 = some (.aload_n 0, 1, 0, 0, 0) := by decide +kernel
theorem l146_25 : (ax_dt (ax_T 146)).lookup 25 = some (.getfield 13, 3, 9, 4, 0) := by decide +kernel
theorem l146_28 : (ax_dt (ax_T 146)).lookup 28 = some (.aload_n 0, 1, 0, 0, 0) := by decide +kernel
theorem l146_29 : (ax_dt (ax_T 146)).lookup 29 = some (.getfield 137, 3, 9, 3, 0) := by decide +kernel
theorem l146_32 : (ax_dt (ax_T 146)).lookup 32 = some (.iaload, 1, 0, 0, 0) := by decide +kernel
theorem l146_33 : (ax_dt (ax_T 146)).lookup 33 = some (.sipush 400, 3, 0, 0, 0) := by decide +kernel
theorem l146_36 : (ax_dt (ax_T 146)).lookup 36 = some (.if_icmp .eq 13, 3, 0, 0, 0) := by decide +kernel
theorem l146_39 : (ax_dt (ax_T 146)).lookup 39 = some (.aload_n 0, 1, 0, 0, 0) := by decide +kernel
theorem l146_40 : (ax_dt (ax_T 146)).lookup 40 = some (.iload_n 1, 1, 0, 0, 0) := by decide +kernel
theorem l146_41 : (ax_dt (ax_T 146)).lookup 41 = some (.invokevirtual 155, 3, 145, 1, 0) := by decide +kernel
theorem l146_44 : (ax_dt (ax_T 146)).lookup 44 = some (.bipush 30, 2, 0, 0, 0) := by decide +kernel
theorem l146_46 : (ax_dt (ax_T 146)).lookup 46 = some (.if_icmp .ne 7, 3, 0, 0, 0) := by decide +kernel
theorem l146_49 : (ax_dt (ax_T 146)).lookup 49 = some (.iconst 3, 1, 0, 0, 0) := by decide +kernel
theorem l146_50 : (ax_dt (ax_T 146)).lookup 50 = some (.goto 4, 3, 0, 0, 0) := by decide +kernel
theorem l146_53 : (ax_dt (ax_T 146)).lookup 53 = some (.iconst 0, 1, 0, 0, 0) := by decide +kernel
theorem l146_54 : (ax_dt (ax_T 146)).lookup 54 = some (.putfield 120, 3, 9, 0, 0) := by decide +kernel
theorem l146_57 : (ax_dt (ax_T 146)).lookup 57 = some (.aload_n 0, 1, 0, 0, 0) := by decide +kernel
theorem l146_58 : (ax_dt (ax_T 146)).lookup 58 = some (.getfield 120, 3, 9, 0, 0) := by decide +kernel
theorem l146_61 : (ax_dt (ax_T 146)).lookup 61 = some (.ifCond .le 5, 3, 0, 0, 0) := by decide +kernel
theorem l146_64 : (ax_dt (ax_T 146)).lookup 64 = some (.iconst 0, 1, 0, 0, 0) := by decide +kernel
theorem l146_65 : (ax_dt (ax_T 146)).lookup 65 = some (.ireturn, 1, 0, 0, 0) := by decide +kernel
theorem l146_66 : (ax_dt (ax_T 146)).lookup 66 = some (.aload_n 0, 1, 0, 0, 0) := by decide +kernel
theorem l146_67 : (ax_dt (ax_T 146)).lookup 67 = some (.iload_n 2, 1, 0, 0, 0) := by decide +kernel
theorem l146_68 : (ax_dt (ax_T 146)).lookup 68 = some (.iload_n 1, 1, 0, 0, 0) := by decide +kernel
theorem l146_69 : (ax_dt (ax_T 146)).lookup 69 = some (.aload_n 0, 1, 0, 0, 0) := by decide +kernel
theorem l146_70 : (ax_dt (ax_T 146)).lookup 70 = some (.getfield 29, 3, 9, 9, 0) := by decide +kernel
theorem l146_73 : (ax_dt (ax_T 146)).lookup 73 = some (.aload_n 0, 1, 0, 0, 0) := by decide +kernel
theorem l146_74 : (ax_dt (ax_T 146)).lookup 74 = some (.iload_n 1, 1, 0, 0, 0) := by decide +kernel
theorem l146_75 : (ax_dt (ax_T 146)).lookup 75 = some (.invokevirtual 140, 3, 141, 1, 0) := by decide +kernel
theorem l146_78 : (ax_dt (ax_T 146)).lookup 78 = some (.iaload, 1, 0, 0, 0) := by decide +kernel
theorem l146_79 : (ax_dt (ax_T 146)).lookup 79 = some (.invokevirtual 148, 3, 143, 3, 0) := by decide +kernel
theorem l146_82 : (ax_dt (ax_T 146)).lookup 82 = some (.ireturn, 1, 0, 0, 0) := by decide +kernel
noncomputable def F_X11_entry_54 (v1 : Int) (v2 : Int) (y1 : Int) (μ : bM) : Option (Int × bM) := if ((bset μ 76 0 y1) 76 0) ≤ 0 then (F_X11_at v1 (bset μ 76 0 y1)).bind fun w3 => bG (0 ≤ w3 ∧ w3 < 800) (bMm (F_X11_make v2 v1 ((bset μ 76 0 y1) 83 w3.toNat) (bset μ 76 0 y1)) (fun w4 μ5 => some (w4, μ5))) else some (0, (bset μ 76 0 y1))
noncomputable def F_X11_entry_49 (v1 : Int) (v2 : Int) (μ : bM) : Option (Int × bM) := F_X11_entry_54 v1 v2 3 μ
noncomputable def F_X11_entry (v1 : Int) (v2 : Int) (μ : bM) : Option (Int × bM) := (F_X11_isEntry v1 μ).bind fun w1 => if ¬ w1 = 0 then (F_X11_isName v2 μ).bind fun w3 => if ¬ w3 = 0 then bG (0 ≤ (μ 76 3) ∧ (μ 76 3) < 2) (if (μ 78 (μ 76 3).toNat) = 400 then F_X11_entry_49 v1 v2 μ else (F_X11_depth v1 μ).bind fun w6 => if ¬ w6 = 30 then F_X11_entry_54 v1 v2 0 μ else F_X11_entry_49 v1 v2 μ) else F_X11_entry_54 v1 v2 2 μ else F_X11_entry_54 v1 v2 1 μ
theorem p_X11_entry_54 {L : Nat} {xs : Nat → Int32} {d : Nat} {μ : bM}  {κ : (Int × bM) → Option bX} (hr : ∀ r : Int × bM, κ r = (bMc) r)  {v1 : Int} (h1 : bR v1) {v2 : Int} (h2 : bR v2) {y1 : Int} (hy1 : bR y1) : bD L xs (d + 2) 146 54 [(0, .ref 76), (1, bI v1), (2, bI v2)] [bI y1, .ref 76] μ ((F_X11_entry_54 v1 v2 y1 μ).bind κ) := by
  unfold F_X11_entry_54
  refine bD.ok fun hk => ?_
  refine b_pi l146_54 (by rfl) (by decide) (by decide) rfl rfl hy1 (bD.ok fun hk1 => b_pc (pc' := 57) rfl ?_)
  refine b_s (pc' := 58) (lv1 := [(0, .ref 76), (1, bI v1), (2, bI v2)]) (st' := [.ref 76]) l146_57 (fun _ => rfl) ?_
  refine b_gi l146_58 (by rfl) (by decide) (by decide) rfl (b_pc (pc' := 61) rfl ?_)
  refine b_zle (pt := 66) l146_61 (bO_f hk1 (ci := 9) (by rfl) rfl) (by decide) rfl (fun c2 => ?_) (fun c2 => b_pc (pc' := 64) rfl ?_)
  · refine b_s (pc' := 67) (lv1 := [(0, .ref 76), (1, bI v1), (2, bI v2)]) (st' := [.ref 76]) l146_66 (fun _ => rfl) ?_
    refine b_s (pc' := 68) (lv1 := [(0, .ref 76), (1, bI v1), (2, bI v2)]) (st' := [bI v2, .ref 76]) l146_67 (fun _ => rfl) ?_
    refine b_s (pc' := 69) (lv1 := [(0, .ref 76), (1, bI v1), (2, bI v2)]) (st' := [bI v1, bI v2, .ref 76]) l146_68 (fun _ => rfl) ?_
    refine b_s (pc' := 70) (lv1 := [(0, .ref 76), (1, bI v1), (2, bI v2)]) (st' := [.ref 76, bI v1, bI v2, .ref 76]) l146_69 (fun _ => rfl) ?_
    refine b_gp (q' := 83) (j := 7) l146_70 (by rfl) (by decide) (by decide) rfl hk1 rfl rfl (b_pc (pc' := 73) rfl ?_)
    refine b_s (pc' := 74) (lv1 := [(0, .ref 76), (1, bI v1), (2, bI v2)]) (st' := [.ref 76, .ref 83, bI v1, bI v2, .ref 76]) l146_73 (fun _ => rfl) ?_
    refine b_s (pc' := 75) (lv1 := [(0, .ref 76), (1, bI v1), (2, bI v2)]) (st' := [bI v1, .ref 76, .ref 83, bI v1, bI v2, .ref 76]) l146_74 (fun _ => rfl) ?_
    refine b_cPi l146_75 rfl (b_rc (ci := 9) (by rfl) (by decide) (by decide +kernel)) (Nat.le_of_ble_eq_true rfl) (Nat.le_of_ble_eq_true rfl) rfl (r_X11_at v1 h1) fun w3 hw3 => b_pc (pc' := 78) rfl ?_
    refine b_g fun g7 => ?_
    refine b_ial l146_78 (by rfl) g7 (b_pc (pc' := 79) rfl ?_)
    refine b_cMi l146_79 rfl (b_rc (ci := 9) (by rfl) (by decide) (by decide +kernel)) (Nat.le_of_ble_eq_true rfl) (Nat.le_of_ble_eq_true rfl) rfl (r_X11_make v2 h2 v1 h1 ((bset μ 76 0 y1) 83 w3.toNat) (bO_i hk1 (by rfl))) fun w4 μ5 hw4 => bD.ok fun hk6 => b_pc (pc' := 82) rfl ?_
    exact b_reti l146_82 rfl hw4 (hr _)
  · refine b_s (pc' := 65) (lv1 := [(0, .ref 76), (1, bI v1), (2, bI v2)]) (st' := [bI 0]) l146_64 (fun _ => rfl) ?_
    exact b_reti l146_65 rfl (by decide) (hr _)
theorem p_X11_entry_49 {L : Nat} {xs : Nat → Int32} {d : Nat} {μ : bM}  {κ : (Int × bM) → Option bX} (hr : ∀ r : Int × bM, κ r = (bMc) r)  {v1 : Int} (h1 : bR v1) {v2 : Int} (h2 : bR v2) : bD L xs (d + 2) 146 49 [(0, .ref 76), (1, bI v1), (2, bI v2)] [.ref 76] μ ((F_X11_entry_49 v1 v2 μ).bind κ) := by
  unfold F_X11_entry_49
  refine bD.ok fun hk => ?_
  refine b_s (pc' := 50) (lv1 := [(0, .ref 76), (1, bI v1), (2, bI v2)]) (st' := [bI 3, .ref 76]) l146_49 (fun _ => rfl) ?_
  refine b_s (pc' := 54) (lv1 := [(0, .ref 76), (1, bI v1), (2, bI v2)]) (st' := [bI 3, .ref 76]) l146_50 (fun _ => rfl) ?_
  refine bD.wk (lv' := [(0, .ref 76), (1, bI v1), (2, bI v2)]) (bSb rfl (bSb rfl (bSb rfl bSn))) ?_
  exact p_X11_entry_54 hr h1 h2 (by decide)
theorem r_X11_entry {L : Nat} {xs : Nat → Int32} {d : Nat} {μ : bM}  (v1 : Int) (h1 : bR v1) (v2 : Int) (h2 : bR v2) : bD L xs (d + 2) 146 0 [(0, .ref 76), (1, bI v1), (2, bI v2)] [] μ ((F_X11_entry v1 v2 μ).bind (bMc)) := by
  have hr : ∀ r, (bMc) r = (bMc) r := fun _ => rfl
  unfold F_X11_entry
  refine bD.ok fun hk => ?_
  refine b_s (pc' := 1) (lv1 := [(0, .ref 76), (1, bI v1), (2, bI v2)]) (st' := [.ref 76]) l146_0 (fun _ => rfl) ?_
  refine b_s (pc' := 2) (lv1 := [(0, .ref 76), (1, bI v1), (2, bI v2)]) (st' := [.ref 76, .ref 76]) l146_1 (fun _ => rfl) ?_
  refine b_s (pc' := 3) (lv1 := [(0, .ref 76), (1, bI v1), (2, bI v2)]) (st' := [bI v1, .ref 76, .ref 76]) l146_2 (fun _ => rfl) ?_
  refine b_cPz l146_3 rfl (b_rc (ci := 9) (by rfl) (by decide) (by decide +kernel)) (Nat.le_of_ble_eq_true rfl) (Nat.le_of_ble_eq_true rfl) rfl (r_X11_isEntry v1 h1) fun w1 hw1 => b_pc (pc' := 6) rfl ?_
  refine b_zne (pt := 13) l146_6 (bZ_R hw1) (by decide) rfl (fun c2 => ?_) (fun c2 => b_pc (pc' := 9) rfl ?_)
  · refine b_s (pc' := 14) (lv1 := [(0, .ref 76), (1, bI v1), (2, bI v2)]) (st' := [bI v2, .ref 76]) l146_13 (fun _ => rfl) ?_
    refine b_cPz l146_14 rfl (fun _ => trivial) (Nat.le_of_ble_eq_true rfl) (Nat.le_of_ble_eq_true rfl) rfl (r_X11_isName v2 h2) fun w3 hw3 => b_pc (pc' := 17) rfl ?_
    refine b_zne (pt := 24) l146_17 (bZ_R hw3) (by decide) rfl (fun c4 => ?_) (fun c4 => b_pc (pc' := 20) rfl ?_)
    · refine b_s (pc' := 25) (lv1 := [(0, .ref 76), (1, bI v1), (2, bI v2)]) (st' := [.ref 76, .ref 76]) l146_24 (fun _ => rfl) ?_
      refine b_gp (q' := 78) (j := 2) l146_25 (by rfl) (by decide) (by decide) rfl hk rfl rfl (b_pc (pc' := 28) rfl ?_)
      refine b_s (pc' := 29) (lv1 := [(0, .ref 76), (1, bI v1), (2, bI v2)]) (st' := [.ref 76, .ref 78, .ref 76]) l146_28 (fun _ => rfl) ?_
      refine b_gi l146_29 (by rfl) (by decide) (by decide) rfl (b_pc (pc' := 32) rfl ?_)
      refine b_g fun g8 => ?_
      refine b_ial l146_32 (by rfl) g8 (b_pc (pc' := 33) rfl ?_)
      refine b_sipush l146_33 (by decide) (b_pc (pc' := 36) rfl ?_)
      refine b_ieq (pt := 49) l146_36 (bO_i hk (by rfl)) (by decide) (by decide) rfl (fun c5 => ?_) (fun c5 => b_pc (pc' := 39) rfl ?_)
      · refine bD.wk (lv' := [(0, .ref 76), (1, bI v1), (2, bI v2)]) (bSb rfl (bSb rfl (bSb rfl bSn))) ?_
        exact p_X11_entry_49 hr h1 h2
      · refine b_s (pc' := 40) (lv1 := [(0, .ref 76), (1, bI v1), (2, bI v2)]) (st' := [.ref 76, .ref 76]) l146_39 (fun _ => rfl) ?_
        refine b_s (pc' := 41) (lv1 := [(0, .ref 76), (1, bI v1), (2, bI v2)]) (st' := [bI v1, .ref 76, .ref 76]) l146_40 (fun _ => rfl) ?_
        refine b_cPi l146_41 rfl (b_rc (ci := 9) (by rfl) (by decide) (by decide +kernel)) (Nat.le_of_ble_eq_true rfl) (Nat.le_of_ble_eq_true rfl) rfl (r_X11_depth v1 h1) fun w6 hw6 => b_pc (pc' := 44) rfl ?_
        refine b_bipush l146_44 (by decide) (b_pc (pc' := 46) rfl ?_)
        refine b_ine (pt := 53) l146_46 hw6 (by decide) (by decide) rfl (fun c7 => ?_) (fun c7 => b_pc (pc' := 49) rfl ?_)
        · refine b_s (pc' := 54) (lv1 := [(0, .ref 76), (1, bI v1), (2, bI v2)]) (st' := [bI 0, .ref 76]) l146_53 (fun _ => rfl) ?_
          refine bD.wk (lv' := [(0, .ref 76), (1, bI v1), (2, bI v2)]) (bSb rfl (bSb rfl (bSb rfl bSn))) ?_
          exact p_X11_entry_54 hr h1 h2 (by decide)
        · refine bD.wk (lv' := [(0, .ref 76), (1, bI v1), (2, bI v2)]) (bSb rfl (bSb rfl (bSb rfl bSn))) ?_
          exact p_X11_entry_49 hr h1 h2
    · refine b_s (pc' := 21) (lv1 := [(0, .ref 76), (1, bI v1), (2, bI v2)]) (st' := [bI 2, .ref 76]) l146_20 (fun _ => rfl) ?_
      refine b_s (pc' := 54) (lv1 := [(0, .ref 76), (1, bI v1), (2, bI v2)]) (st' := [bI 2, .ref 76]) l146_21 (fun _ => rfl) ?_
      refine bD.wk (lv' := [(0, .ref 76), (1, bI v1), (2, bI v2)]) (bSb rfl (bSb rfl (bSb rfl bSn))) ?_
      exact p_X11_entry_54 hr h1 h2 (by decide)
  · refine b_s (pc' := 10) (lv1 := [(0, .ref 76), (1, bI v1), (2, bI v2)]) (st' := [bI 1, .ref 76]) l146_9 (fun _ => rfl) ?_
    refine b_s (pc' := 54) (lv1 := [(0, .ref 76), (1, bI v1), (2, bI v2)]) (st' := [bI 1, .ref 76]) l146_10 (fun _ => rfl) ?_
    refine bD.wk (lv' := [(0, .ref 76), (1, bI v1), (2, bI v2)]) (bSb rfl (bSb rfl (bSb rfl bSn))) ?_
    exact p_X11_entry_54 hr h1 h2 (by decide)
/-! ETModel.isNumber -/
theorem l147_0 : (ax_dt (ax_T 147)).lookup 0 = some (.iload_n 0, 1, 0, 0, 0) := by decide +kernel
theorem l147_1 : (ax_dt (ax_T 147)).lookup 1 = some (.iconst 5, 1, 0, 0, 0) := by decide +kernel
theorem l147_2 : (ax_dt (ax_T 147)).lookup 2 = some (.if_icmp .eq 45, 3, 0, 0, 0) := by decide +kernel
theorem l147_5 : (ax_dt (ax_T 147)).lookup 5 = some (.iload_n 0, 1, 0, 0, 0) := by decide +kernel
theorem l147_6 : (ax_dt (ax_T 147)).lookup 6 = some (.bipush 6, 2, 0, 0, 0) := by decide +kernel
theorem l147_8 : (ax_dt (ax_T 147)).lookup 8 = some (.if_icmp .eq 39, 3, 0, 0, 0) := by decide +kernel
theorem l147_11 : (ax_dt (ax_T 147)).lookup 11 = some (.iload_n 0, 1, 0, 0, 0) := by decide +kernel
theorem l147_12 : (ax_dt (ax_T 147)).lookup 12 = some (.bipush 7, 2, 0, 0, 0) := by decide +kernel
theorem l147_14 : (ax_dt (ax_T 147)).lookup 14 = some (.if_icmp .eq 33, 3, 0, 0, 0) := by decide +kernel
theorem l147_17 : (ax_dt (ax_T 147)).lookup 17 = some (.iload_n 0, 1, 0, 0, 0) := by decide +kernel
theorem l147_18 : (ax_dt (ax_T 147)).lookup 18 = some (.bipush 11, 2, 0, 0, 0) := by decide +kernel
theorem l147_20 : (ax_dt (ax_T 147)).lookup 20 = some (.if_icmp .eq 27, 3, 0, 0, 0) := by decide +kernel
theorem l147_23 : (ax_dt (ax_T 147)).lookup 23 = some (.iload_n 0, 1, 0, 0, 0) := by decide +kernel
theorem l147_24 : (ax_dt (ax_T 147)).lookup 24 = some (.bipush 12, 2, 0, 0, 0) := by decide +kernel
theorem l147_26 : (ax_dt (ax_T 147)).lookup 26 = some (.if_icmp .eq 21, 3, 0, 0, 0) := by decide +kernel
theorem l147_29 : (ax_dt (ax_T 147)).lookup 29 = some (.iload_n 0, 1, 0, 0, 0) := by decide +kernel
theorem l147_30 : (ax_dt (ax_T 147)).lookup 30 = some (.bipush 13, 2, 0, 0, 0) := by decide +kernel
theorem l147_32 : (ax_dt (ax_T 147)).lookup 32 = some (.if_icmp .eq 15, 3, 0, 0, 0) := by decide +kernel
theorem l147_35 : (ax_dt (ax_T 147)).lookup 35 = some (.iload_n 0, 1, 0, 0, 0) := by decide +kernel
theorem l147_36 : (ax_dt (ax_T 147)).lookup 36 = some (.bipush 15, 2, 0, 0, 0) := by decide +kernel
theorem l147_38 : (ax_dt (ax_T 147)).lookup 38 = some (.if_icmp .eq 9, 3, 0, 0, 0) := by decide +kernel
theorem l147_41 : (ax_dt (ax_T 147)).lookup 41 = some (.iload_n 0, 1, 0, 0, 0) := by decide +kernel
theorem l147_42 : (ax_dt (ax_T 147)).lookup 42 = some (.bipush 25, 2, 0, 0, 0) := by decide +kernel
theorem l147_44 : (ax_dt (ax_T 147)).lookup 44 = some (.if_icmp .ne 7, 3, 0, 0, 0) := by decide +kernel
theorem l147_47 : (ax_dt (ax_T 147)).lookup 47 = some (.iconst 1, 1, 0, 0, 0) := by decide +kernel
theorem l147_48 : (ax_dt (ax_T 147)).lookup 48 = some (.goto 4, 3, 0, 0, 0) := by decide +kernel
theorem l147_51 : (ax_dt (ax_T 147)).lookup 51 = some (.iconst 0, 1, 0, 0, 0) := by decide +kernel
theorem l147_52 : (ax_dt (ax_T 147)).lookup 52 = some (.ireturn, 1, 0, 0, 0) := by decide +kernel
noncomputable def F_X11_isNumber (v0 : Int) (μ : bM) : Option (Int) := if v0 = 5 then some (1) else if v0 = 6 then some (1) else if v0 = 7 then some (1) else if v0 = 11 then some (1) else if v0 = 12 then some (1) else if v0 = 13 then some (1) else if v0 = 15 then some (1) else if ¬ v0 = 25 then some (0) else some (1)
theorem r_X11_isNumber {L : Nat} {xs : Nat → Int32} {d : Nat} {μ : bM}  (v0 : Int) (h0 : bR v0) : bD L xs (d + 0) 147 0 [(0, bI v0)] [] μ ((F_X11_isNumber v0 μ).bind (bPc μ)) := by
  have hr : ∀ r, (bPc μ) r = (bPc μ) r := fun _ => rfl
  unfold F_X11_isNumber
  refine bD.ok fun hk => ?_
  refine b_s (pc' := 1) (lv1 := [(0, bI v0)]) (st' := [bI v0]) l147_0 (fun _ => rfl) ?_
  refine b_s (pc' := 2) (lv1 := [(0, bI v0)]) (st' := [bI 5, bI v0]) l147_1 (fun _ => rfl) ?_
  refine b_ieq (pt := 47) l147_2 h0 (by decide) (by decide) rfl (fun c1 => ?_) (fun c1 => b_pc (pc' := 5) rfl ?_)
  · refine b_s (pc' := 48) (lv1 := [(0, bI v0)]) (st' := [bI 1]) l147_47 (fun _ => rfl) ?_
    refine b_s (pc' := 52) (lv1 := [(0, bI v0)]) (st' := [bI 1]) l147_48 (fun _ => rfl) ?_
    exact b_retz l147_52 rfl (by decide) (hr _)
  · refine b_s (pc' := 6) (lv1 := [(0, bI v0)]) (st' := [bI v0]) l147_5 (fun _ => rfl) ?_
    refine b_bipush l147_6 (by decide) (b_pc (pc' := 8) rfl ?_)
    refine b_ieq (pt := 47) l147_8 h0 (by decide) (by decide) rfl (fun c2 => ?_) (fun c2 => b_pc (pc' := 11) rfl ?_)
    · refine b_s (pc' := 48) (lv1 := [(0, bI v0)]) (st' := [bI 1]) l147_47 (fun _ => rfl) ?_
      refine b_s (pc' := 52) (lv1 := [(0, bI v0)]) (st' := [bI 1]) l147_48 (fun _ => rfl) ?_
      exact b_retz l147_52 rfl (by decide) (hr _)
    · refine b_s (pc' := 12) (lv1 := [(0, bI v0)]) (st' := [bI v0]) l147_11 (fun _ => rfl) ?_
      refine b_bipush l147_12 (by decide) (b_pc (pc' := 14) rfl ?_)
      refine b_ieq (pt := 47) l147_14 h0 (by decide) (by decide) rfl (fun c3 => ?_) (fun c3 => b_pc (pc' := 17) rfl ?_)
      · refine b_s (pc' := 48) (lv1 := [(0, bI v0)]) (st' := [bI 1]) l147_47 (fun _ => rfl) ?_
        refine b_s (pc' := 52) (lv1 := [(0, bI v0)]) (st' := [bI 1]) l147_48 (fun _ => rfl) ?_
        exact b_retz l147_52 rfl (by decide) (hr _)
      · refine b_s (pc' := 18) (lv1 := [(0, bI v0)]) (st' := [bI v0]) l147_17 (fun _ => rfl) ?_
        refine b_bipush l147_18 (by decide) (b_pc (pc' := 20) rfl ?_)
        refine b_ieq (pt := 47) l147_20 h0 (by decide) (by decide) rfl (fun c4 => ?_) (fun c4 => b_pc (pc' := 23) rfl ?_)
        · refine b_s (pc' := 48) (lv1 := [(0, bI v0)]) (st' := [bI 1]) l147_47 (fun _ => rfl) ?_
          refine b_s (pc' := 52) (lv1 := [(0, bI v0)]) (st' := [bI 1]) l147_48 (fun _ => rfl) ?_
          exact b_retz l147_52 rfl (by decide) (hr _)
        · refine b_s (pc' := 24) (lv1 := [(0, bI v0)]) (st' := [bI v0]) l147_23 (fun _ => rfl) ?_
          refine b_bipush l147_24 (by decide) (b_pc (pc' := 26) rfl ?_)
          refine b_ieq (pt := 47) l147_26 h0 (by decide) (by decide) rfl (fun c5 => ?_) (fun c5 => b_pc (pc' := 29) rfl ?_)
          · refine b_s (pc' := 48) (lv1 := [(0, bI v0)]) (st' := [bI 1]) l147_47 (fun _ => rfl) ?_
            refine b_s (pc' := 52) (lv1 := [(0, bI v0)]) (st' := [bI 1]) l147_48 (fun _ => rfl) ?_
            exact b_retz l147_52 rfl (by decide) (hr _)
          · refine b_s (pc' := 30) (lv1 := [(0, bI v0)]) (st' := [bI v0]) l147_29 (fun _ => rfl) ?_
            refine b_bipush l147_30 (by decide) (b_pc (pc' := 32) rfl ?_)
            refine b_ieq (pt := 47) l147_32 h0 (by decide) (by decide) rfl (fun c6 => ?_) (fun c6 => b_pc (pc' := 35) rfl ?_)
            · refine b_s (pc' := 48) (lv1 := [(0, bI v0)]) (st' := [bI 1]) l147_47 (fun _ => rfl) ?_
              refine b_s (pc' := 52) (lv1 := [(0, bI v0)]) (st' := [bI 1]) l147_48 (fun _ => rfl) ?_
              exact b_retz l147_52 rfl (by decide) (hr _)
            · refine b_s (pc' := 36) (lv1 := [(0, bI v0)]) (st' := [bI v0]) l147_35 (fun _ => rfl) ?_
              refine b_bipush l147_36 (by decide) (b_pc (pc' := 38) rfl ?_)
              refine b_ieq (pt := 47) l147_38 h0 (by decide) (by decide) rfl (fun c7 => ?_) (fun c7 => b_pc (pc' := 41) rfl ?_)
              · refine b_s (pc' := 48) (lv1 := [(0, bI v0)]) (st' := [bI 1]) l147_47 (fun _ => rfl) ?_
                refine b_s (pc' := 52) (lv1 := [(0, bI v0)]) (st' := [bI 1]) l147_48 (fun _ => rfl) ?_
                exact b_retz l147_52 rfl (by decide) (hr _)
              · refine b_s (pc' := 42) (lv1 := [(0, bI v0)]) (st' := [bI v0]) l147_41 (fun _ => rfl) ?_
                refine b_bipush l147_42 (by decide) (b_pc (pc' := 44) rfl ?_)
                refine b_ine (pt := 51) l147_44 h0 (by decide) (by decide) rfl (fun c8 => ?_) (fun c8 => b_pc (pc' := 47) rfl ?_)
                · refine b_s (pc' := 52) (lv1 := [(0, bI v0)]) (st' := [bI 0]) l147_51 (fun _ => rfl) ?_
                  exact b_retz l147_52 rfl (by decide) (hr _)
                · refine b_s (pc' := 48) (lv1 := [(0, bI v0)]) (st' := [bI 1]) l147_47 (fun _ => rfl) ?_
                  refine b_s (pc' := 52) (lv1 := [(0, bI v0)]) (st' := [bI 1]) l147_48 (fun _ => rfl) ?_
                  exact b_retz l147_52 rfl (by decide) (hr _)
/-! ETModel.isText -/
theorem l148_0 : (ax_dt (ax_T 148)).lookup 0 = some (.iload_n 0, 1, 0, 0, 0) := by decide +kernel
theorem l148_1 : (ax_dt (ax_T 148)).lookup 1 = some (.bipush 8, 2, 0, 0, 0) := by decide +kernel
theorem l148_3 : (ax_dt (ax_T 148)).lookup 3 = some (.if_icmp .eq 9, 3, 0, 0, 0) := by decide +kernel
theorem l148_6 : (ax_dt (ax_T 148)).lookup 6 = some (.iload_n 0, 1, 0, 0, 0) := by decide +kernel
theorem l148_7 : (ax_dt (ax_T 148)).lookup 7 = some (.bipush 14, 2, 0, 0, 0) := by decide +kernel
theorem l148_9 : (ax_dt (ax_T 148)).lookup 9 = some (.if_icmp .ne 7, 3, 0, 0, 0) := by decide +kernel
theorem l148_12 : (ax_dt (ax_T 148)).lookup 12 = some (.iconst 1, 1, 0, 0, 0) := by decide +kernel
theorem l148_13 : (ax_dt (ax_T 148)).lookup 13 = some (.goto 4, 3, 0, 0, 0) := by decide +kernel
theorem l148_16 : (ax_dt (ax_T 148)).lookup 16 = some (.iconst 0, 1, 0, 0, 0) := by decide +kernel
theorem l148_17 : (ax_dt (ax_T 148)).lookup 17 = some (.ireturn, 1, 0, 0, 0) := by decide +kernel
noncomputable def F_X11_isText (v0 : Int) (μ : bM) : Option (Int) := if v0 = 8 then some (1) else if ¬ v0 = 14 then some (0) else some (1)
theorem r_X11_isText {L : Nat} {xs : Nat → Int32} {d : Nat} {μ : bM}  (v0 : Int) (h0 : bR v0) : bD L xs (d + 0) 148 0 [(0, bI v0)] [] μ ((F_X11_isText v0 μ).bind (bPc μ)) := by
  have hr : ∀ r, (bPc μ) r = (bPc μ) r := fun _ => rfl
  unfold F_X11_isText
  refine bD.ok fun hk => ?_
  refine b_s (pc' := 1) (lv1 := [(0, bI v0)]) (st' := [bI v0]) l148_0 (fun _ => rfl) ?_
  refine b_bipush l148_1 (by decide) (b_pc (pc' := 3) rfl ?_)
  refine b_ieq (pt := 12) l148_3 h0 (by decide) (by decide) rfl (fun c1 => ?_) (fun c1 => b_pc (pc' := 6) rfl ?_)
  · refine b_s (pc' := 13) (lv1 := [(0, bI v0)]) (st' := [bI 1]) l148_12 (fun _ => rfl) ?_
    refine b_s (pc' := 17) (lv1 := [(0, bI v0)]) (st' := [bI 1]) l148_13 (fun _ => rfl) ?_
    exact b_retz l148_17 rfl (by decide) (hr _)
  · refine b_s (pc' := 7) (lv1 := [(0, bI v0)]) (st' := [bI v0]) l148_6 (fun _ => rfl) ?_
    refine b_bipush l148_7 (by decide) (b_pc (pc' := 9) rfl ?_)
    refine b_ine (pt := 16) l148_9 h0 (by decide) (by decide) rfl (fun c2 => ?_) (fun c2 => b_pc (pc' := 12) rfl ?_)
    · refine b_s (pc' := 17) (lv1 := [(0, bI v0)]) (st' := [bI 0]) l148_16 (fun _ => rfl) ?_
      exact b_retz l148_17 rfl (by decide) (hr _)
    · refine b_s (pc' := 13) (lv1 := [(0, bI v0)]) (st' := [bI 1]) l148_12 (fun _ => rfl) ?_
      refine b_s (pc' := 17) (lv1 := [(0, bI v0)]) (st' := [bI 1]) l148_13 (fun _ => rfl) ?_
      exact b_retz l148_17 rfl (by decide) (hr _)
/-! ETModel.isReference -/
theorem l149_0 : (ax_dt (ax_T 149)).lookup 0 = some (.iload_n 0, 1, 0, 0, 0) := by decide +kernel
theorem l149_1 : (ax_dt (ax_T 149)).lookup 1 = some (.bipush 19, 2, 0, 0, 0) := by decide +kernel
theorem l149_3 : (ax_dt (ax_T 149)).lookup 3 = some (.if_icmp .eq 9, 3, 0, 0, 0) := by decide +kernel
theorem l149_6 : (ax_dt (ax_T 149)).lookup 6 = some (.iload_n 0, 1, 0, 0, 0) := by decide +kernel
theorem l149_7 : (ax_dt (ax_T 149)).lookup 7 = some (.bipush 21, 2, 0, 0, 0) := by decide +kernel
theorem l149_9 : (ax_dt (ax_T 149)).lookup 9 = some (.if_icmp .ne 7, 3, 0, 0, 0) := by decide +kernel
theorem l149_12 : (ax_dt (ax_T 149)).lookup 12 = some (.iconst 1, 1, 0, 0, 0) := by decide +kernel
theorem l149_13 : (ax_dt (ax_T 149)).lookup 13 = some (.goto 4, 3, 0, 0, 0) := by decide +kernel
theorem l149_16 : (ax_dt (ax_T 149)).lookup 16 = some (.iconst 0, 1, 0, 0, 0) := by decide +kernel
theorem l149_17 : (ax_dt (ax_T 149)).lookup 17 = some (.ireturn, 1, 0, 0, 0) := by decide +kernel
noncomputable def F_X11_isReference (v0 : Int) (μ : bM) : Option (Int) := if v0 = 19 then some (1) else if ¬ v0 = 21 then some (0) else some (1)
theorem r_X11_isReference {L : Nat} {xs : Nat → Int32} {d : Nat} {μ : bM}  (v0 : Int) (h0 : bR v0) : bD L xs (d + 0) 149 0 [(0, bI v0)] [] μ ((F_X11_isReference v0 μ).bind (bPc μ)) := by
  have hr : ∀ r, (bPc μ) r = (bPc μ) r := fun _ => rfl
  unfold F_X11_isReference
  refine bD.ok fun hk => ?_
  refine b_s (pc' := 1) (lv1 := [(0, bI v0)]) (st' := [bI v0]) l149_0 (fun _ => rfl) ?_
  refine b_bipush l149_1 (by decide) (b_pc (pc' := 3) rfl ?_)
  refine b_ieq (pt := 12) l149_3 h0 (by decide) (by decide) rfl (fun c1 => ?_) (fun c1 => b_pc (pc' := 6) rfl ?_)
  · refine b_s (pc' := 13) (lv1 := [(0, bI v0)]) (st' := [bI 1]) l149_12 (fun _ => rfl) ?_
    refine b_s (pc' := 17) (lv1 := [(0, bI v0)]) (st' := [bI 1]) l149_13 (fun _ => rfl) ?_
    exact b_retz l149_17 rfl (by decide) (hr _)
  · refine b_s (pc' := 7) (lv1 := [(0, bI v0)]) (st' := [bI v0]) l149_6 (fun _ => rfl) ?_
    refine b_bipush l149_7 (by decide) (b_pc (pc' := 9) rfl ?_)
    refine b_ine (pt := 16) l149_9 h0 (by decide) (by decide) rfl (fun c2 => ?_) (fun c2 => b_pc (pc' := 12) rfl ?_)
    · refine b_s (pc' := 17) (lv1 := [(0, bI v0)]) (st' := [bI 0]) l149_16 (fun _ => rfl) ?_
      exact b_retz l149_17 rfl (by decide) (hr _)
    · refine b_s (pc' := 13) (lv1 := [(0, bI v0)]) (st' := [bI 1]) l149_12 (fun _ => rfl) ?_
      refine b_s (pc' := 17) (lv1 := [(0, bI v0)]) (st' := [bI 1]) l149_13 (fun _ => rfl) ?_
      exact b_retz l149_17 rfl (by decide) (hr _)
/-! ETModel.isForm -/
theorem l150_0 : (ax_dt (ax_T 150)).lookup 0 = some (.lload_n 0, 1, 0, 0, 0) := by decide +kernel
theorem l150_1 : (ax_dt (ax_T 150)).lookup 1 = some (.lconst 0, 1, 0, 0, 0) := by decide +kernel
theorem l150_2 : (ax_dt (ax_T 150)).lookup 2 = some (.ldc2_w 158, 3, 0, 0, 30) := by decide +kernel
theorem l150_5 : (ax_dt (ax_T 150)).lookup 5 = some (.invokestatic 131, 3, 134, 3, 0) := by decide +kernel
theorem l150_8 : (ax_dt (ax_T 150)).lookup 8 = some (.ifCond .eq 39, 3, 0, 0, 0) := by decide +kernel
theorem l150_11 : (ax_dt (ax_T 150)).lookup 11 = some (.lload_n 0, 1, 0, 0, 0) := by decide +kernel
theorem l150_12 : (ax_dt (ax_T 150)).lookup 12 = some (.l2i, 1, 0, 0, 0) := by decide +kernel
theorem l150_13 : (ax_dt (ax_T 150)).lookup 13 = some (.invokestatic 160, 3, 147, 1, 0) := by decide +kernel
theorem l150_16 : (ax_dt (ax_T 150)).lookup 16 = some (.ifCond .ne 27, 3, 0, 0, 0) := by decide +kernel
theorem l150_19 : (ax_dt (ax_T 150)).lookup 19 = some (.lload_n 0, 1, 0, 0, 0) := by decide +kernel
theorem l150_20 : (ax_dt (ax_T 150)).lookup 20 = some (.l2i, 1, 0, 0, 0) := by decide +kernel
theorem l150_21 : (ax_dt (ax_T 150)).lookup 21 = some (.invokestatic 163, 3, 148, 1, 0) := by decide +kernel
theorem l150_24 : (ax_dt (ax_T 150)).lookup 24 = some (.ifCond .ne 19, 3, 0, 0, 0) := by decide +kernel
theorem l150_27 : (ax_dt (ax_T 150)).lookup 27 = some (.lload_n 0, 1, 0, 0, 0) := by decide +kernel
theorem l150_28 : (ax_dt (ax_T 150)).lookup 28 = some (.ldc2_w 166, 3, 0, 0, 10) := by decide +kernel
theorem l150_31 : (ax_dt (ax_T 150)).lookup 31 = some (.lcmp, 1, 0, 0, 0) := by decide +kernel
theorem l150_32 : (ax_dt (ax_T 150)).lookup 32 = some (.ifCond .eq 11, 3, 0, 0, 0) := by decide +kernel
theorem l150_35 : (ax_dt (ax_T 150)).lookup 35 = some (.lload_n 0, 1, 0, 0, 0) := by decide +kernel
theorem l150_36 : (ax_dt (ax_T 150)).lookup 36 = some (.l2i, 1, 0, 0, 0) := by decide +kernel
theorem l150_37 : (ax_dt (ax_T 150)).lookup 37 = some (.invokestatic 168, 3, 149, 1, 0) := by decide +kernel
theorem l150_40 : (ax_dt (ax_T 150)).lookup 40 = some (.ifCond .eq 7, 3, 0, 0, 0) := by decide +kernel
theorem l150_43 : (ax_dt (ax_T 150)).lookup 43 = some (.iconst 1, 1, 0, 0, 0) := by decide +kernel
theorem l150_44 : (ax_dt (ax_T 150)).lookup 44 = some (.goto 4, 3, 0, 0, 0) := by decide +kernel
theorem l150_47 : (ax_dt (ax_T 150)).lookup 47 = some (.iconst 0, 1, 0, 0, 0) := by decide +kernel
theorem l150_48 : (ax_dt (ax_T 150)).lookup 48 = some (.ireturn, 1, 0, 0, 0) := by decide +kernel
noncomputable def F_X11_isForm (v0 : Int) (μ : bM) : Option (Int) := (F_X11_in v0 0 30 μ).bind fun w1 => if w1 = 0 then some (0) else (F_X11_isNumber (b32 v0) μ).bind fun w3 => if ¬ w3 = 0 then some (1) else (F_X11_isText (b32 v0) μ).bind fun w5 => if ¬ w5 = 0 then some (1) else if (bCmp v0 10) = 0 then some (1) else (F_X11_isReference (b32 v0) μ).bind fun w8 => if w8 = 0 then some (0) else some (1)
theorem r_X11_isForm {L : Nat} {xs : Nat → Int32} {d : Nat} {μ : bM}  (v0 : Int) (h0 : bRL v0) : bD L xs (d + 1) 150 0 [(0, bLg v0)] [] μ ((F_X11_isForm v0 μ).bind (bPc μ)) := by
  have hr : ∀ r, (bPc μ) r = (bPc μ) r := fun _ => rfl
  unfold F_X11_isForm
  refine bD.ok fun hk => ?_
  refine b_s (pc' := 1) (lv1 := [(0, bLg v0)]) (st' := [bLg v0]) l150_0 (fun _ => rfl) ?_
  refine b_lconst (e := 0) l150_1 (by decide) (b_pc (pc' := 2) rfl ?_)
  refine b_s (pc' := 5) (lv1 := [(0, bLg v0)]) (st' := [bLg 30, bLg 0, bLg v0]) l150_2 (fun _ => rfl) ?_
  refine b_cPz l150_5 rfl (fun _ => trivial) (Nat.le_of_ble_eq_true rfl) (Nat.le_of_ble_eq_true rfl) rfl (r_X11_in v0 h0 0 (by decide) 30 (by decide)) fun w1 hw1 => b_pc (pc' := 8) rfl ?_
  refine b_zeq (pt := 47) l150_8 (bZ_R hw1) (by decide) rfl (fun c2 => ?_) (fun c2 => b_pc (pc' := 11) rfl ?_)
  · refine b_s (pc' := 48) (lv1 := [(0, bLg v0)]) (st' := [bI 0]) l150_47 (fun _ => rfl) ?_
    exact b_retz l150_48 rfl (by decide) (hr _)
  · refine b_s (pc' := 12) (lv1 := [(0, bLg v0)]) (st' := [bLg v0]) l150_11 (fun _ => rfl) ?_
    refine b_l2i l150_12 (b_pc (pc' := 13) rfl ?_)
    refine b_cPz l150_13 rfl (fun _ => trivial) (Nat.le_of_ble_eq_true rfl) (Nat.le_of_ble_eq_true rfl) rfl (r_X11_isNumber (b32 v0) (b32_R _)) fun w3 hw3 => b_pc (pc' := 16) rfl ?_
    refine b_zne (pt := 43) l150_16 (bZ_R hw3) (by decide) rfl (fun c4 => ?_) (fun c4 => b_pc (pc' := 19) rfl ?_)
    · refine b_s (pc' := 44) (lv1 := [(0, bLg v0)]) (st' := [bI 1]) l150_43 (fun _ => rfl) ?_
      refine b_s (pc' := 48) (lv1 := [(0, bLg v0)]) (st' := [bI 1]) l150_44 (fun _ => rfl) ?_
      exact b_retz l150_48 rfl (by decide) (hr _)
    · refine b_s (pc' := 20) (lv1 := [(0, bLg v0)]) (st' := [bLg v0]) l150_19 (fun _ => rfl) ?_
      refine b_l2i l150_20 (b_pc (pc' := 21) rfl ?_)
      refine b_cPz l150_21 rfl (fun _ => trivial) (Nat.le_of_ble_eq_true rfl) (Nat.le_of_ble_eq_true rfl) rfl (r_X11_isText (b32 v0) (b32_R _)) fun w5 hw5 => b_pc (pc' := 24) rfl ?_
      refine b_zne (pt := 43) l150_24 (bZ_R hw5) (by decide) rfl (fun c6 => ?_) (fun c6 => b_pc (pc' := 27) rfl ?_)
      · refine b_s (pc' := 44) (lv1 := [(0, bLg v0)]) (st' := [bI 1]) l150_43 (fun _ => rfl) ?_
        refine b_s (pc' := 48) (lv1 := [(0, bLg v0)]) (st' := [bI 1]) l150_44 (fun _ => rfl) ?_
        exact b_retz l150_48 rfl (by decide) (hr _)
      · refine b_s (pc' := 28) (lv1 := [(0, bLg v0)]) (st' := [bLg v0]) l150_27 (fun _ => rfl) ?_
        refine b_s (pc' := 31) (lv1 := [(0, bLg v0)]) (st' := [bLg 10, bLg v0]) l150_28 (fun _ => rfl) ?_
        refine b_lcmp l150_31 h0 (by decide) (b_pc (pc' := 32) rfl ?_)
        refine b_zeq (pt := 43) l150_32 (bCmp_R _ _) (by decide) rfl (fun c7 => ?_) (fun c7 => b_pc (pc' := 35) rfl ?_)
        · refine b_s (pc' := 44) (lv1 := [(0, bLg v0)]) (st' := [bI 1]) l150_43 (fun _ => rfl) ?_
          refine b_s (pc' := 48) (lv1 := [(0, bLg v0)]) (st' := [bI 1]) l150_44 (fun _ => rfl) ?_
          exact b_retz l150_48 rfl (by decide) (hr _)
        · refine b_s (pc' := 36) (lv1 := [(0, bLg v0)]) (st' := [bLg v0]) l150_35 (fun _ => rfl) ?_
          refine b_l2i l150_36 (b_pc (pc' := 37) rfl ?_)
          refine b_cPz l150_37 rfl (fun _ => trivial) (Nat.le_of_ble_eq_true rfl) (Nat.le_of_ble_eq_true rfl) rfl (r_X11_isReference (b32 v0) (b32_R _)) fun w8 hw8 => b_pc (pc' := 40) rfl ?_
          refine b_zeq (pt := 47) l150_40 (bZ_R hw8) (by decide) rfl (fun c9 => ?_) (fun c9 => b_pc (pc' := 43) rfl ?_)
          · refine b_s (pc' := 48) (lv1 := [(0, bLg v0)]) (st' := [bI 0]) l150_47 (fun _ => rfl) ?_
            exact b_retz l150_48 rfl (by decide) (hr _)
          · refine b_s (pc' := 44) (lv1 := [(0, bLg v0)]) (st' := [bI 1]) l150_43 (fun _ => rfl) ?_
            refine b_s (pc' := 48) (lv1 := [(0, bLg v0)]) (st' := [bI 1]) l150_44 (fun _ => rfl) ?_
            exact b_retz l150_48 rfl (by decide) (hr _)
/-! ETModel.fits -/
theorem l151_0 : (ax_dt (ax_T 151)).lookup 0 = some (.iload_n 0, 1, 0, 0, 0) := by decide +kernel
theorem l151_1 : (ax_dt (ax_T 151)).lookup 1 = some (.lookupswitch 117 #[(5, 68), (6, 77), (11, 59), (12, 86), (15, 93), (25, 105)], 59, 0, 0, 0) := by decide +kernel
theorem l151_60 : (ax_dt (ax_T 151)).lookup 60 = some (.lload_n 1, 1, 0, 0, 0) := by decide +kernel
theorem l151_61 : (ax_dt (ax_T 151)).lookup 61 = some (.lconst 0, 1, 0, 0, 0) := by decide +kernel
theorem l151_62 : (ax_dt (ax_T 151)).lookup 62 = some (.ldc2_w 171, 3, 0, 0, 255) := by decide +kernel
theorem l151_65 : (ax_dt (ax_T 151)).lookup 65 = some (.invokestatic 131, 3, 134, 3, 0) := by decide +kernel
theorem l151_68 : (ax_dt (ax_T 151)).lookup 68 = some (.ireturn, 1, 0, 0, 0) := by decide +kernel
theorem l151_69 : (ax_dt (ax_T 151)).lookup 69 = some (.lload_n 1, 1, 0, 0, 0) := by decide +kernel
theorem l151_70 : (ax_dt (ax_T 151)).lookup 70 = some (.lconst 0, 1, 0, 0, 0) := by decide +kernel
theorem l151_71 : (ax_dt (ax_T 151)).lookup 71 = some (.ldc2_w 173, 3, 0, 0, 65535) := by decide +kernel
theorem l151_74 : (ax_dt (ax_T 151)).lookup 74 = some (.invokestatic 131, 3, 134, 3, 0) := by decide +kernel
theorem l151_77 : (ax_dt (ax_T 151)).lookup 77 = some (.ireturn, 1, 0, 0, 0) := by decide +kernel
theorem l151_78 : (ax_dt (ax_T 151)).lookup 78 = some (.lload_n 1, 1, 0, 0, 0) := by decide +kernel
theorem l151_79 : (ax_dt (ax_T 151)).lookup 79 = some (.lconst 0, 1, 0, 0, 0) := by decide +kernel
theorem l151_80 : (ax_dt (ax_T 151)).lookup 80 = some (.ldc2_w 175, 3, 0, 0, 4294967295) := by decide +kernel
theorem l151_83 : (ax_dt (ax_T 151)).lookup 83 = some (.invokestatic 131, 3, 134, 3, 0) := by decide +kernel
theorem l151_86 : (ax_dt (ax_T 151)).lookup 86 = some (.ireturn, 1, 0, 0, 0) := by decide +kernel
theorem l151_87 : (ax_dt (ax_T 151)).lookup 87 = some (.lload_n 1, 1, 0, 0, 0) := by decide +kernel
theorem l151_88 : (ax_dt (ax_T 151)).lookup 88 = some (.lconst 0, 1, 0, 0, 0) := by decide +kernel
theorem l151_89 : (ax_dt (ax_T 151)).lookup 89 = some (.lconst 1, 1, 0, 0, 0) := by decide +kernel
theorem l151_90 : (ax_dt (ax_T 151)).lookup 90 = some (.invokestatic 131, 3, 134, 3, 0) := by decide +kernel
theorem l151_93 : (ax_dt (ax_T 151)).lookup 93 = some (.ireturn, 1, 0, 0, 0) := by decide +kernel
theorem l151_94 : (ax_dt (ax_T 151)).lookup 94 = some (.lload_n 1, 1, 0, 0, 0) := by decide +kernel
theorem l151_95 : (ax_dt (ax_T 151)).lookup 95 = some (.lconst 0, 1, 0, 0, 0) := by decide +kernel
theorem l151_96 : (ax_dt (ax_T 151)).lookup 96 = some (.lcmp, 1, 0, 0, 0) := by decide +kernel
theorem l151_97 : (ax_dt (ax_T 151)).lookup 97 = some (.ifCond .lt 7, 3, 0, 0, 0) := by decide +kernel
theorem l151_100 : (ax_dt (ax_T 151)).lookup 100 = some (.iconst 1, 1, 0, 0, 0) := by decide +kernel
theorem l151_101 : (ax_dt (ax_T 151)).lookup 101 = some (.goto 4, 3, 0, 0, 0) := by decide +kernel
theorem l151_104 : (ax_dt (ax_T 151)).lookup 104 = some (.iconst 0, 1, 0, 0, 0) := by decide +kernel
theorem l151_105 : (ax_dt (ax_T 151)).lookup 105 = some (.ireturn, 1, 0, 0, 0) := by decide +kernel
theorem l151_106 : (ax_dt (ax_T 151)).lookup 106 = some (.lload_n 1, 1, 0, 0, 0) := by decide +kernel
theorem l151_107 : (ax_dt (ax_T 151)).lookup 107 = some (.lconst 1, 1, 0, 0, 0) := by decide +kernel
theorem l151_108 : (ax_dt (ax_T 151)).lookup 108 = some (.lcmp, 1, 0, 0, 0) := by decide +kernel
theorem l151_109 : (ax_dt (ax_T 151)).lookup 109 = some (.ifCond .ne 7, 3, 0, 0, 0) := by decide +kernel
theorem l151_112 : (ax_dt (ax_T 151)).lookup 112 = some (.iconst 1, 1, 0, 0, 0) := by decide +kernel
theorem l151_113 : (ax_dt (ax_T 151)).lookup 113 = some (.goto 4, 3, 0, 0, 0) := by decide +kernel
theorem l151_116 : (ax_dt (ax_T 151)).lookup 116 = some (.iconst 0, 1, 0, 0, 0) := by decide +kernel
theorem l151_117 : (ax_dt (ax_T 151)).lookup 117 = some (.ireturn, 1, 0, 0, 0) := by decide +kernel
theorem l151_118 : (ax_dt (ax_T 151)).lookup 118 = some (.iconst 1, 1, 0, 0, 0) := by decide +kernel
theorem l151_119 : (ax_dt (ax_T 151)).lookup 119 = some (.ireturn, 1, 0, 0, 0) := by decide +kernel
noncomputable def F_X11_fits (v0 : Int) (v1 : Int) (μ : bM) : Option (Int) := if v0 = 5 then (F_X11_in v1 0 65535 μ).bind fun w1 => some (w1) else if v0 = 6 then (F_X11_in v1 0 4294967295 μ).bind fun w2 => some (w2) else if v0 = 11 then (F_X11_in v1 0 255 μ).bind fun w3 => some (w3) else if v0 = 12 then (F_X11_in v1 0 1 μ).bind fun w4 => some (w4) else if v0 = 15 then if (bCmp v1 0) < 0 then some (0) else some (1) else if v0 = 25 then if ¬ (bCmp v1 1) = 0 then some (0) else some (1) else some (1)
theorem r_X11_fits {L : Nat} {xs : Nat → Int32} {d : Nat} {μ : bM}  (v0 : Int) (h0 : bR v0) (v1 : Int) (h1 : bRL v1) : bD L xs (d + 1) 151 0 [(0, bI v0), (1, bLg v1)] [] μ ((F_X11_fits v0 v1 μ).bind (bPc μ)) := by
  have hr : ∀ r, (bPc μ) r = (bPc μ) r := fun _ => rfl
  unfold F_X11_fits
  refine bD.ok fun hk => ?_
  refine b_s (pc' := 1) (lv1 := [(0, bI v0), (1, bLg v1)]) (st' := [bI v0]) l151_0 (fun _ => rfl) ?_
  refine b_lsw l151_1 h0 (by decide) (by decide) (by decide) ?_
  refine b_pc (pc' := bTg [(5, 69), (6, 78), (11, 60), (12, 87), (15, 94), (25, 106)] 118 v0) rfl ?_
  refine b_tg (fun c12 => ?_) (fun c12 => ?_)
  · refine b_s (pc' := 70) (lv1 := [(0, bI v0), (1, bLg v1)]) (st' := [bLg v1]) l151_69 (fun _ => rfl) ?_
    refine b_lconst (e := 0) l151_70 (by decide) (b_pc (pc' := 71) rfl ?_)
    refine b_s (pc' := 74) (lv1 := [(0, bI v0), (1, bLg v1)]) (st' := [bLg 65535, bLg 0, bLg v1]) l151_71 (fun _ => rfl) ?_
    refine b_cPz l151_74 rfl (fun _ => trivial) (Nat.le_of_ble_eq_true rfl) (Nat.le_of_ble_eq_true rfl) rfl (r_X11_in v1 h1 0 (by decide) 65535 (by decide)) fun w1 hw1 => b_pc (pc' := 77) rfl ?_
    exact b_retz l151_77 rfl hw1 (hr _)
  · refine b_tg (fun c11 => ?_) (fun c11 => ?_)
    · refine b_s (pc' := 79) (lv1 := [(0, bI v0), (1, bLg v1)]) (st' := [bLg v1]) l151_78 (fun _ => rfl) ?_
      refine b_lconst (e := 0) l151_79 (by decide) (b_pc (pc' := 80) rfl ?_)
      refine b_s (pc' := 83) (lv1 := [(0, bI v0), (1, bLg v1)]) (st' := [bLg 4294967295, bLg 0, bLg v1]) l151_80 (fun _ => rfl) ?_
      refine b_cPz l151_83 rfl (fun _ => trivial) (Nat.le_of_ble_eq_true rfl) (Nat.le_of_ble_eq_true rfl) rfl (r_X11_in v1 h1 0 (by decide) 4294967295 (by decide)) fun w2 hw2 => b_pc (pc' := 86) rfl ?_
      exact b_retz l151_86 rfl hw2 (hr _)
    · refine b_tg (fun c10 => ?_) (fun c10 => ?_)
      · refine b_s (pc' := 61) (lv1 := [(0, bI v0), (1, bLg v1)]) (st' := [bLg v1]) l151_60 (fun _ => rfl) ?_
        refine b_lconst (e := 0) l151_61 (by decide) (b_pc (pc' := 62) rfl ?_)
        refine b_s (pc' := 65) (lv1 := [(0, bI v0), (1, bLg v1)]) (st' := [bLg 255, bLg 0, bLg v1]) l151_62 (fun _ => rfl) ?_
        refine b_cPz l151_65 rfl (fun _ => trivial) (Nat.le_of_ble_eq_true rfl) (Nat.le_of_ble_eq_true rfl) rfl (r_X11_in v1 h1 0 (by decide) 255 (by decide)) fun w3 hw3 => b_pc (pc' := 68) rfl ?_
        exact b_retz l151_68 rfl hw3 (hr _)
      · refine b_tg (fun c9 => ?_) (fun c9 => ?_)
        · refine b_s (pc' := 88) (lv1 := [(0, bI v0), (1, bLg v1)]) (st' := [bLg v1]) l151_87 (fun _ => rfl) ?_
          refine b_lconst (e := 0) l151_88 (by decide) (b_pc (pc' := 89) rfl ?_)
          refine b_lconst (e := 1) l151_89 (by decide) (b_pc (pc' := 90) rfl ?_)
          refine b_cPz l151_90 rfl (fun _ => trivial) (Nat.le_of_ble_eq_true rfl) (Nat.le_of_ble_eq_true rfl) rfl (r_X11_in v1 h1 0 (by decide) 1 (by decide)) fun w4 hw4 => b_pc (pc' := 93) rfl ?_
          exact b_retz l151_93 rfl hw4 (hr _)
        · refine b_tg (fun c8 => ?_) (fun c8 => ?_)
          · refine b_s (pc' := 95) (lv1 := [(0, bI v0), (1, bLg v1)]) (st' := [bLg v1]) l151_94 (fun _ => rfl) ?_
            refine b_lconst (e := 0) l151_95 (by decide) (b_pc (pc' := 96) rfl ?_)
            refine b_lcmp l151_96 h1 (by decide) (b_pc (pc' := 97) rfl ?_)
            refine b_zlt (pt := 104) l151_97 (bCmp_R _ _) (by decide) rfl (fun c5 => ?_) (fun c5 => b_pc (pc' := 100) rfl ?_)
            · refine b_s (pc' := 105) (lv1 := [(0, bI v0), (1, bLg v1)]) (st' := [bI 0]) l151_104 (fun _ => rfl) ?_
              exact b_retz l151_105 rfl (by decide) (hr _)
            · refine b_s (pc' := 101) (lv1 := [(0, bI v0), (1, bLg v1)]) (st' := [bI 1]) l151_100 (fun _ => rfl) ?_
              refine b_s (pc' := 105) (lv1 := [(0, bI v0), (1, bLg v1)]) (st' := [bI 1]) l151_101 (fun _ => rfl) ?_
              exact b_retz l151_105 rfl (by decide) (hr _)
          · refine b_tg (fun c7 => ?_) (fun c7 => ?_)
            · refine b_s (pc' := 107) (lv1 := [(0, bI v0), (1, bLg v1)]) (st' := [bLg v1]) l151_106 (fun _ => rfl) ?_
              refine b_lconst (e := 1) l151_107 (by decide) (b_pc (pc' := 108) rfl ?_)
              refine b_lcmp l151_108 h1 (by decide) (b_pc (pc' := 109) rfl ?_)
              refine b_zne (pt := 116) l151_109 (bCmp_R _ _) (by decide) rfl (fun c6 => ?_) (fun c6 => b_pc (pc' := 112) rfl ?_)
              · refine b_s (pc' := 117) (lv1 := [(0, bI v0), (1, bLg v1)]) (st' := [bI 0]) l151_116 (fun _ => rfl) ?_
                exact b_retz l151_117 rfl (by decide) (hr _)
              · refine b_s (pc' := 113) (lv1 := [(0, bI v0), (1, bLg v1)]) (st' := [bI 1]) l151_112 (fun _ => rfl) ?_
                refine b_s (pc' := 117) (lv1 := [(0, bI v0), (1, bLg v1)]) (st' := [bI 1]) l151_113 (fun _ => rfl) ?_
                exact b_retz l151_117 rfl (by decide) (hr _)
            · refine b_pc (pc' := 118) rfl ?_
              refine b_s (pc' := 119) (lv1 := [(0, bI v0), (1, bLg v1)]) (st' := [bI 1]) l151_118 (fun _ => rfl) ?_
              exact b_retz l151_119 rfl (by decide) (hr _)
/-! ETModel.isTold -/
theorem l152_0 : (ax_dt (ax_T 152)).lookup 0 = some (.aload_n 0, 1, 0, 0, 0) := by decide +kernel
theorem l152_1 : (ax_dt (ax_T 152)).lookup 1 = some (.iload_n 1, 1, 0, 0, 0) := by decide +kernel
theorem l152_2 : (ax_dt (ax_T 152)).lookup 2 = some (.invokevirtual 140, 3, 141, 1, 0) := by decide +kernel
theorem l152_5 : (ax_dt (ax_T 152)).lookup 5 = some (.istore_n 3, 1, 0, 0, 0) := by decide +kernel
theorem l152_6 : (ax_dt (ax_T 152)).lookup 6 = some (.iconst 0, 1, 0, 0, 0) := by decide +kernel
theorem l152_7 : (ax_dt (ax_T 152)).lookup 7 = some (.istore 4, 2, 0, 0, 0) := by decide +kernel
theorem l152_9 : (ax_dt (ax_T 152)).lookup 9 = some (.iconst 0, 1, 0, 0, 0) := by decide +kernel
theorem l152_10 : (ax_dt (ax_T 152)).lookup 10 = some (.istore 5, 2, 0, 0, 0) := by decide +kernel
theorem l152_12 : (ax_dt (ax_T 152)).lookup 12 = some (.iload 5, 2, 0, 0, 0) := by decide +kernel
theorem l152_14 : (ax_dt (ax_T 152)).lookup 14 = some (.aload_n 0, 1, 0, 0, 0) := by decide +kernel
theorem l152_15 : (ax_dt (ax_T 152)).lookup 15 = some (.getfield 32, 3, 9, 10, 0) := by decide +kernel
theorem l152_18 : (ax_dt (ax_T 152)).lookup 18 = some (.iload_n 3, 1, 0, 0, 0) := by decide +kernel
theorem l152_19 : (ax_dt (ax_T 152)).lookup 19 = some (.iaload, 1, 0, 0, 0) := by decide +kernel
theorem l152_20 : (ax_dt (ax_T 152)).lookup 20 = some (.if_icmp .ge 37, 3, 0, 0, 0) := by decide +kernel
theorem l152_23 : (ax_dt (ax_T 152)).lookup 23 = some (.iload 4, 2, 0, 0, 0) := by decide +kernel
theorem l152_25 : (ax_dt (ax_T 152)).lookup 25 = some (.ifCond .ne 19, 3, 0, 0, 0) := by decide +kernel
theorem l152_28 : (ax_dt (ax_T 152)).lookup 28 = some (.aload_n 0, 1, 0, 0, 0) := by decide +kernel
theorem l152_29 : (ax_dt (ax_T 152)).lookup 29 = some (.getfield 35, 3, 9, 11, 0) := by decide +kernel
theorem l152_32 : (ax_dt (ax_T 152)).lookup 32 = some (.bipush 8, 2, 0, 0, 0) := by decide +kernel
theorem l152_34 : (ax_dt (ax_T 152)).lookup 34 = some (.iload_n 3, 1, 0, 0, 0) := by decide +kernel
theorem l152_35 : (ax_dt (ax_T 152)).lookup 35 = some (.imul, 1, 0, 0, 0) := by decide +kernel
theorem l152_36 : (ax_dt (ax_T 152)).lookup 36 = some (.iload 5, 2, 0, 0, 0) := by decide +kernel
theorem l152_38 : (ax_dt (ax_T 152)).lookup 38 = some (.iadd, 1, 0, 0, 0) := by decide +kernel
theorem l152_39 : (ax_dt (ax_T 152)).lookup 39 = some (.iaload, 1, 0, 0, 0) := by decide +kernel
theorem l152_40 : (ax_dt (ax_T 152)).lookup 40 = some (.iload_n 2, 1, 0, 0, 0) := by decide +kernel
theorem l152_41 : (ax_dt (ax_T 152)).lookup 41 = some (.if_icmp .ne 7, 3, 0, 0, 0) := by decide +kernel
theorem l152_44 : (ax_dt (ax_T 152)).lookup 44 = some (.iconst 1, 1, 0, 0, 0) := by decide +kernel
theorem l152_45 : (ax_dt (ax_T 152)).lookup 45 = some (.goto 4, 3, 0, 0, 0) := by decide +kernel
theorem l152_48 : (ax_dt (ax_T 152)).lookup 48 = some (.iconst 0, 1, 0, 0, 0) := by decide +kernel
theorem l152_49 : (ax_dt (ax_T 152)).lookup 49 = some (.istore 4, 2, 0, 0, 0) := by decide +kernel
theorem l152_51 : (ax_dt (ax_T 152)).lookup 51 = some (.iinc 5 1, 3, 0, 0, 0) := by decide +kernel
theorem l152_54 : (ax_dt (ax_T 152)).lookup 54 = some (.goto (-42), 3, 0, 0, 0) := by decide +kernel
theorem l152_57 : (ax_dt (ax_T 152)).lookup 57 = some (.iload 4, 2, 0, 0, 0) := by decide +kernel
theorem l152_59 : (ax_dt (ax_T 152)).lookup 59 = some (.ireturn, 1, 0, 0, 0) := by decide +kernel
noncomputable def F_X11_isTold_12 (v2 : Int) (v3 : Int) (μ : bM) (v4 : Int) (v5 : Int) : Option ((Int × Int) ⊕ (Int)) := bG (0 ≤ v3 ∧ v3 < 800) (if (μ 84 v3.toNat) ≤ v5 then bG (0 ≤ v4 ∧ v4 ≤ 1) (some (.inr (v4))) else if ¬ v4 = 0 then bG (bR (v5 + 1)) (some (.inl (1, (v5 + 1)))) else bG (bR (8 * v3)) (bG (bR ((8 * v3) + v5)) (bG (0 ≤ ((8 * v3) + v5) ∧ ((8 * v3) + v5) < 6400) (if ¬ (μ 85 ((8 * v3) + v5).toNat) = v2 then bG (bR (v5 + 1)) (some (.inl (0, (v5 + 1)))) else bG (bR (v5 + 1)) (some (.inl (1, (v5 + 1))))))))
noncomputable def F_X11_isTold (v1 : Int) (v2 : Int) (μ : bM) : Option (Int) := (F_X11_at v1 μ).bind fun w1 => bLoop (fun z => F_X11_isTold_12 v2 w1 μ z.1 z.2) (0, 0)
theorem q_X11_isTold_12 {L : Nat} {xs : Nat → Int32} {d : Nat} {μ : bM} {v2 : Int} {v3 : Int} {κ : ((Int × Int) ⊕ (Int)) → Option bX} (hr : ∀ r : Int, κ (.inr r) = (bPc μ) r) (H12 : ∀ (v4 : Int) (v5 : Int), bR v4 → bR v5 → bD L xs (d + 1) 152 12 [(0, .ref 76), (2, bI v2), (3, bI v3), (4, bI v4), (5, bI v5)] [] μ (κ (.inl (v4, v5))))  (h2 : bR v2) (h3 : bR v3) {v4 : Int} (h4 : bR v4) {v5 : Int} (h5 : bR v5) : bD L xs (d + 1) 152 12 [(0, .ref 76), (2, bI v2), (3, bI v3), (4, bI v4), (5, bI v5)] [] μ ((F_X11_isTold_12 v2 v3 μ v4 v5).bind κ) := by
  unfold F_X11_isTold_12
  refine bD.ok fun hk => ?_
  refine b_s (pc' := 14) (lv1 := [(0, .ref 76), (2, bI v2), (3, bI v3), (4, bI v4), (5, bI v5)]) (st' := [bI v5]) l152_12 (fun _ => rfl) ?_
  refine b_s (pc' := 15) (lv1 := [(0, .ref 76), (2, bI v2), (3, bI v3), (4, bI v4), (5, bI v5)]) (st' := [.ref 76, bI v5]) l152_14 (fun _ => rfl) ?_
  refine b_gp (q' := 84) (j := 8) l152_15 (by rfl) (by decide) (by decide) rfl hk rfl rfl (b_pc (pc' := 18) rfl ?_)
  refine b_s (pc' := 19) (lv1 := [(0, .ref 76), (2, bI v2), (3, bI v3), (4, bI v4), (5, bI v5)]) (st' := [bI v3, .ref 84, bI v5]) l152_18 (fun _ => rfl) ?_
  refine b_g fun g11 => ?_
  refine b_ial l152_19 (by rfl) g11 (b_pc (pc' := 20) rfl ?_)
  refine b_ige (pt := 57) l152_20 h5 (bO_i hk (by rfl)) (by decide) rfl (fun c1 => ?_) (fun c1 => b_pc (pc' := 23) rfl ?_)
  · refine b_s (pc' := 59) (lv1 := [(0, .ref 76), (2, bI v2), (3, bI v3), (4, bI v4), (5, bI v5)]) (st' := [bI v4]) l152_57 (fun _ => rfl) ?_
    refine b_g fun g2 => ?_
    exact b_retz l152_59 rfl g2 (hr _)
  · refine b_s (pc' := 25) (lv1 := [(0, .ref 76), (2, bI v2), (3, bI v3), (4, bI v4), (5, bI v5)]) (st' := [bI v4]) l152_23 (fun _ => rfl) ?_
    refine b_zne (pt := 44) l152_25 h4 (by decide) rfl (fun c3 => ?_) (fun c3 => b_pc (pc' := 28) rfl ?_)
    · refine b_s (pc' := 45) (lv1 := [(0, .ref 76), (2, bI v2), (3, bI v3), (4, bI v4), (5, bI v5)]) (st' := [bI 1]) l152_44 (fun _ => rfl) ?_
      refine b_s (pc' := 49) (lv1 := [(0, .ref 76), (2, bI v2), (3, bI v3), (4, bI v4), (5, bI v5)]) (st' := [bI 1]) l152_45 (fun _ => rfl) ?_
      refine b_w (pc' := 51) (lv1 := ax_st1 [(0, .ref 76), (2, bI v2), (3, bI v3), (4, bI v4), (5, bI v5)] 4 (bI 1)) (lv' := [(0, .ref 76), (2, bI v2), (3, bI v3), (4, bI 1), (5, bI v5)]) (st' := []) l152_49 (fun _ => rfl) (bSb rfl (bSb rfl (bSb rfl (bSb rfl (bSb rfl bSn))))) ?_
      refine b_inc (lv' := [(0, .ref 76), (2, bI v2), (3, bI v3), (4, bI 1), (5, bI (v5 + 1))]) l152_51 rfl (by decide +kernel) (bSb rfl (bSb rfl (bSb rfl (bSb rfl (bSb rfl bSn))))) fun g4 => (b_pc (pc' := 54) rfl ?_)
      refine b_s (pc' := 12) (lv1 := [(0, .ref 76), (2, bI v2), (3, bI v3), (4, bI 1), (5, bI (v5 + 1))]) (st' := []) l152_54 (fun _ => rfl) ?_
      refine bD.wk (lv' := [(0, .ref 76), (2, bI v2), (3, bI v3), (4, bI 1), (5, bI (v5 + 1))]) (bSb rfl (bSb rfl (bSb rfl (bSb rfl (bSb rfl bSn))))) ?_
      exact H12 1 (v5 + 1) (by decide) g4
    · refine b_s (pc' := 29) (lv1 := [(0, .ref 76), (2, bI v2), (3, bI v3), (4, bI v4), (5, bI v5)]) (st' := [.ref 76]) l152_28 (fun _ => rfl) ?_
      refine b_gp (q' := 85) (j := 9) l152_29 (by rfl) (by decide) (by decide) rfl hk rfl rfl (b_pc (pc' := 32) rfl ?_)
      refine b_bipush l152_32 (by decide) (b_pc (pc' := 34) rfl ?_)
      refine b_s (pc' := 35) (lv1 := [(0, .ref 76), (2, bI v2), (3, bI v3), (4, bI v4), (5, bI v5)]) (st' := [bI v3, bI 8, .ref 85]) l152_34 (fun _ => rfl) ?_
      refine b_imul l152_35 fun g5 => (b_pc (pc' := 36) rfl ?_)
      refine b_s (pc' := 38) (lv1 := [(0, .ref 76), (2, bI v2), (3, bI v3), (4, bI v4), (5, bI v5)]) (st' := [bI v5, bI (8 * v3), .ref 85]) l152_36 (fun _ => rfl) ?_
      refine b_iadd l152_38 fun g6 => (b_pc (pc' := 39) rfl ?_)
      refine b_g fun g10 => ?_
      refine b_ial l152_39 (by rfl) g10 (b_pc (pc' := 40) rfl ?_)
      refine b_s (pc' := 41) (lv1 := [(0, .ref 76), (2, bI v2), (3, bI v3), (4, bI v4), (5, bI v5)]) (st' := [bI v2, bI (μ 85 ((8 * v3) + v5).toNat)]) l152_40 (fun _ => rfl) ?_
      refine b_ine (pt := 48) l152_41 (bO_i hk (by rfl)) h2 (by decide) rfl (fun c7 => ?_) (fun c7 => b_pc (pc' := 44) rfl ?_)
      · refine b_s (pc' := 49) (lv1 := [(0, .ref 76), (2, bI v2), (3, bI v3), (4, bI v4), (5, bI v5)]) (st' := [bI 0]) l152_48 (fun _ => rfl) ?_
        refine b_w (pc' := 51) (lv1 := ax_st1 [(0, .ref 76), (2, bI v2), (3, bI v3), (4, bI v4), (5, bI v5)] 4 (bI 0)) (lv' := [(0, .ref 76), (2, bI v2), (3, bI v3), (4, bI 0), (5, bI v5)]) (st' := []) l152_49 (fun _ => rfl) (bSb rfl (bSb rfl (bSb rfl (bSb rfl (bSb rfl bSn))))) ?_
        refine b_inc (lv' := [(0, .ref 76), (2, bI v2), (3, bI v3), (4, bI 0), (5, bI (v5 + 1))]) l152_51 rfl (by decide +kernel) (bSb rfl (bSb rfl (bSb rfl (bSb rfl (bSb rfl bSn))))) fun g8 => (b_pc (pc' := 54) rfl ?_)
        refine b_s (pc' := 12) (lv1 := [(0, .ref 76), (2, bI v2), (3, bI v3), (4, bI 0), (5, bI (v5 + 1))]) (st' := []) l152_54 (fun _ => rfl) ?_
        refine bD.wk (lv' := [(0, .ref 76), (2, bI v2), (3, bI v3), (4, bI 0), (5, bI (v5 + 1))]) (bSb rfl (bSb rfl (bSb rfl (bSb rfl (bSb rfl bSn))))) ?_
        exact H12 0 (v5 + 1) (by decide) g8
      · refine b_s (pc' := 45) (lv1 := [(0, .ref 76), (2, bI v2), (3, bI v3), (4, bI v4), (5, bI v5)]) (st' := [bI 1]) l152_44 (fun _ => rfl) ?_
        refine b_s (pc' := 49) (lv1 := [(0, .ref 76), (2, bI v2), (3, bI v3), (4, bI v4), (5, bI v5)]) (st' := [bI 1]) l152_45 (fun _ => rfl) ?_
        refine b_w (pc' := 51) (lv1 := ax_st1 [(0, .ref 76), (2, bI v2), (3, bI v3), (4, bI v4), (5, bI v5)] 4 (bI 1)) (lv' := [(0, .ref 76), (2, bI v2), (3, bI v3), (4, bI 1), (5, bI v5)]) (st' := []) l152_49 (fun _ => rfl) (bSb rfl (bSb rfl (bSb rfl (bSb rfl (bSb rfl bSn))))) ?_
        refine b_inc (lv' := [(0, .ref 76), (2, bI v2), (3, bI v3), (4, bI 1), (5, bI (v5 + 1))]) l152_51 rfl (by decide +kernel) (bSb rfl (bSb rfl (bSb rfl (bSb rfl (bSb rfl bSn))))) fun g9 => (b_pc (pc' := 54) rfl ?_)
        refine b_s (pc' := 12) (lv1 := [(0, .ref 76), (2, bI v2), (3, bI v3), (4, bI 1), (5, bI (v5 + 1))]) (st' := []) l152_54 (fun _ => rfl) ?_
        refine bD.wk (lv' := [(0, .ref 76), (2, bI v2), (3, bI v3), (4, bI 1), (5, bI (v5 + 1))]) (bSb rfl (bSb rfl (bSb rfl (bSb rfl (bSb rfl bSn))))) ?_
        exact H12 1 (v5 + 1) (by decide) g9
theorem p_X11_isTold_12 {L : Nat} {xs : Nat → Int32} {d : Nat} {μ : bM}  {κ : (Int) → Option bX} (hr : ∀ r : Int, κ r = (bPc μ) r)  {v2 : Int} (h2 : bR v2) {v3 : Int} (h3 : bR v3) {v4 : Int} (h4 : bR v4) {v5 : Int} (h5 : bR v5) : bD L xs (d + 1) 152 12 [(0, .ref 76), (2, bI v2), (3, bI v3), (4, bI v4), (5, bI v5)] [] μ ((bLoop (fun z => F_X11_isTold_12 v2 v3 μ z.1 z.2) (v4, v5)).bind κ) :=
  b_loop (fun z => [(0, .ref 76), (2, bI v2), (3, bI v3), (4, bI z.1), (5, bI z.2)]) (fun z => μ) (fun z => bR z.1 ∧ bR z.2) (fun κ' hκ HH z hz => q_X11_isTold_12 (κ := κ') (fun r => (hκ _).trans (hr r)) (fun a4 a5 b4 b5 => HH (a4, a5) ⟨b4, b5⟩)  h2 h3 hz.1 hz.2) (v4, v5) ⟨h4, h5⟩
theorem r_X11_isTold {L : Nat} {xs : Nat → Int32} {d : Nat} {μ : bM}  (v1 : Int) (h1 : bR v1) (v2 : Int) (h2 : bR v2) : bD L xs (d + 1) 152 0 [(0, .ref 76), (1, bI v1), (2, bI v2)] [] μ ((F_X11_isTold v1 v2 μ).bind (bPc μ)) := by
  have hr : ∀ r, (bPc μ) r = (bPc μ) r := fun _ => rfl
  unfold F_X11_isTold
  refine bD.ok fun hk => ?_
  refine b_s (pc' := 1) (lv1 := [(0, .ref 76), (1, bI v1), (2, bI v2)]) (st' := [.ref 76]) l152_0 (fun _ => rfl) ?_
  refine b_s (pc' := 2) (lv1 := [(0, .ref 76), (1, bI v1), (2, bI v2)]) (st' := [bI v1, .ref 76]) l152_1 (fun _ => rfl) ?_
  refine b_cPi l152_2 rfl (b_rc (ci := 9) (by rfl) (by decide) (by decide +kernel)) (Nat.le_of_ble_eq_true rfl) (Nat.le_of_ble_eq_true rfl) rfl (r_X11_at v1 h1) fun w1 hw1 => b_pc (pc' := 5) rfl ?_
  refine b_w (pc' := 6) (lv1 := ax_st1 [(0, .ref 76), (1, bI v1), (2, bI v2)] 3 (bI w1)) (lv' := [(0, .ref 76), (2, bI v2), (3, bI w1)]) (st' := []) l152_5 (fun _ => rfl) (bSb rfl (bSb rfl (bSb rfl bSn))) ?_
  refine b_s (pc' := 7) (lv1 := [(0, .ref 76), (2, bI v2), (3, bI w1)]) (st' := [bI 0]) l152_6 (fun _ => rfl) ?_
  refine b_w (pc' := 9) (lv1 := ax_st1 [(0, .ref 76), (2, bI v2), (3, bI w1)] 4 (bI 0)) (lv' := [(0, .ref 76), (2, bI v2), (3, bI w1), (4, bI 0)]) (st' := []) l152_7 (fun _ => rfl) (bSb rfl (bSb rfl (bSb rfl (bSb rfl bSn)))) ?_
  refine b_s (pc' := 10) (lv1 := [(0, .ref 76), (2, bI v2), (3, bI w1), (4, bI 0)]) (st' := [bI 0]) l152_9 (fun _ => rfl) ?_
  refine b_w (pc' := 12) (lv1 := ax_st1 [(0, .ref 76), (2, bI v2), (3, bI w1), (4, bI 0)] 5 (bI 0)) (lv' := [(0, .ref 76), (2, bI v2), (3, bI w1), (4, bI 0), (5, bI 0)]) (st' := []) l152_10 (fun _ => rfl) (bSb rfl (bSb rfl (bSb rfl (bSb rfl (bSb rfl bSn))))) ?_
  refine bD.wk (lv' := [(0, .ref 76), (2, bI v2), (3, bI w1), (4, bI 0), (5, bI 0)]) (bSb rfl (bSb rfl (bSb rfl (bSb rfl (bSb rfl bSn))))) ?_
  exact p_X11_isTold_12 hr h2 hw1 (by decide) (by decide)
/-! ETModel.add -/
theorem l153_0 : (ax_dt (ax_T 153)).lookup 0 = some (.aload_n 0, 1, 0, 0, 0) := by decide +kernel
theorem l153_1 : (ax_dt (ax_T 153)).lookup 1 = some (.iload_n 1, 1, 0, 0, 0) := by decide +kernel
theorem l153_2 : (ax_dt (ax_T 153)).lookup 2 = some (.invokevirtual 140, 3, 141, 1, 0) := by decide +kernel
theorem l153_5 : (ax_dt (ax_T 153)).lookup 5 = some (.istore 6, 2, 0, 0, 0) := by decide +kernel
theorem l153_7 : (ax_dt (ax_T 153)).lookup 7 = some (.bipush 8, 2, 0, 0, 0) := by decide +kernel
theorem l153_9 : (ax_dt (ax_T 153)).lookup 9 = some (.iload 6, 2, 0, 0, 0) := by decide +kernel
theorem l153_11 : (ax_dt (ax_T 153)).lookup 11 = some (.imul, 1, 0, 0, 0) := by decide +kernel
theorem l153_12 : (ax_dt (ax_T 153)).lookup 12 = some (.aload_n 0, 1, 0, 0, 0) := by decide +kernel
theorem l153_13 : (ax_dt (ax_T 153)).lookup 13 = some (.getfield 32, 3, 9, 10, 0) := by decide +kernel
theorem l153_16 : (ax_dt (ax_T 153)).lookup 16 = some (.iload 6, 2, 0, 0, 0) := by decide +kernel
theorem l153_18 : (ax_dt (ax_T 153)).lookup 18 = some (.iaload, 1, 0, 0, 0) := by decide +kernel
theorem l153_19 : (ax_dt (ax_T 153)).lookup 19 = some (.iadd, 1, 0, 0, 0) := by decide +kernel
theorem l153_20 : (ax_dt (ax_T 153)).lookup 20 = some (.istore 7, 2, 0, 0, 0) := by decide +kernel
theorem l153_22 : (ax_dt (ax_T 153)).lookup 22 = some (.aload_n 0, 1, 0, 0, 0) := by decide +kernel
theorem l153_23 : (ax_dt (ax_T 153)).lookup 23 = some (.getfield 35, 3, 9, 11, 0) := by decide +kernel
theorem l153_26 : (ax_dt (ax_T 153)).lookup 26 = some (.iload 7, 2, 0, 0, 0) := by decide +kernel
theorem l153_28 : (ax_dt (ax_T 153)).lookup 28 = some (.iload_n 2, 1, 0, 0, 0) := by decide +kernel
theorem l153_29 : (ax_dt (ax_T 153)).lookup 29 = some (.iastore, 1, 0, 0, 0) := by decide +kernel
theorem l153_30 : (ax_dt (ax_T 153)).lookup 30 = some (.aload_n 0, 1, 0, 0, 0) := by decide +kernel
theorem l153_31 : (ax_dt (ax_T 153)).lookup 31 = some (.getfield 38, 3, 9, 12, 0) := by decide +kernel
theorem l153_34 : (ax_dt (ax_T 153)).lookup 34 = some (.iload 7, 2, 0, 0, 0) := by decide +kernel
theorem l153_36 : (ax_dt (ax_T 153)).lookup 36 = some (.iload_n 3, 1, 0, 0, 0) := by decide +kernel
theorem l153_37 : (ax_dt (ax_T 153)).lookup 37 = some (.iastore, 1, 0, 0, 0) := by decide +kernel
theorem l153_38 : (ax_dt (ax_T 153)).lookup 38 = some (.aload_n 0, 1, 0, 0, 0) := by decide +kernel
theorem l153_39 : (ax_dt (ax_T 153)).lookup 39 = some (.getfield 41, 3, 9, 13, 0) := by decide +kernel
theorem l153_42 : (ax_dt (ax_T 153)).lookup 42 = some (.iload 7, 2, 0, 0, 0) := by decide +kernel
theorem l153_44 : (ax_dt (ax_T 153)).lookup 44 = some (.lload 4, 2, 0, 0, 0) := by decide +kernel
theorem l153_46 : (ax_dt (ax_T 153)).lookup 46 = some (.lastore, 1, 0, 0, 0) := by decide +kernel
theorem l153_47 : (ax_dt (ax_T 153)).lookup 47 = some (.aload_n 0, 1, 0, 0, 0) := by decide +kernel
theorem l153_48 : (ax_dt (ax_T 153)).lookup 48 = some (.getfield 45, 3, 9, 14, 0) := by decide +kernel
theorem l153_51 : (ax_dt (ax_T 153)).lookup 51 = some (.iload 7, 2, 0, 0, 0) := by decide +kernel
theorem l153_53 : (ax_dt (ax_T 153)).lookup 53 = some (.iconst 0, 1, 0, 0, 0) := by decide +kernel
theorem l153_54 : (ax_dt (ax_T 153)).lookup 54 = some (.iastore, 1, 0, 0, 0) := by decide +kernel
theorem l153_55 : (ax_dt (ax_T 153)).lookup 55 = some (.aload_n 0, 1, 0, 0, 0) := by decide +kernel
theorem l153_56 : (ax_dt (ax_T 153)).lookup 56 = some (.getfield 48, 3, 9, 15, 0) := by decide +kernel
theorem l153_59 : (ax_dt (ax_T 153)).lookup 59 = some (.iload 7, 2, 0, 0, 0) := by decide +kernel
theorem l153_61 : (ax_dt (ax_T 153)).lookup 61 = some (.iconst 0, 1, 0, 0, 0) := by decide +kernel
theorem l153_62 : (ax_dt (ax_T 153)).lookup 62 = some (.iastore, 1, 0, 0, 0) := by decide +kernel
theorem l153_63 : (ax_dt (ax_T 153)).lookup 63 = some (.aload_n 0, 1, 0, 0, 0) := by decide +kernel
theorem l153_64 : (ax_dt (ax_T 153)).lookup 64 = some (.getfield 32, 3, 9, 10, 0) := by decide +kernel
theorem l153_67 : (ax_dt (ax_T 153)).lookup 67 = some (.iload 6, 2, 0, 0, 0) := by decide +kernel
theorem l153_69 : (ax_dt (ax_T 153)).lookup 69 = some (.dup2, 1, 0, 0, 0) := by decide +kernel
theorem l153_70 : (ax_dt (ax_T 153)).lookup 70 = some (.iaload, 1, 0, 0, 0) := by decide +kernel
theorem l153_71 : (ax_dt (ax_T 153)).lookup 71 = some (.iconst 1, 1, 0, 0, 0) := by decide +kernel
theorem l153_72 : (ax_dt (ax_T 153)).lookup 72 = some (.iadd, 1, 0, 0, 0) := by decide +kernel
theorem l153_73 : (ax_dt (ax_T 153)).lookup 73 = some (.iastore, 1, 0, 0, 0) := by decide +kernel
theorem l153_74 : (ax_dt (ax_T 153)).lookup 74 = some (.aload_n 0, 1, 0, 0, 0) := by decide +kernel
theorem l153_75 : (ax_dt (ax_T 153)).lookup 75 = some (.getfield 32, 3, 9, 10, 0) := by decide +kernel
theorem l153_78 : (ax_dt (ax_T 153)).lookup 78 = some (.iload 6, 2, 0, 0, 0) := by decide +kernel
theorem l153_80 : (ax_dt (ax_T 153)).lookup 80 = some (.iaload, 1, 0, 0, 0) := by decide +kernel
theorem l153_81 : (ax_dt (ax_T 153)).lookup 81 = some (.ireturn, 1, 0, 0, 0) := by decide +kernel
noncomputable def F_X11_add (v1 : Int) (v2 : Int) (v3 : Int) (v4 : Int) (μ : bM) : Option (Int × bM) := (F_X11_at v1 μ).bind fun w1 => bG (bR (8 * w1)) (bG (0 ≤ w1 ∧ w1 < 800) (bG (bR ((8 * w1) + (μ 84 w1.toNat))) (bG (0 ≤ ((8 * w1) + (μ 84 w1.toNat)) ∧ ((8 * w1) + (μ 84 w1.toNat)) < 6400) (bG (0 ≤ ((8 * w1) + (μ 84 w1.toNat)) ∧ ((8 * w1) + (μ 84 w1.toNat)) < 6400) (bG (0 ≤ ((8 * w1) + (μ 84 w1.toNat)) ∧ ((8 * w1) + (μ 84 w1.toNat)) < 6400) (bG (0 ≤ ((8 * w1) + (μ 84 w1.toNat)) ∧ ((8 * w1) + (μ 84 w1.toNat)) < 6400) (bG (0 ≤ ((8 * w1) + (μ 84 w1.toNat)) ∧ ((8 * w1) + (μ 84 w1.toNat)) < 6400) (bG (0 ≤ w1 ∧ w1 < 800) (bG (bR (((bset (bset (bset (bset (bset μ 85 ((8 * w1) + (μ 84 w1.toNat)).toNat v2) 86 ((8 * w1) + (μ 84 w1.toNat)).toNat v3) 87 ((8 * w1) + (μ 84 w1.toNat)).toNat v4) 88 ((8 * w1) + (μ 84 w1.toNat)).toNat 0) 89 ((8 * w1) + (μ 84 w1.toNat)).toNat 0) 84 w1.toNat) + 1)) (bG (0 ≤ w1 ∧ w1 < 800) (bG (0 ≤ w1 ∧ w1 < 800) (some (((bset (bset (bset (bset (bset (bset μ 85 ((8 * w1) + (μ 84 w1.toNat)).toNat v2) 86 ((8 * w1) + (μ 84 w1.toNat)).toNat v3) 87 ((8 * w1) + (μ 84 w1.toNat)).toNat v4) 88 ((8 * w1) + (μ 84 w1.toNat)).toNat 0) 89 ((8 * w1) + (μ 84 w1.toNat)).toNat 0) 84 w1.toNat (((bset (bset (bset (bset (bset μ 85 ((8 * w1) + (μ 84 w1.toNat)).toNat v2) 86 ((8 * w1) + (μ 84 w1.toNat)).toNat v3) 87 ((8 * w1) + (μ 84 w1.toNat)).toNat v4) 88 ((8 * w1) + (μ 84 w1.toNat)).toNat 0) 89 ((8 * w1) + (μ 84 w1.toNat)).toNat 0) 84 w1.toNat) + 1)) 84 w1.toNat), (bset (bset (bset (bset (bset (bset μ 85 ((8 * w1) + (μ 84 w1.toNat)).toNat v2) 86 ((8 * w1) + (μ 84 w1.toNat)).toNat v3) 87 ((8 * w1) + (μ 84 w1.toNat)).toNat v4) 88 ((8 * w1) + (μ 84 w1.toNat)).toNat 0) 89 ((8 * w1) + (μ 84 w1.toNat)).toNat 0) 84 w1.toNat (((bset (bset (bset (bset (bset μ 85 ((8 * w1) + (μ 84 w1.toNat)).toNat v2) 86 ((8 * w1) + (μ 84 w1.toNat)).toNat v3) 87 ((8 * w1) + (μ 84 w1.toNat)).toNat v4) 88 ((8 * w1) + (μ 84 w1.toNat)).toNat 0) 89 ((8 * w1) + (μ 84 w1.toNat)).toNat 0) 84 w1.toNat) + 1)))))))))))))))
theorem r_X11_add {L : Nat} {xs : Nat → Int32} {d : Nat} {μ : bM}  (v1 : Int) (h1 : bR v1) (v2 : Int) (h2 : bR v2) (v3 : Int) (h3 : bR v3) (v4 : Int) (h4 : bRL v4) : bD L xs (d + 1) 153 0 [(0, .ref 76), (1, bI v1), (2, bI v2), (3, bI v3), (4, bLg v4)] [] μ ((F_X11_add v1 v2 v3 v4 μ).bind (bMc)) := by
  have hr : ∀ r, (bMc) r = (bMc) r := fun _ => rfl
  unfold F_X11_add
  refine bD.ok fun hk => ?_
  refine b_s (pc' := 1) (lv1 := [(0, .ref 76), (1, bI v1), (2, bI v2), (3, bI v3), (4, bLg v4)]) (st' := [.ref 76]) l153_0 (fun _ => rfl) ?_
  refine b_s (pc' := 2) (lv1 := [(0, .ref 76), (1, bI v1), (2, bI v2), (3, bI v3), (4, bLg v4)]) (st' := [bI v1, .ref 76]) l153_1 (fun _ => rfl) ?_
  refine b_cPi l153_2 rfl (b_rc (ci := 9) (by rfl) (by decide) (by decide +kernel)) (Nat.le_of_ble_eq_true rfl) (Nat.le_of_ble_eq_true rfl) rfl (r_X11_at v1 h1) fun w1 hw1 => b_pc (pc' := 5) rfl ?_
  refine b_w (pc' := 7) (lv1 := ax_st1 [(0, .ref 76), (1, bI v1), (2, bI v2), (3, bI v3), (4, bLg v4)] 6 (bI w1)) (lv' := [(0, .ref 76), (2, bI v2), (3, bI v3), (4, bLg v4), (6, bI w1)]) (st' := []) l153_5 (fun _ => rfl) (bSb rfl (bSb rfl (bSb rfl (bSb rfl (bSb rfl bSn))))) ?_
  refine b_bipush l153_7 (by decide) (b_pc (pc' := 9) rfl ?_)
  refine b_s (pc' := 11) (lv1 := [(0, .ref 76), (2, bI v2), (3, bI v3), (4, bLg v4), (6, bI w1)]) (st' := [bI w1, bI 8]) l153_9 (fun _ => rfl) ?_
  refine b_imul l153_11 fun g2 => (b_pc (pc' := 12) rfl ?_)
  refine b_s (pc' := 13) (lv1 := [(0, .ref 76), (2, bI v2), (3, bI v3), (4, bLg v4), (6, bI w1)]) (st' := [.ref 76, bI (8 * w1)]) l153_12 (fun _ => rfl) ?_
  refine b_gp (q' := 84) (j := 8) l153_13 (by rfl) (by decide) (by decide) rfl hk rfl rfl (b_pc (pc' := 16) rfl ?_)
  refine b_s (pc' := 18) (lv1 := [(0, .ref 76), (2, bI v2), (3, bI v3), (4, bLg v4), (6, bI w1)]) (st' := [bI w1, .ref 84, bI (8 * w1)]) l153_16 (fun _ => rfl) ?_
  refine b_g fun g19 => ?_
  refine b_ial l153_18 (by rfl) g19 (b_pc (pc' := 19) rfl ?_)
  refine b_iadd l153_19 fun g3 => (b_pc (pc' := 20) rfl ?_)
  refine b_w (pc' := 22) (lv1 := ax_st1 [(0, .ref 76), (2, bI v2), (3, bI v3), (4, bLg v4), (6, bI w1)] 7 (bI ((8 * w1) + (μ 84 w1.toNat)))) (lv' := [(0, .ref 76), (2, bI v2), (3, bI v3), (4, bLg v4), (6, bI w1), (7, bI ((8 * w1) + (μ 84 w1.toNat)))]) (st' := []) l153_20 (fun _ => rfl) (bSb rfl (bSb rfl (bSb rfl (bSb rfl (bSb rfl (bSb rfl bSn)))))) ?_
  refine b_s (pc' := 23) (lv1 := [(0, .ref 76), (2, bI v2), (3, bI v3), (4, bLg v4), (6, bI w1), (7, bI ((8 * w1) + (μ 84 w1.toNat)))]) (st' := [.ref 76]) l153_22 (fun _ => rfl) ?_
  refine b_gp (q' := 85) (j := 9) l153_23 (by rfl) (by decide) (by decide) rfl hk rfl rfl (b_pc (pc' := 26) rfl ?_)
  refine b_s (pc' := 28) (lv1 := [(0, .ref 76), (2, bI v2), (3, bI v3), (4, bLg v4), (6, bI w1), (7, bI ((8 * w1) + (μ 84 w1.toNat)))]) (st' := [bI ((8 * w1) + (μ 84 w1.toNat)), .ref 85]) l153_26 (fun _ => rfl) ?_
  refine b_s (pc' := 29) (lv1 := [(0, .ref 76), (2, bI v2), (3, bI v3), (4, bLg v4), (6, bI w1), (7, bI ((8 * w1) + (μ 84 w1.toNat)))]) (st' := [bI v2, bI ((8 * w1) + (μ 84 w1.toNat)), .ref 85]) l153_28 (fun _ => rfl) ?_
  refine b_g fun g18 => ?_
  refine b_ias l153_29 (by rfl) g18 h2 (bD.ok fun hk4 => b_pc (pc' := 30) rfl ?_)
  refine b_s (pc' := 31) (lv1 := [(0, .ref 76), (2, bI v2), (3, bI v3), (4, bLg v4), (6, bI w1), (7, bI ((8 * w1) + (μ 84 w1.toNat)))]) (st' := [.ref 76]) l153_30 (fun _ => rfl) ?_
  refine b_gp (q' := 86) (j := 10) l153_31 (by rfl) (by decide) (by decide) rfl hk4 rfl rfl (b_pc (pc' := 34) rfl ?_)
  refine b_s (pc' := 36) (lv1 := [(0, .ref 76), (2, bI v2), (3, bI v3), (4, bLg v4), (6, bI w1), (7, bI ((8 * w1) + (μ 84 w1.toNat)))]) (st' := [bI ((8 * w1) + (μ 84 w1.toNat)), .ref 86]) l153_34 (fun _ => rfl) ?_
  refine b_s (pc' := 37) (lv1 := [(0, .ref 76), (2, bI v2), (3, bI v3), (4, bLg v4), (6, bI w1), (7, bI ((8 * w1) + (μ 84 w1.toNat)))]) (st' := [bI v3, bI ((8 * w1) + (μ 84 w1.toNat)), .ref 86]) l153_36 (fun _ => rfl) ?_
  refine b_g fun g17 => ?_
  refine b_ias l153_37 (by rfl) g17 h3 (bD.ok fun hk5 => b_pc (pc' := 38) rfl ?_)
  refine b_s (pc' := 39) (lv1 := [(0, .ref 76), (2, bI v2), (3, bI v3), (4, bLg v4), (6, bI w1), (7, bI ((8 * w1) + (μ 84 w1.toNat)))]) (st' := [.ref 76]) l153_38 (fun _ => rfl) ?_
  refine b_gp (q' := 87) (j := 11) l153_39 (by rfl) (by decide) (by decide) rfl hk5 rfl rfl (b_pc (pc' := 42) rfl ?_)
  refine b_s (pc' := 44) (lv1 := [(0, .ref 76), (2, bI v2), (3, bI v3), (4, bLg v4), (6, bI w1), (7, bI ((8 * w1) + (μ 84 w1.toNat)))]) (st' := [bI ((8 * w1) + (μ 84 w1.toNat)), .ref 87]) l153_42 (fun _ => rfl) ?_
  refine b_s (pc' := 46) (lv1 := [(0, .ref 76), (2, bI v2), (3, bI v3), (4, bLg v4), (6, bI w1), (7, bI ((8 * w1) + (μ 84 w1.toNat)))]) (st' := [bLg v4, bI ((8 * w1) + (μ 84 w1.toNat)), .ref 87]) l153_44 (fun _ => rfl) ?_
  refine b_g fun g16 => ?_
  refine b_las l153_46 (by rfl) g16 h4 (bD.ok fun hk6 => b_pc (pc' := 47) rfl ?_)
  refine b_s (pc' := 48) (lv1 := [(0, .ref 76), (2, bI v2), (3, bI v3), (4, bLg v4), (6, bI w1), (7, bI ((8 * w1) + (μ 84 w1.toNat)))]) (st' := [.ref 76]) l153_47 (fun _ => rfl) ?_
  refine b_gp (q' := 88) (j := 12) l153_48 (by rfl) (by decide) (by decide) rfl hk6 rfl rfl (b_pc (pc' := 51) rfl ?_)
  refine b_s (pc' := 53) (lv1 := [(0, .ref 76), (2, bI v2), (3, bI v3), (4, bLg v4), (6, bI w1), (7, bI ((8 * w1) + (μ 84 w1.toNat)))]) (st' := [bI ((8 * w1) + (μ 84 w1.toNat)), .ref 88]) l153_51 (fun _ => rfl) ?_
  refine b_s (pc' := 54) (lv1 := [(0, .ref 76), (2, bI v2), (3, bI v3), (4, bLg v4), (6, bI w1), (7, bI ((8 * w1) + (μ 84 w1.toNat)))]) (st' := [bI 0, bI ((8 * w1) + (μ 84 w1.toNat)), .ref 88]) l153_53 (fun _ => rfl) ?_
  refine b_g fun g15 => ?_
  refine b_ias l153_54 (by rfl) g15 (by decide) (bD.ok fun hk7 => b_pc (pc' := 55) rfl ?_)
  refine b_s (pc' := 56) (lv1 := [(0, .ref 76), (2, bI v2), (3, bI v3), (4, bLg v4), (6, bI w1), (7, bI ((8 * w1) + (μ 84 w1.toNat)))]) (st' := [.ref 76]) l153_55 (fun _ => rfl) ?_
  refine b_gp (q' := 89) (j := 13) l153_56 (by rfl) (by decide) (by decide) rfl hk7 rfl rfl (b_pc (pc' := 59) rfl ?_)
  refine b_s (pc' := 61) (lv1 := [(0, .ref 76), (2, bI v2), (3, bI v3), (4, bLg v4), (6, bI w1), (7, bI ((8 * w1) + (μ 84 w1.toNat)))]) (st' := [bI ((8 * w1) + (μ 84 w1.toNat)), .ref 89]) l153_59 (fun _ => rfl) ?_
  refine b_s (pc' := 62) (lv1 := [(0, .ref 76), (2, bI v2), (3, bI v3), (4, bLg v4), (6, bI w1), (7, bI ((8 * w1) + (μ 84 w1.toNat)))]) (st' := [bI 0, bI ((8 * w1) + (μ 84 w1.toNat)), .ref 89]) l153_61 (fun _ => rfl) ?_
  refine b_g fun g14 => ?_
  refine b_ias l153_62 (by rfl) g14 (by decide) (bD.ok fun hk8 => b_pc (pc' := 63) rfl ?_)
  refine b_s (pc' := 64) (lv1 := [(0, .ref 76), (2, bI v2), (3, bI v3), (4, bLg v4), (6, bI w1), (7, bI ((8 * w1) + (μ 84 w1.toNat)))]) (st' := [.ref 76]) l153_63 (fun _ => rfl) ?_
  refine b_gp (q' := 84) (j := 8) l153_64 (by rfl) (by decide) (by decide) rfl hk8 rfl rfl (b_pc (pc' := 67) rfl ?_)
  refine b_s (pc' := 69) (lv1 := [(0, .ref 76), (2, bI v2), (3, bI v3), (4, bLg v4), (6, bI w1), (7, bI ((8 * w1) + (μ 84 w1.toNat)))]) (st' := [bI w1, .ref 84]) l153_67 (fun _ => rfl) ?_
  refine b_s (pc' := 70) (lv1 := [(0, .ref 76), (2, bI v2), (3, bI v3), (4, bLg v4), (6, bI w1), (7, bI ((8 * w1) + (μ 84 w1.toNat)))]) (st' := [bI w1, .ref 84, bI w1, .ref 84]) l153_69 (fun _ => rfl) ?_
  refine b_g fun g13 => ?_
  refine b_ial l153_70 (by rfl) g13 (b_pc (pc' := 71) rfl ?_)
  refine b_s (pc' := 72) (lv1 := [(0, .ref 76), (2, bI v2), (3, bI v3), (4, bLg v4), (6, bI w1), (7, bI ((8 * w1) + (μ 84 w1.toNat)))]) (st' := [bI 1, bI ((bset (bset (bset (bset (bset μ 85 ((8 * w1) + (μ 84 w1.toNat)).toNat v2) 86 ((8 * w1) + (μ 84 w1.toNat)).toNat v3) 87 ((8 * w1) + (μ 84 w1.toNat)).toNat v4) 88 ((8 * w1) + (μ 84 w1.toNat)).toNat 0) 89 ((8 * w1) + (μ 84 w1.toNat)).toNat 0) 84 w1.toNat), bI w1, .ref 84]) l153_71 (fun _ => rfl) ?_
  refine b_iadd l153_72 fun g9 => (b_pc (pc' := 73) rfl ?_)
  refine b_g fun g12 => ?_
  refine b_ias l153_73 (by rfl) g12 g9 (bD.ok fun hk10 => b_pc (pc' := 74) rfl ?_)
  refine b_s (pc' := 75) (lv1 := [(0, .ref 76), (2, bI v2), (3, bI v3), (4, bLg v4), (6, bI w1), (7, bI ((8 * w1) + (μ 84 w1.toNat)))]) (st' := [.ref 76]) l153_74 (fun _ => rfl) ?_
  refine b_gp (q' := 84) (j := 8) l153_75 (by rfl) (by decide) (by decide) rfl hk10 rfl rfl (b_pc (pc' := 78) rfl ?_)
  refine b_s (pc' := 80) (lv1 := [(0, .ref 76), (2, bI v2), (3, bI v3), (4, bLg v4), (6, bI w1), (7, bI ((8 * w1) + (μ 84 w1.toNat)))]) (st' := [bI w1, .ref 84]) l153_78 (fun _ => rfl) ?_
  refine b_g fun g11 => ?_
  refine b_ial l153_80 (by rfl) g11 (b_pc (pc' := 81) rfl ?_)
  exact b_reti l153_81 rfl (bO_i hk10 (by rfl)) (hr _)
/-! ETModel.isFull -/
theorem l154_0 : (ax_dt (ax_T 154)).lookup 0 = some (.aload_n 0, 1, 0, 0, 0) := by decide +kernel
theorem l154_1 : (ax_dt (ax_T 154)).lookup 1 = some (.getfield 32, 3, 9, 10, 0) := by decide +kernel
theorem l154_4 : (ax_dt (ax_T 154)).lookup 4 = some (.aload_n 0, 1, 0, 0, 0) := by decide +kernel
theorem l154_5 : (ax_dt (ax_T 154)).lookup 5 = some (.iload_n 1, 1, 0, 0, 0) := by decide +kernel
theorem l154_6 : (ax_dt (ax_T 154)).lookup 6 = some (.invokevirtual 140, 3, 141, 1, 0) := by decide +kernel
theorem l154_9 : (ax_dt (ax_T 154)).lookup 9 = some (.iaload, 1, 0, 0, 0) := by decide +kernel
theorem l154_10 : (ax_dt (ax_T 154)).lookup 10 = some (.bipush 8, 2, 0, 0, 0) := by decide +kernel
theorem l154_12 : (ax_dt (ax_T 154)).lookup 12 = some (.if_icmp .ne 7, 3, 0, 0, 0) := by decide +kernel
theorem l154_15 : (ax_dt (ax_T 154)).lookup 15 = some (.iconst 1, 1, 0, 0, 0) := by decide +kernel
theorem l154_16 : (ax_dt (ax_T 154)).lookup 16 = some (.goto 4, 3, 0, 0, 0) := by decide +kernel
theorem l154_19 : (ax_dt (ax_T 154)).lookup 19 = some (.iconst 0, 1, 0, 0, 0) := by decide +kernel
theorem l154_20 : (ax_dt (ax_T 154)).lookup 20 = some (.ireturn, 1, 0, 0, 0) := by decide +kernel
noncomputable def F_X11_isFull (v1 : Int) (μ : bM) : Option (Int) := (F_X11_at v1 μ).bind fun w1 => bG (0 ≤ w1 ∧ w1 < 800) (if ¬ (μ 84 w1.toNat) = 8 then some (0) else some (1))
theorem r_X11_isFull {L : Nat} {xs : Nat → Int32} {d : Nat} {μ : bM}  (v1 : Int) (h1 : bR v1) : bD L xs (d + 1) 154 0 [(0, .ref 76), (1, bI v1)] [] μ ((F_X11_isFull v1 μ).bind (bPc μ)) := by
  have hr : ∀ r, (bPc μ) r = (bPc μ) r := fun _ => rfl
  unfold F_X11_isFull
  refine bD.ok fun hk => ?_
  refine b_s (pc' := 1) (lv1 := [(0, .ref 76), (1, bI v1)]) (st' := [.ref 76]) l154_0 (fun _ => rfl) ?_
  refine b_gp (q' := 84) (j := 8) l154_1 (by rfl) (by decide) (by decide) rfl hk rfl rfl (b_pc (pc' := 4) rfl ?_)
  refine b_s (pc' := 5) (lv1 := [(0, .ref 76), (1, bI v1)]) (st' := [.ref 76, .ref 84]) l154_4 (fun _ => rfl) ?_
  refine b_s (pc' := 6) (lv1 := [(0, .ref 76), (1, bI v1)]) (st' := [bI v1, .ref 76, .ref 84]) l154_5 (fun _ => rfl) ?_
  refine b_cPi l154_6 rfl (b_rc (ci := 9) (by rfl) (by decide) (by decide +kernel)) (Nat.le_of_ble_eq_true rfl) (Nat.le_of_ble_eq_true rfl) rfl (r_X11_at v1 h1) fun w1 hw1 => b_pc (pc' := 9) rfl ?_
  refine b_g fun g3 => ?_
  refine b_ial l154_9 (by rfl) g3 (b_pc (pc' := 10) rfl ?_)
  refine b_bipush l154_10 (by decide) (b_pc (pc' := 12) rfl ?_)
  refine b_ine (pt := 19) l154_12 (bO_i hk (by rfl)) (by decide) (by decide) rfl (fun c2 => ?_) (fun c2 => b_pc (pc' := 15) rfl ?_)
  · refine b_s (pc' := 20) (lv1 := [(0, .ref 76), (1, bI v1)]) (st' := [bI 0]) l154_19 (fun _ => rfl) ?_
    exact b_retz l154_20 rfl (by decide) (hr _)
  · refine b_s (pc' := 16) (lv1 := [(0, .ref 76), (1, bI v1)]) (st' := [bI 1]) l154_15 (fun _ => rfl) ?_
    refine b_s (pc' := 20) (lv1 := [(0, .ref 76), (1, bI v1)]) (st' := [bI 1]) l154_16 (fun _ => rfl) ?_
    exact b_retz l154_20 rfl (by decide) (hr _)
/-! ETModel.number -/
theorem l155_0 : (ax_dt (ax_T 155)).lookup 0 = some (.aload_n 0, 1, 0, 0, 0) := by decide +kernel
theorem l155_1 : (ax_dt (ax_T 155)).lookup 1 = some (.aload_n 0, 1, 0, 0, 0) := by decide +kernel
theorem l155_2 : (ax_dt (ax_T 155)).lookup 2 = some (.iload_n 1, 1, 0, 0, 0) := by decide +kernel
theorem l155_3 : (ax_dt (ax_T 155)).lookup 3 = some (.invokevirtual 152, 3, 142, 1, 0) := by decide +kernel
theorem l155_6 : (ax_dt (ax_T 155)).lookup 6 = some (.ifCond .ne 7, 3, 0, 0, 0) := by decide +kernel
theorem l155_9 : (ax_dt (ax_T 155)).lookup 9 = some (.iconst 1, 1, 0, 0, 0) := by decide +kernel
theorem l155_10 : (ax_dt (ax_T 155)).lookup 10 = some (.goto 52, 3, 0, 0, 0) := by decide +kernel
theorem l155_13 : (ax_dt (ax_T 155)).lookup 13 = some (.iload_n 2, 1, 0, 0, 0) := by decide +kernel
theorem l155_14 : (ax_dt (ax_T 155)).lookup 14 = some (.invokestatic 144, 3, 140, 1, 0) := by decide +kernel
theorem l155_17 : (ax_dt (ax_T 155)).lookup 17 = some (.ifCond .eq 28, 3, 0, 0, 0) := by decide +kernel
theorem l155_20 : (ax_dt (ax_T 155)).lookup 20 = some (.iload_n 3, 1, 0, 0, 0) := by decide +kernel
theorem l155_21 : (ax_dt (ax_T 155)).lookup 21 = some (.invokestatic 160, 3, 147, 1, 0) := by decide +kernel
theorem l155_24 : (ax_dt (ax_T 155)).lookup 24 = some (.ifCond .eq 21, 3, 0, 0, 0) := by decide +kernel
theorem l155_27 : (ax_dt (ax_T 155)).lookup 27 = some (.iload_n 3, 1, 0, 0, 0) := by decide +kernel
theorem l155_28 : (ax_dt (ax_T 155)).lookup 28 = some (.lload 4, 2, 0, 0, 0) := by decide +kernel
theorem l155_30 : (ax_dt (ax_T 155)).lookup 30 = some (.invokestatic 177, 3, 151, 2, 0) := by decide +kernel
theorem l155_33 : (ax_dt (ax_T 155)).lookup 33 = some (.ifCond .eq 12, 3, 0, 0, 0) := by decide +kernel
theorem l155_36 : (ax_dt (ax_T 155)).lookup 36 = some (.aload_n 0, 1, 0, 0, 0) := by decide +kernel
theorem l155_37 : (ax_dt (ax_T 155)).lookup 37 = some (.iload_n 1, 1, 0, 0, 0) := by decide +kernel
theorem l155_38 : (ax_dt (ax_T 155)).lookup 38 = some (.iload_n 2, 1, 0, 0, 0) := by decide +kernel
theorem l155_39 : (ax_dt (ax_T 155)).lookup 39 = some (.invokevirtual 181, 3, 152, 2, 0) := by decide +kernel
theorem l155_42 : (ax_dt (ax_T 155)).lookup 42 = some (.ifCond .eq 7, 3, 0, 0, 0) := by decide +kernel
theorem l155_45 : (ax_dt (ax_T 155)).lookup 45 = some (.iconst 2, 1, 0, 0, 0) := by decide +kernel
theorem l155_46 : (ax_dt (ax_T 155)).lookup 46 = some (.goto 16, 3, 0, 0, 0) := by decide +kernel
theorem l155_49 : (ax_dt (ax_T 155)).lookup 49 = some (.aload_n 0, 1, 0, 0, 0) := by decide +kernel
theorem l155_50 : (ax_dt (ax_T 155)).lookup 50 = some (.iload_n 1, 1, 0, 0, 0) := by decide +kernel
theorem l155_51 : (ax_dt (ax_T 155)).lookup 51 = some (.invokevirtual 185, 3, 154, 1, 0) := by decide +kernel
theorem l155_54 : (ax_dt (ax_T 155)).lookup 54 = some (.ifCond .eq 7, 3, 0, 0, 0) := by decide +kernel
theorem l155_57 : (ax_dt (ax_T 155)).lookup 57 = some (.iconst 3, 1, 0, 0, 0) := by decide +kernel
theorem l155_58 : (ax_dt (ax_T 155)).lookup 58 = some (.goto 4, 3, 0, 0, 0) := by decide +kernel
theorem l155_61 : (ax_dt (ax_T 155)).lookup 61 = some (.iconst 0, 1, 0, 0, 0) := by decide +kernel
theorem l155_62 : (ax_dt (ax_T 155)).lookup 62 = some (.putfield 120, 3, 9, 0, 0) := by decide +kernel
theorem l155_65 : (ax_dt (ax_T 155)).lookup 65 = some (.aload_n 0, 1, 0, 0, 0) := by decide +kernel
theorem l155_66 : (ax_dt (ax_T 155)).lookup 66 = some (.getfield 120, 3, 9, 0, 0) := by decide +kernel
theorem l155_69 : (ax_dt (ax_T 155)).lookup 69 = some (.ifCond .le 7, 3, 0, 0, 0) := by decide +kernel
theorem l155_72 : (ax_dt (ax_T 155)).lookup 72 = some (.iconst 0, 1, 0, 0, 0) := by decide +kernel
theorem l155_73 : (ax_dt (ax_T 155)).lookup 73 = some (.goto 12, 3, 0, 0, 0) := by decide +kernel
theorem l155_76 : (ax_dt (ax_T 155)).lookup 76 = some (.aload_n 0, 1, 0, 0, 0) := by decide +kernel
theorem l155_77 : (ax_dt (ax_T 155)).lookup 77 = some (.iload_n 1, 1, 0, 0, 0) := by decide +kernel
theorem l155_78 : (ax_dt (ax_T 155)).lookup 78 = some (.iload_n 2, 1, 0, 0, 0) := by decide +kernel
theorem l155_79 : (ax_dt (ax_T 155)).lookup 79 = some (.iload_n 3, 1, 0, 0, 0) := by decide +kernel
theorem l155_80 : (ax_dt (ax_T 155)).lookup 80 = some (.lload 4, 2, 0, 0, 0) := by decide +kernel
theorem l155_82 : (ax_dt (ax_T 155)).lookup 82 = some (.invokevirtual 188, 3, 153, 4, 0) := by decide +kernel
theorem l155_85 : (ax_dt (ax_T 155)).lookup 85 = some (.ireturn, 1, 0, 0, 0) := by decide +kernel
noncomputable def F_X11_number_62 (v1 : Int) (v2 : Int) (v3 : Int) (v4 : Int) (y1 : Int) (μ : bM) : Option (Int × bM) := if ((bset μ 76 0 y1) 76 0) ≤ 0 then bMm (F_X11_add v1 v2 v3 v4 (bset μ 76 0 y1)) (fun w3 μ4 => some (w3, μ4)) else some (0, (bset μ 76 0 y1))
noncomputable def F_X11_number_45 (v1 : Int) (v2 : Int) (v3 : Int) (v4 : Int) (μ : bM) : Option (Int × bM) := F_X11_number_62 v1 v2 v3 v4 2 μ
noncomputable def F_X11_number (v1 : Int) (v2 : Int) (v3 : Int) (v4 : Int) (μ : bM) : Option (Int × bM) := (F_X11_isEntry v1 μ).bind fun w1 => if ¬ w1 = 0 then (F_X11_isName v2 μ).bind fun w3 => if w3 = 0 then F_X11_number_45 v1 v2 v3 v4 μ else (F_X11_isNumber v3 μ).bind fun w5 => if w5 = 0 then F_X11_number_45 v1 v2 v3 v4 μ else (F_X11_fits v3 v4 μ).bind fun w7 => if w7 = 0 then F_X11_number_45 v1 v2 v3 v4 μ else (F_X11_isTold v1 v2 μ).bind fun w9 => if w9 = 0 then (F_X11_isFull v1 μ).bind fun w11 => if w11 = 0 then F_X11_number_62 v1 v2 v3 v4 0 μ else F_X11_number_62 v1 v2 v3 v4 3 μ else F_X11_number_45 v1 v2 v3 v4 μ else F_X11_number_62 v1 v2 v3 v4 1 μ
theorem p_X11_number_62 {L : Nat} {xs : Nat → Int32} {d : Nat} {μ : bM}  {κ : (Int × bM) → Option bX} (hr : ∀ r : Int × bM, κ r = (bMc) r)  {v1 : Int} (h1 : bR v1) {v2 : Int} (h2 : bR v2) {v3 : Int} (h3 : bR v3) {v4 : Int} (h4 : bRL v4) {y1 : Int} (hy1 : bR y1) : bD L xs (d + 2) 155 62 [(0, .ref 76), (1, bI v1), (2, bI v2), (3, bI v3), (4, bLg v4)] [bI y1, .ref 76] μ ((F_X11_number_62 v1 v2 v3 v4 y1 μ).bind κ) := by
  unfold F_X11_number_62
  refine bD.ok fun hk => ?_
  refine b_pi l155_62 (by rfl) (by decide) (by decide) rfl rfl hy1 (bD.ok fun hk1 => b_pc (pc' := 65) rfl ?_)
  refine b_s (pc' := 66) (lv1 := [(0, .ref 76), (1, bI v1), (2, bI v2), (3, bI v3), (4, bLg v4)]) (st' := [.ref 76]) l155_65 (fun _ => rfl) ?_
  refine b_gi l155_66 (by rfl) (by decide) (by decide) rfl (b_pc (pc' := 69) rfl ?_)
  refine b_zle (pt := 76) l155_69 (bO_f hk1 (ci := 9) (by rfl) rfl) (by decide) rfl (fun c2 => ?_) (fun c2 => b_pc (pc' := 72) rfl ?_)
  · refine b_s (pc' := 77) (lv1 := [(0, .ref 76), (1, bI v1), (2, bI v2), (3, bI v3), (4, bLg v4)]) (st' := [.ref 76]) l155_76 (fun _ => rfl) ?_
    refine b_s (pc' := 78) (lv1 := [(0, .ref 76), (1, bI v1), (2, bI v2), (3, bI v3), (4, bLg v4)]) (st' := [bI v1, .ref 76]) l155_77 (fun _ => rfl) ?_
    refine b_s (pc' := 79) (lv1 := [(0, .ref 76), (1, bI v1), (2, bI v2), (3, bI v3), (4, bLg v4)]) (st' := [bI v2, bI v1, .ref 76]) l155_78 (fun _ => rfl) ?_
    refine b_s (pc' := 80) (lv1 := [(0, .ref 76), (1, bI v1), (2, bI v2), (3, bI v3), (4, bLg v4)]) (st' := [bI v3, bI v2, bI v1, .ref 76]) l155_79 (fun _ => rfl) ?_
    refine b_s (pc' := 82) (lv1 := [(0, .ref 76), (1, bI v1), (2, bI v2), (3, bI v3), (4, bLg v4)]) (st' := [bLg v4, bI v3, bI v2, bI v1, .ref 76]) l155_80 (fun _ => rfl) ?_
    refine b_cMi l155_82 rfl (b_rc (ci := 9) (by rfl) (by decide) (by decide +kernel)) (Nat.le_of_ble_eq_true rfl) (Nat.le_of_ble_eq_true rfl) rfl (r_X11_add v1 h1 v2 h2 v3 h3 v4 h4) fun w3 μ4 hw3 => bD.ok fun hk5 => b_pc (pc' := 85) rfl ?_
    exact b_reti l155_85 rfl hw3 (hr _)
  · refine b_s (pc' := 73) (lv1 := [(0, .ref 76), (1, bI v1), (2, bI v2), (3, bI v3), (4, bLg v4)]) (st' := [bI 0]) l155_72 (fun _ => rfl) ?_
    refine b_s (pc' := 85) (lv1 := [(0, .ref 76), (1, bI v1), (2, bI v2), (3, bI v3), (4, bLg v4)]) (st' := [bI 0]) l155_73 (fun _ => rfl) ?_
    exact b_reti l155_85 rfl (by decide) (hr _)
theorem p_X11_number_45 {L : Nat} {xs : Nat → Int32} {d : Nat} {μ : bM}  {κ : (Int × bM) → Option bX} (hr : ∀ r : Int × bM, κ r = (bMc) r)  {v1 : Int} (h1 : bR v1) {v2 : Int} (h2 : bR v2) {v3 : Int} (h3 : bR v3) {v4 : Int} (h4 : bRL v4) : bD L xs (d + 2) 155 45 [(0, .ref 76), (1, bI v1), (2, bI v2), (3, bI v3), (4, bLg v4)] [.ref 76] μ ((F_X11_number_45 v1 v2 v3 v4 μ).bind κ) := by
  unfold F_X11_number_45
  refine bD.ok fun hk => ?_
  refine b_s (pc' := 46) (lv1 := [(0, .ref 76), (1, bI v1), (2, bI v2), (3, bI v3), (4, bLg v4)]) (st' := [bI 2, .ref 76]) l155_45 (fun _ => rfl) ?_
  refine b_s (pc' := 62) (lv1 := [(0, .ref 76), (1, bI v1), (2, bI v2), (3, bI v3), (4, bLg v4)]) (st' := [bI 2, .ref 76]) l155_46 (fun _ => rfl) ?_
  refine bD.wk (lv' := [(0, .ref 76), (1, bI v1), (2, bI v2), (3, bI v3), (4, bLg v4)]) (bSb rfl (bSb rfl (bSb rfl (bSb rfl (bSb rfl bSn))))) ?_
  exact p_X11_number_62 hr h1 h2 h3 h4 (by decide)
theorem r_X11_number {L : Nat} {xs : Nat → Int32} {d : Nat} {μ : bM}  (v1 : Int) (h1 : bR v1) (v2 : Int) (h2 : bR v2) (v3 : Int) (h3 : bR v3) (v4 : Int) (h4 : bRL v4) : bD L xs (d + 2) 155 0 [(0, .ref 76), (1, bI v1), (2, bI v2), (3, bI v3), (4, bLg v4)] [] μ ((F_X11_number v1 v2 v3 v4 μ).bind (bMc)) := by
  have hr : ∀ r, (bMc) r = (bMc) r := fun _ => rfl
  unfold F_X11_number
  refine bD.ok fun hk => ?_
  refine b_s (pc' := 1) (lv1 := [(0, .ref 76), (1, bI v1), (2, bI v2), (3, bI v3), (4, bLg v4)]) (st' := [.ref 76]) l155_0 (fun _ => rfl) ?_
  refine b_s (pc' := 2) (lv1 := [(0, .ref 76), (1, bI v1), (2, bI v2), (3, bI v3), (4, bLg v4)]) (st' := [.ref 76, .ref 76]) l155_1 (fun _ => rfl) ?_
  refine b_s (pc' := 3) (lv1 := [(0, .ref 76), (1, bI v1), (2, bI v2), (3, bI v3), (4, bLg v4)]) (st' := [bI v1, .ref 76, .ref 76]) l155_2 (fun _ => rfl) ?_
  refine b_cPz l155_3 rfl (b_rc (ci := 9) (by rfl) (by decide) (by decide +kernel)) (Nat.le_of_ble_eq_true rfl) (Nat.le_of_ble_eq_true rfl) rfl (r_X11_isEntry v1 h1) fun w1 hw1 => b_pc (pc' := 6) rfl ?_
  refine b_zne (pt := 13) l155_6 (bZ_R hw1) (by decide) rfl (fun c2 => ?_) (fun c2 => b_pc (pc' := 9) rfl ?_)
  · refine b_s (pc' := 14) (lv1 := [(0, .ref 76), (1, bI v1), (2, bI v2), (3, bI v3), (4, bLg v4)]) (st' := [bI v2, .ref 76]) l155_13 (fun _ => rfl) ?_
    refine b_cPz l155_14 rfl (fun _ => trivial) (Nat.le_of_ble_eq_true rfl) (Nat.le_of_ble_eq_true rfl) rfl (r_X11_isName v2 h2) fun w3 hw3 => b_pc (pc' := 17) rfl ?_
    refine b_zeq (pt := 45) l155_17 (bZ_R hw3) (by decide) rfl (fun c4 => ?_) (fun c4 => b_pc (pc' := 20) rfl ?_)
    · refine bD.wk (lv' := [(0, .ref 76), (1, bI v1), (2, bI v2), (3, bI v3), (4, bLg v4)]) (bSb rfl (bSb rfl (bSb rfl (bSb rfl (bSb rfl bSn))))) ?_
      exact p_X11_number_45 hr h1 h2 h3 h4
    · refine b_s (pc' := 21) (lv1 := [(0, .ref 76), (1, bI v1), (2, bI v2), (3, bI v3), (4, bLg v4)]) (st' := [bI v3, .ref 76]) l155_20 (fun _ => rfl) ?_
      refine b_cPz l155_21 rfl (fun _ => trivial) (Nat.le_of_ble_eq_true rfl) (Nat.le_of_ble_eq_true rfl) rfl (r_X11_isNumber v3 h3) fun w5 hw5 => b_pc (pc' := 24) rfl ?_
      refine b_zeq (pt := 45) l155_24 (bZ_R hw5) (by decide) rfl (fun c6 => ?_) (fun c6 => b_pc (pc' := 27) rfl ?_)
      · refine bD.wk (lv' := [(0, .ref 76), (1, bI v1), (2, bI v2), (3, bI v3), (4, bLg v4)]) (bSb rfl (bSb rfl (bSb rfl (bSb rfl (bSb rfl bSn))))) ?_
        exact p_X11_number_45 hr h1 h2 h3 h4
      · refine b_s (pc' := 28) (lv1 := [(0, .ref 76), (1, bI v1), (2, bI v2), (3, bI v3), (4, bLg v4)]) (st' := [bI v3, .ref 76]) l155_27 (fun _ => rfl) ?_
        refine b_s (pc' := 30) (lv1 := [(0, .ref 76), (1, bI v1), (2, bI v2), (3, bI v3), (4, bLg v4)]) (st' := [bLg v4, bI v3, .ref 76]) l155_28 (fun _ => rfl) ?_
        refine b_cPz l155_30 rfl (fun _ => trivial) (Nat.le_of_ble_eq_true rfl) (Nat.le_of_ble_eq_true rfl) rfl (r_X11_fits v3 h3 v4 h4) fun w7 hw7 => b_pc (pc' := 33) rfl ?_
        refine b_zeq (pt := 45) l155_33 (bZ_R hw7) (by decide) rfl (fun c8 => ?_) (fun c8 => b_pc (pc' := 36) rfl ?_)
        · refine bD.wk (lv' := [(0, .ref 76), (1, bI v1), (2, bI v2), (3, bI v3), (4, bLg v4)]) (bSb rfl (bSb rfl (bSb rfl (bSb rfl (bSb rfl bSn))))) ?_
          exact p_X11_number_45 hr h1 h2 h3 h4
        · refine b_s (pc' := 37) (lv1 := [(0, .ref 76), (1, bI v1), (2, bI v2), (3, bI v3), (4, bLg v4)]) (st' := [.ref 76, .ref 76]) l155_36 (fun _ => rfl) ?_
          refine b_s (pc' := 38) (lv1 := [(0, .ref 76), (1, bI v1), (2, bI v2), (3, bI v3), (4, bLg v4)]) (st' := [bI v1, .ref 76, .ref 76]) l155_37 (fun _ => rfl) ?_
          refine b_s (pc' := 39) (lv1 := [(0, .ref 76), (1, bI v1), (2, bI v2), (3, bI v3), (4, bLg v4)]) (st' := [bI v2, bI v1, .ref 76, .ref 76]) l155_38 (fun _ => rfl) ?_
          refine b_cPz l155_39 rfl (b_rc (ci := 9) (by rfl) (by decide) (by decide +kernel)) (Nat.le_of_ble_eq_true rfl) (Nat.le_of_ble_eq_true rfl) rfl (r_X11_isTold v1 h1 v2 h2) fun w9 hw9 => b_pc (pc' := 42) rfl ?_
          refine b_zeq (pt := 49) l155_42 (bZ_R hw9) (by decide) rfl (fun c10 => ?_) (fun c10 => b_pc (pc' := 45) rfl ?_)
          · refine b_s (pc' := 50) (lv1 := [(0, .ref 76), (1, bI v1), (2, bI v2), (3, bI v3), (4, bLg v4)]) (st' := [.ref 76, .ref 76]) l155_49 (fun _ => rfl) ?_
            refine b_s (pc' := 51) (lv1 := [(0, .ref 76), (1, bI v1), (2, bI v2), (3, bI v3), (4, bLg v4)]) (st' := [bI v1, .ref 76, .ref 76]) l155_50 (fun _ => rfl) ?_
            refine b_cPz l155_51 rfl (b_rc (ci := 9) (by rfl) (by decide) (by decide +kernel)) (Nat.le_of_ble_eq_true rfl) (Nat.le_of_ble_eq_true rfl) rfl (r_X11_isFull v1 h1) fun w11 hw11 => b_pc (pc' := 54) rfl ?_
            refine b_zeq (pt := 61) l155_54 (bZ_R hw11) (by decide) rfl (fun c12 => ?_) (fun c12 => b_pc (pc' := 57) rfl ?_)
            · refine b_s (pc' := 62) (lv1 := [(0, .ref 76), (1, bI v1), (2, bI v2), (3, bI v3), (4, bLg v4)]) (st' := [bI 0, .ref 76]) l155_61 (fun _ => rfl) ?_
              refine bD.wk (lv' := [(0, .ref 76), (1, bI v1), (2, bI v2), (3, bI v3), (4, bLg v4)]) (bSb rfl (bSb rfl (bSb rfl (bSb rfl (bSb rfl bSn))))) ?_
              exact p_X11_number_62 hr h1 h2 h3 h4 (by decide)
            · refine b_s (pc' := 58) (lv1 := [(0, .ref 76), (1, bI v1), (2, bI v2), (3, bI v3), (4, bLg v4)]) (st' := [bI 3, .ref 76]) l155_57 (fun _ => rfl) ?_
              refine b_s (pc' := 62) (lv1 := [(0, .ref 76), (1, bI v1), (2, bI v2), (3, bI v3), (4, bLg v4)]) (st' := [bI 3, .ref 76]) l155_58 (fun _ => rfl) ?_
              refine bD.wk (lv' := [(0, .ref 76), (1, bI v1), (2, bI v2), (3, bI v3), (4, bLg v4)]) (bSb rfl (bSb rfl (bSb rfl (bSb rfl (bSb rfl bSn))))) ?_
              exact p_X11_number_62 hr h1 h2 h3 h4 (by decide)
          · refine bD.wk (lv' := [(0, .ref 76), (1, bI v1), (2, bI v2), (3, bI v3), (4, bLg v4)]) (bSb rfl (bSb rfl (bSb rfl (bSb rfl (bSb rfl bSn))))) ?_
            exact p_X11_number_45 hr h1 h2 h3 h4
  · refine b_s (pc' := 10) (lv1 := [(0, .ref 76), (1, bI v1), (2, bI v2), (3, bI v3), (4, bLg v4)]) (st' := [bI 1, .ref 76]) l155_9 (fun _ => rfl) ?_
    refine b_s (pc' := 62) (lv1 := [(0, .ref 76), (1, bI v1), (2, bI v2), (3, bI v3), (4, bLg v4)]) (st' := [bI 1, .ref 76]) l155_10 (fun _ => rfl) ?_
    refine bD.wk (lv' := [(0, .ref 76), (1, bI v1), (2, bI v2), (3, bI v3), (4, bLg v4)]) (bSb rfl (bSb rfl (bSb rfl (bSb rfl (bSb rfl bSn))))) ?_
    exact p_X11_number_62 hr h1 h2 h3 h4 (by decide)
/-! ETModel.areBytes -/
theorem l156_0 : (ax_dt (ax_T 156)).lookup 0 = some (.aload_n 0, 1, 0, 0, 0) := by decide +kernel
theorem l156_1 : (ax_dt (ax_T 156)).lookup 1 = some (.getfield 124, 3, 9, 2, 0) := by decide +kernel
theorem l156_4 : (ax_dt (ax_T 156)).lookup 4 = some (.sipush 255, 3, 0, 0, 0) := by decide +kernel
theorem l156_7 : (ax_dt (ax_T 156)).lookup 7 = some (.if_icmp .gt 7, 3, 0, 0, 0) := by decide +kernel
theorem l156_10 : (ax_dt (ax_T 156)).lookup 10 = some (.iconst 1, 1, 0, 0, 0) := by decide +kernel
theorem l156_11 : (ax_dt (ax_T 156)).lookup 11 = some (.goto 4, 3, 0, 0, 0) := by decide +kernel
theorem l156_14 : (ax_dt (ax_T 156)).lookup 14 = some (.iconst 0, 1, 0, 0, 0) := by decide +kernel
theorem l156_15 : (ax_dt (ax_T 156)).lookup 15 = some (.istore_n 2, 1, 0, 0, 0) := by decide +kernel
theorem l156_16 : (ax_dt (ax_T 156)).lookup 16 = some (.iconst 0, 1, 0, 0, 0) := by decide +kernel
theorem l156_17 : (ax_dt (ax_T 156)).lookup 17 = some (.istore_n 3, 1, 0, 0, 0) := by decide +kernel
theorem l156_18 : (ax_dt (ax_T 156)).lookup 18 = some (.iload_n 3, 1, 0, 0, 0) := by decide +kernel
theorem l156_19 : (ax_dt (ax_T 156)).lookup 19 = some (.aload_n 0, 1, 0, 0, 0) := by decide +kernel
theorem l156_20 : (ax_dt (ax_T 156)).lookup 20 = some (.getfield 124, 3, 9, 2, 0) := by decide +kernel
theorem l156_23 : (ax_dt (ax_T 156)).lookup 23 = some (.if_icmp .ge 34, 3, 0, 0, 0) := by decide +kernel
theorem l156_26 : (ax_dt (ax_T 156)).lookup 26 = some (.iload_n 2, 1, 0, 0, 0) := by decide +kernel
theorem l156_27 : (ax_dt (ax_T 156)).lookup 27 = some (.ifCond .eq 30, 3, 0, 0, 0) := by decide +kernel
theorem l156_30 : (ax_dt (ax_T 156)).lookup 30 = some (.iload_n 1, 1, 0, 0, 0) := by decide +kernel
theorem l156_31 : (ax_dt (ax_T 156)).lookup 31 = some (.bipush 10, 2, 0, 0, 0) := by decide +kernel
theorem l156_33 : (ax_dt (ax_T 156)).lookup 33 = some (.if_icmp .eq 24, 3, 0, 0, 0) := by decide +kernel
theorem l156_36 : (ax_dt (ax_T 156)).lookup 36 = some (.aload_n 0, 1, 0, 0, 0) := by decide +kernel
theorem l156_37 : (ax_dt (ax_T 156)).lookup 37 = some (.getfield 7, 3, 9, 1, 0) := by decide +kernel
theorem l156_40 : (ax_dt (ax_T 156)).lookup 40 = some (.iload_n 3, 1, 0, 0, 0) := by decide +kernel
theorem l156_41 : (ax_dt (ax_T 156)).lookup 41 = some (.baload, 1, 0, 0, 0) := by decide +kernel
theorem l156_42 : (ax_dt (ax_T 156)).lookup 42 = some (.ifCond .eq 7, 3, 0, 0, 0) := by decide +kernel
theorem l156_45 : (ax_dt (ax_T 156)).lookup 45 = some (.iconst 1, 1, 0, 0, 0) := by decide +kernel
theorem l156_46 : (ax_dt (ax_T 156)).lookup 46 = some (.goto 4, 3, 0, 0, 0) := by decide +kernel
theorem l156_49 : (ax_dt (ax_T 156)).lookup 49 = some (.iconst 0, 1, 0, 0, 0) := by decide +kernel
theorem l156_50 : (ax_dt (ax_T 156)).lookup 50 = some (.istore_n 2, 1, 0, 0, 0) := by decide +kernel
theorem l156_51 : (ax_dt (ax_T 156)).lookup 51 = some (.iinc 3 1, 3, 0, 0, 0) := by decide +kernel
theorem l156_54 : (ax_dt (ax_T 156)).lookup 54 = some (.goto (-36), 3, 0, 0, 0) := by decide +kernel
theorem l156_57 : (ax_dt (ax_T 156)).lookup 57 = some (.iload_n 2, 1, 0, 0, 0) := by decide +kernel
theorem l156_58 : (ax_dt (ax_T 156)).lookup 58 = some (.ireturn, 1, 0, 0, 0) := by decide +kernel
noncomputable def F_X11_areBytes_18 (v1 : Int) (μ : bM) (v2 : Int) (v3 : Int) : Option ((Int × Int) ⊕ (Int)) := if (μ 76 2) ≤ v3 then bG (0 ≤ v2 ∧ v2 ≤ 1) (some (.inr (v2))) else if v2 = 0 then bG (0 ≤ v2 ∧ v2 ≤ 1) (some (.inr (v2))) else if v1 = 10 then bG (0 ≤ v2 ∧ v2 ≤ 1) (some (.inr (v2))) else bG (0 ≤ v3 ∧ v3 < 12000) (if (μ 77 v3.toNat) = 0 then bG (bR (v3 + 1)) (some (.inl (0, (v3 + 1)))) else bG (bR (v3 + 1)) (some (.inl (1, (v3 + 1)))))
noncomputable def F_X11_areBytes (v1 : Int) (μ : bM) : Option (Int) := if 255 < (μ 76 2) then bLoop (fun z => F_X11_areBytes_18 v1 μ z.1 z.2) (0, 0) else bLoop (fun z => F_X11_areBytes_18 v1 μ z.1 z.2) (1, 0)
theorem q_X11_areBytes_18 {L : Nat} {xs : Nat → Int32} {d : Nat} {μ : bM} {v1 : Int} {κ : ((Int × Int) ⊕ (Int)) → Option bX} (hr : ∀ r : Int, κ (.inr r) = (bPc μ) r) (H18 : ∀ (v2 : Int) (v3 : Int), bR v2 → bR v3 → bD L xs (d + 0) 156 18 [(0, .ref 76), (1, bI v1), (2, bI v2), (3, bI v3)] [] μ (κ (.inl (v2, v3))))  (h1 : bR v1) {v2 : Int} (h2 : bR v2) {v3 : Int} (h3 : bR v3) : bD L xs (d + 0) 156 18 [(0, .ref 76), (1, bI v1), (2, bI v2), (3, bI v3)] [] μ ((F_X11_areBytes_18 v1 μ v2 v3).bind κ) := by
  unfold F_X11_areBytes_18
  refine bD.ok fun hk => ?_
  refine b_s (pc' := 19) (lv1 := [(0, .ref 76), (1, bI v1), (2, bI v2), (3, bI v3)]) (st' := [bI v3]) l156_18 (fun _ => rfl) ?_
  refine b_s (pc' := 20) (lv1 := [(0, .ref 76), (1, bI v1), (2, bI v2), (3, bI v3)]) (st' := [.ref 76, bI v3]) l156_19 (fun _ => rfl) ?_
  refine b_gi l156_20 (by rfl) (by decide) (by decide) rfl (b_pc (pc' := 23) rfl ?_)
  refine b_ige (pt := 57) l156_23 h3 (bO_f hk (ci := 9) (by rfl) rfl) (by decide) rfl (fun c1 => ?_) (fun c1 => b_pc (pc' := 26) rfl ?_)
  · refine b_s (pc' := 58) (lv1 := [(0, .ref 76), (1, bI v1), (2, bI v2), (3, bI v3)]) (st' := [bI v2]) l156_57 (fun _ => rfl) ?_
    refine b_g fun g2 => ?_
    exact b_retz l156_58 rfl g2 (hr _)
  · refine b_s (pc' := 27) (lv1 := [(0, .ref 76), (1, bI v1), (2, bI v2), (3, bI v3)]) (st' := [bI v2]) l156_26 (fun _ => rfl) ?_
    refine b_zeq (pt := 57) l156_27 h2 (by decide) rfl (fun c3 => ?_) (fun c3 => b_pc (pc' := 30) rfl ?_)
    · refine b_s (pc' := 58) (lv1 := [(0, .ref 76), (1, bI v1), (2, bI v2), (3, bI v3)]) (st' := [bI v2]) l156_57 (fun _ => rfl) ?_
      refine b_g fun g4 => ?_
      exact b_retz l156_58 rfl g4 (hr _)
    · refine b_s (pc' := 31) (lv1 := [(0, .ref 76), (1, bI v1), (2, bI v2), (3, bI v3)]) (st' := [bI v1]) l156_30 (fun _ => rfl) ?_
      refine b_bipush l156_31 (by decide) (b_pc (pc' := 33) rfl ?_)
      refine b_ieq (pt := 57) l156_33 h1 (by decide) (by decide) rfl (fun c5 => ?_) (fun c5 => b_pc (pc' := 36) rfl ?_)
      · refine b_s (pc' := 58) (lv1 := [(0, .ref 76), (1, bI v1), (2, bI v2), (3, bI v3)]) (st' := [bI v2]) l156_57 (fun _ => rfl) ?_
        refine b_g fun g6 => ?_
        exact b_retz l156_58 rfl g6 (hr _)
      · refine b_s (pc' := 37) (lv1 := [(0, .ref 76), (1, bI v1), (2, bI v2), (3, bI v3)]) (st' := [.ref 76]) l156_36 (fun _ => rfl) ?_
        refine b_gp (q' := 77) (j := 1) l156_37 (by rfl) (by decide) (by decide) rfl hk rfl rfl (b_pc (pc' := 40) rfl ?_)
        refine b_s (pc' := 41) (lv1 := [(0, .ref 76), (1, bI v1), (2, bI v2), (3, bI v3)]) (st' := [bI v3, .ref 77]) l156_40 (fun _ => rfl) ?_
        refine b_g fun g10 => ?_
        refine b_bal l156_41 (by rfl) g10 (b_pc (pc' := 42) rfl ?_)
        refine b_zeq (pt := 49) l156_42 (bO_br hk (by rfl)) (by decide) rfl (fun c7 => ?_) (fun c7 => b_pc (pc' := 45) rfl ?_)
        · refine b_s (pc' := 50) (lv1 := [(0, .ref 76), (1, bI v1), (2, bI v2), (3, bI v3)]) (st' := [bI 0]) l156_49 (fun _ => rfl) ?_
          refine b_w (pc' := 51) (lv1 := ax_st1 [(0, .ref 76), (1, bI v1), (2, bI v2), (3, bI v3)] 2 (bI 0)) (lv' := [(0, .ref 76), (1, bI v1), (2, bI 0), (3, bI v3)]) (st' := []) l156_50 (fun _ => rfl) (bSb rfl (bSb rfl (bSb rfl (bSb rfl bSn)))) ?_
          refine b_inc (lv' := [(0, .ref 76), (1, bI v1), (2, bI 0), (3, bI (v3 + 1))]) l156_51 rfl (by decide +kernel) (bSb rfl (bSb rfl (bSb rfl (bSb rfl bSn)))) fun g8 => (b_pc (pc' := 54) rfl ?_)
          refine b_s (pc' := 18) (lv1 := [(0, .ref 76), (1, bI v1), (2, bI 0), (3, bI (v3 + 1))]) (st' := []) l156_54 (fun _ => rfl) ?_
          refine bD.wk (lv' := [(0, .ref 76), (1, bI v1), (2, bI 0), (3, bI (v3 + 1))]) (bSb rfl (bSb rfl (bSb rfl (bSb rfl bSn)))) ?_
          exact H18 0 (v3 + 1) (by decide) g8
        · refine b_s (pc' := 46) (lv1 := [(0, .ref 76), (1, bI v1), (2, bI v2), (3, bI v3)]) (st' := [bI 1]) l156_45 (fun _ => rfl) ?_
          refine b_s (pc' := 50) (lv1 := [(0, .ref 76), (1, bI v1), (2, bI v2), (3, bI v3)]) (st' := [bI 1]) l156_46 (fun _ => rfl) ?_
          refine b_w (pc' := 51) (lv1 := ax_st1 [(0, .ref 76), (1, bI v1), (2, bI v2), (3, bI v3)] 2 (bI 1)) (lv' := [(0, .ref 76), (1, bI v1), (2, bI 1), (3, bI v3)]) (st' := []) l156_50 (fun _ => rfl) (bSb rfl (bSb rfl (bSb rfl (bSb rfl bSn)))) ?_
          refine b_inc (lv' := [(0, .ref 76), (1, bI v1), (2, bI 1), (3, bI (v3 + 1))]) l156_51 rfl (by decide +kernel) (bSb rfl (bSb rfl (bSb rfl (bSb rfl bSn)))) fun g9 => (b_pc (pc' := 54) rfl ?_)
          refine b_s (pc' := 18) (lv1 := [(0, .ref 76), (1, bI v1), (2, bI 1), (3, bI (v3 + 1))]) (st' := []) l156_54 (fun _ => rfl) ?_
          refine bD.wk (lv' := [(0, .ref 76), (1, bI v1), (2, bI 1), (3, bI (v3 + 1))]) (bSb rfl (bSb rfl (bSb rfl (bSb rfl bSn)))) ?_
          exact H18 1 (v3 + 1) (by decide) g9
theorem p_X11_areBytes_18 {L : Nat} {xs : Nat → Int32} {d : Nat} {μ : bM}  {κ : (Int) → Option bX} (hr : ∀ r : Int, κ r = (bPc μ) r)  {v1 : Int} (h1 : bR v1) {v2 : Int} (h2 : bR v2) {v3 : Int} (h3 : bR v3) : bD L xs (d + 0) 156 18 [(0, .ref 76), (1, bI v1), (2, bI v2), (3, bI v3)] [] μ ((bLoop (fun z => F_X11_areBytes_18 v1 μ z.1 z.2) (v2, v3)).bind κ) :=
  b_loop (fun z => [(0, .ref 76), (1, bI v1), (2, bI z.1), (3, bI z.2)]) (fun z => μ) (fun z => bR z.1 ∧ bR z.2) (fun κ' hκ HH z hz => q_X11_areBytes_18 (κ := κ') (fun r => (hκ _).trans (hr r)) (fun a2 a3 b2 b3 => HH (a2, a3) ⟨b2, b3⟩)  h1 hz.1 hz.2) (v2, v3) ⟨h2, h3⟩
theorem r_X11_areBytes {L : Nat} {xs : Nat → Int32} {d : Nat} {μ : bM}  (v1 : Int) (h1 : bR v1) : bD L xs (d + 0) 156 0 [(0, .ref 76), (1, bI v1)] [] μ ((F_X11_areBytes v1 μ).bind (bPc μ)) := by
  have hr : ∀ r, (bPc μ) r = (bPc μ) r := fun _ => rfl
  unfold F_X11_areBytes
  refine bD.ok fun hk => ?_
  refine b_s (pc' := 1) (lv1 := [(0, .ref 76), (1, bI v1)]) (st' := [.ref 76]) l156_0 (fun _ => rfl) ?_
  refine b_gi l156_1 (by rfl) (by decide) (by decide) rfl (b_pc (pc' := 4) rfl ?_)
  refine b_sipush l156_4 (by decide) (b_pc (pc' := 7) rfl ?_)
  refine b_igt (pt := 14) l156_7 (bO_f hk (ci := 9) (by rfl) rfl) (by decide) (by decide) rfl (fun c1 => ?_) (fun c1 => b_pc (pc' := 10) rfl ?_)
  · refine b_s (pc' := 15) (lv1 := [(0, .ref 76), (1, bI v1)]) (st' := [bI 0]) l156_14 (fun _ => rfl) ?_
    refine b_w (pc' := 16) (lv1 := ax_st1 [(0, .ref 76), (1, bI v1)] 2 (bI 0)) (lv' := [(0, .ref 76), (1, bI v1), (2, bI 0)]) (st' := []) l156_15 (fun _ => rfl) (bSb rfl (bSb rfl (bSb rfl bSn))) ?_
    refine b_s (pc' := 17) (lv1 := [(0, .ref 76), (1, bI v1), (2, bI 0)]) (st' := [bI 0]) l156_16 (fun _ => rfl) ?_
    refine b_w (pc' := 18) (lv1 := ax_st1 [(0, .ref 76), (1, bI v1), (2, bI 0)] 3 (bI 0)) (lv' := [(0, .ref 76), (1, bI v1), (2, bI 0), (3, bI 0)]) (st' := []) l156_17 (fun _ => rfl) (bSb rfl (bSb rfl (bSb rfl (bSb rfl bSn)))) ?_
    refine bD.wk (lv' := [(0, .ref 76), (1, bI v1), (2, bI 0), (3, bI 0)]) (bSb rfl (bSb rfl (bSb rfl (bSb rfl bSn)))) ?_
    exact p_X11_areBytes_18 hr h1 (by decide) (by decide)
  · refine b_s (pc' := 11) (lv1 := [(0, .ref 76), (1, bI v1)]) (st' := [bI 1]) l156_10 (fun _ => rfl) ?_
    refine b_s (pc' := 15) (lv1 := [(0, .ref 76), (1, bI v1)]) (st' := [bI 1]) l156_11 (fun _ => rfl) ?_
    refine b_w (pc' := 16) (lv1 := ax_st1 [(0, .ref 76), (1, bI v1)] 2 (bI 1)) (lv' := [(0, .ref 76), (1, bI v1), (2, bI 1)]) (st' := []) l156_15 (fun _ => rfl) (bSb rfl (bSb rfl (bSb rfl bSn))) ?_
    refine b_s (pc' := 17) (lv1 := [(0, .ref 76), (1, bI v1), (2, bI 1)]) (st' := [bI 0]) l156_16 (fun _ => rfl) ?_
    refine b_w (pc' := 18) (lv1 := ax_st1 [(0, .ref 76), (1, bI v1), (2, bI 1)] 3 (bI 0)) (lv' := [(0, .ref 76), (1, bI v1), (2, bI 1), (3, bI 0)]) (st' := []) l156_17 (fun _ => rfl) (bSb rfl (bSb rfl (bSb rfl (bSb rfl bSn)))) ?_
    refine bD.wk (lv' := [(0, .ref 76), (1, bI v1), (2, bI 1), (3, bI 0)]) (bSb rfl (bSb rfl (bSb rfl (bSb rfl bSn)))) ?_
    exact p_X11_areBytes_18 hr h1 (by decide) (by decide)
/-! ETModel.bytes -/
theorem l157_0 : (ax_dt (ax_T 157)).lookup 0 = some (.aload_n 0, 1, 0, 0, 0) := by decide +kernel
theorem l157_1 : (ax_dt (ax_T 157)).lookup 1 = some (.aload_n 0, 1, 0, 0, 0) := by decide +kernel
theorem l157_2 : (ax_dt (ax_T 157)).lookup 2 = some (.iload_n 1, 1, 0, 0, 0) := by decide +kernel
theorem l157_3 : (ax_dt (ax_T 157)).lookup 3 = some (.invokevirtual 152, 3, 142, 1, 0) := by decide +kernel
theorem l157_6 : (ax_dt (ax_T 157)).lookup 6 = some (.ifCond .ne 7, 3, 0, 0, 0) := by decide +kernel
theorem l157_9 : (ax_dt (ax_T 157)).lookup 9 = some (.iconst 1, 1, 0, 0, 0) := by decide +kernel
theorem l157_10 : (ax_dt (ax_T 157)).lookup 10 = some (.goto 77, 3, 0, 0, 0) := by decide +kernel
theorem l157_13 : (ax_dt (ax_T 157)).lookup 13 = some (.iload_n 2, 1, 0, 0, 0) := by decide +kernel
theorem l157_14 : (ax_dt (ax_T 157)).lookup 14 = some (.invokestatic 144, 3, 140, 1, 0) := by decide +kernel
theorem l157_17 : (ax_dt (ax_T 157)).lookup 17 = some (.ifCond .eq 33, 3, 0, 0, 0) := by decide +kernel
theorem l157_20 : (ax_dt (ax_T 157)).lookup 20 = some (.iload_n 3, 1, 0, 0, 0) := by decide +kernel
theorem l157_21 : (ax_dt (ax_T 157)).lookup 21 = some (.invokestatic 163, 3, 148, 1, 0) := by decide +kernel
theorem l157_24 : (ax_dt (ax_T 157)).lookup 24 = some (.ifCond .ne 9, 3, 0, 0, 0) := by decide +kernel
theorem l157_27 : (ax_dt (ax_T 157)).lookup 27 = some (.iload_n 3, 1, 0, 0, 0) := by decide +kernel
theorem l157_28 : (ax_dt (ax_T 157)).lookup 28 = some (.bipush 10, 2, 0, 0, 0) := by decide +kernel
theorem l157_30 : (ax_dt (ax_T 157)).lookup 30 = some (.if_icmp .ne 20, 3, 0, 0, 0) := by decide +kernel
theorem l157_33 : (ax_dt (ax_T 157)).lookup 33 = some (.aload_n 0, 1, 0, 0, 0) := by decide +kernel
theorem l157_34 : (ax_dt (ax_T 157)).lookup 34 = some (.iload_n 3, 1, 0, 0, 0) := by decide +kernel
theorem l157_35 : (ax_dt (ax_T 157)).lookup 35 = some (.invokevirtual 192, 3, 156, 1, 0) := by decide +kernel
theorem l157_38 : (ax_dt (ax_T 157)).lookup 38 = some (.ifCond .eq 12, 3, 0, 0, 0) := by decide +kernel
theorem l157_41 : (ax_dt (ax_T 157)).lookup 41 = some (.aload_n 0, 1, 0, 0, 0) := by decide +kernel
theorem l157_42 : (ax_dt (ax_T 157)).lookup 42 = some (.iload_n 1, 1, 0, 0, 0) := by decide +kernel
theorem l157_43 : (ax_dt (ax_T 157)).lookup 43 = some (.iload_n 2, 1, 0, 0, 0) := by decide +kernel
theorem l157_44 : (ax_dt (ax_T 157)).lookup 44 = some (.invokevirtual 181, 3, 152, 2, 0) := by decide +kernel
theorem l157_47 : (ax_dt (ax_T 157)).lookup 47 = some (.ifCond .eq 7, 3, 0, 0, 0) := by decide +kernel
theorem l157_50 : (ax_dt (ax_T 157)).lookup 50 = some (.iconst 2, 1, 0, 0, 0) := by decide +kernel
theorem l157_51 : (ax_dt (ax_T 157)).lookup 51 = some (.goto 36, 3, 0, 0, 0) := by decide +kernel
theorem l157_54 : (ax_dt (ax_T 157)).lookup 54 = some (.aload_n 0, 1, 0, 0, 0) := by decide +kernel
theorem l157_55 : (ax_dt (ax_T 157)).lookup 55 = some (.iload_n 1, 1, 0, 0, 0) := by decide +kernel
theorem l157_56 : (ax_dt (ax_T 157)).lookup 56 = some (.invokevirtual 185, 3, 154, 1, 0) := by decide +kernel
theorem l157_59 : (ax_dt (ax_T 157)).lookup 59 = some (.ifCond .ne 23, 3, 0, 0, 0) := by decide +kernel
theorem l157_62 : (ax_dt (ax_T 157)).lookup 62 = some (.aload_n 0, 1, 0, 0, 0) := by decide +kernel
theorem l157_63 : (ax_dt (ax_T 157)).lookup 63 = some (.getfield 51, 3, 9, 16, 0) := by decide +kernel
theorem l157_66 : (ax_dt (ax_T 157)).lookup 66 = some (.aload_n 0, 1, 0, 0, 0) := by decide +kernel
theorem l157_67 : (ax_dt (ax_T 157)).lookup 67 = some (.getfield 137, 3, 9, 3, 0) := by decide +kernel
theorem l157_70 : (ax_dt (ax_T 157)).lookup 70 = some (.iaload, 1, 0, 0, 0) := by decide +kernel
theorem l157_71 : (ax_dt (ax_T 157)).lookup 71 = some (.aload_n 0, 1, 0, 0, 0) := by decide +kernel
theorem l157_72 : (ax_dt (ax_T 157)).lookup 72 = some (.getfield 124, 3, 9, 2, 0) := by decide +kernel
theorem l157_75 : (ax_dt (ax_T 157)).lookup 75 = some (.iadd, 1, 0, 0, 0) := by decide +kernel
theorem l157_76 : (ax_dt (ax_T 157)).lookup 76 = some (.sipush 30000, 3, 0, 0, 0) := by decide +kernel
theorem l157_79 : (ax_dt (ax_T 157)).lookup 79 = some (.if_icmp .le 7, 3, 0, 0, 0) := by decide +kernel
theorem l157_82 : (ax_dt (ax_T 157)).lookup 82 = some (.iconst 3, 1, 0, 0, 0) := by decide +kernel
theorem l157_83 : (ax_dt (ax_T 157)).lookup 83 = some (.goto 4, 3, 0, 0, 0) := by decide +kernel
theorem l157_86 : (ax_dt (ax_T 157)).lookup 86 = some (.iconst 0, 1, 0, 0, 0) := by decide +kernel
theorem l157_87 : (ax_dt (ax_T 157)).lookup 87 = some (.putfield 120, 3, 9, 0, 0) := by decide +kernel
theorem l157_90 : (ax_dt (ax_T 157)).lookup 90 = some (.aload_n 0, 1, 0, 0, 0) := by decide +kernel
theorem l157_91 : (ax_dt (ax_T 157)).lookup 91 = some (.getfield 120, 3, 9, 0, 0) := by decide +kernel
theorem l157_94 : (ax_dt (ax_T 157)).lookup 94 = some (.ifCond .le 5, 3, 0, 0, 0) := by decide +kernel
theorem l157_97 : (ax_dt (ax_T 157)).lookup 97 = some (.iconst 0, 1, 0, 0, 0) := by decide +kernel
theorem l157_98 : (ax_dt (ax_T 157)).lookup 98 = some (.ireturn, 1, 0, 0, 0) := by decide +kernel
theorem l157_99 : (ax_dt (ax_T 157)).lookup 99 = some (.aload_n 0, 1, 0, 0, 0) := by decide +kernel
theorem l157_100 : (ax_dt (ax_T 157)).lookup 100 = some (.iload_n 1, 1, 0, 0, 0) := by decide +kernel
theorem l157_101 : (ax_dt (ax_T 157)).lookup 101 = some (.iload_n 2, 1, 0, 0, 0) := by decide +kernel
theorem l157_102 : (ax_dt (ax_T 157)).lookup 102 = some (.iload_n 3, 1, 0, 0, 0) := by decide +kernel
theorem l157_103 : (ax_dt (ax_T 157)).lookup 103 = some (.lconst 0, 1, 0, 0, 0) := by decide +kernel
theorem l157_104 : (ax_dt (ax_T 157)).lookup 104 = some (.invokevirtual 188, 3, 153, 4, 0) := by decide +kernel
theorem l157_107 : (ax_dt (ax_T 157)).lookup 107 = some (.istore 4, 2, 0, 0, 0) := by decide +kernel
theorem l157_109 : (ax_dt (ax_T 157)).lookup 109 = some (.bipush 8, 2, 0, 0, 0) := by decide +kernel
theorem l157_111 : (ax_dt (ax_T 157)).lookup 111 = some (.aload_n 0, 1, 0, 0, 0) := by decide +kernel
theorem l157_112 : (ax_dt (ax_T 157)).lookup 112 = some (.iload_n 1, 1, 0, 0, 0) := by decide +kernel
theorem l157_113 : (ax_dt (ax_T 157)).lookup 113 = some (.invokevirtual 140, 3, 141, 1, 0) := by decide +kernel
theorem l157_116 : (ax_dt (ax_T 157)).lookup 116 = some (.imul, 1, 0, 0, 0) := by decide +kernel
theorem l157_117 : (ax_dt (ax_T 157)).lookup 117 = some (.iload 4, 2, 0, 0, 0) := by decide +kernel
theorem l157_119 : (ax_dt (ax_T 157)).lookup 119 = some (.iadd, 1, 0, 0, 0) := by decide +kernel
theorem l157_120 : (ax_dt (ax_T 157)).lookup 120 = some (.iconst 1, 1, 0, 0, 0) := by decide +kernel
theorem l157_121 : (ax_dt (ax_T 157)).lookup 121 = some (.isub, 1, 0, 0, 0) := by decide +kernel
theorem l157_122 : (ax_dt (ax_T 157)).lookup 122 = some (.istore 5, 2, 0, 0, 0) := by decide +kernel
theorem l157_124 : (ax_dt (ax_T 157)).lookup 124 = some (.aload_n 0, 1, 0, 0, 0) := by decide +kernel
theorem l157_125 : (ax_dt (ax_T 157)).lookup 125 = some (.getfield 45, 3, 9, 14, 0) := by decide +kernel
theorem l157_128 : (ax_dt (ax_T 157)).lookup 128 = some (.iload 5, 2, 0, 0, 0) := by decide +kernel
theorem l157_130 : (ax_dt (ax_T 157)).lookup 130 = some (.ldc 195, 2, 0, 0, 90000) := by decide +kernel
theorem l157_132 : (ax_dt (ax_T 157)).lookup 132 = some (.aload_n 0, 1, 0, 0, 0) := by decide +kernel
theorem l157_133 : (ax_dt (ax_T 157)).lookup 133 = some (.getfield 137, 3, 9, 3, 0) := by decide +kernel
theorem l157_136 : (ax_dt (ax_T 157)).lookup 136 = some (.imul, 1, 0, 0, 0) := by decide +kernel
theorem l157_137 : (ax_dt (ax_T 157)).lookup 137 = some (.aload_n 0, 1, 0, 0, 0) := by decide +kernel
theorem l157_138 : (ax_dt (ax_T 157)).lookup 138 = some (.getfield 54, 3, 9, 17, 0) := by decide +kernel
theorem l157_141 : (ax_dt (ax_T 157)).lookup 141 = some (.aload_n 0, 1, 0, 0, 0) := by decide +kernel
theorem l157_142 : (ax_dt (ax_T 157)).lookup 142 = some (.getfield 137, 3, 9, 3, 0) := by decide +kernel
theorem l157_145 : (ax_dt (ax_T 157)).lookup 145 = some (.iaload, 1, 0, 0, 0) := by decide +kernel
theorem l157_146 : (ax_dt (ax_T 157)).lookup 146 = some (.iadd, 1, 0, 0, 0) := by decide +kernel
theorem l157_147 : (ax_dt (ax_T 157)).lookup 147 = some (.iastore, 1, 0, 0, 0) := by decide +kernel
theorem l157_148 : (ax_dt (ax_T 157)).lookup 148 = some (.aload_n 0, 1, 0, 0, 0) := by decide +kernel
theorem l157_149 : (ax_dt (ax_T 157)).lookup 149 = some (.getfield 48, 3, 9, 15, 0) := by decide +kernel
theorem l157_152 : (ax_dt (ax_T 157)).lookup 152 = some (.iload 5, 2, 0, 0, 0) := by decide +kernel
theorem l157_154 : (ax_dt (ax_T 157)).lookup 154 = some (.aload_n 0, 1, 0, 0, 0) := by decide +kernel
theorem l157_155 : (ax_dt (ax_T 157)).lookup 155 = some (.getfield 124, 3, 9, 2, 0) := by decide +kernel
theorem l157_158 : (ax_dt (ax_T 157)).lookup 158 = some (.iastore, 1, 0, 0, 0) := by decide +kernel
theorem l157_159 : (ax_dt (ax_T 157)).lookup 159 = some (.aload_n 0, 1, 0, 0, 0) := by decide +kernel
theorem l157_160 : (ax_dt (ax_T 157)).lookup 160 = some (.getfield 51, 3, 9, 16, 0) := by decide +kernel
theorem l157_163 : (ax_dt (ax_T 157)).lookup 163 = some (.aload_n 0, 1, 0, 0, 0) := by decide +kernel
theorem l157_164 : (ax_dt (ax_T 157)).lookup 164 = some (.getfield 137, 3, 9, 3, 0) := by decide +kernel
theorem l157_167 : (ax_dt (ax_T 157)).lookup 167 = some (.aload_n 0, 1, 0, 0, 0) := by decide +kernel
theorem l157_168 : (ax_dt (ax_T 157)).lookup 168 = some (.getfield 51, 3, 9, 16, 0) := by decide +kernel
theorem l157_171 : (ax_dt (ax_T 157)).lookup 171 = some (.aload_n 0, 1, 0, 0, 0) := by decide +kernel
theorem l157_172 : (ax_dt (ax_T 157)).lookup 172 = some (.getfield 137, 3, 9, 3, 0) := by decide +kernel
theorem l157_175 : (ax_dt (ax_T 157)).lookup 175 = some (.iaload, 1, 0, 0, 0) := by decide +kernel
theorem l157_176 : (ax_dt (ax_T 157)).lookup 176 = some (.aload_n 0, 1, 0, 0, 0) := by decide +kernel
theorem l157_177 : (ax_dt (ax_T 157)).lookup 177 = some (.getfield 124, 3, 9, 2, 0) := by decide +kernel
theorem l157_180 : (ax_dt (ax_T 157)).lookup 180 = some (.iadd, 1, 0, 0, 0) := by decide +kernel
theorem l157_181 : (ax_dt (ax_T 157)).lookup 181 = some (.iastore, 1, 0, 0, 0) := by decide +kernel
theorem l157_182 : (ax_dt (ax_T 157)).lookup 182 = some (.iconst 0, 1, 0, 0, 0) := by decide +kernel
theorem l157_183 : (ax_dt (ax_T 157)).lookup 183 = some (.istore 6, 2, 0, 0, 0) := by decide +kernel
theorem l157_185 : (ax_dt (ax_T 157)).lookup 185 = some (.iload 6, 2, 0, 0, 0) := by decide +kernel
theorem l157_187 : (ax_dt (ax_T 157)).lookup 187 = some (.aload_n 0, 1, 0, 0, 0) := by decide +kernel
theorem l157_188 : (ax_dt (ax_T 157)).lookup 188 = some (.getfield 124, 3, 9, 2, 0) := by decide +kernel
theorem l157_191 : (ax_dt (ax_T 157)).lookup 191 = some (.if_icmp .ge 31, 3, 0, 0, 0) := by decide +kernel
theorem l157_194 : (ax_dt (ax_T 157)).lookup 194 = some (.aload_n 0, 1, 0, 0, 0) := by decide +kernel
theorem l157_195 : (ax_dt (ax_T 157)).lookup 195 = some (.getfield 58, 3, 9, 18, 0) := by decide +kernel
theorem l157_198 : (ax_dt (ax_T 157)).lookup 198 = some (.aload_n 0, 1, 0, 0, 0) := by decide +kernel
theorem l157_199 : (ax_dt (ax_T 157)).lookup 199 = some (.getfield 45, 3, 9, 14, 0) := by decide +kernel
theorem l157_202 : (ax_dt (ax_T 157)).lookup 202 = some (.iload 5, 2, 0, 0, 0) := by decide +kernel
theorem l157_204 : (ax_dt (ax_T 157)).lookup 204 = some (.iaload, 1, 0, 0, 0) := by decide +kernel
theorem l157_205 : (ax_dt (ax_T 157)).lookup 205 = some (.iload 6, 2, 0, 0, 0) := by decide +kernel
theorem l157_207 : (ax_dt (ax_T 157)).lookup 207 = some (.iadd, 1, 0, 0, 0) := by decide +kernel
theorem l157_208 : (ax_dt (ax_T 157)).lookup 208 = some (.aload_n 0, 1, 0, 0, 0) := by decide +kernel
theorem l157_209 : (ax_dt (ax_T 157)).lookup 209 = some (.getfield 7, 3, 9, 1, 0) := by decide +kernel
theorem l157_212 : (ax_dt (ax_T 157)).lookup 212 = some (.iload 6, 2, 0, 0, 0) := by decide +kernel
theorem l157_214 : (ax_dt (ax_T 157)).lookup 214 = some (.baload, 1, 0, 0, 0) := by decide +kernel
theorem l157_215 : (ax_dt (ax_T 157)).lookup 215 = some (.bastore, 1, 0, 0, 0) := by decide +kernel
theorem l157_216 : (ax_dt (ax_T 157)).lookup 216 = some (.iinc 6 1, 3, 0, 0, 0) := by decide +kernel
theorem l157_219 : (ax_dt (ax_T 157)).lookup 219 = some (.goto (-34), 3, 0, 0, 0) := by decide +kernel
theorem l157_222 : (ax_dt (ax_T 157)).lookup 222 = some (.aload_n 0, 1, 0, 0, 0) := by decide +kernel
theorem l157_223 : (ax_dt (ax_T 157)).lookup 223 = some (.getfield 54, 3, 9, 17, 0) := by decide +kernel
theorem l157_226 : (ax_dt (ax_T 157)).lookup 226 = some (.aload_n 0, 1, 0, 0, 0) := by decide +kernel
theorem l157_227 : (ax_dt (ax_T 157)).lookup 227 = some (.getfield 137, 3, 9, 3, 0) := by decide +kernel
theorem l157_230 : (ax_dt (ax_T 157)).lookup 230 = some (.aload_n 0, 1, 0, 0, 0) := by decide +kernel
theorem l157_231 : (ax_dt (ax_T 157)).lookup 231 = some (.getfield 54, 3, 9, 17, 0) := by decide +kernel
theorem l157_234 : (ax_dt (ax_T 157)).lookup 234 = some (.aload_n 0, 1, 0, 0, 0) := by decide +kernel
theorem l157_235 : (ax_dt (ax_T 157)).lookup 235 = some (.getfield 137, 3, 9, 3, 0) := by decide +kernel
theorem l157_238 : (ax_dt (ax_T 157)).lookup 238 = some (.iaload, 1, 0, 0, 0) := by decide +kernel
theorem l157_239 : (ax_dt (ax_T 157)).lookup 239 = some (.aload_n 0, 1, 0, 0, 0) := by decide +kernel
theorem l157_240 : (ax_dt (ax_T 157)).lookup 240 = some (.getfield 124, 3, 9, 2, 0) := by decide +kernel
theorem l157_243 : (ax_dt (ax_T 157)).lookup 243 = some (.iadd, 1, 0, 0, 0) := by decide +kernel
theorem l157_244 : (ax_dt (ax_T 157)).lookup 244 = some (.iastore, 1, 0, 0, 0) := by decide +kernel
theorem l157_245 : (ax_dt (ax_T 157)).lookup 245 = some (.aload_n 0, 1, 0, 0, 0) := by decide +kernel
theorem l157_246 : (ax_dt (ax_T 157)).lookup 246 = some (.iconst 0, 1, 0, 0, 0) := by decide +kernel
theorem l157_247 : (ax_dt (ax_T 157)).lookup 247 = some (.putfield 124, 3, 9, 2, 0) := by decide +kernel
theorem l157_250 : (ax_dt (ax_T 157)).lookup 250 = some (.iload 4, 2, 0, 0, 0) := by decide +kernel
theorem l157_252 : (ax_dt (ax_T 157)).lookup 252 = some (.ireturn, 1, 0, 0, 0) := by decide +kernel
noncomputable def F_X11_bytes_222 (v4 : Int) (μ : bM) : Option (Int × bM) := bG (0 ≤ (μ 76 3) ∧ (μ 76 3) < 2) (bG (bR ((μ 91 (μ 76 3).toNat) + (μ 76 2))) (bG (0 ≤ (μ 76 3) ∧ (μ 76 3) < 2) (some (v4, (bset (bset μ 91 (μ 76 3).toNat ((μ 91 (μ 76 3).toNat) + (μ 76 2))) 76 2 0)))))
noncomputable def F_X11_bytes_185 (v4 : Int) (v5 : Int) (v6 : Int) (μ : bM) : Option ((Int × bM) ⊕ (Int × bM)) := if (μ 76 2) ≤ v6 then bUp (F_X11_bytes_222 v4 μ) else bG (0 ≤ v5 ∧ v5 < 6400) (bG (bR ((μ 88 v5.toNat) + v6)) (bG (0 ≤ v6 ∧ v6 < 12000) (bG (0 ≤ ((μ 88 v5.toNat) + v6) ∧ ((μ 88 v5.toNat) + v6) < 180000) (bG (bR (v6 + 1)) (some (.inl ((v6 + 1), (bset μ 92 ((μ 88 v5.toNat) + v6).toNat (μ 77 v6.toNat)))))))))
noncomputable def F_X11_bytes_87 (v1 : Int) (v2 : Int) (v3 : Int) (y1 : Int) (μ : bM) : Option (Int × bM) := if ((bset μ 76 0 y1) 76 0) ≤ 0 then bMm (F_X11_add v1 v2 v3 0 (bset μ 76 0 y1)) (fun w3 μ4 => (F_X11_at v1 μ4).bind fun w6 => bG (bR (8 * w6)) (bG (bR ((8 * w6) + w3)) (bG (bR (((8 * w6) + w3) - 1)) (bG (bR (90000 * (μ4 76 3))) (bG (0 ≤ (μ4 76 3) ∧ (μ4 76 3) < 2) (bG (bR ((90000 * (μ4 76 3)) + (μ4 91 (μ4 76 3).toNat))) (bG (0 ≤ (((8 * w6) + w3) - 1) ∧ (((8 * w6) + w3) - 1) < 6400) (bG (0 ≤ (((8 * w6) + w3) - 1) ∧ (((8 * w6) + w3) - 1) < 6400) (bG (0 ≤ ((bset (bset μ4 88 (((8 * w6) + w3) - 1).toNat ((90000 * (μ4 76 3)) + (μ4 91 (μ4 76 3).toNat))) 89 (((8 * w6) + w3) - 1).toNat ((bset μ4 88 (((8 * w6) + w3) - 1).toNat ((90000 * (μ4 76 3)) + (μ4 91 (μ4 76 3).toNat))) 76 2)) 76 3) ∧ ((bset (bset μ4 88 (((8 * w6) + w3) - 1).toNat ((90000 * (μ4 76 3)) + (μ4 91 (μ4 76 3).toNat))) 89 (((8 * w6) + w3) - 1).toNat ((bset μ4 88 (((8 * w6) + w3) - 1).toNat ((90000 * (μ4 76 3)) + (μ4 91 (μ4 76 3).toNat))) 76 2)) 76 3) < 2) (bG (bR (((bset (bset μ4 88 (((8 * w6) + w3) - 1).toNat ((90000 * (μ4 76 3)) + (μ4 91 (μ4 76 3).toNat))) 89 (((8 * w6) + w3) - 1).toNat ((bset μ4 88 (((8 * w6) + w3) - 1).toNat ((90000 * (μ4 76 3)) + (μ4 91 (μ4 76 3).toNat))) 76 2)) 90 ((bset (bset μ4 88 (((8 * w6) + w3) - 1).toNat ((90000 * (μ4 76 3)) + (μ4 91 (μ4 76 3).toNat))) 89 (((8 * w6) + w3) - 1).toNat ((bset μ4 88 (((8 * w6) + w3) - 1).toNat ((90000 * (μ4 76 3)) + (μ4 91 (μ4 76 3).toNat))) 76 2)) 76 3).toNat) + ((bset (bset μ4 88 (((8 * w6) + w3) - 1).toNat ((90000 * (μ4 76 3)) + (μ4 91 (μ4 76 3).toNat))) 89 (((8 * w6) + w3) - 1).toNat ((bset μ4 88 (((8 * w6) + w3) - 1).toNat ((90000 * (μ4 76 3)) + (μ4 91 (μ4 76 3).toNat))) 76 2)) 76 2))) (bG (0 ≤ ((bset (bset μ4 88 (((8 * w6) + w3) - 1).toNat ((90000 * (μ4 76 3)) + (μ4 91 (μ4 76 3).toNat))) 89 (((8 * w6) + w3) - 1).toNat ((bset μ4 88 (((8 * w6) + w3) - 1).toNat ((90000 * (μ4 76 3)) + (μ4 91 (μ4 76 3).toNat))) 76 2)) 76 3) ∧ ((bset (bset μ4 88 (((8 * w6) + w3) - 1).toNat ((90000 * (μ4 76 3)) + (μ4 91 (μ4 76 3).toNat))) 89 (((8 * w6) + w3) - 1).toNat ((bset μ4 88 (((8 * w6) + w3) - 1).toNat ((90000 * (μ4 76 3)) + (μ4 91 (μ4 76 3).toNat))) 76 2)) 76 3) < 2) (bLoop (fun z => F_X11_bytes_185 w3 (((8 * w6) + w3) - 1) z.1 z.2) (0, (bset (bset (bset μ4 88 (((8 * w6) + w3) - 1).toNat ((90000 * (μ4 76 3)) + (μ4 91 (μ4 76 3).toNat))) 89 (((8 * w6) + w3) - 1).toNat ((bset μ4 88 (((8 * w6) + w3) - 1).toNat ((90000 * (μ4 76 3)) + (μ4 91 (μ4 76 3).toNat))) 76 2)) 90 ((bset (bset μ4 88 (((8 * w6) + w3) - 1).toNat ((90000 * (μ4 76 3)) + (μ4 91 (μ4 76 3).toNat))) 89 (((8 * w6) + w3) - 1).toNat ((bset μ4 88 (((8 * w6) + w3) - 1).toNat ((90000 * (μ4 76 3)) + (μ4 91 (μ4 76 3).toNat))) 76 2)) 76 3).toNat (((bset (bset μ4 88 (((8 * w6) + w3) - 1).toNat ((90000 * (μ4 76 3)) + (μ4 91 (μ4 76 3).toNat))) 89 (((8 * w6) + w3) - 1).toNat ((bset μ4 88 (((8 * w6) + w3) - 1).toNat ((90000 * (μ4 76 3)) + (μ4 91 (μ4 76 3).toNat))) 76 2)) 90 ((bset (bset μ4 88 (((8 * w6) + w3) - 1).toNat ((90000 * (μ4 76 3)) + (μ4 91 (μ4 76 3).toNat))) 89 (((8 * w6) + w3) - 1).toNat ((bset μ4 88 (((8 * w6) + w3) - 1).toNat ((90000 * (μ4 76 3)) + (μ4 91 (μ4 76 3).toNat))) 76 2)) 76 3).toNat) + ((bset (bset μ4 88 (((8 * w6) + w3) - 1).toNat ((90000 * (μ4 76 3)) + (μ4 91 (μ4 76 3).toNat))) 89 (((8 * w6) + w3) - 1).toNat ((bset μ4 88 (((8 * w6) + w3) - 1).toNat ((90000 * (μ4 76 3)) + (μ4 91 (μ4 76 3).toNat))) 76 2)) 76 2)))))))))))))))) else some (0, (bset μ 76 0 y1))
noncomputable def F_X11_bytes_50 (v1 : Int) (v2 : Int) (v3 : Int) (μ : bM) : Option (Int × bM) := F_X11_bytes_87 v1 v2 v3 2 μ
noncomputable def F_X11_bytes_82 (v1 : Int) (v2 : Int) (v3 : Int) (μ : bM) : Option (Int × bM) := F_X11_bytes_87 v1 v2 v3 3 μ
noncomputable def F_X11_bytes_33 (v1 : Int) (v2 : Int) (v3 : Int) (μ : bM) : Option (Int × bM) := (F_X11_areBytes v3 μ).bind fun w1 => if w1 = 0 then F_X11_bytes_50 v1 v2 v3 μ else (F_X11_isTold v1 v2 μ).bind fun w3 => if w3 = 0 then (F_X11_isFull v1 μ).bind fun w5 => if ¬ w5 = 0 then F_X11_bytes_82 v1 v2 v3 μ else bG (0 ≤ (μ 76 3) ∧ (μ 76 3) < 2) (bG (bR ((μ 90 (μ 76 3).toNat) + (μ 76 2))) (if ((μ 90 (μ 76 3).toNat) + (μ 76 2)) ≤ 30000 then F_X11_bytes_87 v1 v2 v3 0 μ else F_X11_bytes_82 v1 v2 v3 μ)) else F_X11_bytes_50 v1 v2 v3 μ
noncomputable def F_X11_bytes (v1 : Int) (v2 : Int) (v3 : Int) (μ : bM) : Option (Int × bM) := (F_X11_isEntry v1 μ).bind fun w1 => if ¬ w1 = 0 then (F_X11_isName v2 μ).bind fun w3 => if w3 = 0 then F_X11_bytes_50 v1 v2 v3 μ else (F_X11_isText v3 μ).bind fun w5 => if ¬ w5 = 0 then F_X11_bytes_33 v1 v2 v3 μ else if ¬ v3 = 10 then F_X11_bytes_50 v1 v2 v3 μ else F_X11_bytes_33 v1 v2 v3 μ else F_X11_bytes_87 v1 v2 v3 1 μ
theorem p_X11_bytes_222 {L : Nat} {xs : Nat → Int32} {d : Nat} {μ : bM}  {κ : (Int × bM) → Option bX} (hr : ∀ r : Int × bM, κ r = (bMc) r)  {v4 : Int} (h4 : bR v4) : bD L xs (d + 2) 157 222 [(0, .ref 76), (4, bI v4)] [] μ ((F_X11_bytes_222 v4 μ).bind κ) := by
  unfold F_X11_bytes_222
  refine bD.ok fun hk => ?_
  refine b_s (pc' := 223) (lv1 := [(0, .ref 76), (4, bI v4)]) (st' := [.ref 76]) l157_222 (fun _ => rfl) ?_
  refine b_gp (q' := 91) (j := 15) l157_223 (by rfl) (by decide) (by decide) rfl hk rfl rfl (b_pc (pc' := 226) rfl ?_)
  refine b_s (pc' := 227) (lv1 := [(0, .ref 76), (4, bI v4)]) (st' := [.ref 76, .ref 91]) l157_226 (fun _ => rfl) ?_
  refine b_gi l157_227 (by rfl) (by decide) (by decide) rfl (b_pc (pc' := 230) rfl ?_)
  refine b_s (pc' := 231) (lv1 := [(0, .ref 76), (4, bI v4)]) (st' := [.ref 76, bI (μ 76 3), .ref 91]) l157_230 (fun _ => rfl) ?_
  refine b_gp (q' := 91) (j := 15) l157_231 (by rfl) (by decide) (by decide) rfl hk rfl rfl (b_pc (pc' := 234) rfl ?_)
  refine b_s (pc' := 235) (lv1 := [(0, .ref 76), (4, bI v4)]) (st' := [.ref 76, .ref 91, bI (μ 76 3), .ref 91]) l157_234 (fun _ => rfl) ?_
  refine b_gi l157_235 (by rfl) (by decide) (by decide) rfl (b_pc (pc' := 238) rfl ?_)
  refine b_g fun g5 => ?_
  refine b_ial l157_238 (by rfl) g5 (b_pc (pc' := 239) rfl ?_)
  refine b_s (pc' := 240) (lv1 := [(0, .ref 76), (4, bI v4)]) (st' := [.ref 76, bI (μ 91 (μ 76 3).toNat), bI (μ 76 3), .ref 91]) l157_239 (fun _ => rfl) ?_
  refine b_gi l157_240 (by rfl) (by decide) (by decide) rfl (b_pc (pc' := 243) rfl ?_)
  refine b_iadd l157_243 fun g1 => (b_pc (pc' := 244) rfl ?_)
  refine b_g fun g4 => ?_
  refine b_ias l157_244 (by rfl) g4 g1 (bD.ok fun hk2 => b_pc (pc' := 245) rfl ?_)
  refine b_s (pc' := 246) (lv1 := [(0, .ref 76), (4, bI v4)]) (st' := [.ref 76]) l157_245 (fun _ => rfl) ?_
  refine b_s (pc' := 247) (lv1 := [(0, .ref 76), (4, bI v4)]) (st' := [bI 0, .ref 76]) l157_246 (fun _ => rfl) ?_
  refine b_pi l157_247 (by rfl) (by decide) (by decide) rfl rfl (by decide) (bD.ok fun hk3 => b_pc (pc' := 250) rfl ?_)
  refine b_s (pc' := 252) (lv1 := [(0, .ref 76), (4, bI v4)]) (st' := [bI v4]) l157_250 (fun _ => rfl) ?_
  exact b_reti l157_252 rfl h4 (hr _)
theorem q_X11_bytes_185 {L : Nat} {xs : Nat → Int32} {d : Nat} {μ : bM} {v4 : Int} {v5 : Int} {κ : ((Int × bM) ⊕ (Int × bM)) → Option bX} (hr : ∀ r : Int × bM, κ (.inr r) = (bMc) r) (H185 : ∀ (v6 : Int) (μ : bM), bR v6 → bD L xs (d + 2) 157 185 [(0, .ref 76), (4, bI v4), (5, bI v5), (6, bI v6)] [] μ (κ (.inl (v6, μ))))  (h4 : bR v4) (h5 : bR v5) {v6 : Int} (h6 : bR v6) : bD L xs (d + 2) 157 185 [(0, .ref 76), (4, bI v4), (5, bI v5), (6, bI v6)] [] μ ((F_X11_bytes_185 v4 v5 v6 μ).bind κ) := by
  unfold F_X11_bytes_185
  refine bD.ok fun hk => ?_
  refine b_s (pc' := 187) (lv1 := [(0, .ref 76), (4, bI v4), (5, bI v5), (6, bI v6)]) (st' := [bI v6]) l157_185 (fun _ => rfl) ?_
  refine b_s (pc' := 188) (lv1 := [(0, .ref 76), (4, bI v4), (5, bI v5), (6, bI v6)]) (st' := [.ref 76, bI v6]) l157_187 (fun _ => rfl) ?_
  refine b_gi l157_188 (by rfl) (by decide) (by decide) rfl (b_pc (pc' := 191) rfl ?_)
  refine b_ige (pt := 222) l157_191 h6 (bO_f hk (ci := 9) (by rfl) rfl) (by decide) rfl (fun c1 => ?_) (fun c1 => b_pc (pc' := 194) rfl ?_)
  · refine b_up (fun _ => rfl) ?_
    refine bD.wk (lv' := [(0, .ref 76), (4, bI v4)]) (bSb rfl (bSb rfl bSn)) ?_
    exact p_X11_bytes_222 hr h4
  · refine b_s (pc' := 195) (lv1 := [(0, .ref 76), (4, bI v4), (5, bI v5), (6, bI v6)]) (st' := [.ref 76]) l157_194 (fun _ => rfl) ?_
    refine b_gp (q' := 92) (j := 16) l157_195 (by rfl) (by decide) (by decide) rfl hk rfl rfl (b_pc (pc' := 198) rfl ?_)
    refine b_s (pc' := 199) (lv1 := [(0, .ref 76), (4, bI v4), (5, bI v5), (6, bI v6)]) (st' := [.ref 76, .ref 92]) l157_198 (fun _ => rfl) ?_
    refine b_gp (q' := 88) (j := 12) l157_199 (by rfl) (by decide) (by decide) rfl hk rfl rfl (b_pc (pc' := 202) rfl ?_)
    refine b_s (pc' := 204) (lv1 := [(0, .ref 76), (4, bI v4), (5, bI v5), (6, bI v6)]) (st' := [bI v5, .ref 88, .ref 92]) l157_202 (fun _ => rfl) ?_
    refine b_g fun g7 => ?_
    refine b_ial l157_204 (by rfl) g7 (b_pc (pc' := 205) rfl ?_)
    refine b_s (pc' := 207) (lv1 := [(0, .ref 76), (4, bI v4), (5, bI v5), (6, bI v6)]) (st' := [bI v6, bI (μ 88 v5.toNat), .ref 92]) l157_205 (fun _ => rfl) ?_
    refine b_iadd l157_207 fun g2 => (b_pc (pc' := 208) rfl ?_)
    refine b_s (pc' := 209) (lv1 := [(0, .ref 76), (4, bI v4), (5, bI v5), (6, bI v6)]) (st' := [.ref 76, bI ((μ 88 v5.toNat) + v6), .ref 92]) l157_208 (fun _ => rfl) ?_
    refine b_gp (q' := 77) (j := 1) l157_209 (by rfl) (by decide) (by decide) rfl hk rfl rfl (b_pc (pc' := 212) rfl ?_)
    refine b_s (pc' := 214) (lv1 := [(0, .ref 76), (4, bI v4), (5, bI v5), (6, bI v6)]) (st' := [bI v6, .ref 77, bI ((μ 88 v5.toNat) + v6), .ref 92]) l157_212 (fun _ => rfl) ?_
    refine b_g fun g6 => ?_
    refine b_bal l157_214 (by rfl) g6 (b_pc (pc' := 215) rfl ?_)
    refine b_g fun g5 => ?_
    refine b_bas l157_215 (by rfl) g5 (bO_b hk (by rfl)) (bD.ok fun hk3 => b_pc (pc' := 216) rfl ?_)
    refine b_inc (lv' := [(0, .ref 76), (4, bI v4), (5, bI v5), (6, bI (v6 + 1))]) l157_216 rfl (by decide +kernel) (bSb rfl (bSb rfl (bSb rfl (bSb rfl bSn)))) fun g4 => (b_pc (pc' := 219) rfl ?_)
    refine b_s (pc' := 185) (lv1 := [(0, .ref 76), (4, bI v4), (5, bI v5), (6, bI (v6 + 1))]) (st' := []) l157_219 (fun _ => rfl) ?_
    refine bD.wk (lv' := [(0, .ref 76), (4, bI v4), (5, bI v5), (6, bI (v6 + 1))]) (bSb rfl (bSb rfl (bSb rfl (bSb rfl bSn)))) ?_
    exact H185 (v6 + 1) (bset μ 92 ((μ 88 v5.toNat) + v6).toNat (μ 77 v6.toNat)) g4
theorem p_X11_bytes_185 {L : Nat} {xs : Nat → Int32} {d : Nat} {μ : bM}  {κ : (Int × bM) → Option bX} (hr : ∀ r : Int × bM, κ r = (bMc) r)  {v4 : Int} (h4 : bR v4) {v5 : Int} (h5 : bR v5) {v6 : Int} (h6 : bR v6) : bD L xs (d + 2) 157 185 [(0, .ref 76), (4, bI v4), (5, bI v5), (6, bI v6)] [] μ ((bLoop (fun z => F_X11_bytes_185 v4 v5 z.1 z.2) (v6, μ)).bind κ) :=
  b_loop (fun z => [(0, .ref 76), (4, bI v4), (5, bI v5), (6, bI z.1)]) (fun z => z.2) (fun z => bR z.1) (fun κ' hκ HH z hz => q_X11_bytes_185 (κ := κ') (fun r => (hκ _).trans (hr r)) (fun a6 am b6 => HH (a6, am) b6)  h4 h5 hz) (v6, μ) h6
theorem p_X11_bytes_87 {L : Nat} {xs : Nat → Int32} {d : Nat} {μ : bM}  {κ : (Int × bM) → Option bX} (hr : ∀ r : Int × bM, κ r = (bMc) r)  {v1 : Int} (h1 : bR v1) {v2 : Int} (h2 : bR v2) {v3 : Int} (h3 : bR v3) {y1 : Int} (hy1 : bR y1) : bD L xs (d + 2) 157 87 [(0, .ref 76), (1, bI v1), (2, bI v2), (3, bI v3)] [bI y1, .ref 76] μ ((F_X11_bytes_87 v1 v2 v3 y1 μ).bind κ) := by
  unfold F_X11_bytes_87
  refine bD.ok fun hk => ?_
  refine b_pi l157_87 (by rfl) (by decide) (by decide) rfl rfl hy1 (bD.ok fun hk1 => b_pc (pc' := 90) rfl ?_)
  refine b_s (pc' := 91) (lv1 := [(0, .ref 76), (1, bI v1), (2, bI v2), (3, bI v3)]) (st' := [.ref 76]) l157_90 (fun _ => rfl) ?_
  refine b_gi l157_91 (by rfl) (by decide) (by decide) rfl (b_pc (pc' := 94) rfl ?_)
  refine b_zle (pt := 99) l157_94 (bO_f hk1 (ci := 9) (by rfl) rfl) (by decide) rfl (fun c2 => ?_) (fun c2 => b_pc (pc' := 97) rfl ?_)
  · refine b_s (pc' := 100) (lv1 := [(0, .ref 76), (1, bI v1), (2, bI v2), (3, bI v3)]) (st' := [.ref 76]) l157_99 (fun _ => rfl) ?_
    refine b_s (pc' := 101) (lv1 := [(0, .ref 76), (1, bI v1), (2, bI v2), (3, bI v3)]) (st' := [bI v1, .ref 76]) l157_100 (fun _ => rfl) ?_
    refine b_s (pc' := 102) (lv1 := [(0, .ref 76), (1, bI v1), (2, bI v2), (3, bI v3)]) (st' := [bI v2, bI v1, .ref 76]) l157_101 (fun _ => rfl) ?_
    refine b_s (pc' := 103) (lv1 := [(0, .ref 76), (1, bI v1), (2, bI v2), (3, bI v3)]) (st' := [bI v3, bI v2, bI v1, .ref 76]) l157_102 (fun _ => rfl) ?_
    refine b_lconst (e := 0) l157_103 (by decide) (b_pc (pc' := 104) rfl ?_)
    refine b_cMi l157_104 rfl (b_rc (ci := 9) (by rfl) (by decide) (by decide +kernel)) (Nat.le_of_ble_eq_true rfl) (Nat.le_of_ble_eq_true rfl) rfl (r_X11_add v1 h1 v2 h2 v3 h3 0 (by decide)) fun w3 μ4 hw3 => bD.ok fun hk5 => b_pc (pc' := 107) rfl ?_
    refine b_w (pc' := 109) (lv1 := ax_st1 [(0, .ref 76), (1, bI v1), (2, bI v2), (3, bI v3)] 4 (bI w3)) (lv' := [(0, .ref 76), (1, bI v1), (4, bI w3)]) (st' := []) l157_107 (fun _ => rfl) (bSb rfl (bSb rfl (bSb rfl bSn))) ?_
    refine b_bipush l157_109 (by decide) (b_pc (pc' := 111) rfl ?_)
    refine b_s (pc' := 112) (lv1 := [(0, .ref 76), (1, bI v1), (4, bI w3)]) (st' := [.ref 76, bI 8]) l157_111 (fun _ => rfl) ?_
    refine b_s (pc' := 113) (lv1 := [(0, .ref 76), (1, bI v1), (4, bI w3)]) (st' := [bI v1, .ref 76, bI 8]) l157_112 (fun _ => rfl) ?_
    refine b_cPi l157_113 rfl (b_rc (ci := 9) (by rfl) (by decide) (by decide +kernel)) (Nat.le_of_ble_eq_true rfl) (Nat.le_of_ble_eq_true rfl) rfl (r_X11_at v1 h1) fun w6 hw6 => b_pc (pc' := 116) rfl ?_
    refine b_imul l157_116 fun g7 => (b_pc (pc' := 117) rfl ?_)
    refine b_s (pc' := 119) (lv1 := [(0, .ref 76), (1, bI v1), (4, bI w3)]) (st' := [bI w3, bI (8 * w6)]) l157_117 (fun _ => rfl) ?_
    refine b_iadd l157_119 fun g8 => (b_pc (pc' := 120) rfl ?_)
    refine b_s (pc' := 121) (lv1 := [(0, .ref 76), (1, bI v1), (4, bI w3)]) (st' := [bI 1, bI ((8 * w6) + w3)]) l157_120 (fun _ => rfl) ?_
    refine b_isub l157_121 fun g9 => (b_pc (pc' := 122) rfl ?_)
    refine b_w (pc' := 124) (lv1 := ax_st1 [(0, .ref 76), (1, bI v1), (4, bI w3)] 5 (bI (((8 * w6) + w3) - 1))) (lv' := [(0, .ref 76), (4, bI w3), (5, bI (((8 * w6) + w3) - 1))]) (st' := []) l157_122 (fun _ => rfl) (bSb rfl (bSb rfl (bSb rfl bSn))) ?_
    refine b_s (pc' := 125) (lv1 := [(0, .ref 76), (4, bI w3), (5, bI (((8 * w6) + w3) - 1))]) (st' := [.ref 76]) l157_124 (fun _ => rfl) ?_
    refine b_gp (q' := 88) (j := 12) l157_125 (by rfl) (by decide) (by decide) rfl hk5 rfl rfl (b_pc (pc' := 128) rfl ?_)
    refine b_s (pc' := 130) (lv1 := [(0, .ref 76), (4, bI w3), (5, bI (((8 * w6) + w3) - 1))]) (st' := [bI (((8 * w6) + w3) - 1), .ref 88]) l157_128 (fun _ => rfl) ?_
    refine b_s (pc' := 132) (lv1 := [(0, .ref 76), (4, bI w3), (5, bI (((8 * w6) + w3) - 1))]) (st' := [bI 90000, bI (((8 * w6) + w3) - 1), .ref 88]) l157_130 (fun _ => rfl) ?_
    refine b_s (pc' := 133) (lv1 := [(0, .ref 76), (4, bI w3), (5, bI (((8 * w6) + w3) - 1))]) (st' := [.ref 76, bI 90000, bI (((8 * w6) + w3) - 1), .ref 88]) l157_132 (fun _ => rfl) ?_
    refine b_gi l157_133 (by rfl) (by decide) (by decide) rfl (b_pc (pc' := 136) rfl ?_)
    refine b_imul l157_136 fun g10 => (b_pc (pc' := 137) rfl ?_)
    refine b_s (pc' := 138) (lv1 := [(0, .ref 76), (4, bI w3), (5, bI (((8 * w6) + w3) - 1))]) (st' := [.ref 76, bI (90000 * (μ4 76 3)), bI (((8 * w6) + w3) - 1), .ref 88]) l157_137 (fun _ => rfl) ?_
    refine b_gp (q' := 91) (j := 15) l157_138 (by rfl) (by decide) (by decide) rfl hk5 rfl rfl (b_pc (pc' := 141) rfl ?_)
    refine b_s (pc' := 142) (lv1 := [(0, .ref 76), (4, bI w3), (5, bI (((8 * w6) + w3) - 1))]) (st' := [.ref 76, .ref 91, bI (90000 * (μ4 76 3)), bI (((8 * w6) + w3) - 1), .ref 88]) l157_141 (fun _ => rfl) ?_
    refine b_gi l157_142 (by rfl) (by decide) (by decide) rfl (b_pc (pc' := 145) rfl ?_)
    refine b_g fun g20 => ?_
    refine b_ial l157_145 (by rfl) g20 (b_pc (pc' := 146) rfl ?_)
    refine b_iadd l157_146 fun g11 => (b_pc (pc' := 147) rfl ?_)
    refine b_g fun g19 => ?_
    refine b_ias l157_147 (by rfl) g19 g11 (bD.ok fun hk12 => b_pc (pc' := 148) rfl ?_)
    refine b_s (pc' := 149) (lv1 := [(0, .ref 76), (4, bI w3), (5, bI (((8 * w6) + w3) - 1))]) (st' := [.ref 76]) l157_148 (fun _ => rfl) ?_
    refine b_gp (q' := 89) (j := 13) l157_149 (by rfl) (by decide) (by decide) rfl hk12 rfl rfl (b_pc (pc' := 152) rfl ?_)
    refine b_s (pc' := 154) (lv1 := [(0, .ref 76), (4, bI w3), (5, bI (((8 * w6) + w3) - 1))]) (st' := [bI (((8 * w6) + w3) - 1), .ref 89]) l157_152 (fun _ => rfl) ?_
    refine b_s (pc' := 155) (lv1 := [(0, .ref 76), (4, bI w3), (5, bI (((8 * w6) + w3) - 1))]) (st' := [.ref 76, bI (((8 * w6) + w3) - 1), .ref 89]) l157_154 (fun _ => rfl) ?_
    refine b_gi l157_155 (by rfl) (by decide) (by decide) rfl (b_pc (pc' := 158) rfl ?_)
    refine b_g fun g18 => ?_
    refine b_ias l157_158 (by rfl) g18 (bO_f hk12 (ci := 9) (by rfl) rfl) (bD.ok fun hk13 => b_pc (pc' := 159) rfl ?_)
    refine b_s (pc' := 160) (lv1 := [(0, .ref 76), (4, bI w3), (5, bI (((8 * w6) + w3) - 1))]) (st' := [.ref 76]) l157_159 (fun _ => rfl) ?_
    refine b_gp (q' := 90) (j := 14) l157_160 (by rfl) (by decide) (by decide) rfl hk13 rfl rfl (b_pc (pc' := 163) rfl ?_)
    refine b_s (pc' := 164) (lv1 := [(0, .ref 76), (4, bI w3), (5, bI (((8 * w6) + w3) - 1))]) (st' := [.ref 76, .ref 90]) l157_163 (fun _ => rfl) ?_
    refine b_gi l157_164 (by rfl) (by decide) (by decide) rfl (b_pc (pc' := 167) rfl ?_)
    refine b_s (pc' := 168) (lv1 := [(0, .ref 76), (4, bI w3), (5, bI (((8 * w6) + w3) - 1))]) (st' := [.ref 76, bI ((bset (bset μ4 88 (((8 * w6) + w3) - 1).toNat ((90000 * (μ4 76 3)) + (μ4 91 (μ4 76 3).toNat))) 89 (((8 * w6) + w3) - 1).toNat ((bset μ4 88 (((8 * w6) + w3) - 1).toNat ((90000 * (μ4 76 3)) + (μ4 91 (μ4 76 3).toNat))) 76 2)) 76 3), .ref 90]) l157_167 (fun _ => rfl) ?_
    refine b_gp (q' := 90) (j := 14) l157_168 (by rfl) (by decide) (by decide) rfl hk13 rfl rfl (b_pc (pc' := 171) rfl ?_)
    refine b_s (pc' := 172) (lv1 := [(0, .ref 76), (4, bI w3), (5, bI (((8 * w6) + w3) - 1))]) (st' := [.ref 76, .ref 90, bI ((bset (bset μ4 88 (((8 * w6) + w3) - 1).toNat ((90000 * (μ4 76 3)) + (μ4 91 (μ4 76 3).toNat))) 89 (((8 * w6) + w3) - 1).toNat ((bset μ4 88 (((8 * w6) + w3) - 1).toNat ((90000 * (μ4 76 3)) + (μ4 91 (μ4 76 3).toNat))) 76 2)) 76 3), .ref 90]) l157_171 (fun _ => rfl) ?_
    refine b_gi l157_172 (by rfl) (by decide) (by decide) rfl (b_pc (pc' := 175) rfl ?_)
    refine b_g fun g17 => ?_
    refine b_ial l157_175 (by rfl) g17 (b_pc (pc' := 176) rfl ?_)
    refine b_s (pc' := 177) (lv1 := [(0, .ref 76), (4, bI w3), (5, bI (((8 * w6) + w3) - 1))]) (st' := [.ref 76, bI ((bset (bset μ4 88 (((8 * w6) + w3) - 1).toNat ((90000 * (μ4 76 3)) + (μ4 91 (μ4 76 3).toNat))) 89 (((8 * w6) + w3) - 1).toNat ((bset μ4 88 (((8 * w6) + w3) - 1).toNat ((90000 * (μ4 76 3)) + (μ4 91 (μ4 76 3).toNat))) 76 2)) 90 ((bset (bset μ4 88 (((8 * w6) + w3) - 1).toNat ((90000 * (μ4 76 3)) + (μ4 91 (μ4 76 3).toNat))) 89 (((8 * w6) + w3) - 1).toNat ((bset μ4 88 (((8 * w6) + w3) - 1).toNat ((90000 * (μ4 76 3)) + (μ4 91 (μ4 76 3).toNat))) 76 2)) 76 3).toNat), bI ((bset (bset μ4 88 (((8 * w6) + w3) - 1).toNat ((90000 * (μ4 76 3)) + (μ4 91 (μ4 76 3).toNat))) 89 (((8 * w6) + w3) - 1).toNat ((bset μ4 88 (((8 * w6) + w3) - 1).toNat ((90000 * (μ4 76 3)) + (μ4 91 (μ4 76 3).toNat))) 76 2)) 76 3), .ref 90]) l157_176 (fun _ => rfl) ?_
    refine b_gi l157_177 (by rfl) (by decide) (by decide) rfl (b_pc (pc' := 180) rfl ?_)
    refine b_iadd l157_180 fun g14 => (b_pc (pc' := 181) rfl ?_)
    refine b_g fun g16 => ?_
    refine b_ias l157_181 (by rfl) g16 g14 (bD.ok fun hk15 => b_pc (pc' := 182) rfl ?_)
    refine b_s (pc' := 183) (lv1 := [(0, .ref 76), (4, bI w3), (5, bI (((8 * w6) + w3) - 1))]) (st' := [bI 0]) l157_182 (fun _ => rfl) ?_
    refine b_w (pc' := 185) (lv1 := ax_st1 [(0, .ref 76), (4, bI w3), (5, bI (((8 * w6) + w3) - 1))] 6 (bI 0)) (lv' := [(0, .ref 76), (4, bI w3), (5, bI (((8 * w6) + w3) - 1)), (6, bI 0)]) (st' := []) l157_183 (fun _ => rfl) (bSb rfl (bSb rfl (bSb rfl (bSb rfl bSn)))) ?_
    refine bD.wk (lv' := [(0, .ref 76), (4, bI w3), (5, bI (((8 * w6) + w3) - 1)), (6, bI 0)]) (bSb rfl (bSb rfl (bSb rfl (bSb rfl bSn)))) ?_
    exact p_X11_bytes_185 hr hw3 g9 (by decide)
  · refine b_s (pc' := 98) (lv1 := [(0, .ref 76), (1, bI v1), (2, bI v2), (3, bI v3)]) (st' := [bI 0]) l157_97 (fun _ => rfl) ?_
    exact b_reti l157_98 rfl (by decide) (hr _)
theorem p_X11_bytes_50 {L : Nat} {xs : Nat → Int32} {d : Nat} {μ : bM}  {κ : (Int × bM) → Option bX} (hr : ∀ r : Int × bM, κ r = (bMc) r)  {v1 : Int} (h1 : bR v1) {v2 : Int} (h2 : bR v2) {v3 : Int} (h3 : bR v3) : bD L xs (d + 2) 157 50 [(0, .ref 76), (1, bI v1), (2, bI v2), (3, bI v3)] [.ref 76] μ ((F_X11_bytes_50 v1 v2 v3 μ).bind κ) := by
  unfold F_X11_bytes_50
  refine bD.ok fun hk => ?_
  refine b_s (pc' := 51) (lv1 := [(0, .ref 76), (1, bI v1), (2, bI v2), (3, bI v3)]) (st' := [bI 2, .ref 76]) l157_50 (fun _ => rfl) ?_
  refine b_s (pc' := 87) (lv1 := [(0, .ref 76), (1, bI v1), (2, bI v2), (3, bI v3)]) (st' := [bI 2, .ref 76]) l157_51 (fun _ => rfl) ?_
  refine bD.wk (lv' := [(0, .ref 76), (1, bI v1), (2, bI v2), (3, bI v3)]) (bSb rfl (bSb rfl (bSb rfl (bSb rfl bSn)))) ?_
  exact p_X11_bytes_87 hr h1 h2 h3 (by decide)
theorem p_X11_bytes_82 {L : Nat} {xs : Nat → Int32} {d : Nat} {μ : bM}  {κ : (Int × bM) → Option bX} (hr : ∀ r : Int × bM, κ r = (bMc) r)  {v1 : Int} (h1 : bR v1) {v2 : Int} (h2 : bR v2) {v3 : Int} (h3 : bR v3) : bD L xs (d + 2) 157 82 [(0, .ref 76), (1, bI v1), (2, bI v2), (3, bI v3)] [.ref 76] μ ((F_X11_bytes_82 v1 v2 v3 μ).bind κ) := by
  unfold F_X11_bytes_82
  refine bD.ok fun hk => ?_
  refine b_s (pc' := 83) (lv1 := [(0, .ref 76), (1, bI v1), (2, bI v2), (3, bI v3)]) (st' := [bI 3, .ref 76]) l157_82 (fun _ => rfl) ?_
  refine b_s (pc' := 87) (lv1 := [(0, .ref 76), (1, bI v1), (2, bI v2), (3, bI v3)]) (st' := [bI 3, .ref 76]) l157_83 (fun _ => rfl) ?_
  refine bD.wk (lv' := [(0, .ref 76), (1, bI v1), (2, bI v2), (3, bI v3)]) (bSb rfl (bSb rfl (bSb rfl (bSb rfl bSn)))) ?_
  exact p_X11_bytes_87 hr h1 h2 h3 (by decide)
theorem p_X11_bytes_33 {L : Nat} {xs : Nat → Int32} {d : Nat} {μ : bM}  {κ : (Int × bM) → Option bX} (hr : ∀ r : Int × bM, κ r = (bMc) r)  {v1 : Int} (h1 : bR v1) {v2 : Int} (h2 : bR v2) {v3 : Int} (h3 : bR v3) : bD L xs (d + 2) 157 33 [(0, .ref 76), (1, bI v1), (2, bI v2), (3, bI v3)] [.ref 76] μ ((F_X11_bytes_33 v1 v2 v3 μ).bind κ) := by
  unfold F_X11_bytes_33
  refine bD.ok fun hk => ?_
  refine b_s (pc' := 34) (lv1 := [(0, .ref 76), (1, bI v1), (2, bI v2), (3, bI v3)]) (st' := [.ref 76, .ref 76]) l157_33 (fun _ => rfl) ?_
  refine b_s (pc' := 35) (lv1 := [(0, .ref 76), (1, bI v1), (2, bI v2), (3, bI v3)]) (st' := [bI v3, .ref 76, .ref 76]) l157_34 (fun _ => rfl) ?_
  refine b_cPz l157_35 rfl (b_rc (ci := 9) (by rfl) (by decide) (by decide +kernel)) (Nat.le_of_ble_eq_true rfl) (Nat.le_of_ble_eq_true rfl) rfl (r_X11_areBytes v3 h3) fun w1 hw1 => b_pc (pc' := 38) rfl ?_
  refine b_zeq (pt := 50) l157_38 (bZ_R hw1) (by decide) rfl (fun c2 => ?_) (fun c2 => b_pc (pc' := 41) rfl ?_)
  · refine bD.wk (lv' := [(0, .ref 76), (1, bI v1), (2, bI v2), (3, bI v3)]) (bSb rfl (bSb rfl (bSb rfl (bSb rfl bSn)))) ?_
    exact p_X11_bytes_50 hr h1 h2 h3
  · refine b_s (pc' := 42) (lv1 := [(0, .ref 76), (1, bI v1), (2, bI v2), (3, bI v3)]) (st' := [.ref 76, .ref 76]) l157_41 (fun _ => rfl) ?_
    refine b_s (pc' := 43) (lv1 := [(0, .ref 76), (1, bI v1), (2, bI v2), (3, bI v3)]) (st' := [bI v1, .ref 76, .ref 76]) l157_42 (fun _ => rfl) ?_
    refine b_s (pc' := 44) (lv1 := [(0, .ref 76), (1, bI v1), (2, bI v2), (3, bI v3)]) (st' := [bI v2, bI v1, .ref 76, .ref 76]) l157_43 (fun _ => rfl) ?_
    refine b_cPz l157_44 rfl (b_rc (ci := 9) (by rfl) (by decide) (by decide +kernel)) (Nat.le_of_ble_eq_true rfl) (Nat.le_of_ble_eq_true rfl) rfl (r_X11_isTold v1 h1 v2 h2) fun w3 hw3 => b_pc (pc' := 47) rfl ?_
    refine b_zeq (pt := 54) l157_47 (bZ_R hw3) (by decide) rfl (fun c4 => ?_) (fun c4 => b_pc (pc' := 50) rfl ?_)
    · refine b_s (pc' := 55) (lv1 := [(0, .ref 76), (1, bI v1), (2, bI v2), (3, bI v3)]) (st' := [.ref 76, .ref 76]) l157_54 (fun _ => rfl) ?_
      refine b_s (pc' := 56) (lv1 := [(0, .ref 76), (1, bI v1), (2, bI v2), (3, bI v3)]) (st' := [bI v1, .ref 76, .ref 76]) l157_55 (fun _ => rfl) ?_
      refine b_cPz l157_56 rfl (b_rc (ci := 9) (by rfl) (by decide) (by decide +kernel)) (Nat.le_of_ble_eq_true rfl) (Nat.le_of_ble_eq_true rfl) rfl (r_X11_isFull v1 h1) fun w5 hw5 => b_pc (pc' := 59) rfl ?_
      refine b_zne (pt := 82) l157_59 (bZ_R hw5) (by decide) rfl (fun c6 => ?_) (fun c6 => b_pc (pc' := 62) rfl ?_)
      · refine bD.wk (lv' := [(0, .ref 76), (1, bI v1), (2, bI v2), (3, bI v3)]) (bSb rfl (bSb rfl (bSb rfl (bSb rfl bSn)))) ?_
        exact p_X11_bytes_82 hr h1 h2 h3
      · refine b_s (pc' := 63) (lv1 := [(0, .ref 76), (1, bI v1), (2, bI v2), (3, bI v3)]) (st' := [.ref 76, .ref 76]) l157_62 (fun _ => rfl) ?_
        refine b_gp (q' := 90) (j := 14) l157_63 (by rfl) (by decide) (by decide) rfl hk rfl rfl (b_pc (pc' := 66) rfl ?_)
        refine b_s (pc' := 67) (lv1 := [(0, .ref 76), (1, bI v1), (2, bI v2), (3, bI v3)]) (st' := [.ref 76, .ref 90, .ref 76]) l157_66 (fun _ => rfl) ?_
        refine b_gi l157_67 (by rfl) (by decide) (by decide) rfl (b_pc (pc' := 70) rfl ?_)
        refine b_g fun g9 => ?_
        refine b_ial l157_70 (by rfl) g9 (b_pc (pc' := 71) rfl ?_)
        refine b_s (pc' := 72) (lv1 := [(0, .ref 76), (1, bI v1), (2, bI v2), (3, bI v3)]) (st' := [.ref 76, bI (μ 90 (μ 76 3).toNat), .ref 76]) l157_71 (fun _ => rfl) ?_
        refine b_gi l157_72 (by rfl) (by decide) (by decide) rfl (b_pc (pc' := 75) rfl ?_)
        refine b_iadd l157_75 fun g7 => (b_pc (pc' := 76) rfl ?_)
        refine b_sipush l157_76 (by decide) (b_pc (pc' := 79) rfl ?_)
        refine b_ile (pt := 86) l157_79 g7 (by decide) (by decide) rfl (fun c8 => ?_) (fun c8 => b_pc (pc' := 82) rfl ?_)
        · refine b_s (pc' := 87) (lv1 := [(0, .ref 76), (1, bI v1), (2, bI v2), (3, bI v3)]) (st' := [bI 0, .ref 76]) l157_86 (fun _ => rfl) ?_
          refine bD.wk (lv' := [(0, .ref 76), (1, bI v1), (2, bI v2), (3, bI v3)]) (bSb rfl (bSb rfl (bSb rfl (bSb rfl bSn)))) ?_
          exact p_X11_bytes_87 hr h1 h2 h3 (by decide)
        · refine bD.wk (lv' := [(0, .ref 76), (1, bI v1), (2, bI v2), (3, bI v3)]) (bSb rfl (bSb rfl (bSb rfl (bSb rfl bSn)))) ?_
          exact p_X11_bytes_82 hr h1 h2 h3
    · refine bD.wk (lv' := [(0, .ref 76), (1, bI v1), (2, bI v2), (3, bI v3)]) (bSb rfl (bSb rfl (bSb rfl (bSb rfl bSn)))) ?_
      exact p_X11_bytes_50 hr h1 h2 h3
theorem r_X11_bytes {L : Nat} {xs : Nat → Int32} {d : Nat} {μ : bM}  (v1 : Int) (h1 : bR v1) (v2 : Int) (h2 : bR v2) (v3 : Int) (h3 : bR v3) : bD L xs (d + 2) 157 0 [(0, .ref 76), (1, bI v1), (2, bI v2), (3, bI v3)] [] μ ((F_X11_bytes v1 v2 v3 μ).bind (bMc)) := by
  have hr : ∀ r, (bMc) r = (bMc) r := fun _ => rfl
  unfold F_X11_bytes
  refine bD.ok fun hk => ?_
  refine b_s (pc' := 1) (lv1 := [(0, .ref 76), (1, bI v1), (2, bI v2), (3, bI v3)]) (st' := [.ref 76]) l157_0 (fun _ => rfl) ?_
  refine b_s (pc' := 2) (lv1 := [(0, .ref 76), (1, bI v1), (2, bI v2), (3, bI v3)]) (st' := [.ref 76, .ref 76]) l157_1 (fun _ => rfl) ?_
  refine b_s (pc' := 3) (lv1 := [(0, .ref 76), (1, bI v1), (2, bI v2), (3, bI v3)]) (st' := [bI v1, .ref 76, .ref 76]) l157_2 (fun _ => rfl) ?_
  refine b_cPz l157_3 rfl (b_rc (ci := 9) (by rfl) (by decide) (by decide +kernel)) (Nat.le_of_ble_eq_true rfl) (Nat.le_of_ble_eq_true rfl) rfl (r_X11_isEntry v1 h1) fun w1 hw1 => b_pc (pc' := 6) rfl ?_
  refine b_zne (pt := 13) l157_6 (bZ_R hw1) (by decide) rfl (fun c2 => ?_) (fun c2 => b_pc (pc' := 9) rfl ?_)
  · refine b_s (pc' := 14) (lv1 := [(0, .ref 76), (1, bI v1), (2, bI v2), (3, bI v3)]) (st' := [bI v2, .ref 76]) l157_13 (fun _ => rfl) ?_
    refine b_cPz l157_14 rfl (fun _ => trivial) (Nat.le_of_ble_eq_true rfl) (Nat.le_of_ble_eq_true rfl) rfl (r_X11_isName v2 h2) fun w3 hw3 => b_pc (pc' := 17) rfl ?_
    refine b_zeq (pt := 50) l157_17 (bZ_R hw3) (by decide) rfl (fun c4 => ?_) (fun c4 => b_pc (pc' := 20) rfl ?_)
    · refine bD.wk (lv' := [(0, .ref 76), (1, bI v1), (2, bI v2), (3, bI v3)]) (bSb rfl (bSb rfl (bSb rfl (bSb rfl bSn)))) ?_
      exact p_X11_bytes_50 hr h1 h2 h3
    · refine b_s (pc' := 21) (lv1 := [(0, .ref 76), (1, bI v1), (2, bI v2), (3, bI v3)]) (st' := [bI v3, .ref 76]) l157_20 (fun _ => rfl) ?_
      refine b_cPz l157_21 rfl (fun _ => trivial) (Nat.le_of_ble_eq_true rfl) (Nat.le_of_ble_eq_true rfl) rfl (r_X11_isText v3 h3) fun w5 hw5 => b_pc (pc' := 24) rfl ?_
      refine b_zne (pt := 33) l157_24 (bZ_R hw5) (by decide) rfl (fun c6 => ?_) (fun c6 => b_pc (pc' := 27) rfl ?_)
      · refine bD.wk (lv' := [(0, .ref 76), (1, bI v1), (2, bI v2), (3, bI v3)]) (bSb rfl (bSb rfl (bSb rfl (bSb rfl bSn)))) ?_
        exact p_X11_bytes_33 hr h1 h2 h3
      · refine b_s (pc' := 28) (lv1 := [(0, .ref 76), (1, bI v1), (2, bI v2), (3, bI v3)]) (st' := [bI v3, .ref 76]) l157_27 (fun _ => rfl) ?_
        refine b_bipush l157_28 (by decide) (b_pc (pc' := 30) rfl ?_)
        refine b_ine (pt := 50) l157_30 h3 (by decide) (by decide) rfl (fun c7 => ?_) (fun c7 => b_pc (pc' := 33) rfl ?_)
        · refine bD.wk (lv' := [(0, .ref 76), (1, bI v1), (2, bI v2), (3, bI v3)]) (bSb rfl (bSb rfl (bSb rfl (bSb rfl bSn)))) ?_
          exact p_X11_bytes_50 hr h1 h2 h3
        · refine bD.wk (lv' := [(0, .ref 76), (1, bI v1), (2, bI v2), (3, bI v3)]) (bSb rfl (bSb rfl (bSb rfl (bSb rfl bSn)))) ?_
          exact p_X11_bytes_33 hr h1 h2 h3
  · refine b_s (pc' := 10) (lv1 := [(0, .ref 76), (1, bI v1), (2, bI v2), (3, bI v3)]) (st' := [bI 1, .ref 76]) l157_9 (fun _ => rfl) ?_
    refine b_s (pc' := 87) (lv1 := [(0, .ref 76), (1, bI v1), (2, bI v2), (3, bI v3)]) (st' := [bI 1, .ref 76]) l157_10 (fun _ => rfl) ?_
    refine bD.wk (lv' := [(0, .ref 76), (1, bI v1), (2, bI v2), (3, bI v3)]) (bSb rfl (bSb rfl (bSb rfl (bSb rfl bSn)))) ?_
    exact p_X11_bytes_87 hr h1 h2 h3 (by decide)
/-! ETModel.reference -/
theorem l158_0 : (ax_dt (ax_T 158)).lookup 0 = some (.aload_n 0, 1, 0, 0, 0) := by decide +kernel
theorem l158_1 : (ax_dt (ax_T 158)).lookup 1 = some (.aload_n 0, 1, 0, 0, 0) := by decide +kernel
theorem l158_2 : (ax_dt (ax_T 158)).lookup 2 = some (.iload_n 1, 1, 0, 0, 0) := by decide +kernel
theorem l158_3 : (ax_dt (ax_T 158)).lookup 3 = some (.invokevirtual 152, 3, 142, 1, 0) := by decide +kernel
theorem l158_6 : (ax_dt (ax_T 158)).lookup 6 = some (.ifCond .eq 12, 3, 0, 0, 0) := by decide +kernel
theorem l158_9 : (ax_dt (ax_T 158)).lookup 9 = some (.aload_n 0, 1, 0, 0, 0) := by decide +kernel
theorem l158_10 : (ax_dt (ax_T 158)).lookup 10 = some (.iload 4, 2, 0, 0, 0) := by decide +kernel
theorem l158_12 : (ax_dt (ax_T 158)).lookup 12 = some (.invokevirtual 152, 3, 142, 1, 0) := by decide +kernel
theorem l158_15 : (ax_dt (ax_T 158)).lookup 15 = some (.ifCond .ne 7, 3, 0, 0, 0) := by decide +kernel
theorem l158_18 : (ax_dt (ax_T 158)).lookup 18 = some (.iconst 1, 1, 0, 0, 0) := by decide +kernel
theorem l158_19 : (ax_dt (ax_T 158)).lookup 19 = some (.goto 71, 3, 0, 0, 0) := by decide +kernel
theorem l158_22 : (ax_dt (ax_T 158)).lookup 22 = some (.aload_n 0, 1, 0, 0, 0) := by decide +kernel
theorem l158_23 : (ax_dt (ax_T 158)).lookup 23 = some (.getfield 29, 3, 9, 9, 0) := by decide +kernel
theorem l158_26 : (ax_dt (ax_T 158)).lookup 26 = some (.aload_n 0, 1, 0, 0, 0) := by decide +kernel
theorem l158_27 : (ax_dt (ax_T 158)).lookup 27 = some (.iload_n 1, 1, 0, 0, 0) := by decide +kernel
theorem l158_28 : (ax_dt (ax_T 158)).lookup 28 = some (.invokevirtual 140, 3, 141, 1, 0) := by decide +kernel
theorem l158_31 : (ax_dt (ax_T 158)).lookup 31 = some (.iaload, 1, 0, 0, 0) := by decide +kernel
theorem l158_32 : (ax_dt (ax_T 158)).lookup 32 = some (.aload_n 0, 1, 0, 0, 0) := by decide +kernel
theorem l158_33 : (ax_dt (ax_T 158)).lookup 33 = some (.getfield 29, 3, 9, 9, 0) := by decide +kernel
theorem l158_36 : (ax_dt (ax_T 158)).lookup 36 = some (.aload_n 0, 1, 0, 0, 0) := by decide +kernel
theorem l158_37 : (ax_dt (ax_T 158)).lookup 37 = some (.iload 4, 2, 0, 0, 0) := by decide +kernel
theorem l158_39 : (ax_dt (ax_T 158)).lookup 39 = some (.invokevirtual 140, 3, 141, 1, 0) := by decide +kernel
theorem l158_42 : (ax_dt (ax_T 158)).lookup 42 = some (.iaload, 1, 0, 0, 0) := by decide +kernel
theorem l158_43 : (ax_dt (ax_T 158)).lookup 43 = some (.if_icmp .eq 7, 3, 0, 0, 0) := by decide +kernel
theorem l158_46 : (ax_dt (ax_T 158)).lookup 46 = some (.iconst 2, 1, 0, 0, 0) := by decide +kernel
theorem l158_47 : (ax_dt (ax_T 158)).lookup 47 = some (.goto 43, 3, 0, 0, 0) := by decide +kernel
theorem l158_50 : (ax_dt (ax_T 158)).lookup 50 = some (.iload_n 2, 1, 0, 0, 0) := by decide +kernel
theorem l158_51 : (ax_dt (ax_T 158)).lookup 51 = some (.invokestatic 144, 3, 140, 1, 0) := by decide +kernel
theorem l158_54 : (ax_dt (ax_T 158)).lookup 54 = some (.ifCond .eq 19, 3, 0, 0, 0) := by decide +kernel
theorem l158_57 : (ax_dt (ax_T 158)).lookup 57 = some (.iload_n 3, 1, 0, 0, 0) := by decide +kernel
theorem l158_58 : (ax_dt (ax_T 158)).lookup 58 = some (.invokestatic 168, 3, 149, 1, 0) := by decide +kernel
theorem l158_61 : (ax_dt (ax_T 158)).lookup 61 = some (.ifCond .eq 12, 3, 0, 0, 0) := by decide +kernel
theorem l158_64 : (ax_dt (ax_T 158)).lookup 64 = some (.aload_n 0, 1, 0, 0, 0) := by decide +kernel
theorem l158_65 : (ax_dt (ax_T 158)).lookup 65 = some (.iload_n 1, 1, 0, 0, 0) := by decide +kernel
theorem l158_66 : (ax_dt (ax_T 158)).lookup 66 = some (.iload_n 2, 1, 0, 0, 0) := by decide +kernel
theorem l158_67 : (ax_dt (ax_T 158)).lookup 67 = some (.invokevirtual 181, 3, 152, 2, 0) := by decide +kernel
theorem l158_70 : (ax_dt (ax_T 158)).lookup 70 = some (.ifCond .eq 7, 3, 0, 0, 0) := by decide +kernel
theorem l158_73 : (ax_dt (ax_T 158)).lookup 73 = some (.iconst 3, 1, 0, 0, 0) := by decide +kernel
theorem l158_74 : (ax_dt (ax_T 158)).lookup 74 = some (.goto 16, 3, 0, 0, 0) := by decide +kernel
theorem l158_77 : (ax_dt (ax_T 158)).lookup 77 = some (.aload_n 0, 1, 0, 0, 0) := by decide +kernel
theorem l158_78 : (ax_dt (ax_T 158)).lookup 78 = some (.iload_n 1, 1, 0, 0, 0) := by decide +kernel
theorem l158_79 : (ax_dt (ax_T 158)).lookup 79 = some (.invokevirtual 185, 3, 154, 1, 0) := by decide +kernel
theorem l158_82 : (ax_dt (ax_T 158)).lookup 82 = some (.ifCond .eq 7, 3, 0, 0, 0) := by decide +kernel
theorem l158_85 : (ax_dt (ax_T 158)).lookup 85 = some (.iconst 4, 1, 0, 0, 0) := by decide +kernel
theorem l158_86 : (ax_dt (ax_T 158)).lookup 86 = some (.goto 4, 3, 0, 0, 0) := by decide +kernel
theorem l158_89 : (ax_dt (ax_T 158)).lookup 89 = some (.iconst 0, 1, 0, 0, 0) := by decide +kernel
theorem l158_90 : (ax_dt (ax_T 158)).lookup 90 = some (.putfield 120, 3, 9, 0, 0) := by decide +kernel
theorem l158_93 : (ax_dt (ax_T 158)).lookup 93 = some (.aload_n 0, 1, 0, 0, 0) := by decide +kernel
theorem l158_94 : (ax_dt (ax_T 158)).lookup 94 = some (.getfield 120, 3, 9, 0, 0) := by decide +kernel
theorem l158_97 : (ax_dt (ax_T 158)).lookup 97 = some (.ifCond .le 7, 3, 0, 0, 0) := by decide +kernel
theorem l158_100 : (ax_dt (ax_T 158)).lookup 100 = some (.iconst 0, 1, 0, 0, 0) := by decide +kernel
theorem l158_101 : (ax_dt (ax_T 158)).lookup 101 = some (.goto 13, 3, 0, 0, 0) := by decide +kernel
theorem l158_104 : (ax_dt (ax_T 158)).lookup 104 = some (.aload_n 0, 1, 0, 0, 0) := by decide +kernel
theorem l158_105 : (ax_dt (ax_T 158)).lookup 105 = some (.iload_n 1, 1, 0, 0, 0) := by decide +kernel
theorem l158_106 : (ax_dt (ax_T 158)).lookup 106 = some (.iload_n 2, 1, 0, 0, 0) := by decide +kernel
theorem l158_107 : (ax_dt (ax_T 158)).lookup 107 = some (.iload_n 3, 1, 0, 0, 0) := by decide +kernel
theorem l158_108 : (ax_dt (ax_T 158)).lookup 108 = some (.iload 4, 2, 0, 0, 0) := by decide +kernel
theorem l158_110 : (ax_dt (ax_T 158)).lookup 110 = some (.i2l, 1, 0, 0, 0) := by decide +kernel
theorem l158_111 : (ax_dt (ax_T 158)).lookup 111 = some (.invokevirtual 188, 3, 153, 4, 0) := by decide +kernel
theorem l158_114 : (ax_dt (ax_T 158)).lookup 114 = some (.ireturn, 1, 0, 0, 0) := by decide +kernel
noncomputable def F_X11_reference_90 (v1 : Int) (v2 : Int) (v3 : Int) (v4 : Int) (y1 : Int) (μ : bM) : Option (Int × bM) := if ((bset μ 76 0 y1) 76 0) ≤ 0 then bMm (F_X11_add v1 v2 v3 v4 (bset μ 76 0 y1)) (fun w3 μ4 => some (w3, μ4)) else some (0, (bset μ 76 0 y1))
noncomputable def F_X11_reference_18 (v1 : Int) (v2 : Int) (v3 : Int) (v4 : Int) (μ : bM) : Option (Int × bM) := F_X11_reference_90 v1 v2 v3 v4 1 μ
noncomputable def F_X11_reference_73 (v1 : Int) (v2 : Int) (v3 : Int) (v4 : Int) (μ : bM) : Option (Int × bM) := F_X11_reference_90 v1 v2 v3 v4 3 μ
noncomputable def F_X11_reference (v1 : Int) (v2 : Int) (v3 : Int) (v4 : Int) (μ : bM) : Option (Int × bM) := (F_X11_isEntry v1 μ).bind fun w1 => if w1 = 0 then F_X11_reference_18 v1 v2 v3 v4 μ else (F_X11_isEntry v4 μ).bind fun w3 => if ¬ w3 = 0 then (F_X11_at v1 μ).bind fun w5 => bG (0 ≤ w5 ∧ w5 < 800) ((F_X11_at v4 μ).bind fun w6 => bG (0 ≤ w6 ∧ w6 < 800) (if (μ 83 w5.toNat) = (μ 83 w6.toNat) then (F_X11_isName v2 μ).bind fun w8 => if w8 = 0 then F_X11_reference_73 v1 v2 v3 v4 μ else (F_X11_isReference v3 μ).bind fun w10 => if w10 = 0 then F_X11_reference_73 v1 v2 v3 v4 μ else (F_X11_isTold v1 v2 μ).bind fun w12 => if w12 = 0 then (F_X11_isFull v1 μ).bind fun w14 => if w14 = 0 then F_X11_reference_90 v1 v2 v3 v4 0 μ else F_X11_reference_90 v1 v2 v3 v4 4 μ else F_X11_reference_73 v1 v2 v3 v4 μ else F_X11_reference_90 v1 v2 v3 v4 2 μ)) else F_X11_reference_18 v1 v2 v3 v4 μ
theorem p_X11_reference_90 {L : Nat} {xs : Nat → Int32} {d : Nat} {μ : bM}  {κ : (Int × bM) → Option bX} (hr : ∀ r : Int × bM, κ r = (bMc) r)  {v1 : Int} (h1 : bR v1) {v2 : Int} (h2 : bR v2) {v3 : Int} (h3 : bR v3) {v4 : Int} (h4 : bR v4) {y1 : Int} (hy1 : bR y1) : bD L xs (d + 2) 158 90 [(0, .ref 76), (1, bI v1), (2, bI v2), (3, bI v3), (4, bI v4)] [bI y1, .ref 76] μ ((F_X11_reference_90 v1 v2 v3 v4 y1 μ).bind κ) := by
  unfold F_X11_reference_90
  refine bD.ok fun hk => ?_
  refine b_pi l158_90 (by rfl) (by decide) (by decide) rfl rfl hy1 (bD.ok fun hk1 => b_pc (pc' := 93) rfl ?_)
  refine b_s (pc' := 94) (lv1 := [(0, .ref 76), (1, bI v1), (2, bI v2), (3, bI v3), (4, bI v4)]) (st' := [.ref 76]) l158_93 (fun _ => rfl) ?_
  refine b_gi l158_94 (by rfl) (by decide) (by decide) rfl (b_pc (pc' := 97) rfl ?_)
  refine b_zle (pt := 104) l158_97 (bO_f hk1 (ci := 9) (by rfl) rfl) (by decide) rfl (fun c2 => ?_) (fun c2 => b_pc (pc' := 100) rfl ?_)
  · refine b_s (pc' := 105) (lv1 := [(0, .ref 76), (1, bI v1), (2, bI v2), (3, bI v3), (4, bI v4)]) (st' := [.ref 76]) l158_104 (fun _ => rfl) ?_
    refine b_s (pc' := 106) (lv1 := [(0, .ref 76), (1, bI v1), (2, bI v2), (3, bI v3), (4, bI v4)]) (st' := [bI v1, .ref 76]) l158_105 (fun _ => rfl) ?_
    refine b_s (pc' := 107) (lv1 := [(0, .ref 76), (1, bI v1), (2, bI v2), (3, bI v3), (4, bI v4)]) (st' := [bI v2, bI v1, .ref 76]) l158_106 (fun _ => rfl) ?_
    refine b_s (pc' := 108) (lv1 := [(0, .ref 76), (1, bI v1), (2, bI v2), (3, bI v3), (4, bI v4)]) (st' := [bI v3, bI v2, bI v1, .ref 76]) l158_107 (fun _ => rfl) ?_
    refine b_s (pc' := 110) (lv1 := [(0, .ref 76), (1, bI v1), (2, bI v2), (3, bI v3), (4, bI v4)]) (st' := [bI v4, bI v3, bI v2, bI v1, .ref 76]) l158_108 (fun _ => rfl) ?_
    refine b_i2l l158_110 h4 (b_pc (pc' := 111) rfl ?_)
    refine b_cMi l158_111 rfl (b_rc (ci := 9) (by rfl) (by decide) (by decide +kernel)) (Nat.le_of_ble_eq_true rfl) (Nat.le_of_ble_eq_true rfl) rfl (r_X11_add v1 h1 v2 h2 v3 h3 v4 (bR_L h4)) fun w3 μ4 hw3 => bD.ok fun hk5 => b_pc (pc' := 114) rfl ?_
    exact b_reti l158_114 rfl hw3 (hr _)
  · refine b_s (pc' := 101) (lv1 := [(0, .ref 76), (1, bI v1), (2, bI v2), (3, bI v3), (4, bI v4)]) (st' := [bI 0]) l158_100 (fun _ => rfl) ?_
    refine b_s (pc' := 114) (lv1 := [(0, .ref 76), (1, bI v1), (2, bI v2), (3, bI v3), (4, bI v4)]) (st' := [bI 0]) l158_101 (fun _ => rfl) ?_
    exact b_reti l158_114 rfl (by decide) (hr _)
theorem p_X11_reference_18 {L : Nat} {xs : Nat → Int32} {d : Nat} {μ : bM}  {κ : (Int × bM) → Option bX} (hr : ∀ r : Int × bM, κ r = (bMc) r)  {v1 : Int} (h1 : bR v1) {v2 : Int} (h2 : bR v2) {v3 : Int} (h3 : bR v3) {v4 : Int} (h4 : bR v4) : bD L xs (d + 2) 158 18 [(0, .ref 76), (1, bI v1), (2, bI v2), (3, bI v3), (4, bI v4)] [.ref 76] μ ((F_X11_reference_18 v1 v2 v3 v4 μ).bind κ) := by
  unfold F_X11_reference_18
  refine bD.ok fun hk => ?_
  refine b_s (pc' := 19) (lv1 := [(0, .ref 76), (1, bI v1), (2, bI v2), (3, bI v3), (4, bI v4)]) (st' := [bI 1, .ref 76]) l158_18 (fun _ => rfl) ?_
  refine b_s (pc' := 90) (lv1 := [(0, .ref 76), (1, bI v1), (2, bI v2), (3, bI v3), (4, bI v4)]) (st' := [bI 1, .ref 76]) l158_19 (fun _ => rfl) ?_
  refine bD.wk (lv' := [(0, .ref 76), (1, bI v1), (2, bI v2), (3, bI v3), (4, bI v4)]) (bSb rfl (bSb rfl (bSb rfl (bSb rfl (bSb rfl bSn))))) ?_
  exact p_X11_reference_90 hr h1 h2 h3 h4 (by decide)
theorem p_X11_reference_73 {L : Nat} {xs : Nat → Int32} {d : Nat} {μ : bM}  {κ : (Int × bM) → Option bX} (hr : ∀ r : Int × bM, κ r = (bMc) r)  {v1 : Int} (h1 : bR v1) {v2 : Int} (h2 : bR v2) {v3 : Int} (h3 : bR v3) {v4 : Int} (h4 : bR v4) : bD L xs (d + 2) 158 73 [(0, .ref 76), (1, bI v1), (2, bI v2), (3, bI v3), (4, bI v4)] [.ref 76] μ ((F_X11_reference_73 v1 v2 v3 v4 μ).bind κ) := by
  unfold F_X11_reference_73
  refine bD.ok fun hk => ?_
  refine b_s (pc' := 74) (lv1 := [(0, .ref 76), (1, bI v1), (2, bI v2), (3, bI v3), (4, bI v4)]) (st' := [bI 3, .ref 76]) l158_73 (fun _ => rfl) ?_
  refine b_s (pc' := 90) (lv1 := [(0, .ref 76), (1, bI v1), (2, bI v2), (3, bI v3), (4, bI v4)]) (st' := [bI 3, .ref 76]) l158_74 (fun _ => rfl) ?_
  refine bD.wk (lv' := [(0, .ref 76), (1, bI v1), (2, bI v2), (3, bI v3), (4, bI v4)]) (bSb rfl (bSb rfl (bSb rfl (bSb rfl (bSb rfl bSn))))) ?_
  exact p_X11_reference_90 hr h1 h2 h3 h4 (by decide)
theorem r_X11_reference {L : Nat} {xs : Nat → Int32} {d : Nat} {μ : bM}  (v1 : Int) (h1 : bR v1) (v2 : Int) (h2 : bR v2) (v3 : Int) (h3 : bR v3) (v4 : Int) (h4 : bR v4) : bD L xs (d + 2) 158 0 [(0, .ref 76), (1, bI v1), (2, bI v2), (3, bI v3), (4, bI v4)] [] μ ((F_X11_reference v1 v2 v3 v4 μ).bind (bMc)) := by
  have hr : ∀ r, (bMc) r = (bMc) r := fun _ => rfl
  unfold F_X11_reference
  refine bD.ok fun hk => ?_
  refine b_s (pc' := 1) (lv1 := [(0, .ref 76), (1, bI v1), (2, bI v2), (3, bI v3), (4, bI v4)]) (st' := [.ref 76]) l158_0 (fun _ => rfl) ?_
  refine b_s (pc' := 2) (lv1 := [(0, .ref 76), (1, bI v1), (2, bI v2), (3, bI v3), (4, bI v4)]) (st' := [.ref 76, .ref 76]) l158_1 (fun _ => rfl) ?_
  refine b_s (pc' := 3) (lv1 := [(0, .ref 76), (1, bI v1), (2, bI v2), (3, bI v3), (4, bI v4)]) (st' := [bI v1, .ref 76, .ref 76]) l158_2 (fun _ => rfl) ?_
  refine b_cPz l158_3 rfl (b_rc (ci := 9) (by rfl) (by decide) (by decide +kernel)) (Nat.le_of_ble_eq_true rfl) (Nat.le_of_ble_eq_true rfl) rfl (r_X11_isEntry v1 h1) fun w1 hw1 => b_pc (pc' := 6) rfl ?_
  refine b_zeq (pt := 18) l158_6 (bZ_R hw1) (by decide) rfl (fun c2 => ?_) (fun c2 => b_pc (pc' := 9) rfl ?_)
  · refine bD.wk (lv' := [(0, .ref 76), (1, bI v1), (2, bI v2), (3, bI v3), (4, bI v4)]) (bSb rfl (bSb rfl (bSb rfl (bSb rfl (bSb rfl bSn))))) ?_
    exact p_X11_reference_18 hr h1 h2 h3 h4
  · refine b_s (pc' := 10) (lv1 := [(0, .ref 76), (1, bI v1), (2, bI v2), (3, bI v3), (4, bI v4)]) (st' := [.ref 76, .ref 76]) l158_9 (fun _ => rfl) ?_
    refine b_s (pc' := 12) (lv1 := [(0, .ref 76), (1, bI v1), (2, bI v2), (3, bI v3), (4, bI v4)]) (st' := [bI v4, .ref 76, .ref 76]) l158_10 (fun _ => rfl) ?_
    refine b_cPz l158_12 rfl (b_rc (ci := 9) (by rfl) (by decide) (by decide +kernel)) (Nat.le_of_ble_eq_true rfl) (Nat.le_of_ble_eq_true rfl) rfl (r_X11_isEntry v4 h4) fun w3 hw3 => b_pc (pc' := 15) rfl ?_
    refine b_zne (pt := 22) l158_15 (bZ_R hw3) (by decide) rfl (fun c4 => ?_) (fun c4 => b_pc (pc' := 18) rfl ?_)
    · refine b_s (pc' := 23) (lv1 := [(0, .ref 76), (1, bI v1), (2, bI v2), (3, bI v3), (4, bI v4)]) (st' := [.ref 76, .ref 76]) l158_22 (fun _ => rfl) ?_
      refine b_gp (q' := 83) (j := 7) l158_23 (by rfl) (by decide) (by decide) rfl hk rfl rfl (b_pc (pc' := 26) rfl ?_)
      refine b_s (pc' := 27) (lv1 := [(0, .ref 76), (1, bI v1), (2, bI v2), (3, bI v3), (4, bI v4)]) (st' := [.ref 76, .ref 83, .ref 76]) l158_26 (fun _ => rfl) ?_
      refine b_s (pc' := 28) (lv1 := [(0, .ref 76), (1, bI v1), (2, bI v2), (3, bI v3), (4, bI v4)]) (st' := [bI v1, .ref 76, .ref 83, .ref 76]) l158_27 (fun _ => rfl) ?_
      refine b_cPi l158_28 rfl (b_rc (ci := 9) (by rfl) (by decide) (by decide +kernel)) (Nat.le_of_ble_eq_true rfl) (Nat.le_of_ble_eq_true rfl) rfl (r_X11_at v1 h1) fun w5 hw5 => b_pc (pc' := 31) rfl ?_
      refine b_g fun g17 => ?_
      refine b_ial l158_31 (by rfl) g17 (b_pc (pc' := 32) rfl ?_)
      refine b_s (pc' := 33) (lv1 := [(0, .ref 76), (1, bI v1), (2, bI v2), (3, bI v3), (4, bI v4)]) (st' := [.ref 76, bI (μ 83 w5.toNat), .ref 76]) l158_32 (fun _ => rfl) ?_
      refine b_gp (q' := 83) (j := 7) l158_33 (by rfl) (by decide) (by decide) rfl hk rfl rfl (b_pc (pc' := 36) rfl ?_)
      refine b_s (pc' := 37) (lv1 := [(0, .ref 76), (1, bI v1), (2, bI v2), (3, bI v3), (4, bI v4)]) (st' := [.ref 76, .ref 83, bI (μ 83 w5.toNat), .ref 76]) l158_36 (fun _ => rfl) ?_
      refine b_s (pc' := 39) (lv1 := [(0, .ref 76), (1, bI v1), (2, bI v2), (3, bI v3), (4, bI v4)]) (st' := [bI v4, .ref 76, .ref 83, bI (μ 83 w5.toNat), .ref 76]) l158_37 (fun _ => rfl) ?_
      refine b_cPi l158_39 rfl (b_rc (ci := 9) (by rfl) (by decide) (by decide +kernel)) (Nat.le_of_ble_eq_true rfl) (Nat.le_of_ble_eq_true rfl) rfl (r_X11_at v4 h4) fun w6 hw6 => b_pc (pc' := 42) rfl ?_
      refine b_g fun g16 => ?_
      refine b_ial l158_42 (by rfl) g16 (b_pc (pc' := 43) rfl ?_)
      refine b_ieq (pt := 50) l158_43 (bO_i hk (by rfl)) (bO_i hk (by rfl)) (by decide) rfl (fun c7 => ?_) (fun c7 => b_pc (pc' := 46) rfl ?_)
      · refine b_s (pc' := 51) (lv1 := [(0, .ref 76), (1, bI v1), (2, bI v2), (3, bI v3), (4, bI v4)]) (st' := [bI v2, .ref 76]) l158_50 (fun _ => rfl) ?_
        refine b_cPz l158_51 rfl (fun _ => trivial) (Nat.le_of_ble_eq_true rfl) (Nat.le_of_ble_eq_true rfl) rfl (r_X11_isName v2 h2) fun w8 hw8 => b_pc (pc' := 54) rfl ?_
        refine b_zeq (pt := 73) l158_54 (bZ_R hw8) (by decide) rfl (fun c9 => ?_) (fun c9 => b_pc (pc' := 57) rfl ?_)
        · refine bD.wk (lv' := [(0, .ref 76), (1, bI v1), (2, bI v2), (3, bI v3), (4, bI v4)]) (bSb rfl (bSb rfl (bSb rfl (bSb rfl (bSb rfl bSn))))) ?_
          exact p_X11_reference_73 hr h1 h2 h3 h4
        · refine b_s (pc' := 58) (lv1 := [(0, .ref 76), (1, bI v1), (2, bI v2), (3, bI v3), (4, bI v4)]) (st' := [bI v3, .ref 76]) l158_57 (fun _ => rfl) ?_
          refine b_cPz l158_58 rfl (fun _ => trivial) (Nat.le_of_ble_eq_true rfl) (Nat.le_of_ble_eq_true rfl) rfl (r_X11_isReference v3 h3) fun w10 hw10 => b_pc (pc' := 61) rfl ?_
          refine b_zeq (pt := 73) l158_61 (bZ_R hw10) (by decide) rfl (fun c11 => ?_) (fun c11 => b_pc (pc' := 64) rfl ?_)
          · refine bD.wk (lv' := [(0, .ref 76), (1, bI v1), (2, bI v2), (3, bI v3), (4, bI v4)]) (bSb rfl (bSb rfl (bSb rfl (bSb rfl (bSb rfl bSn))))) ?_
            exact p_X11_reference_73 hr h1 h2 h3 h4
          · refine b_s (pc' := 65) (lv1 := [(0, .ref 76), (1, bI v1), (2, bI v2), (3, bI v3), (4, bI v4)]) (st' := [.ref 76, .ref 76]) l158_64 (fun _ => rfl) ?_
            refine b_s (pc' := 66) (lv1 := [(0, .ref 76), (1, bI v1), (2, bI v2), (3, bI v3), (4, bI v4)]) (st' := [bI v1, .ref 76, .ref 76]) l158_65 (fun _ => rfl) ?_
            refine b_s (pc' := 67) (lv1 := [(0, .ref 76), (1, bI v1), (2, bI v2), (3, bI v3), (4, bI v4)]) (st' := [bI v2, bI v1, .ref 76, .ref 76]) l158_66 (fun _ => rfl) ?_
            refine b_cPz l158_67 rfl (b_rc (ci := 9) (by rfl) (by decide) (by decide +kernel)) (Nat.le_of_ble_eq_true rfl) (Nat.le_of_ble_eq_true rfl) rfl (r_X11_isTold v1 h1 v2 h2) fun w12 hw12 => b_pc (pc' := 70) rfl ?_
            refine b_zeq (pt := 77) l158_70 (bZ_R hw12) (by decide) rfl (fun c13 => ?_) (fun c13 => b_pc (pc' := 73) rfl ?_)
            · refine b_s (pc' := 78) (lv1 := [(0, .ref 76), (1, bI v1), (2, bI v2), (3, bI v3), (4, bI v4)]) (st' := [.ref 76, .ref 76]) l158_77 (fun _ => rfl) ?_
              refine b_s (pc' := 79) (lv1 := [(0, .ref 76), (1, bI v1), (2, bI v2), (3, bI v3), (4, bI v4)]) (st' := [bI v1, .ref 76, .ref 76]) l158_78 (fun _ => rfl) ?_
              refine b_cPz l158_79 rfl (b_rc (ci := 9) (by rfl) (by decide) (by decide +kernel)) (Nat.le_of_ble_eq_true rfl) (Nat.le_of_ble_eq_true rfl) rfl (r_X11_isFull v1 h1) fun w14 hw14 => b_pc (pc' := 82) rfl ?_
              refine b_zeq (pt := 89) l158_82 (bZ_R hw14) (by decide) rfl (fun c15 => ?_) (fun c15 => b_pc (pc' := 85) rfl ?_)
              · refine b_s (pc' := 90) (lv1 := [(0, .ref 76), (1, bI v1), (2, bI v2), (3, bI v3), (4, bI v4)]) (st' := [bI 0, .ref 76]) l158_89 (fun _ => rfl) ?_
                refine bD.wk (lv' := [(0, .ref 76), (1, bI v1), (2, bI v2), (3, bI v3), (4, bI v4)]) (bSb rfl (bSb rfl (bSb rfl (bSb rfl (bSb rfl bSn))))) ?_
                exact p_X11_reference_90 hr h1 h2 h3 h4 (by decide)
              · refine b_s (pc' := 86) (lv1 := [(0, .ref 76), (1, bI v1), (2, bI v2), (3, bI v3), (4, bI v4)]) (st' := [bI 4, .ref 76]) l158_85 (fun _ => rfl) ?_
                refine b_s (pc' := 90) (lv1 := [(0, .ref 76), (1, bI v1), (2, bI v2), (3, bI v3), (4, bI v4)]) (st' := [bI 4, .ref 76]) l158_86 (fun _ => rfl) ?_
                refine bD.wk (lv' := [(0, .ref 76), (1, bI v1), (2, bI v2), (3, bI v3), (4, bI v4)]) (bSb rfl (bSb rfl (bSb rfl (bSb rfl (bSb rfl bSn))))) ?_
                exact p_X11_reference_90 hr h1 h2 h3 h4 (by decide)
            · refine bD.wk (lv' := [(0, .ref 76), (1, bI v1), (2, bI v2), (3, bI v3), (4, bI v4)]) (bSb rfl (bSb rfl (bSb rfl (bSb rfl (bSb rfl bSn))))) ?_
              exact p_X11_reference_73 hr h1 h2 h3 h4
      · refine b_s (pc' := 47) (lv1 := [(0, .ref 76), (1, bI v1), (2, bI v2), (3, bI v3), (4, bI v4)]) (st' := [bI 2, .ref 76]) l158_46 (fun _ => rfl) ?_
        refine b_s (pc' := 90) (lv1 := [(0, .ref 76), (1, bI v1), (2, bI v2), (3, bI v3), (4, bI v4)]) (st' := [bI 2, .ref 76]) l158_47 (fun _ => rfl) ?_
        refine bD.wk (lv' := [(0, .ref 76), (1, bI v1), (2, bI v2), (3, bI v3), (4, bI v4)]) (bSb rfl (bSb rfl (bSb rfl (bSb rfl (bSb rfl bSn))))) ?_
        exact p_X11_reference_90 hr h1 h2 h3 h4 (by decide)
    · refine bD.wk (lv' := [(0, .ref 76), (1, bI v1), (2, bI v2), (3, bI v3), (4, bI v4)]) (bSb rfl (bSb rfl (bSb rfl (bSb rfl (bSb rfl bSn))))) ?_
      exact p_X11_reference_18 hr h1 h2 h3 h4
/-! ETModel.clear -/
theorem l159_0 : (ax_dt (ax_T 159)).lookup 0 = some (.aload_n 0, 1, 0, 0, 0) := by decide +kernel
theorem l159_1 : (ax_dt (ax_T 159)).lookup 1 = some (.iconst 0, 1, 0, 0, 0) := by decide +kernel
theorem l159_2 : (ax_dt (ax_T 159)).lookup 2 = some (.putfield 120, 3, 9, 0, 0) := by decide +kernel
theorem l159_5 : (ax_dt (ax_T 159)).lookup 5 = some (.aload_n 0, 1, 0, 0, 0) := by decide +kernel
theorem l159_6 : (ax_dt (ax_T 159)).lookup 6 = some (.getfield 13, 3, 9, 4, 0) := by decide +kernel
theorem l159_9 : (ax_dt (ax_T 159)).lookup 9 = some (.aload_n 0, 1, 0, 0, 0) := by decide +kernel
theorem l159_10 : (ax_dt (ax_T 159)).lookup 10 = some (.getfield 137, 3, 9, 3, 0) := by decide +kernel
theorem l159_13 : (ax_dt (ax_T 159)).lookup 13 = some (.iaload, 1, 0, 0, 0) := by decide +kernel
theorem l159_14 : (ax_dt (ax_T 159)).lookup 14 = some (.istore_n 1, 1, 0, 0, 0) := by decide +kernel
theorem l159_15 : (ax_dt (ax_T 159)).lookup 15 = some (.aload_n 0, 1, 0, 0, 0) := by decide +kernel
theorem l159_16 : (ax_dt (ax_T 159)).lookup 16 = some (.getfield 13, 3, 9, 4, 0) := by decide +kernel
theorem l159_19 : (ax_dt (ax_T 159)).lookup 19 = some (.aload_n 0, 1, 0, 0, 0) := by decide +kernel
theorem l159_20 : (ax_dt (ax_T 159)).lookup 20 = some (.getfield 137, 3, 9, 3, 0) := by decide +kernel
theorem l159_23 : (ax_dt (ax_T 159)).lookup 23 = some (.iconst 0, 1, 0, 0, 0) := by decide +kernel
theorem l159_24 : (ax_dt (ax_T 159)).lookup 24 = some (.iastore, 1, 0, 0, 0) := by decide +kernel
theorem l159_25 : (ax_dt (ax_T 159)).lookup 25 = some (.aload_n 0, 1, 0, 0, 0) := by decide +kernel
theorem l159_26 : (ax_dt (ax_T 159)).lookup 26 = some (.getfield 17, 3, 9, 5, 0) := by decide +kernel
theorem l159_29 : (ax_dt (ax_T 159)).lookup 29 = some (.aload_n 0, 1, 0, 0, 0) := by decide +kernel
theorem l159_30 : (ax_dt (ax_T 159)).lookup 30 = some (.getfield 137, 3, 9, 3, 0) := by decide +kernel
theorem l159_33 : (ax_dt (ax_T 159)).lookup 33 = some (.iconst 0, 1, 0, 0, 0) := by decide +kernel
theorem l159_34 : (ax_dt (ax_T 159)).lookup 34 = some (.iastore, 1, 0, 0, 0) := by decide +kernel
theorem l159_35 : (ax_dt (ax_T 159)).lookup 35 = some (.aload_n 0, 1, 0, 0, 0) := by decide +kernel
theorem l159_36 : (ax_dt (ax_T 159)).lookup 36 = some (.getfield 54, 3, 9, 17, 0) := by decide +kernel
theorem l159_39 : (ax_dt (ax_T 159)).lookup 39 = some (.aload_n 0, 1, 0, 0, 0) := by decide +kernel
theorem l159_40 : (ax_dt (ax_T 159)).lookup 40 = some (.getfield 137, 3, 9, 3, 0) := by decide +kernel
theorem l159_43 : (ax_dt (ax_T 159)).lookup 43 = some (.iconst 0, 1, 0, 0, 0) := by decide +kernel
theorem l159_44 : (ax_dt (ax_T 159)).lookup 44 = some (.iastore, 1, 0, 0, 0) := by decide +kernel
theorem l159_45 : (ax_dt (ax_T 159)).lookup 45 = some (.aload_n 0, 1, 0, 0, 0) := by decide +kernel
theorem l159_46 : (ax_dt (ax_T 159)).lookup 46 = some (.getfield 51, 3, 9, 16, 0) := by decide +kernel
theorem l159_49 : (ax_dt (ax_T 159)).lookup 49 = some (.aload_n 0, 1, 0, 0, 0) := by decide +kernel
theorem l159_50 : (ax_dt (ax_T 159)).lookup 50 = some (.getfield 137, 3, 9, 3, 0) := by decide +kernel
theorem l159_53 : (ax_dt (ax_T 159)).lookup 53 = some (.iconst 0, 1, 0, 0, 0) := by decide +kernel
theorem l159_54 : (ax_dt (ax_T 159)).lookup 54 = some (.iastore, 1, 0, 0, 0) := by decide +kernel
theorem l159_55 : (ax_dt (ax_T 159)).lookup 55 = some (.iload_n 1, 1, 0, 0, 0) := by decide +kernel
theorem l159_56 : (ax_dt (ax_T 159)).lookup 56 = some (.ireturn, 1, 0, 0, 0) := by decide +kernel
noncomputable def F_X11_clear (μ : bM) : Option (Int × bM) := bG (0 ≤ ((bset μ 76 0 0) 76 3) ∧ ((bset μ 76 0 0) 76 3) < 2) (bG (0 ≤ ((bset μ 76 0 0) 76 3) ∧ ((bset μ 76 0 0) 76 3) < 2) (bG (0 ≤ ((bset (bset μ 76 0 0) 78 ((bset μ 76 0 0) 76 3).toNat 0) 76 3) ∧ ((bset (bset μ 76 0 0) 78 ((bset μ 76 0 0) 76 3).toNat 0) 76 3) < 2) (bG (0 ≤ ((bset (bset (bset μ 76 0 0) 78 ((bset μ 76 0 0) 76 3).toNat 0) 79 ((bset (bset μ 76 0 0) 78 ((bset μ 76 0 0) 76 3).toNat 0) 76 3).toNat 0) 76 3) ∧ ((bset (bset (bset μ 76 0 0) 78 ((bset μ 76 0 0) 76 3).toNat 0) 79 ((bset (bset μ 76 0 0) 78 ((bset μ 76 0 0) 76 3).toNat 0) 76 3).toNat 0) 76 3) < 2) (bG (0 ≤ ((bset (bset (bset (bset μ 76 0 0) 78 ((bset μ 76 0 0) 76 3).toNat 0) 79 ((bset (bset μ 76 0 0) 78 ((bset μ 76 0 0) 76 3).toNat 0) 76 3).toNat 0) 91 ((bset (bset (bset μ 76 0 0) 78 ((bset μ 76 0 0) 76 3).toNat 0) 79 ((bset (bset μ 76 0 0) 78 ((bset μ 76 0 0) 76 3).toNat 0) 76 3).toNat 0) 76 3).toNat 0) 76 3) ∧ ((bset (bset (bset (bset μ 76 0 0) 78 ((bset μ 76 0 0) 76 3).toNat 0) 79 ((bset (bset μ 76 0 0) 78 ((bset μ 76 0 0) 76 3).toNat 0) 76 3).toNat 0) 91 ((bset (bset (bset μ 76 0 0) 78 ((bset μ 76 0 0) 76 3).toNat 0) 79 ((bset (bset μ 76 0 0) 78 ((bset μ 76 0 0) 76 3).toNat 0) 76 3).toNat 0) 76 3).toNat 0) 76 3) < 2) (some (((bset μ 76 0 0) 78 ((bset μ 76 0 0) 76 3).toNat), (bset (bset (bset (bset (bset μ 76 0 0) 78 ((bset μ 76 0 0) 76 3).toNat 0) 79 ((bset (bset μ 76 0 0) 78 ((bset μ 76 0 0) 76 3).toNat 0) 76 3).toNat 0) 91 ((bset (bset (bset μ 76 0 0) 78 ((bset μ 76 0 0) 76 3).toNat 0) 79 ((bset (bset μ 76 0 0) 78 ((bset μ 76 0 0) 76 3).toNat 0) 76 3).toNat 0) 76 3).toNat 0) 90 ((bset (bset (bset (bset μ 76 0 0) 78 ((bset μ 76 0 0) 76 3).toNat 0) 79 ((bset (bset μ 76 0 0) 78 ((bset μ 76 0 0) 76 3).toNat 0) 76 3).toNat 0) 91 ((bset (bset (bset μ 76 0 0) 78 ((bset μ 76 0 0) 76 3).toNat 0) 79 ((bset (bset μ 76 0 0) 78 ((bset μ 76 0 0) 76 3).toNat 0) 76 3).toNat 0) 76 3).toNat 0) 76 3).toNat 0)))))))
theorem r_X11_clear {L : Nat} {xs : Nat → Int32} {d : Nat} {μ : bM}   : bD L xs (d + 0) 159 0 [(0, .ref 76)] [] μ ((F_X11_clear μ).bind (bMc)) := by
  have hr : ∀ r, (bMc) r = (bMc) r := fun _ => rfl
  unfold F_X11_clear
  refine bD.ok fun hk => ?_
  refine b_s (pc' := 1) (lv1 := [(0, .ref 76)]) (st' := [.ref 76]) l159_0 (fun _ => rfl) ?_
  refine b_s (pc' := 2) (lv1 := [(0, .ref 76)]) (st' := [bI 0, .ref 76]) l159_1 (fun _ => rfl) ?_
  refine b_pi l159_2 (by rfl) (by decide) (by decide) rfl rfl (by decide) (bD.ok fun hk1 => b_pc (pc' := 5) rfl ?_)
  refine b_s (pc' := 6) (lv1 := [(0, .ref 76)]) (st' := [.ref 76]) l159_5 (fun _ => rfl) ?_
  refine b_gp (q' := 78) (j := 2) l159_6 (by rfl) (by decide) (by decide) rfl hk1 rfl rfl (b_pc (pc' := 9) rfl ?_)
  refine b_s (pc' := 10) (lv1 := [(0, .ref 76)]) (st' := [.ref 76, .ref 78]) l159_9 (fun _ => rfl) ?_
  refine b_gi l159_10 (by rfl) (by decide) (by decide) rfl (b_pc (pc' := 13) rfl ?_)
  refine b_g fun g10 => ?_
  refine b_ial l159_13 (by rfl) g10 (b_pc (pc' := 14) rfl ?_)
  refine b_w (pc' := 15) (lv1 := ax_st1 [(0, .ref 76)] 1 (bI ((bset μ 76 0 0) 78 ((bset μ 76 0 0) 76 3).toNat))) (lv' := [(0, .ref 76), (1, bI ((bset μ 76 0 0) 78 ((bset μ 76 0 0) 76 3).toNat))]) (st' := []) l159_14 (fun _ => rfl) (bSb rfl (bSb rfl bSn)) ?_
  refine b_s (pc' := 16) (lv1 := [(0, .ref 76), (1, bI ((bset μ 76 0 0) 78 ((bset μ 76 0 0) 76 3).toNat))]) (st' := [.ref 76]) l159_15 (fun _ => rfl) ?_
  refine b_gp (q' := 78) (j := 2) l159_16 (by rfl) (by decide) (by decide) rfl hk1 rfl rfl (b_pc (pc' := 19) rfl ?_)
  refine b_s (pc' := 20) (lv1 := [(0, .ref 76), (1, bI ((bset μ 76 0 0) 78 ((bset μ 76 0 0) 76 3).toNat))]) (st' := [.ref 76, .ref 78]) l159_19 (fun _ => rfl) ?_
  refine b_gi l159_20 (by rfl) (by decide) (by decide) rfl (b_pc (pc' := 23) rfl ?_)
  refine b_s (pc' := 24) (lv1 := [(0, .ref 76), (1, bI ((bset μ 76 0 0) 78 ((bset μ 76 0 0) 76 3).toNat))]) (st' := [bI 0, bI ((bset μ 76 0 0) 76 3), .ref 78]) l159_23 (fun _ => rfl) ?_
  refine b_g fun g9 => ?_
  refine b_ias l159_24 (by rfl) g9 (by decide) (bD.ok fun hk2 => b_pc (pc' := 25) rfl ?_)
  refine b_s (pc' := 26) (lv1 := [(0, .ref 76), (1, bI ((bset μ 76 0 0) 78 ((bset μ 76 0 0) 76 3).toNat))]) (st' := [.ref 76]) l159_25 (fun _ => rfl) ?_
  refine b_gp (q' := 79) (j := 3) l159_26 (by rfl) (by decide) (by decide) rfl hk2 rfl rfl (b_pc (pc' := 29) rfl ?_)
  refine b_s (pc' := 30) (lv1 := [(0, .ref 76), (1, bI ((bset μ 76 0 0) 78 ((bset μ 76 0 0) 76 3).toNat))]) (st' := [.ref 76, .ref 79]) l159_29 (fun _ => rfl) ?_
  refine b_gi l159_30 (by rfl) (by decide) (by decide) rfl (b_pc (pc' := 33) rfl ?_)
  refine b_s (pc' := 34) (lv1 := [(0, .ref 76), (1, bI ((bset μ 76 0 0) 78 ((bset μ 76 0 0) 76 3).toNat))]) (st' := [bI 0, bI ((bset (bset μ 76 0 0) 78 ((bset μ 76 0 0) 76 3).toNat 0) 76 3), .ref 79]) l159_33 (fun _ => rfl) ?_
  refine b_g fun g8 => ?_
  refine b_ias l159_34 (by rfl) g8 (by decide) (bD.ok fun hk3 => b_pc (pc' := 35) rfl ?_)
  refine b_s (pc' := 36) (lv1 := [(0, .ref 76), (1, bI ((bset μ 76 0 0) 78 ((bset μ 76 0 0) 76 3).toNat))]) (st' := [.ref 76]) l159_35 (fun _ => rfl) ?_
  refine b_gp (q' := 91) (j := 15) l159_36 (by rfl) (by decide) (by decide) rfl hk3 rfl rfl (b_pc (pc' := 39) rfl ?_)
  refine b_s (pc' := 40) (lv1 := [(0, .ref 76), (1, bI ((bset μ 76 0 0) 78 ((bset μ 76 0 0) 76 3).toNat))]) (st' := [.ref 76, .ref 91]) l159_39 (fun _ => rfl) ?_
  refine b_gi l159_40 (by rfl) (by decide) (by decide) rfl (b_pc (pc' := 43) rfl ?_)
  refine b_s (pc' := 44) (lv1 := [(0, .ref 76), (1, bI ((bset μ 76 0 0) 78 ((bset μ 76 0 0) 76 3).toNat))]) (st' := [bI 0, bI ((bset (bset (bset μ 76 0 0) 78 ((bset μ 76 0 0) 76 3).toNat 0) 79 ((bset (bset μ 76 0 0) 78 ((bset μ 76 0 0) 76 3).toNat 0) 76 3).toNat 0) 76 3), .ref 91]) l159_43 (fun _ => rfl) ?_
  refine b_g fun g7 => ?_
  refine b_ias l159_44 (by rfl) g7 (by decide) (bD.ok fun hk4 => b_pc (pc' := 45) rfl ?_)
  refine b_s (pc' := 46) (lv1 := [(0, .ref 76), (1, bI ((bset μ 76 0 0) 78 ((bset μ 76 0 0) 76 3).toNat))]) (st' := [.ref 76]) l159_45 (fun _ => rfl) ?_
  refine b_gp (q' := 90) (j := 14) l159_46 (by rfl) (by decide) (by decide) rfl hk4 rfl rfl (b_pc (pc' := 49) rfl ?_)
  refine b_s (pc' := 50) (lv1 := [(0, .ref 76), (1, bI ((bset μ 76 0 0) 78 ((bset μ 76 0 0) 76 3).toNat))]) (st' := [.ref 76, .ref 90]) l159_49 (fun _ => rfl) ?_
  refine b_gi l159_50 (by rfl) (by decide) (by decide) rfl (b_pc (pc' := 53) rfl ?_)
  refine b_s (pc' := 54) (lv1 := [(0, .ref 76), (1, bI ((bset μ 76 0 0) 78 ((bset μ 76 0 0) 76 3).toNat))]) (st' := [bI 0, bI ((bset (bset (bset (bset μ 76 0 0) 78 ((bset μ 76 0 0) 76 3).toNat 0) 79 ((bset (bset μ 76 0 0) 78 ((bset μ 76 0 0) 76 3).toNat 0) 76 3).toNat 0) 91 ((bset (bset (bset μ 76 0 0) 78 ((bset μ 76 0 0) 76 3).toNat 0) 79 ((bset (bset μ 76 0 0) 78 ((bset μ 76 0 0) 76 3).toNat 0) 76 3).toNat 0) 76 3).toNat 0) 76 3), .ref 90]) l159_53 (fun _ => rfl) ?_
  refine b_g fun g6 => ?_
  refine b_ias l159_54 (by rfl) g6 (by decide) (bD.ok fun hk5 => b_pc (pc' := 55) rfl ?_)
  refine b_s (pc' := 56) (lv1 := [(0, .ref 76), (1, bI ((bset μ 76 0 0) 78 ((bset μ 76 0 0) 76 3).toNat))]) (st' := [bI ((bset μ 76 0 0) 78 ((bset μ 76 0 0) 76 3).toNat)]) l159_55 (fun _ => rfl) ?_
  exact b_reti l159_56 rfl (bO_i hk1 (by rfl)) (hr _)
end
