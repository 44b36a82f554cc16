section
/-! ET$Layout.forget -/
theorem l23_0 : (ax_dt (ax_T 23)).lookup 0 = some (.aload_n 0, 1, 0, 0, 0) := by decide +kernel
theorem l23_1 : (ax_dt (ax_T 23)).lookup 1 = some (.iconst 0, 1, 0, 0, 0) := by decide +kernel
theorem l23_2 : (ax_dt (ax_T 23)).lookup 2 = some (.putfield 54, 3, 2, 6, 0) := by decide +kernel
theorem l23_5 : (ax_dt (ax_T 23)).lookup 5 = some (.return_, 1, 0, 0, 0) := by decide +kernel
noncomputable def F_X3_forget (μ : bM) : Option (Int × bM) := some (0, (bset μ 13 6 0))
theorem r_X3_forget {L : Nat} {xs : Nat → Int32} {d : Nat} {μ : bM}   : bD L xs (d + 0) 23 0 [(0, .ref 13)] [] μ ((F_X3_forget μ).bind (bMc)) := by
  have hr : ∀ r, (bMc) r = (bMc) r := fun _ => rfl
  unfold F_X3_forget
  refine bD.ok fun hk => ?_
  refine b_s (pc' := 1) (lv1 := [(0, .ref 13)]) (st' := [.ref 13]) l23_0 (fun _ => rfl) ?_
  refine b_s (pc' := 2) (lv1 := [(0, .ref 13)]) (st' := [bI 0, .ref 13]) l23_1 (fun _ => rfl) ?_
  refine b_pz l23_2 (by rfl) (by decide) (by decide) rfl rfl (by decide) (bD.ok fun hk1 => b_pc (pc' := 5) rfl ?_)
  exact b_retv l23_5 rfl (hr _)
/-! ET$Layout.climb -/
theorem l26_0 : (ax_dt (ax_T 26)).lookup 0 = some (.iload_n 2, 1, 0, 0, 0) := by decide +kernel
theorem l26_1 : (ax_dt (ax_T 26)).lookup 1 = some (.istore_n 3, 1, 0, 0, 0) := by decide +kernel
theorem l26_2 : (ax_dt (ax_T 26)).lookup 2 = some (.aload_n 1, 1, 0, 0, 0) := by decide +kernel
theorem l26_3 : (ax_dt (ax_T 26)).lookup 3 = some (.getfield 97, 3, 7, 6, 0) := by decide +kernel
theorem l26_6 : (ax_dt (ax_T 26)).lookup 6 = some (.iload_n 2, 1, 0, 0, 0) := by decide +kernel
theorem l26_7 : (ax_dt (ax_T 26)).lookup 7 = some (.iaload, 1, 0, 0, 0) := by decide +kernel
theorem l26_8 : (ax_dt (ax_T 26)).lookup 8 = some (.istore 4, 2, 0, 0, 0) := by decide +kernel
theorem l26_10 : (ax_dt (ax_T 26)).lookup 10 = some (.iload 4, 2, 0, 0, 0) := by decide +kernel
theorem l26_12 : (ax_dt (ax_T 26)).lookup 12 = some (.ifCond .le 43, 3, 0, 0, 0) := by decide +kernel
theorem l26_15 : (ax_dt (ax_T 26)).lookup 15 = some (.aload_n 1, 1, 0, 0, 0) := by decide +kernel
theorem l26_16 : (ax_dt (ax_T 26)).lookup 16 = some (.getfield 100, 3, 7, 10, 0) := by decide +kernel
theorem l26_19 : (ax_dt (ax_T 26)).lookup 19 = some (.iload_n 3, 1, 0, 0, 0) := by decide +kernel
theorem l26_20 : (ax_dt (ax_T 26)).lookup 20 = some (.iaload, 1, 0, 0, 0) := by decide +kernel
theorem l26_21 : (ax_dt (ax_T 26)).lookup 21 = some (.iconst (-1), 1, 0, 0, 0) := by decide +kernel
theorem l26_22 : (ax_dt (ax_T 26)).lookup 22 = some (.if_icmp .eq 10, 3, 0, 0, 0) := by decide +kernel
theorem l26_25 : (ax_dt (ax_T 26)).lookup 25 = some (.aload_n 1, 1, 0, 0, 0) := by decide +kernel
theorem l26_26 : (ax_dt (ax_T 26)).lookup 26 = some (.getfield 100, 3, 7, 10, 0) := by decide +kernel
theorem l26_29 : (ax_dt (ax_T 26)).lookup 29 = some (.iload_n 3, 1, 0, 0, 0) := by decide +kernel
theorem l26_30 : (ax_dt (ax_T 26)).lookup 30 = some (.iaload, 1, 0, 0, 0) := by decide +kernel
theorem l26_31 : (ax_dt (ax_T 26)).lookup 31 = some (.ireturn, 1, 0, 0, 0) := by decide +kernel
theorem l26_32 : (ax_dt (ax_T 26)).lookup 32 = some (.aload_n 1, 1, 0, 0, 0) := by decide +kernel
theorem l26_33 : (ax_dt (ax_T 26)).lookup 33 = some (.getfield 103, 3, 7, 4, 0) := by decide +kernel
theorem l26_36 : (ax_dt (ax_T 26)).lookup 36 = some (.iload_n 3, 1, 0, 0, 0) := by decide +kernel
theorem l26_37 : (ax_dt (ax_T 26)).lookup 37 = some (.iaload, 1, 0, 0, 0) := by decide +kernel
theorem l26_38 : (ax_dt (ax_T 26)).lookup 38 = some (.istore_n 3, 1, 0, 0, 0) := by decide +kernel
theorem l26_39 : (ax_dt (ax_T 26)).lookup 39 = some (.aload_n 0, 1, 0, 0, 0) := by decide +kernel
theorem l26_40 : (ax_dt (ax_T 26)).lookup 40 = some (.getfield 21, 3, 2, 10, 0) := by decide +kernel
theorem l26_43 : (ax_dt (ax_T 26)).lookup 43 = some (.iload_n 2, 1, 0, 0, 0) := by decide +kernel
theorem l26_44 : (ax_dt (ax_T 26)).lookup 44 = some (.dup2, 1, 0, 0, 0) := by decide +kernel
theorem l26_45 : (ax_dt (ax_T 26)).lookup 45 = some (.iaload, 1, 0, 0, 0) := by decide +kernel
theorem l26_46 : (ax_dt (ax_T 26)).lookup 46 = some (.iconst 1, 1, 0, 0, 0) := by decide +kernel
theorem l26_47 : (ax_dt (ax_T 26)).lookup 47 = some (.iadd, 1, 0, 0, 0) := by decide +kernel
theorem l26_48 : (ax_dt (ax_T 26)).lookup 48 = some (.iastore, 1, 0, 0, 0) := by decide +kernel
theorem l26_49 : (ax_dt (ax_T 26)).lookup 49 = some (.iinc 4 (-1), 3, 0, 0, 0) := by decide +kernel
theorem l26_52 : (ax_dt (ax_T 26)).lookup 52 = some (.goto (-42), 3, 0, 0, 0) := by decide +kernel
theorem l26_55 : (ax_dt (ax_T 26)).lookup 55 = some (.iconst (-1), 1, 0, 0, 0) := by decide +kernel
theorem l26_56 : (ax_dt (ax_T 26)).lookup 56 = some (.ireturn, 1, 0, 0, 0) := by decide +kernel
noncomputable def F_X3_climb_10 (t : Nat) (v2 : Int) (v3 : Int) (v4 : Int) (μ : bM) : Option ((Int × Int × bM) ⊕ (Int × bM)) := if v4 ≤ 0 then some (.inr ((-1), μ)) else bG (0 ≤ v3 ∧ v3 < 400) (if (μ (t + 9) v3.toNat) = (-1) then bG (0 ≤ v3 ∧ v3 < 400) (bG (0 ≤ v2 ∧ v2 < 400) (bG (bR ((μ 17 v2.toNat) + 1)) (bG (0 ≤ v2 ∧ v2 < 400) (bG (bR (v4 + (-1))) (some (.inl ((μ (t + 3) v3.toNat), (v4 + (-1)), (bset μ 17 v2.toNat ((μ 17 v2.toNat) + 1))))))))) else bG (0 ≤ v3 ∧ v3 < 400) (some (.inr ((μ (t + 9) v3.toNat), μ))))
noncomputable def F_X3_climb (t : Nat) (v2 : Int) (μ : bM) : Option (Int × bM) := bG (0 ≤ v2 ∧ v2 < 400) (bLoop (fun z => F_X3_climb_10 t v2 z.1 z.2.1 z.2.2) (v2, (μ (t + 5) v2.toNat), μ))
theorem q_X3_climb_10 {L : Nat} {xs : Nat → Int32} {d : Nat} {μ : bM} {t : Nat} {v2 : Int} {κ : ((Int × Int × bM) ⊕ (Int × bM)) → Option bX} (hr : ∀ r : Int × bM, κ (.inr r) = (bMc) r) (H10 : ∀ (v3 : Int) (v4 : Int) (μ : bM), bR v3 → bR v4 → bD L xs (d + 0) 26 10 [(0, .ref 13), (1, .ref t), (2, bI v2), (3, bI v3), (4, bI v4)] [] μ (κ (.inl (v3, v4, μ)))) (ht : bTree t) (h2 : bR v2) {v3 : Int} (h3 : bR v3) {v4 : Int} (h4 : bR v4) : bD L xs (d + 0) 26 10 [(0, .ref 13), (1, .ref t), (2, bI v2), (3, bI v3), (4, bI v4)] [] μ ((F_X3_climb_10 t v2 v3 v4 μ).bind κ) := by
  unfold F_X3_climb_10
  refine bD.ok fun hk => ?_
  refine b_s (pc' := 12) (lv1 := [(0, .ref 13), (1, .ref t), (2, bI v2), (3, bI v3), (4, bI v4)]) (st' := [bI v4]) l26_10 (fun _ => rfl) ?_
  refine b_zle (pt := 55) l26_12 h4 (by decide) rfl (fun c1 => ?_) (fun c1 => b_pc (pc' := 15) rfl ?_)
  · refine b_s (pc' := 56) (lv1 := [(0, .ref 13), (1, .ref t), (2, bI v2), (3, bI v3), (4, bI v4)]) (st' := [bI (-1)]) l26_55 (fun _ => rfl) ?_
    exact b_reti l26_56 rfl (by decide) (hr _)
  · refine b_s (pc' := 16) (lv1 := [(0, .ref 13), (1, .ref t), (2, bI v2), (3, bI v3), (4, bI v4)]) (st' := [.ref t]) l26_15 (fun _ => rfl) ?_
    refine b_gp (q' := (t + 9)) (j := 9) l26_16 ht (by decide) (by decide) rfl hk rfl rfl (b_pc (pc' := 19) rfl ?_)
    refine b_s (pc' := 20) (lv1 := [(0, .ref 13), (1, .ref t), (2, bI v2), (3, bI v3), (4, bI v4)]) (st' := [bI v3, .ref (t + 9)]) l26_19 (fun _ => rfl) ?_
    refine b_g fun g10 => ?_
    refine b_ial l26_20 (bTree_e ht 9 (by decide)) g10 (b_pc (pc' := 21) rfl ?_)
    refine b_s (pc' := 22) (lv1 := [(0, .ref 13), (1, .ref t), (2, bI v2), (3, bI v3), (4, bI v4)]) (st' := [bI (-1), bI (μ (t + 9) v3.toNat)]) l26_21 (fun _ => rfl) ?_
    refine b_ieq (pt := 32) l26_22 (bO_i hk (bTree_e ht 9 (by decide))) (by decide) (by decide) rfl (fun c2 => ?_) (fun c2 => b_pc (pc' := 25) rfl ?_)
    · refine b_s (pc' := 33) (lv1 := [(0, .ref 13), (1, .ref t), (2, bI v2), (3, bI v3), (4, bI v4)]) (st' := [.ref t]) l26_32 (fun _ => rfl) ?_
      refine b_gp (q' := (t + 3)) (j := 3) l26_33 ht (by decide) (by decide) rfl hk rfl rfl (b_pc (pc' := 36) rfl ?_)
      refine b_s (pc' := 37) (lv1 := [(0, .ref 13), (1, .ref t), (2, bI v2), (3, bI v3), (4, bI v4)]) (st' := [bI v3, .ref (t + 3)]) l26_36 (fun _ => rfl) ?_
      refine b_g fun g8 => ?_
      refine b_ial l26_37 (bTree_e ht 3 (by decide)) g8 (b_pc (pc' := 38) rfl ?_)
      refine b_w (pc' := 39) (lv1 := ax_st1 [(0, .ref 13), (1, .ref t), (2, bI v2), (3, bI v3), (4, bI v4)] 3 (bI (μ (t + 3) v3.toNat))) (lv' := [(0, .ref 13), (1, .ref t), (2, bI v2), (3, bI (μ (t + 3) v3.toNat)), (4, bI v4)]) (st' := []) l26_38 (fun _ => rfl) (bSb rfl (bSb rfl (bSb rfl (bSb rfl (bSb rfl bSn))))) ?_
      refine b_s (pc' := 40) (lv1 := [(0, .ref 13), (1, .ref t), (2, bI v2), (3, bI (μ (t + 3) v3.toNat)), (4, bI v4)]) (st' := [.ref 13]) l26_39 (fun _ => rfl) ?_
      refine b_gp (q' := 17) (j := 4) l26_40 (by rfl) (by decide) (by decide) rfl hk rfl rfl (b_pc (pc' := 43) rfl ?_)
      refine b_s (pc' := 44) (lv1 := [(0, .ref 13), (1, .ref t), (2, bI v2), (3, bI (μ (t + 3) v3.toNat)), (4, bI v4)]) (st' := [bI v2, .ref 17]) l26_43 (fun _ => rfl) ?_
      refine b_s (pc' := 45) (lv1 := [(0, .ref 13), (1, .ref t), (2, bI v2), (3, bI (μ (t + 3) v3.toNat)), (4, bI v4)]) (st' := [bI v2, .ref 17, bI v2, .ref 17]) l26_44 (fun _ => rfl) ?_
      refine b_g fun g7 => ?_
      refine b_ial l26_45 (by rfl) g7 (b_pc (pc' := 46) rfl ?_)
      refine b_s (pc' := 47) (lv1 := [(0, .ref 13), (1, .ref t), (2, bI v2), (3, bI (μ (t + 3) v3.toNat)), (4, bI v4)]) (st' := [bI 1, bI (μ 17 v2.toNat), bI v2, .ref 17]) l26_46 (fun _ => rfl) ?_
      refine b_iadd l26_47 fun g3 => (b_pc (pc' := 48) rfl ?_)
      refine b_g fun g6 => ?_
      refine b_ias l26_48 (by rfl) g6 g3 (bD.ok fun hk4 => b_pc (pc' := 49) rfl ?_)
      refine b_inc (lv' := [(0, .ref 13), (1, .ref t), (2, bI v2), (3, bI (μ (t + 3) v3.toNat)), (4, bI (v4 + (-1)))]) l26_49 rfl (by decide +kernel) (bSb rfl (bSb rfl (bSb rfl (bSb rfl (bSb rfl bSn))))) fun g5 => (b_pc (pc' := 52) rfl ?_)
      refine b_s (pc' := 10) (lv1 := [(0, .ref 13), (1, .ref t), (2, bI v2), (3, bI (μ (t + 3) v3.toNat)), (4, bI (v4 + (-1)))]) (st' := []) l26_52 (fun _ => rfl) ?_
      refine bD.wk (lv' := [(0, .ref 13), (1, .ref t), (2, bI v2), (3, bI (μ (t + 3) v3.toNat)), (4, bI (v4 + (-1)))]) (bSb rfl (bSb rfl (bSb rfl (bSb rfl (bSb rfl bSn))))) ?_
      exact H10 (μ (t + 3) v3.toNat) (v4 + (-1)) (bset μ 17 v2.toNat ((μ 17 v2.toNat) + 1)) (bO_i hk (bTree_e ht 3 (by decide))) g5
    · refine b_s (pc' := 26) (lv1 := [(0, .ref 13), (1, .ref t), (2, bI v2), (3, bI v3), (4, bI v4)]) (st' := [.ref t]) l26_25 (fun _ => rfl) ?_
      refine b_gp (q' := (t + 9)) (j := 9) l26_26 ht (by decide) (by decide) rfl hk rfl rfl (b_pc (pc' := 29) rfl ?_)
      refine b_s (pc' := 30) (lv1 := [(0, .ref 13), (1, .ref t), (2, bI v2), (3, bI v3), (4, bI v4)]) (st' := [bI v3, .ref (t + 9)]) l26_29 (fun _ => rfl) ?_
      refine b_g fun g9 => ?_
      refine b_ial l26_30 (bTree_e ht 9 (by decide)) g9 (b_pc (pc' := 31) rfl ?_)
      exact b_reti l26_31 rfl (bO_i hk (bTree_e ht 9 (by decide))) (hr _)
theorem p_X3_climb_10 {L : Nat} {xs : Nat → Int32} {d : Nat} {μ : bM} {t : Nat} {κ : (Int × bM) → Option bX} (hr : ∀ r : Int × bM, κ r = (bMc) r) (ht : bTree t) {v2 : Int} (h2 : bR v2) {v3 : Int} (h3 : bR v3) {v4 : Int} (h4 : bR v4) : bD L xs (d + 0) 26 10 [(0, .ref 13), (1, .ref t), (2, bI v2), (3, bI v3), (4, bI v4)] [] μ ((bLoop (fun z => F_X3_climb_10 t v2 z.1 z.2.1 z.2.2) (v3, v4, μ)).bind κ) :=
  b_loop (fun z => [(0, .ref 13), (1, .ref t), (2, bI v2), (3, bI z.1), (4, bI z.2.1)]) (fun z => z.2.2) (fun z => bR z.1 ∧ bR z.2.1) (fun κ' hκ HH z hz => q_X3_climb_10 (κ := κ') (fun r => (hκ _).trans (hr r)) (fun a3 a4 am b3 b4 => HH (a3, a4, am) ⟨b3, b4⟩) ht h2 hz.1 hz.2) (v3, v4, μ) ⟨h3, h4⟩
theorem r_X3_climb {L : Nat} {xs : Nat → Int32} {d : Nat} {μ : bM} (t : Nat) (ht : bTree t) (v2 : Int) (h2 : bR v2) : bD L xs (d + 0) 26 0 [(0, .ref 13), (1, .ref t), (2, bI v2)] [] μ ((F_X3_climb t v2 μ).bind (bMc)) := by
  have hr : ∀ r, (bMc) r = (bMc) r := fun _ => rfl
  unfold F_X3_climb
  refine bD.ok fun hk => ?_
  refine b_s (pc' := 1) (lv1 := [(0, .ref 13), (1, .ref t), (2, bI v2)]) (st' := [bI v2]) l26_0 (fun _ => rfl) ?_
  refine b_w (pc' := 2) (lv1 := ax_st1 [(0, .ref 13), (1, .ref t), (2, bI v2)] 3 (bI v2)) (lv' := [(0, .ref 13), (1, .ref t), (2, bI v2), (3, bI v2)]) (st' := []) l26_1 (fun _ => rfl) (bSb rfl (bSb rfl (bSb rfl (bSb rfl bSn)))) ?_
  refine b_s (pc' := 3) (lv1 := [(0, .ref 13), (1, .ref t), (2, bI v2), (3, bI v2)]) (st' := [.ref t]) l26_2 (fun _ => rfl) ?_
  refine b_gp (q' := (t + 5)) (j := 5) l26_3 ht (by decide) (by decide) rfl hk rfl rfl (b_pc (pc' := 6) rfl ?_)
  refine b_s (pc' := 7) (lv1 := [(0, .ref 13), (1, .ref t), (2, bI v2), (3, bI v2)]) (st' := [bI v2, .ref (t + 5)]) l26_6 (fun _ => rfl) ?_
  refine b_g fun g1 => ?_
  refine b_ial l26_7 (bTree_e ht 5 (by decide)) g1 (b_pc (pc' := 8) rfl ?_)
  refine b_w (pc' := 10) (lv1 := ax_st1 [(0, .ref 13), (1, .ref t), (2, bI v2), (3, bI v2)] 4 (bI (μ (t + 5) v2.toNat))) (lv' := [(0, .ref 13), (1, .ref t), (2, bI v2), (3, bI v2), (4, bI (μ (t + 5) v2.toNat))]) (st' := []) l26_8 (fun _ => rfl) (bSb rfl (bSb rfl (bSb rfl (bSb rfl (bSb rfl bSn))))) ?_
  refine bD.wk (lv' := [(0, .ref 13), (1, .ref t), (2, bI v2), (3, bI v2), (4, bI (μ (t + 5) v2.toNat))]) (bSb rfl (bSb rfl (bSb rfl (bSb rfl (bSb rfl bSn))))) ?_
  exact p_X3_climb_10 hr ht h2 h2 (bO_i hk (bTree_e ht 5 (by decide)))
/-! ET$Layout.orderEntries -/
theorem l25_0 : (ax_dt (ax_T 25)).lookup 0 = some (.aload_n 0, 1, 0, 0, 0) := by decide +kernel
theorem l25_1 : (ax_dt (ax_T 25)).lookup 1 = some (.iconst 0, 1, 0, 0, 0) := by decide +kernel
theorem l25_2 : (ax_dt (ax_T 25)).lookup 2 = some (.putfield 72, 3, 2, 5, 0) := by decide +kernel
theorem l25_5 : (ax_dt (ax_T 25)).lookup 5 = some (.iconst 0, 1, 0, 0, 0) := by decide +kernel
theorem l25_6 : (ax_dt (ax_T 25)).lookup 6 = some (.istore_n 2, 1, 0, 0, 0) := by decide +kernel
theorem l25_7 : (ax_dt (ax_T 25)).lookup 7 = some (.iload_n 2, 1, 0, 0, 0) := by decide +kernel
theorem l25_8 : (ax_dt (ax_T 25)).lookup 8 = some (.aload_n 1, 1, 0, 0, 0) := by decide +kernel
theorem l25_9 : (ax_dt (ax_T 25)).lookup 9 = some (.getfield 76, 3, 7, 0, 0) := by decide +kernel
theorem l25_12 : (ax_dt (ax_T 25)).lookup 12 = some (.if_icmp .ge 101, 3, 0, 0, 0) := by decide +kernel
theorem l25_15 : (ax_dt (ax_T 25)).lookup 15 = some (.aload_n 0, 1, 0, 0, 0) := by decide +kernel
theorem l25_16 : (ax_dt (ax_T 25)).lookup 16 = some (.getfield 15, 3, 2, 8, 0) := by decide +kernel
theorem l25_19 : (ax_dt (ax_T 25)).lookup 19 = some (.iload_n 2, 1, 0, 0, 0) := by decide +kernel
theorem l25_20 : (ax_dt (ax_T 25)).lookup 20 = some (.aload_n 0, 1, 0, 0, 0) := by decide +kernel
theorem l25_21 : (ax_dt (ax_T 25)).lookup 21 = some (.getfield 72, 3, 2, 5, 0) := by decide +kernel
theorem l25_24 : (ax_dt (ax_T 25)).lookup 24 = some (.iastore, 1, 0, 0, 0) := by decide +kernel
theorem l25_25 : (ax_dt (ax_T 25)).lookup 25 = some (.aload_n 1, 1, 0, 0, 0) := by decide +kernel
theorem l25_26 : (ax_dt (ax_T 25)).lookup 26 = some (.getfield 81, 3, 7, 2, 0) := by decide +kernel
theorem l25_29 : (ax_dt (ax_T 25)).lookup 29 = some (.iload_n 2, 1, 0, 0, 0) := by decide +kernel
theorem l25_30 : (ax_dt (ax_T 25)).lookup 30 = some (.iaload, 1, 0, 0, 0) := by decide +kernel
theorem l25_31 : (ax_dt (ax_T 25)).lookup 31 = some (.istore_n 3, 1, 0, 0, 0) := by decide +kernel
theorem l25_32 : (ax_dt (ax_T 25)).lookup 32 = some (.iconst 0, 1, 0, 0, 0) := by decide +kernel
theorem l25_33 : (ax_dt (ax_T 25)).lookup 33 = some (.istore 4, 2, 0, 0, 0) := by decide +kernel
theorem l25_35 : (ax_dt (ax_T 25)).lookup 35 = some (.iload 4, 2, 0, 0, 0) := by decide +kernel
theorem l25_37 : (ax_dt (ax_T 25)).lookup 37 = some (.aload_n 1, 1, 0, 0, 0) := by decide +kernel
theorem l25_38 : (ax_dt (ax_T 25)).lookup 38 = some (.getfield 84, 3, 7, 1, 0) := by decide +kernel
theorem l25_41 : (ax_dt (ax_T 25)).lookup 41 = some (.if_icmp .ge 66, 3, 0, 0, 0) := by decide +kernel
theorem l25_44 : (ax_dt (ax_T 25)).lookup 44 = some (.iload_n 3, 1, 0, 0, 0) := by decide +kernel
theorem l25_45 : (ax_dt (ax_T 25)).lookup 45 = some (.iconst (-1), 1, 0, 0, 0) := by decide +kernel
theorem l25_46 : (ax_dt (ax_T 25)).lookup 46 = some (.if_icmp .eq 61, 3, 0, 0, 0) := by decide +kernel
theorem l25_49 : (ax_dt (ax_T 25)).lookup 49 = some (.aload_n 0, 1, 0, 0, 0) := by decide +kernel
theorem l25_50 : (ax_dt (ax_T 25)).lookup 50 = some (.getfield 9, 3, 2, 7, 0) := by decide +kernel
theorem l25_53 : (ax_dt (ax_T 25)).lookup 53 = some (.aload_n 0, 1, 0, 0, 0) := by decide +kernel
theorem l25_54 : (ax_dt (ax_T 25)).lookup 54 = some (.getfield 72, 3, 2, 5, 0) := by decide +kernel
theorem l25_57 : (ax_dt (ax_T 25)).lookup 57 = some (.iload_n 3, 1, 0, 0, 0) := by decide +kernel
theorem l25_58 : (ax_dt (ax_T 25)).lookup 58 = some (.iastore, 1, 0, 0, 0) := by decide +kernel
theorem l25_59 : (ax_dt (ax_T 25)).lookup 59 = some (.aload_n 0, 1, 0, 0, 0) := by decide +kernel
theorem l25_60 : (ax_dt (ax_T 25)).lookup 60 = some (.dup, 1, 0, 0, 0) := by decide +kernel
theorem l25_61 : (ax_dt (ax_T 25)).lookup 61 = some (.getfield 72, 3, 2, 5, 0) := by decide +kernel
theorem l25_64 : (ax_dt (ax_T 25)).lookup 64 = some (.iconst 1, 1, 0, 0, 0) := by decide +kernel
theorem l25_65 : (ax_dt (ax_T 25)).lookup 65 = some (.iadd, 1, 0, 0, 0) := by decide +kernel
theorem l25_66 : (ax_dt (ax_T 25)).lookup 66 = some (.putfield 72, 3, 2, 5, 0) := by decide +kernel
theorem l25_69 : (ax_dt (ax_T 25)).lookup 69 = some (.aload_n 0, 1, 0, 0, 0) := by decide +kernel
theorem l25_70 : (ax_dt (ax_T 25)).lookup 70 = some (.getfield 21, 3, 2, 10, 0) := by decide +kernel
theorem l25_73 : (ax_dt (ax_T 25)).lookup 73 = some (.iload_n 3, 1, 0, 0, 0) := by decide +kernel
theorem l25_74 : (ax_dt (ax_T 25)).lookup 74 = some (.iconst 0, 1, 0, 0, 0) := by decide +kernel
theorem l25_75 : (ax_dt (ax_T 25)).lookup 75 = some (.iastore, 1, 0, 0, 0) := by decide +kernel
theorem l25_76 : (ax_dt (ax_T 25)).lookup 76 = some (.aload_n 1, 1, 0, 0, 0) := by decide +kernel
theorem l25_77 : (ax_dt (ax_T 25)).lookup 77 = some (.getfield 87, 3, 7, 7, 0) := by decide +kernel
theorem l25_80 : (ax_dt (ax_T 25)).lookup 80 = some (.iload_n 3, 1, 0, 0, 0) := by decide +kernel
theorem l25_81 : (ax_dt (ax_T 25)).lookup 81 = some (.iaload, 1, 0, 0, 0) := by decide +kernel
theorem l25_82 : (ax_dt (ax_T 25)).lookup 82 = some (.ifCond .le 12, 3, 0, 0, 0) := by decide +kernel
theorem l25_85 : (ax_dt (ax_T 25)).lookup 85 = some (.aload_n 1, 1, 0, 0, 0) := by decide +kernel
theorem l25_86 : (ax_dt (ax_T 25)).lookup 86 = some (.getfield 90, 3, 7, 8, 0) := by decide +kernel
theorem l25_89 : (ax_dt (ax_T 25)).lookup 89 = some (.iload_n 3, 1, 0, 0, 0) := by decide +kernel
theorem l25_90 : (ax_dt (ax_T 25)).lookup 90 = some (.iaload, 1, 0, 0, 0) := by decide +kernel
theorem l25_91 : (ax_dt (ax_T 25)).lookup 91 = some (.goto 9, 3, 0, 0, 0) := by decide +kernel
theorem l25_94 : (ax_dt (ax_T 25)).lookup 94 = some (.aload_n 0, 1, 0, 0, 0) := by decide +kernel
theorem l25_95 : (ax_dt (ax_T 25)).lookup 95 = some (.aload_n 1, 1, 0, 0, 0) := by decide +kernel
theorem l25_96 : (ax_dt (ax_T 25)).lookup 96 = some (.iload_n 3, 1, 0, 0, 0) := by decide +kernel
theorem l25_97 : (ax_dt (ax_T 25)).lookup 97 = some (.invokevirtual 93, 3, 26, 2, 0) := by decide +kernel
theorem l25_100 : (ax_dt (ax_T 25)).lookup 100 = some (.istore_n 3, 1, 0, 0, 0) := by decide +kernel
theorem l25_101 : (ax_dt (ax_T 25)).lookup 101 = some (.iinc 4 1, 3, 0, 0, 0) := by decide +kernel
theorem l25_104 : (ax_dt (ax_T 25)).lookup 104 = some (.goto (-69), 3, 0, 0, 0) := by decide +kernel
theorem l25_107 : (ax_dt (ax_T 25)).lookup 107 = some (.iinc 2 1, 3, 0, 0, 0) := by decide +kernel
theorem l25_110 : (ax_dt (ax_T 25)).lookup 110 = some (.goto (-103), 3, 0, 0, 0) := by decide +kernel
theorem l25_113 : (ax_dt (ax_T 25)).lookup 113 = some (.aload_n 0, 1, 0, 0, 0) := by decide +kernel
theorem l25_114 : (ax_dt (ax_T 25)).lookup 114 = some (.getfield 15, 3, 2, 8, 0) := by decide +kernel
theorem l25_117 : (ax_dt (ax_T 25)).lookup 117 = some (.aload_n 1, 1, 0, 0, 0) := by decide +kernel
theorem l25_118 : (ax_dt (ax_T 25)).lookup 118 = some (.getfield 76, 3, 7, 0, 0) := by decide +kernel
theorem l25_121 : (ax_dt (ax_T 25)).lookup 121 = some (.aload_n 0, 1, 0, 0, 0) := by decide +kernel
theorem l25_122 : (ax_dt (ax_T 25)).lookup 122 = some (.getfield 72, 3, 2, 5, 0) := by decide +kernel
theorem l25_125 : (ax_dt (ax_T 25)).lookup 125 = some (.iastore, 1, 0, 0, 0) := by decide +kernel
theorem l25_126 : (ax_dt (ax_T 25)).lookup 126 = some (.return_, 1, 0, 0, 0) := by decide +kernel
noncomputable def F_X3_orderEntries_35 (t : Nat) (v2 : Int) (v3 : Int) (v4 : Int) (μ : bM) : Option ((Int × Int × bM) ⊕ ((Int × bM) ⊕ (Int × bM))) := if (μ t 1) ≤ v4 then bG (bR (v2 + 1)) (some (.inr (.inl ((v2 + 1), μ)))) else if v3 = (-1) then bG (bR (v2 + 1)) (some (.inr (.inl ((v2 + 1), μ)))) else bG (0 ≤ (μ 13 5) ∧ (μ 13 5) < 400) (bG (bR (((bset μ 14 (μ 13 5).toNat v3) 13 5) + 1)) (bG (0 ≤ v3 ∧ v3 < 400) (bG (0 ≤ v3 ∧ v3 < 400) (if ((bset (bset (bset μ 14 (μ 13 5).toNat v3) 13 5 (((bset μ 14 (μ 13 5).toNat v3) 13 5) + 1)) 17 v3.toNat 0) (t + 6) v3.toNat) ≤ 0 then bMm (F_X3_climb t v3 (bset (bset (bset μ 14 (μ 13 5).toNat v3) 13 5 (((bset μ 14 (μ 13 5).toNat v3) 13 5) + 1)) 17 v3.toNat 0)) (fun w10 μ11 => bG (bR (v4 + 1)) (some (.inl (w10, (v4 + 1), μ11)))) else bG (0 ≤ v3 ∧ v3 < 400) (bG (bR (v4 + 1)) (some (.inl (((bset (bset (bset μ 14 (μ 13 5).toNat v3) 13 5 (((bset μ 14 (μ 13 5).toNat v3) 13 5) + 1)) 17 v3.toNat 0) (t + 7) v3.toNat), (v4 + 1), (bset (bset (bset μ 14 (μ 13 5).toNat v3) 13 5 (((bset μ 14 (μ 13 5).toNat v3) 13 5) + 1)) 17 v3.toNat 0)))))))))
noncomputable def F_X3_orderEntries_7 (t : Nat) (v2 : Int) (μ : bM) : Option ((Int × bM) ⊕ (Int × bM)) := if (μ t 0) ≤ v2 then bG (0 ≤ (μ t 0) ∧ (μ t 0) < 7) (some (.inr (0, (bset μ 15 (μ t 0).toNat (μ 13 5))))) else bG (0 ≤ v2 ∧ v2 < 7) (bG (0 ≤ v2 ∧ v2 < 6) (bLoop (fun z => F_X3_orderEntries_35 t v2 z.1 z.2.1 z.2.2) (((bset μ 15 v2.toNat (μ 13 5)) (t + 1) v2.toNat), 0, (bset μ 15 v2.toNat (μ 13 5)))))
noncomputable def F_X3_orderEntries (t : Nat) (μ : bM) : Option (Int × bM) := bLoop (fun z => F_X3_orderEntries_7 t z.1 z.2) (0, (bset μ 13 5 0))
theorem q_X3_orderEntries_35 {L : Nat} {xs : Nat → Int32} {d : Nat} {μ : bM} {t : Nat} {v2 : Int} {κ : ((Int × Int × bM) ⊕ ((Int × bM) ⊕ (Int × bM))) → Option bX} (hr : ∀ r : Int × bM, κ (.inr (.inr r)) = (bMc) r) (H7 : ∀ (v2 : Int) (μ : bM), bR v2 → bD L xs (d + 1) 25 7 [(0, .ref 13), (1, .ref t), (2, bI v2)] [] μ (κ (.inr (.inl (v2, μ))))) (H35 : ∀ (v3 : Int) (v4 : Int) (μ : bM), bR v3 → bR v4 → bD L xs (d + 1) 25 35 [(0, .ref 13), (1, .ref t), (2, bI v2), (3, bI v3), (4, bI v4)] [] μ (κ (.inl (v3, v4, μ)))) (ht : bTree t) (h2 : bR v2) {v3 : Int} (h3 : bR v3) {v4 : Int} (h4 : bR v4) : bD L xs (d + 1) 25 35 [(0, .ref 13), (1, .ref t), (2, bI v2), (3, bI v3), (4, bI v4)] [] μ ((F_X3_orderEntries_35 t v2 v3 v4 μ).bind κ) := by
  unfold F_X3_orderEntries_35
  refine bD.ok fun hk => ?_
  refine b_s (pc' := 37) (lv1 := [(0, .ref 13), (1, .ref t), (2, bI v2), (3, bI v3), (4, bI v4)]) (st' := [bI v4]) l25_35 (fun _ => rfl) ?_
  refine b_s (pc' := 38) (lv1 := [(0, .ref 13), (1, .ref t), (2, bI v2), (3, bI v3), (4, bI v4)]) (st' := [.ref t, bI v4]) l25_37 (fun _ => rfl) ?_
  refine b_gi l25_38 ht (by decide) (by decide) rfl (b_pc (pc' := 41) rfl ?_)
  refine b_ige (pt := 107) l25_41 h4 (bO_f hk (ci := 7) ht rfl) (by decide) rfl (fun c1 => ?_) (fun c1 => b_pc (pc' := 44) rfl ?_)
  · refine b_inc (lv' := [(0, .ref 13), (1, .ref t), (2, bI (v2 + 1))]) l25_107 rfl (by decide +kernel) (bSb rfl (bSb rfl (bSb rfl bSn))) fun g2 => (b_pc (pc' := 110) rfl ?_)
    refine b_s (pc' := 7) (lv1 := [(0, .ref 13), (1, .ref t), (2, bI (v2 + 1))]) (st' := []) l25_110 (fun _ => rfl) ?_
    refine bD.wk (lv' := [(0, .ref 13), (1, .ref t), (2, bI (v2 + 1))]) (bSb rfl (bSb rfl (bSb rfl bSn))) ?_
    exact H7 (v2 + 1) μ g2
  · refine b_s (pc' := 45) (lv1 := [(0, .ref 13), (1, .ref t), (2, bI v2), (3, bI v3), (4, bI v4)]) (st' := [bI v3]) l25_44 (fun _ => rfl) ?_
    refine b_s (pc' := 46) (lv1 := [(0, .ref 13), (1, .ref t), (2, bI v2), (3, bI v3), (4, bI v4)]) (st' := [bI (-1), bI v3]) l25_45 (fun _ => rfl) ?_
    refine b_ieq (pt := 107) l25_46 h3 (by decide) (by decide) rfl (fun c3 => ?_) (fun c3 => b_pc (pc' := 49) rfl ?_)
    · refine b_inc (lv' := [(0, .ref 13), (1, .ref t), (2, bI (v2 + 1))]) l25_107 rfl (by decide +kernel) (bSb rfl (bSb rfl (bSb rfl bSn))) fun g4 => (b_pc (pc' := 110) rfl ?_)
      refine b_s (pc' := 7) (lv1 := [(0, .ref 13), (1, .ref t), (2, bI (v2 + 1))]) (st' := []) l25_110 (fun _ => rfl) ?_
      refine bD.wk (lv' := [(0, .ref 13), (1, .ref t), (2, bI (v2 + 1))]) (bSb rfl (bSb rfl (bSb rfl bSn))) ?_
      exact H7 (v2 + 1) μ g4
    · refine b_s (pc' := 50) (lv1 := [(0, .ref 13), (1, .ref t), (2, bI v2), (3, bI v3), (4, bI v4)]) (st' := [.ref 13]) l25_49 (fun _ => rfl) ?_
      refine b_gp (q' := 14) (j := 1) l25_50 (by rfl) (by decide) (by decide) rfl hk rfl rfl (b_pc (pc' := 53) rfl ?_)
      refine b_s (pc' := 54) (lv1 := [(0, .ref 13), (1, .ref t), (2, bI v2), (3, bI v3), (4, bI v4)]) (st' := [.ref 13, .ref 14]) l25_53 (fun _ => rfl) ?_
      refine b_gi l25_54 (by rfl) (by decide) (by decide) rfl (b_pc (pc' := 57) rfl ?_)
      refine b_s (pc' := 58) (lv1 := [(0, .ref 13), (1, .ref t), (2, bI v2), (3, bI v3), (4, bI v4)]) (st' := [bI v3, bI (μ 13 5), .ref 14]) l25_57 (fun _ => rfl) ?_
      refine b_g fun g18 => ?_
      refine b_ias l25_58 (by rfl) g18 h3 (bD.ok fun hk5 => b_pc (pc' := 59) rfl ?_)
      refine b_s (pc' := 60) (lv1 := [(0, .ref 13), (1, .ref t), (2, bI v2), (3, bI v3), (4, bI v4)]) (st' := [.ref 13]) l25_59 (fun _ => rfl) ?_
      refine b_s (pc' := 61) (lv1 := [(0, .ref 13), (1, .ref t), (2, bI v2), (3, bI v3), (4, bI v4)]) (st' := [.ref 13, .ref 13]) l25_60 (fun _ => rfl) ?_
      refine b_gi l25_61 (by rfl) (by decide) (by decide) rfl (b_pc (pc' := 64) rfl ?_)
      refine b_s (pc' := 65) (lv1 := [(0, .ref 13), (1, .ref t), (2, bI v2), (3, bI v3), (4, bI v4)]) (st' := [bI 1, bI ((bset μ 14 (μ 13 5).toNat v3) 13 5), .ref 13]) l25_64 (fun _ => rfl) ?_
      refine b_iadd l25_65 fun g6 => (b_pc (pc' := 66) rfl ?_)
      refine b_pi l25_66 (by rfl) (by decide) (by decide) rfl rfl g6 (bD.ok fun hk7 => b_pc (pc' := 69) rfl ?_)
      refine b_s (pc' := 70) (lv1 := [(0, .ref 13), (1, .ref t), (2, bI v2), (3, bI v3), (4, bI v4)]) (st' := [.ref 13]) l25_69 (fun _ => rfl) ?_
      refine b_gp (q' := 17) (j := 4) l25_70 (by rfl) (by decide) (by decide) rfl hk7 rfl rfl (b_pc (pc' := 73) rfl ?_)
      refine b_s (pc' := 74) (lv1 := [(0, .ref 13), (1, .ref t), (2, bI v2), (3, bI v3), (4, bI v4)]) (st' := [bI v3, .ref 17]) l25_73 (fun _ => rfl) ?_
      refine b_s (pc' := 75) (lv1 := [(0, .ref 13), (1, .ref t), (2, bI v2), (3, bI v3), (4, bI v4)]) (st' := [bI 0, bI v3, .ref 17]) l25_74 (fun _ => rfl) ?_
      refine b_g fun g17 => ?_
      refine b_ias l25_75 (by rfl) g17 (by decide) (bD.ok fun hk8 => b_pc (pc' := 76) rfl ?_)
      refine b_s (pc' := 77) (lv1 := [(0, .ref 13), (1, .ref t), (2, bI v2), (3, bI v3), (4, bI v4)]) (st' := [.ref t]) l25_76 (fun _ => rfl) ?_
      refine b_gp (q' := (t + 6)) (j := 6) l25_77 ht (by decide) (by decide) rfl hk8 rfl rfl (b_pc (pc' := 80) rfl ?_)
      refine b_s (pc' := 81) (lv1 := [(0, .ref 13), (1, .ref t), (2, bI v2), (3, bI v3), (4, bI v4)]) (st' := [bI v3, .ref (t + 6)]) l25_80 (fun _ => rfl) ?_
      refine b_g fun g16 => ?_
      refine b_ial l25_81 (bTree_e ht 6 (by decide)) g16 (b_pc (pc' := 82) rfl ?_)
      refine b_zle (pt := 94) l25_82 (bO_i hk8 (bTree_e ht 6 (by decide))) (by decide) rfl (fun c9 => ?_) (fun c9 => b_pc (pc' := 85) rfl ?_)
      · refine b_s (pc' := 95) (lv1 := [(0, .ref 13), (1, .ref t), (2, bI v2), (3, bI v3), (4, bI v4)]) (st' := [.ref 13]) l25_94 (fun _ => rfl) ?_
        refine b_s (pc' := 96) (lv1 := [(0, .ref 13), (1, .ref t), (2, bI v2), (3, bI v3), (4, bI v4)]) (st' := [.ref t, .ref 13]) l25_95 (fun _ => rfl) ?_
        refine b_s (pc' := 97) (lv1 := [(0, .ref 13), (1, .ref t), (2, bI v2), (3, bI v3), (4, bI v4)]) (st' := [bI v3, .ref t, .ref 13]) l25_96 (fun _ => rfl) ?_
        refine b_cMi l25_97 rfl (b_rc (ci := 2) (by rfl) (by decide) (by decide +kernel)) (Nat.le_of_ble_eq_true rfl) (Nat.le_of_ble_eq_true rfl) rfl (r_X3_climb t ht v3 h3) fun w10 μ11 hw10 => bD.ok fun hk12 => b_pc (pc' := 100) rfl ?_
        refine b_w (pc' := 101) (lv1 := ax_st1 [(0, .ref 13), (1, .ref t), (2, bI v2), (3, bI v3), (4, bI v4)] 3 (bI w10)) (lv' := [(0, .ref 13), (1, .ref t), (2, bI v2), (3, bI w10), (4, bI v4)]) (st' := []) l25_100 (fun _ => rfl) (bSb rfl (bSb rfl (bSb rfl (bSb rfl (bSb rfl bSn))))) ?_
        refine b_inc (lv' := [(0, .ref 13), (1, .ref t), (2, bI v2), (3, bI w10), (4, bI (v4 + 1))]) l25_101 rfl (by decide +kernel) (bSb rfl (bSb rfl (bSb rfl (bSb rfl (bSb rfl bSn))))) fun g13 => (b_pc (pc' := 104) rfl ?_)
        refine b_s (pc' := 35) (lv1 := [(0, .ref 13), (1, .ref t), (2, bI v2), (3, bI w10), (4, bI (v4 + 1))]) (st' := []) l25_104 (fun _ => rfl) ?_
        refine bD.wk (lv' := [(0, .ref 13), (1, .ref t), (2, bI v2), (3, bI w10), (4, bI (v4 + 1))]) (bSb rfl (bSb rfl (bSb rfl (bSb rfl (bSb rfl bSn))))) ?_
        exact H35 w10 (v4 + 1) μ11 hw10 g13
      · refine b_s (pc' := 86) (lv1 := [(0, .ref 13), (1, .ref t), (2, bI v2), (3, bI v3), (4, bI v4)]) (st' := [.ref t]) l25_85 (fun _ => rfl) ?_
        refine b_gp (q' := (t + 7)) (j := 7) l25_86 ht (by decide) (by decide) rfl hk8 rfl rfl (b_pc (pc' := 89) rfl ?_)
        refine b_s (pc' := 90) (lv1 := [(0, .ref 13), (1, .ref t), (2, bI v2), (3, bI v3), (4, bI v4)]) (st' := [bI v3, .ref (t + 7)]) l25_89 (fun _ => rfl) ?_
        refine b_g fun g15 => ?_
        refine b_ial l25_90 (bTree_e ht 7 (by decide)) g15 (b_pc (pc' := 91) rfl ?_)
        refine b_s (pc' := 100) (lv1 := [(0, .ref 13), (1, .ref t), (2, bI v2), (3, bI v3), (4, bI v4)]) (st' := [bI ((bset (bset (bset μ 14 (μ 13 5).toNat v3) 13 5 (((bset μ 14 (μ 13 5).toNat v3) 13 5) + 1)) 17 v3.toNat 0) (t + 7) v3.toNat)]) l25_91 (fun _ => rfl) ?_
        refine b_w (pc' := 101) (lv1 := ax_st1 [(0, .ref 13), (1, .ref t), (2, bI v2), (3, bI v3), (4, bI v4)] 3 (bI ((bset (bset (bset μ 14 (μ 13 5).toNat v3) 13 5 (((bset μ 14 (μ 13 5).toNat v3) 13 5) + 1)) 17 v3.toNat 0) (t + 7) v3.toNat))) (lv' := [(0, .ref 13), (1, .ref t), (2, bI v2), (3, bI ((bset (bset (bset μ 14 (μ 13 5).toNat v3) 13 5 (((bset μ 14 (μ 13 5).toNat v3) 13 5) + 1)) 17 v3.toNat 0) (t + 7) v3.toNat)), (4, bI v4)]) (st' := []) l25_100 (fun _ => rfl) (bSb rfl (bSb rfl (bSb rfl (bSb rfl (bSb rfl bSn))))) ?_
        refine b_inc (lv' := [(0, .ref 13), (1, .ref t), (2, bI v2), (3, bI ((bset (bset (bset μ 14 (μ 13 5).toNat v3) 13 5 (((bset μ 14 (μ 13 5).toNat v3) 13 5) + 1)) 17 v3.toNat 0) (t + 7) v3.toNat)), (4, bI (v4 + 1))]) l25_101 rfl (by decide +kernel) (bSb rfl (bSb rfl (bSb rfl (bSb rfl (bSb rfl bSn))))) fun g14 => (b_pc (pc' := 104) rfl ?_)
        refine b_s (pc' := 35) (lv1 := [(0, .ref 13), (1, .ref t), (2, bI v2), (3, bI ((bset (bset (bset μ 14 (μ 13 5).toNat v3) 13 5 (((bset μ 14 (μ 13 5).toNat v3) 13 5) + 1)) 17 v3.toNat 0) (t + 7) v3.toNat)), (4, bI (v4 + 1))]) (st' := []) l25_104 (fun _ => rfl) ?_
        refine bD.wk (lv' := [(0, .ref 13), (1, .ref t), (2, bI v2), (3, bI ((bset (bset (bset μ 14 (μ 13 5).toNat v3) 13 5 (((bset μ 14 (μ 13 5).toNat v3) 13 5) + 1)) 17 v3.toNat 0) (t + 7) v3.toNat)), (4, bI (v4 + 1))]) (bSb rfl (bSb rfl (bSb rfl (bSb rfl (bSb rfl bSn))))) ?_
        exact H35 ((bset (bset (bset μ 14 (μ 13 5).toNat v3) 13 5 (((bset μ 14 (μ 13 5).toNat v3) 13 5) + 1)) 17 v3.toNat 0) (t + 7) v3.toNat) (v4 + 1) (bset (bset (bset μ 14 (μ 13 5).toNat v3) 13 5 (((bset μ 14 (μ 13 5).toNat v3) 13 5) + 1)) 17 v3.toNat 0) (bO_i hk8 (bTree_e ht 7 (by decide))) g14
theorem p_X3_orderEntries_35 {L : Nat} {xs : Nat → Int32} {d : Nat} {μ : bM} {t : Nat} {κ : ((Int × bM) ⊕ (Int × bM)) → Option bX} (hr : ∀ r : Int × bM, κ (.inr r) = (bMc) r) (H7 : ∀ (v2 : Int) (μ : bM), bR v2 → bD L xs (d + 1) 25 7 [(0, .ref 13), (1, .ref t), (2, bI v2)] [] μ (κ (.inl (v2, μ)))) (ht : bTree t) {v2 : Int} (h2 : bR v2) {v3 : Int} (h3 : bR v3) {v4 : Int} (h4 : bR v4) : bD L xs (d + 1) 25 35 [(0, .ref 13), (1, .ref t), (2, bI v2), (3, bI v3), (4, bI v4)] [] μ ((bLoop (fun z => F_X3_orderEntries_35 t v2 z.1 z.2.1 z.2.2) (v3, v4, μ)).bind κ) :=
  b_loop (fun z => [(0, .ref 13), (1, .ref t), (2, bI v2), (3, bI z.1), (4, bI z.2.1)]) (fun z => z.2.2) (fun z => bR z.1 ∧ bR z.2.1) (fun κ' hκ HH z hz => q_X3_orderEntries_35 (κ := κ') (fun r => (hκ _).trans (hr r)) (fun a2 am b2 => b_eq (hκ _) (H7 a2 am b2)) (fun a3 a4 am b3 b4 => HH (a3, a4, am) ⟨b3, b4⟩) ht h2 hz.1 hz.2) (v3, v4, μ) ⟨h3, h4⟩
theorem q_X3_orderEntries_7 {L : Nat} {xs : Nat → Int32} {d : Nat} {μ : bM} {t : Nat} {κ : ((Int × bM) ⊕ (Int × bM)) → Option bX} (hr : ∀ r : Int × bM, κ (.inr r) = (bMc) r) (H7 : ∀ (v2 : Int) (μ : bM), bR v2 → bD L xs (d + 1) 25 7 [(0, .ref 13), (1, .ref t), (2, bI v2)] [] μ (κ (.inl (v2, μ)))) (ht : bTree t) {v2 : Int} (h2 : bR v2) : bD L xs (d + 1) 25 7 [(0, .ref 13), (1, .ref t), (2, bI v2)] [] μ ((F_X3_orderEntries_7 t v2 μ).bind κ) := by
  unfold F_X3_orderEntries_7
  refine bD.ok fun hk => ?_
  refine b_s (pc' := 8) (lv1 := [(0, .ref 13), (1, .ref t), (2, bI v2)]) (st' := [bI v2]) l25_7 (fun _ => rfl) ?_
  refine b_s (pc' := 9) (lv1 := [(0, .ref 13), (1, .ref t), (2, bI v2)]) (st' := [.ref t, bI v2]) l25_8 (fun _ => rfl) ?_
  refine b_gi l25_9 ht (by decide) (by decide) rfl (b_pc (pc' := 12) rfl ?_)
  refine b_ige (pt := 113) l25_12 h2 (bO_f hk (ci := 7) ht rfl) (by decide) rfl (fun c1 => ?_) (fun c1 => b_pc (pc' := 15) rfl ?_)
  · refine b_s (pc' := 114) (lv1 := [(0, .ref 13), (1, .ref t), (2, bI v2)]) (st' := [.ref 13]) l25_113 (fun _ => rfl) ?_
    refine b_gp (q' := 15) (j := 2) l25_114 (by rfl) (by decide) (by decide) rfl hk rfl rfl (b_pc (pc' := 117) rfl ?_)
    refine b_s (pc' := 118) (lv1 := [(0, .ref 13), (1, .ref t), (2, bI v2)]) (st' := [.ref t, .ref 15]) l25_117 (fun _ => rfl) ?_
    refine b_gi l25_118 ht (by decide) (by decide) rfl (b_pc (pc' := 121) rfl ?_)
    refine b_s (pc' := 122) (lv1 := [(0, .ref 13), (1, .ref t), (2, bI v2)]) (st' := [.ref 13, bI (μ t 0), .ref 15]) l25_121 (fun _ => rfl) ?_
    refine b_gi l25_122 (by rfl) (by decide) (by decide) rfl (b_pc (pc' := 125) rfl ?_)
    refine b_g fun g3 => ?_
    refine b_ias l25_125 (by rfl) g3 (bO_f hk (ci := 2) (by rfl) rfl) (bD.ok fun hk2 => b_pc (pc' := 126) rfl ?_)
    exact b_retv l25_126 rfl (hr _)
  · refine b_s (pc' := 16) (lv1 := [(0, .ref 13), (1, .ref t), (2, bI v2)]) (st' := [.ref 13]) l25_15 (fun _ => rfl) ?_
    refine b_gp (q' := 15) (j := 2) l25_16 (by rfl) (by decide) (by decide) rfl hk rfl rfl (b_pc (pc' := 19) rfl ?_)
    refine b_s (pc' := 20) (lv1 := [(0, .ref 13), (1, .ref t), (2, bI v2)]) (st' := [bI v2, .ref 15]) l25_19 (fun _ => rfl) ?_
    refine b_s (pc' := 21) (lv1 := [(0, .ref 13), (1, .ref t), (2, bI v2)]) (st' := [.ref 13, bI v2, .ref 15]) l25_20 (fun _ => rfl) ?_
    refine b_gi l25_21 (by rfl) (by decide) (by decide) rfl (b_pc (pc' := 24) rfl ?_)
    refine b_g fun g6 => ?_
    refine b_ias l25_24 (by rfl) g6 (bO_f hk (ci := 2) (by rfl) rfl) (bD.ok fun hk4 => b_pc (pc' := 25) rfl ?_)
    refine b_s (pc' := 26) (lv1 := [(0, .ref 13), (1, .ref t), (2, bI v2)]) (st' := [.ref t]) l25_25 (fun _ => rfl) ?_
    refine b_gp (q' := (t + 1)) (j := 1) l25_26 ht (by decide) (by decide) rfl hk4 rfl rfl (b_pc (pc' := 29) rfl ?_)
    refine b_s (pc' := 30) (lv1 := [(0, .ref 13), (1, .ref t), (2, bI v2)]) (st' := [bI v2, .ref (t + 1)]) l25_29 (fun _ => rfl) ?_
    refine b_g fun g5 => ?_
    refine b_ial l25_30 (bTree_r ht) g5 (b_pc (pc' := 31) rfl ?_)
    refine b_w (pc' := 32) (lv1 := ax_st1 [(0, .ref 13), (1, .ref t), (2, bI v2)] 3 (bI ((bset μ 15 v2.toNat (μ 13 5)) (t + 1) v2.toNat))) (lv' := [(0, .ref 13), (1, .ref t), (2, bI v2), (3, bI ((bset μ 15 v2.toNat (μ 13 5)) (t + 1) v2.toNat))]) (st' := []) l25_31 (fun _ => rfl) (bSb rfl (bSb rfl (bSb rfl (bSb rfl bSn)))) ?_
    refine b_s (pc' := 33) (lv1 := [(0, .ref 13), (1, .ref t), (2, bI v2), (3, bI ((bset μ 15 v2.toNat (μ 13 5)) (t + 1) v2.toNat))]) (st' := [bI 0]) l25_32 (fun _ => rfl) ?_
    refine b_w (pc' := 35) (lv1 := ax_st1 [(0, .ref 13), (1, .ref t), (2, bI v2), (3, bI ((bset μ 15 v2.toNat (μ 13 5)) (t + 1) v2.toNat))] 4 (bI 0)) (lv' := [(0, .ref 13), (1, .ref t), (2, bI v2), (3, bI ((bset μ 15 v2.toNat (μ 13 5)) (t + 1) v2.toNat)), (4, bI 0)]) (st' := []) l25_33 (fun _ => rfl) (bSb rfl (bSb rfl (bSb rfl (bSb rfl (bSb rfl bSn))))) ?_
    refine bD.wk (lv' := [(0, .ref 13), (1, .ref t), (2, bI v2), (3, bI ((bset μ 15 v2.toNat (μ 13 5)) (t + 1) v2.toNat)), (4, bI 0)]) (bSb rfl (bSb rfl (bSb rfl (bSb rfl (bSb rfl bSn))))) ?_
    exact p_X3_orderEntries_35 hr H7 ht h2 (bO_i hk4 (bTree_r ht)) (by decide)
theorem p_X3_orderEntries_7 {L : Nat} {xs : Nat → Int32} {d : Nat} {μ : bM} {t : Nat} {κ : (Int × bM) → Option bX} (hr : ∀ r : Int × bM, κ r = (bMc) r) (ht : bTree t) {v2 : Int} (h2 : bR v2) : bD L xs (d + 1) 25 7 [(0, .ref 13), (1, .ref t), (2, bI v2)] [] μ ((bLoop (fun z => F_X3_orderEntries_7 t z.1 z.2) (v2, μ)).bind κ) :=
  b_loop (fun z => [(0, .ref 13), (1, .ref t), (2, bI z.1)]) (fun z => z.2) (fun z => bR z.1) (fun κ' hκ HH z hz => q_X3_orderEntries_7 (κ := κ') (fun r => (hκ _).trans (hr r)) (fun a2 am b2 => HH (a2, am) b2) ht hz) (v2, μ) h2
theorem r_X3_orderEntries {L : Nat} {xs : Nat → Int32} {d : Nat} {μ : bM} (t : Nat) (ht : bTree t)  : bD L xs (d + 1) 25 0 [(0, .ref 13), (1, .ref t)] [] μ ((F_X3_orderEntries t μ).bind (bMc)) := by
  have hr : ∀ r, (bMc) r = (bMc) r := fun _ => rfl
  unfold F_X3_orderEntries
  refine bD.ok fun hk => ?_
  refine b_s (pc' := 1) (lv1 := [(0, .ref 13), (1, .ref t)]) (st' := [.ref 13]) l25_0 (fun _ => rfl) ?_
  refine b_s (pc' := 2) (lv1 := [(0, .ref 13), (1, .ref t)]) (st' := [bI 0, .ref 13]) l25_1 (fun _ => rfl) ?_
  refine b_pi l25_2 (by rfl) (by decide) (by decide) rfl rfl (by decide) (bD.ok fun hk1 => b_pc (pc' := 5) rfl ?_)
  refine b_s (pc' := 6) (lv1 := [(0, .ref 13), (1, .ref t)]) (st' := [bI 0]) l25_5 (fun _ => rfl) ?_
  refine b_w (pc' := 7) (lv1 := ax_st1 [(0, .ref 13), (1, .ref t)] 2 (bI 0)) (lv' := [(0, .ref 13), (1, .ref t), (2, bI 0)]) (st' := []) l25_6 (fun _ => rfl) (bSb rfl (bSb rfl (bSb rfl bSn))) ?_
  refine bD.wk (lv' := [(0, .ref 13), (1, .ref t), (2, bI 0)]) (bSb rfl (bSb rfl (bSb rfl bSn))) ?_
  exact p_X3_orderEntries_7 hr ht (by decide)
/-! ET$Layout.sameShape -/
theorem l30_0 : (ax_dt (ax_T 30)).lookup 0 = some (.aload_n 0, 1, 0, 0, 0) := by decide +kernel
theorem l30_1 : (ax_dt (ax_T 30)).lookup 1 = some (.getfield 140, 3, 7, 3, 0) := by decide +kernel
theorem l30_4 : (ax_dt (ax_T 30)).lookup 4 = some (.iload_n 1, 1, 0, 0, 0) := by decide +kernel
theorem l30_5 : (ax_dt (ax_T 30)).lookup 5 = some (.iaload, 1, 0, 0, 0) := by decide +kernel
theorem l30_6 : (ax_dt (ax_T 30)).lookup 6 = some (.aload_n 0, 1, 0, 0, 0) := by decide +kernel
theorem l30_7 : (ax_dt (ax_T 30)).lookup 7 = some (.getfield 140, 3, 7, 3, 0) := by decide +kernel
theorem l30_10 : (ax_dt (ax_T 30)).lookup 10 = some (.iload_n 2, 1, 0, 0, 0) := by decide +kernel
theorem l30_11 : (ax_dt (ax_T 30)).lookup 11 = some (.iaload, 1, 0, 0, 0) := by decide +kernel
theorem l30_12 : (ax_dt (ax_T 30)).lookup 12 = some (.if_icmp .ne 49, 3, 0, 0, 0) := by decide +kernel
theorem l30_15 : (ax_dt (ax_T 30)).lookup 15 = some (.aload_n 0, 1, 0, 0, 0) := by decide +kernel
theorem l30_16 : (ax_dt (ax_T 30)).lookup 16 = some (.getfield 143, 3, 7, 11, 0) := by decide +kernel
theorem l30_19 : (ax_dt (ax_T 30)).lookup 19 = some (.iload_n 1, 1, 0, 0, 0) := by decide +kernel
theorem l30_20 : (ax_dt (ax_T 30)).lookup 20 = some (.iaload, 1, 0, 0, 0) := by decide +kernel
theorem l30_21 : (ax_dt (ax_T 30)).lookup 21 = some (.aload_n 0, 1, 0, 0, 0) := by decide +kernel
theorem l30_22 : (ax_dt (ax_T 30)).lookup 22 = some (.getfield 143, 3, 7, 11, 0) := by decide +kernel
theorem l30_25 : (ax_dt (ax_T 30)).lookup 25 = some (.iload_n 2, 1, 0, 0, 0) := by decide +kernel
theorem l30_26 : (ax_dt (ax_T 30)).lookup 26 = some (.iaload, 1, 0, 0, 0) := by decide +kernel
theorem l30_27 : (ax_dt (ax_T 30)).lookup 27 = some (.if_icmp .ne 34, 3, 0, 0, 0) := by decide +kernel
theorem l30_30 : (ax_dt (ax_T 30)).lookup 30 = some (.aload_n 0, 1, 0, 0, 0) := by decide +kernel
theorem l30_31 : (ax_dt (ax_T 30)).lookup 31 = some (.getfield 87, 3, 7, 7, 0) := by decide +kernel
theorem l30_34 : (ax_dt (ax_T 30)).lookup 34 = some (.iload_n 1, 1, 0, 0, 0) := by decide +kernel
theorem l30_35 : (ax_dt (ax_T 30)).lookup 35 = some (.iaload, 1, 0, 0, 0) := by decide +kernel
theorem l30_36 : (ax_dt (ax_T 30)).lookup 36 = some (.ifCond .le 7, 3, 0, 0, 0) := by decide +kernel
theorem l30_39 : (ax_dt (ax_T 30)).lookup 39 = some (.iconst 1, 1, 0, 0, 0) := by decide +kernel
theorem l30_40 : (ax_dt (ax_T 30)).lookup 40 = some (.goto 4, 3, 0, 0, 0) := by decide +kernel
theorem l30_43 : (ax_dt (ax_T 30)).lookup 43 = some (.iconst 0, 1, 0, 0, 0) := by decide +kernel
theorem l30_44 : (ax_dt (ax_T 30)).lookup 44 = some (.aload_n 0, 1, 0, 0, 0) := by decide +kernel
theorem l30_45 : (ax_dt (ax_T 30)).lookup 45 = some (.getfield 87, 3, 7, 7, 0) := by decide +kernel
theorem l30_48 : (ax_dt (ax_T 30)).lookup 48 = some (.iload_n 2, 1, 0, 0, 0) := by decide +kernel
theorem l30_49 : (ax_dt (ax_T 30)).lookup 49 = some (.iaload, 1, 0, 0, 0) := by decide +kernel
theorem l30_50 : (ax_dt (ax_T 30)).lookup 50 = some (.ifCond .le 7, 3, 0, 0, 0) := by decide +kernel
theorem l30_53 : (ax_dt (ax_T 30)).lookup 53 = some (.iconst 1, 1, 0, 0, 0) := by decide +kernel
theorem l30_54 : (ax_dt (ax_T 30)).lookup 54 = some (.goto 4, 3, 0, 0, 0) := by decide +kernel
theorem l30_57 : (ax_dt (ax_T 30)).lookup 57 = some (.iconst 0, 1, 0, 0, 0) := by decide +kernel
theorem l30_58 : (ax_dt (ax_T 30)).lookup 58 = some (.if_icmp .eq 5, 3, 0, 0, 0) := by decide +kernel
theorem l30_61 : (ax_dt (ax_T 30)).lookup 61 = some (.iconst 0, 1, 0, 0, 0) := by decide +kernel
theorem l30_62 : (ax_dt (ax_T 30)).lookup 62 = some (.ireturn, 1, 0, 0, 0) := by decide +kernel
theorem l30_63 : (ax_dt (ax_T 30)).lookup 63 = some (.iconst 0, 1, 0, 0, 0) := by decide +kernel
theorem l30_64 : (ax_dt (ax_T 30)).lookup 64 = some (.istore_n 3, 1, 0, 0, 0) := by decide +kernel
theorem l30_65 : (ax_dt (ax_T 30)).lookup 65 = some (.iload_n 3, 1, 0, 0, 0) := by decide +kernel
theorem l30_66 : (ax_dt (ax_T 30)).lookup 66 = some (.aload_n 0, 1, 0, 0, 0) := by decide +kernel
theorem l30_67 : (ax_dt (ax_T 30)).lookup 67 = some (.getfield 143, 3, 7, 11, 0) := by decide +kernel
theorem l30_70 : (ax_dt (ax_T 30)).lookup 70 = some (.iload_n 1, 1, 0, 0, 0) := by decide +kernel
theorem l30_71 : (ax_dt (ax_T 30)).lookup 71 = some (.iaload, 1, 0, 0, 0) := by decide +kernel
theorem l30_72 : (ax_dt (ax_T 30)).lookup 72 = some (.if_icmp .ge 59, 3, 0, 0, 0) := by decide +kernel
theorem l30_75 : (ax_dt (ax_T 30)).lookup 75 = some (.iload_n 1, 1, 0, 0, 0) := by decide +kernel
theorem l30_76 : (ax_dt (ax_T 30)).lookup 76 = some (.iload_n 3, 1, 0, 0, 0) := by decide +kernel
theorem l30_77 : (ax_dt (ax_T 30)).lookup 77 = some (.invokestatic 146, 3, 77, 2, 0) := by decide +kernel
theorem l30_80 : (ax_dt (ax_T 30)).lookup 80 = some (.istore 4, 2, 0, 0, 0) := by decide +kernel
theorem l30_82 : (ax_dt (ax_T 30)).lookup 82 = some (.iload_n 2, 1, 0, 0, 0) := by decide +kernel
theorem l30_83 : (ax_dt (ax_T 30)).lookup 83 = some (.iload_n 3, 1, 0, 0, 0) := by decide +kernel
theorem l30_84 : (ax_dt (ax_T 30)).lookup 84 = some (.invokestatic 146, 3, 77, 2, 0) := by decide +kernel
theorem l30_87 : (ax_dt (ax_T 30)).lookup 87 = some (.istore 5, 2, 0, 0, 0) := by decide +kernel
theorem l30_89 : (ax_dt (ax_T 30)).lookup 89 = some (.aload_n 0, 1, 0, 0, 0) := by decide +kernel
theorem l30_90 : (ax_dt (ax_T 30)).lookup 90 = some (.getfield 150, 3, 7, 12, 0) := by decide +kernel
theorem l30_93 : (ax_dt (ax_T 30)).lookup 93 = some (.iload 4, 2, 0, 0, 0) := by decide +kernel
theorem l30_95 : (ax_dt (ax_T 30)).lookup 95 = some (.iaload, 1, 0, 0, 0) := by decide +kernel
theorem l30_96 : (ax_dt (ax_T 30)).lookup 96 = some (.aload_n 0, 1, 0, 0, 0) := by decide +kernel
theorem l30_97 : (ax_dt (ax_T 30)).lookup 97 = some (.getfield 150, 3, 7, 12, 0) := by decide +kernel
theorem l30_100 : (ax_dt (ax_T 30)).lookup 100 = some (.iload 5, 2, 0, 0, 0) := by decide +kernel
theorem l30_102 : (ax_dt (ax_T 30)).lookup 102 = some (.iaload, 1, 0, 0, 0) := by decide +kernel
theorem l30_103 : (ax_dt (ax_T 30)).lookup 103 = some (.if_icmp .ne 20, 3, 0, 0, 0) := by decide +kernel
theorem l30_106 : (ax_dt (ax_T 30)).lookup 106 = some (.aload_n 0, 1, 0, 0, 0) := by decide +kernel
theorem l30_107 : (ax_dt (ax_T 30)).lookup 107 = some (.getfield 153, 3, 7, 13, 0) := by decide +kernel
theorem l30_110 : (ax_dt (ax_T 30)).lookup 110 = some (.iload 4, 2, 0, 0, 0) := by decide +kernel
theorem l30_112 : (ax_dt (ax_T 30)).lookup 112 = some (.iaload, 1, 0, 0, 0) := by decide +kernel
theorem l30_113 : (ax_dt (ax_T 30)).lookup 113 = some (.aload_n 0, 1, 0, 0, 0) := by decide +kernel
theorem l30_114 : (ax_dt (ax_T 30)).lookup 114 = some (.getfield 153, 3, 7, 13, 0) := by decide +kernel
theorem l30_117 : (ax_dt (ax_T 30)).lookup 117 = some (.iload 5, 2, 0, 0, 0) := by decide +kernel
theorem l30_119 : (ax_dt (ax_T 30)).lookup 119 = some (.iaload, 1, 0, 0, 0) := by decide +kernel
theorem l30_120 : (ax_dt (ax_T 30)).lookup 120 = some (.if_icmp .eq 5, 3, 0, 0, 0) := by decide +kernel
theorem l30_123 : (ax_dt (ax_T 30)).lookup 123 = some (.iconst 0, 1, 0, 0, 0) := by decide +kernel
theorem l30_124 : (ax_dt (ax_T 30)).lookup 124 = some (.ireturn, 1, 0, 0, 0) := by decide +kernel
theorem l30_125 : (ax_dt (ax_T 30)).lookup 125 = some (.iinc 3 1, 3, 0, 0, 0) := by decide +kernel
theorem l30_128 : (ax_dt (ax_T 30)).lookup 128 = some (.goto (-63), 3, 0, 0, 0) := by decide +kernel
theorem l30_131 : (ax_dt (ax_T 30)).lookup 131 = some (.iconst 1, 1, 0, 0, 0) := by decide +kernel
theorem l30_132 : (ax_dt (ax_T 30)).lookup 132 = some (.ireturn, 1, 0, 0, 0) := by decide +kernel
noncomputable def F_X3_sameShape_65 (t : Nat) (v1 : Int) (v2 : Int) (μ : bM) (v3 : Int) : Option ((Int) ⊕ (Int)) := bG (0 ≤ v1 ∧ v1 < 400) (if (μ (t + 10) v1.toNat) ≤ v3 then some (.inr (1)) else (F_X8_slotAt v1 v3 μ).bind fun w2 => (F_X8_slotAt v2 v3 μ).bind fun w3 => bG (0 ≤ w2 ∧ w2 < 3200) (bG (0 ≤ w3 ∧ w3 < 3200) (if ¬ (μ (t + 11) w2.toNat) = (μ (t + 11) w3.toNat) then some (.inr (0)) else bG (0 ≤ w2 ∧ w2 < 3200) (bG (0 ≤ w3 ∧ w3 < 3200) (if (μ (t + 12) w2.toNat) = (μ (t + 12) w3.toNat) then bG (bR (v3 + 1)) (some (.inl (v3 + 1))) else some (.inr (0)))))))
noncomputable def F_X3_sameShape_44 (t : Nat) (v1 : Int) (v2 : Int) (y0 : Int) (μ : bM) : Option (Int) := bG (0 ≤ v2 ∧ v2 < 400) (if (μ (t + 6) v2.toNat) ≤ 0 then if y0 = 0 then bLoop (fun z => F_X3_sameShape_65 t v1 v2 μ z) 0 else some (0) else if y0 = 1 then bLoop (fun z => F_X3_sameShape_65 t v1 v2 μ z) 0 else some (0))
noncomputable def F_X3_sameShape (t : Nat) (v1 : Int) (v2 : Int) (μ : bM) : Option (Int) := bG (0 ≤ v1 ∧ v1 < 400) (bG (0 ≤ v2 ∧ v2 < 400) (if ¬ (μ (t + 2) v1.toNat) = (μ (t + 2) v2.toNat) then some (0) else bG (0 ≤ v1 ∧ v1 < 400) (bG (0 ≤ v2 ∧ v2 < 400) (if ¬ (μ (t + 10) v1.toNat) = (μ (t + 10) v2.toNat) then some (0) else bG (0 ≤ v1 ∧ v1 < 400) (if (μ (t + 6) v1.toNat) ≤ 0 then F_X3_sameShape_44 t v1 v2 0 μ else F_X3_sameShape_44 t v1 v2 1 μ)))))
theorem q_X3_sameShape_65 {L : Nat} {xs : Nat → Int32} {d : Nat} {μ : bM} {t : Nat} {v1 : Int} {v2 : Int} {κ : ((Int) ⊕ (Int)) → Option bX} (hr : ∀ r : Int, κ (.inr r) = (bPc μ) r) (H65 : ∀ (v3 : Int), bR v3 → bD L xs (d + 1) 30 65 [(0, .ref t), (1, bI v1), (2, bI v2), (3, bI v3)] [] μ (κ (.inl v3))) (ht : bTree t) (h1 : bR v1) (h2 : bR v2) {v3 : Int} (h3 : bR v3) : bD L xs (d + 1) 30 65 [(0, .ref t), (1, bI v1), (2, bI v2), (3, bI v3)] [] μ ((F_X3_sameShape_65 t v1 v2 μ v3).bind κ) := by
  unfold F_X3_sameShape_65
  refine bD.ok fun hk => ?_
  refine b_s (pc' := 66) (lv1 := [(0, .ref t), (1, bI v1), (2, bI v2), (3, bI v3)]) (st' := [bI v3]) l30_65 (fun _ => rfl) ?_
  refine b_s (pc' := 67) (lv1 := [(0, .ref t), (1, bI v1), (2, bI v2), (3, bI v3)]) (st' := [.ref t, bI v3]) l30_66 (fun _ => rfl) ?_
  refine b_gp (q' := (t + 10)) (j := 10) l30_67 ht (by decide) (by decide) rfl hk rfl rfl (b_pc (pc' := 70) rfl ?_)
  refine b_s (pc' := 71) (lv1 := [(0, .ref t), (1, bI v1), (2, bI v2), (3, bI v3)]) (st' := [bI v1, .ref (t + 10), bI v3]) l30_70 (fun _ => rfl) ?_
  refine b_g fun g11 => ?_
  refine b_ial l30_71 (bTree_e ht 10 (by decide)) g11 (b_pc (pc' := 72) rfl ?_)
  refine b_ige (pt := 131) l30_72 h3 (bO_i hk (bTree_e ht 10 (by decide))) (by decide) rfl (fun c1 => ?_) (fun c1 => b_pc (pc' := 75) rfl ?_)
  · refine b_s (pc' := 132) (lv1 := [(0, .ref t), (1, bI v1), (2, bI v2), (3, bI v3)]) (st' := [bI 1]) l30_131 (fun _ => rfl) ?_
    exact b_retz l30_132 rfl (by decide) (hr _)
  · refine b_s (pc' := 76) (lv1 := [(0, .ref t), (1, bI v1), (2, bI v2), (3, bI v3)]) (st' := [bI v1]) l30_75 (fun _ => rfl) ?_
    refine b_s (pc' := 77) (lv1 := [(0, .ref t), (1, bI v1), (2, bI v2), (3, bI v3)]) (st' := [bI v3, bI v1]) l30_76 (fun _ => rfl) ?_
    refine b_cPi l30_77 rfl (fun _ => trivial) (Nat.le_of_ble_eq_true rfl) (Nat.le_of_ble_eq_true rfl) rfl (r_X8_slotAt v1 h1 v3 h3) fun w2 hw2 => b_pc (pc' := 80) rfl ?_
    refine b_w (pc' := 82) (lv1 := ax_st1 [(0, .ref t), (1, bI v1), (2, bI v2), (3, bI v3)] 4 (bI w2)) (lv' := [(0, .ref t), (1, bI v1), (2, bI v2), (3, bI v3), (4, bI w2)]) (st' := []) l30_80 (fun _ => rfl) (bSb rfl (bSb rfl (bSb rfl (bSb rfl (bSb rfl bSn))))) ?_
    refine b_s (pc' := 83) (lv1 := [(0, .ref t), (1, bI v1), (2, bI v2), (3, bI v3), (4, bI w2)]) (st' := [bI v2]) l30_82 (fun _ => rfl) ?_
    refine b_s (pc' := 84) (lv1 := [(0, .ref t), (1, bI v1), (2, bI v2), (3, bI v3), (4, bI w2)]) (st' := [bI v3, bI v2]) l30_83 (fun _ => rfl) ?_
    refine b_cPi l30_84 rfl (fun _ => trivial) (Nat.le_of_ble_eq_true rfl) (Nat.le_of_ble_eq_true rfl) rfl (r_X8_slotAt v2 h2 v3 h3) fun w3 hw3 => b_pc (pc' := 87) rfl ?_
    refine b_w (pc' := 89) (lv1 := ax_st1 [(0, .ref t), (1, bI v1), (2, bI v2), (3, bI v3), (4, bI w2)] 5 (bI w3)) (lv' := [(0, .ref t), (1, bI v1), (2, bI v2), (3, bI v3), (4, bI w2), (5, bI w3)]) (st' := []) l30_87 (fun _ => rfl) (bSb rfl (bSb rfl (bSb rfl (bSb rfl (bSb rfl (bSb rfl bSn)))))) ?_
    refine b_s (pc' := 90) (lv1 := [(0, .ref t), (1, bI v1), (2, bI v2), (3, bI v3), (4, bI w2), (5, bI w3)]) (st' := [.ref t]) l30_89 (fun _ => rfl) ?_
    refine b_gp (q' := (t + 11)) (j := 11) l30_90 ht (by decide) (by decide) rfl hk rfl rfl (b_pc (pc' := 93) rfl ?_)
    refine b_s (pc' := 95) (lv1 := [(0, .ref t), (1, bI v1), (2, bI v2), (3, bI v3), (4, bI w2), (5, bI w3)]) (st' := [bI w2, .ref (t + 11)]) l30_93 (fun _ => rfl) ?_
    refine b_g fun g10 => ?_
    refine b_ial l30_95 (bTree_n ht) g10 (b_pc (pc' := 96) rfl ?_)
    refine b_s (pc' := 97) (lv1 := [(0, .ref t), (1, bI v1), (2, bI v2), (3, bI v3), (4, bI w2), (5, bI w3)]) (st' := [.ref t, bI (μ (t + 11) w2.toNat)]) l30_96 (fun _ => rfl) ?_
    refine b_gp (q' := (t + 11)) (j := 11) l30_97 ht (by decide) (by decide) rfl hk rfl rfl (b_pc (pc' := 100) rfl ?_)
    refine b_s (pc' := 102) (lv1 := [(0, .ref t), (1, bI v1), (2, bI v2), (3, bI v3), (4, bI w2), (5, bI w3)]) (st' := [bI w3, .ref (t + 11), bI (μ (t + 11) w2.toNat)]) l30_100 (fun _ => rfl) ?_
    refine b_g fun g9 => ?_
    refine b_ial l30_102 (bTree_n ht) g9 (b_pc (pc' := 103) rfl ?_)
    refine b_ine (pt := 123) l30_103 (bO_i hk (bTree_n ht)) (bO_i hk (bTree_n ht)) (by decide) rfl (fun c4 => ?_) (fun c4 => b_pc (pc' := 106) rfl ?_)
    · refine b_s (pc' := 124) (lv1 := [(0, .ref t), (1, bI v1), (2, bI v2), (3, bI v3), (4, bI w2), (5, bI w3)]) (st' := [bI 0]) l30_123 (fun _ => rfl) ?_
      exact b_retz l30_124 rfl (by decide) (hr _)
    · refine b_s (pc' := 107) (lv1 := [(0, .ref t), (1, bI v1), (2, bI v2), (3, bI v3), (4, bI w2), (5, bI w3)]) (st' := [.ref t]) l30_106 (fun _ => rfl) ?_
      refine b_gp (q' := (t + 12)) (j := 12) l30_107 ht (by decide) (by decide) rfl hk rfl rfl (b_pc (pc' := 110) rfl ?_)
      refine b_s (pc' := 112) (lv1 := [(0, .ref t), (1, bI v1), (2, bI v2), (3, bI v3), (4, bI w2), (5, bI w3)]) (st' := [bI w2, .ref (t + 12)]) l30_110 (fun _ => rfl) ?_
      refine b_g fun g8 => ?_
      refine b_ial l30_112 (bTree_f ht) g8 (b_pc (pc' := 113) rfl ?_)
      refine b_s (pc' := 114) (lv1 := [(0, .ref t), (1, bI v1), (2, bI v2), (3, bI v3), (4, bI w2), (5, bI w3)]) (st' := [.ref t, bI (μ (t + 12) w2.toNat)]) l30_113 (fun _ => rfl) ?_
      refine b_gp (q' := (t + 12)) (j := 12) l30_114 ht (by decide) (by decide) rfl hk rfl rfl (b_pc (pc' := 117) rfl ?_)
      refine b_s (pc' := 119) (lv1 := [(0, .ref t), (1, bI v1), (2, bI v2), (3, bI v3), (4, bI w2), (5, bI w3)]) (st' := [bI w3, .ref (t + 12), bI (μ (t + 12) w2.toNat)]) l30_117 (fun _ => rfl) ?_
      refine b_g fun g7 => ?_
      refine b_ial l30_119 (bTree_f ht) g7 (b_pc (pc' := 120) rfl ?_)
      refine b_ieq (pt := 125) l30_120 (bO_i hk (bTree_f ht)) (bO_i hk (bTree_f ht)) (by decide) rfl (fun c5 => ?_) (fun c5 => b_pc (pc' := 123) rfl ?_)
      · refine b_inc (lv' := [(0, .ref t), (1, bI v1), (2, bI v2), (3, bI (v3 + 1))]) l30_125 rfl (by decide +kernel) (bSb rfl (bSb rfl (bSb rfl (bSb rfl bSn)))) fun g6 => (b_pc (pc' := 128) rfl ?_)
        refine b_s (pc' := 65) (lv1 := [(0, .ref t), (1, bI v1), (2, bI v2), (3, bI (v3 + 1))]) (st' := []) l30_128 (fun _ => rfl) ?_
        refine bD.wk (lv' := [(0, .ref t), (1, bI v1), (2, bI v2), (3, bI (v3 + 1))]) (bSb rfl (bSb rfl (bSb rfl (bSb rfl bSn)))) ?_
        exact H65 (v3 + 1) g6
      · refine b_s (pc' := 124) (lv1 := [(0, .ref t), (1, bI v1), (2, bI v2), (3, bI v3), (4, bI w2), (5, bI w3)]) (st' := [bI 0]) l30_123 (fun _ => rfl) ?_
        exact b_retz l30_124 rfl (by decide) (hr _)
theorem p_X3_sameShape_65 {L : Nat} {xs : Nat → Int32} {d : Nat} {μ : bM} {t : Nat} {κ : (Int) → Option bX} (hr : ∀ r : Int, κ r = (bPc μ) r) (ht : bTree t) {v1 : Int} (h1 : bR v1) {v2 : Int} (h2 : bR v2) {v3 : Int} (h3 : bR v3) : bD L xs (d + 1) 30 65 [(0, .ref t), (1, bI v1), (2, bI v2), (3, bI v3)] [] μ ((bLoop (fun z => F_X3_sameShape_65 t v1 v2 μ z) v3).bind κ) :=
  b_loop (fun z => [(0, .ref t), (1, bI v1), (2, bI v2), (3, bI z)]) (fun z => μ) (fun z => bR z) (fun κ' hκ HH z hz => q_X3_sameShape_65 (κ := κ') (fun r => (hκ _).trans (hr r)) (fun a3 b3 => HH a3 b3) ht h1 h2 hz) v3 h3
theorem p_X3_sameShape_44 {L : Nat} {xs : Nat → Int32} {d : Nat} {μ : bM} {t : Nat} {κ : (Int) → Option bX} (hr : ∀ r : Int, κ r = (bPc μ) r) (ht : bTree t) {v1 : Int} (h1 : bR v1) {v2 : Int} (h2 : bR v2) {y0 : Int} (hy0 : bR y0) : bD L xs (d + 1) 30 44 [(0, .ref t), (1, bI v1), (2, bI v2)] [bI y0] μ ((F_X3_sameShape_44 t v1 v2 y0 μ).bind κ) := by
  unfold F_X3_sameShape_44
  refine bD.ok fun hk => ?_
  refine b_s (pc' := 45) (lv1 := [(0, .ref t), (1, bI v1), (2, bI v2)]) (st' := [.ref t, bI y0]) l30_44 (fun _ => rfl) ?_
  refine b_gp (q' := (t + 6)) (j := 6) l30_45 ht (by decide) (by decide) rfl hk rfl rfl (b_pc (pc' := 48) rfl ?_)
  refine b_s (pc' := 49) (lv1 := [(0, .ref t), (1, bI v1), (2, bI v2)]) (st' := [bI v2, .ref (t + 6), bI y0]) l30_48 (fun _ => rfl) ?_
  refine b_g fun g4 => ?_
  refine b_ial l30_49 (bTree_e ht 6 (by decide)) g4 (b_pc (pc' := 50) rfl ?_)
  refine b_zle (pt := 57) l30_50 (bO_i hk (bTree_e ht 6 (by decide))) (by decide) rfl (fun c1 => ?_) (fun c1 => b_pc (pc' := 53) rfl ?_)
  · refine b_s (pc' := 58) (lv1 := [(0, .ref t), (1, bI v1), (2, bI v2)]) (st' := [bI 0, bI y0]) l30_57 (fun _ => rfl) ?_
    refine b_ieq (pt := 63) l30_58 hy0 (by decide) (by decide) rfl (fun c2 => ?_) (fun c2 => b_pc (pc' := 61) rfl ?_)
    · refine b_s (pc' := 64) (lv1 := [(0, .ref t), (1, bI v1), (2, bI v2)]) (st' := [bI 0]) l30_63 (fun _ => rfl) ?_
      refine b_w (pc' := 65) (lv1 := ax_st1 [(0, .ref t), (1, bI v1), (2, bI v2)] 3 (bI 0)) (lv' := [(0, .ref t), (1, bI v1), (2, bI v2), (3, bI 0)]) (st' := []) l30_64 (fun _ => rfl) (bSb rfl (bSb rfl (bSb rfl (bSb rfl bSn)))) ?_
      refine bD.wk (lv' := [(0, .ref t), (1, bI v1), (2, bI v2), (3, bI 0)]) (bSb rfl (bSb rfl (bSb rfl (bSb rfl bSn)))) ?_
      exact p_X3_sameShape_65 hr ht h1 h2 (by decide)
    · refine b_s (pc' := 62) (lv1 := [(0, .ref t), (1, bI v1), (2, bI v2)]) (st' := [bI 0]) l30_61 (fun _ => rfl) ?_
      exact b_retz l30_62 rfl (by decide) (hr _)
  · refine b_s (pc' := 54) (lv1 := [(0, .ref t), (1, bI v1), (2, bI v2)]) (st' := [bI 1, bI y0]) l30_53 (fun _ => rfl) ?_
    refine b_s (pc' := 58) (lv1 := [(0, .ref t), (1, bI v1), (2, bI v2)]) (st' := [bI 1, bI y0]) l30_54 (fun _ => rfl) ?_
    refine b_ieq (pt := 63) l30_58 hy0 (by decide) (by decide) rfl (fun c3 => ?_) (fun c3 => b_pc (pc' := 61) rfl ?_)
    · refine b_s (pc' := 64) (lv1 := [(0, .ref t), (1, bI v1), (2, bI v2)]) (st' := [bI 0]) l30_63 (fun _ => rfl) ?_
      refine b_w (pc' := 65) (lv1 := ax_st1 [(0, .ref t), (1, bI v1), (2, bI v2)] 3 (bI 0)) (lv' := [(0, .ref t), (1, bI v1), (2, bI v2), (3, bI 0)]) (st' := []) l30_64 (fun _ => rfl) (bSb rfl (bSb rfl (bSb rfl (bSb rfl bSn)))) ?_
      refine bD.wk (lv' := [(0, .ref t), (1, bI v1), (2, bI v2), (3, bI 0)]) (bSb rfl (bSb rfl (bSb rfl (bSb rfl bSn)))) ?_
      exact p_X3_sameShape_65 hr ht h1 h2 (by decide)
    · refine b_s (pc' := 62) (lv1 := [(0, .ref t), (1, bI v1), (2, bI v2)]) (st' := [bI 0]) l30_61 (fun _ => rfl) ?_
      exact b_retz l30_62 rfl (by decide) (hr _)
theorem r_X3_sameShape {L : Nat} {xs : Nat → Int32} {d : Nat} {μ : bM} (t : Nat) (ht : bTree t) (v1 : Int) (h1 : bR v1) (v2 : Int) (h2 : bR v2) : bD L xs (d + 1) 30 0 [(0, .ref t), (1, bI v1), (2, bI v2)] [] μ ((F_X3_sameShape t v1 v2 μ).bind (bPc μ)) := by
  have hr : ∀ r, (bPc μ) r = (bPc μ) r := fun _ => rfl
  unfold F_X3_sameShape
  refine bD.ok fun hk => ?_
  refine b_s (pc' := 1) (lv1 := [(0, .ref t), (1, bI v1), (2, bI v2)]) (st' := [.ref t]) l30_0 (fun _ => rfl) ?_
  refine b_gp (q' := (t + 2)) (j := 2) l30_1 ht (by decide) (by decide) rfl hk rfl rfl (b_pc (pc' := 4) rfl ?_)
  refine b_s (pc' := 5) (lv1 := [(0, .ref t), (1, bI v1), (2, bI v2)]) (st' := [bI v1, .ref (t + 2)]) l30_4 (fun _ => rfl) ?_
  refine b_g fun g8 => ?_
  refine b_ial l30_5 (bTree_e ht 2 (by decide)) g8 (b_pc (pc' := 6) rfl ?_)
  refine b_s (pc' := 7) (lv1 := [(0, .ref t), (1, bI v1), (2, bI v2)]) (st' := [.ref t, bI (μ (t + 2) v1.toNat)]) l30_6 (fun _ => rfl) ?_
  refine b_gp (q' := (t + 2)) (j := 2) l30_7 ht (by decide) (by decide) rfl hk rfl rfl (b_pc (pc' := 10) rfl ?_)
  refine b_s (pc' := 11) (lv1 := [(0, .ref t), (1, bI v1), (2, bI v2)]) (st' := [bI v2, .ref (t + 2), bI (μ (t + 2) v1.toNat)]) l30_10 (fun _ => rfl) ?_
  refine b_g fun g7 => ?_
  refine b_ial l30_11 (bTree_e ht 2 (by decide)) g7 (b_pc (pc' := 12) rfl ?_)
  refine b_ine (pt := 61) l30_12 (bO_i hk (bTree_e ht 2 (by decide))) (bO_i hk (bTree_e ht 2 (by decide))) (by decide) rfl (fun c1 => ?_) (fun c1 => b_pc (pc' := 15) rfl ?_)
  · refine b_s (pc' := 62) (lv1 := [(0, .ref t), (1, bI v1), (2, bI v2)]) (st' := [bI 0]) l30_61 (fun _ => rfl) ?_
    exact b_retz l30_62 rfl (by decide) (hr _)
  · refine b_s (pc' := 16) (lv1 := [(0, .ref t), (1, bI v1), (2, bI v2)]) (st' := [.ref t]) l30_15 (fun _ => rfl) ?_
    refine b_gp (q' := (t + 10)) (j := 10) l30_16 ht (by decide) (by decide) rfl hk rfl rfl (b_pc (pc' := 19) rfl ?_)
    refine b_s (pc' := 20) (lv1 := [(0, .ref t), (1, bI v1), (2, bI v2)]) (st' := [bI v1, .ref (t + 10)]) l30_19 (fun _ => rfl) ?_
    refine b_g fun g6 => ?_
    refine b_ial l30_20 (bTree_e ht 10 (by decide)) g6 (b_pc (pc' := 21) rfl ?_)
    refine b_s (pc' := 22) (lv1 := [(0, .ref t), (1, bI v1), (2, bI v2)]) (st' := [.ref t, bI (μ (t + 10) v1.toNat)]) l30_21 (fun _ => rfl) ?_
    refine b_gp (q' := (t + 10)) (j := 10) l30_22 ht (by decide) (by decide) rfl hk rfl rfl (b_pc (pc' := 25) rfl ?_)
    refine b_s (pc' := 26) (lv1 := [(0, .ref t), (1, bI v1), (2, bI v2)]) (st' := [bI v2, .ref (t + 10), bI (μ (t + 10) v1.toNat)]) l30_25 (fun _ => rfl) ?_
    refine b_g fun g5 => ?_
    refine b_ial l30_26 (bTree_e ht 10 (by decide)) g5 (b_pc (pc' := 27) rfl ?_)
    refine b_ine (pt := 61) l30_27 (bO_i hk (bTree_e ht 10 (by decide))) (bO_i hk (bTree_e ht 10 (by decide))) (by decide) rfl (fun c2 => ?_) (fun c2 => b_pc (pc' := 30) rfl ?_)
    · refine b_s (pc' := 62) (lv1 := [(0, .ref t), (1, bI v1), (2, bI v2)]) (st' := [bI 0]) l30_61 (fun _ => rfl) ?_
      exact b_retz l30_62 rfl (by decide) (hr _)
    · refine b_s (pc' := 31) (lv1 := [(0, .ref t), (1, bI v1), (2, bI v2)]) (st' := [.ref t]) l30_30 (fun _ => rfl) ?_
      refine b_gp (q' := (t + 6)) (j := 6) l30_31 ht (by decide) (by decide) rfl hk rfl rfl (b_pc (pc' := 34) rfl ?_)
      refine b_s (pc' := 35) (lv1 := [(0, .ref t), (1, bI v1), (2, bI v2)]) (st' := [bI v1, .ref (t + 6)]) l30_34 (fun _ => rfl) ?_
      refine b_g fun g4 => ?_
      refine b_ial l30_35 (bTree_e ht 6 (by decide)) g4 (b_pc (pc' := 36) rfl ?_)
      refine b_zle (pt := 43) l30_36 (bO_i hk (bTree_e ht 6 (by decide))) (by decide) rfl (fun c3 => ?_) (fun c3 => b_pc (pc' := 39) rfl ?_)
      · refine b_s (pc' := 44) (lv1 := [(0, .ref t), (1, bI v1), (2, bI v2)]) (st' := [bI 0]) l30_43 (fun _ => rfl) ?_
        refine bD.wk (lv' := [(0, .ref t), (1, bI v1), (2, bI v2)]) (bSb rfl (bSb rfl (bSb rfl bSn))) ?_
        exact p_X3_sameShape_44 hr ht h1 h2 (by decide)
      · refine b_s (pc' := 40) (lv1 := [(0, .ref t), (1, bI v1), (2, bI v2)]) (st' := [bI 1]) l30_39 (fun _ => rfl) ?_
        refine b_s (pc' := 44) (lv1 := [(0, .ref t), (1, bI v1), (2, bI v2)]) (st' := [bI 1]) l30_40 (fun _ => rfl) ?_
        refine bD.wk (lv' := [(0, .ref t), (1, bI v1), (2, bI v2)]) (bSb rfl (bSb rfl (bSb rfl bSn))) ?_
        exact p_X3_sameShape_44 hr ht h1 h2 (by decide)
/-! ET$Layout.knownShape -/
theorem l28_0 : (ax_dt (ax_T 28)).lookup 0 = some (.aload_n 0, 1, 0, 0, 0) := by decide +kernel
theorem l28_1 : (ax_dt (ax_T 28)).lookup 1 = some (.getfield 47, 3, 2, 17, 0) := by decide +kernel
theorem l28_4 : (ax_dt (ax_T 28)).lookup 4 = some (.iload_n 3, 1, 0, 0, 0) := by decide +kernel
theorem l28_5 : (ax_dt (ax_T 28)).lookup 5 = some (.invokevirtual 129, 3, 2, 1, 0) := by decide +kernel
theorem l28_8 : (ax_dt (ax_T 28)).lookup 8 = some (.istore 4, 2, 0, 0, 0) := by decide +kernel
theorem l28_10 : (ax_dt (ax_T 28)).lookup 10 = some (.iconst 0, 1, 0, 0, 0) := by decide +kernel
theorem l28_11 : (ax_dt (ax_T 28)).lookup 11 = some (.istore 5, 2, 0, 0, 0) := by decide +kernel
theorem l28_13 : (ax_dt (ax_T 28)).lookup 13 = some (.iload 5, 2, 0, 0, 0) := by decide +kernel
theorem l28_15 : (ax_dt (ax_T 28)).lookup 15 = some (.aload_n 0, 1, 0, 0, 0) := by decide +kernel
theorem l28_16 : (ax_dt (ax_T 28)).lookup 16 = some (.getfield 106, 3, 2, 0, 0) := by decide +kernel
theorem l28_19 : (ax_dt (ax_T 28)).lookup 19 = some (.if_icmp .ge 44, 3, 0, 0, 0) := by decide +kernel
theorem l28_22 : (ax_dt (ax_T 28)).lookup 22 = some (.iload 4, 2, 0, 0, 0) := by decide +kernel
theorem l28_24 : (ax_dt (ax_T 28)).lookup 24 = some (.iconst (-1), 1, 0, 0, 0) := by decide +kernel
theorem l28_25 : (ax_dt (ax_T 28)).lookup 25 = some (.if_icmp .eq 38, 3, 0, 0, 0) := by decide +kernel
theorem l28_28 : (ax_dt (ax_T 28)).lookup 28 = some (.aload_n 1, 1, 0, 0, 0) := by decide +kernel
theorem l28_29 : (ax_dt (ax_T 28)).lookup 29 = some (.iload_n 2, 1, 0, 0, 0) := by decide +kernel
theorem l28_30 : (ax_dt (ax_T 28)).lookup 30 = some (.aload_n 0, 1, 0, 0, 0) := by decide +kernel
theorem l28_31 : (ax_dt (ax_T 28)).lookup 31 = some (.getfield 33, 3, 2, 14, 0) := by decide +kernel
theorem l28_34 : (ax_dt (ax_T 28)).lookup 34 = some (.iload 4, 2, 0, 0, 0) := by decide +kernel
theorem l28_36 : (ax_dt (ax_T 28)).lookup 36 = some (.iaload, 1, 0, 0, 0) := by decide +kernel
theorem l28_37 : (ax_dt (ax_T 28)).lookup 37 = some (.invokestatic 133, 3, 30, 3, 0) := by decide +kernel
theorem l28_40 : (ax_dt (ax_T 28)).lookup 40 = some (.ifCond .eq 6, 3, 0, 0, 0) := by decide +kernel
theorem l28_43 : (ax_dt (ax_T 28)).lookup 43 = some (.iload 4, 2, 0, 0, 0) := by decide +kernel
theorem l28_45 : (ax_dt (ax_T 28)).lookup 45 = some (.ireturn, 1, 0, 0, 0) := by decide +kernel
theorem l28_46 : (ax_dt (ax_T 28)).lookup 46 = some (.aload_n 0, 1, 0, 0, 0) := by decide +kernel
theorem l28_47 : (ax_dt (ax_T 28)).lookup 47 = some (.getfield 47, 3, 2, 17, 0) := by decide +kernel
theorem l28_50 : (ax_dt (ax_T 28)).lookup 50 = some (.iload 4, 2, 0, 0, 0) := by decide +kernel
theorem l28_52 : (ax_dt (ax_T 28)).lookup 52 = some (.invokevirtual 137, 3, 3, 1, 0) := by decide +kernel
theorem l28_55 : (ax_dt (ax_T 28)).lookup 55 = some (.istore 4, 2, 0, 0, 0) := by decide +kernel
theorem l28_57 : (ax_dt (ax_T 28)).lookup 57 = some (.iinc 5 1, 3, 0, 0, 0) := by decide +kernel
theorem l28_60 : (ax_dt (ax_T 28)).lookup 60 = some (.goto (-47), 3, 0, 0, 0) := by decide +kernel
theorem l28_63 : (ax_dt (ax_T 28)).lookup 63 = some (.iconst (-1), 1, 0, 0, 0) := by decide +kernel
theorem l28_64 : (ax_dt (ax_T 28)).lookup 64 = some (.ireturn, 1, 0, 0, 0) := by decide +kernel
noncomputable def F_X3_knownShape_13 (t : Nat) (v2 : Int) (μ : bM) (v4 : Int) (v5 : Int) : Option ((Int × Int) ⊕ (Int)) := if (μ 13 0) ≤ v5 then some (.inr ((-1))) else if v4 = (-1) then some (.inr ((-1))) else bG (0 ≤ v4 ∧ v4 < 400) ((F_X3_sameShape t v2 (μ 21 v4.toNat) μ).bind fun w3 => if w3 = 0 then (F_X0_after 24 v4 μ).bind fun w5 => bG (bR (v5 + 1)) (some (.inl (w5, (v5 + 1)))) else some (.inr (v4)))
noncomputable def F_X3_knownShape (t : Nat) (v2 : Int) (v3 : Int) (μ : bM) : Option (Int) := (F_X0_first 24 v3 μ).bind fun w1 => bLoop (fun z => F_X3_knownShape_13 t v2 μ z.1 z.2) (w1, 0)
theorem q_X3_knownShape_13 {L : Nat} {xs : Nat → Int32} {d : Nat} {μ : bM} {t : Nat} {v2 : Int} {κ : ((Int × Int) ⊕ (Int)) → Option bX} (hr : ∀ r : Int, κ (.inr r) = (bPc μ) r) (H13 : ∀ (v4 : Int) (v5 : Int), bR v4 → bR v5 → bD L xs (d + 2) 28 13 [(0, .ref 13), (1, .ref t), (2, bI v2), (4, bI v4), (5, bI v5)] [] μ (κ (.inl (v4, v5)))) (ht : bTree t) (h2 : bR v2) {v4 : Int} (h4 : bR v4) {v5 : Int} (h5 : bR v5) : bD L xs (d + 2) 28 13 [(0, .ref 13), (1, .ref t), (2, bI v2), (4, bI v4), (5, bI v5)] [] μ ((F_X3_knownShape_13 t v2 μ v4 v5).bind κ) := by
  unfold F_X3_knownShape_13
  refine bD.ok fun hk => ?_
  refine b_s (pc' := 15) (lv1 := [(0, .ref 13), (1, .ref t), (2, bI v2), (4, bI v4), (5, bI v5)]) (st' := [bI v5]) l28_13 (fun _ => rfl) ?_
  refine b_s (pc' := 16) (lv1 := [(0, .ref 13), (1, .ref t), (2, bI v2), (4, bI v4), (5, bI v5)]) (st' := [.ref 13, bI v5]) l28_15 (fun _ => rfl) ?_
  refine b_gi l28_16 (by rfl) (by decide) (by decide) rfl (b_pc (pc' := 19) rfl ?_)
  refine b_ige (pt := 63) l28_19 h5 (bO_f hk (ci := 2) (by rfl) rfl) (by decide) rfl (fun c1 => ?_) (fun c1 => b_pc (pc' := 22) rfl ?_)
  · refine b_s (pc' := 64) (lv1 := [(0, .ref 13), (1, .ref t), (2, bI v2), (4, bI v4), (5, bI v5)]) (st' := [bI (-1)]) l28_63 (fun _ => rfl) ?_
    exact b_reti l28_64 rfl (by decide) (hr _)
  · refine b_s (pc' := 24) (lv1 := [(0, .ref 13), (1, .ref t), (2, bI v2), (4, bI v4), (5, bI v5)]) (st' := [bI v4]) l28_22 (fun _ => rfl) ?_
    refine b_s (pc' := 25) (lv1 := [(0, .ref 13), (1, .ref t), (2, bI v2), (4, bI v4), (5, bI v5)]) (st' := [bI (-1), bI v4]) l28_24 (fun _ => rfl) ?_
    refine b_ieq (pt := 63) l28_25 h4 (by decide) (by decide) rfl (fun c2 => ?_) (fun c2 => b_pc (pc' := 28) rfl ?_)
    · refine b_s (pc' := 64) (lv1 := [(0, .ref 13), (1, .ref t), (2, bI v2), (4, bI v4), (5, bI v5)]) (st' := [bI (-1)]) l28_63 (fun _ => rfl) ?_
      exact b_reti l28_64 rfl (by decide) (hr _)
    · refine b_s (pc' := 29) (lv1 := [(0, .ref 13), (1, .ref t), (2, bI v2), (4, bI v4), (5, bI v5)]) (st' := [.ref t]) l28_28 (fun _ => rfl) ?_
      refine b_s (pc' := 30) (lv1 := [(0, .ref 13), (1, .ref t), (2, bI v2), (4, bI v4), (5, bI v5)]) (st' := [bI v2, .ref t]) l28_29 (fun _ => rfl) ?_
      refine b_s (pc' := 31) (lv1 := [(0, .ref 13), (1, .ref t), (2, bI v2), (4, bI v4), (5, bI v5)]) (st' := [.ref 13, bI v2, .ref t]) l28_30 (fun _ => rfl) ?_
      refine b_gp (q' := 21) (j := 8) l28_31 (by rfl) (by decide) (by decide) rfl hk rfl rfl (b_pc (pc' := 34) rfl ?_)
      refine b_s (pc' := 36) (lv1 := [(0, .ref 13), (1, .ref t), (2, bI v2), (4, bI v4), (5, bI v5)]) (st' := [bI v4, .ref 21, bI v2, .ref t]) l28_34 (fun _ => rfl) ?_
      refine b_g fun g7 => ?_
      refine b_ial l28_36 (by rfl) g7 (b_pc (pc' := 37) rfl ?_)
      refine b_cPz l28_37 rfl (fun _ => trivial) (Nat.le_of_ble_eq_true rfl) (Nat.le_of_ble_eq_true rfl) rfl (r_X3_sameShape t ht v2 h2 (μ 21 v4.toNat) (bO_i hk (by rfl))) fun w3 hw3 => b_pc (pc' := 40) rfl ?_
      refine b_zeq (pt := 46) l28_40 (bZ_R hw3) (by decide) rfl (fun c4 => ?_) (fun c4 => b_pc (pc' := 43) rfl ?_)
      · refine b_s (pc' := 47) (lv1 := [(0, .ref 13), (1, .ref t), (2, bI v2), (4, bI v4), (5, bI v5)]) (st' := [.ref 13]) l28_46 (fun _ => rfl) ?_
        refine b_gp (q' := 24) (j := 11) l28_47 (by rfl) (by decide) (by decide) rfl hk rfl rfl (b_pc (pc' := 50) rfl ?_)
        refine b_s (pc' := 52) (lv1 := [(0, .ref 13), (1, .ref t), (2, bI v2), (4, bI v4), (5, bI v5)]) (st' := [bI v4, .ref 24]) l28_50 (fun _ => rfl) ?_
        refine b_cPi l28_52 rfl (b_rc (ci := 0) (by rfl) (by decide) (by decide +kernel)) (Nat.le_of_ble_eq_true rfl) (Nat.le_of_ble_eq_true rfl) rfl (r_X0_after 24 (by rfl) v4 h4) fun w5 hw5 => b_pc (pc' := 55) rfl ?_
        refine b_w (pc' := 57) (lv1 := ax_st1 [(0, .ref 13), (1, .ref t), (2, bI v2), (4, bI v4), (5, bI v5)] 4 (bI w5)) (lv' := [(0, .ref 13), (1, .ref t), (2, bI v2), (4, bI w5), (5, bI v5)]) (st' := []) l28_55 (fun _ => rfl) (bSb rfl (bSb rfl (bSb rfl (bSb rfl (bSb rfl bSn))))) ?_
        refine b_inc (lv' := [(0, .ref 13), (1, .ref t), (2, bI v2), (4, bI w5), (5, bI (v5 + 1))]) l28_57 rfl (by decide +kernel) (bSb rfl (bSb rfl (bSb rfl (bSb rfl (bSb rfl bSn))))) fun g6 => (b_pc (pc' := 60) rfl ?_)
        refine b_s (pc' := 13) (lv1 := [(0, .ref 13), (1, .ref t), (2, bI v2), (4, bI w5), (5, bI (v5 + 1))]) (st' := []) l28_60 (fun _ => rfl) ?_
        refine bD.wk (lv' := [(0, .ref 13), (1, .ref t), (2, bI v2), (4, bI w5), (5, bI (v5 + 1))]) (bSb rfl (bSb rfl (bSb rfl (bSb rfl (bSb rfl bSn))))) ?_
        exact H13 w5 (v5 + 1) hw5 g6
      · refine b_s (pc' := 45) (lv1 := [(0, .ref 13), (1, .ref t), (2, bI v2), (4, bI v4), (5, bI v5)]) (st' := [bI v4]) l28_43 (fun _ => rfl) ?_
        exact b_reti l28_45 rfl h4 (hr _)
theorem p_X3_knownShape_13 {L : Nat} {xs : Nat → Int32} {d : Nat} {μ : bM} {t : Nat} {κ : (Int) → Option bX} (hr : ∀ r : Int, κ r = (bPc μ) r) (ht : bTree t) {v2 : Int} (h2 : bR v2) {v4 : Int} (h4 : bR v4) {v5 : Int} (h5 : bR v5) : bD L xs (d + 2) 28 13 [(0, .ref 13), (1, .ref t), (2, bI v2), (4, bI v4), (5, bI v5)] [] μ ((bLoop (fun z => F_X3_knownShape_13 t v2 μ z.1 z.2) (v4, v5)).bind κ) :=
  b_loop (fun z => [(0, .ref 13), (1, .ref t), (2, bI v2), (4, bI z.1), (5, bI z.2)]) (fun z => μ) (fun z => bR z.1 ∧ bR z.2) (fun κ' hκ HH z hz => q_X3_knownShape_13 (κ := κ') (fun r => (hκ _).trans (hr r)) (fun a4 a5 b4 b5 => HH (a4, a5) ⟨b4, b5⟩) ht h2 hz.1 hz.2) (v4, v5) ⟨h4, h5⟩
theorem r_X3_knownShape {L : Nat} {xs : Nat → Int32} {d : Nat} {μ : bM} (t : Nat) (ht : bTree t) (v2 : Int) (h2 : bR v2) (v3 : Int) (h3 : bR v3) : bD L xs (d + 2) 28 0 [(0, .ref 13), (1, .ref t), (2, bI v2), (3, bI v3)] [] μ ((F_X3_knownShape t v2 v3 μ).bind (bPc μ)) := by
  have hr : ∀ r, (bPc μ) r = (bPc μ) r := fun _ => rfl
  unfold F_X3_knownShape
  refine bD.ok fun hk => ?_
  refine b_s (pc' := 1) (lv1 := [(0, .ref 13), (1, .ref t), (2, bI v2), (3, bI v3)]) (st' := [.ref 13]) l28_0 (fun _ => rfl) ?_
  refine b_gp (q' := 24) (j := 11) l28_1 (by rfl) (by decide) (by decide) rfl hk rfl rfl (b_pc (pc' := 4) rfl ?_)
  refine b_s (pc' := 5) (lv1 := [(0, .ref 13), (1, .ref t), (2, bI v2), (3, bI v3)]) (st' := [bI v3, .ref 24]) l28_4 (fun _ => rfl) ?_
  refine b_cPi l28_5 rfl (b_rc (ci := 0) (by rfl) (by decide) (by decide +kernel)) (Nat.le_of_ble_eq_true rfl) (Nat.le_of_ble_eq_true rfl) rfl (r_X0_first 24 (by rfl) v3 h3) fun w1 hw1 => b_pc (pc' := 8) rfl ?_
  refine b_w (pc' := 10) (lv1 := ax_st1 [(0, .ref 13), (1, .ref t), (2, bI v2), (3, bI v3)] 4 (bI w1)) (lv' := [(0, .ref 13), (1, .ref t), (2, bI v2), (4, bI w1)]) (st' := []) l28_8 (fun _ => rfl) (bSb rfl (bSb rfl (bSb rfl (bSb rfl bSn)))) ?_
  refine b_s (pc' := 11) (lv1 := [(0, .ref 13), (1, .ref t), (2, bI v2), (4, bI w1)]) (st' := [bI 0]) l28_10 (fun _ => rfl) ?_
  refine b_w (pc' := 13) (lv1 := ax_st1 [(0, .ref 13), (1, .ref t), (2, bI v2), (4, bI w1)] 5 (bI 0)) (lv' := [(0, .ref 13), (1, .ref t), (2, bI v2), (4, bI w1), (5, bI 0)]) (st' := []) l28_11 (fun _ => rfl) (bSb rfl (bSb rfl (bSb rfl (bSb rfl (bSb rfl bSn))))) ?_
  refine bD.wk (lv' := [(0, .ref 13), (1, .ref t), (2, bI v2), (4, bI w1), (5, bI 0)]) (bSb rfl (bSb rfl (bSb rfl (bSb rfl (bSb rfl bSn))))) ?_
  exact p_X3_knownShape_13 hr ht h2 hw1 (by decide)
/-! ET$Layout.shapeHash -/
theorem l29_0 : (ax_dt (ax_T 29)).lookup 0 = some (.aload_n 0, 1, 0, 0, 0) := by decide +kernel
theorem l29_1 : (ax_dt (ax_T 29)).lookup 1 = some (.getfield 140, 3, 7, 3, 0) := by decide +kernel
theorem l29_4 : (ax_dt (ax_T 29)).lookup 4 = some (.iload_n 1, 1, 0, 0, 0) := by decide +kernel
theorem l29_5 : (ax_dt (ax_T 29)).lookup 5 = some (.iaload, 1, 0, 0, 0) := by decide +kernel
theorem l29_6 : (ax_dt (ax_T 29)).lookup 6 = some (.iconst 2, 1, 0, 0, 0) := by decide +kernel
theorem l29_7 : (ax_dt (ax_T 29)).lookup 7 = some (.imul, 1, 0, 0, 0) := by decide +kernel
theorem l29_8 : (ax_dt (ax_T 29)).lookup 8 = some (.aload_n 0, 1, 0, 0, 0) := by decide +kernel
theorem l29_9 : (ax_dt (ax_T 29)).lookup 9 = some (.getfield 87, 3, 7, 7, 0) := by decide +kernel
theorem l29_12 : (ax_dt (ax_T 29)).lookup 12 = some (.iload_n 1, 1, 0, 0, 0) := by decide +kernel
theorem l29_13 : (ax_dt (ax_T 29)).lookup 13 = some (.iaload, 1, 0, 0, 0) := by decide +kernel
theorem l29_14 : (ax_dt (ax_T 29)).lookup 14 = some (.ifCond .le 7, 3, 0, 0, 0) := by decide +kernel
theorem l29_17 : (ax_dt (ax_T 29)).lookup 17 = some (.iconst 1, 1, 0, 0, 0) := by decide +kernel
theorem l29_18 : (ax_dt (ax_T 29)).lookup 18 = some (.goto 4, 3, 0, 0, 0) := by decide +kernel
theorem l29_21 : (ax_dt (ax_T 29)).lookup 21 = some (.iconst 0, 1, 0, 0, 0) := by decide +kernel
theorem l29_22 : (ax_dt (ax_T 29)).lookup 22 = some (.iadd, 1, 0, 0, 0) := by decide +kernel
theorem l29_23 : (ax_dt (ax_T 29)).lookup 23 = some (.istore_n 2, 1, 0, 0, 0) := by decide +kernel
theorem l29_24 : (ax_dt (ax_T 29)).lookup 24 = some (.iconst 0, 1, 0, 0, 0) := by decide +kernel
theorem l29_25 : (ax_dt (ax_T 29)).lookup 25 = some (.istore_n 3, 1, 0, 0, 0) := by decide +kernel
theorem l29_26 : (ax_dt (ax_T 29)).lookup 26 = some (.iload_n 3, 1, 0, 0, 0) := by decide +kernel
theorem l29_27 : (ax_dt (ax_T 29)).lookup 27 = some (.aload_n 0, 1, 0, 0, 0) := by decide +kernel
theorem l29_28 : (ax_dt (ax_T 29)).lookup 28 = some (.getfield 143, 3, 7, 11, 0) := by decide +kernel
theorem l29_31 : (ax_dt (ax_T 29)).lookup 31 = some (.iload_n 1, 1, 0, 0, 0) := by decide +kernel
theorem l29_32 : (ax_dt (ax_T 29)).lookup 32 = some (.iaload, 1, 0, 0, 0) := by decide +kernel
theorem l29_33 : (ax_dt (ax_T 29)).lookup 33 = some (.if_icmp .ge 40, 3, 0, 0, 0) := by decide +kernel
theorem l29_36 : (ax_dt (ax_T 29)).lookup 36 = some (.iload_n 1, 1, 0, 0, 0) := by decide +kernel
theorem l29_37 : (ax_dt (ax_T 29)).lookup 37 = some (.iload_n 3, 1, 0, 0, 0) := by decide +kernel
theorem l29_38 : (ax_dt (ax_T 29)).lookup 38 = some (.invokestatic 146, 3, 77, 2, 0) := by decide +kernel
theorem l29_41 : (ax_dt (ax_T 29)).lookup 41 = some (.istore 4, 2, 0, 0, 0) := by decide +kernel
theorem l29_43 : (ax_dt (ax_T 29)).lookup 43 = some (.iload_n 2, 1, 0, 0, 0) := by decide +kernel
theorem l29_44 : (ax_dt (ax_T 29)).lookup 44 = some (.bipush 31, 2, 0, 0, 0) := by decide +kernel
theorem l29_46 : (ax_dt (ax_T 29)).lookup 46 = some (.imul, 1, 0, 0, 0) := by decide +kernel
theorem l29_47 : (ax_dt (ax_T 29)).lookup 47 = some (.aload_n 0, 1, 0, 0, 0) := by decide +kernel
theorem l29_48 : (ax_dt (ax_T 29)).lookup 48 = some (.getfield 150, 3, 7, 12, 0) := by decide +kernel
theorem l29_51 : (ax_dt (ax_T 29)).lookup 51 = some (.iload 4, 2, 0, 0, 0) := by decide +kernel
theorem l29_53 : (ax_dt (ax_T 29)).lookup 53 = some (.iaload, 1, 0, 0, 0) := by decide +kernel
theorem l29_54 : (ax_dt (ax_T 29)).lookup 54 = some (.iadd, 1, 0, 0, 0) := by decide +kernel
theorem l29_55 : (ax_dt (ax_T 29)).lookup 55 = some (.bipush 31, 2, 0, 0, 0) := by decide +kernel
theorem l29_57 : (ax_dt (ax_T 29)).lookup 57 = some (.imul, 1, 0, 0, 0) := by decide +kernel
theorem l29_58 : (ax_dt (ax_T 29)).lookup 58 = some (.aload_n 0, 1, 0, 0, 0) := by decide +kernel
theorem l29_59 : (ax_dt (ax_T 29)).lookup 59 = some (.getfield 153, 3, 7, 13, 0) := by decide +kernel
theorem l29_62 : (ax_dt (ax_T 29)).lookup 62 = some (.iload 4, 2, 0, 0, 0) := by decide +kernel
theorem l29_64 : (ax_dt (ax_T 29)).lookup 64 = some (.iaload, 1, 0, 0, 0) := by decide +kernel
theorem l29_65 : (ax_dt (ax_T 29)).lookup 65 = some (.iadd, 1, 0, 0, 0) := by decide +kernel
theorem l29_66 : (ax_dt (ax_T 29)).lookup 66 = some (.istore_n 2, 1, 0, 0, 0) := by decide +kernel
theorem l29_67 : (ax_dt (ax_T 29)).lookup 67 = some (.iinc 3 1, 3, 0, 0, 0) := by decide +kernel
theorem l29_70 : (ax_dt (ax_T 29)).lookup 70 = some (.goto (-44), 3, 0, 0, 0) := by decide +kernel
theorem l29_73 : (ax_dt (ax_T 29)).lookup 73 = some (.iload_n 2, 1, 0, 0, 0) := by decide +kernel
theorem l29_74 : (ax_dt (ax_T 29)).lookup 74 = some (.ireturn, 1, 0, 0, 0) := by decide +kernel
noncomputable def F_X3_shapeHash_26 (t : Nat) (v1 : Int) (μ : bM) (v2 : Int) (v3 : Int) : Option ((Int × Int) ⊕ (Int)) := bG (0 ≤ v1 ∧ v1 < 400) (if (μ (t + 10) v1.toNat) ≤ v3 then some (.inr (v2)) else (F_X8_slotAt v1 v3 μ).bind fun w2 => bG (0 ≤ w2 ∧ w2 < 3200) (bG (0 ≤ w2 ∧ w2 < 3200) (bG (bR (v3 + 1)) (some (.inl ((b32 ((b32 ((b32 ((b32 (v2 * 31)) + (μ (t + 11) w2.toNat))) * 31)) + (μ (t + 12) w2.toNat))), (v3 + 1)))))))
noncomputable def F_X3_shapeHash (t : Nat) (v1 : Int) (μ : bM) : Option (Int) := bG (0 ≤ v1 ∧ v1 < 400) (bG (0 ≤ v1 ∧ v1 < 400) (if (μ (t + 6) v1.toNat) ≤ 0 then bLoop (fun z => F_X3_shapeHash_26 t v1 μ z.1 z.2) ((b32 ((b32 ((μ (t + 2) v1.toNat) * 2)) + 0)), 0) else bLoop (fun z => F_X3_shapeHash_26 t v1 μ z.1 z.2) ((b32 ((b32 ((μ (t + 2) v1.toNat) * 2)) + 1)), 0)))
theorem q_X3_shapeHash_26 {L : Nat} {xs : Nat → Int32} {d : Nat} {μ : bM} {t : Nat} {v1 : Int} {κ : ((Int × Int) ⊕ (Int)) → Option bX} (hr : ∀ r : Int, κ (.inr r) = (bPc μ) r) (H26 : ∀ (v2 : Int) (v3 : Int), bR v2 → bR v3 → bD L xs (d + 1) 29 26 [(0, .ref t), (1, bI v1), (2, bI v2), (3, bI v3)] [] μ (κ (.inl (v2, v3)))) (ht : bTree t) (h1 : bR v1) {v2 : Int} (h2 : bR v2) {v3 : Int} (h3 : bR v3) : bD L xs (d + 1) 29 26 [(0, .ref t), (1, bI v1), (2, bI v2), (3, bI v3)] [] μ ((F_X3_shapeHash_26 t v1 μ v2 v3).bind κ) := by
  unfold F_X3_shapeHash_26
  refine bD.ok fun hk => ?_
  refine b_s (pc' := 27) (lv1 := [(0, .ref t), (1, bI v1), (2, bI v2), (3, bI v3)]) (st' := [bI v3]) l29_26 (fun _ => rfl) ?_
  refine b_s (pc' := 28) (lv1 := [(0, .ref t), (1, bI v1), (2, bI v2), (3, bI v3)]) (st' := [.ref t, bI v3]) l29_27 (fun _ => rfl) ?_
  refine b_gp (q' := (t + 10)) (j := 10) l29_28 ht (by decide) (by decide) rfl hk rfl rfl (b_pc (pc' := 31) rfl ?_)
  refine b_s (pc' := 32) (lv1 := [(0, .ref t), (1, bI v1), (2, bI v2), (3, bI v3)]) (st' := [bI v1, .ref (t + 10), bI v3]) l29_31 (fun _ => rfl) ?_
  refine b_g fun g6 => ?_
  refine b_ial l29_32 (bTree_e ht 10 (by decide)) g6 (b_pc (pc' := 33) rfl ?_)
  refine b_ige (pt := 73) l29_33 h3 (bO_i hk (bTree_e ht 10 (by decide))) (by decide) rfl (fun c1 => ?_) (fun c1 => b_pc (pc' := 36) rfl ?_)
  · refine b_s (pc' := 74) (lv1 := [(0, .ref t), (1, bI v1), (2, bI v2), (3, bI v3)]) (st' := [bI v2]) l29_73 (fun _ => rfl) ?_
    exact b_reti l29_74 rfl h2 (hr _)
  · refine b_s (pc' := 37) (lv1 := [(0, .ref t), (1, bI v1), (2, bI v2), (3, bI v3)]) (st' := [bI v1]) l29_36 (fun _ => rfl) ?_
    refine b_s (pc' := 38) (lv1 := [(0, .ref t), (1, bI v1), (2, bI v2), (3, bI v3)]) (st' := [bI v3, bI v1]) l29_37 (fun _ => rfl) ?_
    refine b_cPi l29_38 rfl (fun _ => trivial) (Nat.le_of_ble_eq_true rfl) (Nat.le_of_ble_eq_true rfl) rfl (r_X8_slotAt v1 h1 v3 h3) fun w2 hw2 => b_pc (pc' := 41) rfl ?_
    refine b_w (pc' := 43) (lv1 := ax_st1 [(0, .ref t), (1, bI v1), (2, bI v2), (3, bI v3)] 4 (bI w2)) (lv' := [(0, .ref t), (1, bI v1), (2, bI v2), (3, bI v3), (4, bI w2)]) (st' := []) l29_41 (fun _ => rfl) (bSb rfl (bSb rfl (bSb rfl (bSb rfl (bSb rfl bSn))))) ?_
    refine b_s (pc' := 44) (lv1 := [(0, .ref t), (1, bI v1), (2, bI v2), (3, bI v3), (4, bI w2)]) (st' := [bI v2]) l29_43 (fun _ => rfl) ?_
    refine b_bipush l29_44 (by decide) (b_pc (pc' := 46) rfl ?_)
    refine b_imulw l29_46 (b_pc (pc' := 47) rfl ?_)
    refine b_s (pc' := 48) (lv1 := [(0, .ref t), (1, bI v1), (2, bI v2), (3, bI v3), (4, bI w2)]) (st' := [.ref t, bI (b32 (v2 * 31))]) l29_47 (fun _ => rfl) ?_
    refine b_gp (q' := (t + 11)) (j := 11) l29_48 ht (by decide) (by decide) rfl hk rfl rfl (b_pc (pc' := 51) rfl ?_)
    refine b_s (pc' := 53) (lv1 := [(0, .ref t), (1, bI v1), (2, bI v2), (3, bI v3), (4, bI w2)]) (st' := [bI w2, .ref (t + 11), bI (b32 (v2 * 31))]) l29_51 (fun _ => rfl) ?_
    refine b_g fun g5 => ?_
    refine b_ial l29_53 (bTree_n ht) g5 (b_pc (pc' := 54) rfl ?_)
    refine b_iaddw l29_54 (b_pc (pc' := 55) rfl ?_)
    refine b_bipush l29_55 (by decide) (b_pc (pc' := 57) rfl ?_)
    refine b_imulw l29_57 (b_pc (pc' := 58) rfl ?_)
    refine b_s (pc' := 59) (lv1 := [(0, .ref t), (1, bI v1), (2, bI v2), (3, bI v3), (4, bI w2)]) (st' := [.ref t, bI (b32 ((b32 ((b32 (v2 * 31)) + (μ (t + 11) w2.toNat))) * 31))]) l29_58 (fun _ => rfl) ?_
    refine b_gp (q' := (t + 12)) (j := 12) l29_59 ht (by decide) (by decide) rfl hk rfl rfl (b_pc (pc' := 62) rfl ?_)
    refine b_s (pc' := 64) (lv1 := [(0, .ref t), (1, bI v1), (2, bI v2), (3, bI v3), (4, bI w2)]) (st' := [bI w2, .ref (t + 12), bI (b32 ((b32 ((b32 (v2 * 31)) + (μ (t + 11) w2.toNat))) * 31))]) l29_62 (fun _ => rfl) ?_
    refine b_g fun g4 => ?_
    refine b_ial l29_64 (bTree_f ht) g4 (b_pc (pc' := 65) rfl ?_)
    refine b_iaddw l29_65 (b_pc (pc' := 66) rfl ?_)
    refine b_w (pc' := 67) (lv1 := ax_st1 [(0, .ref t), (1, bI v1), (2, bI v2), (3, bI v3), (4, bI w2)] 2 (bI (b32 ((b32 ((b32 ((b32 (v2 * 31)) + (μ (t + 11) w2.toNat))) * 31)) + (μ (t + 12) w2.toNat))))) (lv' := [(0, .ref t), (1, bI v1), (2, bI (b32 ((b32 ((b32 ((b32 (v2 * 31)) + (μ (t + 11) w2.toNat))) * 31)) + (μ (t + 12) w2.toNat)))), (3, bI v3)]) (st' := []) l29_66 (fun _ => rfl) (bSb rfl (bSb rfl (bSb rfl (bSb rfl bSn)))) ?_
    refine b_inc (lv' := [(0, .ref t), (1, bI v1), (2, bI (b32 ((b32 ((b32 ((b32 (v2 * 31)) + (μ (t + 11) w2.toNat))) * 31)) + (μ (t + 12) w2.toNat)))), (3, bI (v3 + 1))]) l29_67 rfl (by decide +kernel) (bSb rfl (bSb rfl (bSb rfl (bSb rfl bSn)))) fun g3 => (b_pc (pc' := 70) rfl ?_)
    refine b_s (pc' := 26) (lv1 := [(0, .ref t), (1, bI v1), (2, bI (b32 ((b32 ((b32 ((b32 (v2 * 31)) + (μ (t + 11) w2.toNat))) * 31)) + (μ (t + 12) w2.toNat)))), (3, bI (v3 + 1))]) (st' := []) l29_70 (fun _ => rfl) ?_
    refine bD.wk (lv' := [(0, .ref t), (1, bI v1), (2, bI (b32 ((b32 ((b32 ((b32 (v2 * 31)) + (μ (t + 11) w2.toNat))) * 31)) + (μ (t + 12) w2.toNat)))), (3, bI (v3 + 1))]) (bSb rfl (bSb rfl (bSb rfl (bSb rfl bSn)))) ?_
    exact H26 (b32 ((b32 ((b32 ((b32 (v2 * 31)) + (μ (t + 11) w2.toNat))) * 31)) + (μ (t + 12) w2.toNat))) (v3 + 1) (b32_R _) g3
theorem p_X3_shapeHash_26 {L : Nat} {xs : Nat → Int32} {d : Nat} {μ : bM} {t : Nat} {κ : (Int) → Option bX} (hr : ∀ r : Int, κ r = (bPc μ) r) (ht : bTree t) {v1 : Int} (h1 : bR v1) {v2 : Int} (h2 : bR v2) {v3 : Int} (h3 : bR v3) : bD L xs (d + 1) 29 26 [(0, .ref t), (1, bI v1), (2, bI v2), (3, bI v3)] [] μ ((bLoop (fun z => F_X3_shapeHash_26 t v1 μ z.1 z.2) (v2, v3)).bind κ) :=
  b_loop (fun z => [(0, .ref t), (1, bI v1), (2, bI z.1), (3, bI z.2)]) (fun z => μ) (fun z => bR z.1 ∧ bR z.2) (fun κ' hκ HH z hz => q_X3_shapeHash_26 (κ := κ') (fun r => (hκ _).trans (hr r)) (fun a2 a3 b2 b3 => HH (a2, a3) ⟨b2, b3⟩) ht h1 hz.1 hz.2) (v2, v3) ⟨h2, h3⟩
theorem r_X3_shapeHash {L : Nat} {xs : Nat → Int32} {d : Nat} {μ : bM} (t : Nat) (ht : bTree t) (v1 : Int) (h1 : bR v1) : bD L xs (d + 1) 29 0 [(0, .ref t), (1, bI v1)] [] μ ((F_X3_shapeHash t v1 μ).bind (bPc μ)) := by
  have hr : ∀ r, (bPc μ) r = (bPc μ) r := fun _ => rfl
  unfold F_X3_shapeHash
  refine bD.ok fun hk => ?_
  refine b_s (pc' := 1) (lv1 := [(0, .ref t), (1, bI v1)]) (st' := [.ref t]) l29_0 (fun _ => rfl) ?_
  refine b_gp (q' := (t + 2)) (j := 2) l29_1 ht (by decide) (by decide) rfl hk rfl rfl (b_pc (pc' := 4) rfl ?_)
  refine b_s (pc' := 5) (lv1 := [(0, .ref t), (1, bI v1)]) (st' := [bI v1, .ref (t + 2)]) l29_4 (fun _ => rfl) ?_
  refine b_g fun g3 => ?_
  refine b_ial l29_5 (bTree_e ht 2 (by decide)) g3 (b_pc (pc' := 6) rfl ?_)
  refine b_s (pc' := 7) (lv1 := [(0, .ref t), (1, bI v1)]) (st' := [bI 2, bI (μ (t + 2) v1.toNat)]) l29_6 (fun _ => rfl) ?_
  refine b_imulw l29_7 (b_pc (pc' := 8) rfl ?_)
  refine b_s (pc' := 9) (lv1 := [(0, .ref t), (1, bI v1)]) (st' := [.ref t, bI (b32 ((μ (t + 2) v1.toNat) * 2))]) l29_8 (fun _ => rfl) ?_
  refine b_gp (q' := (t + 6)) (j := 6) l29_9 ht (by decide) (by decide) rfl hk rfl rfl (b_pc (pc' := 12) rfl ?_)
  refine b_s (pc' := 13) (lv1 := [(0, .ref t), (1, bI v1)]) (st' := [bI v1, .ref (t + 6), bI (b32 ((μ (t + 2) v1.toNat) * 2))]) l29_12 (fun _ => rfl) ?_
  refine b_g fun g2 => ?_
  refine b_ial l29_13 (bTree_e ht 6 (by decide)) g2 (b_pc (pc' := 14) rfl ?_)
  refine b_zle (pt := 21) l29_14 (bO_i hk (bTree_e ht 6 (by decide))) (by decide) rfl (fun c1 => ?_) (fun c1 => b_pc (pc' := 17) rfl ?_)
  · refine b_s (pc' := 22) (lv1 := [(0, .ref t), (1, bI v1)]) (st' := [bI 0, bI (b32 ((μ (t + 2) v1.toNat) * 2))]) l29_21 (fun _ => rfl) ?_
    refine b_iaddw l29_22 (b_pc (pc' := 23) rfl ?_)
    refine b_w (pc' := 24) (lv1 := ax_st1 [(0, .ref t), (1, bI v1)] 2 (bI (b32 ((b32 ((μ (t + 2) v1.toNat) * 2)) + 0)))) (lv' := [(0, .ref t), (1, bI v1), (2, bI (b32 ((b32 ((μ (t + 2) v1.toNat) * 2)) + 0)))]) (st' := []) l29_23 (fun _ => rfl) (bSb rfl (bSb rfl (bSb rfl bSn))) ?_
    refine b_s (pc' := 25) (lv1 := [(0, .ref t), (1, bI v1), (2, bI (b32 ((b32 ((μ (t + 2) v1.toNat) * 2)) + 0)))]) (st' := [bI 0]) l29_24 (fun _ => rfl) ?_
    refine b_w (pc' := 26) (lv1 := ax_st1 [(0, .ref t), (1, bI v1), (2, bI (b32 ((b32 ((μ (t + 2) v1.toNat) * 2)) + 0)))] 3 (bI 0)) (lv' := [(0, .ref t), (1, bI v1), (2, bI (b32 ((b32 ((μ (t + 2) v1.toNat) * 2)) + 0))), (3, bI 0)]) (st' := []) l29_25 (fun _ => rfl) (bSb rfl (bSb rfl (bSb rfl (bSb rfl bSn)))) ?_
    refine bD.wk (lv' := [(0, .ref t), (1, bI v1), (2, bI (b32 ((b32 ((μ (t + 2) v1.toNat) * 2)) + 0))), (3, bI 0)]) (bSb rfl (bSb rfl (bSb rfl (bSb rfl bSn)))) ?_
    exact p_X3_shapeHash_26 hr ht h1 (b32_R _) (by decide)
  · refine b_s (pc' := 18) (lv1 := [(0, .ref t), (1, bI v1)]) (st' := [bI 1, bI (b32 ((μ (t + 2) v1.toNat) * 2))]) l29_17 (fun _ => rfl) ?_
    refine b_s (pc' := 22) (lv1 := [(0, .ref t), (1, bI v1)]) (st' := [bI 1, bI (b32 ((μ (t + 2) v1.toNat) * 2))]) l29_18 (fun _ => rfl) ?_
    refine b_iaddw l29_22 (b_pc (pc' := 23) rfl ?_)
    refine b_w (pc' := 24) (lv1 := ax_st1 [(0, .ref t), (1, bI v1)] 2 (bI (b32 ((b32 ((μ (t + 2) v1.toNat) * 2)) + 1)))) (lv' := [(0, .ref t), (1, bI v1), (2, bI (b32 ((b32 ((μ (t + 2) v1.toNat) * 2)) + 1)))]) (st' := []) l29_23 (fun _ => rfl) (bSb rfl (bSb rfl (bSb rfl bSn))) ?_
    refine b_s (pc' := 25) (lv1 := [(0, .ref t), (1, bI v1), (2, bI (b32 ((b32 ((μ (t + 2) v1.toNat) * 2)) + 1)))]) (st' := [bI 0]) l29_24 (fun _ => rfl) ?_
    refine b_w (pc' := 26) (lv1 := ax_st1 [(0, .ref t), (1, bI v1), (2, bI (b32 ((b32 ((μ (t + 2) v1.toNat) * 2)) + 1)))] 3 (bI 0)) (lv' := [(0, .ref t), (1, bI v1), (2, bI (b32 ((b32 ((μ (t + 2) v1.toNat) * 2)) + 1))), (3, bI 0)]) (st' := []) l29_25 (fun _ => rfl) (bSb rfl (bSb rfl (bSb rfl (bSb rfl bSn)))) ?_
    refine bD.wk (lv' := [(0, .ref t), (1, bI v1), (2, bI (b32 ((b32 ((μ (t + 2) v1.toNat) * 2)) + 1))), (3, bI 0)]) (bSb rfl (bSb rfl (bSb rfl (bSb rfl bSn)))) ?_
    exact p_X3_shapeHash_26 hr ht h1 (b32_R _) (by decide)
/-! ET$Layout.shapeSize -/
theorem l31_0 : (ax_dt (ax_T 31)).lookup 0 = some (.iload_n 2, 1, 0, 0, 0) := by decide +kernel
theorem l31_1 : (ax_dt (ax_T 31)).lookup 1 = some (.i2l, 1, 0, 0, 0) := by decide +kernel
theorem l31_2 : (ax_dt (ax_T 31)).lookup 2 = some (.invokestatic 156, 3, 68, 1, 0) := by decide +kernel
theorem l31_5 : (ax_dt (ax_T 31)).lookup 5 = some (.aload_n 0, 1, 0, 0, 0) := by decide +kernel
theorem l31_6 : (ax_dt (ax_T 31)).lookup 6 = some (.getfield 140, 3, 7, 3, 0) := by decide +kernel
theorem l31_9 : (ax_dt (ax_T 31)).lookup 9 = some (.iload_n 1, 1, 0, 0, 0) := by decide +kernel
theorem l31_10 : (ax_dt (ax_T 31)).lookup 10 = some (.iaload, 1, 0, 0, 0) := by decide +kernel
theorem l31_11 : (ax_dt (ax_T 31)).lookup 11 = some (.i2l, 1, 0, 0, 0) := by decide +kernel
theorem l31_12 : (ax_dt (ax_T 31)).lookup 12 = some (.invokestatic 156, 3, 68, 1, 0) := by decide +kernel
theorem l31_15 : (ax_dt (ax_T 31)).lookup 15 = some (.iadd, 1, 0, 0, 0) := by decide +kernel
theorem l31_16 : (ax_dt (ax_T 31)).lookup 16 = some (.iconst 1, 1, 0, 0, 0) := by decide +kernel
theorem l31_17 : (ax_dt (ax_T 31)).lookup 17 = some (.iadd, 1, 0, 0, 0) := by decide +kernel
theorem l31_18 : (ax_dt (ax_T 31)).lookup 18 = some (.istore_n 3, 1, 0, 0, 0) := by decide +kernel
theorem l31_19 : (ax_dt (ax_T 31)).lookup 19 = some (.iconst 0, 1, 0, 0, 0) := by decide +kernel
theorem l31_20 : (ax_dt (ax_T 31)).lookup 20 = some (.istore 4, 2, 0, 0, 0) := by decide +kernel
theorem l31_22 : (ax_dt (ax_T 31)).lookup 22 = some (.iload 4, 2, 0, 0, 0) := by decide +kernel
theorem l31_24 : (ax_dt (ax_T 31)).lookup 24 = some (.aload_n 0, 1, 0, 0, 0) := by decide +kernel
theorem l31_25 : (ax_dt (ax_T 31)).lookup 25 = some (.getfield 143, 3, 7, 11, 0) := by decide +kernel
theorem l31_28 : (ax_dt (ax_T 31)).lookup 28 = some (.iload_n 1, 1, 0, 0, 0) := by decide +kernel
theorem l31_29 : (ax_dt (ax_T 31)).lookup 29 = some (.iaload, 1, 0, 0, 0) := by decide +kernel
theorem l31_30 : (ax_dt (ax_T 31)).lookup 30 = some (.if_icmp .ge 43, 3, 0, 0, 0) := by decide +kernel
theorem l31_33 : (ax_dt (ax_T 31)).lookup 33 = some (.iload_n 1, 1, 0, 0, 0) := by decide +kernel
theorem l31_34 : (ax_dt (ax_T 31)).lookup 34 = some (.iload 4, 2, 0, 0, 0) := by decide +kernel
theorem l31_36 : (ax_dt (ax_T 31)).lookup 36 = some (.invokestatic 146, 3, 77, 2, 0) := by decide +kernel
theorem l31_39 : (ax_dt (ax_T 31)).lookup 39 = some (.istore 5, 2, 0, 0, 0) := by decide +kernel
theorem l31_41 : (ax_dt (ax_T 31)).lookup 41 = some (.iload_n 3, 1, 0, 0, 0) := by decide +kernel
theorem l31_42 : (ax_dt (ax_T 31)).lookup 42 = some (.aload_n 0, 1, 0, 0, 0) := by decide +kernel
theorem l31_43 : (ax_dt (ax_T 31)).lookup 43 = some (.getfield 150, 3, 7, 12, 0) := by decide +kernel
theorem l31_46 : (ax_dt (ax_T 31)).lookup 46 = some (.iload 5, 2, 0, 0, 0) := by decide +kernel
theorem l31_48 : (ax_dt (ax_T 31)).lookup 48 = some (.iaload, 1, 0, 0, 0) := by decide +kernel
theorem l31_49 : (ax_dt (ax_T 31)).lookup 49 = some (.i2l, 1, 0, 0, 0) := by decide +kernel
theorem l31_50 : (ax_dt (ax_T 31)).lookup 50 = some (.invokestatic 156, 3, 68, 1, 0) := by decide +kernel
theorem l31_53 : (ax_dt (ax_T 31)).lookup 53 = some (.aload_n 0, 1, 0, 0, 0) := by decide +kernel
theorem l31_54 : (ax_dt (ax_T 31)).lookup 54 = some (.getfield 153, 3, 7, 13, 0) := by decide +kernel
theorem l31_57 : (ax_dt (ax_T 31)).lookup 57 = some (.iload 5, 2, 0, 0, 0) := by decide +kernel
theorem l31_59 : (ax_dt (ax_T 31)).lookup 59 = some (.iaload, 1, 0, 0, 0) := by decide +kernel
theorem l31_60 : (ax_dt (ax_T 31)).lookup 60 = some (.i2l, 1, 0, 0, 0) := by decide +kernel
theorem l31_61 : (ax_dt (ax_T 31)).lookup 61 = some (.invokestatic 156, 3, 68, 1, 0) := by decide +kernel
theorem l31_64 : (ax_dt (ax_T 31)).lookup 64 = some (.iadd, 1, 0, 0, 0) := by decide +kernel
theorem l31_65 : (ax_dt (ax_T 31)).lookup 65 = some (.iadd, 1, 0, 0, 0) := by decide +kernel
theorem l31_66 : (ax_dt (ax_T 31)).lookup 66 = some (.istore_n 3, 1, 0, 0, 0) := by decide +kernel
theorem l31_67 : (ax_dt (ax_T 31)).lookup 67 = some (.iinc 4 1, 3, 0, 0, 0) := by decide +kernel
theorem l31_70 : (ax_dt (ax_T 31)).lookup 70 = some (.goto (-48), 3, 0, 0, 0) := by decide +kernel
theorem l31_73 : (ax_dt (ax_T 31)).lookup 73 = some (.iload_n 3, 1, 0, 0, 0) := by decide +kernel
theorem l31_74 : (ax_dt (ax_T 31)).lookup 74 = some (.iconst 2, 1, 0, 0, 0) := by decide +kernel
theorem l31_75 : (ax_dt (ax_T 31)).lookup 75 = some (.iadd, 1, 0, 0, 0) := by decide +kernel
theorem l31_76 : (ax_dt (ax_T 31)).lookup 76 = some (.ireturn, 1, 0, 0, 0) := by decide +kernel
noncomputable def F_X3_shapeSize_22 (t : Nat) (v1 : Int) (μ : bM) (v3 : Int) (v4 : Int) : Option ((Int × Int) ⊕ (Int)) := bG (0 ≤ v1 ∧ v1 < 400) (if (μ (t + 10) v1.toNat) ≤ v4 then bG (bR (v3 + 2)) (some (.inr ((v3 + 2)))) else (F_X8_slotAt v1 v4 μ).bind fun w3 => bG (0 ≤ w3 ∧ w3 < 3200) ((F_X6_rowSize (μ (t + 11) w3.toNat) μ).bind fun w4 => bG (0 ≤ w3 ∧ w3 < 3200) ((F_X6_rowSize (μ (t + 12) w3.toNat) μ).bind fun w5 => bG (bR (w4 + w5)) (bG (bR (v3 + (w4 + w5))) (bG (bR (v4 + 1)) (some (.inl ((v3 + (w4 + w5)), (v4 + 1)))))))))
noncomputable def F_X3_shapeSize (t : Nat) (v1 : Int) (v2 : Int) (μ : bM) : Option (Int) := (F_X6_rowSize v2 μ).bind fun w1 => bG (0 ≤ v1 ∧ v1 < 400) ((F_X6_rowSize (μ (t + 2) v1.toNat) μ).bind fun w2 => bG (bR (w1 + w2)) (bG (bR ((w1 + w2) + 1)) (bLoop (fun z => F_X3_shapeSize_22 t v1 μ z.1 z.2) (((w1 + w2) + 1), 0))))
theorem q_X3_shapeSize_22 {L : Nat} {xs : Nat → Int32} {d : Nat} {μ : bM} {t : Nat} {v1 : Int} {κ : ((Int × Int) ⊕ (Int)) → Option bX} (hr : ∀ r : Int, κ (.inr r) = (bPc μ) r) (H22 : ∀ (v3 : Int) (v4 : Int), bR v3 → bR v4 → bD L xs (d + 1) 31 22 [(0, .ref t), (1, bI v1), (3, bI v3), (4, bI v4)] [] μ (κ (.inl (v3, v4)))) (ht : bTree t) (h1 : bR v1) {v3 : Int} (h3 : bR v3) {v4 : Int} (h4 : bR v4) : bD L xs (d + 1) 31 22 [(0, .ref t), (1, bI v1), (3, bI v3), (4, bI v4)] [] μ ((F_X3_shapeSize_22 t v1 μ v3 v4).bind κ) := by
  unfold F_X3_shapeSize_22
  refine bD.ok fun hk => ?_
  refine b_s (pc' := 24) (lv1 := [(0, .ref t), (1, bI v1), (3, bI v3), (4, bI v4)]) (st' := [bI v4]) l31_22 (fun _ => rfl) ?_
  refine b_s (pc' := 25) (lv1 := [(0, .ref t), (1, bI v1), (3, bI v3), (4, bI v4)]) (st' := [.ref t, bI v4]) l31_24 (fun _ => rfl) ?_
  refine b_gp (q' := (t + 10)) (j := 10) l31_25 ht (by decide) (by decide) rfl hk rfl rfl (b_pc (pc' := 28) rfl ?_)
  refine b_s (pc' := 29) (lv1 := [(0, .ref t), (1, bI v1), (3, bI v3), (4, bI v4)]) (st' := [bI v1, .ref (t + 10), bI v4]) l31_28 (fun _ => rfl) ?_
  refine b_g fun g11 => ?_
  refine b_ial l31_29 (bTree_e ht 10 (by decide)) g11 (b_pc (pc' := 30) rfl ?_)
  refine b_ige (pt := 73) l31_30 h4 (bO_i hk (bTree_e ht 10 (by decide))) (by decide) rfl (fun c1 => ?_) (fun c1 => b_pc (pc' := 33) rfl ?_)
  · refine b_s (pc' := 74) (lv1 := [(0, .ref t), (1, bI v1), (3, bI v3), (4, bI v4)]) (st' := [bI v3]) l31_73 (fun _ => rfl) ?_
    refine b_s (pc' := 75) (lv1 := [(0, .ref t), (1, bI v1), (3, bI v3), (4, bI v4)]) (st' := [bI 2, bI v3]) l31_74 (fun _ => rfl) ?_
    refine b_iadd l31_75 fun g2 => (b_pc (pc' := 76) rfl ?_)
    exact b_reti l31_76 rfl g2 (hr _)
  · refine b_s (pc' := 34) (lv1 := [(0, .ref t), (1, bI v1), (3, bI v3), (4, bI v4)]) (st' := [bI v1]) l31_33 (fun _ => rfl) ?_
    refine b_s (pc' := 36) (lv1 := [(0, .ref t), (1, bI v1), (3, bI v3), (4, bI v4)]) (st' := [bI v4, bI v1]) l31_34 (fun _ => rfl) ?_
    refine b_cPi l31_36 rfl (fun _ => trivial) (Nat.le_of_ble_eq_true rfl) (Nat.le_of_ble_eq_true rfl) rfl (r_X8_slotAt v1 h1 v4 h4) fun w3 hw3 => b_pc (pc' := 39) rfl ?_
    refine b_w (pc' := 41) (lv1 := ax_st1 [(0, .ref t), (1, bI v1), (3, bI v3), (4, bI v4)] 5 (bI w3)) (lv' := [(0, .ref t), (1, bI v1), (3, bI v3), (4, bI v4), (5, bI w3)]) (st' := []) l31_39 (fun _ => rfl) (bSb rfl (bSb rfl (bSb rfl (bSb rfl (bSb rfl bSn))))) ?_
    refine b_s (pc' := 42) (lv1 := [(0, .ref t), (1, bI v1), (3, bI v3), (4, bI v4), (5, bI w3)]) (st' := [bI v3]) l31_41 (fun _ => rfl) ?_
    refine b_s (pc' := 43) (lv1 := [(0, .ref t), (1, bI v1), (3, bI v3), (4, bI v4), (5, bI w3)]) (st' := [.ref t, bI v3]) l31_42 (fun _ => rfl) ?_
    refine b_gp (q' := (t + 11)) (j := 11) l31_43 ht (by decide) (by decide) rfl hk rfl rfl (b_pc (pc' := 46) rfl ?_)
    refine b_s (pc' := 48) (lv1 := [(0, .ref t), (1, bI v1), (3, bI v3), (4, bI v4), (5, bI w3)]) (st' := [bI w3, .ref (t + 11), bI v3]) l31_46 (fun _ => rfl) ?_
    refine b_g fun g10 => ?_
    refine b_ial l31_48 (bTree_n ht) g10 (b_pc (pc' := 49) rfl ?_)
    refine b_i2l l31_49 (bO_i hk (bTree_n ht)) (b_pc (pc' := 50) rfl ?_)
    refine b_cPi l31_50 rfl (fun _ => trivial) (Nat.le_of_ble_eq_true rfl) (Nat.le_of_ble_eq_true rfl) rfl (r_X6_rowSize (μ (t + 11) w3.toNat) (bR_L (bO_i hk (bTree_n ht)))) fun w4 hw4 => b_pc (pc' := 53) rfl ?_
    refine b_s (pc' := 54) (lv1 := [(0, .ref t), (1, bI v1), (3, bI v3), (4, bI v4), (5, bI w3)]) (st' := [.ref t, bI w4, bI v3]) l31_53 (fun _ => rfl) ?_
    refine b_gp (q' := (t + 12)) (j := 12) l31_54 ht (by decide) (by decide) rfl hk rfl rfl (b_pc (pc' := 57) rfl ?_)
    refine b_s (pc' := 59) (lv1 := [(0, .ref t), (1, bI v1), (3, bI v3), (4, bI v4), (5, bI w3)]) (st' := [bI w3, .ref (t + 12), bI w4, bI v3]) l31_57 (fun _ => rfl) ?_
    refine b_g fun g9 => ?_
    refine b_ial l31_59 (bTree_f ht) g9 (b_pc (pc' := 60) rfl ?_)
    refine b_i2l l31_60 (bO_i hk (bTree_f ht)) (b_pc (pc' := 61) rfl ?_)
    refine b_cPi l31_61 rfl (fun _ => trivial) (Nat.le_of_ble_eq_true rfl) (Nat.le_of_ble_eq_true rfl) rfl (r_X6_rowSize (μ (t + 12) w3.toNat) (bR_L (bO_i hk (bTree_f ht)))) fun w5 hw5 => b_pc (pc' := 64) rfl ?_
    refine b_iadd l31_64 fun g6 => (b_pc (pc' := 65) rfl ?_)
    refine b_iadd l31_65 fun g7 => (b_pc (pc' := 66) rfl ?_)
    refine b_w (pc' := 67) (lv1 := ax_st1 [(0, .ref t), (1, bI v1), (3, bI v3), (4, bI v4), (5, bI w3)] 3 (bI (v3 + (w4 + w5)))) (lv' := [(0, .ref t), (1, bI v1), (3, bI (v3 + (w4 + w5))), (4, bI v4)]) (st' := []) l31_66 (fun _ => rfl) (bSb rfl (bSb rfl (bSb rfl (bSb rfl bSn)))) ?_
    refine b_inc (lv' := [(0, .ref t), (1, bI v1), (3, bI (v3 + (w4 + w5))), (4, bI (v4 + 1))]) l31_67 rfl (by decide +kernel) (bSb rfl (bSb rfl (bSb rfl (bSb rfl bSn)))) fun g8 => (b_pc (pc' := 70) rfl ?_)
    refine b_s (pc' := 22) (lv1 := [(0, .ref t), (1, bI v1), (3, bI (v3 + (w4 + w5))), (4, bI (v4 + 1))]) (st' := []) l31_70 (fun _ => rfl) ?_
    refine bD.wk (lv' := [(0, .ref t), (1, bI v1), (3, bI (v3 + (w4 + w5))), (4, bI (v4 + 1))]) (bSb rfl (bSb rfl (bSb rfl (bSb rfl bSn)))) ?_
    exact H22 (v3 + (w4 + w5)) (v4 + 1) g7 g8
theorem p_X3_shapeSize_22 {L : Nat} {xs : Nat → Int32} {d : Nat} {μ : bM} {t : Nat} {κ : (Int) → Option bX} (hr : ∀ r : Int, κ r = (bPc μ) r) (ht : bTree t) {v1 : Int} (h1 : bR v1) {v3 : Int} (h3 : bR v3) {v4 : Int} (h4 : bR v4) : bD L xs (d + 1) 31 22 [(0, .ref t), (1, bI v1), (3, bI v3), (4, bI v4)] [] μ ((bLoop (fun z => F_X3_shapeSize_22 t v1 μ z.1 z.2) (v3, v4)).bind κ) :=
  b_loop (fun z => [(0, .ref t), (1, bI v1), (3, bI z.1), (4, bI z.2)]) (fun z => μ) (fun z => bR z.1 ∧ bR z.2) (fun κ' hκ HH z hz => q_X3_shapeSize_22 (κ := κ') (fun r => (hκ _).trans (hr r)) (fun a3 a4 b3 b4 => HH (a3, a4) ⟨b3, b4⟩) ht h1 hz.1 hz.2) (v3, v4) ⟨h3, h4⟩
theorem r_X3_shapeSize {L : Nat} {xs : Nat → Int32} {d : Nat} {μ : bM} (t : Nat) (ht : bTree t) (v1 : Int) (h1 : bR v1) (v2 : Int) (h2 : bR v2) : bD L xs (d + 1) 31 0 [(0, .ref t), (1, bI v1), (2, bI v2)] [] μ ((F_X3_shapeSize t v1 v2 μ).bind (bPc μ)) := by
  have hr : ∀ r, (bPc μ) r = (bPc μ) r := fun _ => rfl
  unfold F_X3_shapeSize
  refine bD.ok fun hk => ?_
  refine b_s (pc' := 1) (lv1 := [(0, .ref t), (1, bI v1), (2, bI v2)]) (st' := [bI v2]) l31_0 (fun _ => rfl) ?_
  refine b_i2l l31_1 h2 (b_pc (pc' := 2) rfl ?_)
  refine b_cPi l31_2 rfl (fun _ => trivial) (Nat.le_of_ble_eq_true rfl) (Nat.le_of_ble_eq_true rfl) rfl (r_X6_rowSize v2 (bR_L h2)) fun w1 hw1 => b_pc (pc' := 5) rfl ?_
  refine b_s (pc' := 6) (lv1 := [(0, .ref t), (1, bI v1), (2, bI v2)]) (st' := [.ref t, bI w1]) l31_5 (fun _ => rfl) ?_
  refine b_gp (q' := (t + 2)) (j := 2) l31_6 ht (by decide) (by decide) rfl hk rfl rfl (b_pc (pc' := 9) rfl ?_)
  refine b_s (pc' := 10) (lv1 := [(0, .ref t), (1, bI v1), (2, bI v2)]) (st' := [bI v1, .ref (t + 2), bI w1]) l31_9 (fun _ => rfl) ?_
  refine b_g fun g5 => ?_
  refine b_ial l31_10 (bTree_e ht 2 (by decide)) g5 (b_pc (pc' := 11) rfl ?_)
  refine b_i2l l31_11 (bO_i hk (bTree_e ht 2 (by decide))) (b_pc (pc' := 12) rfl ?_)
  refine b_cPi l31_12 rfl (fun _ => trivial) (Nat.le_of_ble_eq_true rfl) (Nat.le_of_ble_eq_true rfl) rfl (r_X6_rowSize (μ (t + 2) v1.toNat) (bR_L (bO_i hk (bTree_e ht 2 (by decide))))) fun w2 hw2 => b_pc (pc' := 15) rfl ?_
  refine b_iadd l31_15 fun g3 => (b_pc (pc' := 16) rfl ?_)
  refine b_s (pc' := 17) (lv1 := [(0, .ref t), (1, bI v1), (2, bI v2)]) (st' := [bI 1, bI (w1 + w2)]) l31_16 (fun _ => rfl) ?_
  refine b_iadd l31_17 fun g4 => (b_pc (pc' := 18) rfl ?_)
  refine b_w (pc' := 19) (lv1 := ax_st1 [(0, .ref t), (1, bI v1), (2, bI v2)] 3 (bI ((w1 + w2) + 1))) (lv' := [(0, .ref t), (1, bI v1), (3, bI ((w1 + w2) + 1))]) (st' := []) l31_18 (fun _ => rfl) (bSb rfl (bSb rfl (bSb rfl bSn))) ?_
  refine b_s (pc' := 20) (lv1 := [(0, .ref t), (1, bI v1), (3, bI ((w1 + w2) + 1))]) (st' := [bI 0]) l31_19 (fun _ => rfl) ?_
  refine b_w (pc' := 22) (lv1 := ax_st1 [(0, .ref t), (1, bI v1), (3, bI ((w1 + w2) + 1))] 4 (bI 0)) (lv' := [(0, .ref t), (1, bI v1), (3, bI ((w1 + w2) + 1)), (4, bI 0)]) (st' := []) l31_20 (fun _ => rfl) (bSb rfl (bSb rfl (bSb rfl (bSb rfl bSn)))) ?_
  refine bD.wk (lv' := [(0, .ref t), (1, bI v1), (3, bI ((w1 + w2) + 1)), (4, bI 0)]) (bSb rfl (bSb rfl (bSb rfl (bSb rfl bSn)))) ?_
  exact p_X3_shapeSize_22 hr ht h1 g4 (by decide)
/-! ET$Layout.numberShapes -/
theorem l27_0 : (ax_dt (ax_T 27)).lookup 0 = some (.aload_n 0, 1, 0, 0, 0) := by decide +kernel
theorem l27_1 : (ax_dt (ax_T 27)).lookup 1 = some (.iconst 0, 1, 0, 0, 0) := by decide +kernel
theorem l27_2 : (ax_dt (ax_T 27)).lookup 2 = some (.putfield 106, 3, 2, 0, 0) := by decide +kernel
theorem l27_5 : (ax_dt (ax_T 27)).lookup 5 = some (.aload_n 0, 1, 0, 0, 0) := by decide +kernel
theorem l27_6 : (ax_dt (ax_T 27)).lookup 6 = some (.iconst 1, 1, 0, 0, 0) := by decide +kernel
theorem l27_7 : (ax_dt (ax_T 27)).lookup 7 = some (.putfield 109, 3, 2, 3, 0) := by decide +kernel
theorem l27_10 : (ax_dt (ax_T 27)).lookup 10 = some (.aload_n 0, 1, 0, 0, 0) := by decide +kernel
theorem l27_11 : (ax_dt (ax_T 27)).lookup 11 = some (.getfield 47, 3, 2, 17, 0) := by decide +kernel
theorem l27_14 : (ax_dt (ax_T 27)).lookup 14 = some (.invokevirtual 112, 3, 1, 0, 0) := by decide +kernel
theorem l27_17 : (ax_dt (ax_T 27)).lookup 17 = some (.iconst 0, 1, 0, 0, 0) := by decide +kernel
theorem l27_18 : (ax_dt (ax_T 27)).lookup 18 = some (.istore_n 2, 1, 0, 0, 0) := by decide +kernel
theorem l27_19 : (ax_dt (ax_T 27)).lookup 19 = some (.iload_n 2, 1, 0, 0, 0) := by decide +kernel
theorem l27_20 : (ax_dt (ax_T 27)).lookup 20 = some (.aload_n 0, 1, 0, 0, 0) := by decide +kernel
theorem l27_21 : (ax_dt (ax_T 27)).lookup 21 = some (.getfield 72, 3, 2, 5, 0) := by decide +kernel
theorem l27_24 : (ax_dt (ax_T 27)).lookup 24 = some (.if_icmp .ge 102, 3, 0, 0, 0) := by decide +kernel
theorem l27_27 : (ax_dt (ax_T 27)).lookup 27 = some (.aload_n 0, 1, 0, 0, 0) := by decide +kernel
theorem l27_28 : (ax_dt (ax_T 27)).lookup 28 = some (.getfield 9, 3, 2, 7, 0) := by decide +kernel
theorem l27_31 : (ax_dt (ax_T 27)).lookup 31 = some (.iload_n 2, 1, 0, 0, 0) := by decide +kernel
theorem l27_32 : (ax_dt (ax_T 27)).lookup 32 = some (.iaload, 1, 0, 0, 0) := by decide +kernel
theorem l27_33 : (ax_dt (ax_T 27)).lookup 33 = some (.istore_n 3, 1, 0, 0, 0) := by decide +kernel
theorem l27_34 : (ax_dt (ax_T 27)).lookup 34 = some (.aload_n 1, 1, 0, 0, 0) := by decide +kernel
theorem l27_35 : (ax_dt (ax_T 27)).lookup 35 = some (.iload_n 3, 1, 0, 0, 0) := by decide +kernel
theorem l27_36 : (ax_dt (ax_T 27)).lookup 36 = some (.invokestatic 115, 3, 29, 2, 0) := by decide +kernel
theorem l27_39 : (ax_dt (ax_T 27)).lookup 39 = some (.istore 4, 2, 0, 0, 0) := by decide +kernel
theorem l27_41 : (ax_dt (ax_T 27)).lookup 41 = some (.aload_n 0, 1, 0, 0, 0) := by decide +kernel
theorem l27_42 : (ax_dt (ax_T 27)).lookup 42 = some (.aload_n 1, 1, 0, 0, 0) := by decide +kernel
theorem l27_43 : (ax_dt (ax_T 27)).lookup 43 = some (.iload_n 3, 1, 0, 0, 0) := by decide +kernel
theorem l27_44 : (ax_dt (ax_T 27)).lookup 44 = some (.iload 4, 2, 0, 0, 0) := by decide +kernel
theorem l27_46 : (ax_dt (ax_T 27)).lookup 46 = some (.invokevirtual 118, 3, 28, 3, 0) := by decide +kernel
theorem l27_49 : (ax_dt (ax_T 27)).lookup 49 = some (.istore 5, 2, 0, 0, 0) := by decide +kernel
theorem l27_51 : (ax_dt (ax_T 27)).lookup 51 = some (.iload 5, 2, 0, 0, 0) := by decide +kernel
theorem l27_53 : (ax_dt (ax_T 27)).lookup 53 = some (.iconst (-1), 1, 0, 0, 0) := by decide +kernel
theorem l27_54 : (ax_dt (ax_T 27)).lookup 54 = some (.if_icmp .ne 56, 3, 0, 0, 0) := by decide +kernel
theorem l27_57 : (ax_dt (ax_T 27)).lookup 57 = some (.aload_n 0, 1, 0, 0, 0) := by decide +kernel
theorem l27_58 : (ax_dt (ax_T 27)).lookup 58 = some (.getfield 106, 3, 2, 0, 0) := by decide +kernel
theorem l27_61 : (ax_dt (ax_T 27)).lookup 61 = some (.istore 5, 2, 0, 0, 0) := by decide +kernel
theorem l27_63 : (ax_dt (ax_T 27)).lookup 63 = some (.aload_n 0, 1, 0, 0, 0) := by decide +kernel
theorem l27_64 : (ax_dt (ax_T 27)).lookup 64 = some (.getfield 33, 3, 2, 14, 0) := by decide +kernel
theorem l27_67 : (ax_dt (ax_T 27)).lookup 67 = some (.iload 5, 2, 0, 0, 0) := by decide +kernel
theorem l27_69 : (ax_dt (ax_T 27)).lookup 69 = some (.iload_n 3, 1, 0, 0, 0) := by decide +kernel
theorem l27_70 : (ax_dt (ax_T 27)).lookup 70 = some (.iastore, 1, 0, 0, 0) := by decide +kernel
theorem l27_71 : (ax_dt (ax_T 27)).lookup 71 = some (.aload_n 0, 1, 0, 0, 0) := by decide +kernel
theorem l27_72 : (ax_dt (ax_T 27)).lookup 72 = some (.getfield 47, 3, 2, 17, 0) := by decide +kernel
theorem l27_75 : (ax_dt (ax_T 27)).lookup 75 = some (.iload 4, 2, 0, 0, 0) := by decide +kernel
theorem l27_77 : (ax_dt (ax_T 27)).lookup 77 = some (.iload 5, 2, 0, 0, 0) := by decide +kernel
theorem l27_79 : (ax_dt (ax_T 27)).lookup 79 = some (.invokevirtual 122, 3, 4, 2, 0) := by decide +kernel
theorem l27_82 : (ax_dt (ax_T 27)).lookup 82 = some (.aload_n 0, 1, 0, 0, 0) := by decide +kernel
theorem l27_83 : (ax_dt (ax_T 27)).lookup 83 = some (.dup, 1, 0, 0, 0) := by decide +kernel
theorem l27_84 : (ax_dt (ax_T 27)).lookup 84 = some (.getfield 106, 3, 2, 0, 0) := by decide +kernel
theorem l27_87 : (ax_dt (ax_T 27)).lookup 87 = some (.iconst 1, 1, 0, 0, 0) := by decide +kernel
theorem l27_88 : (ax_dt (ax_T 27)).lookup 88 = some (.iadd, 1, 0, 0, 0) := by decide +kernel
theorem l27_89 : (ax_dt (ax_T 27)).lookup 89 = some (.putfield 106, 3, 2, 0, 0) := by decide +kernel
theorem l27_92 : (ax_dt (ax_T 27)).lookup 92 = some (.aload_n 0, 1, 0, 0, 0) := by decide +kernel
theorem l27_93 : (ax_dt (ax_T 27)).lookup 93 = some (.dup, 1, 0, 0, 0) := by decide +kernel
theorem l27_94 : (ax_dt (ax_T 27)).lookup 94 = some (.getfield 109, 3, 2, 3, 0) := by decide +kernel
theorem l27_97 : (ax_dt (ax_T 27)).lookup 97 = some (.aload_n 1, 1, 0, 0, 0) := by decide +kernel
theorem l27_98 : (ax_dt (ax_T 27)).lookup 98 = some (.iload_n 3, 1, 0, 0, 0) := by decide +kernel
theorem l27_99 : (ax_dt (ax_T 27)).lookup 99 = some (.aload_n 0, 1, 0, 0, 0) := by decide +kernel
theorem l27_100 : (ax_dt (ax_T 27)).lookup 100 = some (.getfield 106, 3, 2, 0, 0) := by decide +kernel
theorem l27_103 : (ax_dt (ax_T 27)).lookup 103 = some (.invokestatic 126, 3, 31, 3, 0) := by decide +kernel
theorem l27_106 : (ax_dt (ax_T 27)).lookup 106 = some (.iadd, 1, 0, 0, 0) := by decide +kernel
theorem l27_107 : (ax_dt (ax_T 27)).lookup 107 = some (.putfield 109, 3, 2, 3, 0) := by decide +kernel
theorem l27_110 : (ax_dt (ax_T 27)).lookup 110 = some (.aload_n 0, 1, 0, 0, 0) := by decide +kernel
theorem l27_111 : (ax_dt (ax_T 27)).lookup 111 = some (.getfield 30, 3, 2, 13, 0) := by decide +kernel
theorem l27_114 : (ax_dt (ax_T 27)).lookup 114 = some (.iload_n 3, 1, 0, 0, 0) := by decide +kernel
theorem l27_115 : (ax_dt (ax_T 27)).lookup 115 = some (.iload 5, 2, 0, 0, 0) := by decide +kernel
theorem l27_117 : (ax_dt (ax_T 27)).lookup 117 = some (.iconst 1, 1, 0, 0, 0) := by decide +kernel
theorem l27_118 : (ax_dt (ax_T 27)).lookup 118 = some (.iadd, 1, 0, 0, 0) := by decide +kernel
theorem l27_119 : (ax_dt (ax_T 27)).lookup 119 = some (.iastore, 1, 0, 0, 0) := by decide +kernel
theorem l27_120 : (ax_dt (ax_T 27)).lookup 120 = some (.iinc 2 1, 3, 0, 0, 0) := by decide +kernel
theorem l27_123 : (ax_dt (ax_T 27)).lookup 123 = some (.goto (-104), 3, 0, 0, 0) := by decide +kernel
theorem l27_126 : (ax_dt (ax_T 27)).lookup 126 = some (.return_, 1, 0, 0, 0) := by decide +kernel
noncomputable def F_X3_numberShapes_19 (t : Nat) (v2 : Int) (μ : bM) : Option ((Int × bM) ⊕ (Int × bM)) := if (μ 13 5) ≤ v2 then some (.inr (0, μ)) else bG (0 ≤ v2 ∧ v2 < 400) ((F_X3_shapeHash t (μ 14 v2.toNat) μ).bind fun w2 => (F_X3_knownShape t (μ 14 v2.toNat) w2 μ).bind fun w3 => if ¬ w3 = (-1) then bG (bR (w3 + 1)) (bG (0 ≤ (μ 14 v2.toNat) ∧ (μ 14 v2.toNat) < 400) (bG (bR (v2 + 1)) (some (.inl ((v2 + 1), (bset μ 20 (μ 14 v2.toNat).toNat (w3 + 1))))))) else bG (0 ≤ (μ 13 0) ∧ (μ 13 0) < 400) (bMm (F_X0_add 24 w2 (μ 13 0) (bset μ 21 (μ 13 0).toNat (μ 14 v2.toNat))) (fun w10 μ11 => bG (bR ((μ11 13 0) + 1)) ((F_X3_shapeSize t (μ 14 v2.toNat) ((bset μ11 13 0 ((μ11 13 0) + 1)) 13 0) (bset μ11 13 0 ((μ11 13 0) + 1))).bind fun w15 => bG (bR (((bset μ11 13 0 ((μ11 13 0) + 1)) 13 3) + w15)) (bG (bR ((μ 13 0) + 1)) (bG (0 ≤ (μ 14 v2.toNat) ∧ (μ 14 v2.toNat) < 400) (bG (bR (v2 + 1)) (some (.inl ((v2 + 1), (bset (bset (bset μ11 13 0 ((μ11 13 0) + 1)) 13 3 (((bset μ11 13 0 ((μ11 13 0) + 1)) 13 3) + w15)) 20 (μ 14 v2.toNat).toNat ((μ 13 0) + 1))))))))))))
noncomputable def F_X3_numberShapes (t : Nat) (μ : bM) : Option (Int × bM) := bMm (F_X0_forget 24 (bset (bset μ 13 0 0) 13 3 1)) (fun w3 μ4 => bLoop (fun z => F_X3_numberShapes_19 t z.1 z.2) (0, μ4))
theorem q_X3_numberShapes_19 {L : Nat} {xs : Nat → Int32} {d : Nat} {μ : bM} {t : Nat} {κ : ((Int × bM) ⊕ (Int × bM)) → Option bX} (hr : ∀ r : Int × bM, κ (.inr r) = (bMc) r) (H19 : ∀ (v2 : Int) (μ : bM), bR v2 → bD L xs (d + 3) 27 19 [(0, .ref 13), (1, .ref t), (2, bI v2)] [] μ (κ (.inl (v2, μ)))) (ht : bTree t) {v2 : Int} (h2 : bR v2) : bD L xs (d + 3) 27 19 [(0, .ref 13), (1, .ref t), (2, bI v2)] [] μ ((F_X3_numberShapes_19 t v2 μ).bind κ) := by
  unfold F_X3_numberShapes_19
  refine bD.ok fun hk => ?_
  refine b_s (pc' := 20) (lv1 := [(0, .ref 13), (1, .ref t), (2, bI v2)]) (st' := [bI v2]) l27_19 (fun _ => rfl) ?_
  refine b_s (pc' := 21) (lv1 := [(0, .ref 13), (1, .ref t), (2, bI v2)]) (st' := [.ref 13, bI v2]) l27_20 (fun _ => rfl) ?_
  refine b_gi l27_21 (by rfl) (by decide) (by decide) rfl (b_pc (pc' := 24) rfl ?_)
  refine b_ige (pt := 126) l27_24 h2 (bO_f hk (ci := 2) (by rfl) rfl) (by decide) rfl (fun c1 => ?_) (fun c1 => b_pc (pc' := 27) rfl ?_)
  · exact b_retv l27_126 rfl (hr _)
  · refine b_s (pc' := 28) (lv1 := [(0, .ref 13), (1, .ref t), (2, bI v2)]) (st' := [.ref 13]) l27_27 (fun _ => rfl) ?_
    refine b_gp (q' := 14) (j := 1) l27_28 (by rfl) (by decide) (by decide) rfl hk rfl rfl (b_pc (pc' := 31) rfl ?_)
    refine b_s (pc' := 32) (lv1 := [(0, .ref 13), (1, .ref t), (2, bI v2)]) (st' := [bI v2, .ref 14]) l27_31 (fun _ => rfl) ?_
    refine b_g fun g23 => ?_
    refine b_ial l27_32 (by rfl) g23 (b_pc (pc' := 33) rfl ?_)
    refine b_w (pc' := 34) (lv1 := ax_st1 [(0, .ref 13), (1, .ref t), (2, bI v2)] 3 (bI (μ 14 v2.toNat))) (lv' := [(0, .ref 13), (1, .ref t), (2, bI v2), (3, bI (μ 14 v2.toNat))]) (st' := []) l27_33 (fun _ => rfl) (bSb rfl (bSb rfl (bSb rfl (bSb rfl bSn)))) ?_
    refine b_s (pc' := 35) (lv1 := [(0, .ref 13), (1, .ref t), (2, bI v2), (3, bI (μ 14 v2.toNat))]) (st' := [.ref t]) l27_34 (fun _ => rfl) ?_
    refine b_s (pc' := 36) (lv1 := [(0, .ref 13), (1, .ref t), (2, bI v2), (3, bI (μ 14 v2.toNat))]) (st' := [bI (μ 14 v2.toNat), .ref t]) l27_35 (fun _ => rfl) ?_
    refine b_cPi l27_36 rfl (fun _ => trivial) (Nat.le_of_ble_eq_true rfl) (Nat.le_of_ble_eq_true rfl) rfl (r_X3_shapeHash t ht (μ 14 v2.toNat) (bO_i hk (by rfl))) fun w2 hw2 => b_pc (pc' := 39) rfl ?_
    refine b_w (pc' := 41) (lv1 := ax_st1 [(0, .ref 13), (1, .ref t), (2, bI v2), (3, bI (μ 14 v2.toNat))] 4 (bI w2)) (lv' := [(0, .ref 13), (1, .ref t), (2, bI v2), (3, bI (μ 14 v2.toNat)), (4, bI w2)]) (st' := []) l27_39 (fun _ => rfl) (bSb rfl (bSb rfl (bSb rfl (bSb rfl (bSb rfl bSn))))) ?_
    refine b_s (pc' := 42) (lv1 := [(0, .ref 13), (1, .ref t), (2, bI v2), (3, bI (μ 14 v2.toNat)), (4, bI w2)]) (st' := [.ref 13]) l27_41 (fun _ => rfl) ?_
    refine b_s (pc' := 43) (lv1 := [(0, .ref 13), (1, .ref t), (2, bI v2), (3, bI (μ 14 v2.toNat)), (4, bI w2)]) (st' := [.ref t, .ref 13]) l27_42 (fun _ => rfl) ?_
    refine b_s (pc' := 44) (lv1 := [(0, .ref 13), (1, .ref t), (2, bI v2), (3, bI (μ 14 v2.toNat)), (4, bI w2)]) (st' := [bI (μ 14 v2.toNat), .ref t, .ref 13]) l27_43 (fun _ => rfl) ?_
    refine b_s (pc' := 46) (lv1 := [(0, .ref 13), (1, .ref t), (2, bI v2), (3, bI (μ 14 v2.toNat)), (4, bI w2)]) (st' := [bI w2, bI (μ 14 v2.toNat), .ref t, .ref 13]) l27_44 (fun _ => rfl) ?_
    refine b_cPi l27_46 rfl (b_rc (ci := 2) (by rfl) (by decide) (by decide +kernel)) (Nat.le_of_ble_eq_true rfl) (Nat.le_of_ble_eq_true rfl) rfl (r_X3_knownShape t ht (μ 14 v2.toNat) (bO_i hk (by rfl)) w2 hw2) fun w3 hw3 => b_pc (pc' := 49) rfl ?_
    refine b_w (pc' := 51) (lv1 := ax_st1 [(0, .ref 13), (1, .ref t), (2, bI v2), (3, bI (μ 14 v2.toNat)), (4, bI w2)] 5 (bI w3)) (lv' := [(0, .ref 13), (1, .ref t), (2, bI v2), (3, bI (μ 14 v2.toNat)), (4, bI w2), (5, bI w3)]) (st' := []) l27_49 (fun _ => rfl) (bSb rfl (bSb rfl (bSb rfl (bSb rfl (bSb rfl (bSb rfl bSn)))))) ?_
    refine b_s (pc' := 53) (lv1 := [(0, .ref 13), (1, .ref t), (2, bI v2), (3, bI (μ 14 v2.toNat)), (4, bI w2), (5, bI w3)]) (st' := [bI w3]) l27_51 (fun _ => rfl) ?_
    refine b_s (pc' := 54) (lv1 := [(0, .ref 13), (1, .ref t), (2, bI v2), (3, bI (μ 14 v2.toNat)), (4, bI w2), (5, bI w3)]) (st' := [bI (-1), bI w3]) l27_53 (fun _ => rfl) ?_
    refine b_ine (pt := 110) l27_54 hw3 (by decide) (by decide) rfl (fun c4 => ?_) (fun c4 => b_pc (pc' := 57) rfl ?_)
    · refine b_s (pc' := 111) (lv1 := [(0, .ref 13), (1, .ref t), (2, bI v2), (3, bI (μ 14 v2.toNat)), (4, bI w2), (5, bI w3)]) (st' := [.ref 13]) l27_110 (fun _ => rfl) ?_
      refine b_gp (q' := 20) (j := 7) l27_111 (by rfl) (by decide) (by decide) rfl hk rfl rfl (b_pc (pc' := 114) rfl ?_)
      refine b_s (pc' := 115) (lv1 := [(0, .ref 13), (1, .ref t), (2, bI v2), (3, bI (μ 14 v2.toNat)), (4, bI w2), (5, bI w3)]) (st' := [bI (μ 14 v2.toNat), .ref 20]) l27_114 (fun _ => rfl) ?_
      refine b_s (pc' := 117) (lv1 := [(0, .ref 13), (1, .ref t), (2, bI v2), (3, bI (μ 14 v2.toNat)), (4, bI w2), (5, bI w3)]) (st' := [bI w3, bI (μ 14 v2.toNat), .ref 20]) l27_115 (fun _ => rfl) ?_
      refine b_s (pc' := 118) (lv1 := [(0, .ref 13), (1, .ref t), (2, bI v2), (3, bI (μ 14 v2.toNat)), (4, bI w2), (5, bI w3)]) (st' := [bI 1, bI w3, bI (μ 14 v2.toNat), .ref 20]) l27_117 (fun _ => rfl) ?_
      refine b_iadd l27_118 fun g5 => (b_pc (pc' := 119) rfl ?_)
      refine b_g fun g8 => ?_
      refine b_ias l27_119 (by rfl) g8 g5 (bD.ok fun hk6 => b_pc (pc' := 120) rfl ?_)
      refine b_inc (lv' := [(0, .ref 13), (1, .ref t), (2, bI (v2 + 1))]) l27_120 rfl (by decide +kernel) (bSb rfl (bSb rfl (bSb rfl bSn))) fun g7 => (b_pc (pc' := 123) rfl ?_)
      refine b_s (pc' := 19) (lv1 := [(0, .ref 13), (1, .ref t), (2, bI (v2 + 1))]) (st' := []) l27_123 (fun _ => rfl) ?_
      refine bD.wk (lv' := [(0, .ref 13), (1, .ref t), (2, bI (v2 + 1))]) (bSb rfl (bSb rfl (bSb rfl bSn))) ?_
      exact H19 (v2 + 1) (bset μ 20 (μ 14 v2.toNat).toNat (w3 + 1)) g7
    · refine b_s (pc' := 58) (lv1 := [(0, .ref 13), (1, .ref t), (2, bI v2), (3, bI (μ 14 v2.toNat)), (4, bI w2), (5, bI w3)]) (st' := [.ref 13]) l27_57 (fun _ => rfl) ?_
      refine b_gi l27_58 (by rfl) (by decide) (by decide) rfl (b_pc (pc' := 61) rfl ?_)
      refine b_w (pc' := 63) (lv1 := ax_st1 [(0, .ref 13), (1, .ref t), (2, bI v2), (3, bI (μ 14 v2.toNat)), (4, bI w2), (5, bI w3)] 5 (bI (μ 13 0))) (lv' := [(0, .ref 13), (1, .ref t), (2, bI v2), (3, bI (μ 14 v2.toNat)), (4, bI w2), (5, bI (μ 13 0))]) (st' := []) l27_61 (fun _ => rfl) (bSb rfl (bSb rfl (bSb rfl (bSb rfl (bSb rfl (bSb rfl bSn)))))) ?_
      refine b_s (pc' := 64) (lv1 := [(0, .ref 13), (1, .ref t), (2, bI v2), (3, bI (μ 14 v2.toNat)), (4, bI w2), (5, bI (μ 13 0))]) (st' := [.ref 13]) l27_63 (fun _ => rfl) ?_
      refine b_gp (q' := 21) (j := 8) l27_64 (by rfl) (by decide) (by decide) rfl hk rfl rfl (b_pc (pc' := 67) rfl ?_)
      refine b_s (pc' := 69) (lv1 := [(0, .ref 13), (1, .ref t), (2, bI v2), (3, bI (μ 14 v2.toNat)), (4, bI w2), (5, bI (μ 13 0))]) (st' := [bI (μ 13 0), .ref 21]) l27_67 (fun _ => rfl) ?_
      refine b_s (pc' := 70) (lv1 := [(0, .ref 13), (1, .ref t), (2, bI v2), (3, bI (μ 14 v2.toNat)), (4, bI w2), (5, bI (μ 13 0))]) (st' := [bI (μ 14 v2.toNat), bI (μ 13 0), .ref 21]) l27_69 (fun _ => rfl) ?_
      refine b_g fun g22 => ?_
      refine b_ias l27_70 (by rfl) g22 (bO_i hk (by rfl)) (bD.ok fun hk9 => b_pc (pc' := 71) rfl ?_)
      refine b_s (pc' := 72) (lv1 := [(0, .ref 13), (1, .ref t), (2, bI v2), (3, bI (μ 14 v2.toNat)), (4, bI w2), (5, bI (μ 13 0))]) (st' := [.ref 13]) l27_71 (fun _ => rfl) ?_
      refine b_gp (q' := 24) (j := 11) l27_72 (by rfl) (by decide) (by decide) rfl hk9 rfl rfl (b_pc (pc' := 75) rfl ?_)
      refine b_s (pc' := 77) (lv1 := [(0, .ref 13), (1, .ref t), (2, bI v2), (3, bI (μ 14 v2.toNat)), (4, bI w2), (5, bI (μ 13 0))]) (st' := [bI w2, .ref 24]) l27_75 (fun _ => rfl) ?_
      refine b_s (pc' := 79) (lv1 := [(0, .ref 13), (1, .ref t), (2, bI v2), (3, bI (μ 14 v2.toNat)), (4, bI w2), (5, bI (μ 13 0))]) (st' := [bI (μ 13 0), bI w2, .ref 24]) l27_77 (fun _ => rfl) ?_
      refine b_cMv l27_79 rfl (b_rc (ci := 0) (by rfl) (by decide) (by decide +kernel)) (Nat.le_of_ble_eq_true rfl) (Nat.le_of_ble_eq_true rfl) rfl (r_X0_add 24 (by rfl) w2 hw2 (μ 13 0) (bO_f hk (ci := 2) (by rfl) rfl)) fun w10 μ11 hw10 => bD.ok fun hk12 => b_pc (pc' := 82) rfl ?_
      refine b_s (pc' := 83) (lv1 := [(0, .ref 13), (1, .ref t), (2, bI v2), (3, bI (μ 14 v2.toNat)), (4, bI w2), (5, bI (μ 13 0))]) (st' := [.ref 13]) l27_82 (fun _ => rfl) ?_
      refine b_s (pc' := 84) (lv1 := [(0, .ref 13), (1, .ref t), (2, bI v2), (3, bI (μ 14 v2.toNat)), (4, bI w2), (5, bI (μ 13 0))]) (st' := [.ref 13, .ref 13]) l27_83 (fun _ => rfl) ?_
      refine b_gi l27_84 (by rfl) (by decide) (by decide) rfl (b_pc (pc' := 87) rfl ?_)
      refine b_s (pc' := 88) (lv1 := [(0, .ref 13), (1, .ref t), (2, bI v2), (3, bI (μ 14 v2.toNat)), (4, bI w2), (5, bI (μ 13 0))]) (st' := [bI 1, bI (μ11 13 0), .ref 13]) l27_87 (fun _ => rfl) ?_
      refine b_iadd l27_88 fun g13 => (b_pc (pc' := 89) rfl ?_)
      refine b_pi l27_89 (by rfl) (by decide) (by decide) rfl rfl g13 (bD.ok fun hk14 => b_pc (pc' := 92) rfl ?_)
      refine b_s (pc' := 93) (lv1 := [(0, .ref 13), (1, .ref t), (2, bI v2), (3, bI (μ 14 v2.toNat)), (4, bI w2), (5, bI (μ 13 0))]) (st' := [.ref 13]) l27_92 (fun _ => rfl) ?_
      refine b_s (pc' := 94) (lv1 := [(0, .ref 13), (1, .ref t), (2, bI v2), (3, bI (μ 14 v2.toNat)), (4, bI w2), (5, bI (μ 13 0))]) (st' := [.ref 13, .ref 13]) l27_93 (fun _ => rfl) ?_
      refine b_gi l27_94 (by rfl) (by decide) (by decide) rfl (b_pc (pc' := 97) rfl ?_)
      refine b_s (pc' := 98) (lv1 := [(0, .ref 13), (1, .ref t), (2, bI v2), (3, bI (μ 14 v2.toNat)), (4, bI w2), (5, bI (μ 13 0))]) (st' := [.ref t, bI ((bset μ11 13 0 ((μ11 13 0) + 1)) 13 3), .ref 13]) l27_97 (fun _ => rfl) ?_
      refine b_s (pc' := 99) (lv1 := [(0, .ref 13), (1, .ref t), (2, bI v2), (3, bI (μ 14 v2.toNat)), (4, bI w2), (5, bI (μ 13 0))]) (st' := [bI (μ 14 v2.toNat), .ref t, bI ((bset μ11 13 0 ((μ11 13 0) + 1)) 13 3), .ref 13]) l27_98 (fun _ => rfl) ?_
      refine b_s (pc' := 100) (lv1 := [(0, .ref 13), (1, .ref t), (2, bI v2), (3, bI (μ 14 v2.toNat)), (4, bI w2), (5, bI (μ 13 0))]) (st' := [.ref 13, bI (μ 14 v2.toNat), .ref t, bI ((bset μ11 13 0 ((μ11 13 0) + 1)) 13 3), .ref 13]) l27_99 (fun _ => rfl) ?_
      refine b_gi l27_100 (by rfl) (by decide) (by decide) rfl (b_pc (pc' := 103) rfl ?_)
      refine b_cPi l27_103 rfl (fun _ => trivial) (Nat.le_of_ble_eq_true rfl) (Nat.le_of_ble_eq_true rfl) rfl (r_X3_shapeSize t ht (μ 14 v2.toNat) (bO_i hk (by rfl)) ((bset μ11 13 0 ((μ11 13 0) + 1)) 13 0) (bO_f hk14 (ci := 2) (by rfl) rfl)) fun w15 hw15 => b_pc (pc' := 106) rfl ?_
      refine b_iadd l27_106 fun g16 => (b_pc (pc' := 107) rfl ?_)
      refine b_pi l27_107 (by rfl) (by decide) (by decide) rfl rfl g16 (bD.ok fun hk17 => b_pc (pc' := 110) rfl ?_)
      refine b_s (pc' := 111) (lv1 := [(0, .ref 13), (1, .ref t), (2, bI v2), (3, bI (μ 14 v2.toNat)), (4, bI w2), (5, bI (μ 13 0))]) (st' := [.ref 13]) l27_110 (fun _ => rfl) ?_
      refine b_gp (q' := 20) (j := 7) l27_111 (by rfl) (by decide) (by decide) rfl hk17 rfl rfl (b_pc (pc' := 114) rfl ?_)
      refine b_s (pc' := 115) (lv1 := [(0, .ref 13), (1, .ref t), (2, bI v2), (3, bI (μ 14 v2.toNat)), (4, bI w2), (5, bI (μ 13 0))]) (st' := [bI (μ 14 v2.toNat), .ref 20]) l27_114 (fun _ => rfl) ?_
      refine b_s (pc' := 117) (lv1 := [(0, .ref 13), (1, .ref t), (2, bI v2), (3, bI (μ 14 v2.toNat)), (4, bI w2), (5, bI (μ 13 0))]) (st' := [bI (μ 13 0), bI (μ 14 v2.toNat), .ref 20]) l27_115 (fun _ => rfl) ?_
      refine b_s (pc' := 118) (lv1 := [(0, .ref 13), (1, .ref t), (2, bI v2), (3, bI (μ 14 v2.toNat)), (4, bI w2), (5, bI (μ 13 0))]) (st' := [bI 1, bI (μ 13 0), bI (μ 14 v2.toNat), .ref 20]) l27_117 (fun _ => rfl) ?_
      refine b_iadd l27_118 fun g18 => (b_pc (pc' := 119) rfl ?_)
      refine b_g fun g21 => ?_
      refine b_ias l27_119 (by rfl) g21 g18 (bD.ok fun hk19 => b_pc (pc' := 120) rfl ?_)
      refine b_inc (lv' := [(0, .ref 13), (1, .ref t), (2, bI (v2 + 1))]) l27_120 rfl (by decide +kernel) (bSb rfl (bSb rfl (bSb rfl bSn))) fun g20 => (b_pc (pc' := 123) rfl ?_)
      refine b_s (pc' := 19) (lv1 := [(0, .ref 13), (1, .ref t), (2, bI (v2 + 1))]) (st' := []) l27_123 (fun _ => rfl) ?_
      refine bD.wk (lv' := [(0, .ref 13), (1, .ref t), (2, bI (v2 + 1))]) (bSb rfl (bSb rfl (bSb rfl bSn))) ?_
      exact H19 (v2 + 1) (bset (bset (bset μ11 13 0 ((μ11 13 0) + 1)) 13 3 (((bset μ11 13 0 ((μ11 13 0) + 1)) 13 3) + w15)) 20 (μ 14 v2.toNat).toNat ((μ 13 0) + 1)) g20
theorem p_X3_numberShapes_19 {L : Nat} {xs : Nat → Int32} {d : Nat} {μ : bM} {t : Nat} {κ : (Int × bM) → Option bX} (hr : ∀ r : Int × bM, κ r = (bMc) r) (ht : bTree t) {v2 : Int} (h2 : bR v2) : bD L xs (d + 3) 27 19 [(0, .ref 13), (1, .ref t), (2, bI v2)] [] μ ((bLoop (fun z => F_X3_numberShapes_19 t z.1 z.2) (v2, μ)).bind κ) :=
  b_loop (fun z => [(0, .ref 13), (1, .ref t), (2, bI z.1)]) (fun z => z.2) (fun z => bR z.1) (fun κ' hκ HH z hz => q_X3_numberShapes_19 (κ := κ') (fun r => (hκ _).trans (hr r)) (fun a2 am b2 => HH (a2, am) b2) ht hz) (v2, μ) h2
theorem r_X3_numberShapes {L : Nat} {xs : Nat → Int32} {d : Nat} {μ : bM} (t : Nat) (ht : bTree t)  : bD L xs (d + 3) 27 0 [(0, .ref 13), (1, .ref t)] [] μ ((F_X3_numberShapes t μ).bind (bMc)) := by
  have hr : ∀ r, (bMc) r = (bMc) r := fun _ => rfl
  unfold F_X3_numberShapes
  refine bD.ok fun hk => ?_
  refine b_s (pc' := 1) (lv1 := [(0, .ref 13), (1, .ref t)]) (st' := [.ref 13]) l27_0 (fun _ => rfl) ?_
  refine b_s (pc' := 2) (lv1 := [(0, .ref 13), (1, .ref t)]) (st' := [bI 0, .ref 13]) l27_1 (fun _ => rfl) ?_
  refine b_pi l27_2 (by rfl) (by decide) (by decide) rfl rfl (by decide) (bD.ok fun hk1 => b_pc (pc' := 5) rfl ?_)
  refine b_s (pc' := 6) (lv1 := [(0, .ref 13), (1, .ref t)]) (st' := [.ref 13]) l27_5 (fun _ => rfl) ?_
  refine b_s (pc' := 7) (lv1 := [(0, .ref 13), (1, .ref t)]) (st' := [bI 1, .ref 13]) l27_6 (fun _ => rfl) ?_
  refine b_pi l27_7 (by rfl) (by decide) (by decide) rfl rfl (by decide) (bD.ok fun hk2 => b_pc (pc' := 10) rfl ?_)
  refine b_s (pc' := 11) (lv1 := [(0, .ref 13), (1, .ref t)]) (st' := [.ref 13]) l27_10 (fun _ => rfl) ?_
  refine b_gp (q' := 24) (j := 11) l27_11 (by rfl) (by decide) (by decide) rfl hk2 rfl rfl (b_pc (pc' := 14) rfl ?_)
  refine b_cMv l27_14 rfl (b_rc (ci := 0) (by rfl) (by decide) (by decide +kernel)) (Nat.le_of_ble_eq_true rfl) (Nat.le_of_ble_eq_true rfl) rfl (r_X0_forget 24 (by rfl)) fun w3 μ4 hw3 => bD.ok fun hk5 => b_pc (pc' := 17) rfl ?_
  refine b_s (pc' := 18) (lv1 := [(0, .ref 13), (1, .ref t)]) (st' := [bI 0]) l27_17 (fun _ => rfl) ?_
  refine b_w (pc' := 19) (lv1 := ax_st1 [(0, .ref 13), (1, .ref t)] 2 (bI 0)) (lv' := [(0, .ref 13), (1, .ref t), (2, bI 0)]) (st' := []) l27_18 (fun _ => rfl) (bSb rfl (bSb rfl (bSb rfl bSn))) ?_
  refine bD.wk (lv' := [(0, .ref 13), (1, .ref t), (2, bI 0)]) (bSb rfl (bSb rfl (bSb rfl bSn))) ?_
  exact p_X3_numberShapes_19 hr ht (by decide)
/-! ET$Layout.knownText -/
theorem l34_0 : (ax_dt (ax_T 34)).lookup 0 = some (.aload_n 0, 1, 0, 0, 0) := by decide +kernel
theorem l34_1 : (ax_dt (ax_T 34)).lookup 1 = some (.getfield 51, 3, 2, 18, 0) := by decide +kernel
theorem l34_4 : (ax_dt (ax_T 34)).lookup 4 = some (.iload 4, 2, 0, 0, 0) := by decide +kernel
theorem l34_6 : (ax_dt (ax_T 34)).lookup 6 = some (.invokevirtual 129, 3, 2, 1, 0) := by decide +kernel
theorem l34_9 : (ax_dt (ax_T 34)).lookup 9 = some (.istore 5, 2, 0, 0, 0) := by decide +kernel
theorem l34_11 : (ax_dt (ax_T 34)).lookup 11 = some (.iconst 0, 1, 0, 0, 0) := by decide +kernel
theorem l34_12 : (ax_dt (ax_T 34)).lookup 12 = some (.istore 6, 2, 0, 0, 0) := by decide +kernel
theorem l34_14 : (ax_dt (ax_T 34)).lookup 14 = some (.iload 6, 2, 0, 0, 0) := by decide +kernel
theorem l34_16 : (ax_dt (ax_T 34)).lookup 16 = some (.aload_n 0, 1, 0, 0, 0) := by decide +kernel
theorem l34_17 : (ax_dt (ax_T 34)).lookup 17 = some (.getfield 162, 3, 2, 1, 0) := by decide +kernel
theorem l34_20 : (ax_dt (ax_T 34)).lookup 20 = some (.if_icmp .ge 79, 3, 0, 0, 0) := by decide +kernel
theorem l34_23 : (ax_dt (ax_T 34)).lookup 23 = some (.iload 5, 2, 0, 0, 0) := by decide +kernel
theorem l34_25 : (ax_dt (ax_T 34)).lookup 25 = some (.iconst (-1), 1, 0, 0, 0) := by decide +kernel
theorem l34_26 : (ax_dt (ax_T 34)).lookup 26 = some (.if_icmp .eq 73, 3, 0, 0, 0) := by decide +kernel
theorem l34_29 : (ax_dt (ax_T 34)).lookup 29 = some (.aload_n 0, 1, 0, 0, 0) := by decide +kernel
theorem l34_30 : (ax_dt (ax_T 34)).lookup 30 = some (.getfield 39, 3, 2, 16, 0) := by decide +kernel
theorem l34_33 : (ax_dt (ax_T 34)).lookup 33 = some (.iload 5, 2, 0, 0, 0) := by decide +kernel
theorem l34_35 : (ax_dt (ax_T 34)).lookup 35 = some (.iaload, 1, 0, 0, 0) := by decide +kernel
theorem l34_36 : (ax_dt (ax_T 34)).lookup 36 = some (.istore 7, 2, 0, 0, 0) := by decide +kernel
theorem l34_38 : (ax_dt (ax_T 34)).lookup 38 = some (.aload_n 1, 1, 0, 0, 0) := by decide +kernel
theorem l34_39 : (ax_dt (ax_T 34)).lookup 39 = some (.getfield 177, 3, 7, 15, 0) := by decide +kernel
theorem l34_42 : (ax_dt (ax_T 34)).lookup 42 = some (.iload_n 3, 1, 0, 0, 0) := by decide +kernel
theorem l34_43 : (ax_dt (ax_T 34)).lookup 43 = some (.iaload, 1, 0, 0, 0) := by decide +kernel
theorem l34_44 : (ax_dt (ax_T 34)).lookup 44 = some (.aload_n 1, 1, 0, 0, 0) := by decide +kernel
theorem l34_45 : (ax_dt (ax_T 34)).lookup 45 = some (.getfield 177, 3, 7, 15, 0) := by decide +kernel
theorem l34_48 : (ax_dt (ax_T 34)).lookup 48 = some (.iload 7, 2, 0, 0, 0) := by decide +kernel
theorem l34_50 : (ax_dt (ax_T 34)).lookup 50 = some (.iaload, 1, 0, 0, 0) := by decide +kernel
theorem l34_51 : (ax_dt (ax_T 34)).lookup 51 = some (.if_icmp .ne 31, 3, 0, 0, 0) := by decide +kernel
theorem l34_54 : (ax_dt (ax_T 34)).lookup 54 = some (.aload_n 2, 1, 0, 0, 0) := by decide +kernel
theorem l34_55 : (ax_dt (ax_T 34)).lookup 55 = some (.aload_n 1, 1, 0, 0, 0) := by decide +kernel
theorem l34_56 : (ax_dt (ax_T 34)).lookup 56 = some (.iload_n 3, 1, 0, 0, 0) := by decide +kernel
theorem l34_57 : (ax_dt (ax_T 34)).lookup 57 = some (.invokevirtual 174, 3, 84, 1, 0) := by decide +kernel
theorem l34_60 : (ax_dt (ax_T 34)).lookup 60 = some (.aload_n 2, 1, 0, 0, 0) := by decide +kernel
theorem l34_61 : (ax_dt (ax_T 34)).lookup 61 = some (.aload_n 1, 1, 0, 0, 0) := by decide +kernel
theorem l34_62 : (ax_dt (ax_T 34)).lookup 62 = some (.iload 7, 2, 0, 0, 0) := by decide +kernel
theorem l34_64 : (ax_dt (ax_T 34)).lookup 64 = some (.invokevirtual 174, 3, 84, 1, 0) := by decide +kernel
theorem l34_67 : (ax_dt (ax_T 34)).lookup 67 = some (.aload_n 1, 1, 0, 0, 0) := by decide +kernel
theorem l34_68 : (ax_dt (ax_T 34)).lookup 68 = some (.getfield 177, 3, 7, 15, 0) := by decide +kernel
theorem l34_71 : (ax_dt (ax_T 34)).lookup 71 = some (.iload_n 3, 1, 0, 0, 0) := by decide +kernel
theorem l34_72 : (ax_dt (ax_T 34)).lookup 72 = some (.iaload, 1, 0, 0, 0) := by decide +kernel
theorem l34_73 : (ax_dt (ax_T 34)).lookup 73 = some (.invokevirtual 187, 3, 65, 4, 0) := by decide +kernel
theorem l34_76 : (ax_dt (ax_T 34)).lookup 76 = some (.ifCond .eq 6, 3, 0, 0, 0) := by decide +kernel
theorem l34_79 : (ax_dt (ax_T 34)).lookup 79 = some (.iload 5, 2, 0, 0, 0) := by decide +kernel
theorem l34_81 : (ax_dt (ax_T 34)).lookup 81 = some (.ireturn, 1, 0, 0, 0) := by decide +kernel
theorem l34_82 : (ax_dt (ax_T 34)).lookup 82 = some (.aload_n 0, 1, 0, 0, 0) := by decide +kernel
theorem l34_83 : (ax_dt (ax_T 34)).lookup 83 = some (.getfield 51, 3, 2, 18, 0) := by decide +kernel
theorem l34_86 : (ax_dt (ax_T 34)).lookup 86 = some (.iload 5, 2, 0, 0, 0) := by decide +kernel
theorem l34_88 : (ax_dt (ax_T 34)).lookup 88 = some (.invokevirtual 137, 3, 3, 1, 0) := by decide +kernel
theorem l34_91 : (ax_dt (ax_T 34)).lookup 91 = some (.istore 5, 2, 0, 0, 0) := by decide +kernel
theorem l34_93 : (ax_dt (ax_T 34)).lookup 93 = some (.iinc 6 1, 3, 0, 0, 0) := by decide +kernel
theorem l34_96 : (ax_dt (ax_T 34)).lookup 96 = some (.goto (-82), 3, 0, 0, 0) := by decide +kernel
theorem l34_99 : (ax_dt (ax_T 34)).lookup 99 = some (.iconst (-1), 1, 0, 0, 0) := by decide +kernel
theorem l34_100 : (ax_dt (ax_T 34)).lookup 100 = some (.ireturn, 1, 0, 0, 0) := by decide +kernel
noncomputable def F_X3_knownText_14 (t : Nat) (s : Nat) (v3 : Int) (μ : bM) (v5 : Int) (v6 : Int) : Option ((Int × Int) ⊕ (Int)) := if (μ 13 1) ≤ v6 then some (.inr ((-1))) else if v5 = (-1) then some (.inr ((-1))) else bG (0 ≤ v5 ∧ v5 < 3200) (bG (0 ≤ v3 ∧ v3 < 3200) (bG (0 ≤ (μ 23 v5.toNat) ∧ (μ 23 v5.toNat) < 3200) (if ¬ (μ (t + 14) v3.toNat) = (μ (t + 14) (μ 23 v5.toNat).toNat) then (F_X0_after 27 v5 μ).bind fun w4 => bG (bR (v6 + 1)) (some (.inl (w4, (v6 + 1)))) else (F_X8_start t v3 μ).bind fun w6 => (F_X8_start t (μ 23 v5.toNat) μ).bind fun w7 => bG (0 ≤ v3 ∧ v3 < 3200) ((F_X6_same s s w6 w7 (μ (t + 14) v3.toNat) μ).bind fun w8 => if w8 = 0 then (F_X0_after 27 v5 μ).bind fun w10 => bG (bR (v6 + 1)) (some (.inl (w10, (v6 + 1)))) else some (.inr (v5))))))
noncomputable def F_X3_knownText (t : Nat) (s : Nat) (v3 : Int) (v4 : Int) (μ : bM) : Option (Int) := (F_X0_first 27 v4 μ).bind fun w1 => bLoop (fun z => F_X3_knownText_14 t s v3 μ z.1 z.2) (w1, 0)
theorem q_X3_knownText_14 {L : Nat} {xs : Nat → Int32} {d : Nat} {μ : bM} {t : Nat} {s : Nat} {v3 : Int} {κ : ((Int × Int) ⊕ (Int)) → Option bX} (hr : ∀ r : Int, κ (.inr r) = (bPc μ) r) (H14 : ∀ (v5 : Int) (v6 : Int), bR v5 → bR v6 → bD L xs (d + 2) 34 14 [(0, .ref 13), (1, .ref t), (2, .ref s), (3, bI v3), (5, bI v5), (6, bI v6)] [] μ (κ (.inl (v5, v6)))) (ht : bTree t) (hs : bStore s) (h3 : bR v3) {v5 : Int} (h5 : bR v5) {v6 : Int} (h6 : bR v6) : bD L xs (d + 2) 34 14 [(0, .ref 13), (1, .ref t), (2, .ref s), (3, bI v3), (5, bI v5), (6, bI v6)] [] μ ((F_X3_knownText_14 t s v3 μ v5 v6).bind κ) := by
  unfold F_X3_knownText_14
  refine bD.ok fun hk => ?_
  refine b_s (pc' := 16) (lv1 := [(0, .ref 13), (1, .ref t), (2, .ref s), (3, bI v3), (5, bI v5), (6, bI v6)]) (st' := [bI v6]) l34_14 (fun _ => rfl) ?_
  refine b_s (pc' := 17) (lv1 := [(0, .ref 13), (1, .ref t), (2, .ref s), (3, bI v3), (5, bI v5), (6, bI v6)]) (st' := [.ref 13, bI v6]) l34_16 (fun _ => rfl) ?_
  refine b_gi l34_17 (by rfl) (by decide) (by decide) rfl (b_pc (pc' := 20) rfl ?_)
  refine b_ige (pt := 99) l34_20 h6 (bO_f hk (ci := 2) (by rfl) rfl) (by decide) rfl (fun c1 => ?_) (fun c1 => b_pc (pc' := 23) rfl ?_)
  · refine b_s (pc' := 100) (lv1 := [(0, .ref 13), (1, .ref t), (2, .ref s), (3, bI v3), (5, bI v5), (6, bI v6)]) (st' := [bI (-1)]) l34_99 (fun _ => rfl) ?_
    exact b_reti l34_100 rfl (by decide) (hr _)
  · refine b_s (pc' := 25) (lv1 := [(0, .ref 13), (1, .ref t), (2, .ref s), (3, bI v3), (5, bI v5), (6, bI v6)]) (st' := [bI v5]) l34_23 (fun _ => rfl) ?_
    refine b_s (pc' := 26) (lv1 := [(0, .ref 13), (1, .ref t), (2, .ref s), (3, bI v3), (5, bI v5), (6, bI v6)]) (st' := [bI (-1), bI v5]) l34_25 (fun _ => rfl) ?_
    refine b_ieq (pt := 99) l34_26 h5 (by decide) (by decide) rfl (fun c2 => ?_) (fun c2 => b_pc (pc' := 29) rfl ?_)
    · refine b_s (pc' := 100) (lv1 := [(0, .ref 13), (1, .ref t), (2, .ref s), (3, bI v3), (5, bI v5), (6, bI v6)]) (st' := [bI (-1)]) l34_99 (fun _ => rfl) ?_
      exact b_reti l34_100 rfl (by decide) (hr _)
    · refine b_s (pc' := 30) (lv1 := [(0, .ref 13), (1, .ref t), (2, .ref s), (3, bI v3), (5, bI v5), (6, bI v6)]) (st' := [.ref 13]) l34_29 (fun _ => rfl) ?_
      refine b_gp (q' := 23) (j := 10) l34_30 (by rfl) (by decide) (by decide) rfl hk rfl rfl (b_pc (pc' := 33) rfl ?_)
      refine b_s (pc' := 35) (lv1 := [(0, .ref 13), (1, .ref t), (2, .ref s), (3, bI v3), (5, bI v5), (6, bI v6)]) (st' := [bI v5, .ref 23]) l34_33 (fun _ => rfl) ?_
      refine b_g fun g15 => ?_
      refine b_ial l34_35 (by rfl) g15 (b_pc (pc' := 36) rfl ?_)
      refine b_w (pc' := 38) (lv1 := ax_st1 [(0, .ref 13), (1, .ref t), (2, .ref s), (3, bI v3), (5, bI v5), (6, bI v6)] 7 (bI (μ 23 v5.toNat))) (lv' := [(0, .ref 13), (1, .ref t), (2, .ref s), (3, bI v3), (5, bI v5), (6, bI v6), (7, bI (μ 23 v5.toNat))]) (st' := []) l34_36 (fun _ => rfl) (bSb rfl (bSb rfl (bSb rfl (bSb rfl (bSb rfl (bSb rfl (bSb rfl bSn))))))) ?_
      refine b_s (pc' := 39) (lv1 := [(0, .ref 13), (1, .ref t), (2, .ref s), (3, bI v3), (5, bI v5), (6, bI v6), (7, bI (μ 23 v5.toNat))]) (st' := [.ref t]) l34_38 (fun _ => rfl) ?_
      refine b_gp (q' := (t + 14)) (j := 14) l34_39 ht (by decide) (by decide) rfl hk rfl rfl (b_pc (pc' := 42) rfl ?_)
      refine b_s (pc' := 43) (lv1 := [(0, .ref 13), (1, .ref t), (2, .ref s), (3, bI v3), (5, bI v5), (6, bI v6), (7, bI (μ 23 v5.toNat))]) (st' := [bI v3, .ref (t + 14)]) l34_42 (fun _ => rfl) ?_
      refine b_g fun g14 => ?_
      refine b_ial l34_43 (bTree_l ht) g14 (b_pc (pc' := 44) rfl ?_)
      refine b_s (pc' := 45) (lv1 := [(0, .ref 13), (1, .ref t), (2, .ref s), (3, bI v3), (5, bI v5), (6, bI v6), (7, bI (μ 23 v5.toNat))]) (st' := [.ref t, bI (μ (t + 14) v3.toNat)]) l34_44 (fun _ => rfl) ?_
      refine b_gp (q' := (t + 14)) (j := 14) l34_45 ht (by decide) (by decide) rfl hk rfl rfl (b_pc (pc' := 48) rfl ?_)
      refine b_s (pc' := 50) (lv1 := [(0, .ref 13), (1, .ref t), (2, .ref s), (3, bI v3), (5, bI v5), (6, bI v6), (7, bI (μ 23 v5.toNat))]) (st' := [bI (μ 23 v5.toNat), .ref (t + 14), bI (μ (t + 14) v3.toNat)]) l34_48 (fun _ => rfl) ?_
      refine b_g fun g13 => ?_
      refine b_ial l34_50 (bTree_l ht) g13 (b_pc (pc' := 51) rfl ?_)
      refine b_ine (pt := 82) l34_51 (bO_i hk (bTree_l ht)) (bO_i hk (bTree_l ht)) (by decide) rfl (fun c3 => ?_) (fun c3 => b_pc (pc' := 54) rfl ?_)
      · refine b_s (pc' := 83) (lv1 := [(0, .ref 13), (1, .ref t), (2, .ref s), (3, bI v3), (5, bI v5), (6, bI v6), (7, bI (μ 23 v5.toNat))]) (st' := [.ref 13]) l34_82 (fun _ => rfl) ?_
        refine b_gp (q' := 27) (j := 14) l34_83 (by rfl) (by decide) (by decide) rfl hk rfl rfl (b_pc (pc' := 86) rfl ?_)
        refine b_s (pc' := 88) (lv1 := [(0, .ref 13), (1, .ref t), (2, .ref s), (3, bI v3), (5, bI v5), (6, bI v6), (7, bI (μ 23 v5.toNat))]) (st' := [bI v5, .ref 27]) l34_86 (fun _ => rfl) ?_
        refine b_cPi l34_88 rfl (b_rc (ci := 0) (by rfl) (by decide) (by decide +kernel)) (Nat.le_of_ble_eq_true rfl) (Nat.le_of_ble_eq_true rfl) rfl (r_X0_after 27 (by rfl) v5 h5) fun w4 hw4 => b_pc (pc' := 91) rfl ?_
        refine b_w (pc' := 93) (lv1 := ax_st1 [(0, .ref 13), (1, .ref t), (2, .ref s), (3, bI v3), (5, bI v5), (6, bI v6), (7, bI (μ 23 v5.toNat))] 5 (bI w4)) (lv' := [(0, .ref 13), (1, .ref t), (2, .ref s), (3, bI v3), (5, bI w4), (6, bI v6)]) (st' := []) l34_91 (fun _ => rfl) (bSb rfl (bSb rfl (bSb rfl (bSb rfl (bSb rfl (bSb rfl bSn)))))) ?_
        refine b_inc (lv' := [(0, .ref 13), (1, .ref t), (2, .ref s), (3, bI v3), (5, bI w4), (6, bI (v6 + 1))]) l34_93 rfl (by decide +kernel) (bSb rfl (bSb rfl (bSb rfl (bSb rfl (bSb rfl (bSb rfl bSn)))))) fun g5 => (b_pc (pc' := 96) rfl ?_)
        refine b_s (pc' := 14) (lv1 := [(0, .ref 13), (1, .ref t), (2, .ref s), (3, bI v3), (5, bI w4), (6, bI (v6 + 1))]) (st' := []) l34_96 (fun _ => rfl) ?_
        refine bD.wk (lv' := [(0, .ref 13), (1, .ref t), (2, .ref s), (3, bI v3), (5, bI w4), (6, bI (v6 + 1))]) (bSb rfl (bSb rfl (bSb rfl (bSb rfl (bSb rfl (bSb rfl bSn)))))) ?_
        exact H14 w4 (v6 + 1) hw4 g5
      · refine b_s (pc' := 55) (lv1 := [(0, .ref 13), (1, .ref t), (2, .ref s), (3, bI v3), (5, bI v5), (6, bI v6), (7, bI (μ 23 v5.toNat))]) (st' := [.ref s]) l34_54 (fun _ => rfl) ?_
        refine b_s (pc' := 56) (lv1 := [(0, .ref 13), (1, .ref t), (2, .ref s), (3, bI v3), (5, bI v5), (6, bI v6), (7, bI (μ 23 v5.toNat))]) (st' := [.ref t, .ref s]) l34_55 (fun _ => rfl) ?_
        refine b_s (pc' := 57) (lv1 := [(0, .ref 13), (1, .ref t), (2, .ref s), (3, bI v3), (5, bI v5), (6, bI v6), (7, bI (μ 23 v5.toNat))]) (st' := [bI v3, .ref t, .ref s]) l34_56 (fun _ => rfl) ?_
        refine b_cPi l34_57 rfl (b_rc (ci := 7) ht (by decide) (by decide +kernel)) (Nat.le_of_ble_eq_true rfl) (Nat.le_of_ble_eq_true rfl) rfl (r_X8_start t ht v3 h3) fun w6 hw6 => b_pc (pc' := 60) rfl ?_
        refine b_s (pc' := 61) (lv1 := [(0, .ref 13), (1, .ref t), (2, .ref s), (3, bI v3), (5, bI v5), (6, bI v6), (7, bI (μ 23 v5.toNat))]) (st' := [.ref s, bI w6, .ref s]) l34_60 (fun _ => rfl) ?_
        refine b_s (pc' := 62) (lv1 := [(0, .ref 13), (1, .ref t), (2, .ref s), (3, bI v3), (5, bI v5), (6, bI v6), (7, bI (μ 23 v5.toNat))]) (st' := [.ref t, .ref s, bI w6, .ref s]) l34_61 (fun _ => rfl) ?_
        refine b_s (pc' := 64) (lv1 := [(0, .ref 13), (1, .ref t), (2, .ref s), (3, bI v3), (5, bI v5), (6, bI v6), (7, bI (μ 23 v5.toNat))]) (st' := [bI (μ 23 v5.toNat), .ref t, .ref s, bI w6, .ref s]) l34_62 (fun _ => rfl) ?_
        refine b_cPi l34_64 rfl (b_rc (ci := 7) ht (by decide) (by decide +kernel)) (Nat.le_of_ble_eq_true rfl) (Nat.le_of_ble_eq_true rfl) rfl (r_X8_start t ht (μ 23 v5.toNat) (bO_i hk (by rfl))) fun w7 hw7 => b_pc (pc' := 67) rfl ?_
        refine b_s (pc' := 68) (lv1 := [(0, .ref 13), (1, .ref t), (2, .ref s), (3, bI v3), (5, bI v5), (6, bI v6), (7, bI (μ 23 v5.toNat))]) (st' := [.ref t, bI w7, .ref s, bI w6, .ref s]) l34_67 (fun _ => rfl) ?_
        refine b_gp (q' := (t + 14)) (j := 14) l34_68 ht (by decide) (by decide) rfl hk rfl rfl (b_pc (pc' := 71) rfl ?_)
        refine b_s (pc' := 72) (lv1 := [(0, .ref 13), (1, .ref t), (2, .ref s), (3, bI v3), (5, bI v5), (6, bI v6), (7, bI (μ 23 v5.toNat))]) (st' := [bI v3, .ref (t + 14), bI w7, .ref s, bI w6, .ref s]) l34_71 (fun _ => rfl) ?_
        refine b_g fun g12 => ?_
        refine b_ial l34_72 (bTree_l ht) g12 (b_pc (pc' := 73) rfl ?_)
        refine b_cPz l34_73 rfl (b_rc (ci := 5) hs (by decide) (by decide +kernel)) (Nat.le_of_ble_eq_true rfl) (Nat.le_of_ble_eq_true rfl) rfl (r_X6_same s hs s hs w6 hw6 w7 hw7 (μ (t + 14) v3.toNat) (bO_i hk (bTree_l ht))) fun w8 hw8 => b_pc (pc' := 76) rfl ?_
        refine b_zeq (pt := 82) l34_76 (bZ_R hw8) (by decide) rfl (fun c9 => ?_) (fun c9 => b_pc (pc' := 79) rfl ?_)
        · refine b_s (pc' := 83) (lv1 := [(0, .ref 13), (1, .ref t), (2, .ref s), (3, bI v3), (5, bI v5), (6, bI v6), (7, bI (μ 23 v5.toNat))]) (st' := [.ref 13]) l34_82 (fun _ => rfl) ?_
          refine b_gp (q' := 27) (j := 14) l34_83 (by rfl) (by decide) (by decide) rfl hk rfl rfl (b_pc (pc' := 86) rfl ?_)
          refine b_s (pc' := 88) (lv1 := [(0, .ref 13), (1, .ref t), (2, .ref s), (3, bI v3), (5, bI v5), (6, bI v6), (7, bI (μ 23 v5.toNat))]) (st' := [bI v5, .ref 27]) l34_86 (fun _ => rfl) ?_
          refine b_cPi l34_88 rfl (b_rc (ci := 0) (by rfl) (by decide) (by decide +kernel)) (Nat.le_of_ble_eq_true rfl) (Nat.le_of_ble_eq_true rfl) rfl (r_X0_after 27 (by rfl) v5 h5) fun w10 hw10 => b_pc (pc' := 91) rfl ?_
          refine b_w (pc' := 93) (lv1 := ax_st1 [(0, .ref 13), (1, .ref t), (2, .ref s), (3, bI v3), (5, bI v5), (6, bI v6), (7, bI (μ 23 v5.toNat))] 5 (bI w10)) (lv' := [(0, .ref 13), (1, .ref t), (2, .ref s), (3, bI v3), (5, bI w10), (6, bI v6)]) (st' := []) l34_91 (fun _ => rfl) (bSb rfl (bSb rfl (bSb rfl (bSb rfl (bSb rfl (bSb rfl bSn)))))) ?_
          refine b_inc (lv' := [(0, .ref 13), (1, .ref t), (2, .ref s), (3, bI v3), (5, bI w10), (6, bI (v6 + 1))]) l34_93 rfl (by decide +kernel) (bSb rfl (bSb rfl (bSb rfl (bSb rfl (bSb rfl (bSb rfl bSn)))))) fun g11 => (b_pc (pc' := 96) rfl ?_)
          refine b_s (pc' := 14) (lv1 := [(0, .ref 13), (1, .ref t), (2, .ref s), (3, bI v3), (5, bI w10), (6, bI (v6 + 1))]) (st' := []) l34_96 (fun _ => rfl) ?_
          refine bD.wk (lv' := [(0, .ref 13), (1, .ref t), (2, .ref s), (3, bI v3), (5, bI w10), (6, bI (v6 + 1))]) (bSb rfl (bSb rfl (bSb rfl (bSb rfl (bSb rfl (bSb rfl bSn)))))) ?_
          exact H14 w10 (v6 + 1) hw10 g11
        · refine b_s (pc' := 81) (lv1 := [(0, .ref 13), (1, .ref t), (2, .ref s), (3, bI v3), (5, bI v5), (6, bI v6), (7, bI (μ 23 v5.toNat))]) (st' := [bI v5]) l34_79 (fun _ => rfl) ?_
          exact b_reti l34_81 rfl h5 (hr _)
theorem p_X3_knownText_14 {L : Nat} {xs : Nat → Int32} {d : Nat} {μ : bM} {t : Nat} {s : Nat} {κ : (Int) → Option bX} (hr : ∀ r : Int, κ r = (bPc μ) r) (ht : bTree t) (hs : bStore s) {v3 : Int} (h3 : bR v3) {v5 : Int} (h5 : bR v5) {v6 : Int} (h6 : bR v6) : bD L xs (d + 2) 34 14 [(0, .ref 13), (1, .ref t), (2, .ref s), (3, bI v3), (5, bI v5), (6, bI v6)] [] μ ((bLoop (fun z => F_X3_knownText_14 t s v3 μ z.1 z.2) (v5, v6)).bind κ) :=
  b_loop (fun z => [(0, .ref 13), (1, .ref t), (2, .ref s), (3, bI v3), (5, bI z.1), (6, bI z.2)]) (fun z => μ) (fun z => bR z.1 ∧ bR z.2) (fun κ' hκ HH z hz => q_X3_knownText_14 (κ := κ') (fun r => (hκ _).trans (hr r)) (fun a5 a6 b5 b6 => HH (a5, a6) ⟨b5, b6⟩) ht hs h3 hz.1 hz.2) (v5, v6) ⟨h5, h6⟩
theorem r_X3_knownText {L : Nat} {xs : Nat → Int32} {d : Nat} {μ : bM} (t : Nat) (ht : bTree t) (s : Nat) (hs : bStore s) (v3 : Int) (h3 : bR v3) (v4 : Int) (h4 : bR v4) : bD L xs (d + 2) 34 0 [(0, .ref 13), (1, .ref t), (2, .ref s), (3, bI v3), (4, bI v4)] [] μ ((F_X3_knownText t s v3 v4 μ).bind (bPc μ)) := by
  have hr : ∀ r, (bPc μ) r = (bPc μ) r := fun _ => rfl
  unfold F_X3_knownText
  refine bD.ok fun hk => ?_
  refine b_s (pc' := 1) (lv1 := [(0, .ref 13), (1, .ref t), (2, .ref s), (3, bI v3), (4, bI v4)]) (st' := [.ref 13]) l34_0 (fun _ => rfl) ?_
  refine b_gp (q' := 27) (j := 14) l34_1 (by rfl) (by decide) (by decide) rfl hk rfl rfl (b_pc (pc' := 4) rfl ?_)
  refine b_s (pc' := 6) (lv1 := [(0, .ref 13), (1, .ref t), (2, .ref s), (3, bI v3), (4, bI v4)]) (st' := [bI v4, .ref 27]) l34_4 (fun _ => rfl) ?_
  refine b_cPi l34_6 rfl (b_rc (ci := 0) (by rfl) (by decide) (by decide +kernel)) (Nat.le_of_ble_eq_true rfl) (Nat.le_of_ble_eq_true rfl) rfl (r_X0_first 27 (by rfl) v4 h4) fun w1 hw1 => b_pc (pc' := 9) rfl ?_
  refine b_w (pc' := 11) (lv1 := ax_st1 [(0, .ref 13), (1, .ref t), (2, .ref s), (3, bI v3), (4, bI v4)] 5 (bI w1)) (lv' := [(0, .ref 13), (1, .ref t), (2, .ref s), (3, bI v3), (5, bI w1)]) (st' := []) l34_9 (fun _ => rfl) (bSb rfl (bSb rfl (bSb rfl (bSb rfl (bSb rfl bSn))))) ?_
  refine b_s (pc' := 12) (lv1 := [(0, .ref 13), (1, .ref t), (2, .ref s), (3, bI v3), (5, bI w1)]) (st' := [bI 0]) l34_11 (fun _ => rfl) ?_
  refine b_w (pc' := 14) (lv1 := ax_st1 [(0, .ref 13), (1, .ref t), (2, .ref s), (3, bI v3), (5, bI w1)] 6 (bI 0)) (lv' := [(0, .ref 13), (1, .ref t), (2, .ref s), (3, bI v3), (5, bI w1), (6, bI 0)]) (st' := []) l34_12 (fun _ => rfl) (bSb rfl (bSb rfl (bSb rfl (bSb rfl (bSb rfl (bSb rfl bSn)))))) ?_
  refine bD.wk (lv' := [(0, .ref 13), (1, .ref t), (2, .ref s), (3, bI v3), (5, bI w1), (6, bI 0)]) (bSb rfl (bSb rfl (bSb rfl (bSb rfl (bSb rfl (bSb rfl bSn)))))) ?_
  exact p_X3_knownText_14 hr ht hs h3 hw1 (by decide)
/-! ET$Layout.placeText -/
theorem l33_0 : (ax_dt (ax_T 33)).lookup 0 = some (.aload_n 2, 1, 0, 0, 0) := by decide +kernel
theorem l33_1 : (ax_dt (ax_T 33)).lookup 1 = some (.aload_n 1, 1, 0, 0, 0) := by decide +kernel
theorem l33_2 : (ax_dt (ax_T 33)).lookup 2 = some (.iload_n 3, 1, 0, 0, 0) := by decide +kernel
theorem l33_3 : (ax_dt (ax_T 33)).lookup 3 = some (.invokevirtual 174, 3, 84, 1, 0) := by decide +kernel
theorem l33_6 : (ax_dt (ax_T 33)).lookup 6 = some (.aload_n 1, 1, 0, 0, 0) := by decide +kernel
theorem l33_7 : (ax_dt (ax_T 33)).lookup 7 = some (.getfield 177, 3, 7, 15, 0) := by decide +kernel
theorem l33_10 : (ax_dt (ax_T 33)).lookup 10 = some (.iload_n 3, 1, 0, 0, 0) := by decide +kernel
theorem l33_11 : (ax_dt (ax_T 33)).lookup 11 = some (.iaload, 1, 0, 0, 0) := by decide +kernel
theorem l33_12 : (ax_dt (ax_T 33)).lookup 12 = some (.invokevirtual 180, 3, 66, 2, 0) := by decide +kernel
theorem l33_15 : (ax_dt (ax_T 33)).lookup 15 = some (.istore 4, 2, 0, 0, 0) := by decide +kernel
theorem l33_17 : (ax_dt (ax_T 33)).lookup 17 = some (.aload_n 0, 1, 0, 0, 0) := by decide +kernel
theorem l33_18 : (ax_dt (ax_T 33)).lookup 18 = some (.aload_n 1, 1, 0, 0, 0) := by decide +kernel
theorem l33_19 : (ax_dt (ax_T 33)).lookup 19 = some (.aload_n 2, 1, 0, 0, 0) := by decide +kernel
theorem l33_20 : (ax_dt (ax_T 33)).lookup 20 = some (.iload_n 3, 1, 0, 0, 0) := by decide +kernel
theorem l33_21 : (ax_dt (ax_T 33)).lookup 21 = some (.iload 4, 2, 0, 0, 0) := by decide +kernel
theorem l33_23 : (ax_dt (ax_T 33)).lookup 23 = some (.invokevirtual 183, 3, 34, 4, 0) := by decide +kernel
theorem l33_26 : (ax_dt (ax_T 33)).lookup 26 = some (.istore 5, 2, 0, 0, 0) := by decide +kernel
theorem l33_28 : (ax_dt (ax_T 33)).lookup 28 = some (.iload 5, 2, 0, 0, 0) := by decide +kernel
theorem l33_30 : (ax_dt (ax_T 33)).lookup 30 = some (.iconst (-1), 1, 0, 0, 0) := by decide +kernel
theorem l33_31 : (ax_dt (ax_T 33)).lookup 31 = some (.if_icmp .ne 66, 3, 0, 0, 0) := by decide +kernel
theorem l33_34 : (ax_dt (ax_T 33)).lookup 34 = some (.aload_n 0, 1, 0, 0, 0) := by decide +kernel
theorem l33_35 : (ax_dt (ax_T 33)).lookup 35 = some (.getfield 39, 3, 2, 16, 0) := by decide +kernel
theorem l33_38 : (ax_dt (ax_T 33)).lookup 38 = some (.aload_n 0, 1, 0, 0, 0) := by decide +kernel
theorem l33_39 : (ax_dt (ax_T 33)).lookup 39 = some (.getfield 162, 3, 2, 1, 0) := by decide +kernel
theorem l33_42 : (ax_dt (ax_T 33)).lookup 42 = some (.iload_n 3, 1, 0, 0, 0) := by decide +kernel
theorem l33_43 : (ax_dt (ax_T 33)).lookup 43 = some (.iastore, 1, 0, 0, 0) := by decide +kernel
theorem l33_44 : (ax_dt (ax_T 33)).lookup 44 = some (.aload_n 0, 1, 0, 0, 0) := by decide +kernel
theorem l33_45 : (ax_dt (ax_T 33)).lookup 45 = some (.getfield 51, 3, 2, 18, 0) := by decide +kernel
theorem l33_48 : (ax_dt (ax_T 33)).lookup 48 = some (.iload 4, 2, 0, 0, 0) := by decide +kernel
theorem l33_50 : (ax_dt (ax_T 33)).lookup 50 = some (.aload_n 0, 1, 0, 0, 0) := by decide +kernel
theorem l33_51 : (ax_dt (ax_T 33)).lookup 51 = some (.getfield 162, 3, 2, 1, 0) := by decide +kernel
theorem l33_54 : (ax_dt (ax_T 33)).lookup 54 = some (.invokevirtual 122, 3, 4, 2, 0) := by decide +kernel
theorem l33_57 : (ax_dt (ax_T 33)).lookup 57 = some (.aload_n 0, 1, 0, 0, 0) := by decide +kernel
theorem l33_58 : (ax_dt (ax_T 33)).lookup 58 = some (.dup, 1, 0, 0, 0) := by decide +kernel
theorem l33_59 : (ax_dt (ax_T 33)).lookup 59 = some (.getfield 162, 3, 2, 1, 0) := by decide +kernel
theorem l33_62 : (ax_dt (ax_T 33)).lookup 62 = some (.iconst 1, 1, 0, 0, 0) := by decide +kernel
theorem l33_63 : (ax_dt (ax_T 33)).lookup 63 = some (.iadd, 1, 0, 0, 0) := by decide +kernel
theorem l33_64 : (ax_dt (ax_T 33)).lookup 64 = some (.putfield 162, 3, 2, 1, 0) := by decide +kernel
theorem l33_67 : (ax_dt (ax_T 33)).lookup 67 = some (.aload_n 0, 1, 0, 0, 0) := by decide +kernel
theorem l33_68 : (ax_dt (ax_T 33)).lookup 68 = some (.getfield 36, 3, 2, 15, 0) := by decide +kernel
theorem l33_71 : (ax_dt (ax_T 33)).lookup 71 = some (.iload_n 3, 1, 0, 0, 0) := by decide +kernel
theorem l33_72 : (ax_dt (ax_T 33)).lookup 72 = some (.aload_n 0, 1, 0, 0, 0) := by decide +kernel
theorem l33_73 : (ax_dt (ax_T 33)).lookup 73 = some (.getfield 165, 3, 2, 4, 0) := by decide +kernel
theorem l33_76 : (ax_dt (ax_T 33)).lookup 76 = some (.iastore, 1, 0, 0, 0) := by decide +kernel
theorem l33_77 : (ax_dt (ax_T 33)).lookup 77 = some (.aload_n 0, 1, 0, 0, 0) := by decide +kernel
theorem l33_78 : (ax_dt (ax_T 33)).lookup 78 = some (.dup, 1, 0, 0, 0) := by decide +kernel
theorem l33_79 : (ax_dt (ax_T 33)).lookup 79 = some (.getfield 165, 3, 2, 4, 0) := by decide +kernel
theorem l33_82 : (ax_dt (ax_T 33)).lookup 82 = some (.aload_n 1, 1, 0, 0, 0) := by decide +kernel
theorem l33_83 : (ax_dt (ax_T 33)).lookup 83 = some (.getfield 177, 3, 7, 15, 0) := by decide +kernel
theorem l33_86 : (ax_dt (ax_T 33)).lookup 86 = some (.iload_n 3, 1, 0, 0, 0) := by decide +kernel
theorem l33_87 : (ax_dt (ax_T 33)).lookup 87 = some (.iaload, 1, 0, 0, 0) := by decide +kernel
theorem l33_88 : (ax_dt (ax_T 33)).lookup 88 = some (.iconst 1, 1, 0, 0, 0) := by decide +kernel
theorem l33_89 : (ax_dt (ax_T 33)).lookup 89 = some (.iadd, 1, 0, 0, 0) := by decide +kernel
theorem l33_90 : (ax_dt (ax_T 33)).lookup 90 = some (.iadd, 1, 0, 0, 0) := by decide +kernel
theorem l33_91 : (ax_dt (ax_T 33)).lookup 91 = some (.putfield 165, 3, 2, 4, 0) := by decide +kernel
theorem l33_94 : (ax_dt (ax_T 33)).lookup 94 = some (.goto 21, 3, 0, 0, 0) := by decide +kernel
theorem l33_97 : (ax_dt (ax_T 33)).lookup 97 = some (.aload_n 0, 1, 0, 0, 0) := by decide +kernel
theorem l33_98 : (ax_dt (ax_T 33)).lookup 98 = some (.getfield 36, 3, 2, 15, 0) := by decide +kernel
theorem l33_101 : (ax_dt (ax_T 33)).lookup 101 = some (.iload_n 3, 1, 0, 0, 0) := by decide +kernel
theorem l33_102 : (ax_dt (ax_T 33)).lookup 102 = some (.aload_n 0, 1, 0, 0, 0) := by decide +kernel
theorem l33_103 : (ax_dt (ax_T 33)).lookup 103 = some (.getfield 36, 3, 2, 15, 0) := by decide +kernel
theorem l33_106 : (ax_dt (ax_T 33)).lookup 106 = some (.aload_n 0, 1, 0, 0, 0) := by decide +kernel
theorem l33_107 : (ax_dt (ax_T 33)).lookup 107 = some (.getfield 39, 3, 2, 16, 0) := by decide +kernel
theorem l33_110 : (ax_dt (ax_T 33)).lookup 110 = some (.iload 5, 2, 0, 0, 0) := by decide +kernel
theorem l33_112 : (ax_dt (ax_T 33)).lookup 112 = some (.iaload, 1, 0, 0, 0) := by decide +kernel
theorem l33_113 : (ax_dt (ax_T 33)).lookup 113 = some (.iaload, 1, 0, 0, 0) := by decide +kernel
theorem l33_114 : (ax_dt (ax_T 33)).lookup 114 = some (.iastore, 1, 0, 0, 0) := by decide +kernel
theorem l33_115 : (ax_dt (ax_T 33)).lookup 115 = some (.return_, 1, 0, 0, 0) := by decide +kernel
noncomputable def F_X3_placeText (t : Nat) (s : Nat) (v3 : Int) (μ : bM) : Option (Int × bM) := (F_X8_start t v3 μ).bind fun w1 => bG (0 ≤ v3 ∧ v3 < 3200) ((F_X6_hash s w1 (μ (t + 14) v3.toNat) μ).bind fun w2 => (F_X3_knownText t s v3 w2 μ).bind fun w3 => if ¬ w3 = (-1) then bG (0 ≤ w3 ∧ w3 < 3200) (bG (0 ≤ (μ 23 w3.toNat) ∧ (μ 23 w3.toNat) < 3200) (bG (0 ≤ v3 ∧ v3 < 3200) (some (0, (bset μ 22 v3.toNat (μ 22 (μ 23 w3.toNat).toNat)))))) else bG (0 ≤ (μ 13 1) ∧ (μ 13 1) < 3200) (bMm (F_X0_add 27 w2 ((bset μ 23 (μ 13 1).toNat v3) 13 1) (bset μ 23 (μ 13 1).toNat v3)) (fun w10 μ11 => bG (bR ((μ11 13 1) + 1)) (bG (0 ≤ v3 ∧ v3 < 3200) (bG (0 ≤ v3 ∧ v3 < 3200) (bG (bR (((bset (bset μ11 13 1 ((μ11 13 1) + 1)) 22 v3.toNat ((bset μ11 13 1 ((μ11 13 1) + 1)) 13 4)) (t + 14) v3.toNat) + 1)) (bG (bR (((bset (bset μ11 13 1 ((μ11 13 1) + 1)) 22 v3.toNat ((bset μ11 13 1 ((μ11 13 1) + 1)) 13 4)) 13 4) + (((bset (bset μ11 13 1 ((μ11 13 1) + 1)) 22 v3.toNat ((bset μ11 13 1 ((μ11 13 1) + 1)) 13 4)) (t + 14) v3.toNat) + 1))) (some (0, (bset (bset (bset μ11 13 1 ((μ11 13 1) + 1)) 22 v3.toNat ((bset μ11 13 1 ((μ11 13 1) + 1)) 13 4)) 13 4 (((bset (bset μ11 13 1 ((μ11 13 1) + 1)) 22 v3.toNat ((bset μ11 13 1 ((μ11 13 1) + 1)) 13 4)) 13 4) + (((bset (bset μ11 13 1 ((μ11 13 1) + 1)) 22 v3.toNat ((bset μ11 13 1 ((μ11 13 1) + 1)) 13 4)) (t + 14) v3.toNat) + 1))))))))))))
theorem r_X3_placeText {L : Nat} {xs : Nat → Int32} {d : Nat} {μ : bM} (t : Nat) (ht : bTree t) (s : Nat) (hs : bStore s) (v3 : Int) (h3 : bR v3) : bD L xs (d + 3) 33 0 [(0, .ref 13), (1, .ref t), (2, .ref s), (3, bI v3)] [] μ ((F_X3_placeText t s v3 μ).bind (bMc)) := by
  have hr : ∀ r, (bMc) r = (bMc) r := fun _ => rfl
  unfold F_X3_placeText
  refine bD.ok fun hk => ?_
  refine b_s (pc' := 1) (lv1 := [(0, .ref 13), (1, .ref t), (2, .ref s), (3, bI v3)]) (st' := [.ref s]) l33_0 (fun _ => rfl) ?_
  refine b_s (pc' := 2) (lv1 := [(0, .ref 13), (1, .ref t), (2, .ref s), (3, bI v3)]) (st' := [.ref t, .ref s]) l33_1 (fun _ => rfl) ?_
  refine b_s (pc' := 3) (lv1 := [(0, .ref 13), (1, .ref t), (2, .ref s), (3, bI v3)]) (st' := [bI v3, .ref t, .ref s]) l33_2 (fun _ => rfl) ?_
  refine b_cPi l33_3 rfl (b_rc (ci := 7) ht (by decide) (by decide +kernel)) (Nat.le_of_ble_eq_true rfl) (Nat.le_of_ble_eq_true rfl) rfl (r_X8_start t ht v3 h3) fun w1 hw1 => b_pc (pc' := 6) rfl ?_
  refine b_s (pc' := 7) (lv1 := [(0, .ref 13), (1, .ref t), (2, .ref s), (3, bI v3)]) (st' := [.ref t, bI w1, .ref s]) l33_6 (fun _ => rfl) ?_
  refine b_gp (q' := (t + 14)) (j := 14) l33_7 ht (by decide) (by decide) rfl hk rfl rfl (b_pc (pc' := 10) rfl ?_)
  refine b_s (pc' := 11) (lv1 := [(0, .ref 13), (1, .ref t), (2, .ref s), (3, bI v3)]) (st' := [bI v3, .ref (t + 14), bI w1, .ref s]) l33_10 (fun _ => rfl) ?_
  refine b_g fun g22 => ?_
  refine b_ial l33_11 (bTree_l ht) g22 (b_pc (pc' := 12) rfl ?_)
  refine b_cPi l33_12 rfl (b_rc (ci := 5) hs (by decide) (by decide +kernel)) (Nat.le_of_ble_eq_true rfl) (Nat.le_of_ble_eq_true rfl) rfl (r_X6_hash s hs w1 hw1 (μ (t + 14) v3.toNat) (bO_i hk (bTree_l ht))) fun w2 hw2 => b_pc (pc' := 15) rfl ?_
  refine b_w (pc' := 17) (lv1 := ax_st1 [(0, .ref 13), (1, .ref t), (2, .ref s), (3, bI v3)] 4 (bI w2)) (lv' := [(0, .ref 13), (1, .ref t), (2, .ref s), (3, bI v3), (4, bI w2)]) (st' := []) l33_15 (fun _ => rfl) (bSb rfl (bSb rfl (bSb rfl (bSb rfl (bSb rfl bSn))))) ?_
  refine b_s (pc' := 18) (lv1 := [(0, .ref 13), (1, .ref t), (2, .ref s), (3, bI v3), (4, bI w2)]) (st' := [.ref 13]) l33_17 (fun _ => rfl) ?_
  refine b_s (pc' := 19) (lv1 := [(0, .ref 13), (1, .ref t), (2, .ref s), (3, bI v3), (4, bI w2)]) (st' := [.ref t, .ref 13]) l33_18 (fun _ => rfl) ?_
  refine b_s (pc' := 20) (lv1 := [(0, .ref 13), (1, .ref t), (2, .ref s), (3, bI v3), (4, bI w2)]) (st' := [.ref s, .ref t, .ref 13]) l33_19 (fun _ => rfl) ?_
  refine b_s (pc' := 21) (lv1 := [(0, .ref 13), (1, .ref t), (2, .ref s), (3, bI v3), (4, bI w2)]) (st' := [bI v3, .ref s, .ref t, .ref 13]) l33_20 (fun _ => rfl) ?_
  refine b_s (pc' := 23) (lv1 := [(0, .ref 13), (1, .ref t), (2, .ref s), (3, bI v3), (4, bI w2)]) (st' := [bI w2, bI v3, .ref s, .ref t, .ref 13]) l33_21 (fun _ => rfl) ?_
  refine b_cPi l33_23 rfl (b_rc (ci := 2) (by rfl) (by decide) (by decide +kernel)) (Nat.le_of_ble_eq_true rfl) (Nat.le_of_ble_eq_true rfl) rfl (r_X3_knownText t ht s hs v3 h3 w2 hw2) fun w3 hw3 => b_pc (pc' := 26) rfl ?_
  refine b_w (pc' := 28) (lv1 := ax_st1 [(0, .ref 13), (1, .ref t), (2, .ref s), (3, bI v3), (4, bI w2)] 5 (bI w3)) (lv' := [(0, .ref 13), (1, .ref t), (3, bI v3), (4, bI w2), (5, bI w3)]) (st' := []) l33_26 (fun _ => rfl) (bSb rfl (bSb rfl (bSb rfl (bSb rfl (bSb rfl bSn))))) ?_
  refine b_s (pc' := 30) (lv1 := [(0, .ref 13), (1, .ref t), (3, bI v3), (4, bI w2), (5, bI w3)]) (st' := [bI w3]) l33_28 (fun _ => rfl) ?_
  refine b_s (pc' := 31) (lv1 := [(0, .ref 13), (1, .ref t), (3, bI v3), (4, bI w2), (5, bI w3)]) (st' := [bI (-1), bI w3]) l33_30 (fun _ => rfl) ?_
  refine b_ine (pt := 97) l33_31 hw3 (by decide) (by decide) rfl (fun c4 => ?_) (fun c4 => b_pc (pc' := 34) rfl ?_)
  · refine b_s (pc' := 98) (lv1 := [(0, .ref 13), (1, .ref t), (3, bI v3), (4, bI w2), (5, bI w3)]) (st' := [.ref 13]) l33_97 (fun _ => rfl) ?_
    refine b_gp (q' := 22) (j := 9) l33_98 (by rfl) (by decide) (by decide) rfl hk rfl rfl (b_pc (pc' := 101) rfl ?_)
    refine b_s (pc' := 102) (lv1 := [(0, .ref 13), (1, .ref t), (3, bI v3), (4, bI w2), (5, bI w3)]) (st' := [bI v3, .ref 22]) l33_101 (fun _ => rfl) ?_
    refine b_s (pc' := 103) (lv1 := [(0, .ref 13), (1, .ref t), (3, bI v3), (4, bI w2), (5, bI w3)]) (st' := [.ref 13, bI v3, .ref 22]) l33_102 (fun _ => rfl) ?_
    refine b_gp (q' := 22) (j := 9) l33_103 (by rfl) (by decide) (by decide) rfl hk rfl rfl (b_pc (pc' := 106) rfl ?_)
    refine b_s (pc' := 107) (lv1 := [(0, .ref 13), (1, .ref t), (3, bI v3), (4, bI w2), (5, bI w3)]) (st' := [.ref 13, .ref 22, bI v3, .ref 22]) l33_106 (fun _ => rfl) ?_
    refine b_gp (q' := 23) (j := 10) l33_107 (by rfl) (by decide) (by decide) rfl hk rfl rfl (b_pc (pc' := 110) rfl ?_)
    refine b_s (pc' := 112) (lv1 := [(0, .ref 13), (1, .ref t), (3, bI v3), (4, bI w2), (5, bI w3)]) (st' := [bI w3, .ref 23, .ref 22, bI v3, .ref 22]) l33_110 (fun _ => rfl) ?_
    refine b_g fun g8 => ?_
    refine b_ial l33_112 (by rfl) g8 (b_pc (pc' := 113) rfl ?_)
    refine b_g fun g7 => ?_
    refine b_ial l33_113 (by rfl) g7 (b_pc (pc' := 114) rfl ?_)
    refine b_g fun g6 => ?_
    refine b_ias l33_114 (by rfl) g6 (bO_i hk (by rfl)) (bD.ok fun hk5 => b_pc (pc' := 115) rfl ?_)
    exact b_retv l33_115 rfl (hr _)
  · refine b_s (pc' := 35) (lv1 := [(0, .ref 13), (1, .ref t), (3, bI v3), (4, bI w2), (5, bI w3)]) (st' := [.ref 13]) l33_34 (fun _ => rfl) ?_
    refine b_gp (q' := 23) (j := 10) l33_35 (by rfl) (by decide) (by decide) rfl hk rfl rfl (b_pc (pc' := 38) rfl ?_)
    refine b_s (pc' := 39) (lv1 := [(0, .ref 13), (1, .ref t), (3, bI v3), (4, bI w2), (5, bI w3)]) (st' := [.ref 13, .ref 23]) l33_38 (fun _ => rfl) ?_
    refine b_gi l33_39 (by rfl) (by decide) (by decide) rfl (b_pc (pc' := 42) rfl ?_)
    refine b_s (pc' := 43) (lv1 := [(0, .ref 13), (1, .ref t), (3, bI v3), (4, bI w2), (5, bI w3)]) (st' := [bI v3, bI (μ 13 1), .ref 23]) l33_42 (fun _ => rfl) ?_
    refine b_g fun g21 => ?_
    refine b_ias l33_43 (by rfl) g21 h3 (bD.ok fun hk9 => b_pc (pc' := 44) rfl ?_)
    refine b_s (pc' := 45) (lv1 := [(0, .ref 13), (1, .ref t), (3, bI v3), (4, bI w2), (5, bI w3)]) (st' := [.ref 13]) l33_44 (fun _ => rfl) ?_
    refine b_gp (q' := 27) (j := 14) l33_45 (by rfl) (by decide) (by decide) rfl hk9 rfl rfl (b_pc (pc' := 48) rfl ?_)
    refine b_s (pc' := 50) (lv1 := [(0, .ref 13), (1, .ref t), (3, bI v3), (4, bI w2), (5, bI w3)]) (st' := [bI w2, .ref 27]) l33_48 (fun _ => rfl) ?_
    refine b_s (pc' := 51) (lv1 := [(0, .ref 13), (1, .ref t), (3, bI v3), (4, bI w2), (5, bI w3)]) (st' := [.ref 13, bI w2, .ref 27]) l33_50 (fun _ => rfl) ?_
    refine b_gi l33_51 (by rfl) (by decide) (by decide) rfl (b_pc (pc' := 54) rfl ?_)
    refine b_cMv l33_54 rfl (b_rc (ci := 0) (by rfl) (by decide) (by decide +kernel)) (Nat.le_of_ble_eq_true rfl) (Nat.le_of_ble_eq_true rfl) rfl (r_X0_add 27 (by rfl) w2 hw2 ((bset μ 23 (μ 13 1).toNat v3) 13 1) (bO_f hk9 (ci := 2) (by rfl) rfl)) fun w10 μ11 hw10 => bD.ok fun hk12 => b_pc (pc' := 57) rfl ?_
    refine b_s (pc' := 58) (lv1 := [(0, .ref 13), (1, .ref t), (3, bI v3), (4, bI w2), (5, bI w3)]) (st' := [.ref 13]) l33_57 (fun _ => rfl) ?_
    refine b_s (pc' := 59) (lv1 := [(0, .ref 13), (1, .ref t), (3, bI v3), (4, bI w2), (5, bI w3)]) (st' := [.ref 13, .ref 13]) l33_58 (fun _ => rfl) ?_
    refine b_gi l33_59 (by rfl) (by decide) (by decide) rfl (b_pc (pc' := 62) rfl ?_)
    refine b_s (pc' := 63) (lv1 := [(0, .ref 13), (1, .ref t), (3, bI v3), (4, bI w2), (5, bI w3)]) (st' := [bI 1, bI (μ11 13 1), .ref 13]) l33_62 (fun _ => rfl) ?_
    refine b_iadd l33_63 fun g13 => (b_pc (pc' := 64) rfl ?_)
    refine b_pi l33_64 (by rfl) (by decide) (by decide) rfl rfl g13 (bD.ok fun hk14 => b_pc (pc' := 67) rfl ?_)
    refine b_s (pc' := 68) (lv1 := [(0, .ref 13), (1, .ref t), (3, bI v3), (4, bI w2), (5, bI w3)]) (st' := [.ref 13]) l33_67 (fun _ => rfl) ?_
    refine b_gp (q' := 22) (j := 9) l33_68 (by rfl) (by decide) (by decide) rfl hk14 rfl rfl (b_pc (pc' := 71) rfl ?_)
    refine b_s (pc' := 72) (lv1 := [(0, .ref 13), (1, .ref t), (3, bI v3), (4, bI w2), (5, bI w3)]) (st' := [bI v3, .ref 22]) l33_71 (fun _ => rfl) ?_
    refine b_s (pc' := 73) (lv1 := [(0, .ref 13), (1, .ref t), (3, bI v3), (4, bI w2), (5, bI w3)]) (st' := [.ref 13, bI v3, .ref 22]) l33_72 (fun _ => rfl) ?_
    refine b_gi l33_73 (by rfl) (by decide) (by decide) rfl (b_pc (pc' := 76) rfl ?_)
    refine b_g fun g20 => ?_
    refine b_ias l33_76 (by rfl) g20 (bO_f hk14 (ci := 2) (by rfl) rfl) (bD.ok fun hk15 => b_pc (pc' := 77) rfl ?_)
    refine b_s (pc' := 78) (lv1 := [(0, .ref 13), (1, .ref t), (3, bI v3), (4, bI w2), (5, bI w3)]) (st' := [.ref 13]) l33_77 (fun _ => rfl) ?_
    refine b_s (pc' := 79) (lv1 := [(0, .ref 13), (1, .ref t), (3, bI v3), (4, bI w2), (5, bI w3)]) (st' := [.ref 13, .ref 13]) l33_78 (fun _ => rfl) ?_
    refine b_gi l33_79 (by rfl) (by decide) (by decide) rfl (b_pc (pc' := 82) rfl ?_)
    refine b_s (pc' := 83) (lv1 := [(0, .ref 13), (1, .ref t), (3, bI v3), (4, bI w2), (5, bI w3)]) (st' := [.ref t, bI ((bset (bset μ11 13 1 ((μ11 13 1) + 1)) 22 v3.toNat ((bset μ11 13 1 ((μ11 13 1) + 1)) 13 4)) 13 4), .ref 13]) l33_82 (fun _ => rfl) ?_
    refine b_gp (q' := (t + 14)) (j := 14) l33_83 ht (by decide) (by decide) rfl hk15 rfl rfl (b_pc (pc' := 86) rfl ?_)
    refine b_s (pc' := 87) (lv1 := [(0, .ref 13), (1, .ref t), (3, bI v3), (4, bI w2), (5, bI w3)]) (st' := [bI v3, .ref (t + 14), bI ((bset (bset μ11 13 1 ((μ11 13 1) + 1)) 22 v3.toNat ((bset μ11 13 1 ((μ11 13 1) + 1)) 13 4)) 13 4), .ref 13]) l33_86 (fun _ => rfl) ?_
    refine b_g fun g19 => ?_
    refine b_ial l33_87 (bTree_l ht) g19 (b_pc (pc' := 88) rfl ?_)
    refine b_s (pc' := 89) (lv1 := [(0, .ref 13), (1, .ref t), (3, bI v3), (4, bI w2), (5, bI w3)]) (st' := [bI 1, bI ((bset (bset μ11 13 1 ((μ11 13 1) + 1)) 22 v3.toNat ((bset μ11 13 1 ((μ11 13 1) + 1)) 13 4)) (t + 14) v3.toNat), bI ((bset (bset μ11 13 1 ((μ11 13 1) + 1)) 22 v3.toNat ((bset μ11 13 1 ((μ11 13 1) + 1)) 13 4)) 13 4), .ref 13]) l33_88 (fun _ => rfl) ?_
    refine b_iadd l33_89 fun g16 => (b_pc (pc' := 90) rfl ?_)
    refine b_iadd l33_90 fun g17 => (b_pc (pc' := 91) rfl ?_)
    refine b_pi l33_91 (by rfl) (by decide) (by decide) rfl rfl g17 (bD.ok fun hk18 => b_pc (pc' := 94) rfl ?_)
    refine b_s (pc' := 115) (lv1 := [(0, .ref 13), (1, .ref t), (3, bI v3), (4, bI w2), (5, bI w3)]) (st' := []) l33_94 (fun _ => rfl) ?_
    exact b_retv l33_115 rfl (hr _)
/-! ET$Layout.placeTexts -/
theorem l32_0 : (ax_dt (ax_T 32)).lookup 0 = some (.aload_n 0, 1, 0, 0, 0) := by decide +kernel
theorem l32_1 : (ax_dt (ax_T 32)).lookup 1 = some (.iconst 0, 1, 0, 0, 0) := by decide +kernel
theorem l32_2 : (ax_dt (ax_T 32)).lookup 2 = some (.putfield 162, 3, 2, 1, 0) := by decide +kernel
theorem l32_5 : (ax_dt (ax_T 32)).lookup 5 = some (.aload_n 0, 1, 0, 0, 0) := by decide +kernel
theorem l32_6 : (ax_dt (ax_T 32)).lookup 6 = some (.iconst 0, 1, 0, 0, 0) := by decide +kernel
theorem l32_7 : (ax_dt (ax_T 32)).lookup 7 = some (.putfield 165, 3, 2, 4, 0) := by decide +kernel
theorem l32_10 : (ax_dt (ax_T 32)).lookup 10 = some (.aload_n 0, 1, 0, 0, 0) := by decide +kernel
theorem l32_11 : (ax_dt (ax_T 32)).lookup 11 = some (.getfield 51, 3, 2, 18, 0) := by decide +kernel
theorem l32_14 : (ax_dt (ax_T 32)).lookup 14 = some (.invokevirtual 112, 3, 1, 0, 0) := by decide +kernel
theorem l32_17 : (ax_dt (ax_T 32)).lookup 17 = some (.iconst 0, 1, 0, 0, 0) := by decide +kernel
theorem l32_18 : (ax_dt (ax_T 32)).lookup 18 = some (.istore_n 3, 1, 0, 0, 0) := by decide +kernel
theorem l32_19 : (ax_dt (ax_T 32)).lookup 19 = some (.iload_n 3, 1, 0, 0, 0) := by decide +kernel
theorem l32_20 : (ax_dt (ax_T 32)).lookup 20 = some (.aload_n 0, 1, 0, 0, 0) := by decide +kernel
theorem l32_21 : (ax_dt (ax_T 32)).lookup 21 = some (.getfield 72, 3, 2, 5, 0) := by decide +kernel
theorem l32_24 : (ax_dt (ax_T 32)).lookup 24 = some (.if_icmp .ge 67, 3, 0, 0, 0) := by decide +kernel
theorem l32_27 : (ax_dt (ax_T 32)).lookup 27 = some (.aload_n 0, 1, 0, 0, 0) := by decide +kernel
theorem l32_28 : (ax_dt (ax_T 32)).lookup 28 = some (.getfield 9, 3, 2, 7, 0) := by decide +kernel
theorem l32_31 : (ax_dt (ax_T 32)).lookup 31 = some (.iload_n 3, 1, 0, 0, 0) := by decide +kernel
theorem l32_32 : (ax_dt (ax_T 32)).lookup 32 = some (.iaload, 1, 0, 0, 0) := by decide +kernel
theorem l32_33 : (ax_dt (ax_T 32)).lookup 33 = some (.istore 4, 2, 0, 0, 0) := by decide +kernel
theorem l32_35 : (ax_dt (ax_T 32)).lookup 35 = some (.iconst 0, 1, 0, 0, 0) := by decide +kernel
theorem l32_36 : (ax_dt (ax_T 32)).lookup 36 = some (.istore 5, 2, 0, 0, 0) := by decide +kernel
theorem l32_38 : (ax_dt (ax_T 32)).lookup 38 = some (.iload 5, 2, 0, 0, 0) := by decide +kernel
theorem l32_40 : (ax_dt (ax_T 32)).lookup 40 = some (.aload_n 1, 1, 0, 0, 0) := by decide +kernel
theorem l32_41 : (ax_dt (ax_T 32)).lookup 41 = some (.getfield 143, 3, 7, 11, 0) := by decide +kernel
theorem l32_44 : (ax_dt (ax_T 32)).lookup 44 = some (.iload 4, 2, 0, 0, 0) := by decide +kernel
theorem l32_46 : (ax_dt (ax_T 32)).lookup 46 = some (.iaload, 1, 0, 0, 0) := by decide +kernel
theorem l32_47 : (ax_dt (ax_T 32)).lookup 47 = some (.if_icmp .ge 38, 3, 0, 0, 0) := by decide +kernel
theorem l32_50 : (ax_dt (ax_T 32)).lookup 50 = some (.iload 4, 2, 0, 0, 0) := by decide +kernel
theorem l32_52 : (ax_dt (ax_T 32)).lookup 52 = some (.iload 5, 2, 0, 0, 0) := by decide +kernel
theorem l32_54 : (ax_dt (ax_T 32)).lookup 54 = some (.invokestatic 146, 3, 77, 2, 0) := by decide +kernel
theorem l32_57 : (ax_dt (ax_T 32)).lookup 57 = some (.istore 6, 2, 0, 0, 0) := by decide +kernel
theorem l32_59 : (ax_dt (ax_T 32)).lookup 59 = some (.aload_n 1, 1, 0, 0, 0) := by decide +kernel
theorem l32_60 : (ax_dt (ax_T 32)).lookup 60 = some (.getfield 153, 3, 7, 13, 0) := by decide +kernel
theorem l32_63 : (ax_dt (ax_T 32)).lookup 63 = some (.iload 6, 2, 0, 0, 0) := by decide +kernel
theorem l32_65 : (ax_dt (ax_T 32)).lookup 65 = some (.iaload, 1, 0, 0, 0) := by decide +kernel
theorem l32_66 : (ax_dt (ax_T 32)).lookup 66 = some (.bipush 14, 2, 0, 0, 0) := by decide +kernel
theorem l32_68 : (ax_dt (ax_T 32)).lookup 68 = some (.if_icmp .ne 11, 3, 0, 0, 0) := by decide +kernel
theorem l32_71 : (ax_dt (ax_T 32)).lookup 71 = some (.aload_n 0, 1, 0, 0, 0) := by decide +kernel
theorem l32_72 : (ax_dt (ax_T 32)).lookup 72 = some (.aload_n 1, 1, 0, 0, 0) := by decide +kernel
theorem l32_73 : (ax_dt (ax_T 32)).lookup 73 = some (.aload_n 2, 1, 0, 0, 0) := by decide +kernel
theorem l32_74 : (ax_dt (ax_T 32)).lookup 74 = some (.iload 6, 2, 0, 0, 0) := by decide +kernel
theorem l32_76 : (ax_dt (ax_T 32)).lookup 76 = some (.invokevirtual 170, 3, 33, 3, 0) := by decide +kernel
theorem l32_79 : (ax_dt (ax_T 32)).lookup 79 = some (.iinc 5 1, 3, 0, 0, 0) := by decide +kernel
theorem l32_82 : (ax_dt (ax_T 32)).lookup 82 = some (.goto (-44), 3, 0, 0, 0) := by decide +kernel
theorem l32_85 : (ax_dt (ax_T 32)).lookup 85 = some (.iinc 3 1, 3, 0, 0, 0) := by decide +kernel
theorem l32_88 : (ax_dt (ax_T 32)).lookup 88 = some (.goto (-69), 3, 0, 0, 0) := by decide +kernel
theorem l32_91 : (ax_dt (ax_T 32)).lookup 91 = some (.return_, 1, 0, 0, 0) := by decide +kernel
noncomputable def F_X3_placeTexts_38 (t : Nat) (s : Nat) (v3 : Int) (v4 : Int) (v5 : Int) (μ : bM) : Option ((Int × bM) ⊕ ((Int × bM) ⊕ (Int × bM))) := bG (0 ≤ v4 ∧ v4 < 400) (if (μ (t + 10) v4.toNat) ≤ v5 then bG (bR (v3 + 1)) (some (.inr (.inl ((v3 + 1), μ)))) else (F_X8_slotAt v4 v5 μ).bind fun w3 => bG (0 ≤ w3 ∧ w3 < 3200) (if ¬ (μ (t + 12) w3.toNat) = 14 then bG (bR (v5 + 1)) (some (.inl ((v5 + 1), μ))) else bMm (F_X3_placeText t s w3 μ) (fun w6 μ7 => bG (bR (v5 + 1)) (some (.inl ((v5 + 1), μ7))))))
noncomputable def F_X3_placeTexts_19 (t : Nat) (s : Nat) (v3 : Int) (μ : bM) : Option ((Int × bM) ⊕ (Int × bM)) := if (μ 13 5) ≤ v3 then some (.inr (0, μ)) else bG (0 ≤ v3 ∧ v3 < 400) (bLoop (fun z => F_X3_placeTexts_38 t s v3 (μ 14 v3.toNat) z.1 z.2) (0, μ))
noncomputable def F_X3_placeTexts (t : Nat) (s : Nat) (μ : bM) : Option (Int × bM) := bMm (F_X0_forget 27 (bset (bset μ 13 1 0) 13 4 0)) (fun w3 μ4 => bLoop (fun z => F_X3_placeTexts_19 t s z.1 z.2) (0, μ4))
theorem q_X3_placeTexts_38 {L : Nat} {xs : Nat → Int32} {d : Nat} {μ : bM} {t : Nat} {s : Nat} {v3 : Int} {v4 : Int} {κ : ((Int × bM) ⊕ ((Int × bM) ⊕ (Int × bM))) → Option bX} (hr : ∀ r : Int × bM, κ (.inr (.inr r)) = (bMc) r) (H19 : ∀ (v3 : Int) (μ : bM), bR v3 → bD L xs (d + 4) 32 19 [(0, .ref 13), (1, .ref t), (2, .ref s), (3, bI v3)] [] μ (κ (.inr (.inl (v3, μ))))) (H38 : ∀ (v5 : Int) (μ : bM), bR v5 → bD L xs (d + 4) 32 38 [(0, .ref 13), (1, .ref t), (2, .ref s), (3, bI v3), (4, bI v4), (5, bI v5)] [] μ (κ (.inl (v5, μ)))) (ht : bTree t) (hs : bStore s) (h3 : bR v3) (h4 : bR v4) {v5 : Int} (h5 : bR v5) : bD L xs (d + 4) 32 38 [(0, .ref 13), (1, .ref t), (2, .ref s), (3, bI v3), (4, bI v4), (5, bI v5)] [] μ ((F_X3_placeTexts_38 t s v3 v4 v5 μ).bind κ) := by
  unfold F_X3_placeTexts_38
  refine bD.ok fun hk => ?_
  refine b_s (pc' := 40) (lv1 := [(0, .ref 13), (1, .ref t), (2, .ref s), (3, bI v3), (4, bI v4), (5, bI v5)]) (st' := [bI v5]) l32_38 (fun _ => rfl) ?_
  refine b_s (pc' := 41) (lv1 := [(0, .ref 13), (1, .ref t), (2, .ref s), (3, bI v3), (4, bI v4), (5, bI v5)]) (st' := [.ref t, bI v5]) l32_40 (fun _ => rfl) ?_
  refine b_gp (q' := (t + 10)) (j := 10) l32_41 ht (by decide) (by decide) rfl hk rfl rfl (b_pc (pc' := 44) rfl ?_)
  refine b_s (pc' := 46) (lv1 := [(0, .ref 13), (1, .ref t), (2, .ref s), (3, bI v3), (4, bI v4), (5, bI v5)]) (st' := [bI v4, .ref (t + 10), bI v5]) l32_44 (fun _ => rfl) ?_
  refine b_g fun g11 => ?_
  refine b_ial l32_46 (bTree_e ht 10 (by decide)) g11 (b_pc (pc' := 47) rfl ?_)
  refine b_ige (pt := 85) l32_47 h5 (bO_i hk (bTree_e ht 10 (by decide))) (by decide) rfl (fun c1 => ?_) (fun c1 => b_pc (pc' := 50) rfl ?_)
  · refine b_inc (lv' := [(0, .ref 13), (1, .ref t), (2, .ref s), (3, bI (v3 + 1))]) l32_85 rfl (by decide +kernel) (bSb rfl (bSb rfl (bSb rfl (bSb rfl bSn)))) fun g2 => (b_pc (pc' := 88) rfl ?_)
    refine b_s (pc' := 19) (lv1 := [(0, .ref 13), (1, .ref t), (2, .ref s), (3, bI (v3 + 1))]) (st' := []) l32_88 (fun _ => rfl) ?_
    refine bD.wk (lv' := [(0, .ref 13), (1, .ref t), (2, .ref s), (3, bI (v3 + 1))]) (bSb rfl (bSb rfl (bSb rfl (bSb rfl bSn)))) ?_
    exact H19 (v3 + 1) μ g2
  · refine b_s (pc' := 52) (lv1 := [(0, .ref 13), (1, .ref t), (2, .ref s), (3, bI v3), (4, bI v4), (5, bI v5)]) (st' := [bI v4]) l32_50 (fun _ => rfl) ?_
    refine b_s (pc' := 54) (lv1 := [(0, .ref 13), (1, .ref t), (2, .ref s), (3, bI v3), (4, bI v4), (5, bI v5)]) (st' := [bI v5, bI v4]) l32_52 (fun _ => rfl) ?_
    refine b_cPi l32_54 rfl (fun _ => trivial) (Nat.le_of_ble_eq_true rfl) (Nat.le_of_ble_eq_true rfl) rfl (r_X8_slotAt v4 h4 v5 h5) fun w3 hw3 => b_pc (pc' := 57) rfl ?_
    refine b_w (pc' := 59) (lv1 := ax_st1 [(0, .ref 13), (1, .ref t), (2, .ref s), (3, bI v3), (4, bI v4), (5, bI v5)] 6 (bI w3)) (lv' := [(0, .ref 13), (1, .ref t), (2, .ref s), (3, bI v3), (4, bI v4), (5, bI v5), (6, bI w3)]) (st' := []) l32_57 (fun _ => rfl) (bSb rfl (bSb rfl (bSb rfl (bSb rfl (bSb rfl (bSb rfl (bSb rfl bSn))))))) ?_
    refine b_s (pc' := 60) (lv1 := [(0, .ref 13), (1, .ref t), (2, .ref s), (3, bI v3), (4, bI v4), (5, bI v5), (6, bI w3)]) (st' := [.ref t]) l32_59 (fun _ => rfl) ?_
    refine b_gp (q' := (t + 12)) (j := 12) l32_60 ht (by decide) (by decide) rfl hk rfl rfl (b_pc (pc' := 63) rfl ?_)
    refine b_s (pc' := 65) (lv1 := [(0, .ref 13), (1, .ref t), (2, .ref s), (3, bI v3), (4, bI v4), (5, bI v5), (6, bI w3)]) (st' := [bI w3, .ref (t + 12)]) l32_63 (fun _ => rfl) ?_
    refine b_g fun g10 => ?_
    refine b_ial l32_65 (bTree_f ht) g10 (b_pc (pc' := 66) rfl ?_)
    refine b_bipush l32_66 (by decide) (b_pc (pc' := 68) rfl ?_)
    refine b_ine (pt := 79) l32_68 (bO_i hk (bTree_f ht)) (by decide) (by decide) rfl (fun c4 => ?_) (fun c4 => b_pc (pc' := 71) rfl ?_)
    · refine b_inc (lv' := [(0, .ref 13), (1, .ref t), (2, .ref s), (3, bI v3), (4, bI v4), (5, bI (v5 + 1))]) l32_79 rfl (by decide +kernel) (bSb rfl (bSb rfl (bSb rfl (bSb rfl (bSb rfl (bSb rfl bSn)))))) fun g5 => (b_pc (pc' := 82) rfl ?_)
      refine b_s (pc' := 38) (lv1 := [(0, .ref 13), (1, .ref t), (2, .ref s), (3, bI v3), (4, bI v4), (5, bI (v5 + 1))]) (st' := []) l32_82 (fun _ => rfl) ?_
      refine bD.wk (lv' := [(0, .ref 13), (1, .ref t), (2, .ref s), (3, bI v3), (4, bI v4), (5, bI (v5 + 1))]) (bSb rfl (bSb rfl (bSb rfl (bSb rfl (bSb rfl (bSb rfl bSn)))))) ?_
      exact H38 (v5 + 1) μ g5
    · refine b_s (pc' := 72) (lv1 := [(0, .ref 13), (1, .ref t), (2, .ref s), (3, bI v3), (4, bI v4), (5, bI v5), (6, bI w3)]) (st' := [.ref 13]) l32_71 (fun _ => rfl) ?_
      refine b_s (pc' := 73) (lv1 := [(0, .ref 13), (1, .ref t), (2, .ref s), (3, bI v3), (4, bI v4), (5, bI v5), (6, bI w3)]) (st' := [.ref t, .ref 13]) l32_72 (fun _ => rfl) ?_
      refine b_s (pc' := 74) (lv1 := [(0, .ref 13), (1, .ref t), (2, .ref s), (3, bI v3), (4, bI v4), (5, bI v5), (6, bI w3)]) (st' := [.ref s, .ref t, .ref 13]) l32_73 (fun _ => rfl) ?_
      refine b_s (pc' := 76) (lv1 := [(0, .ref 13), (1, .ref t), (2, .ref s), (3, bI v3), (4, bI v4), (5, bI v5), (6, bI w3)]) (st' := [bI w3, .ref s, .ref t, .ref 13]) l32_74 (fun _ => rfl) ?_
      refine b_cMv l32_76 rfl (b_rc (ci := 2) (by rfl) (by decide) (by decide +kernel)) (Nat.le_of_ble_eq_true rfl) (Nat.le_of_ble_eq_true rfl) rfl (r_X3_placeText t ht s hs w3 hw3) fun w6 μ7 hw6 => bD.ok fun hk8 => b_pc (pc' := 79) rfl ?_
      refine b_inc (lv' := [(0, .ref 13), (1, .ref t), (2, .ref s), (3, bI v3), (4, bI v4), (5, bI (v5 + 1))]) l32_79 rfl (by decide +kernel) (bSb rfl (bSb rfl (bSb rfl (bSb rfl (bSb rfl (bSb rfl bSn)))))) fun g9 => (b_pc (pc' := 82) rfl ?_)
      refine b_s (pc' := 38) (lv1 := [(0, .ref 13), (1, .ref t), (2, .ref s), (3, bI v3), (4, bI v4), (5, bI (v5 + 1))]) (st' := []) l32_82 (fun _ => rfl) ?_
      refine bD.wk (lv' := [(0, .ref 13), (1, .ref t), (2, .ref s), (3, bI v3), (4, bI v4), (5, bI (v5 + 1))]) (bSb rfl (bSb rfl (bSb rfl (bSb rfl (bSb rfl (bSb rfl bSn)))))) ?_
      exact H38 (v5 + 1) μ7 g9
theorem p_X3_placeTexts_38 {L : Nat} {xs : Nat → Int32} {d : Nat} {μ : bM} {t : Nat} {s : Nat} {κ : ((Int × bM) ⊕ (Int × bM)) → Option bX} (hr : ∀ r : Int × bM, κ (.inr r) = (bMc) r) (H19 : ∀ (v3 : Int) (μ : bM), bR v3 → bD L xs (d + 4) 32 19 [(0, .ref 13), (1, .ref t), (2, .ref s), (3, bI v3)] [] μ (κ (.inl (v3, μ)))) (ht : bTree t) (hs : bStore s) {v3 : Int} (h3 : bR v3) {v4 : Int} (h4 : bR v4) {v5 : Int} (h5 : bR v5) : bD L xs (d + 4) 32 38 [(0, .ref 13), (1, .ref t), (2, .ref s), (3, bI v3), (4, bI v4), (5, bI v5)] [] μ ((bLoop (fun z => F_X3_placeTexts_38 t s v3 v4 z.1 z.2) (v5, μ)).bind κ) :=
  b_loop (fun z => [(0, .ref 13), (1, .ref t), (2, .ref s), (3, bI v3), (4, bI v4), (5, bI z.1)]) (fun z => z.2) (fun z => bR z.1) (fun κ' hκ HH z hz => q_X3_placeTexts_38 (κ := κ') (fun r => (hκ _).trans (hr r)) (fun a3 am b3 => b_eq (hκ _) (H19 a3 am b3)) (fun a5 am b5 => HH (a5, am) b5) ht hs h3 h4 hz) (v5, μ) h5
theorem q_X3_placeTexts_19 {L : Nat} {xs : Nat → Int32} {d : Nat} {μ : bM} {t : Nat} {s : Nat} {κ : ((Int × bM) ⊕ (Int × bM)) → Option bX} (hr : ∀ r : Int × bM, κ (.inr r) = (bMc) r) (H19 : ∀ (v3 : Int) (μ : bM), bR v3 → bD L xs (d + 4) 32 19 [(0, .ref 13), (1, .ref t), (2, .ref s), (3, bI v3)] [] μ (κ (.inl (v3, μ)))) (ht : bTree t) (hs : bStore s) {v3 : Int} (h3 : bR v3) : bD L xs (d + 4) 32 19 [(0, .ref 13), (1, .ref t), (2, .ref s), (3, bI v3)] [] μ ((F_X3_placeTexts_19 t s v3 μ).bind κ) := by
  unfold F_X3_placeTexts_19
  refine bD.ok fun hk => ?_
  refine b_s (pc' := 20) (lv1 := [(0, .ref 13), (1, .ref t), (2, .ref s), (3, bI v3)]) (st' := [bI v3]) l32_19 (fun _ => rfl) ?_
  refine b_s (pc' := 21) (lv1 := [(0, .ref 13), (1, .ref t), (2, .ref s), (3, bI v3)]) (st' := [.ref 13, bI v3]) l32_20 (fun _ => rfl) ?_
  refine b_gi l32_21 (by rfl) (by decide) (by decide) rfl (b_pc (pc' := 24) rfl ?_)
  refine b_ige (pt := 91) l32_24 h3 (bO_f hk (ci := 2) (by rfl) rfl) (by decide) rfl (fun c1 => ?_) (fun c1 => b_pc (pc' := 27) rfl ?_)
  · exact b_retv l32_91 rfl (hr _)
  · refine b_s (pc' := 28) (lv1 := [(0, .ref 13), (1, .ref t), (2, .ref s), (3, bI v3)]) (st' := [.ref 13]) l32_27 (fun _ => rfl) ?_
    refine b_gp (q' := 14) (j := 1) l32_28 (by rfl) (by decide) (by decide) rfl hk rfl rfl (b_pc (pc' := 31) rfl ?_)
    refine b_s (pc' := 32) (lv1 := [(0, .ref 13), (1, .ref t), (2, .ref s), (3, bI v3)]) (st' := [bI v3, .ref 14]) l32_31 (fun _ => rfl) ?_
    refine b_g fun g2 => ?_
    refine b_ial l32_32 (by rfl) g2 (b_pc (pc' := 33) rfl ?_)
    refine b_w (pc' := 35) (lv1 := ax_st1 [(0, .ref 13), (1, .ref t), (2, .ref s), (3, bI v3)] 4 (bI (μ 14 v3.toNat))) (lv' := [(0, .ref 13), (1, .ref t), (2, .ref s), (3, bI v3), (4, bI (μ 14 v3.toNat))]) (st' := []) l32_33 (fun _ => rfl) (bSb rfl (bSb rfl (bSb rfl (bSb rfl (bSb rfl bSn))))) ?_
    refine b_s (pc' := 36) (lv1 := [(0, .ref 13), (1, .ref t), (2, .ref s), (3, bI v3), (4, bI (μ 14 v3.toNat))]) (st' := [bI 0]) l32_35 (fun _ => rfl) ?_
    refine b_w (pc' := 38) (lv1 := ax_st1 [(0, .ref 13), (1, .ref t), (2, .ref s), (3, bI v3), (4, bI (μ 14 v3.toNat))] 5 (bI 0)) (lv' := [(0, .ref 13), (1, .ref t), (2, .ref s), (3, bI v3), (4, bI (μ 14 v3.toNat)), (5, bI 0)]) (st' := []) l32_36 (fun _ => rfl) (bSb rfl (bSb rfl (bSb rfl (bSb rfl (bSb rfl (bSb rfl bSn)))))) ?_
    refine bD.wk (lv' := [(0, .ref 13), (1, .ref t), (2, .ref s), (3, bI v3), (4, bI (μ 14 v3.toNat)), (5, bI 0)]) (bSb rfl (bSb rfl (bSb rfl (bSb rfl (bSb rfl (bSb rfl bSn)))))) ?_
    exact p_X3_placeTexts_38 hr H19 ht hs h3 (bO_i hk (by rfl)) (by decide)
theorem p_X3_placeTexts_19 {L : Nat} {xs : Nat → Int32} {d : Nat} {μ : bM} {t : Nat} {s : Nat} {κ : (Int × bM) → Option bX} (hr : ∀ r : Int × bM, κ r = (bMc) r) (ht : bTree t) (hs : bStore s) {v3 : Int} (h3 : bR v3) : bD L xs (d + 4) 32 19 [(0, .ref 13), (1, .ref t), (2, .ref s), (3, bI v3)] [] μ ((bLoop (fun z => F_X3_placeTexts_19 t s z.1 z.2) (v3, μ)).bind κ) :=
  b_loop (fun z => [(0, .ref 13), (1, .ref t), (2, .ref s), (3, bI z.1)]) (fun z => z.2) (fun z => bR z.1) (fun κ' hκ HH z hz => q_X3_placeTexts_19 (κ := κ') (fun r => (hκ _).trans (hr r)) (fun a3 am b3 => HH (a3, am) b3) ht hs hz) (v3, μ) h3
theorem r_X3_placeTexts {L : Nat} {xs : Nat → Int32} {d : Nat} {μ : bM} (t : Nat) (ht : bTree t) (s : Nat) (hs : bStore s)  : bD L xs (d + 4) 32 0 [(0, .ref 13), (1, .ref t), (2, .ref s)] [] μ ((F_X3_placeTexts t s μ).bind (bMc)) := by
  have hr : ∀ r, (bMc) r = (bMc) r := fun _ => rfl
  unfold F_X3_placeTexts
  refine bD.ok fun hk => ?_
  refine b_s (pc' := 1) (lv1 := [(0, .ref 13), (1, .ref t), (2, .ref s)]) (st' := [.ref 13]) l32_0 (fun _ => rfl) ?_
  refine b_s (pc' := 2) (lv1 := [(0, .ref 13), (1, .ref t), (2, .ref s)]) (st' := [bI 0, .ref 13]) l32_1 (fun _ => rfl) ?_
  refine b_pi l32_2 (by rfl) (by decide) (by decide) rfl rfl (by decide) (bD.ok fun hk1 => b_pc (pc' := 5) rfl ?_)
  refine b_s (pc' := 6) (lv1 := [(0, .ref 13), (1, .ref t), (2, .ref s)]) (st' := [.ref 13]) l32_5 (fun _ => rfl) ?_
  refine b_s (pc' := 7) (lv1 := [(0, .ref 13), (1, .ref t), (2, .ref s)]) (st' := [bI 0, .ref 13]) l32_6 (fun _ => rfl) ?_
  refine b_pi l32_7 (by rfl) (by decide) (by decide) rfl rfl (by decide) (bD.ok fun hk2 => b_pc (pc' := 10) rfl ?_)
  refine b_s (pc' := 11) (lv1 := [(0, .ref 13), (1, .ref t), (2, .ref s)]) (st' := [.ref 13]) l32_10 (fun _ => rfl) ?_
  refine b_gp (q' := 27) (j := 14) l32_11 (by rfl) (by decide) (by decide) rfl hk2 rfl rfl (b_pc (pc' := 14) rfl ?_)
  refine b_cMv l32_14 rfl (b_rc (ci := 0) (by rfl) (by decide) (by decide +kernel)) (Nat.le_of_ble_eq_true rfl) (Nat.le_of_ble_eq_true rfl) rfl (r_X0_forget 27 (by rfl)) fun w3 μ4 hw3 => bD.ok fun hk5 => b_pc (pc' := 17) rfl ?_
  refine b_s (pc' := 18) (lv1 := [(0, .ref 13), (1, .ref t), (2, .ref s)]) (st' := [bI 0]) l32_17 (fun _ => rfl) ?_
  refine b_w (pc' := 19) (lv1 := ax_st1 [(0, .ref 13), (1, .ref t), (2, .ref s)] 3 (bI 0)) (lv' := [(0, .ref 13), (1, .ref t), (2, .ref s), (3, bI 0)]) (st' := []) l32_18 (fun _ => rfl) (bSb rfl (bSb rfl (bSb rfl (bSb rfl bSn)))) ?_
  refine bD.wk (lv' := [(0, .ref 13), (1, .ref t), (2, .ref s), (3, bI 0)]) (bSb rfl (bSb rfl (bSb rfl (bSb rfl bSn)))) ?_
  exact p_X3_placeTexts_19 hr ht hs (by decide)
/-! ET$Layout.referenceRowBytes -/
theorem l37_0 : (ax_dt (ax_T 37)).lookup 0 = some (.iconst 0, 1, 0, 0, 0) := by decide +kernel
theorem l37_1 : (ax_dt (ax_T 37)).lookup 1 = some (.istore_n 3, 1, 0, 0, 0) := by decide +kernel
theorem l37_2 : (ax_dt (ax_T 37)).lookup 2 = some (.iconst 0, 1, 0, 0, 0) := by decide +kernel
theorem l37_3 : (ax_dt (ax_T 37)).lookup 3 = some (.istore 4, 2, 0, 0, 0) := by decide +kernel
theorem l37_5 : (ax_dt (ax_T 37)).lookup 5 = some (.iload 4, 2, 0, 0, 0) := by decide +kernel
theorem l37_7 : (ax_dt (ax_T 37)).lookup 7 = some (.aload_n 1, 1, 0, 0, 0) := by decide +kernel
theorem l37_8 : (ax_dt (ax_T 37)).lookup 8 = some (.getfield 143, 3, 7, 11, 0) := by decide +kernel
theorem l37_11 : (ax_dt (ax_T 37)).lookup 11 = some (.iload_n 2, 1, 0, 0, 0) := by decide +kernel
theorem l37_12 : (ax_dt (ax_T 37)).lookup 12 = some (.iaload, 1, 0, 0, 0) := by decide +kernel
theorem l37_13 : (ax_dt (ax_T 37)).lookup 13 = some (.if_icmp .ge 49, 3, 0, 0, 0) := by decide +kernel
theorem l37_16 : (ax_dt (ax_T 37)).lookup 16 = some (.iload_n 2, 1, 0, 0, 0) := by decide +kernel
theorem l37_17 : (ax_dt (ax_T 37)).lookup 17 = some (.iload 4, 2, 0, 0, 0) := by decide +kernel
theorem l37_19 : (ax_dt (ax_T 37)).lookup 19 = some (.invokestatic 146, 3, 77, 2, 0) := by decide +kernel
theorem l37_22 : (ax_dt (ax_T 37)).lookup 22 = some (.istore 5, 2, 0, 0, 0) := by decide +kernel
theorem l37_24 : (ax_dt (ax_T 37)).lookup 24 = some (.aload_n 1, 1, 0, 0, 0) := by decide +kernel
theorem l37_25 : (ax_dt (ax_T 37)).lookup 25 = some (.getfield 153, 3, 7, 13, 0) := by decide +kernel
theorem l37_28 : (ax_dt (ax_T 37)).lookup 28 = some (.iload 5, 2, 0, 0, 0) := by decide +kernel
theorem l37_30 : (ax_dt (ax_T 37)).lookup 30 = some (.iaload, 1, 0, 0, 0) := by decide +kernel
theorem l37_31 : (ax_dt (ax_T 37)).lookup 31 = some (.bipush 21, 2, 0, 0, 0) := by decide +kernel
theorem l37_33 : (ax_dt (ax_T 37)).lookup 33 = some (.if_icmp .ne 23, 3, 0, 0, 0) := by decide +kernel
theorem l37_36 : (ax_dt (ax_T 37)).lookup 36 = some (.iload_n 3, 1, 0, 0, 0) := by decide +kernel
theorem l37_37 : (ax_dt (ax_T 37)).lookup 37 = some (.aload_n 0, 1, 0, 0, 0) := by decide +kernel
theorem l37_38 : (ax_dt (ax_T 37)).lookup 38 = some (.getfield 27, 3, 2, 12, 0) := by decide +kernel
theorem l37_41 : (ax_dt (ax_T 37)).lookup 41 = some (.aload_n 1, 1, 0, 0, 0) := by decide +kernel
theorem l37_42 : (ax_dt (ax_T 37)).lookup 42 = some (.getfield 204, 3, 7, 14, 0) := by decide +kernel
theorem l37_45 : (ax_dt (ax_T 37)).lookup 45 = some (.iload 5, 2, 0, 0, 0) := by decide +kernel
theorem l37_47 : (ax_dt (ax_T 37)).lookup 47 = some (.laload, 1, 0, 0, 0) := by decide +kernel
theorem l37_48 : (ax_dt (ax_T 37)).lookup 48 = some (.l2i, 1, 0, 0, 0) := by decide +kernel
theorem l37_49 : (ax_dt (ax_T 37)).lookup 49 = some (.iaload, 1, 0, 0, 0) := by decide +kernel
theorem l37_50 : (ax_dt (ax_T 37)).lookup 50 = some (.i2l, 1, 0, 0, 0) := by decide +kernel
theorem l37_51 : (ax_dt (ax_T 37)).lookup 51 = some (.invokestatic 156, 3, 68, 1, 0) := by decide +kernel
theorem l37_54 : (ax_dt (ax_T 37)).lookup 54 = some (.iadd, 1, 0, 0, 0) := by decide +kernel
theorem l37_55 : (ax_dt (ax_T 37)).lookup 55 = some (.istore_n 3, 1, 0, 0, 0) := by decide +kernel
theorem l37_56 : (ax_dt (ax_T 37)).lookup 56 = some (.iinc 4 1, 3, 0, 0, 0) := by decide +kernel
theorem l37_59 : (ax_dt (ax_T 37)).lookup 59 = some (.goto (-54), 3, 0, 0, 0) := by decide +kernel
theorem l37_62 : (ax_dt (ax_T 37)).lookup 62 = some (.iload_n 3, 1, 0, 0, 0) := by decide +kernel
theorem l37_63 : (ax_dt (ax_T 37)).lookup 63 = some (.ireturn, 1, 0, 0, 0) := by decide +kernel
noncomputable def F_X3_referenceRowBytes_5 (t : Nat) (v2 : Int) (μ : bM) (v3 : Int) (v4 : Int) : Option ((Int × Int) ⊕ (Int)) := bG (0 ≤ v2 ∧ v2 < 400) (if (μ (t + 10) v2.toNat) ≤ v4 then some (.inr (v3)) else (F_X8_slotAt v2 v4 μ).bind fun w2 => bG (0 ≤ w2 ∧ w2 < 3200) (if ¬ (μ (t + 12) w2.toNat) = 21 then bG (bR (v4 + 1)) (some (.inl (v3, (v4 + 1)))) else bG (0 ≤ w2 ∧ w2 < 3200) (bG (0 ≤ (b32 (μ (t + 13) w2.toNat)) ∧ (b32 (μ (t + 13) w2.toNat)) < 400) ((F_X6_rowSize (μ 19 (b32 (μ (t + 13) w2.toNat)).toNat) μ).bind fun w5 => bG (bR (v3 + w5)) (bG (bR (v4 + 1)) (some (.inl ((v3 + w5), (v4 + 1)))))))))
noncomputable def F_X3_referenceRowBytes (t : Nat) (v2 : Int) (μ : bM) : Option (Int) := bLoop (fun z => F_X3_referenceRowBytes_5 t v2 μ z.1 z.2) (0, 0)
theorem q_X3_referenceRowBytes_5 {L : Nat} {xs : Nat → Int32} {d : Nat} {μ : bM} {t : Nat} {v2 : Int} {κ : ((Int × Int) ⊕ (Int)) → Option bX} (hr : ∀ r : Int, κ (.inr r) = (bPc μ) r) (H5 : ∀ (v3 : Int) (v4 : Int), bR v3 → bR v4 → bD L xs (d + 1) 37 5 [(0, .ref 13), (1, .ref t), (2, bI v2), (3, bI v3), (4, bI v4)] [] μ (κ (.inl (v3, v4)))) (ht : bTree t) (h2 : bR v2) {v3 : Int} (h3 : bR v3) {v4 : Int} (h4 : bR v4) : bD L xs (d + 1) 37 5 [(0, .ref 13), (1, .ref t), (2, bI v2), (3, bI v3), (4, bI v4)] [] μ ((F_X3_referenceRowBytes_5 t v2 μ v3 v4).bind κ) := by
  unfold F_X3_referenceRowBytes_5
  refine bD.ok fun hk => ?_
  refine b_s (pc' := 7) (lv1 := [(0, .ref 13), (1, .ref t), (2, bI v2), (3, bI v3), (4, bI v4)]) (st' := [bI v4]) l37_5 (fun _ => rfl) ?_
  refine b_s (pc' := 8) (lv1 := [(0, .ref 13), (1, .ref t), (2, bI v2), (3, bI v3), (4, bI v4)]) (st' := [.ref t, bI v4]) l37_7 (fun _ => rfl) ?_
  refine b_gp (q' := (t + 10)) (j := 10) l37_8 ht (by decide) (by decide) rfl hk rfl rfl (b_pc (pc' := 11) rfl ?_)
  refine b_s (pc' := 12) (lv1 := [(0, .ref 13), (1, .ref t), (2, bI v2), (3, bI v3), (4, bI v4)]) (st' := [bI v2, .ref (t + 10), bI v4]) l37_11 (fun _ => rfl) ?_
  refine b_g fun g11 => ?_
  refine b_ial l37_12 (bTree_e ht 10 (by decide)) g11 (b_pc (pc' := 13) rfl ?_)
  refine b_ige (pt := 62) l37_13 h4 (bO_i hk (bTree_e ht 10 (by decide))) (by decide) rfl (fun c1 => ?_) (fun c1 => b_pc (pc' := 16) rfl ?_)
  · refine b_s (pc' := 63) (lv1 := [(0, .ref 13), (1, .ref t), (2, bI v2), (3, bI v3), (4, bI v4)]) (st' := [bI v3]) l37_62 (fun _ => rfl) ?_
    exact b_reti l37_63 rfl h3 (hr _)
  · refine b_s (pc' := 17) (lv1 := [(0, .ref 13), (1, .ref t), (2, bI v2), (3, bI v3), (4, bI v4)]) (st' := [bI v2]) l37_16 (fun _ => rfl) ?_
    refine b_s (pc' := 19) (lv1 := [(0, .ref 13), (1, .ref t), (2, bI v2), (3, bI v3), (4, bI v4)]) (st' := [bI v4, bI v2]) l37_17 (fun _ => rfl) ?_
    refine b_cPi l37_19 rfl (fun _ => trivial) (Nat.le_of_ble_eq_true rfl) (Nat.le_of_ble_eq_true rfl) rfl (r_X8_slotAt v2 h2 v4 h4) fun w2 hw2 => b_pc (pc' := 22) rfl ?_
    refine b_w (pc' := 24) (lv1 := ax_st1 [(0, .ref 13), (1, .ref t), (2, bI v2), (3, bI v3), (4, bI v4)] 5 (bI w2)) (lv' := [(0, .ref 13), (1, .ref t), (2, bI v2), (3, bI v3), (4, bI v4), (5, bI w2)]) (st' := []) l37_22 (fun _ => rfl) (bSb rfl (bSb rfl (bSb rfl (bSb rfl (bSb rfl (bSb rfl bSn)))))) ?_
    refine b_s (pc' := 25) (lv1 := [(0, .ref 13), (1, .ref t), (2, bI v2), (3, bI v3), (4, bI v4), (5, bI w2)]) (st' := [.ref t]) l37_24 (fun _ => rfl) ?_
    refine b_gp (q' := (t + 12)) (j := 12) l37_25 ht (by decide) (by decide) rfl hk rfl rfl (b_pc (pc' := 28) rfl ?_)
    refine b_s (pc' := 30) (lv1 := [(0, .ref 13), (1, .ref t), (2, bI v2), (3, bI v3), (4, bI v4), (5, bI w2)]) (st' := [bI w2, .ref (t + 12)]) l37_28 (fun _ => rfl) ?_
    refine b_g fun g10 => ?_
    refine b_ial l37_30 (bTree_f ht) g10 (b_pc (pc' := 31) rfl ?_)
    refine b_bipush l37_31 (by decide) (b_pc (pc' := 33) rfl ?_)
    refine b_ine (pt := 56) l37_33 (bO_i hk (bTree_f ht)) (by decide) (by decide) rfl (fun c3 => ?_) (fun c3 => b_pc (pc' := 36) rfl ?_)
    · refine b_inc (lv' := [(0, .ref 13), (1, .ref t), (2, bI v2), (3, bI v3), (4, bI (v4 + 1))]) l37_56 rfl (by decide +kernel) (bSb rfl (bSb rfl (bSb rfl (bSb rfl (bSb rfl bSn))))) fun g4 => (b_pc (pc' := 59) rfl ?_)
      refine b_s (pc' := 5) (lv1 := [(0, .ref 13), (1, .ref t), (2, bI v2), (3, bI v3), (4, bI (v4 + 1))]) (st' := []) l37_59 (fun _ => rfl) ?_
      refine bD.wk (lv' := [(0, .ref 13), (1, .ref t), (2, bI v2), (3, bI v3), (4, bI (v4 + 1))]) (bSb rfl (bSb rfl (bSb rfl (bSb rfl (bSb rfl bSn))))) ?_
      exact H5 v3 (v4 + 1) h3 g4
    · refine b_s (pc' := 37) (lv1 := [(0, .ref 13), (1, .ref t), (2, bI v2), (3, bI v3), (4, bI v4), (5, bI w2)]) (st' := [bI v3]) l37_36 (fun _ => rfl) ?_
      refine b_s (pc' := 38) (lv1 := [(0, .ref 13), (1, .ref t), (2, bI v2), (3, bI v3), (4, bI v4), (5, bI w2)]) (st' := [.ref 13, bI v3]) l37_37 (fun _ => rfl) ?_
      refine b_gp (q' := 19) (j := 6) l37_38 (by rfl) (by decide) (by decide) rfl hk rfl rfl (b_pc (pc' := 41) rfl ?_)
      refine b_s (pc' := 42) (lv1 := [(0, .ref 13), (1, .ref t), (2, bI v2), (3, bI v3), (4, bI v4), (5, bI w2)]) (st' := [.ref t, .ref 19, bI v3]) l37_41 (fun _ => rfl) ?_
      refine b_gp (q' := (t + 13)) (j := 13) l37_42 ht (by decide) (by decide) rfl hk rfl rfl (b_pc (pc' := 45) rfl ?_)
      refine b_s (pc' := 47) (lv1 := [(0, .ref 13), (1, .ref t), (2, bI v2), (3, bI v3), (4, bI v4), (5, bI w2)]) (st' := [bI w2, .ref (t + 13), .ref 19, bI v3]) l37_45 (fun _ => rfl) ?_
      refine b_g fun g9 => ?_
      refine b_lal l37_47 (bTree_v ht) g9 (b_pc (pc' := 48) rfl ?_)
      refine b_l2i l37_48 (b_pc (pc' := 49) rfl ?_)
      refine b_g fun g8 => ?_
      refine b_ial l37_49 (by rfl) g8 (b_pc (pc' := 50) rfl ?_)
      refine b_i2l l37_50 (bO_i hk (by rfl)) (b_pc (pc' := 51) rfl ?_)
      refine b_cPi l37_51 rfl (fun _ => trivial) (Nat.le_of_ble_eq_true rfl) (Nat.le_of_ble_eq_true rfl) rfl (r_X6_rowSize (μ 19 (b32 (μ (t + 13) w2.toNat)).toNat) (bR_L (bO_i hk (by rfl)))) fun w5 hw5 => b_pc (pc' := 54) rfl ?_
      refine b_iadd l37_54 fun g6 => (b_pc (pc' := 55) rfl ?_)
      refine b_w (pc' := 56) (lv1 := ax_st1 [(0, .ref 13), (1, .ref t), (2, bI v2), (3, bI v3), (4, bI v4), (5, bI w2)] 3 (bI (v3 + w5))) (lv' := [(0, .ref 13), (1, .ref t), (2, bI v2), (3, bI (v3 + w5)), (4, bI v4)]) (st' := []) l37_55 (fun _ => rfl) (bSb rfl (bSb rfl (bSb rfl (bSb rfl (bSb rfl bSn))))) ?_
      refine b_inc (lv' := [(0, .ref 13), (1, .ref t), (2, bI v2), (3, bI (v3 + w5)), (4, bI (v4 + 1))]) l37_56 rfl (by decide +kernel) (bSb rfl (bSb rfl (bSb rfl (bSb rfl (bSb rfl bSn))))) fun g7 => (b_pc (pc' := 59) rfl ?_)
      refine b_s (pc' := 5) (lv1 := [(0, .ref 13), (1, .ref t), (2, bI v2), (3, bI (v3 + w5)), (4, bI (v4 + 1))]) (st' := []) l37_59 (fun _ => rfl) ?_
      refine bD.wk (lv' := [(0, .ref 13), (1, .ref t), (2, bI v2), (3, bI (v3 + w5)), (4, bI (v4 + 1))]) (bSb rfl (bSb rfl (bSb rfl (bSb rfl (bSb rfl bSn))))) ?_
      exact H5 (v3 + w5) (v4 + 1) g6 g7
theorem p_X3_referenceRowBytes_5 {L : Nat} {xs : Nat → Int32} {d : Nat} {μ : bM} {t : Nat} {κ : (Int) → Option bX} (hr : ∀ r : Int, κ r = (bPc μ) r) (ht : bTree t) {v2 : Int} (h2 : bR v2) {v3 : Int} (h3 : bR v3) {v4 : Int} (h4 : bR v4) : bD L xs (d + 1) 37 5 [(0, .ref 13), (1, .ref t), (2, bI v2), (3, bI v3), (4, bI v4)] [] μ ((bLoop (fun z => F_X3_referenceRowBytes_5 t v2 μ z.1 z.2) (v3, v4)).bind κ) :=
  b_loop (fun z => [(0, .ref 13), (1, .ref t), (2, bI v2), (3, bI z.1), (4, bI z.2)]) (fun z => μ) (fun z => bR z.1 ∧ bR z.2) (fun κ' hκ HH z hz => q_X3_referenceRowBytes_5 (κ := κ') (fun r => (hκ _).trans (hr r)) (fun a3 a4 b3 b4 => HH (a3, a4) ⟨b3, b4⟩) ht h2 hz.1 hz.2) (v3, v4) ⟨h3, h4⟩
theorem r_X3_referenceRowBytes {L : Nat} {xs : Nat → Int32} {d : Nat} {μ : bM} (t : Nat) (ht : bTree t) (v2 : Int) (h2 : bR v2) : bD L xs (d + 1) 37 0 [(0, .ref 13), (1, .ref t), (2, bI v2)] [] μ ((F_X3_referenceRowBytes t v2 μ).bind (bPc μ)) := by
  have hr : ∀ r, (bPc μ) r = (bPc μ) r := fun _ => rfl
  unfold F_X3_referenceRowBytes
  refine bD.ok fun hk => ?_
  refine b_s (pc' := 1) (lv1 := [(0, .ref 13), (1, .ref t), (2, bI v2)]) (st' := [bI 0]) l37_0 (fun _ => rfl) ?_
  refine b_w (pc' := 2) (lv1 := ax_st1 [(0, .ref 13), (1, .ref t), (2, bI v2)] 3 (bI 0)) (lv' := [(0, .ref 13), (1, .ref t), (2, bI v2), (3, bI 0)]) (st' := []) l37_1 (fun _ => rfl) (bSb rfl (bSb rfl (bSb rfl (bSb rfl bSn)))) ?_
  refine b_s (pc' := 3) (lv1 := [(0, .ref 13), (1, .ref t), (2, bI v2), (3, bI 0)]) (st' := [bI 0]) l37_2 (fun _ => rfl) ?_
  refine b_w (pc' := 5) (lv1 := ax_st1 [(0, .ref 13), (1, .ref t), (2, bI v2), (3, bI 0)] 4 (bI 0)) (lv' := [(0, .ref 13), (1, .ref t), (2, bI v2), (3, bI 0), (4, bI 0)]) (st' := []) l37_3 (fun _ => rfl) (bSb rfl (bSb rfl (bSb rfl (bSb rfl (bSb rfl bSn))))) ?_
  refine bD.wk (lv' := [(0, .ref 13), (1, .ref t), (2, bI v2), (3, bI 0), (4, bI 0)]) (bSb rfl (bSb rfl (bSb rfl (bSb rfl (bSb rfl bSn))))) ?_
  exact p_X3_referenceRowBytes_5 hr ht h2 (by decide) (by decide)
/-! ET$Layout.moveEntries -/
theorem l36_0 : (ax_dt (ax_T 36)).lookup 0 = some (.iconst 0, 1, 0, 0, 0) := by decide +kernel
theorem l36_1 : (ax_dt (ax_T 36)).lookup 1 = some (.istore_n 3, 1, 0, 0, 0) := by decide +kernel
theorem l36_2 : (ax_dt (ax_T 36)).lookup 2 = some (.bipush 11, 2, 0, 0, 0) := by decide +kernel
theorem l36_4 : (ax_dt (ax_T 36)).lookup 4 = some (.istore 4, 2, 0, 0, 0) := by decide +kernel
theorem l36_6 : (ax_dt (ax_T 36)).lookup 6 = some (.aload_n 0, 1, 0, 0, 0) := by decide +kernel
theorem l36_7 : (ax_dt (ax_T 36)).lookup 7 = some (.getfield 15, 3, 2, 8, 0) := by decide +kernel
theorem l36_10 : (ax_dt (ax_T 36)).lookup 10 = some (.iload_n 2, 1, 0, 0, 0) := by decide +kernel
theorem l36_11 : (ax_dt (ax_T 36)).lookup 11 = some (.iaload, 1, 0, 0, 0) := by decide +kernel
theorem l36_12 : (ax_dt (ax_T 36)).lookup 12 = some (.istore 5, 2, 0, 0, 0) := by decide +kernel
theorem l36_14 : (ax_dt (ax_T 36)).lookup 14 = some (.iload 5, 2, 0, 0, 0) := by decide +kernel
theorem l36_16 : (ax_dt (ax_T 36)).lookup 16 = some (.aload_n 0, 1, 0, 0, 0) := by decide +kernel
theorem l36_17 : (ax_dt (ax_T 36)).lookup 17 = some (.getfield 15, 3, 2, 8, 0) := by decide +kernel
theorem l36_20 : (ax_dt (ax_T 36)).lookup 20 = some (.iload_n 2, 1, 0, 0, 0) := by decide +kernel
theorem l36_21 : (ax_dt (ax_T 36)).lookup 21 = some (.iconst 1, 1, 0, 0, 0) := by decide +kernel
theorem l36_22 : (ax_dt (ax_T 36)).lookup 22 = some (.iadd, 1, 0, 0, 0) := by decide +kernel
theorem l36_23 : (ax_dt (ax_T 36)).lookup 23 = some (.iaload, 1, 0, 0, 0) := by decide +kernel
theorem l36_24 : (ax_dt (ax_T 36)).lookup 24 = some (.if_icmp .ge 61, 3, 0, 0, 0) := by decide +kernel
theorem l36_27 : (ax_dt (ax_T 36)).lookup 27 = some (.aload_n 0, 1, 0, 0, 0) := by decide +kernel
theorem l36_28 : (ax_dt (ax_T 36)).lookup 28 = some (.getfield 9, 3, 2, 7, 0) := by decide +kernel
theorem l36_31 : (ax_dt (ax_T 36)).lookup 31 = some (.iload 5, 2, 0, 0, 0) := by decide +kernel
theorem l36_33 : (ax_dt (ax_T 36)).lookup 33 = some (.iaload, 1, 0, 0, 0) := by decide +kernel
theorem l36_34 : (ax_dt (ax_T 36)).lookup 34 = some (.istore 6, 2, 0, 0, 0) := by decide +kernel
theorem l36_36 : (ax_dt (ax_T 36)).lookup 36 = some (.aload_n 0, 1, 0, 0, 0) := by decide +kernel
theorem l36_37 : (ax_dt (ax_T 36)).lookup 37 = some (.getfield 27, 3, 2, 12, 0) := by decide +kernel
theorem l36_40 : (ax_dt (ax_T 36)).lookup 40 = some (.iload 6, 2, 0, 0, 0) := by decide +kernel
theorem l36_42 : (ax_dt (ax_T 36)).lookup 42 = some (.iaload, 1, 0, 0, 0) := by decide +kernel
theorem l36_43 : (ax_dt (ax_T 36)).lookup 43 = some (.iload 4, 2, 0, 0, 0) := by decide +kernel
theorem l36_45 : (ax_dt (ax_T 36)).lookup 45 = some (.if_icmp .eq 14, 3, 0, 0, 0) := by decide +kernel
theorem l36_48 : (ax_dt (ax_T 36)).lookup 48 = some (.aload_n 0, 1, 0, 0, 0) := by decide +kernel
theorem l36_49 : (ax_dt (ax_T 36)).lookup 49 = some (.getfield 27, 3, 2, 12, 0) := by decide +kernel
theorem l36_52 : (ax_dt (ax_T 36)).lookup 52 = some (.iload 6, 2, 0, 0, 0) := by decide +kernel
theorem l36_54 : (ax_dt (ax_T 36)).lookup 54 = some (.iload 4, 2, 0, 0, 0) := by decide +kernel
theorem l36_56 : (ax_dt (ax_T 36)).lookup 56 = some (.iastore, 1, 0, 0, 0) := by decide +kernel
theorem l36_57 : (ax_dt (ax_T 36)).lookup 57 = some (.iconst 1, 1, 0, 0, 0) := by decide +kernel
theorem l36_58 : (ax_dt (ax_T 36)).lookup 58 = some (.istore_n 3, 1, 0, 0, 0) := by decide +kernel
theorem l36_59 : (ax_dt (ax_T 36)).lookup 59 = some (.iload 4, 2, 0, 0, 0) := by decide +kernel
theorem l36_61 : (ax_dt (ax_T 36)).lookup 61 = some (.aload_n 0, 1, 0, 0, 0) := by decide +kernel
theorem l36_62 : (ax_dt (ax_T 36)).lookup 62 = some (.getfield 24, 3, 2, 11, 0) := by decide +kernel
theorem l36_65 : (ax_dt (ax_T 36)).lookup 65 = some (.iload 6, 2, 0, 0, 0) := by decide +kernel
theorem l36_67 : (ax_dt (ax_T 36)).lookup 67 = some (.iaload, 1, 0, 0, 0) := by decide +kernel
theorem l36_68 : (ax_dt (ax_T 36)).lookup 68 = some (.aload_n 0, 1, 0, 0, 0) := by decide +kernel
theorem l36_69 : (ax_dt (ax_T 36)).lookup 69 = some (.aload_n 1, 1, 0, 0, 0) := by decide +kernel
theorem l36_70 : (ax_dt (ax_T 36)).lookup 70 = some (.iload 6, 2, 0, 0, 0) := by decide +kernel
theorem l36_72 : (ax_dt (ax_T 36)).lookup 72 = some (.invokevirtual 201, 3, 37, 2, 0) := by decide +kernel
theorem l36_75 : (ax_dt (ax_T 36)).lookup 75 = some (.iadd, 1, 0, 0, 0) := by decide +kernel
theorem l36_76 : (ax_dt (ax_T 36)).lookup 76 = some (.iadd, 1, 0, 0, 0) := by decide +kernel
theorem l36_77 : (ax_dt (ax_T 36)).lookup 77 = some (.istore 4, 2, 0, 0, 0) := by decide +kernel
theorem l36_79 : (ax_dt (ax_T 36)).lookup 79 = some (.iinc 5 1, 3, 0, 0, 0) := by decide +kernel
theorem l36_82 : (ax_dt (ax_T 36)).lookup 82 = some (.goto (-68), 3, 0, 0, 0) := by decide +kernel
theorem l36_85 : (ax_dt (ax_T 36)).lookup 85 = some (.aload_n 0, 1, 0, 0, 0) := by decide +kernel
theorem l36_86 : (ax_dt (ax_T 36)).lookup 86 = some (.getfield 18, 3, 2, 9, 0) := by decide +kernel
theorem l36_89 : (ax_dt (ax_T 36)).lookup 89 = some (.iload_n 2, 1, 0, 0, 0) := by decide +kernel
theorem l36_90 : (ax_dt (ax_T 36)).lookup 90 = some (.iload 4, 2, 0, 0, 0) := by decide +kernel
theorem l36_92 : (ax_dt (ax_T 36)).lookup 92 = some (.iastore, 1, 0, 0, 0) := by decide +kernel
theorem l36_93 : (ax_dt (ax_T 36)).lookup 93 = some (.iload_n 3, 1, 0, 0, 0) := by decide +kernel
theorem l36_94 : (ax_dt (ax_T 36)).lookup 94 = some (.ireturn, 1, 0, 0, 0) := by decide +kernel
noncomputable def F_X3_moveEntries_59 (t : Nat) (v2 : Int) (v3 : Int) (v4 : Int) (v5 : Int) (v6 : Int) (μ : bM) : Option ((Int × Int × Int × bM) ⊕ (Int × bM)) := bG (0 ≤ v6 ∧ v6 < 400) ((F_X3_referenceRowBytes t v6 μ).bind fun w1 => bG (bR ((μ 18 v6.toNat) + w1)) (bG (bR (v4 + ((μ 18 v6.toNat) + w1))) (bG (bR (v5 + 1)) (some (.inl (v3, (v4 + ((μ 18 v6.toNat) + w1)), (v5 + 1), μ))))))
noncomputable def F_X3_moveEntries_14 (t : Nat) (v2 : Int) (v3 : Int) (v4 : Int) (v5 : Int) (μ : bM) : Option ((Int × Int × Int × bM) ⊕ (Int × bM)) := bG (bR (v2 + 1)) (bG (0 ≤ (v2 + 1) ∧ (v2 + 1) < 7) (if (μ 15 (v2 + 1).toNat) ≤ v5 then bG (0 ≤ v2 ∧ v2 < 6) (bG (0 ≤ v3 ∧ v3 ≤ 1) (some (.inr (v3, (bset μ 16 v2.toNat v4))))) else bG (0 ≤ v5 ∧ v5 < 400) (bG (0 ≤ (μ 14 v5.toNat) ∧ (μ 14 v5.toNat) < 400) (if (μ 19 (μ 14 v5.toNat).toNat) = v4 then F_X3_moveEntries_59 t v2 v3 v4 v5 (μ 14 v5.toNat) μ else bG (0 ≤ (μ 14 v5.toNat) ∧ (μ 14 v5.toNat) < 400) (F_X3_moveEntries_59 t v2 1 v4 v5 (μ 14 v5.toNat) (bset μ 19 (μ 14 v5.toNat).toNat v4))))))
noncomputable def F_X3_moveEntries (t : Nat) (v2 : Int) (μ : bM) : Option (Int × bM) := bG (0 ≤ v2 ∧ v2 < 7) (bLoop (fun z => F_X3_moveEntries_14 t v2 z.1 z.2.1 z.2.2.1 z.2.2.2) (0, 11, (μ 15 v2.toNat), μ))
theorem p_X3_moveEntries_59 {L : Nat} {xs : Nat → Int32} {d : Nat} {μ : bM} {t : Nat} {v2 : Int} {κ : ((Int × Int × Int × bM) ⊕ (Int × bM)) → Option bX} (hr : ∀ r : Int × bM, κ (.inr r) = (bMc) r) (H14 : ∀ (v3 : Int) (v4 : Int) (v5 : Int) (μ : bM), bR v3 → bR v4 → bR v5 → bD L xs (d + 2) 36 14 [(0, .ref 13), (1, .ref t), (2, bI v2), (3, bI v3), (4, bI v4), (5, bI v5)] [] μ (κ (.inl (v3, v4, v5, μ)))) (ht : bTree t) (h2 : bR v2) {v3 : Int} (h3 : bR v3) {v4 : Int} (h4 : bR v4) {v5 : Int} (h5 : bR v5) {v6 : Int} (h6 : bR v6) : bD L xs (d + 2) 36 59 [(0, .ref 13), (1, .ref t), (2, bI v2), (3, bI v3), (4, bI v4), (5, bI v5), (6, bI v6)] [] μ ((F_X3_moveEntries_59 t v2 v3 v4 v5 v6 μ).bind κ) := by
  unfold F_X3_moveEntries_59
  refine bD.ok fun hk => ?_
  refine b_s (pc' := 61) (lv1 := [(0, .ref 13), (1, .ref t), (2, bI v2), (3, bI v3), (4, bI v4), (5, bI v5), (6, bI v6)]) (st' := [bI v4]) l36_59 (fun _ => rfl) ?_
  refine b_s (pc' := 62) (lv1 := [(0, .ref 13), (1, .ref t), (2, bI v2), (3, bI v3), (4, bI v4), (5, bI v5), (6, bI v6)]) (st' := [.ref 13, bI v4]) l36_61 (fun _ => rfl) ?_
  refine b_gp (q' := 18) (j := 5) l36_62 (by rfl) (by decide) (by decide) rfl hk rfl rfl (b_pc (pc' := 65) rfl ?_)
  refine b_s (pc' := 67) (lv1 := [(0, .ref 13), (1, .ref t), (2, bI v2), (3, bI v3), (4, bI v4), (5, bI v5), (6, bI v6)]) (st' := [bI v6, .ref 18, bI v4]) l36_65 (fun _ => rfl) ?_
  refine b_g fun g5 => ?_
  refine b_ial l36_67 (by rfl) g5 (b_pc (pc' := 68) rfl ?_)
  refine b_s (pc' := 69) (lv1 := [(0, .ref 13), (1, .ref t), (2, bI v2), (3, bI v3), (4, bI v4), (5, bI v5), (6, bI v6)]) (st' := [.ref 13, bI (μ 18 v6.toNat), bI v4]) l36_68 (fun _ => rfl) ?_
  refine b_s (pc' := 70) (lv1 := [(0, .ref 13), (1, .ref t), (2, bI v2), (3, bI v3), (4, bI v4), (5, bI v5), (6, bI v6)]) (st' := [.ref t, .ref 13, bI (μ 18 v6.toNat), bI v4]) l36_69 (fun _ => rfl) ?_
  refine b_s (pc' := 72) (lv1 := [(0, .ref 13), (1, .ref t), (2, bI v2), (3, bI v3), (4, bI v4), (5, bI v5), (6, bI v6)]) (st' := [bI v6, .ref t, .ref 13, bI (μ 18 v6.toNat), bI v4]) l36_70 (fun _ => rfl) ?_
  refine b_cPi l36_72 rfl (b_rc (ci := 2) (by rfl) (by decide) (by decide +kernel)) (Nat.le_of_ble_eq_true rfl) (Nat.le_of_ble_eq_true rfl) rfl (r_X3_referenceRowBytes t ht v6 h6) fun w1 hw1 => b_pc (pc' := 75) rfl ?_
  refine b_iadd l36_75 fun g2 => (b_pc (pc' := 76) rfl ?_)
  refine b_iadd l36_76 fun g3 => (b_pc (pc' := 77) rfl ?_)
  refine b_w (pc' := 79) (lv1 := ax_st1 [(0, .ref 13), (1, .ref t), (2, bI v2), (3, bI v3), (4, bI v4), (5, bI v5), (6, bI v6)] 4 (bI (v4 + ((μ 18 v6.toNat) + w1)))) (lv' := [(0, .ref 13), (1, .ref t), (2, bI v2), (3, bI v3), (4, bI (v4 + ((μ 18 v6.toNat) + w1))), (5, bI v5)]) (st' := []) l36_77 (fun _ => rfl) (bSb rfl (bSb rfl (bSb rfl (bSb rfl (bSb rfl (bSb rfl bSn)))))) ?_
  refine b_inc (lv' := [(0, .ref 13), (1, .ref t), (2, bI v2), (3, bI v3), (4, bI (v4 + ((μ 18 v6.toNat) + w1))), (5, bI (v5 + 1))]) l36_79 rfl (by decide +kernel) (bSb rfl (bSb rfl (bSb rfl (bSb rfl (bSb rfl (bSb rfl bSn)))))) fun g4 => (b_pc (pc' := 82) rfl ?_)
  refine b_s (pc' := 14) (lv1 := [(0, .ref 13), (1, .ref t), (2, bI v2), (3, bI v3), (4, bI (v4 + ((μ 18 v6.toNat) + w1))), (5, bI (v5 + 1))]) (st' := []) l36_82 (fun _ => rfl) ?_
  refine bD.wk (lv' := [(0, .ref 13), (1, .ref t), (2, bI v2), (3, bI v3), (4, bI (v4 + ((μ 18 v6.toNat) + w1))), (5, bI (v5 + 1))]) (bSb rfl (bSb rfl (bSb rfl (bSb rfl (bSb rfl (bSb rfl bSn)))))) ?_
  exact H14 v3 (v4 + ((μ 18 v6.toNat) + w1)) (v5 + 1) μ h3 g3 g4
theorem q_X3_moveEntries_14 {L : Nat} {xs : Nat → Int32} {d : Nat} {μ : bM} {t : Nat} {v2 : Int} {κ : ((Int × Int × Int × bM) ⊕ (Int × bM)) → Option bX} (hr : ∀ r : Int × bM, κ (.inr r) = (bMc) r) (H14 : ∀ (v3 : Int) (v4 : Int) (v5 : Int) (μ : bM), bR v3 → bR v4 → bR v5 → bD L xs (d + 2) 36 14 [(0, .ref 13), (1, .ref t), (2, bI v2), (3, bI v3), (4, bI v4), (5, bI v5)] [] μ (κ (.inl (v3, v4, v5, μ)))) (ht : bTree t) (h2 : bR v2) {v3 : Int} (h3 : bR v3) {v4 : Int} (h4 : bR v4) {v5 : Int} (h5 : bR v5) : bD L xs (d + 2) 36 14 [(0, .ref 13), (1, .ref t), (2, bI v2), (3, bI v3), (4, bI v4), (5, bI v5)] [] μ ((F_X3_moveEntries_14 t v2 v3 v4 v5 μ).bind κ) := by
  unfold F_X3_moveEntries_14
  refine bD.ok fun hk => ?_
  refine b_s (pc' := 16) (lv1 := [(0, .ref 13), (1, .ref t), (2, bI v2), (3, bI v3), (4, bI v4), (5, bI v5)]) (st' := [bI v5]) l36_14 (fun _ => rfl) ?_
  refine b_s (pc' := 17) (lv1 := [(0, .ref 13), (1, .ref t), (2, bI v2), (3, bI v3), (4, bI v4), (5, bI v5)]) (st' := [.ref 13, bI v5]) l36_16 (fun _ => rfl) ?_
  refine b_gp (q' := 15) (j := 2) l36_17 (by rfl) (by decide) (by decide) rfl hk rfl rfl (b_pc (pc' := 20) rfl ?_)
  refine b_s (pc' := 21) (lv1 := [(0, .ref 13), (1, .ref t), (2, bI v2), (3, bI v3), (4, bI v4), (5, bI v5)]) (st' := [bI v2, .ref 15, bI v5]) l36_20 (fun _ => rfl) ?_
  refine b_s (pc' := 22) (lv1 := [(0, .ref 13), (1, .ref t), (2, bI v2), (3, bI v3), (4, bI v4), (5, bI v5)]) (st' := [bI 1, bI v2, .ref 15, bI v5]) l36_21 (fun _ => rfl) ?_
  refine b_iadd l36_22 fun g1 => (b_pc (pc' := 23) rfl ?_)
  refine b_g fun g11 => ?_
  refine b_ial l36_23 (by rfl) g11 (b_pc (pc' := 24) rfl ?_)
  refine b_ige (pt := 85) l36_24 h5 (bO_i hk (by rfl)) (by decide) rfl (fun c2 => ?_) (fun c2 => b_pc (pc' := 27) rfl ?_)
  · refine b_s (pc' := 86) (lv1 := [(0, .ref 13), (1, .ref t), (2, bI v2), (3, bI v3), (4, bI v4), (5, bI v5)]) (st' := [.ref 13]) l36_85 (fun _ => rfl) ?_
    refine b_gp (q' := 16) (j := 3) l36_86 (by rfl) (by decide) (by decide) rfl hk rfl rfl (b_pc (pc' := 89) rfl ?_)
    refine b_s (pc' := 90) (lv1 := [(0, .ref 13), (1, .ref t), (2, bI v2), (3, bI v3), (4, bI v4), (5, bI v5)]) (st' := [bI v2, .ref 16]) l36_89 (fun _ => rfl) ?_
    refine b_s (pc' := 92) (lv1 := [(0, .ref 13), (1, .ref t), (2, bI v2), (3, bI v3), (4, bI v4), (5, bI v5)]) (st' := [bI v4, bI v2, .ref 16]) l36_90 (fun _ => rfl) ?_
    refine b_g fun g5 => ?_
    refine b_ias l36_92 (by rfl) g5 h4 (bD.ok fun hk3 => b_pc (pc' := 93) rfl ?_)
    refine b_s (pc' := 94) (lv1 := [(0, .ref 13), (1, .ref t), (2, bI v2), (3, bI v3), (4, bI v4), (5, bI v5)]) (st' := [bI v3]) l36_93 (fun _ => rfl) ?_
    refine b_g fun g4 => ?_
    exact b_retz l36_94 rfl g4 (hr _)
  · refine b_s (pc' := 28) (lv1 := [(0, .ref 13), (1, .ref t), (2, bI v2), (3, bI v3), (4, bI v4), (5, bI v5)]) (st' := [.ref 13]) l36_27 (fun _ => rfl) ?_
    refine b_gp (q' := 14) (j := 1) l36_28 (by rfl) (by decide) (by decide) rfl hk rfl rfl (b_pc (pc' := 31) rfl ?_)
    refine b_s (pc' := 33) (lv1 := [(0, .ref 13), (1, .ref t), (2, bI v2), (3, bI v3), (4, bI v4), (5, bI v5)]) (st' := [bI v5, .ref 14]) l36_31 (fun _ => rfl) ?_
    refine b_g fun g10 => ?_
    refine b_ial l36_33 (by rfl) g10 (b_pc (pc' := 34) rfl ?_)
    refine b_w (pc' := 36) (lv1 := ax_st1 [(0, .ref 13), (1, .ref t), (2, bI v2), (3, bI v3), (4, bI v4), (5, bI v5)] 6 (bI (μ 14 v5.toNat))) (lv' := [(0, .ref 13), (1, .ref t), (2, bI v2), (3, bI v3), (4, bI v4), (5, bI v5), (6, bI (μ 14 v5.toNat))]) (st' := []) l36_34 (fun _ => rfl) (bSb rfl (bSb rfl (bSb rfl (bSb rfl (bSb rfl (bSb rfl (bSb rfl bSn))))))) ?_
    refine b_s (pc' := 37) (lv1 := [(0, .ref 13), (1, .ref t), (2, bI v2), (3, bI v3), (4, bI v4), (5, bI v5), (6, bI (μ 14 v5.toNat))]) (st' := [.ref 13]) l36_36 (fun _ => rfl) ?_
    refine b_gp (q' := 19) (j := 6) l36_37 (by rfl) (by decide) (by decide) rfl hk rfl rfl (b_pc (pc' := 40) rfl ?_)
    refine b_s (pc' := 42) (lv1 := [(0, .ref 13), (1, .ref t), (2, bI v2), (3, bI v3), (4, bI v4), (5, bI v5), (6, bI (μ 14 v5.toNat))]) (st' := [bI (μ 14 v5.toNat), .ref 19]) l36_40 (fun _ => rfl) ?_
    refine b_g fun g9 => ?_
    refine b_ial l36_42 (by rfl) g9 (b_pc (pc' := 43) rfl ?_)
    refine b_s (pc' := 45) (lv1 := [(0, .ref 13), (1, .ref t), (2, bI v2), (3, bI v3), (4, bI v4), (5, bI v5), (6, bI (μ 14 v5.toNat))]) (st' := [bI v4, bI (μ 19 (μ 14 v5.toNat).toNat)]) l36_43 (fun _ => rfl) ?_
    refine b_ieq (pt := 59) l36_45 (bO_i hk (by rfl)) h4 (by decide) rfl (fun c6 => ?_) (fun c6 => b_pc (pc' := 48) rfl ?_)
    · refine bD.wk (lv' := [(0, .ref 13), (1, .ref t), (2, bI v2), (3, bI v3), (4, bI v4), (5, bI v5), (6, bI (μ 14 v5.toNat))]) (bSb rfl (bSb rfl (bSb rfl (bSb rfl (bSb rfl (bSb rfl (bSb rfl bSn))))))) ?_
      exact p_X3_moveEntries_59 hr H14 ht h2 h3 h4 h5 (bO_i hk (by rfl))
    · refine b_s (pc' := 49) (lv1 := [(0, .ref 13), (1, .ref t), (2, bI v2), (3, bI v3), (4, bI v4), (5, bI v5), (6, bI (μ 14 v5.toNat))]) (st' := [.ref 13]) l36_48 (fun _ => rfl) ?_
      refine b_gp (q' := 19) (j := 6) l36_49 (by rfl) (by decide) (by decide) rfl hk rfl rfl (b_pc (pc' := 52) rfl ?_)
      refine b_s (pc' := 54) (lv1 := [(0, .ref 13), (1, .ref t), (2, bI v2), (3, bI v3), (4, bI v4), (5, bI v5), (6, bI (μ 14 v5.toNat))]) (st' := [bI (μ 14 v5.toNat), .ref 19]) l36_52 (fun _ => rfl) ?_
      refine b_s (pc' := 56) (lv1 := [(0, .ref 13), (1, .ref t), (2, bI v2), (3, bI v3), (4, bI v4), (5, bI v5), (6, bI (μ 14 v5.toNat))]) (st' := [bI v4, bI (μ 14 v5.toNat), .ref 19]) l36_54 (fun _ => rfl) ?_
      refine b_g fun g8 => ?_
      refine b_ias l36_56 (by rfl) g8 h4 (bD.ok fun hk7 => b_pc (pc' := 57) rfl ?_)
      refine b_s (pc' := 58) (lv1 := [(0, .ref 13), (1, .ref t), (2, bI v2), (3, bI v3), (4, bI v4), (5, bI v5), (6, bI (μ 14 v5.toNat))]) (st' := [bI 1]) l36_57 (fun _ => rfl) ?_
      refine b_w (pc' := 59) (lv1 := ax_st1 [(0, .ref 13), (1, .ref t), (2, bI v2), (3, bI v3), (4, bI v4), (5, bI v5), (6, bI (μ 14 v5.toNat))] 3 (bI 1)) (lv' := [(0, .ref 13), (1, .ref t), (2, bI v2), (3, bI 1), (4, bI v4), (5, bI v5), (6, bI (μ 14 v5.toNat))]) (st' := []) l36_58 (fun _ => rfl) (bSb rfl (bSb rfl (bSb rfl (bSb rfl (bSb rfl (bSb rfl (bSb rfl bSn))))))) ?_
      refine bD.wk (lv' := [(0, .ref 13), (1, .ref t), (2, bI v2), (3, bI 1), (4, bI v4), (5, bI v5), (6, bI (μ 14 v5.toNat))]) (bSb rfl (bSb rfl (bSb rfl (bSb rfl (bSb rfl (bSb rfl (bSb rfl bSn))))))) ?_
      exact p_X3_moveEntries_59 hr H14 ht h2 (by decide) h4 h5 (bO_i hk (by rfl))
theorem p_X3_moveEntries_14 {L : Nat} {xs : Nat → Int32} {d : Nat} {μ : bM} {t : Nat} {κ : (Int × bM) → Option bX} (hr : ∀ r : Int × bM, κ r = (bMc) r) (ht : bTree t) {v2 : Int} (h2 : bR v2) {v3 : Int} (h3 : bR v3) {v4 : Int} (h4 : bR v4) {v5 : Int} (h5 : bR v5) : bD L xs (d + 2) 36 14 [(0, .ref 13), (1, .ref t), (2, bI v2), (3, bI v3), (4, bI v4), (5, bI v5)] [] μ ((bLoop (fun z => F_X3_moveEntries_14 t v2 z.1 z.2.1 z.2.2.1 z.2.2.2) (v3, v4, v5, μ)).bind κ) :=
  b_loop (fun z => [(0, .ref 13), (1, .ref t), (2, bI v2), (3, bI z.1), (4, bI z.2.1), (5, bI z.2.2.1)]) (fun z => z.2.2.2) (fun z => bR z.1 ∧ bR z.2.1 ∧ bR z.2.2.1) (fun κ' hκ HH z hz => q_X3_moveEntries_14 (κ := κ') (fun r => (hκ _).trans (hr r)) (fun a3 a4 a5 am b3 b4 b5 => HH (a3, a4, a5, am) ⟨b3, b4, b5⟩) ht h2 hz.1 hz.2.1 hz.2.2) (v3, v4, v5, μ) ⟨h3, h4, h5⟩
theorem r_X3_moveEntries {L : Nat} {xs : Nat → Int32} {d : Nat} {μ : bM} (t : Nat) (ht : bTree t) (v2 : Int) (h2 : bR v2) : bD L xs (d + 2) 36 0 [(0, .ref 13), (1, .ref t), (2, bI v2)] [] μ ((F_X3_moveEntries t v2 μ).bind (bMc)) := by
  have hr : ∀ r, (bMc) r = (bMc) r := fun _ => rfl
  unfold F_X3_moveEntries
  refine bD.ok fun hk => ?_
  refine b_s (pc' := 1) (lv1 := [(0, .ref 13), (1, .ref t), (2, bI v2)]) (st' := [bI 0]) l36_0 (fun _ => rfl) ?_
  refine b_w (pc' := 2) (lv1 := ax_st1 [(0, .ref 13), (1, .ref t), (2, bI v2)] 3 (bI 0)) (lv' := [(0, .ref 13), (1, .ref t), (2, bI v2), (3, bI 0)]) (st' := []) l36_1 (fun _ => rfl) (bSb rfl (bSb rfl (bSb rfl (bSb rfl bSn)))) ?_
  refine b_bipush l36_2 (by decide) (b_pc (pc' := 4) rfl ?_)
  refine b_w (pc' := 6) (lv1 := ax_st1 [(0, .ref 13), (1, .ref t), (2, bI v2), (3, bI 0)] 4 (bI 11)) (lv' := [(0, .ref 13), (1, .ref t), (2, bI v2), (3, bI 0), (4, bI 11)]) (st' := []) l36_4 (fun _ => rfl) (bSb rfl (bSb rfl (bSb rfl (bSb rfl (bSb rfl bSn))))) ?_
  refine b_s (pc' := 7) (lv1 := [(0, .ref 13), (1, .ref t), (2, bI v2), (3, bI 0), (4, bI 11)]) (st' := [.ref 13]) l36_6 (fun _ => rfl) ?_
  refine b_gp (q' := 15) (j := 2) l36_7 (by rfl) (by decide) (by decide) rfl hk rfl rfl (b_pc (pc' := 10) rfl ?_)
  refine b_s (pc' := 11) (lv1 := [(0, .ref 13), (1, .ref t), (2, bI v2), (3, bI 0), (4, bI 11)]) (st' := [bI v2, .ref 15]) l36_10 (fun _ => rfl) ?_
  refine b_g fun g1 => ?_
  refine b_ial l36_11 (by rfl) g1 (b_pc (pc' := 12) rfl ?_)
  refine b_w (pc' := 14) (lv1 := ax_st1 [(0, .ref 13), (1, .ref t), (2, bI v2), (3, bI 0), (4, bI 11)] 5 (bI (μ 15 v2.toNat))) (lv' := [(0, .ref 13), (1, .ref t), (2, bI v2), (3, bI 0), (4, bI 11), (5, bI (μ 15 v2.toNat))]) (st' := []) l36_12 (fun _ => rfl) (bSb rfl (bSb rfl (bSb rfl (bSb rfl (bSb rfl (bSb rfl bSn)))))) ?_
  refine bD.wk (lv' := [(0, .ref 13), (1, .ref t), (2, bI v2), (3, bI 0), (4, bI 11), (5, bI (μ 15 v2.toNat))]) (bSb rfl (bSb rfl (bSb rfl (bSb rfl (bSb rfl (bSb rfl bSn)))))) ?_
  exact p_X3_moveEntries_14 hr ht h2 (by decide) (by decide) (bO_i hk (by rfl))
/-! ET$Layout.steadyValueBytes -/
theorem l38_0 : (ax_dt (ax_T 38)).lookup 0 = some (.iconst 0, 1, 0, 0, 0) := by decide +kernel
theorem l38_1 : (ax_dt (ax_T 38)).lookup 1 = some (.istore_n 2, 1, 0, 0, 0) := by decide +kernel
theorem l38_2 : (ax_dt (ax_T 38)).lookup 2 = some (.iconst 0, 1, 0, 0, 0) := by decide +kernel
theorem l38_3 : (ax_dt (ax_T 38)).lookup 3 = some (.istore_n 3, 1, 0, 0, 0) := by decide +kernel
theorem l38_4 : (ax_dt (ax_T 38)).lookup 4 = some (.iload_n 3, 1, 0, 0, 0) := by decide +kernel
theorem l38_5 : (ax_dt (ax_T 38)).lookup 5 = some (.aload_n 0, 1, 0, 0, 0) := by decide +kernel
theorem l38_6 : (ax_dt (ax_T 38)).lookup 6 = some (.getfield 143, 3, 7, 11, 0) := by decide +kernel
theorem l38_9 : (ax_dt (ax_T 38)).lookup 9 = some (.iload_n 1, 1, 0, 0, 0) := by decide +kernel
theorem l38_10 : (ax_dt (ax_T 38)).lookup 10 = some (.iaload, 1, 0, 0, 0) := by decide +kernel
theorem l38_11 : (ax_dt (ax_T 38)).lookup 11 = some (.if_icmp .ge 131, 3, 0, 0, 0) := by decide +kernel
theorem l38_14 : (ax_dt (ax_T 38)).lookup 14 = some (.iload_n 1, 1, 0, 0, 0) := by decide +kernel
theorem l38_15 : (ax_dt (ax_T 38)).lookup 15 = some (.iload_n 3, 1, 0, 0, 0) := by decide +kernel
theorem l38_16 : (ax_dt (ax_T 38)).lookup 16 = some (.invokestatic 146, 3, 77, 2, 0) := by decide +kernel
theorem l38_19 : (ax_dt (ax_T 38)).lookup 19 = some (.istore 4, 2, 0, 0, 0) := by decide +kernel
theorem l38_21 : (ax_dt (ax_T 38)).lookup 21 = some (.aload_n 0, 1, 0, 0, 0) := by decide +kernel
theorem l38_22 : (ax_dt (ax_T 38)).lookup 22 = some (.getfield 153, 3, 7, 13, 0) := by decide +kernel
theorem l38_25 : (ax_dt (ax_T 38)).lookup 25 = some (.iload 4, 2, 0, 0, 0) := by decide +kernel
theorem l38_27 : (ax_dt (ax_T 38)).lookup 27 = some (.iaload, 1, 0, 0, 0) := by decide +kernel
theorem l38_28 : (ax_dt (ax_T 38)).lookup 28 = some (.tableswitch 95 8 15 #[80, 95, 80, 95, 95, 48, 95, 64], 48, 0, 0, 0) := by decide +kernel
theorem l38_76 : (ax_dt (ax_T 38)).lookup 76 = some (.iload_n 2, 1, 0, 0, 0) := by decide +kernel
theorem l38_77 : (ax_dt (ax_T 38)).lookup 77 = some (.aload_n 0, 1, 0, 0, 0) := by decide +kernel
theorem l38_78 : (ax_dt (ax_T 38)).lookup 78 = some (.getfield 204, 3, 7, 14, 0) := by decide +kernel
theorem l38_81 : (ax_dt (ax_T 38)).lookup 81 = some (.iload 4, 2, 0, 0, 0) := by decide +kernel
theorem l38_83 : (ax_dt (ax_T 38)).lookup 83 = some (.laload, 1, 0, 0, 0) := by decide +kernel
theorem l38_84 : (ax_dt (ax_T 38)).lookup 84 = some (.invokestatic 208, 3, 69, 1, 0) := by decide +kernel
theorem l38_87 : (ax_dt (ax_T 38)).lookup 87 = some (.iadd, 1, 0, 0, 0) := by decide +kernel
theorem l38_88 : (ax_dt (ax_T 38)).lookup 88 = some (.istore_n 2, 1, 0, 0, 0) := by decide +kernel
theorem l38_89 : (ax_dt (ax_T 38)).lookup 89 = some (.goto 47, 3, 0, 0, 0) := by decide +kernel
theorem l38_92 : (ax_dt (ax_T 38)).lookup 92 = some (.iload_n 2, 1, 0, 0, 0) := by decide +kernel
theorem l38_93 : (ax_dt (ax_T 38)).lookup 93 = some (.aload_n 0, 1, 0, 0, 0) := by decide +kernel
theorem l38_94 : (ax_dt (ax_T 38)).lookup 94 = some (.getfield 204, 3, 7, 14, 0) := by decide +kernel
theorem l38_97 : (ax_dt (ax_T 38)).lookup 97 = some (.iload 4, 2, 0, 0, 0) := by decide +kernel
theorem l38_99 : (ax_dt (ax_T 38)).lookup 99 = some (.laload, 1, 0, 0, 0) := by decide +kernel
theorem l38_100 : (ax_dt (ax_T 38)).lookup 100 = some (.invokestatic 156, 3, 68, 1, 0) := by decide +kernel
theorem l38_103 : (ax_dt (ax_T 38)).lookup 103 = some (.iadd, 1, 0, 0, 0) := by decide +kernel
theorem l38_104 : (ax_dt (ax_T 38)).lookup 104 = some (.istore_n 2, 1, 0, 0, 0) := by decide +kernel
theorem l38_105 : (ax_dt (ax_T 38)).lookup 105 = some (.goto 31, 3, 0, 0, 0) := by decide +kernel
theorem l38_108 : (ax_dt (ax_T 38)).lookup 108 = some (.iload_n 2, 1, 0, 0, 0) := by decide +kernel
theorem l38_109 : (ax_dt (ax_T 38)).lookup 109 = some (.aload_n 0, 1, 0, 0, 0) := by decide +kernel
theorem l38_110 : (ax_dt (ax_T 38)).lookup 110 = some (.getfield 177, 3, 7, 15, 0) := by decide +kernel
theorem l38_113 : (ax_dt (ax_T 38)).lookup 113 = some (.iload 4, 2, 0, 0, 0) := by decide +kernel
theorem l38_115 : (ax_dt (ax_T 38)).lookup 115 = some (.iaload, 1, 0, 0, 0) := by decide +kernel
theorem l38_116 : (ax_dt (ax_T 38)).lookup 116 = some (.iconst 1, 1, 0, 0, 0) := by decide +kernel
theorem l38_117 : (ax_dt (ax_T 38)).lookup 117 = some (.iadd, 1, 0, 0, 0) := by decide +kernel
theorem l38_118 : (ax_dt (ax_T 38)).lookup 118 = some (.iadd, 1, 0, 0, 0) := by decide +kernel
theorem l38_119 : (ax_dt (ax_T 38)).lookup 119 = some (.istore_n 2, 1, 0, 0, 0) := by decide +kernel
theorem l38_120 : (ax_dt (ax_T 38)).lookup 120 = some (.goto 16, 3, 0, 0, 0) := by decide +kernel
theorem l38_123 : (ax_dt (ax_T 38)).lookup 123 = some (.iload_n 2, 1, 0, 0, 0) := by decide +kernel
theorem l38_124 : (ax_dt (ax_T 38)).lookup 124 = some (.aload_n 0, 1, 0, 0, 0) := by decide +kernel
theorem l38_125 : (ax_dt (ax_T 38)).lookup 125 = some (.getfield 153, 3, 7, 13, 0) := by decide +kernel
theorem l38_128 : (ax_dt (ax_T 38)).lookup 128 = some (.iload 4, 2, 0, 0, 0) := by decide +kernel
theorem l38_130 : (ax_dt (ax_T 38)).lookup 130 = some (.iaload, 1, 0, 0, 0) := by decide +kernel
theorem l38_131 : (ax_dt (ax_T 38)).lookup 131 = some (.invokestatic 211, 3, 21, 1, 0) := by decide +kernel
theorem l38_134 : (ax_dt (ax_T 38)).lookup 134 = some (.iadd, 1, 0, 0, 0) := by decide +kernel
theorem l38_135 : (ax_dt (ax_T 38)).lookup 135 = some (.istore_n 2, 1, 0, 0, 0) := by decide +kernel
theorem l38_136 : (ax_dt (ax_T 38)).lookup 136 = some (.iinc 3 1, 3, 0, 0, 0) := by decide +kernel
theorem l38_139 : (ax_dt (ax_T 38)).lookup 139 = some (.goto (-135), 3, 0, 0, 0) := by decide +kernel
theorem l38_142 : (ax_dt (ax_T 38)).lookup 142 = some (.iload_n 2, 1, 0, 0, 0) := by decide +kernel
theorem l38_143 : (ax_dt (ax_T 38)).lookup 143 = some (.ireturn, 1, 0, 0, 0) := by decide +kernel
noncomputable def F_X3_steadyValueBytes_108 (t : Nat) (v1 : Int) (v2 : Int) (v3 : Int) (v4 : Int) (μ : bM) : Option ((Int × Int) ⊕ (Int)) := bG (0 ≤ v4 ∧ v4 < 3200) (bG (bR ((μ (t + 14) v4.toNat) + 1)) (bG (bR (v2 + ((μ (t + 14) v4.toNat) + 1))) (bG (bR (v3 + 1)) (some (.inl ((v2 + ((μ (t + 14) v4.toNat) + 1)), (v3 + 1)))))))
noncomputable def F_X3_steadyValueBytes_123 (t : Nat) (v1 : Int) (v2 : Int) (v3 : Int) (v4 : Int) (μ : bM) : Option ((Int × Int) ⊕ (Int)) := bG (0 ≤ v4 ∧ v4 < 3200) ((F_X2_width (μ (t + 12) v4.toNat) μ).bind fun w1 => bG (bR (v2 + w1)) (bG (bR (v3 + 1)) (some (.inl ((v2 + w1), (v3 + 1))))))
noncomputable def F_X3_steadyValueBytes_4 (t : Nat) (v1 : Int) (μ : bM) (v2 : Int) (v3 : Int) : Option ((Int × Int) ⊕ (Int)) := bG (0 ≤ v1 ∧ v1 < 400) (if (μ (t + 10) v1.toNat) ≤ v3 then some (.inr (v2)) else (F_X8_slotAt v1 v3 μ).bind fun w2 => bG (0 ≤ w2 ∧ w2 < 3200) (if (μ (t + 12) w2.toNat) = 8 then F_X3_steadyValueBytes_108 t v1 v2 v3 w2 μ else if (μ (t + 12) w2.toNat) = 9 then F_X3_steadyValueBytes_123 t v1 v2 v3 w2 μ else if (μ (t + 12) w2.toNat) = 10 then F_X3_steadyValueBytes_108 t v1 v2 v3 w2 μ else if (μ (t + 12) w2.toNat) = 11 then F_X3_steadyValueBytes_123 t v1 v2 v3 w2 μ else if (μ (t + 12) w2.toNat) = 12 then F_X3_steadyValueBytes_123 t v1 v2 v3 w2 μ else if (μ (t + 12) w2.toNat) = 13 then bG (0 ≤ w2 ∧ w2 < 3200) ((F_X6_signedRowSize (μ (t + 13) w2.toNat) μ).bind fun w3 => bG (bR (v2 + w3)) (bG (bR (v3 + 1)) (some (.inl ((v2 + w3), (v3 + 1)))))) else if (μ (t + 12) w2.toNat) = 14 then F_X3_steadyValueBytes_123 t v1 v2 v3 w2 μ else if (μ (t + 12) w2.toNat) = 15 then bG (0 ≤ w2 ∧ w2 < 3200) ((F_X6_rowSize (μ (t + 13) w2.toNat) μ).bind fun w7 => bG (bR (v2 + w7)) (bG (bR (v3 + 1)) (some (.inl ((v2 + w7), (v3 + 1)))))) else F_X3_steadyValueBytes_123 t v1 v2 v3 w2 μ))
noncomputable def F_X3_steadyValueBytes (t : Nat) (v1 : Int) (μ : bM) : Option (Int) := bLoop (fun z => F_X3_steadyValueBytes_4 t v1 μ z.1 z.2) (0, 0)
theorem p_X3_steadyValueBytes_108 {L : Nat} {xs : Nat → Int32} {d : Nat} {μ : bM} {t : Nat} {v1 : Int} {κ : ((Int × Int) ⊕ (Int)) → Option bX} (hr : ∀ r : Int, κ (.inr r) = (bPc μ) r) (H4 : ∀ (v2 : Int) (v3 : Int), bR v2 → bR v3 → bD L xs (d + 1) 38 4 [(0, .ref t), (1, bI v1), (2, bI v2), (3, bI v3)] [] μ (κ (.inl (v2, v3)))) (ht : bTree t) (h1 : bR v1) {v2 : Int} (h2 : bR v2) {v3 : Int} (h3 : bR v3) {v4 : Int} (h4 : bR v4) : bD L xs (d + 1) 38 108 [(0, .ref t), (1, bI v1), (2, bI v2), (3, bI v3), (4, bI v4)] [] μ ((F_X3_steadyValueBytes_108 t v1 v2 v3 v4 μ).bind κ) := by
  unfold F_X3_steadyValueBytes_108
  refine bD.ok fun hk => ?_
  refine b_s (pc' := 109) (lv1 := [(0, .ref t), (1, bI v1), (2, bI v2), (3, bI v3), (4, bI v4)]) (st' := [bI v2]) l38_108 (fun _ => rfl) ?_
  refine b_s (pc' := 110) (lv1 := [(0, .ref t), (1, bI v1), (2, bI v2), (3, bI v3), (4, bI v4)]) (st' := [.ref t, bI v2]) l38_109 (fun _ => rfl) ?_
  refine b_gp (q' := (t + 14)) (j := 14) l38_110 ht (by decide) (by decide) rfl hk rfl rfl (b_pc (pc' := 113) rfl ?_)
  refine b_s (pc' := 115) (lv1 := [(0, .ref t), (1, bI v1), (2, bI v2), (3, bI v3), (4, bI v4)]) (st' := [bI v4, .ref (t + 14), bI v2]) l38_113 (fun _ => rfl) ?_
  refine b_g fun g4 => ?_
  refine b_ial l38_115 (bTree_l ht) g4 (b_pc (pc' := 116) rfl ?_)
  refine b_s (pc' := 117) (lv1 := [(0, .ref t), (1, bI v1), (2, bI v2), (3, bI v3), (4, bI v4)]) (st' := [bI 1, bI (μ (t + 14) v4.toNat), bI v2]) l38_116 (fun _ => rfl) ?_
  refine b_iadd l38_117 fun g1 => (b_pc (pc' := 118) rfl ?_)
  refine b_iadd l38_118 fun g2 => (b_pc (pc' := 119) rfl ?_)
  refine b_w (pc' := 120) (lv1 := ax_st1 [(0, .ref t), (1, bI v1), (2, bI v2), (3, bI v3), (4, bI v4)] 2 (bI (v2 + ((μ (t + 14) v4.toNat) + 1)))) (lv' := [(0, .ref t), (1, bI v1), (2, bI (v2 + ((μ (t + 14) v4.toNat) + 1))), (3, bI v3)]) (st' := []) l38_119 (fun _ => rfl) (bSb rfl (bSb rfl (bSb rfl (bSb rfl bSn)))) ?_
  refine b_s (pc' := 136) (lv1 := [(0, .ref t), (1, bI v1), (2, bI (v2 + ((μ (t + 14) v4.toNat) + 1))), (3, bI v3)]) (st' := []) l38_120 (fun _ => rfl) ?_
  refine b_inc (lv' := [(0, .ref t), (1, bI v1), (2, bI (v2 + ((μ (t + 14) v4.toNat) + 1))), (3, bI (v3 + 1))]) l38_136 rfl (by decide +kernel) (bSb rfl (bSb rfl (bSb rfl (bSb rfl bSn)))) fun g3 => (b_pc (pc' := 139) rfl ?_)
  refine b_s (pc' := 4) (lv1 := [(0, .ref t), (1, bI v1), (2, bI (v2 + ((μ (t + 14) v4.toNat) + 1))), (3, bI (v3 + 1))]) (st' := []) l38_139 (fun _ => rfl) ?_
  refine bD.wk (lv' := [(0, .ref t), (1, bI v1), (2, bI (v2 + ((μ (t + 14) v4.toNat) + 1))), (3, bI (v3 + 1))]) (bSb rfl (bSb rfl (bSb rfl (bSb rfl bSn)))) ?_
  exact H4 (v2 + ((μ (t + 14) v4.toNat) + 1)) (v3 + 1) g2 g3
theorem p_X3_steadyValueBytes_123 {L : Nat} {xs : Nat → Int32} {d : Nat} {μ : bM} {t : Nat} {v1 : Int} {κ : ((Int × Int) ⊕ (Int)) → Option bX} (hr : ∀ r : Int, κ (.inr r) = (bPc μ) r) (H4 : ∀ (v2 : Int) (v3 : Int), bR v2 → bR v3 → bD L xs (d + 1) 38 4 [(0, .ref t), (1, bI v1), (2, bI v2), (3, bI v3)] [] μ (κ (.inl (v2, v3)))) (ht : bTree t) (h1 : bR v1) {v2 : Int} (h2 : bR v2) {v3 : Int} (h3 : bR v3) {v4 : Int} (h4 : bR v4) : bD L xs (d + 1) 38 123 [(0, .ref t), (1, bI v1), (2, bI v2), (3, bI v3), (4, bI v4)] [] μ ((F_X3_steadyValueBytes_123 t v1 v2 v3 v4 μ).bind κ) := by
  unfold F_X3_steadyValueBytes_123
  refine bD.ok fun hk => ?_
  refine b_s (pc' := 124) (lv1 := [(0, .ref t), (1, bI v1), (2, bI v2), (3, bI v3), (4, bI v4)]) (st' := [bI v2]) l38_123 (fun _ => rfl) ?_
  refine b_s (pc' := 125) (lv1 := [(0, .ref t), (1, bI v1), (2, bI v2), (3, bI v3), (4, bI v4)]) (st' := [.ref t, bI v2]) l38_124 (fun _ => rfl) ?_
  refine b_gp (q' := (t + 12)) (j := 12) l38_125 ht (by decide) (by decide) rfl hk rfl rfl (b_pc (pc' := 128) rfl ?_)
  refine b_s (pc' := 130) (lv1 := [(0, .ref t), (1, bI v1), (2, bI v2), (3, bI v3), (4, bI v4)]) (st' := [bI v4, .ref (t + 12), bI v2]) l38_128 (fun _ => rfl) ?_
  refine b_g fun g4 => ?_
  refine b_ial l38_130 (bTree_f ht) g4 (b_pc (pc' := 131) rfl ?_)
  refine b_cPi l38_131 rfl (fun _ => trivial) (Nat.le_of_ble_eq_true rfl) (Nat.le_of_ble_eq_true rfl) rfl (r_X2_width (μ (t + 12) v4.toNat) (bO_i hk (bTree_f ht))) fun w1 hw1 => b_pc (pc' := 134) rfl ?_
  refine b_iadd l38_134 fun g2 => (b_pc (pc' := 135) rfl ?_)
  refine b_w (pc' := 136) (lv1 := ax_st1 [(0, .ref t), (1, bI v1), (2, bI v2), (3, bI v3), (4, bI v4)] 2 (bI (v2 + w1))) (lv' := [(0, .ref t), (1, bI v1), (2, bI (v2 + w1)), (3, bI v3)]) (st' := []) l38_135 (fun _ => rfl) (bSb rfl (bSb rfl (bSb rfl (bSb rfl bSn)))) ?_
  refine b_inc (lv' := [(0, .ref t), (1, bI v1), (2, bI (v2 + w1)), (3, bI (v3 + 1))]) l38_136 rfl (by decide +kernel) (bSb rfl (bSb rfl (bSb rfl (bSb rfl bSn)))) fun g3 => (b_pc (pc' := 139) rfl ?_)
  refine b_s (pc' := 4) (lv1 := [(0, .ref t), (1, bI v1), (2, bI (v2 + w1)), (3, bI (v3 + 1))]) (st' := []) l38_139 (fun _ => rfl) ?_
  refine bD.wk (lv' := [(0, .ref t), (1, bI v1), (2, bI (v2 + w1)), (3, bI (v3 + 1))]) (bSb rfl (bSb rfl (bSb rfl (bSb rfl bSn)))) ?_
  exact H4 (v2 + w1) (v3 + 1) g2 g3
theorem q_X3_steadyValueBytes_4 {L : Nat} {xs : Nat → Int32} {d : Nat} {μ : bM} {t : Nat} {v1 : Int} {κ : ((Int × Int) ⊕ (Int)) → Option bX} (hr : ∀ r : Int, κ (.inr r) = (bPc μ) r) (H4 : ∀ (v2 : Int) (v3 : Int), bR v2 → bR v3 → bD L xs (d + 1) 38 4 [(0, .ref t), (1, bI v1), (2, bI v2), (3, bI v3)] [] μ (κ (.inl (v2, v3)))) (ht : bTree t) (h1 : bR v1) {v2 : Int} (h2 : bR v2) {v3 : Int} (h3 : bR v3) : bD L xs (d + 1) 38 4 [(0, .ref t), (1, bI v1), (2, bI v2), (3, bI v3)] [] μ ((F_X3_steadyValueBytes_4 t v1 μ v2 v3).bind κ) := by
  unfold F_X3_steadyValueBytes_4
  refine bD.ok fun hk => ?_
  refine b_s (pc' := 5) (lv1 := [(0, .ref t), (1, bI v1), (2, bI v2), (3, bI v3)]) (st' := [bI v3]) l38_4 (fun _ => rfl) ?_
  refine b_s (pc' := 6) (lv1 := [(0, .ref t), (1, bI v1), (2, bI v2), (3, bI v3)]) (st' := [.ref t, bI v3]) l38_5 (fun _ => rfl) ?_
  refine b_gp (q' := (t + 10)) (j := 10) l38_6 ht (by decide) (by decide) rfl hk rfl rfl (b_pc (pc' := 9) rfl ?_)
  refine b_s (pc' := 10) (lv1 := [(0, .ref t), (1, bI v1), (2, bI v2), (3, bI v3)]) (st' := [bI v1, .ref (t + 10), bI v3]) l38_9 (fun _ => rfl) ?_
  refine b_g fun g20 => ?_
  refine b_ial l38_10 (bTree_e ht 10 (by decide)) g20 (b_pc (pc' := 11) rfl ?_)
  refine b_ige (pt := 142) l38_11 h3 (bO_i hk (bTree_e ht 10 (by decide))) (by decide) rfl (fun c1 => ?_) (fun c1 => b_pc (pc' := 14) rfl ?_)
  · refine b_s (pc' := 143) (lv1 := [(0, .ref t), (1, bI v1), (2, bI v2), (3, bI v3)]) (st' := [bI v2]) l38_142 (fun _ => rfl) ?_
    exact b_reti l38_143 rfl h2 (hr _)
  · refine b_s (pc' := 15) (lv1 := [(0, .ref t), (1, bI v1), (2, bI v2), (3, bI v3)]) (st' := [bI v1]) l38_14 (fun _ => rfl) ?_
    refine b_s (pc' := 16) (lv1 := [(0, .ref t), (1, bI v1), (2, bI v2), (3, bI v3)]) (st' := [bI v3, bI v1]) l38_15 (fun _ => rfl) ?_
    refine b_cPi l38_16 rfl (fun _ => trivial) (Nat.le_of_ble_eq_true rfl) (Nat.le_of_ble_eq_true rfl) rfl (r_X8_slotAt v1 h1 v3 h3) fun w2 hw2 => b_pc (pc' := 19) rfl ?_
    refine b_w (pc' := 21) (lv1 := ax_st1 [(0, .ref t), (1, bI v1), (2, bI v2), (3, bI v3)] 4 (bI w2)) (lv' := [(0, .ref t), (1, bI v1), (2, bI v2), (3, bI v3), (4, bI w2)]) (st' := []) l38_19 (fun _ => rfl) (bSb rfl (bSb rfl (bSb rfl (bSb rfl (bSb rfl bSn))))) ?_
    refine b_s (pc' := 22) (lv1 := [(0, .ref t), (1, bI v1), (2, bI v2), (3, bI v3), (4, bI w2)]) (st' := [.ref t]) l38_21 (fun _ => rfl) ?_
    refine b_gp (q' := (t + 12)) (j := 12) l38_22 ht (by decide) (by decide) rfl hk rfl rfl (b_pc (pc' := 25) rfl ?_)
    refine b_s (pc' := 27) (lv1 := [(0, .ref t), (1, bI v1), (2, bI v2), (3, bI v3), (4, bI w2)]) (st' := [bI w2, .ref (t + 12)]) l38_25 (fun _ => rfl) ?_
    refine b_g fun g19 => ?_
    refine b_ial l38_27 (bTree_f ht) g19 (b_pc (pc' := 28) rfl ?_)
    refine b_tsw l38_28 (bO_i hk (bTree_f ht)) (by decide) (by decide) (by decide) ?_
    refine b_pc (pc' := bTg [(8, 108), (9, 123), (10, 108), (11, 123), (12, 123), (13, 76), (14, 123), (15, 92)] 123 (μ (t + 12) w2.toNat)) rfl ?_
    refine b_tg (fun c18 => ?_) (fun c18 => ?_)
    · refine bD.wk (lv' := [(0, .ref t), (1, bI v1), (2, bI v2), (3, bI v3), (4, bI w2)]) (bSb rfl (bSb rfl (bSb rfl (bSb rfl (bSb rfl bSn))))) ?_
      exact p_X3_steadyValueBytes_108 hr H4 ht h1 h2 h3 hw2
    · refine b_tg (fun c17 => ?_) (fun c17 => ?_)
      · refine bD.wk (lv' := [(0, .ref t), (1, bI v1), (2, bI v2), (3, bI v3), (4, bI w2)]) (bSb rfl (bSb rfl (bSb rfl (bSb rfl (bSb rfl bSn))))) ?_
        exact p_X3_steadyValueBytes_123 hr H4 ht h1 h2 h3 hw2
      · refine b_tg (fun c16 => ?_) (fun c16 => ?_)
        · refine bD.wk (lv' := [(0, .ref t), (1, bI v1), (2, bI v2), (3, bI v3), (4, bI w2)]) (bSb rfl (bSb rfl (bSb rfl (bSb rfl (bSb rfl bSn))))) ?_
          exact p_X3_steadyValueBytes_108 hr H4 ht h1 h2 h3 hw2
        · refine b_tg (fun c15 => ?_) (fun c15 => ?_)
          · refine bD.wk (lv' := [(0, .ref t), (1, bI v1), (2, bI v2), (3, bI v3), (4, bI w2)]) (bSb rfl (bSb rfl (bSb rfl (bSb rfl (bSb rfl bSn))))) ?_
            exact p_X3_steadyValueBytes_123 hr H4 ht h1 h2 h3 hw2
          · refine b_tg (fun c14 => ?_) (fun c14 => ?_)
            · refine bD.wk (lv' := [(0, .ref t), (1, bI v1), (2, bI v2), (3, bI v3), (4, bI w2)]) (bSb rfl (bSb rfl (bSb rfl (bSb rfl (bSb rfl bSn))))) ?_
              exact p_X3_steadyValueBytes_123 hr H4 ht h1 h2 h3 hw2
            · refine b_tg (fun c13 => ?_) (fun c13 => ?_)
              · refine b_s (pc' := 77) (lv1 := [(0, .ref t), (1, bI v1), (2, bI v2), (3, bI v3), (4, bI w2)]) (st' := [bI v2]) l38_76 (fun _ => rfl) ?_
                refine b_s (pc' := 78) (lv1 := [(0, .ref t), (1, bI v1), (2, bI v2), (3, bI v3), (4, bI w2)]) (st' := [.ref t, bI v2]) l38_77 (fun _ => rfl) ?_
                refine b_gp (q' := (t + 13)) (j := 13) l38_78 ht (by decide) (by decide) rfl hk rfl rfl (b_pc (pc' := 81) rfl ?_)
                refine b_s (pc' := 83) (lv1 := [(0, .ref t), (1, bI v1), (2, bI v2), (3, bI v3), (4, bI w2)]) (st' := [bI w2, .ref (t + 13), bI v2]) l38_81 (fun _ => rfl) ?_
                refine b_g fun g6 => ?_
                refine b_lal l38_83 (bTree_v ht) g6 (b_pc (pc' := 84) rfl ?_)
                refine b_cPi l38_84 rfl (fun _ => trivial) (Nat.le_of_ble_eq_true rfl) (Nat.le_of_ble_eq_true rfl) rfl (r_X6_signedRowSize (μ (t + 13) w2.toNat) (bO_l hk (bTree_v ht))) fun w3 hw3 => b_pc (pc' := 87) rfl ?_
                refine b_iadd l38_87 fun g4 => (b_pc (pc' := 88) rfl ?_)
                refine b_w (pc' := 89) (lv1 := ax_st1 [(0, .ref t), (1, bI v1), (2, bI v2), (3, bI v3), (4, bI w2)] 2 (bI (v2 + w3))) (lv' := [(0, .ref t), (1, bI v1), (2, bI (v2 + w3)), (3, bI v3)]) (st' := []) l38_88 (fun _ => rfl) (bSb rfl (bSb rfl (bSb rfl (bSb rfl bSn)))) ?_
                refine b_s (pc' := 136) (lv1 := [(0, .ref t), (1, bI v1), (2, bI (v2 + w3)), (3, bI v3)]) (st' := []) l38_89 (fun _ => rfl) ?_
                refine b_inc (lv' := [(0, .ref t), (1, bI v1), (2, bI (v2 + w3)), (3, bI (v3 + 1))]) l38_136 rfl (by decide +kernel) (bSb rfl (bSb rfl (bSb rfl (bSb rfl bSn)))) fun g5 => (b_pc (pc' := 139) rfl ?_)
                refine b_s (pc' := 4) (lv1 := [(0, .ref t), (1, bI v1), (2, bI (v2 + w3)), (3, bI (v3 + 1))]) (st' := []) l38_139 (fun _ => rfl) ?_
                refine bD.wk (lv' := [(0, .ref t), (1, bI v1), (2, bI (v2 + w3)), (3, bI (v3 + 1))]) (bSb rfl (bSb rfl (bSb rfl (bSb rfl bSn)))) ?_
                exact H4 (v2 + w3) (v3 + 1) g4 g5
              · refine b_tg (fun c12 => ?_) (fun c12 => ?_)
                · refine bD.wk (lv' := [(0, .ref t), (1, bI v1), (2, bI v2), (3, bI v3), (4, bI w2)]) (bSb rfl (bSb rfl (bSb rfl (bSb rfl (bSb rfl bSn))))) ?_
                  exact p_X3_steadyValueBytes_123 hr H4 ht h1 h2 h3 hw2
                · refine b_tg (fun c11 => ?_) (fun c11 => ?_)
                  · refine b_s (pc' := 93) (lv1 := [(0, .ref t), (1, bI v1), (2, bI v2), (3, bI v3), (4, bI w2)]) (st' := [bI v2]) l38_92 (fun _ => rfl) ?_
                    refine b_s (pc' := 94) (lv1 := [(0, .ref t), (1, bI v1), (2, bI v2), (3, bI v3), (4, bI w2)]) (st' := [.ref t, bI v2]) l38_93 (fun _ => rfl) ?_
                    refine b_gp (q' := (t + 13)) (j := 13) l38_94 ht (by decide) (by decide) rfl hk rfl rfl (b_pc (pc' := 97) rfl ?_)
                    refine b_s (pc' := 99) (lv1 := [(0, .ref t), (1, bI v1), (2, bI v2), (3, bI v3), (4, bI w2)]) (st' := [bI w2, .ref (t + 13), bI v2]) l38_97 (fun _ => rfl) ?_
                    refine b_g fun g10 => ?_
                    refine b_lal l38_99 (bTree_v ht) g10 (b_pc (pc' := 100) rfl ?_)
                    refine b_cPi l38_100 rfl (fun _ => trivial) (Nat.le_of_ble_eq_true rfl) (Nat.le_of_ble_eq_true rfl) rfl (r_X6_rowSize (μ (t + 13) w2.toNat) (bO_l hk (bTree_v ht))) fun w7 hw7 => b_pc (pc' := 103) rfl ?_
                    refine b_iadd l38_103 fun g8 => (b_pc (pc' := 104) rfl ?_)
                    refine b_w (pc' := 105) (lv1 := ax_st1 [(0, .ref t), (1, bI v1), (2, bI v2), (3, bI v3), (4, bI w2)] 2 (bI (v2 + w7))) (lv' := [(0, .ref t), (1, bI v1), (2, bI (v2 + w7)), (3, bI v3)]) (st' := []) l38_104 (fun _ => rfl) (bSb rfl (bSb rfl (bSb rfl (bSb rfl bSn)))) ?_
                    refine b_s (pc' := 136) (lv1 := [(0, .ref t), (1, bI v1), (2, bI (v2 + w7)), (3, bI v3)]) (st' := []) l38_105 (fun _ => rfl) ?_
                    refine b_inc (lv' := [(0, .ref t), (1, bI v1), (2, bI (v2 + w7)), (3, bI (v3 + 1))]) l38_136 rfl (by decide +kernel) (bSb rfl (bSb rfl (bSb rfl (bSb rfl bSn)))) fun g9 => (b_pc (pc' := 139) rfl ?_)
                    refine b_s (pc' := 4) (lv1 := [(0, .ref t), (1, bI v1), (2, bI (v2 + w7)), (3, bI (v3 + 1))]) (st' := []) l38_139 (fun _ => rfl) ?_
                    refine bD.wk (lv' := [(0, .ref t), (1, bI v1), (2, bI (v2 + w7)), (3, bI (v3 + 1))]) (bSb rfl (bSb rfl (bSb rfl (bSb rfl bSn)))) ?_
                    exact H4 (v2 + w7) (v3 + 1) g8 g9
                  · refine b_pc (pc' := 123) rfl ?_
                    refine bD.wk (lv' := [(0, .ref t), (1, bI v1), (2, bI v2), (3, bI v3), (4, bI w2)]) (bSb rfl (bSb rfl (bSb rfl (bSb rfl (bSb rfl bSn))))) ?_
                    exact p_X3_steadyValueBytes_123 hr H4 ht h1 h2 h3 hw2
theorem p_X3_steadyValueBytes_4 {L : Nat} {xs : Nat → Int32} {d : Nat} {μ : bM} {t : Nat} {κ : (Int) → Option bX} (hr : ∀ r : Int, κ r = (bPc μ) r) (ht : bTree t) {v1 : Int} (h1 : bR v1) {v2 : Int} (h2 : bR v2) {v3 : Int} (h3 : bR v3) : bD L xs (d + 1) 38 4 [(0, .ref t), (1, bI v1), (2, bI v2), (3, bI v3)] [] μ ((bLoop (fun z => F_X3_steadyValueBytes_4 t v1 μ z.1 z.2) (v2, v3)).bind κ) :=
  b_loop (fun z => [(0, .ref t), (1, bI v1), (2, bI z.1), (3, bI z.2)]) (fun z => μ) (fun z => bR z.1 ∧ bR z.2) (fun κ' hκ HH z hz => q_X3_steadyValueBytes_4 (κ := κ') (fun r => (hκ _).trans (hr r)) (fun a2 a3 b2 b3 => HH (a2, a3) ⟨b2, b3⟩) ht h1 hz.1 hz.2) (v2, v3) ⟨h2, h3⟩
theorem r_X3_steadyValueBytes {L : Nat} {xs : Nat → Int32} {d : Nat} {μ : bM} (t : Nat) (ht : bTree t) (v1 : Int) (h1 : bR v1) : bD L xs (d + 1) 38 0 [(0, .ref t), (1, bI v1)] [] μ ((F_X3_steadyValueBytes t v1 μ).bind (bPc μ)) := by
  have hr : ∀ r, (bPc μ) r = (bPc μ) r := fun _ => rfl
  unfold F_X3_steadyValueBytes
  refine bD.ok fun hk => ?_
  refine b_s (pc' := 1) (lv1 := [(0, .ref t), (1, bI v1)]) (st' := [bI 0]) l38_0 (fun _ => rfl) ?_
  refine b_w (pc' := 2) (lv1 := ax_st1 [(0, .ref t), (1, bI v1)] 2 (bI 0)) (lv' := [(0, .ref t), (1, bI v1), (2, bI 0)]) (st' := []) l38_1 (fun _ => rfl) (bSb rfl (bSb rfl (bSb rfl bSn))) ?_
  refine b_s (pc' := 3) (lv1 := [(0, .ref t), (1, bI v1), (2, bI 0)]) (st' := [bI 0]) l38_2 (fun _ => rfl) ?_
  refine b_w (pc' := 4) (lv1 := ax_st1 [(0, .ref t), (1, bI v1), (2, bI 0)] 3 (bI 0)) (lv' := [(0, .ref t), (1, bI v1), (2, bI 0), (3, bI 0)]) (st' := []) l38_3 (fun _ => rfl) (bSb rfl (bSb rfl (bSb rfl (bSb rfl bSn)))) ?_
  refine bD.wk (lv' := [(0, .ref t), (1, bI v1), (2, bI 0), (3, bI 0)]) (bSb rfl (bSb rfl (bSb rfl (bSb rfl bSn)))) ?_
  exact p_X3_steadyValueBytes_4 hr ht h1 (by decide) (by decide)
/-! ET$Layout.placeEntries -/
theorem l35_0 : (ax_dt (ax_T 35)).lookup 0 = some (.iconst 0, 1, 0, 0, 0) := by decide +kernel
theorem l35_1 : (ax_dt (ax_T 35)).lookup 1 = some (.istore_n 2, 1, 0, 0, 0) := by decide +kernel
theorem l35_2 : (ax_dt (ax_T 35)).lookup 2 = some (.iload_n 2, 1, 0, 0, 0) := by decide +kernel
theorem l35_3 : (ax_dt (ax_T 35)).lookup 3 = some (.aload_n 0, 1, 0, 0, 0) := by decide +kernel
theorem l35_4 : (ax_dt (ax_T 35)).lookup 4 = some (.getfield 72, 3, 2, 5, 0) := by decide +kernel
theorem l35_7 : (ax_dt (ax_T 35)).lookup 7 = some (.if_icmp .ge 52, 3, 0, 0, 0) := by decide +kernel
theorem l35_10 : (ax_dt (ax_T 35)).lookup 10 = some (.aload_n 0, 1, 0, 0, 0) := by decide +kernel
theorem l35_11 : (ax_dt (ax_T 35)).lookup 11 = some (.getfield 9, 3, 2, 7, 0) := by decide +kernel
theorem l35_14 : (ax_dt (ax_T 35)).lookup 14 = some (.iload_n 2, 1, 0, 0, 0) := by decide +kernel
theorem l35_15 : (ax_dt (ax_T 35)).lookup 15 = some (.iaload, 1, 0, 0, 0) := by decide +kernel
theorem l35_16 : (ax_dt (ax_T 35)).lookup 16 = some (.istore_n 3, 1, 0, 0, 0) := by decide +kernel
theorem l35_17 : (ax_dt (ax_T 35)).lookup 17 = some (.aload_n 0, 1, 0, 0, 0) := by decide +kernel
theorem l35_18 : (ax_dt (ax_T 35)).lookup 18 = some (.getfield 24, 3, 2, 11, 0) := by decide +kernel
theorem l35_21 : (ax_dt (ax_T 35)).lookup 21 = some (.iload_n 3, 1, 0, 0, 0) := by decide +kernel
theorem l35_22 : (ax_dt (ax_T 35)).lookup 22 = some (.aload_n 0, 1, 0, 0, 0) := by decide +kernel
theorem l35_23 : (ax_dt (ax_T 35)).lookup 23 = some (.getfield 30, 3, 2, 13, 0) := by decide +kernel
theorem l35_26 : (ax_dt (ax_T 35)).lookup 26 = some (.iload_n 3, 1, 0, 0, 0) := by decide +kernel
theorem l35_27 : (ax_dt (ax_T 35)).lookup 27 = some (.iaload, 1, 0, 0, 0) := by decide +kernel
theorem l35_28 : (ax_dt (ax_T 35)).lookup 28 = some (.i2l, 1, 0, 0, 0) := by decide +kernel
theorem l35_29 : (ax_dt (ax_T 35)).lookup 29 = some (.invokestatic 156, 3, 68, 1, 0) := by decide +kernel
theorem l35_32 : (ax_dt (ax_T 35)).lookup 32 = some (.aload_n 1, 1, 0, 0, 0) := by decide +kernel
theorem l35_33 : (ax_dt (ax_T 35)).lookup 33 = some (.iload_n 3, 1, 0, 0, 0) := by decide +kernel
theorem l35_34 : (ax_dt (ax_T 35)).lookup 34 = some (.invokestatic 191, 3, 38, 2, 0) := by decide +kernel
theorem l35_37 : (ax_dt (ax_T 35)).lookup 37 = some (.iadd, 1, 0, 0, 0) := by decide +kernel
theorem l35_38 : (ax_dt (ax_T 35)).lookup 38 = some (.aload_n 0, 1, 0, 0, 0) := by decide +kernel
theorem l35_39 : (ax_dt (ax_T 35)).lookup 39 = some (.getfield 21, 3, 2, 10, 0) := by decide +kernel
theorem l35_42 : (ax_dt (ax_T 35)).lookup 42 = some (.iload_n 3, 1, 0, 0, 0) := by decide +kernel
theorem l35_43 : (ax_dt (ax_T 35)).lookup 43 = some (.iaload, 1, 0, 0, 0) := by decide +kernel
theorem l35_44 : (ax_dt (ax_T 35)).lookup 44 = some (.iadd, 1, 0, 0, 0) := by decide +kernel
theorem l35_45 : (ax_dt (ax_T 35)).lookup 45 = some (.iastore, 1, 0, 0, 0) := by decide +kernel
theorem l35_46 : (ax_dt (ax_T 35)).lookup 46 = some (.aload_n 0, 1, 0, 0, 0) := by decide +kernel
theorem l35_47 : (ax_dt (ax_T 35)).lookup 47 = some (.getfield 27, 3, 2, 12, 0) := by decide +kernel
theorem l35_50 : (ax_dt (ax_T 35)).lookup 50 = some (.iload_n 3, 1, 0, 0, 0) := by decide +kernel
theorem l35_51 : (ax_dt (ax_T 35)).lookup 51 = some (.iconst 0, 1, 0, 0, 0) := by decide +kernel
theorem l35_52 : (ax_dt (ax_T 35)).lookup 52 = some (.iastore, 1, 0, 0, 0) := by decide +kernel
theorem l35_53 : (ax_dt (ax_T 35)).lookup 53 = some (.iinc 2 1, 3, 0, 0, 0) := by decide +kernel
theorem l35_56 : (ax_dt (ax_T 35)).lookup 56 = some (.goto (-54), 3, 0, 0, 0) := by decide +kernel
theorem l35_59 : (ax_dt (ax_T 35)).lookup 59 = some (.aload_n 0, 1, 0, 0, 0) := by decide +kernel
theorem l35_60 : (ax_dt (ax_T 35)).lookup 60 = some (.iconst 0, 1, 0, 0, 0) := by decide +kernel
theorem l35_61 : (ax_dt (ax_T 35)).lookup 61 = some (.putfield 194, 3, 2, 2, 0) := by decide +kernel
theorem l35_64 : (ax_dt (ax_T 35)).lookup 64 = some (.iconst 0, 1, 0, 0, 0) := by decide +kernel
theorem l35_65 : (ax_dt (ax_T 35)).lookup 65 = some (.istore_n 2, 1, 0, 0, 0) := by decide +kernel
theorem l35_66 : (ax_dt (ax_T 35)).lookup 66 = some (.iload_n 2, 1, 0, 0, 0) := by decide +kernel
theorem l35_67 : (ax_dt (ax_T 35)).lookup 67 = some (.aload_n 1, 1, 0, 0, 0) := by decide +kernel
theorem l35_68 : (ax_dt (ax_T 35)).lookup 68 = some (.getfield 76, 3, 7, 0, 0) := by decide +kernel
theorem l35_71 : (ax_dt (ax_T 35)).lookup 71 = some (.if_icmp .ge 54, 3, 0, 0, 0) := by decide +kernel
theorem l35_74 : (ax_dt (ax_T 35)).lookup 74 = some (.iconst 1, 1, 0, 0, 0) := by decide +kernel
theorem l35_75 : (ax_dt (ax_T 35)).lookup 75 = some (.istore_n 3, 1, 0, 0, 0) := by decide +kernel
theorem l35_76 : (ax_dt (ax_T 35)).lookup 76 = some (.iconst 0, 1, 0, 0, 0) := by decide +kernel
theorem l35_77 : (ax_dt (ax_T 35)).lookup 77 = some (.istore 4, 2, 0, 0, 0) := by decide +kernel
theorem l35_79 : (ax_dt (ax_T 35)).lookup 79 = some (.iload_n 3, 1, 0, 0, 0) := by decide +kernel
theorem l35_80 : (ax_dt (ax_T 35)).lookup 80 = some (.ifCond .eq 24, 3, 0, 0, 0) := by decide +kernel
theorem l35_83 : (ax_dt (ax_T 35)).lookup 83 = some (.iload 4, 2, 0, 0, 0) := by decide +kernel
theorem l35_85 : (ax_dt (ax_T 35)).lookup 85 = some (.sipush 9600, 3, 0, 0, 0) := by decide +kernel
theorem l35_88 : (ax_dt (ax_T 35)).lookup 88 = some (.if_icmp .ge 16, 3, 0, 0, 0) := by decide +kernel
theorem l35_91 : (ax_dt (ax_T 35)).lookup 91 = some (.aload_n 0, 1, 0, 0, 0) := by decide +kernel
theorem l35_92 : (ax_dt (ax_T 35)).lookup 92 = some (.aload_n 1, 1, 0, 0, 0) := by decide +kernel
theorem l35_93 : (ax_dt (ax_T 35)).lookup 93 = some (.iload_n 2, 1, 0, 0, 0) := by decide +kernel
theorem l35_94 : (ax_dt (ax_T 35)).lookup 94 = some (.invokevirtual 197, 3, 36, 2, 0) := by decide +kernel
theorem l35_97 : (ax_dt (ax_T 35)).lookup 97 = some (.istore_n 3, 1, 0, 0, 0) := by decide +kernel
theorem l35_98 : (ax_dt (ax_T 35)).lookup 98 = some (.iinc 4 1, 3, 0, 0, 0) := by decide +kernel
theorem l35_101 : (ax_dt (ax_T 35)).lookup 101 = some (.goto (-22), 3, 0, 0, 0) := by decide +kernel
theorem l35_104 : (ax_dt (ax_T 35)).lookup 104 = some (.aload_n 0, 1, 0, 0, 0) := by decide +kernel
theorem l35_105 : (ax_dt (ax_T 35)).lookup 105 = some (.dup, 1, 0, 0, 0) := by decide +kernel
theorem l35_106 : (ax_dt (ax_T 35)).lookup 106 = some (.getfield 194, 3, 2, 2, 0) := by decide +kernel
theorem l35_109 : (ax_dt (ax_T 35)).lookup 109 = some (.aload_n 0, 1, 0, 0, 0) := by decide +kernel
theorem l35_110 : (ax_dt (ax_T 35)).lookup 110 = some (.getfield 18, 3, 2, 9, 0) := by decide +kernel
theorem l35_113 : (ax_dt (ax_T 35)).lookup 113 = some (.iload_n 2, 1, 0, 0, 0) := by decide +kernel
theorem l35_114 : (ax_dt (ax_T 35)).lookup 114 = some (.iaload, 1, 0, 0, 0) := by decide +kernel
theorem l35_115 : (ax_dt (ax_T 35)).lookup 115 = some (.iadd, 1, 0, 0, 0) := by decide +kernel
theorem l35_116 : (ax_dt (ax_T 35)).lookup 116 = some (.putfield 194, 3, 2, 2, 0) := by decide +kernel
theorem l35_119 : (ax_dt (ax_T 35)).lookup 119 = some (.iinc 2 1, 3, 0, 0, 0) := by decide +kernel
theorem l35_122 : (ax_dt (ax_T 35)).lookup 122 = some (.goto (-56), 3, 0, 0, 0) := by decide +kernel
theorem l35_125 : (ax_dt (ax_T 35)).lookup 125 = some (.return_, 1, 0, 0, 0) := by decide +kernel
noncomputable def F_X3_placeEntries_104 (t : Nat) (v2 : Int) (μ : bM) : Option ((Int × bM) ⊕ (Int × bM)) := bG (0 ≤ v2 ∧ v2 < 6) (bG (bR ((μ 13 2) + (μ 16 v2.toNat))) (bG (bR (v2 + 1)) (some (.inl ((v2 + 1), (bset μ 13 2 ((μ 13 2) + (μ 16 v2.toNat))))))))
noncomputable def F_X3_placeEntries_79 (t : Nat) (v2 : Int) (v3 : Int) (v4 : Int) (μ : bM) : Option ((Int × Int × bM) ⊕ ((Int × bM) ⊕ (Int × bM))) := if v3 = 0 then bUp (F_X3_placeEntries_104 t v2 μ) else if 9600 ≤ v4 then bUp (F_X3_placeEntries_104 t v2 μ) else bMm (F_X3_moveEntries t v2 μ) (fun w3 μ4 => bG (bR (v4 + 1)) (some (.inl (w3, (v4 + 1), μ4))))
noncomputable def F_X3_placeEntries_66 (t : Nat) (v2 : Int) (μ : bM) : Option ((Int × bM) ⊕ (Int × bM)) := if (μ t 0) ≤ v2 then some (.inr (0, μ)) else bLoop (fun z => F_X3_placeEntries_79 t v2 z.1 z.2.1 z.2.2) (1, 0, μ)
noncomputable def F_X3_placeEntries_2 (t : Nat) (v2 : Int) (μ : bM) : Option ((Int × bM) ⊕ (Int × bM)) := if (μ 13 5) ≤ v2 then bUp (bLoop (fun z => F_X3_placeEntries_66 t z.1 z.2) (0, (bset μ 13 2 0))) else bG (0 ≤ v2 ∧ v2 < 400) (bG (0 ≤ (μ 14 v2.toNat) ∧ (μ 14 v2.toNat) < 400) ((F_X6_rowSize (μ 20 (μ 14 v2.toNat).toNat) μ).bind fun w3 => (F_X3_steadyValueBytes t (μ 14 v2.toNat) μ).bind fun w4 => bG (bR (w3 + w4)) (bG (0 ≤ (μ 14 v2.toNat) ∧ (μ 14 v2.toNat) < 400) (bG (bR ((w3 + w4) + (μ 17 (μ 14 v2.toNat).toNat))) (bG (0 ≤ (μ 14 v2.toNat) ∧ (μ 14 v2.toNat) < 400) (bG (0 ≤ (μ 14 v2.toNat) ∧ (μ 14 v2.toNat) < 400) (bG (bR (v2 + 1)) (some (.inl ((v2 + 1), (bset (bset μ 18 (μ 14 v2.toNat).toNat ((w3 + w4) + (μ 17 (μ 14 v2.toNat).toNat))) 19 (μ 14 v2.toNat).toNat 0)))))))))))
noncomputable def F_X3_placeEntries (t : Nat) (μ : bM) : Option (Int × bM) := bLoop (fun z => F_X3_placeEntries_2 t z.1 z.2) (0, μ)
theorem p_X3_placeEntries_104 {L : Nat} {xs : Nat → Int32} {d : Nat} {μ : bM} {t : Nat} {κ : ((Int × bM) ⊕ (Int × bM)) → Option bX} (hr : ∀ r : Int × bM, κ (.inr r) = (bMc) r) (H66 : ∀ (v2 : Int) (μ : bM), bR v2 → bD L xs (d + 3) 35 66 [(0, .ref 13), (1, .ref t), (2, bI v2)] [] μ (κ (.inl (v2, μ)))) (ht : bTree t) {v2 : Int} (h2 : bR v2) : bD L xs (d + 3) 35 104 [(0, .ref 13), (1, .ref t), (2, bI v2)] [] μ ((F_X3_placeEntries_104 t v2 μ).bind κ) := by
  unfold F_X3_placeEntries_104
  refine bD.ok fun hk => ?_
  refine b_s (pc' := 105) (lv1 := [(0, .ref 13), (1, .ref t), (2, bI v2)]) (st' := [.ref 13]) l35_104 (fun _ => rfl) ?_
  refine b_s (pc' := 106) (lv1 := [(0, .ref 13), (1, .ref t), (2, bI v2)]) (st' := [.ref 13, .ref 13]) l35_105 (fun _ => rfl) ?_
  refine b_gi l35_106 (by rfl) (by decide) (by decide) rfl (b_pc (pc' := 109) rfl ?_)
  refine b_s (pc' := 110) (lv1 := [(0, .ref 13), (1, .ref t), (2, bI v2)]) (st' := [.ref 13, bI (μ 13 2), .ref 13]) l35_109 (fun _ => rfl) ?_
  refine b_gp (q' := 16) (j := 3) l35_110 (by rfl) (by decide) (by decide) rfl hk rfl rfl (b_pc (pc' := 113) rfl ?_)
  refine b_s (pc' := 114) (lv1 := [(0, .ref 13), (1, .ref t), (2, bI v2)]) (st' := [bI v2, .ref 16, bI (μ 13 2), .ref 13]) l35_113 (fun _ => rfl) ?_
  refine b_g fun g4 => ?_
  refine b_ial l35_114 (by rfl) g4 (b_pc (pc' := 115) rfl ?_)
  refine b_iadd l35_115 fun g1 => (b_pc (pc' := 116) rfl ?_)
  refine b_pi l35_116 (by rfl) (by decide) (by decide) rfl rfl g1 (bD.ok fun hk2 => b_pc (pc' := 119) rfl ?_)
  refine b_inc (lv' := [(0, .ref 13), (1, .ref t), (2, bI (v2 + 1))]) l35_119 rfl (by decide +kernel) (bSb rfl (bSb rfl (bSb rfl bSn))) fun g3 => (b_pc (pc' := 122) rfl ?_)
  refine b_s (pc' := 66) (lv1 := [(0, .ref 13), (1, .ref t), (2, bI (v2 + 1))]) (st' := []) l35_122 (fun _ => rfl) ?_
  refine bD.wk (lv' := [(0, .ref 13), (1, .ref t), (2, bI (v2 + 1))]) (bSb rfl (bSb rfl (bSb rfl bSn))) ?_
  exact H66 (v2 + 1) (bset μ 13 2 ((μ 13 2) + (μ 16 v2.toNat))) g3
theorem q_X3_placeEntries_79 {L : Nat} {xs : Nat → Int32} {d : Nat} {μ : bM} {t : Nat} {v2 : Int} {κ : ((Int × Int × bM) ⊕ ((Int × bM) ⊕ (Int × bM))) → Option bX} (hr : ∀ r : Int × bM, κ (.inr (.inr r)) = (bMc) r) (H66 : ∀ (v2 : Int) (μ : bM), bR v2 → bD L xs (d + 3) 35 66 [(0, .ref 13), (1, .ref t), (2, bI v2)] [] μ (κ (.inr (.inl (v2, μ))))) (H79 : ∀ (v3 : Int) (v4 : Int) (μ : bM), bR v3 → bR v4 → bD L xs (d + 3) 35 79 [(0, .ref 13), (1, .ref t), (2, bI v2), (3, bI v3), (4, bI v4)] [] μ (κ (.inl (v3, v4, μ)))) (ht : bTree t) (h2 : bR v2) {v3 : Int} (h3 : bR v3) {v4 : Int} (h4 : bR v4) : bD L xs (d + 3) 35 79 [(0, .ref 13), (1, .ref t), (2, bI v2), (3, bI v3), (4, bI v4)] [] μ ((F_X3_placeEntries_79 t v2 v3 v4 μ).bind κ) := by
  unfold F_X3_placeEntries_79
  refine bD.ok fun hk => ?_
  refine b_s (pc' := 80) (lv1 := [(0, .ref 13), (1, .ref t), (2, bI v2), (3, bI v3), (4, bI v4)]) (st' := [bI v3]) l35_79 (fun _ => rfl) ?_
  refine b_zeq (pt := 104) l35_80 h3 (by decide) rfl (fun c1 => ?_) (fun c1 => b_pc (pc' := 83) rfl ?_)
  · refine b_up (fun _ => rfl) ?_
    refine bD.wk (lv' := [(0, .ref 13), (1, .ref t), (2, bI v2)]) (bSb rfl (bSb rfl (bSb rfl bSn))) ?_
    exact p_X3_placeEntries_104 hr H66 ht h2
  · refine b_s (pc' := 85) (lv1 := [(0, .ref 13), (1, .ref t), (2, bI v2), (3, bI v3), (4, bI v4)]) (st' := [bI v4]) l35_83 (fun _ => rfl) ?_
    refine b_sipush l35_85 (by decide) (b_pc (pc' := 88) rfl ?_)
    refine b_ige (pt := 104) l35_88 h4 (by decide) (by decide) rfl (fun c2 => ?_) (fun c2 => b_pc (pc' := 91) rfl ?_)
    · refine b_up (fun _ => rfl) ?_
      refine bD.wk (lv' := [(0, .ref 13), (1, .ref t), (2, bI v2)]) (bSb rfl (bSb rfl (bSb rfl bSn))) ?_
      exact p_X3_placeEntries_104 hr H66 ht h2
    · refine b_s (pc' := 92) (lv1 := [(0, .ref 13), (1, .ref t), (2, bI v2), (3, bI v3), (4, bI v4)]) (st' := [.ref 13]) l35_91 (fun _ => rfl) ?_
      refine b_s (pc' := 93) (lv1 := [(0, .ref 13), (1, .ref t), (2, bI v2), (3, bI v3), (4, bI v4)]) (st' := [.ref t, .ref 13]) l35_92 (fun _ => rfl) ?_
      refine b_s (pc' := 94) (lv1 := [(0, .ref 13), (1, .ref t), (2, bI v2), (3, bI v3), (4, bI v4)]) (st' := [bI v2, .ref t, .ref 13]) l35_93 (fun _ => rfl) ?_
      refine b_cMz l35_94 rfl (b_rc (ci := 2) (by rfl) (by decide) (by decide +kernel)) (Nat.le_of_ble_eq_true rfl) (Nat.le_of_ble_eq_true rfl) rfl (r_X3_moveEntries t ht v2 h2) fun w3 μ4 hw3 => bD.ok fun hk5 => b_pc (pc' := 97) rfl ?_
      refine b_w (pc' := 98) (lv1 := ax_st1 [(0, .ref 13), (1, .ref t), (2, bI v2), (3, bI v3), (4, bI v4)] 3 (bI w3)) (lv' := [(0, .ref 13), (1, .ref t), (2, bI v2), (3, bI w3), (4, bI v4)]) (st' := []) l35_97 (fun _ => rfl) (bSb rfl (bSb rfl (bSb rfl (bSb rfl (bSb rfl bSn))))) ?_
      refine b_inc (lv' := [(0, .ref 13), (1, .ref t), (2, bI v2), (3, bI w3), (4, bI (v4 + 1))]) l35_98 rfl (by decide +kernel) (bSb rfl (bSb rfl (bSb rfl (bSb rfl (bSb rfl bSn))))) fun g6 => (b_pc (pc' := 101) rfl ?_)
      refine b_s (pc' := 79) (lv1 := [(0, .ref 13), (1, .ref t), (2, bI v2), (3, bI w3), (4, bI (v4 + 1))]) (st' := []) l35_101 (fun _ => rfl) ?_
      refine bD.wk (lv' := [(0, .ref 13), (1, .ref t), (2, bI v2), (3, bI w3), (4, bI (v4 + 1))]) (bSb rfl (bSb rfl (bSb rfl (bSb rfl (bSb rfl bSn))))) ?_
      exact H79 w3 (v4 + 1) μ4 (bZ_R hw3) g6
theorem p_X3_placeEntries_79 {L : Nat} {xs : Nat → Int32} {d : Nat} {μ : bM} {t : Nat} {κ : ((Int × bM) ⊕ (Int × bM)) → Option bX} (hr : ∀ r : Int × bM, κ (.inr r) = (bMc) r) (H66 : ∀ (v2 : Int) (μ : bM), bR v2 → bD L xs (d + 3) 35 66 [(0, .ref 13), (1, .ref t), (2, bI v2)] [] μ (κ (.inl (v2, μ)))) (ht : bTree t) {v2 : Int} (h2 : bR v2) {v3 : Int} (h3 : bR v3) {v4 : Int} (h4 : bR v4) : bD L xs (d + 3) 35 79 [(0, .ref 13), (1, .ref t), (2, bI v2), (3, bI v3), (4, bI v4)] [] μ ((bLoop (fun z => F_X3_placeEntries_79 t v2 z.1 z.2.1 z.2.2) (v3, v4, μ)).bind κ) :=
  b_loop (fun z => [(0, .ref 13), (1, .ref t), (2, bI v2), (3, bI z.1), (4, bI z.2.1)]) (fun z => z.2.2) (fun z => bR z.1 ∧ bR z.2.1) (fun κ' hκ HH z hz => q_X3_placeEntries_79 (κ := κ') (fun r => (hκ _).trans (hr r)) (fun a2 am b2 => b_eq (hκ _) (H66 a2 am b2)) (fun a3 a4 am b3 b4 => HH (a3, a4, am) ⟨b3, b4⟩) ht h2 hz.1 hz.2) (v3, v4, μ) ⟨h3, h4⟩
theorem q_X3_placeEntries_66 {L : Nat} {xs : Nat → Int32} {d : Nat} {μ : bM} {t : Nat} {κ : ((Int × bM) ⊕ (Int × bM)) → Option bX} (hr : ∀ r : Int × bM, κ (.inr r) = (bMc) r) (H66 : ∀ (v2 : Int) (μ : bM), bR v2 → bD L xs (d + 3) 35 66 [(0, .ref 13), (1, .ref t), (2, bI v2)] [] μ (κ (.inl (v2, μ)))) (ht : bTree t) {v2 : Int} (h2 : bR v2) : bD L xs (d + 3) 35 66 [(0, .ref 13), (1, .ref t), (2, bI v2)] [] μ ((F_X3_placeEntries_66 t v2 μ).bind κ) := by
  unfold F_X3_placeEntries_66
  refine bD.ok fun hk => ?_
  refine b_s (pc' := 67) (lv1 := [(0, .ref 13), (1, .ref t), (2, bI v2)]) (st' := [bI v2]) l35_66 (fun _ => rfl) ?_
  refine b_s (pc' := 68) (lv1 := [(0, .ref 13), (1, .ref t), (2, bI v2)]) (st' := [.ref t, bI v2]) l35_67 (fun _ => rfl) ?_
  refine b_gi l35_68 ht (by decide) (by decide) rfl (b_pc (pc' := 71) rfl ?_)
  refine b_ige (pt := 125) l35_71 h2 (bO_f hk (ci := 7) ht rfl) (by decide) rfl (fun c1 => ?_) (fun c1 => b_pc (pc' := 74) rfl ?_)
  · exact b_retv l35_125 rfl (hr _)
  · refine b_s (pc' := 75) (lv1 := [(0, .ref 13), (1, .ref t), (2, bI v2)]) (st' := [bI 1]) l35_74 (fun _ => rfl) ?_
    refine b_w (pc' := 76) (lv1 := ax_st1 [(0, .ref 13), (1, .ref t), (2, bI v2)] 3 (bI 1)) (lv' := [(0, .ref 13), (1, .ref t), (2, bI v2), (3, bI 1)]) (st' := []) l35_75 (fun _ => rfl) (bSb rfl (bSb rfl (bSb rfl (bSb rfl bSn)))) ?_
    refine b_s (pc' := 77) (lv1 := [(0, .ref 13), (1, .ref t), (2, bI v2), (3, bI 1)]) (st' := [bI 0]) l35_76 (fun _ => rfl) ?_
    refine b_w (pc' := 79) (lv1 := ax_st1 [(0, .ref 13), (1, .ref t), (2, bI v2), (3, bI 1)] 4 (bI 0)) (lv' := [(0, .ref 13), (1, .ref t), (2, bI v2), (3, bI 1), (4, bI 0)]) (st' := []) l35_77 (fun _ => rfl) (bSb rfl (bSb rfl (bSb rfl (bSb rfl (bSb rfl bSn))))) ?_
    refine bD.wk (lv' := [(0, .ref 13), (1, .ref t), (2, bI v2), (3, bI 1), (4, bI 0)]) (bSb rfl (bSb rfl (bSb rfl (bSb rfl (bSb rfl bSn))))) ?_
    exact p_X3_placeEntries_79 hr H66 ht h2 (by decide) (by decide)
theorem p_X3_placeEntries_66 {L : Nat} {xs : Nat → Int32} {d : Nat} {μ : bM} {t : Nat} {κ : (Int × bM) → Option bX} (hr : ∀ r : Int × bM, κ r = (bMc) r) (ht : bTree t) {v2 : Int} (h2 : bR v2) : bD L xs (d + 3) 35 66 [(0, .ref 13), (1, .ref t), (2, bI v2)] [] μ ((bLoop (fun z => F_X3_placeEntries_66 t z.1 z.2) (v2, μ)).bind κ) :=
  b_loop (fun z => [(0, .ref 13), (1, .ref t), (2, bI z.1)]) (fun z => z.2) (fun z => bR z.1) (fun κ' hκ HH z hz => q_X3_placeEntries_66 (κ := κ') (fun r => (hκ _).trans (hr r)) (fun a2 am b2 => HH (a2, am) b2) ht hz) (v2, μ) h2
theorem q_X3_placeEntries_2 {L : Nat} {xs : Nat → Int32} {d : Nat} {μ : bM} {t : Nat} {κ : ((Int × bM) ⊕ (Int × bM)) → Option bX} (hr : ∀ r : Int × bM, κ (.inr r) = (bMc) r) (H2 : ∀ (v2 : Int) (μ : bM), bR v2 → bD L xs (d + 3) 35 2 [(0, .ref 13), (1, .ref t), (2, bI v2)] [] μ (κ (.inl (v2, μ)))) (ht : bTree t) {v2 : Int} (h2 : bR v2) : bD L xs (d + 3) 35 2 [(0, .ref 13), (1, .ref t), (2, bI v2)] [] μ ((F_X3_placeEntries_2 t v2 μ).bind κ) := by
  unfold F_X3_placeEntries_2
  refine bD.ok fun hk => ?_
  refine b_s (pc' := 3) (lv1 := [(0, .ref 13), (1, .ref t), (2, bI v2)]) (st' := [bI v2]) l35_2 (fun _ => rfl) ?_
  refine b_s (pc' := 4) (lv1 := [(0, .ref 13), (1, .ref t), (2, bI v2)]) (st' := [.ref 13, bI v2]) l35_3 (fun _ => rfl) ?_
  refine b_gi l35_4 (by rfl) (by decide) (by decide) rfl (b_pc (pc' := 7) rfl ?_)
  refine b_ige (pt := 59) l35_7 h2 (bO_f hk (ci := 2) (by rfl) rfl) (by decide) rfl (fun c1 => ?_) (fun c1 => b_pc (pc' := 10) rfl ?_)
  · refine b_s (pc' := 60) (lv1 := [(0, .ref 13), (1, .ref t), (2, bI v2)]) (st' := [.ref 13]) l35_59 (fun _ => rfl) ?_
    refine b_s (pc' := 61) (lv1 := [(0, .ref 13), (1, .ref t), (2, bI v2)]) (st' := [bI 0, .ref 13]) l35_60 (fun _ => rfl) ?_
    refine b_pi l35_61 (by rfl) (by decide) (by decide) rfl rfl (by decide) (bD.ok fun hk2 => b_pc (pc' := 64) rfl ?_)
    refine b_s (pc' := 65) (lv1 := [(0, .ref 13), (1, .ref t), (2, bI v2)]) (st' := [bI 0]) l35_64 (fun _ => rfl) ?_
    refine b_w (pc' := 66) (lv1 := ax_st1 [(0, .ref 13), (1, .ref t), (2, bI v2)] 2 (bI 0)) (lv' := [(0, .ref 13), (1, .ref t), (2, bI 0)]) (st' := []) l35_65 (fun _ => rfl) (bSb rfl (bSb rfl (bSb rfl bSn))) ?_
    refine b_up (fun _ => rfl) ?_
    refine bD.wk (lv' := [(0, .ref 13), (1, .ref t), (2, bI 0)]) (bSb rfl (bSb rfl (bSb rfl bSn))) ?_
    exact p_X3_placeEntries_66 hr ht (by decide)
  · refine b_s (pc' := 11) (lv1 := [(0, .ref 13), (1, .ref t), (2, bI v2)]) (st' := [.ref 13]) l35_10 (fun _ => rfl) ?_
    refine b_gp (q' := 14) (j := 1) l35_11 (by rfl) (by decide) (by decide) rfl hk rfl rfl (b_pc (pc' := 14) rfl ?_)
    refine b_s (pc' := 15) (lv1 := [(0, .ref 13), (1, .ref t), (2, bI v2)]) (st' := [bI v2, .ref 14]) l35_14 (fun _ => rfl) ?_
    refine b_g fun g14 => ?_
    refine b_ial l35_15 (by rfl) g14 (b_pc (pc' := 16) rfl ?_)
    refine b_w (pc' := 17) (lv1 := ax_st1 [(0, .ref 13), (1, .ref t), (2, bI v2)] 3 (bI (μ 14 v2.toNat))) (lv' := [(0, .ref 13), (1, .ref t), (2, bI v2), (3, bI (μ 14 v2.toNat))]) (st' := []) l35_16 (fun _ => rfl) (bSb rfl (bSb rfl (bSb rfl (bSb rfl bSn)))) ?_
    refine b_s (pc' := 18) (lv1 := [(0, .ref 13), (1, .ref t), (2, bI v2), (3, bI (μ 14 v2.toNat))]) (st' := [.ref 13]) l35_17 (fun _ => rfl) ?_
    refine b_gp (q' := 18) (j := 5) l35_18 (by rfl) (by decide) (by decide) rfl hk rfl rfl (b_pc (pc' := 21) rfl ?_)
    refine b_s (pc' := 22) (lv1 := [(0, .ref 13), (1, .ref t), (2, bI v2), (3, bI (μ 14 v2.toNat))]) (st' := [bI (μ 14 v2.toNat), .ref 18]) l35_21 (fun _ => rfl) ?_
    refine b_s (pc' := 23) (lv1 := [(0, .ref 13), (1, .ref t), (2, bI v2), (3, bI (μ 14 v2.toNat))]) (st' := [.ref 13, bI (μ 14 v2.toNat), .ref 18]) l35_22 (fun _ => rfl) ?_
    refine b_gp (q' := 20) (j := 7) l35_23 (by rfl) (by decide) (by decide) rfl hk rfl rfl (b_pc (pc' := 26) rfl ?_)
    refine b_s (pc' := 27) (lv1 := [(0, .ref 13), (1, .ref t), (2, bI v2), (3, bI (μ 14 v2.toNat))]) (st' := [bI (μ 14 v2.toNat), .ref 20, bI (μ 14 v2.toNat), .ref 18]) l35_26 (fun _ => rfl) ?_
    refine b_g fun g13 => ?_
    refine b_ial l35_27 (by rfl) g13 (b_pc (pc' := 28) rfl ?_)
    refine b_i2l l35_28 (bO_i hk (by rfl)) (b_pc (pc' := 29) rfl ?_)
    refine b_cPi l35_29 rfl (fun _ => trivial) (Nat.le_of_ble_eq_true rfl) (Nat.le_of_ble_eq_true rfl) rfl (r_X6_rowSize (μ 20 (μ 14 v2.toNat).toNat) (bR_L (bO_i hk (by rfl)))) fun w3 hw3 => b_pc (pc' := 32) rfl ?_
    refine b_s (pc' := 33) (lv1 := [(0, .ref 13), (1, .ref t), (2, bI v2), (3, bI (μ 14 v2.toNat))]) (st' := [.ref t, bI w3, bI (μ 14 v2.toNat), .ref 18]) l35_32 (fun _ => rfl) ?_
    refine b_s (pc' := 34) (lv1 := [(0, .ref 13), (1, .ref t), (2, bI v2), (3, bI (μ 14 v2.toNat))]) (st' := [bI (μ 14 v2.toNat), .ref t, bI w3, bI (μ 14 v2.toNat), .ref 18]) l35_33 (fun _ => rfl) ?_
    refine b_cPi l35_34 rfl (fun _ => trivial) (Nat.le_of_ble_eq_true rfl) (Nat.le_of_ble_eq_true rfl) rfl (r_X3_steadyValueBytes t ht (μ 14 v2.toNat) (bO_i hk (by rfl))) fun w4 hw4 => b_pc (pc' := 37) rfl ?_
    refine b_iadd l35_37 fun g5 => (b_pc (pc' := 38) rfl ?_)
    refine b_s (pc' := 39) (lv1 := [(0, .ref 13), (1, .ref t), (2, bI v2), (3, bI (μ 14 v2.toNat))]) (st' := [.ref 13, bI (w3 + w4), bI (μ 14 v2.toNat), .ref 18]) l35_38 (fun _ => rfl) ?_
    refine b_gp (q' := 17) (j := 4) l35_39 (by rfl) (by decide) (by decide) rfl hk rfl rfl (b_pc (pc' := 42) rfl ?_)
    refine b_s (pc' := 43) (lv1 := [(0, .ref 13), (1, .ref t), (2, bI v2), (3, bI (μ 14 v2.toNat))]) (st' := [bI (μ 14 v2.toNat), .ref 17, bI (w3 + w4), bI (μ 14 v2.toNat), .ref 18]) l35_42 (fun _ => rfl) ?_
    refine b_g fun g12 => ?_
    refine b_ial l35_43 (by rfl) g12 (b_pc (pc' := 44) rfl ?_)
    refine b_iadd l35_44 fun g6 => (b_pc (pc' := 45) rfl ?_)
    refine b_g fun g11 => ?_
    refine b_ias l35_45 (by rfl) g11 g6 (bD.ok fun hk7 => b_pc (pc' := 46) rfl ?_)
    refine b_s (pc' := 47) (lv1 := [(0, .ref 13), (1, .ref t), (2, bI v2), (3, bI (μ 14 v2.toNat))]) (st' := [.ref 13]) l35_46 (fun _ => rfl) ?_
    refine b_gp (q' := 19) (j := 6) l35_47 (by rfl) (by decide) (by decide) rfl hk7 rfl rfl (b_pc (pc' := 50) rfl ?_)
    refine b_s (pc' := 51) (lv1 := [(0, .ref 13), (1, .ref t), (2, bI v2), (3, bI (μ 14 v2.toNat))]) (st' := [bI (μ 14 v2.toNat), .ref 19]) l35_50 (fun _ => rfl) ?_
    refine b_s (pc' := 52) (lv1 := [(0, .ref 13), (1, .ref t), (2, bI v2), (3, bI (μ 14 v2.toNat))]) (st' := [bI 0, bI (μ 14 v2.toNat), .ref 19]) l35_51 (fun _ => rfl) ?_
    refine b_g fun g10 => ?_
    refine b_ias l35_52 (by rfl) g10 (by decide) (bD.ok fun hk8 => b_pc (pc' := 53) rfl ?_)
    refine b_inc (lv' := [(0, .ref 13), (1, .ref t), (2, bI (v2 + 1))]) l35_53 rfl (by decide +kernel) (bSb rfl (bSb rfl (bSb rfl bSn))) fun g9 => (b_pc (pc' := 56) rfl ?_)
    refine b_s (pc' := 2) (lv1 := [(0, .ref 13), (1, .ref t), (2, bI (v2 + 1))]) (st' := []) l35_56 (fun _ => rfl) ?_
    refine bD.wk (lv' := [(0, .ref 13), (1, .ref t), (2, bI (v2 + 1))]) (bSb rfl (bSb rfl (bSb rfl bSn))) ?_
    exact H2 (v2 + 1) (bset (bset μ 18 (μ 14 v2.toNat).toNat ((w3 + w4) + (μ 17 (μ 14 v2.toNat).toNat))) 19 (μ 14 v2.toNat).toNat 0) g9
theorem p_X3_placeEntries_2 {L : Nat} {xs : Nat → Int32} {d : Nat} {μ : bM} {t : Nat} {κ : (Int × bM) → Option bX} (hr : ∀ r : Int × bM, κ r = (bMc) r) (ht : bTree t) {v2 : Int} (h2 : bR v2) : bD L xs (d + 3) 35 2 [(0, .ref 13), (1, .ref t), (2, bI v2)] [] μ ((bLoop (fun z => F_X3_placeEntries_2 t z.1 z.2) (v2, μ)).bind κ) :=
  b_loop (fun z => [(0, .ref 13), (1, .ref t), (2, bI z.1)]) (fun z => z.2) (fun z => bR z.1) (fun κ' hκ HH z hz => q_X3_placeEntries_2 (κ := κ') (fun r => (hκ _).trans (hr r)) (fun a2 am b2 => HH (a2, am) b2) ht hz) (v2, μ) h2
theorem r_X3_placeEntries {L : Nat} {xs : Nat → Int32} {d : Nat} {μ : bM} (t : Nat) (ht : bTree t)  : bD L xs (d + 3) 35 0 [(0, .ref 13), (1, .ref t)] [] μ ((F_X3_placeEntries t μ).bind (bMc)) := by
  have hr : ∀ r, (bMc) r = (bMc) r := fun _ => rfl
  unfold F_X3_placeEntries
  refine bD.ok fun hk => ?_
  refine b_s (pc' := 1) (lv1 := [(0, .ref 13), (1, .ref t)]) (st' := [bI 0]) l35_0 (fun _ => rfl) ?_
  refine b_w (pc' := 2) (lv1 := ax_st1 [(0, .ref 13), (1, .ref t)] 2 (bI 0)) (lv' := [(0, .ref 13), (1, .ref t), (2, bI 0)]) (st' := []) l35_1 (fun _ => rfl) (bSb rfl (bSb rfl (bSb rfl bSn))) ?_
  refine bD.wk (lv' := [(0, .ref 13), (1, .ref t), (2, bI 0)]) (bSb rfl (bSb rfl (bSb rfl bSn))) ?_
  exact p_X3_placeEntries_2 hr ht (by decide)
/-! ET$Layout.reckon -/
theorem l24_0 : (ax_dt (ax_T 24)).lookup 0 = some (.aload_n 0, 1, 0, 0, 0) := by decide +kernel
theorem l24_1 : (ax_dt (ax_T 24)).lookup 1 = some (.getfield 54, 3, 2, 6, 0) := by decide +kernel
theorem l24_4 : (ax_dt (ax_T 24)).lookup 4 = some (.ifCond .eq 4, 3, 0, 0, 0) := by decide +kernel
theorem l24_7 : (ax_dt (ax_T 24)).lookup 7 = some (.return_, 1, 0, 0, 0) := by decide +kernel
theorem l24_8 : (ax_dt (ax_T 24)).lookup 8 = some (.aload_n 0, 1, 0, 0, 0) := by decide +kernel
theorem l24_9 : (ax_dt (ax_T 24)).lookup 9 = some (.aload_n 1, 1, 0, 0, 0) := by decide +kernel
theorem l24_10 : (ax_dt (ax_T 24)).lookup 10 = some (.invokevirtual 58, 3, 25, 1, 0) := by decide +kernel
theorem l24_13 : (ax_dt (ax_T 24)).lookup 13 = some (.aload_n 0, 1, 0, 0, 0) := by decide +kernel
theorem l24_14 : (ax_dt (ax_T 24)).lookup 14 = some (.aload_n 1, 1, 0, 0, 0) := by decide +kernel
theorem l24_15 : (ax_dt (ax_T 24)).lookup 15 = some (.invokevirtual 62, 3, 27, 1, 0) := by decide +kernel
theorem l24_18 : (ax_dt (ax_T 24)).lookup 18 = some (.aload_n 0, 1, 0, 0, 0) := by decide +kernel
theorem l24_19 : (ax_dt (ax_T 24)).lookup 19 = some (.aload_n 1, 1, 0, 0, 0) := by decide +kernel
theorem l24_20 : (ax_dt (ax_T 24)).lookup 20 = some (.aload_n 2, 1, 0, 0, 0) := by decide +kernel
theorem l24_21 : (ax_dt (ax_T 24)).lookup 21 = some (.invokevirtual 65, 3, 32, 2, 0) := by decide +kernel
theorem l24_24 : (ax_dt (ax_T 24)).lookup 24 = some (.aload_n 0, 1, 0, 0, 0) := by decide +kernel
theorem l24_25 : (ax_dt (ax_T 24)).lookup 25 = some (.aload_n 1, 1, 0, 0, 0) := by decide +kernel
theorem l24_26 : (ax_dt (ax_T 24)).lookup 26 = some (.invokevirtual 69, 3, 35, 1, 0) := by decide +kernel
theorem l24_29 : (ax_dt (ax_T 24)).lookup 29 = some (.aload_n 0, 1, 0, 0, 0) := by decide +kernel
theorem l24_30 : (ax_dt (ax_T 24)).lookup 30 = some (.iconst 1, 1, 0, 0, 0) := by decide +kernel
theorem l24_31 : (ax_dt (ax_T 24)).lookup 31 = some (.putfield 54, 3, 2, 6, 0) := by decide +kernel
theorem l24_34 : (ax_dt (ax_T 24)).lookup 34 = some (.return_, 1, 0, 0, 0) := by decide +kernel
noncomputable def F_X3_reckon (t : Nat) (s : Nat) (μ : bM) : Option (Int × bM) := if (μ 13 6) = 0 then bMm (F_X3_orderEntries t μ) (fun w2 μ3 => bMm (F_X3_numberShapes t μ3) (fun w5 μ6 => bMm (F_X3_placeTexts t s μ6) (fun w8 μ9 => bMm (F_X3_placeEntries t μ9) (fun w11 μ12 => some (0, (bset μ12 13 6 1)))))) else some (0, μ)
theorem r_X3_reckon {L : Nat} {xs : Nat → Int32} {d : Nat} {μ : bM} (t : Nat) (ht : bTree t) (s : Nat) (hs : bStore s)  : bD L xs (d + 5) 24 0 [(0, .ref 13), (1, .ref t), (2, .ref s)] [] μ ((F_X3_reckon t s μ).bind (bMc)) := by
  have hr : ∀ r, (bMc) r = (bMc) r := fun _ => rfl
  unfold F_X3_reckon
  refine bD.ok fun hk => ?_
  refine b_s (pc' := 1) (lv1 := [(0, .ref 13), (1, .ref t), (2, .ref s)]) (st' := [.ref 13]) l24_0 (fun _ => rfl) ?_
  refine b_gz l24_1 (by rfl) (by decide) (by decide) rfl (b_pc (pc' := 4) rfl ?_)
  refine b_zeq (pt := 8) l24_4 (bO_fzr hk (ci := 2) (by rfl) rfl) (by decide) rfl (fun c1 => ?_) (fun c1 => b_pc (pc' := 7) rfl ?_)
  · refine b_s (pc' := 9) (lv1 := [(0, .ref 13), (1, .ref t), (2, .ref s)]) (st' := [.ref 13]) l24_8 (fun _ => rfl) ?_
    refine b_s (pc' := 10) (lv1 := [(0, .ref 13), (1, .ref t), (2, .ref s)]) (st' := [.ref t, .ref 13]) l24_9 (fun _ => rfl) ?_
    refine b_cMv l24_10 rfl (b_rc (ci := 2) (by rfl) (by decide) (by decide +kernel)) (Nat.le_of_ble_eq_true rfl) (Nat.le_of_ble_eq_true rfl) rfl (r_X3_orderEntries t ht) fun w2 μ3 hw2 => bD.ok fun hk4 => b_pc (pc' := 13) rfl ?_
    refine b_s (pc' := 14) (lv1 := [(0, .ref 13), (1, .ref t), (2, .ref s)]) (st' := [.ref 13]) l24_13 (fun _ => rfl) ?_
    refine b_s (pc' := 15) (lv1 := [(0, .ref 13), (1, .ref t), (2, .ref s)]) (st' := [.ref t, .ref 13]) l24_14 (fun _ => rfl) ?_
    refine b_cMv l24_15 rfl (b_rc (ci := 2) (by rfl) (by decide) (by decide +kernel)) (Nat.le_of_ble_eq_true rfl) (Nat.le_of_ble_eq_true rfl) rfl (r_X3_numberShapes t ht) fun w5 μ6 hw5 => bD.ok fun hk7 => b_pc (pc' := 18) rfl ?_
    refine b_s (pc' := 19) (lv1 := [(0, .ref 13), (1, .ref t), (2, .ref s)]) (st' := [.ref 13]) l24_18 (fun _ => rfl) ?_
    refine b_s (pc' := 20) (lv1 := [(0, .ref 13), (1, .ref t), (2, .ref s)]) (st' := [.ref t, .ref 13]) l24_19 (fun _ => rfl) ?_
    refine b_s (pc' := 21) (lv1 := [(0, .ref 13), (1, .ref t), (2, .ref s)]) (st' := [.ref s, .ref t, .ref 13]) l24_20 (fun _ => rfl) ?_
    refine b_cMv l24_21 rfl (b_rc (ci := 2) (by rfl) (by decide) (by decide +kernel)) (Nat.le_of_ble_eq_true rfl) (Nat.le_of_ble_eq_true rfl) rfl (r_X3_placeTexts t ht s hs) fun w8 μ9 hw8 => bD.ok fun hk10 => b_pc (pc' := 24) rfl ?_
    refine b_s (pc' := 25) (lv1 := [(0, .ref 13), (1, .ref t), (2, .ref s)]) (st' := [.ref 13]) l24_24 (fun _ => rfl) ?_
    refine b_s (pc' := 26) (lv1 := [(0, .ref 13), (1, .ref t), (2, .ref s)]) (st' := [.ref t, .ref 13]) l24_25 (fun _ => rfl) ?_
    refine b_cMv l24_26 rfl (b_rc (ci := 2) (by rfl) (by decide) (by decide +kernel)) (Nat.le_of_ble_eq_true rfl) (Nat.le_of_ble_eq_true rfl) rfl (r_X3_placeEntries t ht) fun w11 μ12 hw11 => bD.ok fun hk13 => b_pc (pc' := 29) rfl ?_
    refine b_s (pc' := 30) (lv1 := [(0, .ref 13), (1, .ref t), (2, .ref s)]) (st' := [.ref 13]) l24_29 (fun _ => rfl) ?_
    refine b_s (pc' := 31) (lv1 := [(0, .ref 13), (1, .ref t), (2, .ref s)]) (st' := [bI 1, .ref 13]) l24_30 (fun _ => rfl) ?_
    refine b_pz l24_31 (by rfl) (by decide) (by decide) rfl rfl (by decide) (bD.ok fun hk14 => b_pc (pc' := 34) rfl ?_)
    exact b_retv l24_34 rfl (hr _)
  · exact b_retv l24_7 rfl (hr _)
end
