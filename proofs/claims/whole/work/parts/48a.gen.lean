section
/-! ETModel.firstChild -/
theorem l159_0 : (ax_dt (ax_T 159)).lookup 0 = some (.iconst 0, 1, 0, 0, 0) := by decide +kernel
theorem l159_1 : (ax_dt (ax_T 159)).lookup 1 = some (.istore_n 2, 1, 0, 0, 0) := by decide +kernel
theorem l159_2 : (ax_dt (ax_T 159)).lookup 2 = some (.iload_n 2, 1, 0, 0, 0) := by decide +kernel
theorem l159_3 : (ax_dt (ax_T 159)).lookup 3 = some (.aload_n 0, 1, 0, 0, 0) := by decide +kernel
theorem l159_4 : (ax_dt (ax_T 159)).lookup 4 = some (.getfield 13, 3, 9, 4, 0) := by decide +kernel
theorem l159_7 : (ax_dt (ax_T 159)).lookup 7 = some (.aload_n 0, 1, 0, 0, 0) := by decide +kernel
theorem l159_8 : (ax_dt (ax_T 159)).lookup 8 = some (.getfield 137, 3, 9, 3, 0) := by decide +kernel
theorem l159_11 : (ax_dt (ax_T 159)).lookup 11 = some (.iaload, 1, 0, 0, 0) := by decide +kernel
theorem l159_12 : (ax_dt (ax_T 159)).lookup 12 = some (.if_icmp .ge 25, 3, 0, 0, 0) := by decide +kernel
theorem l159_15 : (ax_dt (ax_T 159)).lookup 15 = some (.aload_n 0, 1, 0, 0, 0) := by decide +kernel
theorem l159_16 : (ax_dt (ax_T 159)).lookup 16 = some (.getfield 26, 3, 9, 8, 0) := by decide +kernel
theorem l159_19 : (ax_dt (ax_T 159)).lookup 19 = some (.aload_n 0, 1, 0, 0, 0) := by decide +kernel
theorem l159_20 : (ax_dt (ax_T 159)).lookup 20 = some (.iload_n 2, 1, 0, 0, 0) := by decide +kernel
theorem l159_21 : (ax_dt (ax_T 159)).lookup 21 = some (.invokevirtual 140, 3, 140, 1, 0) := by decide +kernel
theorem l159_24 : (ax_dt (ax_T 159)).lookup 24 = some (.iaload, 1, 0, 0, 0) := by decide +kernel
theorem l159_25 : (ax_dt (ax_T 159)).lookup 25 = some (.iload_n 1, 1, 0, 0, 0) := by decide +kernel
theorem l159_26 : (ax_dt (ax_T 159)).lookup 26 = some (.if_icmp .ne 5, 3, 0, 0, 0) := by decide +kernel
theorem l159_29 : (ax_dt (ax_T 159)).lookup 29 = some (.iload_n 2, 1, 0, 0, 0) := by decide +kernel
theorem l159_30 : (ax_dt (ax_T 159)).lookup 30 = some (.ireturn, 1, 0, 0, 0) := by decide +kernel
theorem l159_31 : (ax_dt (ax_T 159)).lookup 31 = some (.iinc 2 1, 3, 0, 0, 0) := by decide +kernel
theorem l159_34 : (ax_dt (ax_T 159)).lookup 34 = some (.goto (-32), 3, 0, 0, 0) := by decide +kernel
theorem l159_37 : (ax_dt (ax_T 159)).lookup 37 = some (.iconst (-1), 1, 0, 0, 0) := by decide +kernel
theorem l159_38 : (ax_dt (ax_T 159)).lookup 38 = some (.ireturn, 1, 0, 0, 0) := by decide +kernel
noncomputable def F_X11_firstChild_2 (v1 : Int) (μ : bM) (v2 : Int) : Option ((Int) ⊕ (Int)) := bG (0 ≤ (μ 76 3) ∧ (μ 76 3) < 2) (if (μ 78 (μ 76 3).toNat) ≤ v2 then some (.inr ((-1))) else (F_X11_at v2 μ).bind fun w2 => bG (0 ≤ w2 ∧ w2 < 800) (if ¬ (μ 82 w2.toNat) = v1 then bG (bR (v2 + 1)) (some (.inl (v2 + 1))) else some (.inr (v2))))
noncomputable def F_X11_firstChild (v1 : Int) (μ : bM) : Option (Int) := bLoop (fun z => F_X11_firstChild_2 v1 μ z) 0
theorem q_X11_firstChild_2 {L : Nat} {xs : Nat → Int32} {d : Nat} {μ : bM} {v1 : Int} {κ : ((Int) ⊕ (Int)) → Option bX} (hr : ∀ r : Int, κ (.inr r) = (bPc μ) r) (H2 : ∀ (v2 : Int), bR v2 → bD L xs (d + 1) 159 2 [(0, .ref 76), (1, bI v1), (2, bI v2)] [] μ (κ (.inl v2)))  (h1 : bR v1) {v2 : Int} (h2 : bR v2) : bD L xs (d + 1) 159 2 [(0, .ref 76), (1, bI v1), (2, bI v2)] [] μ ((F_X11_firstChild_2 v1 μ v2).bind κ) := by
  unfold F_X11_firstChild_2
  refine bD.ok fun hk => ?_
  refine b_s (pc' := 3) (lv1 := [(0, .ref 76), (1, bI v1), (2, bI v2)]) (st' := [bI v2]) l159_2 (fun _ => rfl) ?_
  refine b_s (pc' := 4) (lv1 := [(0, .ref 76), (1, bI v1), (2, bI v2)]) (st' := [.ref 76, bI v2]) l159_3 (fun _ => rfl) ?_
  refine b_gp (q' := 78) (j := 2) l159_4 (by rfl) (by decide) (by decide) rfl hk rfl rfl (b_pc (pc' := 7) rfl ?_)
  refine b_s (pc' := 8) (lv1 := [(0, .ref 76), (1, bI v1), (2, bI v2)]) (st' := [.ref 76, .ref 78, bI v2]) l159_7 (fun _ => rfl) ?_
  refine b_gi l159_8 (by rfl) (by decide) (by decide) rfl (b_pc (pc' := 11) rfl ?_)
  refine b_g fun g6 => ?_
  refine b_ial l159_11 (by rfl) g6 (b_pc (pc' := 12) rfl ?_)
  refine b_ige (pt := 37) l159_12 h2 (bO_i hk (by rfl)) (by decide) rfl (fun c1 => ?_) (fun c1 => b_pc (pc' := 15) rfl ?_)
  · refine b_s (pc' := 38) (lv1 := [(0, .ref 76), (1, bI v1), (2, bI v2)]) (st' := [bI (-1)]) l159_37 (fun _ => rfl) ?_
    exact b_reti l159_38 rfl (by decide) (hr _)
  · refine b_s (pc' := 16) (lv1 := [(0, .ref 76), (1, bI v1), (2, bI v2)]) (st' := [.ref 76]) l159_15 (fun _ => rfl) ?_
    refine b_gp (q' := 82) (j := 6) l159_16 (by rfl) (by decide) (by decide) rfl hk rfl rfl (b_pc (pc' := 19) rfl ?_)
    refine b_s (pc' := 20) (lv1 := [(0, .ref 76), (1, bI v1), (2, bI v2)]) (st' := [.ref 76, .ref 82]) l159_19 (fun _ => rfl) ?_
    refine b_s (pc' := 21) (lv1 := [(0, .ref 76), (1, bI v1), (2, bI v2)]) (st' := [bI v2, .ref 76, .ref 82]) l159_20 (fun _ => rfl) ?_
    refine b_cPi l159_21 rfl (b_rc (ci := 9) (by rfl) (by decide) (by decide +kernel)) (Nat.le_of_ble_eq_true rfl) (Nat.le_of_ble_eq_true rfl) rfl (r_X11_at v2 h2) fun w2 hw2 => b_pc (pc' := 24) rfl ?_
    refine b_g fun g5 => ?_
    refine b_ial l159_24 (by rfl) g5 (b_pc (pc' := 25) rfl ?_)
    refine b_s (pc' := 26) (lv1 := [(0, .ref 76), (1, bI v1), (2, bI v2)]) (st' := [bI v1, bI (μ 82 w2.toNat)]) l159_25 (fun _ => rfl) ?_
    refine b_ine (pt := 31) l159_26 (bO_i hk (by rfl)) h1 (by decide) rfl (fun c3 => ?_) (fun c3 => b_pc (pc' := 29) rfl ?_)
    · refine b_inc (lv' := [(0, .ref 76), (1, bI v1), (2, bI (v2 + 1))]) l159_31 rfl (by decide +kernel) (bSb rfl (bSb rfl (bSb rfl bSn))) fun g4 => (b_pc (pc' := 34) rfl ?_)
      refine b_s (pc' := 2) (lv1 := [(0, .ref 76), (1, bI v1), (2, bI (v2 + 1))]) (st' := []) l159_34 (fun _ => rfl) ?_
      refine bD.wk (lv' := [(0, .ref 76), (1, bI v1), (2, bI (v2 + 1))]) (bSb rfl (bSb rfl (bSb rfl bSn))) ?_
      exact H2 (v2 + 1) g4
    · refine b_s (pc' := 30) (lv1 := [(0, .ref 76), (1, bI v1), (2, bI v2)]) (st' := [bI v2]) l159_29 (fun _ => rfl) ?_
      exact b_reti l159_30 rfl h2 (hr _)
theorem p_X11_firstChild_2 {L : Nat} {xs : Nat → Int32} {d : Nat} {μ : bM}  {κ : (Int) → Option bX} (hr : ∀ r : Int, κ r = (bPc μ) r)  {v1 : Int} (h1 : bR v1) {v2 : Int} (h2 : bR v2) : bD L xs (d + 1) 159 2 [(0, .ref 76), (1, bI v1), (2, bI v2)] [] μ ((bLoop (fun z => F_X11_firstChild_2 v1 μ z) v2).bind κ) :=
  b_loop (fun z => [(0, .ref 76), (1, bI v1), (2, bI z)]) (fun z => μ) (fun z => bR z) (fun κ' hκ HH z hz => q_X11_firstChild_2 (κ := κ') (fun r => (hκ _).trans (hr r)) (fun a2 b2 => HH a2 b2)  h1 hz) v2 h2
theorem r_X11_firstChild {L : Nat} {xs : Nat → Int32} {d : Nat} {μ : bM}  (v1 : Int) (h1 : bR v1) : bD L xs (d + 1) 159 0 [(0, .ref 76), (1, bI v1)] [] μ ((F_X11_firstChild v1 μ).bind (bPc μ)) := by
  have hr : ∀ r, (bPc μ) r = (bPc μ) r := fun _ => rfl
  unfold F_X11_firstChild
  refine bD.ok fun hk => ?_
  refine b_s (pc' := 1) (lv1 := [(0, .ref 76), (1, bI v1)]) (st' := [bI 0]) l159_0 (fun _ => rfl) ?_
  refine b_w (pc' := 2) (lv1 := ax_st1 [(0, .ref 76), (1, bI v1)] 2 (bI 0)) (lv' := [(0, .ref 76), (1, bI v1), (2, bI 0)]) (st' := []) l159_1 (fun _ => rfl) (bSb rfl (bSb rfl (bSb rfl bSn))) ?_
  refine bD.wk (lv' := [(0, .ref 76), (1, bI v1), (2, bI 0)]) (bSb rfl (bSb rfl (bSb rfl bSn))) ?_
  exact p_X11_firstChild_2 hr h1 (by decide)
/-! ETModel.nextChild -/
theorem l160_0 : (ax_dt (ax_T 160)).lookup 0 = some (.iload_n 1, 1, 0, 0, 0) := by decide +kernel
theorem l160_1 : (ax_dt (ax_T 160)).lookup 1 = some (.iconst 1, 1, 0, 0, 0) := by decide +kernel
theorem l160_2 : (ax_dt (ax_T 160)).lookup 2 = some (.iadd, 1, 0, 0, 0) := by decide +kernel
theorem l160_3 : (ax_dt (ax_T 160)).lookup 3 = some (.istore_n 2, 1, 0, 0, 0) := by decide +kernel
theorem l160_4 : (ax_dt (ax_T 160)).lookup 4 = some (.iload_n 2, 1, 0, 0, 0) := by decide +kernel
theorem l160_5 : (ax_dt (ax_T 160)).lookup 5 = some (.aload_n 0, 1, 0, 0, 0) := by decide +kernel
theorem l160_6 : (ax_dt (ax_T 160)).lookup 6 = some (.getfield 13, 3, 9, 4, 0) := by decide +kernel
theorem l160_9 : (ax_dt (ax_T 160)).lookup 9 = some (.aload_n 0, 1, 0, 0, 0) := by decide +kernel
theorem l160_10 : (ax_dt (ax_T 160)).lookup 10 = some (.getfield 137, 3, 9, 3, 0) := by decide +kernel
theorem l160_13 : (ax_dt (ax_T 160)).lookup 13 = some (.iaload, 1, 0, 0, 0) := by decide +kernel
theorem l160_14 : (ax_dt (ax_T 160)).lookup 14 = some (.if_icmp .ge 34, 3, 0, 0, 0) := by decide +kernel
theorem l160_17 : (ax_dt (ax_T 160)).lookup 17 = some (.aload_n 0, 1, 0, 0, 0) := by decide +kernel
theorem l160_18 : (ax_dt (ax_T 160)).lookup 18 = some (.getfield 26, 3, 9, 8, 0) := by decide +kernel
theorem l160_21 : (ax_dt (ax_T 160)).lookup 21 = some (.aload_n 0, 1, 0, 0, 0) := by decide +kernel
theorem l160_22 : (ax_dt (ax_T 160)).lookup 22 = some (.iload_n 2, 1, 0, 0, 0) := by decide +kernel
theorem l160_23 : (ax_dt (ax_T 160)).lookup 23 = some (.invokevirtual 140, 3, 140, 1, 0) := by decide +kernel
theorem l160_26 : (ax_dt (ax_T 160)).lookup 26 = some (.iaload, 1, 0, 0, 0) := by decide +kernel
theorem l160_27 : (ax_dt (ax_T 160)).lookup 27 = some (.aload_n 0, 1, 0, 0, 0) := by decide +kernel
theorem l160_28 : (ax_dt (ax_T 160)).lookup 28 = some (.getfield 26, 3, 9, 8, 0) := by decide +kernel
theorem l160_31 : (ax_dt (ax_T 160)).lookup 31 = some (.aload_n 0, 1, 0, 0, 0) := by decide +kernel
theorem l160_32 : (ax_dt (ax_T 160)).lookup 32 = some (.iload_n 1, 1, 0, 0, 0) := by decide +kernel
theorem l160_33 : (ax_dt (ax_T 160)).lookup 33 = some (.invokevirtual 140, 3, 140, 1, 0) := by decide +kernel
theorem l160_36 : (ax_dt (ax_T 160)).lookup 36 = some (.iaload, 1, 0, 0, 0) := by decide +kernel
theorem l160_37 : (ax_dt (ax_T 160)).lookup 37 = some (.if_icmp .ne 5, 3, 0, 0, 0) := by decide +kernel
theorem l160_40 : (ax_dt (ax_T 160)).lookup 40 = some (.iload_n 2, 1, 0, 0, 0) := by decide +kernel
theorem l160_41 : (ax_dt (ax_T 160)).lookup 41 = some (.ireturn, 1, 0, 0, 0) := by decide +kernel
theorem l160_42 : (ax_dt (ax_T 160)).lookup 42 = some (.iinc 2 1, 3, 0, 0, 0) := by decide +kernel
theorem l160_45 : (ax_dt (ax_T 160)).lookup 45 = some (.goto (-41), 3, 0, 0, 0) := by decide +kernel
theorem l160_48 : (ax_dt (ax_T 160)).lookup 48 = some (.iconst (-1), 1, 0, 0, 0) := by decide +kernel
theorem l160_49 : (ax_dt (ax_T 160)).lookup 49 = some (.ireturn, 1, 0, 0, 0) := by decide +kernel
noncomputable def F_X11_nextChild_4 (v1 : Int) (μ : bM) (v2 : Int) : Option ((Int) ⊕ (Int)) := bG (0 ≤ (μ 76 3) ∧ (μ 76 3) < 2) (if (μ 78 (μ 76 3).toNat) ≤ v2 then some (.inr ((-1))) else (F_X11_at v2 μ).bind fun w2 => bG (0 ≤ w2 ∧ w2 < 800) ((F_X11_at v1 μ).bind fun w3 => bG (0 ≤ w3 ∧ w3 < 800) (if ¬ (μ 82 w2.toNat) = (μ 82 w3.toNat) then bG (bR (v2 + 1)) (some (.inl (v2 + 1))) else some (.inr (v2)))))
noncomputable def F_X11_nextChild (v1 : Int) (μ : bM) : Option (Int) := bG (bR (v1 + 1)) (bLoop (fun z => F_X11_nextChild_4 v1 μ z) (v1 + 1))
theorem q_X11_nextChild_4 {L : Nat} {xs : Nat → Int32} {d : Nat} {μ : bM} {v1 : Int} {κ : ((Int) ⊕ (Int)) → Option bX} (hr : ∀ r : Int, κ (.inr r) = (bPc μ) r) (H4 : ∀ (v2 : Int), bR v2 → bD L xs (d + 1) 160 4 [(0, .ref 76), (1, bI v1), (2, bI v2)] [] μ (κ (.inl v2)))  (h1 : bR v1) {v2 : Int} (h2 : bR v2) : bD L xs (d + 1) 160 4 [(0, .ref 76), (1, bI v1), (2, bI v2)] [] μ ((F_X11_nextChild_4 v1 μ v2).bind κ) := by
  unfold F_X11_nextChild_4
  refine bD.ok fun hk => ?_
  refine b_s (pc' := 5) (lv1 := [(0, .ref 76), (1, bI v1), (2, bI v2)]) (st' := [bI v2]) l160_4 (fun _ => rfl) ?_
  refine b_s (pc' := 6) (lv1 := [(0, .ref 76), (1, bI v1), (2, bI v2)]) (st' := [.ref 76, bI v2]) l160_5 (fun _ => rfl) ?_
  refine b_gp (q' := 78) (j := 2) l160_6 (by rfl) (by decide) (by decide) rfl hk rfl rfl (b_pc (pc' := 9) rfl ?_)
  refine b_s (pc' := 10) (lv1 := [(0, .ref 76), (1, bI v1), (2, bI v2)]) (st' := [.ref 76, .ref 78, bI v2]) l160_9 (fun _ => rfl) ?_
  refine b_gi l160_10 (by rfl) (by decide) (by decide) rfl (b_pc (pc' := 13) rfl ?_)
  refine b_g fun g8 => ?_
  refine b_ial l160_13 (by rfl) g8 (b_pc (pc' := 14) rfl ?_)
  refine b_ige (pt := 48) l160_14 h2 (bO_i hk (by rfl)) (by decide) rfl (fun c1 => ?_) (fun c1 => b_pc (pc' := 17) rfl ?_)
  · refine b_s (pc' := 49) (lv1 := [(0, .ref 76), (1, bI v1), (2, bI v2)]) (st' := [bI (-1)]) l160_48 (fun _ => rfl) ?_
    exact b_reti l160_49 rfl (by decide) (hr _)
  · refine b_s (pc' := 18) (lv1 := [(0, .ref 76), (1, bI v1), (2, bI v2)]) (st' := [.ref 76]) l160_17 (fun _ => rfl) ?_
    refine b_gp (q' := 82) (j := 6) l160_18 (by rfl) (by decide) (by decide) rfl hk rfl rfl (b_pc (pc' := 21) rfl ?_)
    refine b_s (pc' := 22) (lv1 := [(0, .ref 76), (1, bI v1), (2, bI v2)]) (st' := [.ref 76, .ref 82]) l160_21 (fun _ => rfl) ?_
    refine b_s (pc' := 23) (lv1 := [(0, .ref 76), (1, bI v1), (2, bI v2)]) (st' := [bI v2, .ref 76, .ref 82]) l160_22 (fun _ => rfl) ?_
    refine b_cPi l160_23 rfl (b_rc (ci := 9) (by rfl) (by decide) (by decide +kernel)) (Nat.le_of_ble_eq_true rfl) (Nat.le_of_ble_eq_true rfl) rfl (r_X11_at v2 h2) fun w2 hw2 => b_pc (pc' := 26) rfl ?_
    refine b_g fun g7 => ?_
    refine b_ial l160_26 (by rfl) g7 (b_pc (pc' := 27) rfl ?_)
    refine b_s (pc' := 28) (lv1 := [(0, .ref 76), (1, bI v1), (2, bI v2)]) (st' := [.ref 76, bI (μ 82 w2.toNat)]) l160_27 (fun _ => rfl) ?_
    refine b_gp (q' := 82) (j := 6) l160_28 (by rfl) (by decide) (by decide) rfl hk rfl rfl (b_pc (pc' := 31) rfl ?_)
    refine b_s (pc' := 32) (lv1 := [(0, .ref 76), (1, bI v1), (2, bI v2)]) (st' := [.ref 76, .ref 82, bI (μ 82 w2.toNat)]) l160_31 (fun _ => rfl) ?_
    refine b_s (pc' := 33) (lv1 := [(0, .ref 76), (1, bI v1), (2, bI v2)]) (st' := [bI v1, .ref 76, .ref 82, bI (μ 82 w2.toNat)]) l160_32 (fun _ => rfl) ?_
    refine b_cPi l160_33 rfl (b_rc (ci := 9) (by rfl) (by decide) (by decide +kernel)) (Nat.le_of_ble_eq_true rfl) (Nat.le_of_ble_eq_true rfl) rfl (r_X11_at v1 h1) fun w3 hw3 => b_pc (pc' := 36) rfl ?_
    refine b_g fun g6 => ?_
    refine b_ial l160_36 (by rfl) g6 (b_pc (pc' := 37) rfl ?_)
    refine b_ine (pt := 42) l160_37 (bO_i hk (by rfl)) (bO_i hk (by rfl)) (by decide) rfl (fun c4 => ?_) (fun c4 => b_pc (pc' := 40) rfl ?_)
    · refine b_inc (lv' := [(0, .ref 76), (1, bI v1), (2, bI (v2 + 1))]) l160_42 rfl (by decide +kernel) (bSb rfl (bSb rfl (bSb rfl bSn))) fun g5 => (b_pc (pc' := 45) rfl ?_)
      refine b_s (pc' := 4) (lv1 := [(0, .ref 76), (1, bI v1), (2, bI (v2 + 1))]) (st' := []) l160_45 (fun _ => rfl) ?_
      refine bD.wk (lv' := [(0, .ref 76), (1, bI v1), (2, bI (v2 + 1))]) (bSb rfl (bSb rfl (bSb rfl bSn))) ?_
      exact H4 (v2 + 1) g5
    · refine b_s (pc' := 41) (lv1 := [(0, .ref 76), (1, bI v1), (2, bI v2)]) (st' := [bI v2]) l160_40 (fun _ => rfl) ?_
      exact b_reti l160_41 rfl h2 (hr _)
theorem p_X11_nextChild_4 {L : Nat} {xs : Nat → Int32} {d : Nat} {μ : bM}  {κ : (Int) → Option bX} (hr : ∀ r : Int, κ r = (bPc μ) r)  {v1 : Int} (h1 : bR v1) {v2 : Int} (h2 : bR v2) : bD L xs (d + 1) 160 4 [(0, .ref 76), (1, bI v1), (2, bI v2)] [] μ ((bLoop (fun z => F_X11_nextChild_4 v1 μ z) v2).bind κ) :=
  b_loop (fun z => [(0, .ref 76), (1, bI v1), (2, bI z)]) (fun z => μ) (fun z => bR z) (fun κ' hκ HH z hz => q_X11_nextChild_4 (κ := κ') (fun r => (hκ _).trans (hr r)) (fun a2 b2 => HH a2 b2)  h1 hz) v2 h2
theorem r_X11_nextChild {L : Nat} {xs : Nat → Int32} {d : Nat} {μ : bM}  (v1 : Int) (h1 : bR v1) : bD L xs (d + 1) 160 0 [(0, .ref 76), (1, bI v1)] [] μ ((F_X11_nextChild v1 μ).bind (bPc μ)) := by
  have hr : ∀ r, (bPc μ) r = (bPc μ) r := fun _ => rfl
  unfold F_X11_nextChild
  refine bD.ok fun hk => ?_
  refine b_s (pc' := 1) (lv1 := [(0, .ref 76), (1, bI v1)]) (st' := [bI v1]) l160_0 (fun _ => rfl) ?_
  refine b_s (pc' := 2) (lv1 := [(0, .ref 76), (1, bI v1)]) (st' := [bI 1, bI v1]) l160_1 (fun _ => rfl) ?_
  refine b_iadd l160_2 fun g1 => (b_pc (pc' := 3) rfl ?_)
  refine b_w (pc' := 4) (lv1 := ax_st1 [(0, .ref 76), (1, bI v1)] 2 (bI (v1 + 1))) (lv' := [(0, .ref 76), (1, bI v1), (2, bI (v1 + 1))]) (st' := []) l160_3 (fun _ => rfl) (bSb rfl (bSb rfl (bSb rfl bSn))) ?_
  refine bD.wk (lv' := [(0, .ref 76), (1, bI v1), (2, bI (v1 + 1))]) (bSb rfl (bSb rfl (bSb rfl bSn))) ?_
  exact p_X11_nextChild_4 hr h1 g1
/-! ETModel.goThrough -/
theorem l161_0 : (ax_dt (ax_T 161)).lookup 0 = some (.aload_n 0, 1, 0, 0, 0) := by decide +kernel
theorem l161_1 : (ax_dt (ax_T 161)).lookup 1 = some (.iconst 0, 1, 0, 0, 0) := by decide +kernel
theorem l161_2 : (ax_dt (ax_T 161)).lookup 2 = some (.putfield 196, 3, 9, 23, 0) := by decide +kernel
theorem l161_5 : (ax_dt (ax_T 161)).lookup 5 = some (.iconst 0, 1, 0, 0, 0) := by decide +kernel
theorem l161_6 : (ax_dt (ax_T 161)).lookup 6 = some (.istore_n 1, 1, 0, 0, 0) := by decide +kernel
theorem l161_7 : (ax_dt (ax_T 161)).lookup 7 = some (.iload_n 1, 1, 0, 0, 0) := by decide +kernel
theorem l161_8 : (ax_dt (ax_T 161)).lookup 8 = some (.aload_n 0, 1, 0, 0, 0) := by decide +kernel
theorem l161_9 : (ax_dt (ax_T 161)).lookup 9 = some (.getfield 17, 3, 9, 5, 0) := by decide +kernel
theorem l161_12 : (ax_dt (ax_T 161)).lookup 12 = some (.aload_n 0, 1, 0, 0, 0) := by decide +kernel
theorem l161_13 : (ax_dt (ax_T 161)).lookup 13 = some (.getfield 137, 3, 9, 3, 0) := by decide +kernel
theorem l161_16 : (ax_dt (ax_T 161)).lookup 16 = some (.iaload, 1, 0, 0, 0) := by decide +kernel
theorem l161_17 : (ax_dt (ax_T 161)).lookup 17 = some (.if_icmp .ge 134, 3, 0, 0, 0) := by decide +kernel
theorem l161_20 : (ax_dt (ax_T 161)).lookup 20 = some (.aload_n 0, 1, 0, 0, 0) := by decide +kernel
theorem l161_21 : (ax_dt (ax_T 161)).lookup 21 = some (.getfield 20, 3, 9, 6, 0) := by decide +kernel
theorem l161_24 : (ax_dt (ax_T 161)).lookup 24 = some (.bipush 6, 2, 0, 0, 0) := by decide +kernel
theorem l161_26 : (ax_dt (ax_T 161)).lookup 26 = some (.aload_n 0, 1, 0, 0, 0) := by decide +kernel
theorem l161_27 : (ax_dt (ax_T 161)).lookup 27 = some (.getfield 137, 3, 9, 3, 0) := by decide +kernel
theorem l161_30 : (ax_dt (ax_T 161)).lookup 30 = some (.imul, 1, 0, 0, 0) := by decide +kernel
theorem l161_31 : (ax_dt (ax_T 161)).lookup 31 = some (.iload_n 1, 1, 0, 0, 0) := by decide +kernel
theorem l161_32 : (ax_dt (ax_T 161)).lookup 32 = some (.iadd, 1, 0, 0, 0) := by decide +kernel
theorem l161_33 : (ax_dt (ax_T 161)).lookup 33 = some (.iaload, 1, 0, 0, 0) := by decide +kernel
theorem l161_34 : (ax_dt (ax_T 161)).lookup 34 = some (.istore_n 2, 1, 0, 0, 0) := by decide +kernel
theorem l161_35 : (ax_dt (ax_T 161)).lookup 35 = some (.iload_n 2, 1, 0, 0, 0) := by decide +kernel
theorem l161_36 : (ax_dt (ax_T 161)).lookup 36 = some (.iconst (-1), 1, 0, 0, 0) := by decide +kernel
theorem l161_37 : (ax_dt (ax_T 161)).lookup 37 = some (.if_icmp .eq 108, 3, 0, 0, 0) := by decide +kernel
theorem l161_40 : (ax_dt (ax_T 161)).lookup 40 = some (.aload_n 0, 1, 0, 0, 0) := by decide +kernel
theorem l161_41 : (ax_dt (ax_T 161)).lookup 41 = some (.getfield 68, 3, 9, 24, 0) := by decide +kernel
theorem l161_44 : (ax_dt (ax_T 161)).lookup 44 = some (.aload_n 0, 1, 0, 0, 0) := by decide +kernel
theorem l161_45 : (ax_dt (ax_T 161)).lookup 45 = some (.getfield 196, 3, 9, 23, 0) := by decide +kernel
theorem l161_48 : (ax_dt (ax_T 161)).lookup 48 = some (.iload_n 2, 1, 0, 0, 0) := by decide +kernel
theorem l161_49 : (ax_dt (ax_T 161)).lookup 49 = some (.iastore, 1, 0, 0, 0) := by decide +kernel
theorem l161_50 : (ax_dt (ax_T 161)).lookup 50 = some (.aload_n 0, 1, 0, 0, 0) := by decide +kernel
theorem l161_51 : (ax_dt (ax_T 161)).lookup 51 = some (.getfield 71, 3, 9, 25, 0) := by decide +kernel
theorem l161_54 : (ax_dt (ax_T 161)).lookup 54 = some (.aload_n 0, 1, 0, 0, 0) := by decide +kernel
theorem l161_55 : (ax_dt (ax_T 161)).lookup 55 = some (.getfield 196, 3, 9, 23, 0) := by decide +kernel
theorem l161_58 : (ax_dt (ax_T 161)).lookup 58 = some (.iconst 0, 1, 0, 0, 0) := by decide +kernel
theorem l161_59 : (ax_dt (ax_T 161)).lookup 59 = some (.iastore, 1, 0, 0, 0) := by decide +kernel
theorem l161_60 : (ax_dt (ax_T 161)).lookup 60 = some (.aload_n 0, 1, 0, 0, 0) := by decide +kernel
theorem l161_61 : (ax_dt (ax_T 161)).lookup 61 = some (.dup, 1, 0, 0, 0) := by decide +kernel
theorem l161_62 : (ax_dt (ax_T 161)).lookup 62 = some (.getfield 196, 3, 9, 23, 0) := by decide +kernel
theorem l161_65 : (ax_dt (ax_T 161)).lookup 65 = some (.iconst 1, 1, 0, 0, 0) := by decide +kernel
theorem l161_66 : (ax_dt (ax_T 161)).lookup 66 = some (.iadd, 1, 0, 0, 0) := by decide +kernel
theorem l161_67 : (ax_dt (ax_T 161)).lookup 67 = some (.putfield 196, 3, 9, 23, 0) := by decide +kernel
theorem l161_70 : (ax_dt (ax_T 161)).lookup 70 = some (.aload_n 0, 1, 0, 0, 0) := by decide +kernel
theorem l161_71 : (ax_dt (ax_T 161)).lookup 71 = some (.iload_n 2, 1, 0, 0, 0) := by decide +kernel
theorem l161_72 : (ax_dt (ax_T 161)).lookup 72 = some (.invokevirtual 199, 3, 159, 1, 0) := by decide +kernel
theorem l161_75 : (ax_dt (ax_T 161)).lookup 75 = some (.istore_n 3, 1, 0, 0, 0) := by decide +kernel
theorem l161_76 : (ax_dt (ax_T 161)).lookup 76 = some (.iload_n 3, 1, 0, 0, 0) := by decide +kernel
theorem l161_77 : (ax_dt (ax_T 161)).lookup 77 = some (.iconst (-1), 1, 0, 0, 0) := by decide +kernel
theorem l161_78 : (ax_dt (ax_T 161)).lookup 78 = some (.if_icmp .ne 62, 3, 0, 0, 0) := by decide +kernel
theorem l161_81 : (ax_dt (ax_T 161)).lookup 81 = some (.iload_n 2, 1, 0, 0, 0) := by decide +kernel
theorem l161_82 : (ax_dt (ax_T 161)).lookup 82 = some (.iconst (-1), 1, 0, 0, 0) := by decide +kernel
theorem l161_83 : (ax_dt (ax_T 161)).lookup 83 = some (.if_icmp .eq 57, 3, 0, 0, 0) := by decide +kernel
theorem l161_86 : (ax_dt (ax_T 161)).lookup 86 = some (.aload_n 0, 1, 0, 0, 0) := by decide +kernel
theorem l161_87 : (ax_dt (ax_T 161)).lookup 87 = some (.getfield 26, 3, 9, 8, 0) := by decide +kernel
theorem l161_90 : (ax_dt (ax_T 161)).lookup 90 = some (.aload_n 0, 1, 0, 0, 0) := by decide +kernel
theorem l161_91 : (ax_dt (ax_T 161)).lookup 91 = some (.iload_n 2, 1, 0, 0, 0) := by decide +kernel
theorem l161_92 : (ax_dt (ax_T 161)).lookup 92 = some (.invokevirtual 140, 3, 140, 1, 0) := by decide +kernel
theorem l161_95 : (ax_dt (ax_T 161)).lookup 95 = some (.iaload, 1, 0, 0, 0) := by decide +kernel
theorem l161_96 : (ax_dt (ax_T 161)).lookup 96 = some (.iconst (-1), 1, 0, 0, 0) := by decide +kernel
theorem l161_97 : (ax_dt (ax_T 161)).lookup 97 = some (.if_icmp .eq 43, 3, 0, 0, 0) := by decide +kernel
theorem l161_100 : (ax_dt (ax_T 161)).lookup 100 = some (.aload_n 0, 1, 0, 0, 0) := by decide +kernel
theorem l161_101 : (ax_dt (ax_T 161)).lookup 101 = some (.iload_n 2, 1, 0, 0, 0) := by decide +kernel
theorem l161_102 : (ax_dt (ax_T 161)).lookup 102 = some (.invokevirtual 202, 3, 160, 1, 0) := by decide +kernel
theorem l161_105 : (ax_dt (ax_T 161)).lookup 105 = some (.istore_n 3, 1, 0, 0, 0) := by decide +kernel
theorem l161_106 : (ax_dt (ax_T 161)).lookup 106 = some (.iload_n 3, 1, 0, 0, 0) := by decide +kernel
theorem l161_107 : (ax_dt (ax_T 161)).lookup 107 = some (.iconst (-1), 1, 0, 0, 0) := by decide +kernel
theorem l161_108 : (ax_dt (ax_T 161)).lookup 108 = some (.if_icmp .ne (-32), 3, 0, 0, 0) := by decide +kernel
theorem l161_111 : (ax_dt (ax_T 161)).lookup 111 = some (.aload_n 0, 1, 0, 0, 0) := by decide +kernel
theorem l161_112 : (ax_dt (ax_T 161)).lookup 112 = some (.getfield 71, 3, 9, 25, 0) := by decide +kernel
theorem l161_115 : (ax_dt (ax_T 161)).lookup 115 = some (.aload_n 0, 1, 0, 0, 0) := by decide +kernel
theorem l161_116 : (ax_dt (ax_T 161)).lookup 116 = some (.getfield 196, 3, 9, 23, 0) := by decide +kernel
theorem l161_119 : (ax_dt (ax_T 161)).lookup 119 = some (.iconst 1, 1, 0, 0, 0) := by decide +kernel
theorem l161_120 : (ax_dt (ax_T 161)).lookup 120 = some (.isub, 1, 0, 0, 0) := by decide +kernel
theorem l161_121 : (ax_dt (ax_T 161)).lookup 121 = some (.dup2, 1, 0, 0, 0) := by decide +kernel
theorem l161_122 : (ax_dt (ax_T 161)).lookup 122 = some (.iaload, 1, 0, 0, 0) := by decide +kernel
theorem l161_123 : (ax_dt (ax_T 161)).lookup 123 = some (.iconst 1, 1, 0, 0, 0) := by decide +kernel
theorem l161_124 : (ax_dt (ax_T 161)).lookup 124 = some (.iadd, 1, 0, 0, 0) := by decide +kernel
theorem l161_125 : (ax_dt (ax_T 161)).lookup 125 = some (.iastore, 1, 0, 0, 0) := by decide +kernel
theorem l161_126 : (ax_dt (ax_T 161)).lookup 126 = some (.aload_n 0, 1, 0, 0, 0) := by decide +kernel
theorem l161_127 : (ax_dt (ax_T 161)).lookup 127 = some (.getfield 26, 3, 9, 8, 0) := by decide +kernel
theorem l161_130 : (ax_dt (ax_T 161)).lookup 130 = some (.aload_n 0, 1, 0, 0, 0) := by decide +kernel
theorem l161_131 : (ax_dt (ax_T 161)).lookup 131 = some (.iload_n 2, 1, 0, 0, 0) := by decide +kernel
theorem l161_132 : (ax_dt (ax_T 161)).lookup 132 = some (.invokevirtual 140, 3, 140, 1, 0) := by decide +kernel
theorem l161_135 : (ax_dt (ax_T 161)).lookup 135 = some (.iaload, 1, 0, 0, 0) := by decide +kernel
theorem l161_136 : (ax_dt (ax_T 161)).lookup 136 = some (.istore_n 2, 1, 0, 0, 0) := by decide +kernel
theorem l161_137 : (ax_dt (ax_T 161)).lookup 137 = some (.goto (-61), 3, 0, 0, 0) := by decide +kernel
theorem l161_140 : (ax_dt (ax_T 161)).lookup 140 = some (.iload_n 3, 1, 0, 0, 0) := by decide +kernel
theorem l161_141 : (ax_dt (ax_T 161)).lookup 141 = some (.istore_n 2, 1, 0, 0, 0) := by decide +kernel
theorem l161_142 : (ax_dt (ax_T 161)).lookup 142 = some (.goto (-107), 3, 0, 0, 0) := by decide +kernel
theorem l161_145 : (ax_dt (ax_T 161)).lookup 145 = some (.iinc 1 1, 3, 0, 0, 0) := by decide +kernel
theorem l161_148 : (ax_dt (ax_T 161)).lookup 148 = some (.goto (-141), 3, 0, 0, 0) := by decide +kernel
theorem l161_151 : (ax_dt (ax_T 161)).lookup 151 = some (.return_, 1, 0, 0, 0) := by decide +kernel
noncomputable def F_X11_goThrough_76 (v1 : Int) (v2 : Int) (v3 : Int) (μ : bM) : Option ((Int × Int × bM) ⊕ ((Int × bM) ⊕ ((Int × bM) ⊕ (Int × bM)))) := if ¬ v3 = (-1) then some (.inr (.inl (v3, μ))) else if v2 = (-1) then some (.inr (.inl (v3, μ))) else (F_X11_at v2 μ).bind fun w3 => bG (0 ≤ w3 ∧ w3 < 800) (if (μ 82 w3.toNat) = (-1) then some (.inr (.inl (v3, μ))) else (F_X11_nextChild v2 μ).bind fun w5 => if ¬ w5 = (-1) then some (.inl (v2, w5, μ)) else bG (bR ((μ 76 23) - 1)) (bG (0 ≤ ((μ 76 23) - 1) ∧ ((μ 76 23) - 1) < 400) (bG (bR ((μ 96 ((μ 76 23) - 1).toNat) + 1)) (bG (0 ≤ ((μ 76 23) - 1) ∧ ((μ 76 23) - 1) < 400) ((F_X11_at v2 (bset μ 96 ((μ 76 23) - 1).toNat ((μ 96 ((μ 76 23) - 1).toNat) + 1))).bind fun w10 => bG (0 ≤ w10 ∧ w10 < 800) (some (.inl (((bset μ 96 ((μ 76 23) - 1).toNat ((μ 96 ((μ 76 23) - 1).toNat) + 1)) 82 w10.toNat), w5, (bset μ 96 ((μ 76 23) - 1).toNat ((μ 96 ((μ 76 23) - 1).toNat) + 1))))))))))
noncomputable def F_X11_goThrough_35 (v1 : Int) (v2 : Int) (μ : bM) : Option ((Int × bM) ⊕ ((Int × bM) ⊕ (Int × bM))) := if v2 = (-1) then bG (bR (v1 + 1)) (some (.inr (.inl ((v1 + 1), μ)))) else bG (0 ≤ (μ 76 23) ∧ (μ 76 23) < 400) (bG (0 ≤ ((bset μ 95 (μ 76 23).toNat v2) 76 23) ∧ ((bset μ 95 (μ 76 23).toNat v2) 76 23) < 400) (bG (bR (((bset (bset μ 95 (μ 76 23).toNat v2) 96 ((bset μ 95 (μ 76 23).toNat v2) 76 23).toNat 0) 76 23) + 1)) ((F_X11_firstChild v2 (bset (bset (bset μ 95 (μ 76 23).toNat v2) 96 ((bset μ 95 (μ 76 23).toNat v2) 76 23).toNat 0) 76 23 (((bset (bset μ 95 (μ 76 23).toNat v2) 96 ((bset μ 95 (μ 76 23).toNat v2) 76 23).toNat 0) 76 23) + 1))).bind fun w7 => bLoop (fun z => F_X11_goThrough_76 v1 z.1 z.2.1 z.2.2) (v2, w7, (bset (bset (bset μ 95 (μ 76 23).toNat v2) 96 ((bset μ 95 (μ 76 23).toNat v2) 76 23).toNat 0) 76 23 (((bset (bset μ 95 (μ 76 23).toNat v2) 96 ((bset μ 95 (μ 76 23).toNat v2) 76 23).toNat 0) 76 23) + 1))))))
noncomputable def F_X11_goThrough_7 (v1 : Int) (μ : bM) : Option ((Int × bM) ⊕ (Int × bM)) := bG (0 ≤ (μ 76 3) ∧ (μ 76 3) < 2) (if (μ 79 (μ 76 3).toNat) ≤ v1 then some (.inr (0, μ)) else bG (bR (6 * (μ 76 3))) (bG (bR ((6 * (μ 76 3)) + v1)) (bG (0 ≤ ((6 * (μ 76 3)) + v1) ∧ ((6 * (μ 76 3)) + v1) < 12) (bLoop (fun z => F_X11_goThrough_35 v1 z.1 z.2) ((μ 80 ((6 * (μ 76 3)) + v1).toNat), μ)))))
noncomputable def F_X11_goThrough (μ : bM) : Option (Int × bM) := bLoop (fun z => F_X11_goThrough_7 z.1 z.2) (0, (bset μ 76 23 0))
theorem q_X11_goThrough_76 {L : Nat} {xs : Nat → Int32} {d : Nat} {μ : bM} {v1 : Int} {κ : ((Int × Int × bM) ⊕ ((Int × bM) ⊕ ((Int × bM) ⊕ (Int × bM)))) → Option bX} (hr : ∀ r : Int × bM, κ (.inr (.inr (.inr r))) = (bMc) r) (H7 : ∀ (v1 : Int) (μ : bM), bR v1 → bD L xs (d + 2) 161 7 [(0, .ref 76), (1, bI v1)] [] μ (κ (.inr (.inr (.inl (v1, μ)))))) (H35 : ∀ (v2 : Int) (μ : bM), bR v2 → bD L xs (d + 2) 161 35 [(0, .ref 76), (1, bI v1), (2, bI v2)] [] μ (κ (.inr (.inl (v2, μ))))) (H76 : ∀ (v2 : Int) (v3 : Int) (μ : bM), bR v2 → bR v3 → bD L xs (d + 2) 161 76 [(0, .ref 76), (1, bI v1), (2, bI v2), (3, bI v3)] [] μ (κ (.inl (v2, v3, μ))))  (h1 : bR v1) {v2 : Int} (h2 : bR v2) {v3 : Int} (h3 : bR v3) : bD L xs (d + 2) 161 76 [(0, .ref 76), (1, bI v1), (2, bI v2), (3, bI v3)] [] μ ((F_X11_goThrough_76 v1 v2 v3 μ).bind κ) := by
  unfold F_X11_goThrough_76
  refine bD.ok fun hk => ?_
  refine b_s (pc' := 77) (lv1 := [(0, .ref 76), (1, bI v1), (2, bI v2), (3, bI v3)]) (st' := [bI v3]) l161_76 (fun _ => rfl) ?_
  refine b_s (pc' := 78) (lv1 := [(0, .ref 76), (1, bI v1), (2, bI v2), (3, bI v3)]) (st' := [bI (-1), bI v3]) l161_77 (fun _ => rfl) ?_
  refine b_ine (pt := 140) l161_78 h3 (by decide) (by decide) rfl (fun c1 => ?_) (fun c1 => b_pc (pc' := 81) rfl ?_)
  · refine b_s (pc' := 141) (lv1 := [(0, .ref 76), (1, bI v1), (2, bI v2), (3, bI v3)]) (st' := [bI v3]) l161_140 (fun _ => rfl) ?_
    refine b_w (pc' := 142) (lv1 := ax_st1 [(0, .ref 76), (1, bI v1), (2, bI v2), (3, bI v3)] 2 (bI v3)) (lv' := [(0, .ref 76), (1, bI v1), (2, bI v3)]) (st' := []) l161_141 (fun _ => rfl) (bSb rfl (bSb rfl (bSb rfl bSn))) ?_
    refine b_s (pc' := 35) (lv1 := [(0, .ref 76), (1, bI v1), (2, bI v3)]) (st' := []) l161_142 (fun _ => rfl) ?_
    refine bD.wk (lv' := [(0, .ref 76), (1, bI v1), (2, bI v3)]) (bSb rfl (bSb rfl (bSb rfl bSn))) ?_
    exact H35 v3 μ h3
  · refine b_s (pc' := 82) (lv1 := [(0, .ref 76), (1, bI v1), (2, bI v2), (3, bI v3)]) (st' := [bI v2]) l161_81 (fun _ => rfl) ?_
    refine b_s (pc' := 83) (lv1 := [(0, .ref 76), (1, bI v1), (2, bI v2), (3, bI v3)]) (st' := [bI (-1), bI v2]) l161_82 (fun _ => rfl) ?_
    refine b_ieq (pt := 140) l161_83 h2 (by decide) (by decide) rfl (fun c2 => ?_) (fun c2 => b_pc (pc' := 86) rfl ?_)
    · refine b_s (pc' := 141) (lv1 := [(0, .ref 76), (1, bI v1), (2, bI v2), (3, bI v3)]) (st' := [bI v3]) l161_140 (fun _ => rfl) ?_
      refine b_w (pc' := 142) (lv1 := ax_st1 [(0, .ref 76), (1, bI v1), (2, bI v2), (3, bI v3)] 2 (bI v3)) (lv' := [(0, .ref 76), (1, bI v1), (2, bI v3)]) (st' := []) l161_141 (fun _ => rfl) (bSb rfl (bSb rfl (bSb rfl bSn))) ?_
      refine b_s (pc' := 35) (lv1 := [(0, .ref 76), (1, bI v1), (2, bI v3)]) (st' := []) l161_142 (fun _ => rfl) ?_
      refine bD.wk (lv' := [(0, .ref 76), (1, bI v1), (2, bI v3)]) (bSb rfl (bSb rfl (bSb rfl bSn))) ?_
      exact H35 v3 μ h3
    · refine b_s (pc' := 87) (lv1 := [(0, .ref 76), (1, bI v1), (2, bI v2), (3, bI v3)]) (st' := [.ref 76]) l161_86 (fun _ => rfl) ?_
      refine b_gp (q' := 82) (j := 6) l161_87 (by rfl) (by decide) (by decide) rfl hk rfl rfl (b_pc (pc' := 90) rfl ?_)
      refine b_s (pc' := 91) (lv1 := [(0, .ref 76), (1, bI v1), (2, bI v2), (3, bI v3)]) (st' := [.ref 76, .ref 82]) l161_90 (fun _ => rfl) ?_
      refine b_s (pc' := 92) (lv1 := [(0, .ref 76), (1, bI v1), (2, bI v2), (3, bI v3)]) (st' := [bI v2, .ref 76, .ref 82]) l161_91 (fun _ => rfl) ?_
      refine b_cPi l161_92 rfl (b_rc (ci := 9) (by rfl) (by decide) (by decide +kernel)) (Nat.le_of_ble_eq_true rfl) (Nat.le_of_ble_eq_true rfl) rfl (r_X11_at v2 h2) fun w3 hw3 => b_pc (pc' := 95) rfl ?_
      refine b_g fun g14 => ?_
      refine b_ial l161_95 (by rfl) g14 (b_pc (pc' := 96) rfl ?_)
      refine b_s (pc' := 97) (lv1 := [(0, .ref 76), (1, bI v1), (2, bI v2), (3, bI v3)]) (st' := [bI (-1), bI (μ 82 w3.toNat)]) l161_96 (fun _ => rfl) ?_
      refine b_ieq (pt := 140) l161_97 (bO_i hk (by rfl)) (by decide) (by decide) rfl (fun c4 => ?_) (fun c4 => b_pc (pc' := 100) rfl ?_)
      · refine b_s (pc' := 141) (lv1 := [(0, .ref 76), (1, bI v1), (2, bI v2), (3, bI v3)]) (st' := [bI v3]) l161_140 (fun _ => rfl) ?_
        refine b_w (pc' := 142) (lv1 := ax_st1 [(0, .ref 76), (1, bI v1), (2, bI v2), (3, bI v3)] 2 (bI v3)) (lv' := [(0, .ref 76), (1, bI v1), (2, bI v3)]) (st' := []) l161_141 (fun _ => rfl) (bSb rfl (bSb rfl (bSb rfl bSn))) ?_
        refine b_s (pc' := 35) (lv1 := [(0, .ref 76), (1, bI v1), (2, bI v3)]) (st' := []) l161_142 (fun _ => rfl) ?_
        refine bD.wk (lv' := [(0, .ref 76), (1, bI v1), (2, bI v3)]) (bSb rfl (bSb rfl (bSb rfl bSn))) ?_
        exact H35 v3 μ h3
      · refine b_s (pc' := 101) (lv1 := [(0, .ref 76), (1, bI v1), (2, bI v2), (3, bI v3)]) (st' := [.ref 76]) l161_100 (fun _ => rfl) ?_
        refine b_s (pc' := 102) (lv1 := [(0, .ref 76), (1, bI v1), (2, bI v2), (3, bI v3)]) (st' := [bI v2, .ref 76]) l161_101 (fun _ => rfl) ?_
        refine b_cPi l161_102 rfl (b_rc (ci := 9) (by rfl) (by decide) (by decide +kernel)) (Nat.le_of_ble_eq_true rfl) (Nat.le_of_ble_eq_true rfl) rfl (r_X11_nextChild v2 h2) fun w5 hw5 => b_pc (pc' := 105) rfl ?_
        refine b_w (pc' := 106) (lv1 := ax_st1 [(0, .ref 76), (1, bI v1), (2, bI v2), (3, bI v3)] 3 (bI w5)) (lv' := [(0, .ref 76), (1, bI v1), (2, bI v2), (3, bI w5)]) (st' := []) l161_105 (fun _ => rfl) (bSb rfl (bSb rfl (bSb rfl (bSb rfl bSn)))) ?_
        refine b_s (pc' := 107) (lv1 := [(0, .ref 76), (1, bI v1), (2, bI v2), (3, bI w5)]) (st' := [bI w5]) l161_106 (fun _ => rfl) ?_
        refine b_s (pc' := 108) (lv1 := [(0, .ref 76), (1, bI v1), (2, bI v2), (3, bI w5)]) (st' := [bI (-1), bI w5]) l161_107 (fun _ => rfl) ?_
        refine b_ine (pt := 76) l161_108 hw5 (by decide) (by decide) rfl (fun c6 => ?_) (fun c6 => b_pc (pc' := 111) rfl ?_)
        · refine bD.wk (lv' := [(0, .ref 76), (1, bI v1), (2, bI v2), (3, bI w5)]) (bSb rfl (bSb rfl (bSb rfl (bSb rfl bSn)))) ?_
          exact H76 v2 w5 μ h2 hw5
        · refine b_s (pc' := 112) (lv1 := [(0, .ref 76), (1, bI v1), (2, bI v2), (3, bI w5)]) (st' := [.ref 76]) l161_111 (fun _ => rfl) ?_
          refine b_gp (q' := 96) (j := 20) l161_112 (by rfl) (by decide) (by decide) rfl hk rfl rfl (b_pc (pc' := 115) rfl ?_)
          refine b_s (pc' := 116) (lv1 := [(0, .ref 76), (1, bI v1), (2, bI v2), (3, bI w5)]) (st' := [.ref 76, .ref 96]) l161_115 (fun _ => rfl) ?_
          refine b_gi l161_116 (by rfl) (by decide) (by decide) rfl (b_pc (pc' := 119) rfl ?_)
          refine b_s (pc' := 120) (lv1 := [(0, .ref 76), (1, bI v1), (2, bI v2), (3, bI w5)]) (st' := [bI 1, bI (μ 76 23), .ref 96]) l161_119 (fun _ => rfl) ?_
          refine b_isub l161_120 fun g7 => (b_pc (pc' := 121) rfl ?_)
          refine b_s (pc' := 122) (lv1 := [(0, .ref 76), (1, bI v1), (2, bI v2), (3, bI w5)]) (st' := [bI ((μ 76 23) - 1), .ref 96, bI ((μ 76 23) - 1), .ref 96]) l161_121 (fun _ => rfl) ?_
          refine b_g fun g13 => ?_
          refine b_ial l161_122 (by rfl) g13 (b_pc (pc' := 123) rfl ?_)
          refine b_s (pc' := 124) (lv1 := [(0, .ref 76), (1, bI v1), (2, bI v2), (3, bI w5)]) (st' := [bI 1, bI (μ 96 ((μ 76 23) - 1).toNat), bI ((μ 76 23) - 1), .ref 96]) l161_123 (fun _ => rfl) ?_
          refine b_iadd l161_124 fun g8 => (b_pc (pc' := 125) rfl ?_)
          refine b_g fun g12 => ?_
          refine b_ias l161_125 (by rfl) g12 g8 (bD.ok fun hk9 => b_pc (pc' := 126) rfl ?_)
          refine b_s (pc' := 127) (lv1 := [(0, .ref 76), (1, bI v1), (2, bI v2), (3, bI w5)]) (st' := [.ref 76]) l161_126 (fun _ => rfl) ?_
          refine b_gp (q' := 82) (j := 6) l161_127 (by rfl) (by decide) (by decide) rfl hk9 rfl rfl (b_pc (pc' := 130) rfl ?_)
          refine b_s (pc' := 131) (lv1 := [(0, .ref 76), (1, bI v1), (2, bI v2), (3, bI w5)]) (st' := [.ref 76, .ref 82]) l161_130 (fun _ => rfl) ?_
          refine b_s (pc' := 132) (lv1 := [(0, .ref 76), (1, bI v1), (2, bI v2), (3, bI w5)]) (st' := [bI v2, .ref 76, .ref 82]) l161_131 (fun _ => rfl) ?_
          refine b_cPi l161_132 rfl (b_rc (ci := 9) (by rfl) (by decide) (by decide +kernel)) (Nat.le_of_ble_eq_true rfl) (Nat.le_of_ble_eq_true rfl) rfl (r_X11_at v2 h2) fun w10 hw10 => b_pc (pc' := 135) rfl ?_
          refine b_g fun g11 => ?_
          refine b_ial l161_135 (by rfl) g11 (b_pc (pc' := 136) rfl ?_)
          refine b_w (pc' := 137) (lv1 := ax_st1 [(0, .ref 76), (1, bI v1), (2, bI v2), (3, bI w5)] 2 (bI ((bset μ 96 ((μ 76 23) - 1).toNat ((μ 96 ((μ 76 23) - 1).toNat) + 1)) 82 w10.toNat))) (lv' := [(0, .ref 76), (1, bI v1), (2, bI ((bset μ 96 ((μ 76 23) - 1).toNat ((μ 96 ((μ 76 23) - 1).toNat) + 1)) 82 w10.toNat)), (3, bI w5)]) (st' := []) l161_136 (fun _ => rfl) (bSb rfl (bSb rfl (bSb rfl (bSb rfl bSn)))) ?_
          refine b_s (pc' := 76) (lv1 := [(0, .ref 76), (1, bI v1), (2, bI ((bset μ 96 ((μ 76 23) - 1).toNat ((μ 96 ((μ 76 23) - 1).toNat) + 1)) 82 w10.toNat)), (3, bI w5)]) (st' := []) l161_137 (fun _ => rfl) ?_
          refine bD.wk (lv' := [(0, .ref 76), (1, bI v1), (2, bI ((bset μ 96 ((μ 76 23) - 1).toNat ((μ 96 ((μ 76 23) - 1).toNat) + 1)) 82 w10.toNat)), (3, bI w5)]) (bSb rfl (bSb rfl (bSb rfl (bSb rfl bSn)))) ?_
          exact H76 ((bset μ 96 ((μ 76 23) - 1).toNat ((μ 96 ((μ 76 23) - 1).toNat) + 1)) 82 w10.toNat) w5 (bset μ 96 ((μ 76 23) - 1).toNat ((μ 96 ((μ 76 23) - 1).toNat) + 1)) (bO_i hk9 (by rfl)) hw5
theorem p_X11_goThrough_76 {L : Nat} {xs : Nat → Int32} {d : Nat} {μ : bM} {v1 : Int} {κ : ((Int × bM) ⊕ ((Int × bM) ⊕ (Int × bM))) → Option bX} (hr : ∀ r : Int × bM, κ (.inr (.inr r)) = (bMc) r) (H7 : ∀ (v1 : Int) (μ : bM), bR v1 → bD L xs (d + 2) 161 7 [(0, .ref 76), (1, bI v1)] [] μ (κ (.inr (.inl (v1, μ))))) (H35 : ∀ (v2 : Int) (μ : bM), bR v2 → bD L xs (d + 2) 161 35 [(0, .ref 76), (1, bI v1), (2, bI v2)] [] μ (κ (.inl (v2, μ))))  (h1 : bR v1) {v2 : Int} (h2 : bR v2) {v3 : Int} (h3 : bR v3) : bD L xs (d + 2) 161 76 [(0, .ref 76), (1, bI v1), (2, bI v2), (3, bI v3)] [] μ ((bLoop (fun z => F_X11_goThrough_76 v1 z.1 z.2.1 z.2.2) (v2, v3, μ)).bind κ) :=
  b_loop (fun z => [(0, .ref 76), (1, bI v1), (2, bI z.1), (3, bI z.2.1)]) (fun z => z.2.2) (fun z => bR z.1 ∧ bR z.2.1) (fun κ' hκ HH z hz => q_X11_goThrough_76 (κ := κ') (fun r => (hκ _).trans (hr r)) (fun a1 am b1 => b_eq (hκ _) (H7 a1 am b1)) (fun a2 am b2 => b_eq (hκ _) (H35 a2 am b2)) (fun a2 a3 am b2 b3 => HH (a2, a3, am) ⟨b2, b3⟩)  h1 hz.1 hz.2) (v2, v3, μ) ⟨h2, h3⟩
theorem q_X11_goThrough_35 {L : Nat} {xs : Nat → Int32} {d : Nat} {μ : bM} {v1 : Int} {κ : ((Int × bM) ⊕ ((Int × bM) ⊕ (Int × bM))) → Option bX} (hr : ∀ r : Int × bM, κ (.inr (.inr r)) = (bMc) r) (H7 : ∀ (v1 : Int) (μ : bM), bR v1 → bD L xs (d + 2) 161 7 [(0, .ref 76), (1, bI v1)] [] μ (κ (.inr (.inl (v1, μ))))) (H35 : ∀ (v2 : Int) (μ : bM), bR v2 → bD L xs (d + 2) 161 35 [(0, .ref 76), (1, bI v1), (2, bI v2)] [] μ (κ (.inl (v2, μ))))  (h1 : bR v1) {v2 : Int} (h2 : bR v2) : bD L xs (d + 2) 161 35 [(0, .ref 76), (1, bI v1), (2, bI v2)] [] μ ((F_X11_goThrough_35 v1 v2 μ).bind κ) := by
  unfold F_X11_goThrough_35
  refine bD.ok fun hk => ?_
  refine b_s (pc' := 36) (lv1 := [(0, .ref 76), (1, bI v1), (2, bI v2)]) (st' := [bI v2]) l161_35 (fun _ => rfl) ?_
  refine b_s (pc' := 37) (lv1 := [(0, .ref 76), (1, bI v1), (2, bI v2)]) (st' := [bI (-1), bI v2]) l161_36 (fun _ => rfl) ?_
  refine b_ieq (pt := 145) l161_37 h2 (by decide) (by decide) rfl (fun c1 => ?_) (fun c1 => b_pc (pc' := 40) rfl ?_)
  · refine b_inc (lv' := [(0, .ref 76), (1, bI (v1 + 1))]) l161_145 rfl (by decide +kernel) (bSb rfl (bSb rfl bSn)) fun g2 => (b_pc (pc' := 148) rfl ?_)
    refine b_s (pc' := 7) (lv1 := [(0, .ref 76), (1, bI (v1 + 1))]) (st' := []) l161_148 (fun _ => rfl) ?_
    refine bD.wk (lv' := [(0, .ref 76), (1, bI (v1 + 1))]) (bSb rfl (bSb rfl bSn)) ?_
    exact H7 (v1 + 1) μ g2
  · refine b_s (pc' := 41) (lv1 := [(0, .ref 76), (1, bI v1), (2, bI v2)]) (st' := [.ref 76]) l161_40 (fun _ => rfl) ?_
    refine b_gp (q' := 95) (j := 19) l161_41 (by rfl) (by decide) (by decide) rfl hk rfl rfl (b_pc (pc' := 44) rfl ?_)
    refine b_s (pc' := 45) (lv1 := [(0, .ref 76), (1, bI v1), (2, bI v2)]) (st' := [.ref 76, .ref 95]) l161_44 (fun _ => rfl) ?_
    refine b_gi l161_45 (by rfl) (by decide) (by decide) rfl (b_pc (pc' := 48) rfl ?_)
    refine b_s (pc' := 49) (lv1 := [(0, .ref 76), (1, bI v1), (2, bI v2)]) (st' := [bI v2, bI (μ 76 23), .ref 95]) l161_48 (fun _ => rfl) ?_
    refine b_g fun g9 => ?_
    refine b_ias l161_49 (by rfl) g9 h2 (bD.ok fun hk3 => b_pc (pc' := 50) rfl ?_)
    refine b_s (pc' := 51) (lv1 := [(0, .ref 76), (1, bI v1), (2, bI v2)]) (st' := [.ref 76]) l161_50 (fun _ => rfl) ?_
    refine b_gp (q' := 96) (j := 20) l161_51 (by rfl) (by decide) (by decide) rfl hk3 rfl rfl (b_pc (pc' := 54) rfl ?_)
    refine b_s (pc' := 55) (lv1 := [(0, .ref 76), (1, bI v1), (2, bI v2)]) (st' := [.ref 76, .ref 96]) l161_54 (fun _ => rfl) ?_
    refine b_gi l161_55 (by rfl) (by decide) (by decide) rfl (b_pc (pc' := 58) rfl ?_)
    refine b_s (pc' := 59) (lv1 := [(0, .ref 76), (1, bI v1), (2, bI v2)]) (st' := [bI 0, bI ((bset μ 95 (μ 76 23).toNat v2) 76 23), .ref 96]) l161_58 (fun _ => rfl) ?_
    refine b_g fun g8 => ?_
    refine b_ias l161_59 (by rfl) g8 (by decide) (bD.ok fun hk4 => b_pc (pc' := 60) rfl ?_)
    refine b_s (pc' := 61) (lv1 := [(0, .ref 76), (1, bI v1), (2, bI v2)]) (st' := [.ref 76]) l161_60 (fun _ => rfl) ?_
    refine b_s (pc' := 62) (lv1 := [(0, .ref 76), (1, bI v1), (2, bI v2)]) (st' := [.ref 76, .ref 76]) l161_61 (fun _ => rfl) ?_
    refine b_gi l161_62 (by rfl) (by decide) (by decide) rfl (b_pc (pc' := 65) rfl ?_)
    refine b_s (pc' := 66) (lv1 := [(0, .ref 76), (1, bI v1), (2, bI v2)]) (st' := [bI 1, bI ((bset (bset μ 95 (μ 76 23).toNat v2) 96 ((bset μ 95 (μ 76 23).toNat v2) 76 23).toNat 0) 76 23), .ref 76]) l161_65 (fun _ => rfl) ?_
    refine b_iadd l161_66 fun g5 => (b_pc (pc' := 67) rfl ?_)
    refine b_pi l161_67 (by rfl) (by decide) (by decide) rfl rfl g5 (bD.ok fun hk6 => b_pc (pc' := 70) rfl ?_)
    refine b_s (pc' := 71) (lv1 := [(0, .ref 76), (1, bI v1), (2, bI v2)]) (st' := [.ref 76]) l161_70 (fun _ => rfl) ?_
    refine b_s (pc' := 72) (lv1 := [(0, .ref 76), (1, bI v1), (2, bI v2)]) (st' := [bI v2, .ref 76]) l161_71 (fun _ => rfl) ?_
    refine b_cPi l161_72 rfl (b_rc (ci := 9) (by rfl) (by decide) (by decide +kernel)) (Nat.le_of_ble_eq_true rfl) (Nat.le_of_ble_eq_true rfl) rfl (r_X11_firstChild v2 h2) fun w7 hw7 => b_pc (pc' := 75) rfl ?_
    refine b_w (pc' := 76) (lv1 := ax_st1 [(0, .ref 76), (1, bI v1), (2, bI v2)] 3 (bI w7)) (lv' := [(0, .ref 76), (1, bI v1), (2, bI v2), (3, bI w7)]) (st' := []) l161_75 (fun _ => rfl) (bSb rfl (bSb rfl (bSb rfl (bSb rfl bSn)))) ?_
    refine bD.wk (lv' := [(0, .ref 76), (1, bI v1), (2, bI v2), (3, bI w7)]) (bSb rfl (bSb rfl (bSb rfl (bSb rfl bSn)))) ?_
    exact p_X11_goThrough_76 hr H7 H35 h1 h2 hw7
theorem p_X11_goThrough_35 {L : Nat} {xs : Nat → Int32} {d : Nat} {μ : bM}  {κ : ((Int × bM) ⊕ (Int × bM)) → Option bX} (hr : ∀ r : Int × bM, κ (.inr r) = (bMc) r) (H7 : ∀ (v1 : Int) (μ : bM), bR v1 → bD L xs (d + 2) 161 7 [(0, .ref 76), (1, bI v1)] [] μ (κ (.inl (v1, μ))))  {v1 : Int} (h1 : bR v1) {v2 : Int} (h2 : bR v2) : bD L xs (d + 2) 161 35 [(0, .ref 76), (1, bI v1), (2, bI v2)] [] μ ((bLoop (fun z => F_X11_goThrough_35 v1 z.1 z.2) (v2, μ)).bind κ) :=
  b_loop (fun z => [(0, .ref 76), (1, bI v1), (2, bI z.1)]) (fun z => z.2) (fun z => bR z.1) (fun κ' hκ HH z hz => q_X11_goThrough_35 (κ := κ') (fun r => (hκ _).trans (hr r)) (fun a1 am b1 => b_eq (hκ _) (H7 a1 am b1)) (fun a2 am b2 => HH (a2, am) b2)  h1 hz) (v2, μ) h2
theorem q_X11_goThrough_7 {L : Nat} {xs : Nat → Int32} {d : Nat} {μ : bM}  {κ : ((Int × bM) ⊕ (Int × bM)) → Option bX} (hr : ∀ r : Int × bM, κ (.inr r) = (bMc) r) (H7 : ∀ (v1 : Int) (μ : bM), bR v1 → bD L xs (d + 2) 161 7 [(0, .ref 76), (1, bI v1)] [] μ (κ (.inl (v1, μ))))  {v1 : Int} (h1 : bR v1) : bD L xs (d + 2) 161 7 [(0, .ref 76), (1, bI v1)] [] μ ((F_X11_goThrough_7 v1 μ).bind κ) := by
  unfold F_X11_goThrough_7
  refine bD.ok fun hk => ?_
  refine b_s (pc' := 8) (lv1 := [(0, .ref 76), (1, bI v1)]) (st' := [bI v1]) l161_7 (fun _ => rfl) ?_
  refine b_s (pc' := 9) (lv1 := [(0, .ref 76), (1, bI v1)]) (st' := [.ref 76, bI v1]) l161_8 (fun _ => rfl) ?_
  refine b_gp (q' := 79) (j := 3) l161_9 (by rfl) (by decide) (by decide) rfl hk rfl rfl (b_pc (pc' := 12) rfl ?_)
  refine b_s (pc' := 13) (lv1 := [(0, .ref 76), (1, bI v1)]) (st' := [.ref 76, .ref 79, bI v1]) l161_12 (fun _ => rfl) ?_
  refine b_gi l161_13 (by rfl) (by decide) (by decide) rfl (b_pc (pc' := 16) rfl ?_)
  refine b_g fun g5 => ?_
  refine b_ial l161_16 (by rfl) g5 (b_pc (pc' := 17) rfl ?_)
  refine b_ige (pt := 151) l161_17 h1 (bO_i hk (by rfl)) (by decide) rfl (fun c1 => ?_) (fun c1 => b_pc (pc' := 20) rfl ?_)
  · exact b_retv l161_151 rfl (hr _)
  · refine b_s (pc' := 21) (lv1 := [(0, .ref 76), (1, bI v1)]) (st' := [.ref 76]) l161_20 (fun _ => rfl) ?_
    refine b_gp (q' := 80) (j := 4) l161_21 (by rfl) (by decide) (by decide) rfl hk rfl rfl (b_pc (pc' := 24) rfl ?_)
    refine b_bipush l161_24 (by decide) (b_pc (pc' := 26) rfl ?_)
    refine b_s (pc' := 27) (lv1 := [(0, .ref 76), (1, bI v1)]) (st' := [.ref 76, bI 6, .ref 80]) l161_26 (fun _ => rfl) ?_
    refine b_gi l161_27 (by rfl) (by decide) (by decide) rfl (b_pc (pc' := 30) rfl ?_)
    refine b_imul l161_30 fun g2 => (b_pc (pc' := 31) rfl ?_)
    refine b_s (pc' := 32) (lv1 := [(0, .ref 76), (1, bI v1)]) (st' := [bI v1, bI (6 * (μ 76 3)), .ref 80]) l161_31 (fun _ => rfl) ?_
    refine b_iadd l161_32 fun g3 => (b_pc (pc' := 33) rfl ?_)
    refine b_g fun g4 => ?_
    refine b_ial l161_33 (by rfl) g4 (b_pc (pc' := 34) rfl ?_)
    refine b_w (pc' := 35) (lv1 := ax_st1 [(0, .ref 76), (1, bI v1)] 2 (bI (μ 80 ((6 * (μ 76 3)) + v1).toNat))) (lv' := [(0, .ref 76), (1, bI v1), (2, bI (μ 80 ((6 * (μ 76 3)) + v1).toNat))]) (st' := []) l161_34 (fun _ => rfl) (bSb rfl (bSb rfl (bSb rfl bSn))) ?_
    refine bD.wk (lv' := [(0, .ref 76), (1, bI v1), (2, bI (μ 80 ((6 * (μ 76 3)) + v1).toNat))]) (bSb rfl (bSb rfl (bSb rfl bSn))) ?_
    exact p_X11_goThrough_35 hr H7 h1 (bO_i hk (by rfl))
theorem p_X11_goThrough_7 {L : Nat} {xs : Nat → Int32} {d : Nat} {μ : bM}  {κ : (Int × bM) → Option bX} (hr : ∀ r : Int × bM, κ r = (bMc) r)  {v1 : Int} (h1 : bR v1) : bD L xs (d + 2) 161 7 [(0, .ref 76), (1, bI v1)] [] μ ((bLoop (fun z => F_X11_goThrough_7 z.1 z.2) (v1, μ)).bind κ) :=
  b_loop (fun z => [(0, .ref 76), (1, bI z.1)]) (fun z => z.2) (fun z => bR z.1) (fun κ' hκ HH z hz => q_X11_goThrough_7 (κ := κ') (fun r => (hκ _).trans (hr r)) (fun a1 am b1 => HH (a1, am) b1)  hz) (v1, μ) h1
theorem r_X11_goThrough {L : Nat} {xs : Nat → Int32} {d : Nat} {μ : bM}   : bD L xs (d + 2) 161 0 [(0, .ref 76)] [] μ ((F_X11_goThrough μ).bind (bMc)) := by
  have hr : ∀ r, (bMc) r = (bMc) r := fun _ => rfl
  unfold F_X11_goThrough
  refine bD.ok fun hk => ?_
  refine b_s (pc' := 1) (lv1 := [(0, .ref 76)]) (st' := [.ref 76]) l161_0 (fun _ => rfl) ?_
  refine b_s (pc' := 2) (lv1 := [(0, .ref 76)]) (st' := [bI 0, .ref 76]) l161_1 (fun _ => rfl) ?_
  refine b_pi l161_2 (by rfl) (by decide) (by decide) rfl rfl (by decide) (bD.ok fun hk1 => b_pc (pc' := 5) rfl ?_)
  refine b_s (pc' := 6) (lv1 := [(0, .ref 76)]) (st' := [bI 0]) l161_5 (fun _ => rfl) ?_
  refine b_w (pc' := 7) (lv1 := ax_st1 [(0, .ref 76)] 1 (bI 0)) (lv' := [(0, .ref 76), (1, bI 0)]) (st' := []) l161_6 (fun _ => rfl) (bSb rfl (bSb rfl bSn)) ?_
  refine bD.wk (lv' := [(0, .ref 76), (1, bI 0)]) (bSb rfl (bSb rfl bSn)) ?_
  exact p_X11_goThrough_7 hr (by decide)
/-! ETModel.sameShape -/
theorem l162_0 : (ax_dt (ax_T 162)).lookup 0 = some (.aload_n 0, 1, 0, 0, 0) := by decide +kernel
theorem l162_1 : (ax_dt (ax_T 162)).lookup 1 = some (.iload_n 1, 1, 0, 0, 0) := by decide +kernel
theorem l162_2 : (ax_dt (ax_T 162)).lookup 2 = some (.invokevirtual 140, 3, 140, 1, 0) := by decide +kernel
theorem l162_5 : (ax_dt (ax_T 162)).lookup 5 = some (.istore_n 3, 1, 0, 0, 0) := by decide +kernel
theorem l162_6 : (ax_dt (ax_T 162)).lookup 6 = some (.aload_n 0, 1, 0, 0, 0) := by decide +kernel
theorem l162_7 : (ax_dt (ax_T 162)).lookup 7 = some (.iload_n 2, 1, 0, 0, 0) := by decide +kernel
theorem l162_8 : (ax_dt (ax_T 162)).lookup 8 = some (.invokevirtual 140, 3, 140, 1, 0) := by decide +kernel
theorem l162_11 : (ax_dt (ax_T 162)).lookup 11 = some (.istore 4, 2, 0, 0, 0) := by decide +kernel
theorem l162_13 : (ax_dt (ax_T 162)).lookup 13 = some (.aload_n 0, 1, 0, 0, 0) := by decide +kernel
theorem l162_14 : (ax_dt (ax_T 162)).lookup 14 = some (.getfield 23, 3, 9, 7, 0) := by decide +kernel
theorem l162_17 : (ax_dt (ax_T 162)).lookup 17 = some (.iload_n 3, 1, 0, 0, 0) := by decide +kernel
theorem l162_18 : (ax_dt (ax_T 162)).lookup 18 = some (.iaload, 1, 0, 0, 0) := by decide +kernel
theorem l162_19 : (ax_dt (ax_T 162)).lookup 19 = some (.aload_n 0, 1, 0, 0, 0) := by decide +kernel
theorem l162_20 : (ax_dt (ax_T 162)).lookup 20 = some (.getfield 23, 3, 9, 7, 0) := by decide +kernel
theorem l162_23 : (ax_dt (ax_T 162)).lookup 23 = some (.iload 4, 2, 0, 0, 0) := by decide +kernel
theorem l162_25 : (ax_dt (ax_T 162)).lookup 25 = some (.iaload, 1, 0, 0, 0) := by decide +kernel
theorem l162_26 : (ax_dt (ax_T 162)).lookup 26 = some (.if_icmp .ne 54, 3, 0, 0, 0) := by decide +kernel
theorem l162_29 : (ax_dt (ax_T 162)).lookup 29 = some (.aload_n 0, 1, 0, 0, 0) := by decide +kernel
theorem l162_30 : (ax_dt (ax_T 162)).lookup 30 = some (.getfield 32, 3, 9, 10, 0) := by decide +kernel
theorem l162_33 : (ax_dt (ax_T 162)).lookup 33 = some (.iload_n 3, 1, 0, 0, 0) := by decide +kernel
theorem l162_34 : (ax_dt (ax_T 162)).lookup 34 = some (.iaload, 1, 0, 0, 0) := by decide +kernel
theorem l162_35 : (ax_dt (ax_T 162)).lookup 35 = some (.aload_n 0, 1, 0, 0, 0) := by decide +kernel
theorem l162_36 : (ax_dt (ax_T 162)).lookup 36 = some (.getfield 32, 3, 9, 10, 0) := by decide +kernel
theorem l162_39 : (ax_dt (ax_T 162)).lookup 39 = some (.iload 4, 2, 0, 0, 0) := by decide +kernel
theorem l162_41 : (ax_dt (ax_T 162)).lookup 41 = some (.iaload, 1, 0, 0, 0) := by decide +kernel
theorem l162_42 : (ax_dt (ax_T 162)).lookup 42 = some (.if_icmp .ne 38, 3, 0, 0, 0) := by decide +kernel
theorem l162_45 : (ax_dt (ax_T 162)).lookup 45 = some (.aload_n 0, 1, 0, 0, 0) := by decide +kernel
theorem l162_46 : (ax_dt (ax_T 162)).lookup 46 = some (.iload_n 1, 1, 0, 0, 0) := by decide +kernel
theorem l162_47 : (ax_dt (ax_T 162)).lookup 47 = some (.invokevirtual 199, 3, 159, 1, 0) := by decide +kernel
theorem l162_50 : (ax_dt (ax_T 162)).lookup 50 = some (.iconst (-1), 1, 0, 0, 0) := by decide +kernel
theorem l162_51 : (ax_dt (ax_T 162)).lookup 51 = some (.if_icmp .ne 7, 3, 0, 0, 0) := by decide +kernel
theorem l162_54 : (ax_dt (ax_T 162)).lookup 54 = some (.iconst 1, 1, 0, 0, 0) := by decide +kernel
theorem l162_55 : (ax_dt (ax_T 162)).lookup 55 = some (.goto 4, 3, 0, 0, 0) := by decide +kernel
theorem l162_58 : (ax_dt (ax_T 162)).lookup 58 = some (.iconst 0, 1, 0, 0, 0) := by decide +kernel
theorem l162_59 : (ax_dt (ax_T 162)).lookup 59 = some (.aload_n 0, 1, 0, 0, 0) := by decide +kernel
theorem l162_60 : (ax_dt (ax_T 162)).lookup 60 = some (.iload_n 2, 1, 0, 0, 0) := by decide +kernel
theorem l162_61 : (ax_dt (ax_T 162)).lookup 61 = some (.invokevirtual 199, 3, 159, 1, 0) := by decide +kernel
theorem l162_64 : (ax_dt (ax_T 162)).lookup 64 = some (.iconst (-1), 1, 0, 0, 0) := by decide +kernel
theorem l162_65 : (ax_dt (ax_T 162)).lookup 65 = some (.if_icmp .ne 7, 3, 0, 0, 0) := by decide +kernel
theorem l162_68 : (ax_dt (ax_T 162)).lookup 68 = some (.iconst 1, 1, 0, 0, 0) := by decide +kernel
theorem l162_69 : (ax_dt (ax_T 162)).lookup 69 = some (.goto 4, 3, 0, 0, 0) := by decide +kernel
theorem l162_72 : (ax_dt (ax_T 162)).lookup 72 = some (.iconst 0, 1, 0, 0, 0) := by decide +kernel
theorem l162_73 : (ax_dt (ax_T 162)).lookup 73 = some (.if_icmp .ne 7, 3, 0, 0, 0) := by decide +kernel
theorem l162_76 : (ax_dt (ax_T 162)).lookup 76 = some (.iconst 1, 1, 0, 0, 0) := by decide +kernel
theorem l162_77 : (ax_dt (ax_T 162)).lookup 77 = some (.goto 4, 3, 0, 0, 0) := by decide +kernel
theorem l162_80 : (ax_dt (ax_T 162)).lookup 80 = some (.iconst 0, 1, 0, 0, 0) := by decide +kernel
theorem l162_81 : (ax_dt (ax_T 162)).lookup 81 = some (.istore 5, 2, 0, 0, 0) := by decide +kernel
theorem l162_83 : (ax_dt (ax_T 162)).lookup 83 = some (.iconst 0, 1, 0, 0, 0) := by decide +kernel
theorem l162_84 : (ax_dt (ax_T 162)).lookup 84 = some (.istore 6, 2, 0, 0, 0) := by decide +kernel
theorem l162_86 : (ax_dt (ax_T 162)).lookup 86 = some (.iload 6, 2, 0, 0, 0) := by decide +kernel
theorem l162_88 : (ax_dt (ax_T 162)).lookup 88 = some (.aload_n 0, 1, 0, 0, 0) := by decide +kernel
theorem l162_89 : (ax_dt (ax_T 162)).lookup 89 = some (.getfield 32, 3, 9, 10, 0) := by decide +kernel
theorem l162_92 : (ax_dt (ax_T 162)).lookup 92 = some (.iload_n 3, 1, 0, 0, 0) := by decide +kernel
theorem l162_93 : (ax_dt (ax_T 162)).lookup 93 = some (.iaload, 1, 0, 0, 0) := by decide +kernel
theorem l162_94 : (ax_dt (ax_T 162)).lookup 94 = some (.if_icmp .ge 77, 3, 0, 0, 0) := by decide +kernel
theorem l162_97 : (ax_dt (ax_T 162)).lookup 97 = some (.iload 5, 2, 0, 0, 0) := by decide +kernel
theorem l162_99 : (ax_dt (ax_T 162)).lookup 99 = some (.ifCond .eq 72, 3, 0, 0, 0) := by decide +kernel
theorem l162_102 : (ax_dt (ax_T 162)).lookup 102 = some (.aload_n 0, 1, 0, 0, 0) := by decide +kernel
theorem l162_103 : (ax_dt (ax_T 162)).lookup 103 = some (.getfield 35, 3, 9, 11, 0) := by decide +kernel
theorem l162_106 : (ax_dt (ax_T 162)).lookup 106 = some (.bipush 8, 2, 0, 0, 0) := by decide +kernel
theorem l162_108 : (ax_dt (ax_T 162)).lookup 108 = some (.iload_n 3, 1, 0, 0, 0) := by decide +kernel
theorem l162_109 : (ax_dt (ax_T 162)).lookup 109 = some (.imul, 1, 0, 0, 0) := by decide +kernel
theorem l162_110 : (ax_dt (ax_T 162)).lookup 110 = some (.iload 6, 2, 0, 0, 0) := by decide +kernel
theorem l162_112 : (ax_dt (ax_T 162)).lookup 112 = some (.iadd, 1, 0, 0, 0) := by decide +kernel
theorem l162_113 : (ax_dt (ax_T 162)).lookup 113 = some (.iaload, 1, 0, 0, 0) := by decide +kernel
theorem l162_114 : (ax_dt (ax_T 162)).lookup 114 = some (.aload_n 0, 1, 0, 0, 0) := by decide +kernel
theorem l162_115 : (ax_dt (ax_T 162)).lookup 115 = some (.getfield 35, 3, 9, 11, 0) := by decide +kernel
theorem l162_118 : (ax_dt (ax_T 162)).lookup 118 = some (.bipush 8, 2, 0, 0, 0) := by decide +kernel
theorem l162_120 : (ax_dt (ax_T 162)).lookup 120 = some (.iload 4, 2, 0, 0, 0) := by decide +kernel
theorem l162_122 : (ax_dt (ax_T 162)).lookup 122 = some (.imul, 1, 0, 0, 0) := by decide +kernel
theorem l162_123 : (ax_dt (ax_T 162)).lookup 123 = some (.iload 6, 2, 0, 0, 0) := by decide +kernel
theorem l162_125 : (ax_dt (ax_T 162)).lookup 125 = some (.iadd, 1, 0, 0, 0) := by decide +kernel
theorem l162_126 : (ax_dt (ax_T 162)).lookup 126 = some (.iaload, 1, 0, 0, 0) := by decide +kernel
theorem l162_127 : (ax_dt (ax_T 162)).lookup 127 = some (.if_icmp .ne 35, 3, 0, 0, 0) := by decide +kernel
theorem l162_130 : (ax_dt (ax_T 162)).lookup 130 = some (.aload_n 0, 1, 0, 0, 0) := by decide +kernel
theorem l162_131 : (ax_dt (ax_T 162)).lookup 131 = some (.getfield 38, 3, 9, 12, 0) := by decide +kernel
theorem l162_134 : (ax_dt (ax_T 162)).lookup 134 = some (.bipush 8, 2, 0, 0, 0) := by decide +kernel
theorem l162_136 : (ax_dt (ax_T 162)).lookup 136 = some (.iload_n 3, 1, 0, 0, 0) := by decide +kernel
theorem l162_137 : (ax_dt (ax_T 162)).lookup 137 = some (.imul, 1, 0, 0, 0) := by decide +kernel
theorem l162_138 : (ax_dt (ax_T 162)).lookup 138 = some (.iload 6, 2, 0, 0, 0) := by decide +kernel
theorem l162_140 : (ax_dt (ax_T 162)).lookup 140 = some (.iadd, 1, 0, 0, 0) := by decide +kernel
theorem l162_141 : (ax_dt (ax_T 162)).lookup 141 = some (.iaload, 1, 0, 0, 0) := by decide +kernel
theorem l162_142 : (ax_dt (ax_T 162)).lookup 142 = some (.aload_n 0, 1, 0, 0, 0) := by decide +kernel
theorem l162_143 : (ax_dt (ax_T 162)).lookup 143 = some (.getfield 38, 3, 9, 12, 0) := by decide +kernel
theorem l162_146 : (ax_dt (ax_T 162)).lookup 146 = some (.bipush 8, 2, 0, 0, 0) := by decide +kernel
theorem l162_148 : (ax_dt (ax_T 162)).lookup 148 = some (.iload 4, 2, 0, 0, 0) := by decide +kernel
theorem l162_150 : (ax_dt (ax_T 162)).lookup 150 = some (.imul, 1, 0, 0, 0) := by decide +kernel
theorem l162_151 : (ax_dt (ax_T 162)).lookup 151 = some (.iload 6, 2, 0, 0, 0) := by decide +kernel
theorem l162_153 : (ax_dt (ax_T 162)).lookup 153 = some (.iadd, 1, 0, 0, 0) := by decide +kernel
theorem l162_154 : (ax_dt (ax_T 162)).lookup 154 = some (.iaload, 1, 0, 0, 0) := by decide +kernel
theorem l162_155 : (ax_dt (ax_T 162)).lookup 155 = some (.if_icmp .ne 7, 3, 0, 0, 0) := by decide +kernel
theorem l162_158 : (ax_dt (ax_T 162)).lookup 158 = some (.iconst 1, 1, 0, 0, 0) := by decide +kernel
theorem l162_159 : (ax_dt (ax_T 162)).lookup 159 = some (.goto 4, 3, 0, 0, 0) := by decide +kernel
theorem l162_162 : (ax_dt (ax_T 162)).lookup 162 = some (.iconst 0, 1, 0, 0, 0) := by decide +kernel
theorem l162_163 : (ax_dt (ax_T 162)).lookup 163 = some (.istore 5, 2, 0, 0, 0) := by decide +kernel
theorem l162_165 : (ax_dt (ax_T 162)).lookup 165 = some (.iinc 6 1, 3, 0, 0, 0) := by decide +kernel
theorem l162_168 : (ax_dt (ax_T 162)).lookup 168 = some (.goto (-82), 3, 0, 0, 0) := by decide +kernel
theorem l162_171 : (ax_dt (ax_T 162)).lookup 171 = some (.iload 5, 2, 0, 0, 0) := by decide +kernel
theorem l162_173 : (ax_dt (ax_T 162)).lookup 173 = some (.ireturn, 1, 0, 0, 0) := by decide +kernel
noncomputable def F_X11_sameShape_86 (v3 : Int) (v4 : Int) (μ : bM) (v5 : Int) (v6 : Int) : Option ((Int × Int) ⊕ (Int)) := bG (0 ≤ v3 ∧ v3 < 800) (if (μ 84 v3.toNat) ≤ v6 then bG (0 ≤ v5 ∧ v5 ≤ 1) (some (.inr (v5))) else if v5 = 0 then bG (0 ≤ v5 ∧ v5 ≤ 1) (some (.inr (v5))) else bG (bR (8 * v3)) (bG (bR ((8 * v3) + v6)) (bG (0 ≤ ((8 * v3) + v6) ∧ ((8 * v3) + v6) < 6400) (bG (bR (8 * v4)) (bG (bR ((8 * v4) + v6)) (bG (0 ≤ ((8 * v4) + v6) ∧ ((8 * v4) + v6) < 6400) (if ¬ (μ 85 ((8 * v3) + v6).toNat) = (μ 85 ((8 * v4) + v6).toNat) then bG (bR (v6 + 1)) (some (.inl (0, (v6 + 1)))) else bG (bR (8 * v3)) (bG (bR ((8 * v3) + v6)) (bG (0 ≤ ((8 * v3) + v6) ∧ ((8 * v3) + v6) < 6400) (bG (bR (8 * v4)) (bG (bR ((8 * v4) + v6)) (bG (0 ≤ ((8 * v4) + v6) ∧ ((8 * v4) + v6) < 6400) (if ¬ (μ 86 ((8 * v3) + v6).toNat) = (μ 86 ((8 * v4) + v6).toNat) then bG (bR (v6 + 1)) (some (.inl (0, (v6 + 1)))) else bG (bR (v6 + 1)) (some (.inl (1, (v6 + 1)))))))))))))))))
noncomputable def F_X11_sameShape_59 (v2 : Int) (v3 : Int) (v4 : Int) (y0 : Int) (μ : bM) : Option (Int) := (F_X11_firstChild v2 μ).bind fun w1 => if ¬ w1 = (-1) then if ¬ y0 = 0 then bLoop (fun z => F_X11_sameShape_86 v3 v4 μ z.1 z.2) (0, 0) else bLoop (fun z => F_X11_sameShape_86 v3 v4 μ z.1 z.2) (1, 0) else if ¬ y0 = 1 then bLoop (fun z => F_X11_sameShape_86 v3 v4 μ z.1 z.2) (0, 0) else bLoop (fun z => F_X11_sameShape_86 v3 v4 μ z.1 z.2) (1, 0)
noncomputable def F_X11_sameShape (v1 : Int) (v2 : Int) (μ : bM) : Option (Int) := (F_X11_at v1 μ).bind fun w1 => (F_X11_at v2 μ).bind fun w2 => bG (0 ≤ w1 ∧ w1 < 800) (bG (0 ≤ w2 ∧ w2 < 800) (if ¬ (μ 81 w1.toNat) = (μ 81 w2.toNat) then bLoop (fun z => F_X11_sameShape_86 w1 w2 μ z.1 z.2) (0, 0) else bG (0 ≤ w1 ∧ w1 < 800) (bG (0 ≤ w2 ∧ w2 < 800) (if ¬ (μ 84 w1.toNat) = (μ 84 w2.toNat) then bLoop (fun z => F_X11_sameShape_86 w1 w2 μ z.1 z.2) (0, 0) else (F_X11_firstChild v1 μ).bind fun w5 => if ¬ w5 = (-1) then F_X11_sameShape_59 v2 w1 w2 0 μ else F_X11_sameShape_59 v2 w1 w2 1 μ))))
theorem q_X11_sameShape_86 {L : Nat} {xs : Nat → Int32} {d : Nat} {μ : bM} {v3 : Int} {v4 : Int} {κ : ((Int × Int) ⊕ (Int)) → Option bX} (hr : ∀ r : Int, κ (.inr r) = (bPc μ) r) (H86 : ∀ (v5 : Int) (v6 : Int), bR v5 → bR v6 → bD L xs (d + 2) 162 86 [(0, .ref 76), (3, bI v3), (4, bI v4), (5, bI v5), (6, bI v6)] [] μ (κ (.inl (v5, v6))))  (h3 : bR v3) (h4 : bR v4) {v5 : Int} (h5 : bR v5) {v6 : Int} (h6 : bR v6) : bD L xs (d + 2) 162 86 [(0, .ref 76), (3, bI v3), (4, bI v4), (5, bI v5), (6, bI v6)] [] μ ((F_X11_sameShape_86 v3 v4 μ v5 v6).bind κ) := by
  unfold F_X11_sameShape_86
  refine bD.ok fun hk => ?_
  refine b_s (pc' := 88) (lv1 := [(0, .ref 76), (3, bI v3), (4, bI v4), (5, bI v5), (6, bI v6)]) (st' := [bI v6]) l162_86 (fun _ => rfl) ?_
  refine b_s (pc' := 89) (lv1 := [(0, .ref 76), (3, bI v3), (4, bI v4), (5, bI v5), (6, bI v6)]) (st' := [.ref 76, bI v6]) l162_88 (fun _ => rfl) ?_
  refine b_gp (q' := 84) (j := 8) l162_89 (by rfl) (by decide) (by decide) rfl hk rfl rfl (b_pc (pc' := 92) rfl ?_)
  refine b_s (pc' := 93) (lv1 := [(0, .ref 76), (3, bI v3), (4, bI v4), (5, bI v5), (6, bI v6)]) (st' := [bI v3, .ref 84, bI v6]) l162_92 (fun _ => rfl) ?_
  refine b_g fun g22 => ?_
  refine b_ial l162_93 (by rfl) g22 (b_pc (pc' := 94) rfl ?_)
  refine b_ige (pt := 171) l162_94 h6 (bO_i hk (by rfl)) (by decide) rfl (fun c1 => ?_) (fun c1 => b_pc (pc' := 97) rfl ?_)
  · refine b_s (pc' := 173) (lv1 := [(0, .ref 76), (3, bI v3), (4, bI v4), (5, bI v5), (6, bI v6)]) (st' := [bI v5]) l162_171 (fun _ => rfl) ?_
    refine b_g fun g2 => ?_
    exact b_retz l162_173 rfl g2 (hr _)
  · refine b_s (pc' := 99) (lv1 := [(0, .ref 76), (3, bI v3), (4, bI v4), (5, bI v5), (6, bI v6)]) (st' := [bI v5]) l162_97 (fun _ => rfl) ?_
    refine b_zeq (pt := 171) l162_99 h5 (by decide) rfl (fun c3 => ?_) (fun c3 => b_pc (pc' := 102) rfl ?_)
    · refine b_s (pc' := 173) (lv1 := [(0, .ref 76), (3, bI v3), (4, bI v4), (5, bI v5), (6, bI v6)]) (st' := [bI v5]) l162_171 (fun _ => rfl) ?_
      refine b_g fun g4 => ?_
      exact b_retz l162_173 rfl g4 (hr _)
    · refine b_s (pc' := 103) (lv1 := [(0, .ref 76), (3, bI v3), (4, bI v4), (5, bI v5), (6, bI v6)]) (st' := [.ref 76]) l162_102 (fun _ => rfl) ?_
      refine b_gp (q' := 85) (j := 9) l162_103 (by rfl) (by decide) (by decide) rfl hk rfl rfl (b_pc (pc' := 106) rfl ?_)
      refine b_bipush l162_106 (by decide) (b_pc (pc' := 108) rfl ?_)
      refine b_s (pc' := 109) (lv1 := [(0, .ref 76), (3, bI v3), (4, bI v4), (5, bI v5), (6, bI v6)]) (st' := [bI v3, bI 8, .ref 85]) l162_108 (fun _ => rfl) ?_
      refine b_imul l162_109 fun g5 => (b_pc (pc' := 110) rfl ?_)
      refine b_s (pc' := 112) (lv1 := [(0, .ref 76), (3, bI v3), (4, bI v4), (5, bI v5), (6, bI v6)]) (st' := [bI v6, bI (8 * v3), .ref 85]) l162_110 (fun _ => rfl) ?_
      refine b_iadd l162_112 fun g6 => (b_pc (pc' := 113) rfl ?_)
      refine b_g fun g21 => ?_
      refine b_ial l162_113 (by rfl) g21 (b_pc (pc' := 114) rfl ?_)
      refine b_s (pc' := 115) (lv1 := [(0, .ref 76), (3, bI v3), (4, bI v4), (5, bI v5), (6, bI v6)]) (st' := [.ref 76, bI (μ 85 ((8 * v3) + v6).toNat)]) l162_114 (fun _ => rfl) ?_
      refine b_gp (q' := 85) (j := 9) l162_115 (by rfl) (by decide) (by decide) rfl hk rfl rfl (b_pc (pc' := 118) rfl ?_)
      refine b_bipush l162_118 (by decide) (b_pc (pc' := 120) rfl ?_)
      refine b_s (pc' := 122) (lv1 := [(0, .ref 76), (3, bI v3), (4, bI v4), (5, bI v5), (6, bI v6)]) (st' := [bI v4, bI 8, .ref 85, bI (μ 85 ((8 * v3) + v6).toNat)]) l162_120 (fun _ => rfl) ?_
      refine b_imul l162_122 fun g7 => (b_pc (pc' := 123) rfl ?_)
      refine b_s (pc' := 125) (lv1 := [(0, .ref 76), (3, bI v3), (4, bI v4), (5, bI v5), (6, bI v6)]) (st' := [bI v6, bI (8 * v4), .ref 85, bI (μ 85 ((8 * v3) + v6).toNat)]) l162_123 (fun _ => rfl) ?_
      refine b_iadd l162_125 fun g8 => (b_pc (pc' := 126) rfl ?_)
      refine b_g fun g20 => ?_
      refine b_ial l162_126 (by rfl) g20 (b_pc (pc' := 127) rfl ?_)
      refine b_ine (pt := 162) l162_127 (bO_i hk (by rfl)) (bO_i hk (by rfl)) (by decide) rfl (fun c9 => ?_) (fun c9 => b_pc (pc' := 130) rfl ?_)
      · refine b_s (pc' := 163) (lv1 := [(0, .ref 76), (3, bI v3), (4, bI v4), (5, bI v5), (6, bI v6)]) (st' := [bI 0]) l162_162 (fun _ => rfl) ?_
        refine b_w (pc' := 165) (lv1 := ax_st1 [(0, .ref 76), (3, bI v3), (4, bI v4), (5, bI v5), (6, bI v6)] 5 (bI 0)) (lv' := [(0, .ref 76), (3, bI v3), (4, bI v4), (5, bI 0), (6, bI v6)]) (st' := []) l162_163 (fun _ => rfl) (bSb rfl (bSb rfl (bSb rfl (bSb rfl (bSb rfl bSn))))) ?_
        refine b_inc (lv' := [(0, .ref 76), (3, bI v3), (4, bI v4), (5, bI 0), (6, bI (v6 + 1))]) l162_165 rfl (by decide +kernel) (bSb rfl (bSb rfl (bSb rfl (bSb rfl (bSb rfl bSn))))) fun g10 => (b_pc (pc' := 168) rfl ?_)
        refine b_s (pc' := 86) (lv1 := [(0, .ref 76), (3, bI v3), (4, bI v4), (5, bI 0), (6, bI (v6 + 1))]) (st' := []) l162_168 (fun _ => rfl) ?_
        refine bD.wk (lv' := [(0, .ref 76), (3, bI v3), (4, bI v4), (5, bI 0), (6, bI (v6 + 1))]) (bSb rfl (bSb rfl (bSb rfl (bSb rfl (bSb rfl bSn))))) ?_
        exact H86 0 (v6 + 1) (by decide) g10
      · refine b_s (pc' := 131) (lv1 := [(0, .ref 76), (3, bI v3), (4, bI v4), (5, bI v5), (6, bI v6)]) (st' := [.ref 76]) l162_130 (fun _ => rfl) ?_
        refine b_gp (q' := 86) (j := 10) l162_131 (by rfl) (by decide) (by decide) rfl hk rfl rfl (b_pc (pc' := 134) rfl ?_)
        refine b_bipush l162_134 (by decide) (b_pc (pc' := 136) rfl ?_)
        refine b_s (pc' := 137) (lv1 := [(0, .ref 76), (3, bI v3), (4, bI v4), (5, bI v5), (6, bI v6)]) (st' := [bI v3, bI 8, .ref 86]) l162_136 (fun _ => rfl) ?_
        refine b_imul l162_137 fun g11 => (b_pc (pc' := 138) rfl ?_)
        refine b_s (pc' := 140) (lv1 := [(0, .ref 76), (3, bI v3), (4, bI v4), (5, bI v5), (6, bI v6)]) (st' := [bI v6, bI (8 * v3), .ref 86]) l162_138 (fun _ => rfl) ?_
        refine b_iadd l162_140 fun g12 => (b_pc (pc' := 141) rfl ?_)
        refine b_g fun g19 => ?_
        refine b_ial l162_141 (by rfl) g19 (b_pc (pc' := 142) rfl ?_)
        refine b_s (pc' := 143) (lv1 := [(0, .ref 76), (3, bI v3), (4, bI v4), (5, bI v5), (6, bI v6)]) (st' := [.ref 76, bI (μ 86 ((8 * v3) + v6).toNat)]) l162_142 (fun _ => rfl) ?_
        refine b_gp (q' := 86) (j := 10) l162_143 (by rfl) (by decide) (by decide) rfl hk rfl rfl (b_pc (pc' := 146) rfl ?_)
        refine b_bipush l162_146 (by decide) (b_pc (pc' := 148) rfl ?_)
        refine b_s (pc' := 150) (lv1 := [(0, .ref 76), (3, bI v3), (4, bI v4), (5, bI v5), (6, bI v6)]) (st' := [bI v4, bI 8, .ref 86, bI (μ 86 ((8 * v3) + v6).toNat)]) l162_148 (fun _ => rfl) ?_
        refine b_imul l162_150 fun g13 => (b_pc (pc' := 151) rfl ?_)
        refine b_s (pc' := 153) (lv1 := [(0, .ref 76), (3, bI v3), (4, bI v4), (5, bI v5), (6, bI v6)]) (st' := [bI v6, bI (8 * v4), .ref 86, bI (μ 86 ((8 * v3) + v6).toNat)]) l162_151 (fun _ => rfl) ?_
        refine b_iadd l162_153 fun g14 => (b_pc (pc' := 154) rfl ?_)
        refine b_g fun g18 => ?_
        refine b_ial l162_154 (by rfl) g18 (b_pc (pc' := 155) rfl ?_)
        refine b_ine (pt := 162) l162_155 (bO_i hk (by rfl)) (bO_i hk (by rfl)) (by decide) rfl (fun c15 => ?_) (fun c15 => b_pc (pc' := 158) rfl ?_)
        · refine b_s (pc' := 163) (lv1 := [(0, .ref 76), (3, bI v3), (4, bI v4), (5, bI v5), (6, bI v6)]) (st' := [bI 0]) l162_162 (fun _ => rfl) ?_
          refine b_w (pc' := 165) (lv1 := ax_st1 [(0, .ref 76), (3, bI v3), (4, bI v4), (5, bI v5), (6, bI v6)] 5 (bI 0)) (lv' := [(0, .ref 76), (3, bI v3), (4, bI v4), (5, bI 0), (6, bI v6)]) (st' := []) l162_163 (fun _ => rfl) (bSb rfl (bSb rfl (bSb rfl (bSb rfl (bSb rfl bSn))))) ?_
          refine b_inc (lv' := [(0, .ref 76), (3, bI v3), (4, bI v4), (5, bI 0), (6, bI (v6 + 1))]) l162_165 rfl (by decide +kernel) (bSb rfl (bSb rfl (bSb rfl (bSb rfl (bSb rfl bSn))))) fun g16 => (b_pc (pc' := 168) rfl ?_)
          refine b_s (pc' := 86) (lv1 := [(0, .ref 76), (3, bI v3), (4, bI v4), (5, bI 0), (6, bI (v6 + 1))]) (st' := []) l162_168 (fun _ => rfl) ?_
          refine bD.wk (lv' := [(0, .ref 76), (3, bI v3), (4, bI v4), (5, bI 0), (6, bI (v6 + 1))]) (bSb rfl (bSb rfl (bSb rfl (bSb rfl (bSb rfl bSn))))) ?_
          exact H86 0 (v6 + 1) (by decide) g16
        · refine b_s (pc' := 159) (lv1 := [(0, .ref 76), (3, bI v3), (4, bI v4), (5, bI v5), (6, bI v6)]) (st' := [bI 1]) l162_158 (fun _ => rfl) ?_
          refine b_s (pc' := 163) (lv1 := [(0, .ref 76), (3, bI v3), (4, bI v4), (5, bI v5), (6, bI v6)]) (st' := [bI 1]) l162_159 (fun _ => rfl) ?_
          refine b_w (pc' := 165) (lv1 := ax_st1 [(0, .ref 76), (3, bI v3), (4, bI v4), (5, bI v5), (6, bI v6)] 5 (bI 1)) (lv' := [(0, .ref 76), (3, bI v3), (4, bI v4), (5, bI 1), (6, bI v6)]) (st' := []) l162_163 (fun _ => rfl) (bSb rfl (bSb rfl (bSb rfl (bSb rfl (bSb rfl bSn))))) ?_
          refine b_inc (lv' := [(0, .ref 76), (3, bI v3), (4, bI v4), (5, bI 1), (6, bI (v6 + 1))]) l162_165 rfl (by decide +kernel) (bSb rfl (bSb rfl (bSb rfl (bSb rfl (bSb rfl bSn))))) fun g17 => (b_pc (pc' := 168) rfl ?_)
          refine b_s (pc' := 86) (lv1 := [(0, .ref 76), (3, bI v3), (4, bI v4), (5, bI 1), (6, bI (v6 + 1))]) (st' := []) l162_168 (fun _ => rfl) ?_
          refine bD.wk (lv' := [(0, .ref 76), (3, bI v3), (4, bI v4), (5, bI 1), (6, bI (v6 + 1))]) (bSb rfl (bSb rfl (bSb rfl (bSb rfl (bSb rfl bSn))))) ?_
          exact H86 1 (v6 + 1) (by decide) g17
theorem p_X11_sameShape_86 {L : Nat} {xs : Nat → Int32} {d : Nat} {μ : bM}  {κ : (Int) → Option bX} (hr : ∀ r : Int, κ r = (bPc μ) r)  {v3 : Int} (h3 : bR v3) {v4 : Int} (h4 : bR v4) {v5 : Int} (h5 : bR v5) {v6 : Int} (h6 : bR v6) : bD L xs (d + 2) 162 86 [(0, .ref 76), (3, bI v3), (4, bI v4), (5, bI v5), (6, bI v6)] [] μ ((bLoop (fun z => F_X11_sameShape_86 v3 v4 μ z.1 z.2) (v5, v6)).bind κ) :=
  b_loop (fun z => [(0, .ref 76), (3, bI v3), (4, bI v4), (5, bI z.1), (6, bI z.2)]) (fun z => μ) (fun z => bR z.1 ∧ bR z.2) (fun κ' hκ HH z hz => q_X11_sameShape_86 (κ := κ') (fun r => (hκ _).trans (hr r)) (fun a5 a6 b5 b6 => HH (a5, a6) ⟨b5, b6⟩)  h3 h4 hz.1 hz.2) (v5, v6) ⟨h5, h6⟩
theorem p_X11_sameShape_59 {L : Nat} {xs : Nat → Int32} {d : Nat} {μ : bM}  {κ : (Int) → Option bX} (hr : ∀ r : Int, κ r = (bPc μ) r)  {v2 : Int} (h2 : bR v2) {v3 : Int} (h3 : bR v3) {v4 : Int} (h4 : bR v4) {y0 : Int} (hy0 : bR y0) : bD L xs (d + 2) 162 59 [(0, .ref 76), (2, bI v2), (3, bI v3), (4, bI v4)] [bI y0] μ ((F_X11_sameShape_59 v2 v3 v4 y0 μ).bind κ) := by
  unfold F_X11_sameShape_59
  refine bD.ok fun hk => ?_
  refine b_s (pc' := 60) (lv1 := [(0, .ref 76), (2, bI v2), (3, bI v3), (4, bI v4)]) (st' := [.ref 76, bI y0]) l162_59 (fun _ => rfl) ?_
  refine b_s (pc' := 61) (lv1 := [(0, .ref 76), (2, bI v2), (3, bI v3), (4, bI v4)]) (st' := [bI v2, .ref 76, bI y0]) l162_60 (fun _ => rfl) ?_
  refine b_cPi l162_61 rfl (b_rc (ci := 9) (by rfl) (by decide) (by decide +kernel)) (Nat.le_of_ble_eq_true rfl) (Nat.le_of_ble_eq_true rfl) rfl (r_X11_firstChild v2 h2) fun w1 hw1 => b_pc (pc' := 64) rfl ?_
  refine b_s (pc' := 65) (lv1 := [(0, .ref 76), (2, bI v2), (3, bI v3), (4, bI v4)]) (st' := [bI (-1), bI w1, bI y0]) l162_64 (fun _ => rfl) ?_
  refine b_ine (pt := 72) l162_65 hw1 (by decide) (by decide) rfl (fun c2 => ?_) (fun c2 => b_pc (pc' := 68) rfl ?_)
  · refine b_s (pc' := 73) (lv1 := [(0, .ref 76), (2, bI v2), (3, bI v3), (4, bI v4)]) (st' := [bI 0, bI y0]) l162_72 (fun _ => rfl) ?_
    refine b_ine (pt := 80) l162_73 hy0 (by decide) (by decide) rfl (fun c3 => ?_) (fun c3 => b_pc (pc' := 76) rfl ?_)
    · refine b_s (pc' := 81) (lv1 := [(0, .ref 76), (2, bI v2), (3, bI v3), (4, bI v4)]) (st' := [bI 0]) l162_80 (fun _ => rfl) ?_
      refine b_w (pc' := 83) (lv1 := ax_st1 [(0, .ref 76), (2, bI v2), (3, bI v3), (4, bI v4)] 5 (bI 0)) (lv' := [(0, .ref 76), (3, bI v3), (4, bI v4), (5, bI 0)]) (st' := []) l162_81 (fun _ => rfl) (bSb rfl (bSb rfl (bSb rfl (bSb rfl bSn)))) ?_
      refine b_s (pc' := 84) (lv1 := [(0, .ref 76), (3, bI v3), (4, bI v4), (5, bI 0)]) (st' := [bI 0]) l162_83 (fun _ => rfl) ?_
      refine b_w (pc' := 86) (lv1 := ax_st1 [(0, .ref 76), (3, bI v3), (4, bI v4), (5, bI 0)] 6 (bI 0)) (lv' := [(0, .ref 76), (3, bI v3), (4, bI v4), (5, bI 0), (6, bI 0)]) (st' := []) l162_84 (fun _ => rfl) (bSb rfl (bSb rfl (bSb rfl (bSb rfl (bSb rfl bSn))))) ?_
      refine bD.wk (lv' := [(0, .ref 76), (3, bI v3), (4, bI v4), (5, bI 0), (6, bI 0)]) (bSb rfl (bSb rfl (bSb rfl (bSb rfl (bSb rfl bSn))))) ?_
      exact p_X11_sameShape_86 hr h3 h4 (by decide) (by decide)
    · refine b_s (pc' := 77) (lv1 := [(0, .ref 76), (2, bI v2), (3, bI v3), (4, bI v4)]) (st' := [bI 1]) l162_76 (fun _ => rfl) ?_
      refine b_s (pc' := 81) (lv1 := [(0, .ref 76), (2, bI v2), (3, bI v3), (4, bI v4)]) (st' := [bI 1]) l162_77 (fun _ => rfl) ?_
      refine b_w (pc' := 83) (lv1 := ax_st1 [(0, .ref 76), (2, bI v2), (3, bI v3), (4, bI v4)] 5 (bI 1)) (lv' := [(0, .ref 76), (3, bI v3), (4, bI v4), (5, bI 1)]) (st' := []) l162_81 (fun _ => rfl) (bSb rfl (bSb rfl (bSb rfl (bSb rfl bSn)))) ?_
      refine b_s (pc' := 84) (lv1 := [(0, .ref 76), (3, bI v3), (4, bI v4), (5, bI 1)]) (st' := [bI 0]) l162_83 (fun _ => rfl) ?_
      refine b_w (pc' := 86) (lv1 := ax_st1 [(0, .ref 76), (3, bI v3), (4, bI v4), (5, bI 1)] 6 (bI 0)) (lv' := [(0, .ref 76), (3, bI v3), (4, bI v4), (5, bI 1), (6, bI 0)]) (st' := []) l162_84 (fun _ => rfl) (bSb rfl (bSb rfl (bSb rfl (bSb rfl (bSb rfl bSn))))) ?_
      refine bD.wk (lv' := [(0, .ref 76), (3, bI v3), (4, bI v4), (5, bI 1), (6, bI 0)]) (bSb rfl (bSb rfl (bSb rfl (bSb rfl (bSb rfl bSn))))) ?_
      exact p_X11_sameShape_86 hr h3 h4 (by decide) (by decide)
  · refine b_s (pc' := 69) (lv1 := [(0, .ref 76), (2, bI v2), (3, bI v3), (4, bI v4)]) (st' := [bI 1, bI y0]) l162_68 (fun _ => rfl) ?_
    refine b_s (pc' := 73) (lv1 := [(0, .ref 76), (2, bI v2), (3, bI v3), (4, bI v4)]) (st' := [bI 1, bI y0]) l162_69 (fun _ => rfl) ?_
    refine b_ine (pt := 80) l162_73 hy0 (by decide) (by decide) rfl (fun c4 => ?_) (fun c4 => b_pc (pc' := 76) rfl ?_)
    · refine b_s (pc' := 81) (lv1 := [(0, .ref 76), (2, bI v2), (3, bI v3), (4, bI v4)]) (st' := [bI 0]) l162_80 (fun _ => rfl) ?_
      refine b_w (pc' := 83) (lv1 := ax_st1 [(0, .ref 76), (2, bI v2), (3, bI v3), (4, bI v4)] 5 (bI 0)) (lv' := [(0, .ref 76), (3, bI v3), (4, bI v4), (5, bI 0)]) (st' := []) l162_81 (fun _ => rfl) (bSb rfl (bSb rfl (bSb rfl (bSb rfl bSn)))) ?_
      refine b_s (pc' := 84) (lv1 := [(0, .ref 76), (3, bI v3), (4, bI v4), (5, bI 0)]) (st' := [bI 0]) l162_83 (fun _ => rfl) ?_
      refine b_w (pc' := 86) (lv1 := ax_st1 [(0, .ref 76), (3, bI v3), (4, bI v4), (5, bI 0)] 6 (bI 0)) (lv' := [(0, .ref 76), (3, bI v3), (4, bI v4), (5, bI 0), (6, bI 0)]) (st' := []) l162_84 (fun _ => rfl) (bSb rfl (bSb rfl (bSb rfl (bSb rfl (bSb rfl bSn))))) ?_
      refine bD.wk (lv' := [(0, .ref 76), (3, bI v3), (4, bI v4), (5, bI 0), (6, bI 0)]) (bSb rfl (bSb rfl (bSb rfl (bSb rfl (bSb rfl bSn))))) ?_
      exact p_X11_sameShape_86 hr h3 h4 (by decide) (by decide)
    · refine b_s (pc' := 77) (lv1 := [(0, .ref 76), (2, bI v2), (3, bI v3), (4, bI v4)]) (st' := [bI 1]) l162_76 (fun _ => rfl) ?_
      refine b_s (pc' := 81) (lv1 := [(0, .ref 76), (2, bI v2), (3, bI v3), (4, bI v4)]) (st' := [bI 1]) l162_77 (fun _ => rfl) ?_
      refine b_w (pc' := 83) (lv1 := ax_st1 [(0, .ref 76), (2, bI v2), (3, bI v3), (4, bI v4)] 5 (bI 1)) (lv' := [(0, .ref 76), (3, bI v3), (4, bI v4), (5, bI 1)]) (st' := []) l162_81 (fun _ => rfl) (bSb rfl (bSb rfl (bSb rfl (bSb rfl bSn)))) ?_
      refine b_s (pc' := 84) (lv1 := [(0, .ref 76), (3, bI v3), (4, bI v4), (5, bI 1)]) (st' := [bI 0]) l162_83 (fun _ => rfl) ?_
      refine b_w (pc' := 86) (lv1 := ax_st1 [(0, .ref 76), (3, bI v3), (4, bI v4), (5, bI 1)] 6 (bI 0)) (lv' := [(0, .ref 76), (3, bI v3), (4, bI v4), (5, bI 1), (6, bI 0)]) (st' := []) l162_84 (fun _ => rfl) (bSb rfl (bSb rfl (bSb rfl (bSb rfl (bSb rfl bSn))))) ?_
      refine bD.wk (lv' := [(0, .ref 76), (3, bI v3), (4, bI v4), (5, bI 1), (6, bI 0)]) (bSb rfl (bSb rfl (bSb rfl (bSb rfl (bSb rfl bSn))))) ?_
      exact p_X11_sameShape_86 hr h3 h4 (by decide) (by decide)
theorem r_X11_sameShape {L : Nat} {xs : Nat → Int32} {d : Nat} {μ : bM}  (v1 : Int) (h1 : bR v1) (v2 : Int) (h2 : bR v2) : bD L xs (d + 2) 162 0 [(0, .ref 76), (1, bI v1), (2, bI v2)] [] μ ((F_X11_sameShape v1 v2 μ).bind (bPc μ)) := by
  have hr : ∀ r, (bPc μ) r = (bPc μ) r := fun _ => rfl
  unfold F_X11_sameShape
  refine bD.ok fun hk => ?_
  refine b_s (pc' := 1) (lv1 := [(0, .ref 76), (1, bI v1), (2, bI v2)]) (st' := [.ref 76]) l162_0 (fun _ => rfl) ?_
  refine b_s (pc' := 2) (lv1 := [(0, .ref 76), (1, bI v1), (2, bI v2)]) (st' := [bI v1, .ref 76]) l162_1 (fun _ => rfl) ?_
  refine b_cPi l162_2 rfl (b_rc (ci := 9) (by rfl) (by decide) (by decide +kernel)) (Nat.le_of_ble_eq_true rfl) (Nat.le_of_ble_eq_true rfl) rfl (r_X11_at v1 h1) fun w1 hw1 => b_pc (pc' := 5) rfl ?_
  refine b_w (pc' := 6) (lv1 := ax_st1 [(0, .ref 76), (1, bI v1), (2, bI v2)] 3 (bI w1)) (lv' := [(0, .ref 76), (1, bI v1), (2, bI v2), (3, bI w1)]) (st' := []) l162_5 (fun _ => rfl) (bSb rfl (bSb rfl (bSb rfl (bSb rfl bSn)))) ?_
  refine b_s (pc' := 7) (lv1 := [(0, .ref 76), (1, bI v1), (2, bI v2), (3, bI w1)]) (st' := [.ref 76]) l162_6 (fun _ => rfl) ?_
  refine b_s (pc' := 8) (lv1 := [(0, .ref 76), (1, bI v1), (2, bI v2), (3, bI w1)]) (st' := [bI v2, .ref 76]) l162_7 (fun _ => rfl) ?_
  refine b_cPi l162_8 rfl (b_rc (ci := 9) (by rfl) (by decide) (by decide +kernel)) (Nat.le_of_ble_eq_true rfl) (Nat.le_of_ble_eq_true rfl) rfl (r_X11_at v2 h2) fun w2 hw2 => b_pc (pc' := 11) rfl ?_
  refine b_w (pc' := 13) (lv1 := ax_st1 [(0, .ref 76), (1, bI v1), (2, bI v2), (3, bI w1)] 4 (bI w2)) (lv' := [(0, .ref 76), (1, bI v1), (2, bI v2), (3, bI w1), (4, bI w2)]) (st' := []) l162_11 (fun _ => rfl) (bSb rfl (bSb rfl (bSb rfl (bSb rfl (bSb rfl bSn))))) ?_
  refine b_s (pc' := 14) (lv1 := [(0, .ref 76), (1, bI v1), (2, bI v2), (3, bI w1), (4, bI w2)]) (st' := [.ref 76]) l162_13 (fun _ => rfl) ?_
  refine b_gp (q' := 81) (j := 5) l162_14 (by rfl) (by decide) (by decide) rfl hk rfl rfl (b_pc (pc' := 17) rfl ?_)
  refine b_s (pc' := 18) (lv1 := [(0, .ref 76), (1, bI v1), (2, bI v2), (3, bI w1), (4, bI w2)]) (st' := [bI w1, .ref 81]) l162_17 (fun _ => rfl) ?_
  refine b_g fun g10 => ?_
  refine b_ial l162_18 (by rfl) g10 (b_pc (pc' := 19) rfl ?_)
  refine b_s (pc' := 20) (lv1 := [(0, .ref 76), (1, bI v1), (2, bI v2), (3, bI w1), (4, bI w2)]) (st' := [.ref 76, bI (μ 81 w1.toNat)]) l162_19 (fun _ => rfl) ?_
  refine b_gp (q' := 81) (j := 5) l162_20 (by rfl) (by decide) (by decide) rfl hk rfl rfl (b_pc (pc' := 23) rfl ?_)
  refine b_s (pc' := 25) (lv1 := [(0, .ref 76), (1, bI v1), (2, bI v2), (3, bI w1), (4, bI w2)]) (st' := [bI w2, .ref 81, bI (μ 81 w1.toNat)]) l162_23 (fun _ => rfl) ?_
  refine b_g fun g9 => ?_
  refine b_ial l162_25 (by rfl) g9 (b_pc (pc' := 26) rfl ?_)
  refine b_ine (pt := 80) l162_26 (bO_i hk (by rfl)) (bO_i hk (by rfl)) (by decide) rfl (fun c3 => ?_) (fun c3 => b_pc (pc' := 29) rfl ?_)
  · refine b_s (pc' := 81) (lv1 := [(0, .ref 76), (1, bI v1), (2, bI v2), (3, bI w1), (4, bI w2)]) (st' := [bI 0]) l162_80 (fun _ => rfl) ?_
    refine b_w (pc' := 83) (lv1 := ax_st1 [(0, .ref 76), (1, bI v1), (2, bI v2), (3, bI w1), (4, bI w2)] 5 (bI 0)) (lv' := [(0, .ref 76), (3, bI w1), (4, bI w2), (5, bI 0)]) (st' := []) l162_81 (fun _ => rfl) (bSb rfl (bSb rfl (bSb rfl (bSb rfl bSn)))) ?_
    refine b_s (pc' := 84) (lv1 := [(0, .ref 76), (3, bI w1), (4, bI w2), (5, bI 0)]) (st' := [bI 0]) l162_83 (fun _ => rfl) ?_
    refine b_w (pc' := 86) (lv1 := ax_st1 [(0, .ref 76), (3, bI w1), (4, bI w2), (5, bI 0)] 6 (bI 0)) (lv' := [(0, .ref 76), (3, bI w1), (4, bI w2), (5, bI 0), (6, bI 0)]) (st' := []) l162_84 (fun _ => rfl) (bSb rfl (bSb rfl (bSb rfl (bSb rfl (bSb rfl bSn))))) ?_
    refine bD.wk (lv' := [(0, .ref 76), (3, bI w1), (4, bI w2), (5, bI 0), (6, bI 0)]) (bSb rfl (bSb rfl (bSb rfl (bSb rfl (bSb rfl bSn))))) ?_
    exact p_X11_sameShape_86 hr hw1 hw2 (by decide) (by decide)
  · refine b_s (pc' := 30) (lv1 := [(0, .ref 76), (1, bI v1), (2, bI v2), (3, bI w1), (4, bI w2)]) (st' := [.ref 76]) l162_29 (fun _ => rfl) ?_
    refine b_gp (q' := 84) (j := 8) l162_30 (by rfl) (by decide) (by decide) rfl hk rfl rfl (b_pc (pc' := 33) rfl ?_)
    refine b_s (pc' := 34) (lv1 := [(0, .ref 76), (1, bI v1), (2, bI v2), (3, bI w1), (4, bI w2)]) (st' := [bI w1, .ref 84]) l162_33 (fun _ => rfl) ?_
    refine b_g fun g8 => ?_
    refine b_ial l162_34 (by rfl) g8 (b_pc (pc' := 35) rfl ?_)
    refine b_s (pc' := 36) (lv1 := [(0, .ref 76), (1, bI v1), (2, bI v2), (3, bI w1), (4, bI w2)]) (st' := [.ref 76, bI (μ 84 w1.toNat)]) l162_35 (fun _ => rfl) ?_
    refine b_gp (q' := 84) (j := 8) l162_36 (by rfl) (by decide) (by decide) rfl hk rfl rfl (b_pc (pc' := 39) rfl ?_)
    refine b_s (pc' := 41) (lv1 := [(0, .ref 76), (1, bI v1), (2, bI v2), (3, bI w1), (4, bI w2)]) (st' := [bI w2, .ref 84, bI (μ 84 w1.toNat)]) l162_39 (fun _ => rfl) ?_
    refine b_g fun g7 => ?_
    refine b_ial l162_41 (by rfl) g7 (b_pc (pc' := 42) rfl ?_)
    refine b_ine (pt := 80) l162_42 (bO_i hk (by rfl)) (bO_i hk (by rfl)) (by decide) rfl (fun c4 => ?_) (fun c4 => b_pc (pc' := 45) rfl ?_)
    · refine b_s (pc' := 81) (lv1 := [(0, .ref 76), (1, bI v1), (2, bI v2), (3, bI w1), (4, bI w2)]) (st' := [bI 0]) l162_80 (fun _ => rfl) ?_
      refine b_w (pc' := 83) (lv1 := ax_st1 [(0, .ref 76), (1, bI v1), (2, bI v2), (3, bI w1), (4, bI w2)] 5 (bI 0)) (lv' := [(0, .ref 76), (3, bI w1), (4, bI w2), (5, bI 0)]) (st' := []) l162_81 (fun _ => rfl) (bSb rfl (bSb rfl (bSb rfl (bSb rfl bSn)))) ?_
      refine b_s (pc' := 84) (lv1 := [(0, .ref 76), (3, bI w1), (4, bI w2), (5, bI 0)]) (st' := [bI 0]) l162_83 (fun _ => rfl) ?_
      refine b_w (pc' := 86) (lv1 := ax_st1 [(0, .ref 76), (3, bI w1), (4, bI w2), (5, bI 0)] 6 (bI 0)) (lv' := [(0, .ref 76), (3, bI w1), (4, bI w2), (5, bI 0), (6, bI 0)]) (st' := []) l162_84 (fun _ => rfl) (bSb rfl (bSb rfl (bSb rfl (bSb rfl (bSb rfl bSn))))) ?_
      refine bD.wk (lv' := [(0, .ref 76), (3, bI w1), (4, bI w2), (5, bI 0), (6, bI 0)]) (bSb rfl (bSb rfl (bSb rfl (bSb rfl (bSb rfl bSn))))) ?_
      exact p_X11_sameShape_86 hr hw1 hw2 (by decide) (by decide)
    · refine b_s (pc' := 46) (lv1 := [(0, .ref 76), (1, bI v1), (2, bI v2), (3, bI w1), (4, bI w2)]) (st' := [.ref 76]) l162_45 (fun _ => rfl) ?_
      refine b_s (pc' := 47) (lv1 := [(0, .ref 76), (1, bI v1), (2, bI v2), (3, bI w1), (4, bI w2)]) (st' := [bI v1, .ref 76]) l162_46 (fun _ => rfl) ?_
      refine b_cPi l162_47 rfl (b_rc (ci := 9) (by rfl) (by decide) (by decide +kernel)) (Nat.le_of_ble_eq_true rfl) (Nat.le_of_ble_eq_true rfl) rfl (r_X11_firstChild v1 h1) fun w5 hw5 => b_pc (pc' := 50) rfl ?_
      refine b_s (pc' := 51) (lv1 := [(0, .ref 76), (1, bI v1), (2, bI v2), (3, bI w1), (4, bI w2)]) (st' := [bI (-1), bI w5]) l162_50 (fun _ => rfl) ?_
      refine b_ine (pt := 58) l162_51 hw5 (by decide) (by decide) rfl (fun c6 => ?_) (fun c6 => b_pc (pc' := 54) rfl ?_)
      · refine b_s (pc' := 59) (lv1 := [(0, .ref 76), (1, bI v1), (2, bI v2), (3, bI w1), (4, bI w2)]) (st' := [bI 0]) l162_58 (fun _ => rfl) ?_
        refine bD.wk (lv' := [(0, .ref 76), (2, bI v2), (3, bI w1), (4, bI w2)]) (bSb rfl (bSb rfl (bSb rfl (bSb rfl bSn)))) ?_
        exact p_X11_sameShape_59 hr h2 hw1 hw2 (by decide)
      · refine b_s (pc' := 55) (lv1 := [(0, .ref 76), (1, bI v1), (2, bI v2), (3, bI w1), (4, bI w2)]) (st' := [bI 1]) l162_54 (fun _ => rfl) ?_
        refine b_s (pc' := 59) (lv1 := [(0, .ref 76), (1, bI v1), (2, bI v2), (3, bI w1), (4, bI w2)]) (st' := [bI 1]) l162_55 (fun _ => rfl) ?_
        refine bD.wk (lv' := [(0, .ref 76), (2, bI v2), (3, bI w1), (4, bI w2)]) (bSb rfl (bSb rfl (bSb rfl (bSb rfl bSn)))) ?_
        exact p_X11_sameShape_59 hr h2 hw1 hw2 (by decide)
/-! ETModel.findShapes -/
theorem l163_0 : (ax_dt (ax_T 163)).lookup 0 = some (.aload_n 0, 1, 0, 0, 0) := by decide +kernel
theorem l163_1 : (ax_dt (ax_T 163)).lookup 1 = some (.iconst 0, 1, 0, 0, 0) := by decide +kernel
theorem l163_2 : (ax_dt (ax_T 163)).lookup 2 = some (.putfield 205, 3, 9, 26, 0) := by decide +kernel
theorem l163_5 : (ax_dt (ax_T 163)).lookup 5 = some (.iconst 0, 1, 0, 0, 0) := by decide +kernel
theorem l163_6 : (ax_dt (ax_T 163)).lookup 6 = some (.istore_n 1, 1, 0, 0, 0) := by decide +kernel
theorem l163_7 : (ax_dt (ax_T 163)).lookup 7 = some (.iload_n 1, 1, 0, 0, 0) := by decide +kernel
theorem l163_8 : (ax_dt (ax_T 163)).lookup 8 = some (.aload_n 0, 1, 0, 0, 0) := by decide +kernel
theorem l163_9 : (ax_dt (ax_T 163)).lookup 9 = some (.getfield 196, 3, 9, 23, 0) := by decide +kernel
theorem l163_12 : (ax_dt (ax_T 163)).lookup 12 = some (.if_icmp .ge 102, 3, 0, 0, 0) := by decide +kernel
theorem l163_15 : (ax_dt (ax_T 163)).lookup 15 = some (.aload_n 0, 1, 0, 0, 0) := by decide +kernel
theorem l163_16 : (ax_dt (ax_T 163)).lookup 16 = some (.getfield 68, 3, 9, 24, 0) := by decide +kernel
theorem l163_19 : (ax_dt (ax_T 163)).lookup 19 = some (.iload_n 1, 1, 0, 0, 0) := by decide +kernel
theorem l163_20 : (ax_dt (ax_T 163)).lookup 20 = some (.iaload, 1, 0, 0, 0) := by decide +kernel
theorem l163_21 : (ax_dt (ax_T 163)).lookup 21 = some (.istore_n 2, 1, 0, 0, 0) := by decide +kernel
theorem l163_22 : (ax_dt (ax_T 163)).lookup 22 = some (.iconst (-1), 1, 0, 0, 0) := by decide +kernel
theorem l163_23 : (ax_dt (ax_T 163)).lookup 23 = some (.istore_n 3, 1, 0, 0, 0) := by decide +kernel
theorem l163_24 : (ax_dt (ax_T 163)).lookup 24 = some (.iconst 0, 1, 0, 0, 0) := by decide +kernel
theorem l163_25 : (ax_dt (ax_T 163)).lookup 25 = some (.istore 4, 2, 0, 0, 0) := by decide +kernel
theorem l163_27 : (ax_dt (ax_T 163)).lookup 27 = some (.iload 4, 2, 0, 0, 0) := by decide +kernel
theorem l163_29 : (ax_dt (ax_T 163)).lookup 29 = some (.aload_n 0, 1, 0, 0, 0) := by decide +kernel
theorem l163_30 : (ax_dt (ax_T 163)).lookup 30 = some (.getfield 205, 3, 9, 26, 0) := by decide +kernel
theorem l163_33 : (ax_dt (ax_T 163)).lookup 33 = some (.if_icmp .ge 36, 3, 0, 0, 0) := by decide +kernel
theorem l163_36 : (ax_dt (ax_T 163)).lookup 36 = some (.iload_n 3, 1, 0, 0, 0) := by decide +kernel
theorem l163_37 : (ax_dt (ax_T 163)).lookup 37 = some (.iconst (-1), 1, 0, 0, 0) := by decide +kernel
theorem l163_38 : (ax_dt (ax_T 163)).lookup 38 = some (.if_icmp .ne 31, 3, 0, 0, 0) := by decide +kernel
theorem l163_41 : (ax_dt (ax_T 163)).lookup 41 = some (.aload_n 0, 1, 0, 0, 0) := by decide +kernel
theorem l163_42 : (ax_dt (ax_T 163)).lookup 42 = some (.aload_n 0, 1, 0, 0, 0) := by decide +kernel
theorem l163_43 : (ax_dt (ax_T 163)).lookup 43 = some (.getfield 77, 3, 9, 28, 0) := by decide +kernel
theorem l163_46 : (ax_dt (ax_T 163)).lookup 46 = some (.iload 4, 2, 0, 0, 0) := by decide +kernel
theorem l163_48 : (ax_dt (ax_T 163)).lookup 48 = some (.iaload, 1, 0, 0, 0) := by decide +kernel
theorem l163_49 : (ax_dt (ax_T 163)).lookup 49 = some (.iload_n 2, 1, 0, 0, 0) := by decide +kernel
theorem l163_50 : (ax_dt (ax_T 163)).lookup 50 = some (.invokevirtual 208, 3, 162, 2, 0) := by decide +kernel
theorem l163_53 : (ax_dt (ax_T 163)).lookup 53 = some (.ifCond .eq 8, 3, 0, 0, 0) := by decide +kernel
theorem l163_56 : (ax_dt (ax_T 163)).lookup 56 = some (.iload 4, 2, 0, 0, 0) := by decide +kernel
theorem l163_58 : (ax_dt (ax_T 163)).lookup 58 = some (.goto 4, 3, 0, 0, 0) := by decide +kernel
theorem l163_61 : (ax_dt (ax_T 163)).lookup 61 = some (.iconst (-1), 1, 0, 0, 0) := by decide +kernel
theorem l163_62 : (ax_dt (ax_T 163)).lookup 62 = some (.istore_n 3, 1, 0, 0, 0) := by decide +kernel
theorem l163_63 : (ax_dt (ax_T 163)).lookup 63 = some (.iinc 4 1, 3, 0, 0, 0) := by decide +kernel
theorem l163_66 : (ax_dt (ax_T 163)).lookup 66 = some (.goto (-39), 3, 0, 0, 0) := by decide +kernel
theorem l163_69 : (ax_dt (ax_T 163)).lookup 69 = some (.iload_n 3, 1, 0, 0, 0) := by decide +kernel
theorem l163_70 : (ax_dt (ax_T 163)).lookup 70 = some (.iconst (-1), 1, 0, 0, 0) := by decide +kernel
theorem l163_71 : (ax_dt (ax_T 163)).lookup 71 = some (.if_icmp .ne 28, 3, 0, 0, 0) := by decide +kernel
theorem l163_74 : (ax_dt (ax_T 163)).lookup 74 = some (.aload_n 0, 1, 0, 0, 0) := by decide +kernel
theorem l163_75 : (ax_dt (ax_T 163)).lookup 75 = some (.getfield 77, 3, 9, 28, 0) := by decide +kernel
theorem l163_78 : (ax_dt (ax_T 163)).lookup 78 = some (.aload_n 0, 1, 0, 0, 0) := by decide +kernel
theorem l163_79 : (ax_dt (ax_T 163)).lookup 79 = some (.getfield 205, 3, 9, 26, 0) := by decide +kernel
theorem l163_82 : (ax_dt (ax_T 163)).lookup 82 = some (.iload_n 2, 1, 0, 0, 0) := by decide +kernel
theorem l163_83 : (ax_dt (ax_T 163)).lookup 83 = some (.iastore, 1, 0, 0, 0) := by decide +kernel
theorem l163_84 : (ax_dt (ax_T 163)).lookup 84 = some (.aload_n 0, 1, 0, 0, 0) := by decide +kernel
theorem l163_85 : (ax_dt (ax_T 163)).lookup 85 = some (.getfield 205, 3, 9, 26, 0) := by decide +kernel
theorem l163_88 : (ax_dt (ax_T 163)).lookup 88 = some (.istore_n 3, 1, 0, 0, 0) := by decide +kernel
theorem l163_89 : (ax_dt (ax_T 163)).lookup 89 = some (.aload_n 0, 1, 0, 0, 0) := by decide +kernel
theorem l163_90 : (ax_dt (ax_T 163)).lookup 90 = some (.dup, 1, 0, 0, 0) := by decide +kernel
theorem l163_91 : (ax_dt (ax_T 163)).lookup 91 = some (.getfield 205, 3, 9, 26, 0) := by decide +kernel
theorem l163_94 : (ax_dt (ax_T 163)).lookup 94 = some (.iconst 1, 1, 0, 0, 0) := by decide +kernel
theorem l163_95 : (ax_dt (ax_T 163)).lookup 95 = some (.iadd, 1, 0, 0, 0) := by decide +kernel
theorem l163_96 : (ax_dt (ax_T 163)).lookup 96 = some (.putfield 205, 3, 9, 26, 0) := by decide +kernel
theorem l163_99 : (ax_dt (ax_T 163)).lookup 99 = some (.aload_n 0, 1, 0, 0, 0) := by decide +kernel
theorem l163_100 : (ax_dt (ax_T 163)).lookup 100 = some (.getfield 74, 3, 9, 27, 0) := by decide +kernel
theorem l163_103 : (ax_dt (ax_T 163)).lookup 103 = some (.iload_n 2, 1, 0, 0, 0) := by decide +kernel
theorem l163_104 : (ax_dt (ax_T 163)).lookup 104 = some (.iload_n 3, 1, 0, 0, 0) := by decide +kernel
theorem l163_105 : (ax_dt (ax_T 163)).lookup 105 = some (.iconst 1, 1, 0, 0, 0) := by decide +kernel
theorem l163_106 : (ax_dt (ax_T 163)).lookup 106 = some (.iadd, 1, 0, 0, 0) := by decide +kernel
theorem l163_107 : (ax_dt (ax_T 163)).lookup 107 = some (.iastore, 1, 0, 0, 0) := by decide +kernel
theorem l163_108 : (ax_dt (ax_T 163)).lookup 108 = some (.iinc 1 1, 3, 0, 0, 0) := by decide +kernel
theorem l163_111 : (ax_dt (ax_T 163)).lookup 111 = some (.goto (-104), 3, 0, 0, 0) := by decide +kernel
theorem l163_114 : (ax_dt (ax_T 163)).lookup 114 = some (.return_, 1, 0, 0, 0) := by decide +kernel
noncomputable def F_X11_findShapes_69 (v1 : Int) (v2 : Int) (v3 : Int) (μ : bM) : Option ((Int × bM) ⊕ (Int × bM)) := if ¬ v3 = (-1) then bG (bR (v3 + 1)) (bG (0 ≤ v2 ∧ v2 < 400) (bG (bR (v1 + 1)) (some (.inl ((v1 + 1), (bset μ 97 v2.toNat (v3 + 1))))))) else bG (0 ≤ (μ 76 26) ∧ (μ 76 26) < 400) (bG (bR (((bset μ 98 (μ 76 26).toNat v2) 76 26) + 1)) (bG (bR (((bset μ 98 (μ 76 26).toNat v2) 76 26) + 1)) (bG (0 ≤ v2 ∧ v2 < 400) (bG (bR (v1 + 1)) (some (.inl ((v1 + 1), (bset (bset (bset μ 98 (μ 76 26).toNat v2) 76 26 (((bset μ 98 (μ 76 26).toNat v2) 76 26) + 1)) 97 v2.toNat (((bset μ 98 (μ 76 26).toNat v2) 76 26) + 1)))))))))
noncomputable def F_X11_findShapes_27 (v1 : Int) (v2 : Int) (μ : bM) (v3 : Int) (v4 : Int) : Option ((Int × Int) ⊕ ((Int × bM) ⊕ (Int × bM))) := if (μ 76 26) ≤ v4 then bUp (F_X11_findShapes_69 v1 v2 v3 μ) else if ¬ v3 = (-1) then bUp (F_X11_findShapes_69 v1 v2 v3 μ) else bG (0 ≤ v4 ∧ v4 < 400) ((F_X11_sameShape (μ 98 v4.toNat) v2 μ).bind fun w3 => if w3 = 0 then bG (bR (v4 + 1)) (some (.inl ((-1), (v4 + 1)))) else bG (bR (v4 + 1)) (some (.inl (v4, (v4 + 1)))))
noncomputable def F_X11_findShapes_7 (v1 : Int) (μ : bM) : Option ((Int × bM) ⊕ (Int × bM)) := if (μ 76 23) ≤ v1 then some (.inr (0, μ)) else bG (0 ≤ v1 ∧ v1 < 400) (bLoop (fun z => F_X11_findShapes_27 v1 (μ 95 v1.toNat) μ z.1 z.2) ((-1), 0))
noncomputable def F_X11_findShapes (μ : bM) : Option (Int × bM) := bLoop (fun z => F_X11_findShapes_7 z.1 z.2) (0, (bset μ 76 26 0))
theorem p_X11_findShapes_69 {L : Nat} {xs : Nat → Int32} {d : Nat} {μ : bM}  {κ : ((Int × bM) ⊕ (Int × bM)) → Option bX} (hr : ∀ r : Int × bM, κ (.inr r) = (bMc) r) (H7 : ∀ (v1 : Int) (μ : bM), bR v1 → bD L xs (d + 3) 163 7 [(0, .ref 76), (1, bI v1)] [] μ (κ (.inl (v1, μ))))  {v1 : Int} (h1 : bR v1) {v2 : Int} (h2 : bR v2) {v3 : Int} (h3 : bR v3) : bD L xs (d + 3) 163 69 [(0, .ref 76), (1, bI v1), (2, bI v2), (3, bI v3)] [] μ ((F_X11_findShapes_69 v1 v2 v3 μ).bind κ) := by
  unfold F_X11_findShapes_69
  refine bD.ok fun hk => ?_
  refine b_s (pc' := 70) (lv1 := [(0, .ref 76), (1, bI v1), (2, bI v2), (3, bI v3)]) (st' := [bI v3]) l163_69 (fun _ => rfl) ?_
  refine b_s (pc' := 71) (lv1 := [(0, .ref 76), (1, bI v1), (2, bI v2), (3, bI v3)]) (st' := [bI (-1), bI v3]) l163_70 (fun _ => rfl) ?_
  refine b_ine (pt := 99) l163_71 h3 (by decide) (by decide) rfl (fun c1 => ?_) (fun c1 => b_pc (pc' := 74) rfl ?_)
  · refine b_s (pc' := 100) (lv1 := [(0, .ref 76), (1, bI v1), (2, bI v2), (3, bI v3)]) (st' := [.ref 76]) l163_99 (fun _ => rfl) ?_
    refine b_gp (q' := 97) (j := 21) l163_100 (by rfl) (by decide) (by decide) rfl hk rfl rfl (b_pc (pc' := 103) rfl ?_)
    refine b_s (pc' := 104) (lv1 := [(0, .ref 76), (1, bI v1), (2, bI v2), (3, bI v3)]) (st' := [bI v2, .ref 97]) l163_103 (fun _ => rfl) ?_
    refine b_s (pc' := 105) (lv1 := [(0, .ref 76), (1, bI v1), (2, bI v2), (3, bI v3)]) (st' := [bI v3, bI v2, .ref 97]) l163_104 (fun _ => rfl) ?_
    refine b_s (pc' := 106) (lv1 := [(0, .ref 76), (1, bI v1), (2, bI v2), (3, bI v3)]) (st' := [bI 1, bI v3, bI v2, .ref 97]) l163_105 (fun _ => rfl) ?_
    refine b_iadd l163_106 fun g2 => (b_pc (pc' := 107) rfl ?_)
    refine b_g fun g5 => ?_
    refine b_ias l163_107 (by rfl) g5 g2 (bD.ok fun hk3 => b_pc (pc' := 108) rfl ?_)
    refine b_inc (lv' := [(0, .ref 76), (1, bI (v1 + 1))]) l163_108 rfl (by decide +kernel) (bSb rfl (bSb rfl bSn)) fun g4 => (b_pc (pc' := 111) rfl ?_)
    refine b_s (pc' := 7) (lv1 := [(0, .ref 76), (1, bI (v1 + 1))]) (st' := []) l163_111 (fun _ => rfl) ?_
    refine bD.wk (lv' := [(0, .ref 76), (1, bI (v1 + 1))]) (bSb rfl (bSb rfl bSn)) ?_
    exact H7 (v1 + 1) (bset μ 97 v2.toNat (v3 + 1)) g4
  · refine b_s (pc' := 75) (lv1 := [(0, .ref 76), (1, bI v1), (2, bI v2), (3, bI v3)]) (st' := [.ref 76]) l163_74 (fun _ => rfl) ?_
    refine b_gp (q' := 98) (j := 22) l163_75 (by rfl) (by decide) (by decide) rfl hk rfl rfl (b_pc (pc' := 78) rfl ?_)
    refine b_s (pc' := 79) (lv1 := [(0, .ref 76), (1, bI v1), (2, bI v2), (3, bI v3)]) (st' := [.ref 76, .ref 98]) l163_78 (fun _ => rfl) ?_
    refine b_gi l163_79 (by rfl) (by decide) (by decide) rfl (b_pc (pc' := 82) rfl ?_)
    refine b_s (pc' := 83) (lv1 := [(0, .ref 76), (1, bI v1), (2, bI v2), (3, bI v3)]) (st' := [bI v2, bI (μ 76 26), .ref 98]) l163_82 (fun _ => rfl) ?_
    refine b_g fun g13 => ?_
    refine b_ias l163_83 (by rfl) g13 h2 (bD.ok fun hk6 => b_pc (pc' := 84) rfl ?_)
    refine b_s (pc' := 85) (lv1 := [(0, .ref 76), (1, bI v1), (2, bI v2), (3, bI v3)]) (st' := [.ref 76]) l163_84 (fun _ => rfl) ?_
    refine b_gi l163_85 (by rfl) (by decide) (by decide) rfl (b_pc (pc' := 88) rfl ?_)
    refine b_w (pc' := 89) (lv1 := ax_st1 [(0, .ref 76), (1, bI v1), (2, bI v2), (3, bI v3)] 3 (bI ((bset μ 98 (μ 76 26).toNat v2) 76 26))) (lv' := [(0, .ref 76), (1, bI v1), (2, bI v2), (3, bI ((bset μ 98 (μ 76 26).toNat v2) 76 26))]) (st' := []) l163_88 (fun _ => rfl) (bSb rfl (bSb rfl (bSb rfl (bSb rfl bSn)))) ?_
    refine b_s (pc' := 90) (lv1 := [(0, .ref 76), (1, bI v1), (2, bI v2), (3, bI ((bset μ 98 (μ 76 26).toNat v2) 76 26))]) (st' := [.ref 76]) l163_89 (fun _ => rfl) ?_
    refine b_s (pc' := 91) (lv1 := [(0, .ref 76), (1, bI v1), (2, bI v2), (3, bI ((bset μ 98 (μ 76 26).toNat v2) 76 26))]) (st' := [.ref 76, .ref 76]) l163_90 (fun _ => rfl) ?_
    refine b_gi l163_91 (by rfl) (by decide) (by decide) rfl (b_pc (pc' := 94) rfl ?_)
    refine b_s (pc' := 95) (lv1 := [(0, .ref 76), (1, bI v1), (2, bI v2), (3, bI ((bset μ 98 (μ 76 26).toNat v2) 76 26))]) (st' := [bI 1, bI ((bset μ 98 (μ 76 26).toNat v2) 76 26), .ref 76]) l163_94 (fun _ => rfl) ?_
    refine b_iadd l163_95 fun g7 => (b_pc (pc' := 96) rfl ?_)
    refine b_pi l163_96 (by rfl) (by decide) (by decide) rfl rfl g7 (bD.ok fun hk8 => b_pc (pc' := 99) rfl ?_)
    refine b_s (pc' := 100) (lv1 := [(0, .ref 76), (1, bI v1), (2, bI v2), (3, bI ((bset μ 98 (μ 76 26).toNat v2) 76 26))]) (st' := [.ref 76]) l163_99 (fun _ => rfl) ?_
    refine b_gp (q' := 97) (j := 21) l163_100 (by rfl) (by decide) (by decide) rfl hk8 rfl rfl (b_pc (pc' := 103) rfl ?_)
    refine b_s (pc' := 104) (lv1 := [(0, .ref 76), (1, bI v1), (2, bI v2), (3, bI ((bset μ 98 (μ 76 26).toNat v2) 76 26))]) (st' := [bI v2, .ref 97]) l163_103 (fun _ => rfl) ?_
    refine b_s (pc' := 105) (lv1 := [(0, .ref 76), (1, bI v1), (2, bI v2), (3, bI ((bset μ 98 (μ 76 26).toNat v2) 76 26))]) (st' := [bI ((bset μ 98 (μ 76 26).toNat v2) 76 26), bI v2, .ref 97]) l163_104 (fun _ => rfl) ?_
    refine b_s (pc' := 106) (lv1 := [(0, .ref 76), (1, bI v1), (2, bI v2), (3, bI ((bset μ 98 (μ 76 26).toNat v2) 76 26))]) (st' := [bI 1, bI ((bset μ 98 (μ 76 26).toNat v2) 76 26), bI v2, .ref 97]) l163_105 (fun _ => rfl) ?_
    refine b_iadd l163_106 fun g9 => (b_pc (pc' := 107) rfl ?_)
    refine b_g fun g12 => ?_
    refine b_ias l163_107 (by rfl) g12 g9 (bD.ok fun hk10 => b_pc (pc' := 108) rfl ?_)
    refine b_inc (lv' := [(0, .ref 76), (1, bI (v1 + 1))]) l163_108 rfl (by decide +kernel) (bSb rfl (bSb rfl bSn)) fun g11 => (b_pc (pc' := 111) rfl ?_)
    refine b_s (pc' := 7) (lv1 := [(0, .ref 76), (1, bI (v1 + 1))]) (st' := []) l163_111 (fun _ => rfl) ?_
    refine bD.wk (lv' := [(0, .ref 76), (1, bI (v1 + 1))]) (bSb rfl (bSb rfl bSn)) ?_
    exact H7 (v1 + 1) (bset (bset (bset μ 98 (μ 76 26).toNat v2) 76 26 (((bset μ 98 (μ 76 26).toNat v2) 76 26) + 1)) 97 v2.toNat (((bset μ 98 (μ 76 26).toNat v2) 76 26) + 1)) g11
theorem q_X11_findShapes_27 {L : Nat} {xs : Nat → Int32} {d : Nat} {μ : bM} {v1 : Int} {v2 : Int} {κ : ((Int × Int) ⊕ ((Int × bM) ⊕ (Int × bM))) → Option bX} (hr : ∀ r : Int × bM, κ (.inr (.inr r)) = (bMc) r) (H7 : ∀ (v1 : Int) (μ : bM), bR v1 → bD L xs (d + 3) 163 7 [(0, .ref 76), (1, bI v1)] [] μ (κ (.inr (.inl (v1, μ))))) (H27 : ∀ (v3 : Int) (v4 : Int), bR v3 → bR v4 → bD L xs (d + 3) 163 27 [(0, .ref 76), (1, bI v1), (2, bI v2), (3, bI v3), (4, bI v4)] [] μ (κ (.inl (v3, v4))))  (h1 : bR v1) (h2 : bR v2) {v3 : Int} (h3 : bR v3) {v4 : Int} (h4 : bR v4) : bD L xs (d + 3) 163 27 [(0, .ref 76), (1, bI v1), (2, bI v2), (3, bI v3), (4, bI v4)] [] μ ((F_X11_findShapes_27 v1 v2 μ v3 v4).bind κ) := by
  unfold F_X11_findShapes_27
  refine bD.ok fun hk => ?_
  refine b_s (pc' := 29) (lv1 := [(0, .ref 76), (1, bI v1), (2, bI v2), (3, bI v3), (4, bI v4)]) (st' := [bI v4]) l163_27 (fun _ => rfl) ?_
  refine b_s (pc' := 30) (lv1 := [(0, .ref 76), (1, bI v1), (2, bI v2), (3, bI v3), (4, bI v4)]) (st' := [.ref 76, bI v4]) l163_29 (fun _ => rfl) ?_
  refine b_gi l163_30 (by rfl) (by decide) (by decide) rfl (b_pc (pc' := 33) rfl ?_)
  refine b_ige (pt := 69) l163_33 h4 (bO_f hk (ci := 9) (by rfl) rfl) (by decide) rfl (fun c1 => ?_) (fun c1 => b_pc (pc' := 36) rfl ?_)
  · refine b_up (fun _ => rfl) ?_
    refine bD.wk (lv' := [(0, .ref 76), (1, bI v1), (2, bI v2), (3, bI v3)]) (bSb rfl (bSb rfl (bSb rfl (bSb rfl bSn)))) ?_
    exact p_X11_findShapes_69 hr H7 h1 h2 h3
  · refine b_s (pc' := 37) (lv1 := [(0, .ref 76), (1, bI v1), (2, bI v2), (3, bI v3), (4, bI v4)]) (st' := [bI v3]) l163_36 (fun _ => rfl) ?_
    refine b_s (pc' := 38) (lv1 := [(0, .ref 76), (1, bI v1), (2, bI v2), (3, bI v3), (4, bI v4)]) (st' := [bI (-1), bI v3]) l163_37 (fun _ => rfl) ?_
    refine b_ine (pt := 69) l163_38 h3 (by decide) (by decide) rfl (fun c2 => ?_) (fun c2 => b_pc (pc' := 41) rfl ?_)
    · refine b_up (fun _ => rfl) ?_
      refine bD.wk (lv' := [(0, .ref 76), (1, bI v1), (2, bI v2), (3, bI v3)]) (bSb rfl (bSb rfl (bSb rfl (bSb rfl bSn)))) ?_
      exact p_X11_findShapes_69 hr H7 h1 h2 h3
    · refine b_s (pc' := 42) (lv1 := [(0, .ref 76), (1, bI v1), (2, bI v2), (3, bI v3), (4, bI v4)]) (st' := [.ref 76]) l163_41 (fun _ => rfl) ?_
      refine b_s (pc' := 43) (lv1 := [(0, .ref 76), (1, bI v1), (2, bI v2), (3, bI v3), (4, bI v4)]) (st' := [.ref 76, .ref 76]) l163_42 (fun _ => rfl) ?_
      refine b_gp (q' := 98) (j := 22) l163_43 (by rfl) (by decide) (by decide) rfl hk rfl rfl (b_pc (pc' := 46) rfl ?_)
      refine b_s (pc' := 48) (lv1 := [(0, .ref 76), (1, bI v1), (2, bI v2), (3, bI v3), (4, bI v4)]) (st' := [bI v4, .ref 98, .ref 76]) l163_46 (fun _ => rfl) ?_
      refine b_g fun g7 => ?_
      refine b_ial l163_48 (by rfl) g7 (b_pc (pc' := 49) rfl ?_)
      refine b_s (pc' := 50) (lv1 := [(0, .ref 76), (1, bI v1), (2, bI v2), (3, bI v3), (4, bI v4)]) (st' := [bI v2, bI (μ 98 v4.toNat), .ref 76]) l163_49 (fun _ => rfl) ?_
      refine b_cPz l163_50 rfl (b_rc (ci := 9) (by rfl) (by decide) (by decide +kernel)) (Nat.le_of_ble_eq_true rfl) (Nat.le_of_ble_eq_true rfl) rfl (r_X11_sameShape (μ 98 v4.toNat) (bO_i hk (by rfl)) v2 h2) fun w3 hw3 => b_pc (pc' := 53) rfl ?_
      refine b_zeq (pt := 61) l163_53 (bZ_R hw3) (by decide) rfl (fun c4 => ?_) (fun c4 => b_pc (pc' := 56) rfl ?_)
      · refine b_s (pc' := 62) (lv1 := [(0, .ref 76), (1, bI v1), (2, bI v2), (3, bI v3), (4, bI v4)]) (st' := [bI (-1)]) l163_61 (fun _ => rfl) ?_
        refine b_w (pc' := 63) (lv1 := ax_st1 [(0, .ref 76), (1, bI v1), (2, bI v2), (3, bI v3), (4, bI v4)] 3 (bI (-1))) (lv' := [(0, .ref 76), (1, bI v1), (2, bI v2), (3, bI (-1)), (4, bI v4)]) (st' := []) l163_62 (fun _ => rfl) (bSb rfl (bSb rfl (bSb rfl (bSb rfl (bSb rfl bSn))))) ?_
        refine b_inc (lv' := [(0, .ref 76), (1, bI v1), (2, bI v2), (3, bI (-1)), (4, bI (v4 + 1))]) l163_63 rfl (by decide +kernel) (bSb rfl (bSb rfl (bSb rfl (bSb rfl (bSb rfl bSn))))) fun g5 => (b_pc (pc' := 66) rfl ?_)
        refine b_s (pc' := 27) (lv1 := [(0, .ref 76), (1, bI v1), (2, bI v2), (3, bI (-1)), (4, bI (v4 + 1))]) (st' := []) l163_66 (fun _ => rfl) ?_
        refine bD.wk (lv' := [(0, .ref 76), (1, bI v1), (2, bI v2), (3, bI (-1)), (4, bI (v4 + 1))]) (bSb rfl (bSb rfl (bSb rfl (bSb rfl (bSb rfl bSn))))) ?_
        exact H27 (-1) (v4 + 1) (by decide) g5
      · refine b_s (pc' := 58) (lv1 := [(0, .ref 76), (1, bI v1), (2, bI v2), (3, bI v3), (4, bI v4)]) (st' := [bI v4]) l163_56 (fun _ => rfl) ?_
        refine b_s (pc' := 62) (lv1 := [(0, .ref 76), (1, bI v1), (2, bI v2), (3, bI v3), (4, bI v4)]) (st' := [bI v4]) l163_58 (fun _ => rfl) ?_
        refine b_w (pc' := 63) (lv1 := ax_st1 [(0, .ref 76), (1, bI v1), (2, bI v2), (3, bI v3), (4, bI v4)] 3 (bI v4)) (lv' := [(0, .ref 76), (1, bI v1), (2, bI v2), (3, bI v4), (4, bI v4)]) (st' := []) l163_62 (fun _ => rfl) (bSb rfl (bSb rfl (bSb rfl (bSb rfl (bSb rfl bSn))))) ?_
        refine b_inc (lv' := [(0, .ref 76), (1, bI v1), (2, bI v2), (3, bI v4), (4, bI (v4 + 1))]) l163_63 rfl (by decide +kernel) (bSb rfl (bSb rfl (bSb rfl (bSb rfl (bSb rfl bSn))))) fun g6 => (b_pc (pc' := 66) rfl ?_)
        refine b_s (pc' := 27) (lv1 := [(0, .ref 76), (1, bI v1), (2, bI v2), (3, bI v4), (4, bI (v4 + 1))]) (st' := []) l163_66 (fun _ => rfl) ?_
        refine bD.wk (lv' := [(0, .ref 76), (1, bI v1), (2, bI v2), (3, bI v4), (4, bI (v4 + 1))]) (bSb rfl (bSb rfl (bSb rfl (bSb rfl (bSb rfl bSn))))) ?_
        exact H27 v4 (v4 + 1) h4 g6
theorem p_X11_findShapes_27 {L : Nat} {xs : Nat → Int32} {d : Nat} {μ : bM}  {κ : ((Int × bM) ⊕ (Int × bM)) → Option bX} (hr : ∀ r : Int × bM, κ (.inr r) = (bMc) r) (H7 : ∀ (v1 : Int) (μ : bM), bR v1 → bD L xs (d + 3) 163 7 [(0, .ref 76), (1, bI v1)] [] μ (κ (.inl (v1, μ))))  {v1 : Int} (h1 : bR v1) {v2 : Int} (h2 : bR v2) {v3 : Int} (h3 : bR v3) {v4 : Int} (h4 : bR v4) : bD L xs (d + 3) 163 27 [(0, .ref 76), (1, bI v1), (2, bI v2), (3, bI v3), (4, bI v4)] [] μ ((bLoop (fun z => F_X11_findShapes_27 v1 v2 μ z.1 z.2) (v3, v4)).bind κ) :=
  b_loop (fun z => [(0, .ref 76), (1, bI v1), (2, bI v2), (3, bI z.1), (4, bI z.2)]) (fun z => μ) (fun z => bR z.1 ∧ bR z.2) (fun κ' hκ HH z hz => q_X11_findShapes_27 (κ := κ') (fun r => (hκ _).trans (hr r)) (fun a1 am b1 => b_eq (hκ _) (H7 a1 am b1)) (fun a3 a4 b3 b4 => HH (a3, a4) ⟨b3, b4⟩)  h1 h2 hz.1 hz.2) (v3, v4) ⟨h3, h4⟩
theorem q_X11_findShapes_7 {L : Nat} {xs : Nat → Int32} {d : Nat} {μ : bM}  {κ : ((Int × bM) ⊕ (Int × bM)) → Option bX} (hr : ∀ r : Int × bM, κ (.inr r) = (bMc) r) (H7 : ∀ (v1 : Int) (μ : bM), bR v1 → bD L xs (d + 3) 163 7 [(0, .ref 76), (1, bI v1)] [] μ (κ (.inl (v1, μ))))  {v1 : Int} (h1 : bR v1) : bD L xs (d + 3) 163 7 [(0, .ref 76), (1, bI v1)] [] μ ((F_X11_findShapes_7 v1 μ).bind κ) := by
  unfold F_X11_findShapes_7
  refine bD.ok fun hk => ?_
  refine b_s (pc' := 8) (lv1 := [(0, .ref 76), (1, bI v1)]) (st' := [bI v1]) l163_7 (fun _ => rfl) ?_
  refine b_s (pc' := 9) (lv1 := [(0, .ref 76), (1, bI v1)]) (st' := [.ref 76, bI v1]) l163_8 (fun _ => rfl) ?_
  refine b_gi l163_9 (by rfl) (by decide) (by decide) rfl (b_pc (pc' := 12) rfl ?_)
  refine b_ige (pt := 114) l163_12 h1 (bO_f hk (ci := 9) (by rfl) rfl) (by decide) rfl (fun c1 => ?_) (fun c1 => b_pc (pc' := 15) rfl ?_)
  · exact b_retv l163_114 rfl (hr _)
  · refine b_s (pc' := 16) (lv1 := [(0, .ref 76), (1, bI v1)]) (st' := [.ref 76]) l163_15 (fun _ => rfl) ?_
    refine b_gp (q' := 95) (j := 19) l163_16 (by rfl) (by decide) (by decide) rfl hk rfl rfl (b_pc (pc' := 19) rfl ?_)
    refine b_s (pc' := 20) (lv1 := [(0, .ref 76), (1, bI v1)]) (st' := [bI v1, .ref 95]) l163_19 (fun _ => rfl) ?_
    refine b_g fun g2 => ?_
    refine b_ial l163_20 (by rfl) g2 (b_pc (pc' := 21) rfl ?_)
    refine b_w (pc' := 22) (lv1 := ax_st1 [(0, .ref 76), (1, bI v1)] 2 (bI (μ 95 v1.toNat))) (lv' := [(0, .ref 76), (1, bI v1), (2, bI (μ 95 v1.toNat))]) (st' := []) l163_21 (fun _ => rfl) (bSb rfl (bSb rfl (bSb rfl bSn))) ?_
    refine b_s (pc' := 23) (lv1 := [(0, .ref 76), (1, bI v1), (2, bI (μ 95 v1.toNat))]) (st' := [bI (-1)]) l163_22 (fun _ => rfl) ?_
    refine b_w (pc' := 24) (lv1 := ax_st1 [(0, .ref 76), (1, bI v1), (2, bI (μ 95 v1.toNat))] 3 (bI (-1))) (lv' := [(0, .ref 76), (1, bI v1), (2, bI (μ 95 v1.toNat)), (3, bI (-1))]) (st' := []) l163_23 (fun _ => rfl) (bSb rfl (bSb rfl (bSb rfl (bSb rfl bSn)))) ?_
    refine b_s (pc' := 25) (lv1 := [(0, .ref 76), (1, bI v1), (2, bI (μ 95 v1.toNat)), (3, bI (-1))]) (st' := [bI 0]) l163_24 (fun _ => rfl) ?_
    refine b_w (pc' := 27) (lv1 := ax_st1 [(0, .ref 76), (1, bI v1), (2, bI (μ 95 v1.toNat)), (3, bI (-1))] 4 (bI 0)) (lv' := [(0, .ref 76), (1, bI v1), (2, bI (μ 95 v1.toNat)), (3, bI (-1)), (4, bI 0)]) (st' := []) l163_25 (fun _ => rfl) (bSb rfl (bSb rfl (bSb rfl (bSb rfl (bSb rfl bSn))))) ?_
    refine bD.wk (lv' := [(0, .ref 76), (1, bI v1), (2, bI (μ 95 v1.toNat)), (3, bI (-1)), (4, bI 0)]) (bSb rfl (bSb rfl (bSb rfl (bSb rfl (bSb rfl bSn))))) ?_
    exact p_X11_findShapes_27 hr H7 h1 (bO_i hk (by rfl)) (by decide) (by decide)
theorem p_X11_findShapes_7 {L : Nat} {xs : Nat → Int32} {d : Nat} {μ : bM}  {κ : (Int × bM) → Option bX} (hr : ∀ r : Int × bM, κ r = (bMc) r)  {v1 : Int} (h1 : bR v1) : bD L xs (d + 3) 163 7 [(0, .ref 76), (1, bI v1)] [] μ ((bLoop (fun z => F_X11_findShapes_7 z.1 z.2) (v1, μ)).bind κ) :=
  b_loop (fun z => [(0, .ref 76), (1, bI z.1)]) (fun z => z.2) (fun z => bR z.1) (fun κ' hκ HH z hz => q_X11_findShapes_7 (κ := κ') (fun r => (hκ _).trans (hr r)) (fun a1 am b1 => HH (a1, am) b1)  hz) (v1, μ) h1
theorem r_X11_findShapes {L : Nat} {xs : Nat → Int32} {d : Nat} {μ : bM}   : bD L xs (d + 3) 163 0 [(0, .ref 76)] [] μ ((F_X11_findShapes μ).bind (bMc)) := by
  have hr : ∀ r, (bMc) r = (bMc) r := fun _ => rfl
  unfold F_X11_findShapes
  refine bD.ok fun hk => ?_
  refine b_s (pc' := 1) (lv1 := [(0, .ref 76)]) (st' := [.ref 76]) l163_0 (fun _ => rfl) ?_
  refine b_s (pc' := 2) (lv1 := [(0, .ref 76)]) (st' := [bI 0, .ref 76]) l163_1 (fun _ => rfl) ?_
  refine b_pi l163_2 (by rfl) (by decide) (by decide) rfl rfl (by decide) (bD.ok fun hk1 => b_pc (pc' := 5) rfl ?_)
  refine b_s (pc' := 6) (lv1 := [(0, .ref 76)]) (st' := [bI 0]) l163_5 (fun _ => rfl) ?_
  refine b_w (pc' := 7) (lv1 := ax_st1 [(0, .ref 76)] 1 (bI 0)) (lv' := [(0, .ref 76), (1, bI 0)]) (st' := []) l163_6 (fun _ => rfl) (bSb rfl (bSb rfl bSn)) ?_
  refine bD.wk (lv' := [(0, .ref 76), (1, bI 0)]) (bSb rfl (bSb rfl bSn)) ?_
  exact p_X11_findShapes_7 hr (by decide)
/-! ETModel.sameText -/
theorem l164_0 : (ax_dt (ax_T 164)).lookup 0 = some (.aload_n 0, 1, 0, 0, 0) := by decide +kernel
theorem l164_1 : (ax_dt (ax_T 164)).lookup 1 = some (.getfield 48, 3, 9, 15, 0) := by decide +kernel
theorem l164_4 : (ax_dt (ax_T 164)).lookup 4 = some (.iload_n 1, 1, 0, 0, 0) := by decide +kernel
theorem l164_5 : (ax_dt (ax_T 164)).lookup 5 = some (.iaload, 1, 0, 0, 0) := by decide +kernel
theorem l164_6 : (ax_dt (ax_T 164)).lookup 6 = some (.aload_n 0, 1, 0, 0, 0) := by decide +kernel
theorem l164_7 : (ax_dt (ax_T 164)).lookup 7 = some (.getfield 48, 3, 9, 15, 0) := by decide +kernel
theorem l164_10 : (ax_dt (ax_T 164)).lookup 10 = some (.iload_n 2, 1, 0, 0, 0) := by decide +kernel
theorem l164_11 : (ax_dt (ax_T 164)).lookup 11 = some (.iaload, 1, 0, 0, 0) := by decide +kernel
theorem l164_12 : (ax_dt (ax_T 164)).lookup 12 = some (.if_icmp .ne 7, 3, 0, 0, 0) := by decide +kernel
theorem l164_15 : (ax_dt (ax_T 164)).lookup 15 = some (.iconst 1, 1, 0, 0, 0) := by decide +kernel
theorem l164_16 : (ax_dt (ax_T 164)).lookup 16 = some (.goto 4, 3, 0, 0, 0) := by decide +kernel
theorem l164_19 : (ax_dt (ax_T 164)).lookup 19 = some (.iconst 0, 1, 0, 0, 0) := by decide +kernel
theorem l164_20 : (ax_dt (ax_T 164)).lookup 20 = some (.istore_n 3, 1, 0, 0, 0) := by decide +kernel
theorem l164_21 : (ax_dt (ax_T 164)).lookup 21 = some (.iconst 0, 1, 0, 0, 0) := by decide +kernel
theorem l164_22 : (ax_dt (ax_T 164)).lookup 22 = some (.istore 4, 2, 0, 0, 0) := by decide +kernel
theorem l164_24 : (ax_dt (ax_T 164)).lookup 24 = some (.iload 4, 2, 0, 0, 0) := by decide +kernel
theorem l164_26 : (ax_dt (ax_T 164)).lookup 26 = some (.aload_n 0, 1, 0, 0, 0) := by decide +kernel
theorem l164_27 : (ax_dt (ax_T 164)).lookup 27 = some (.getfield 48, 3, 9, 15, 0) := by decide +kernel
theorem l164_30 : (ax_dt (ax_T 164)).lookup 30 = some (.iload_n 1, 1, 0, 0, 0) := by decide +kernel
theorem l164_31 : (ax_dt (ax_T 164)).lookup 31 = some (.iaload, 1, 0, 0, 0) := by decide +kernel
theorem l164_32 : (ax_dt (ax_T 164)).lookup 32 = some (.if_icmp .ge 50, 3, 0, 0, 0) := by decide +kernel
theorem l164_35 : (ax_dt (ax_T 164)).lookup 35 = some (.iload_n 3, 1, 0, 0, 0) := by decide +kernel
theorem l164_36 : (ax_dt (ax_T 164)).lookup 36 = some (.ifCond .eq 46, 3, 0, 0, 0) := by decide +kernel
theorem l164_39 : (ax_dt (ax_T 164)).lookup 39 = some (.aload_n 0, 1, 0, 0, 0) := by decide +kernel
theorem l164_40 : (ax_dt (ax_T 164)).lookup 40 = some (.getfield 58, 3, 9, 18, 0) := by decide +kernel
theorem l164_43 : (ax_dt (ax_T 164)).lookup 43 = some (.aload_n 0, 1, 0, 0, 0) := by decide +kernel
theorem l164_44 : (ax_dt (ax_T 164)).lookup 44 = some (.getfield 45, 3, 9, 14, 0) := by decide +kernel
theorem l164_47 : (ax_dt (ax_T 164)).lookup 47 = some (.iload_n 1, 1, 0, 0, 0) := by decide +kernel
theorem l164_48 : (ax_dt (ax_T 164)).lookup 48 = some (.iaload, 1, 0, 0, 0) := by decide +kernel
theorem l164_49 : (ax_dt (ax_T 164)).lookup 49 = some (.iload 4, 2, 0, 0, 0) := by decide +kernel
theorem l164_51 : (ax_dt (ax_T 164)).lookup 51 = some (.iadd, 1, 0, 0, 0) := by decide +kernel
theorem l164_52 : (ax_dt (ax_T 164)).lookup 52 = some (.baload, 1, 0, 0, 0) := by decide +kernel
theorem l164_53 : (ax_dt (ax_T 164)).lookup 53 = some (.aload_n 0, 1, 0, 0, 0) := by decide +kernel
theorem l164_54 : (ax_dt (ax_T 164)).lookup 54 = some (.getfield 58, 3, 9, 18, 0) := by decide +kernel
theorem l164_57 : (ax_dt (ax_T 164)).lookup 57 = some (.aload_n 0, 1, 0, 0, 0) := by decide +kernel
theorem l164_58 : (ax_dt (ax_T 164)).lookup 58 = some (.getfield 45, 3, 9, 14, 0) := by decide +kernel
theorem l164_61 : (ax_dt (ax_T 164)).lookup 61 = some (.iload_n 2, 1, 0, 0, 0) := by decide +kernel
theorem l164_62 : (ax_dt (ax_T 164)).lookup 62 = some (.iaload, 1, 0, 0, 0) := by decide +kernel
theorem l164_63 : (ax_dt (ax_T 164)).lookup 63 = some (.iload 4, 2, 0, 0, 0) := by decide +kernel
theorem l164_65 : (ax_dt (ax_T 164)).lookup 65 = some (.iadd, 1, 0, 0, 0) := by decide +kernel
theorem l164_66 : (ax_dt (ax_T 164)).lookup 66 = some (.baload, 1, 0, 0, 0) := by decide +kernel
theorem l164_67 : (ax_dt (ax_T 164)).lookup 67 = some (.if_icmp .ne 7, 3, 0, 0, 0) := by decide +kernel
theorem l164_70 : (ax_dt (ax_T 164)).lookup 70 = some (.iconst 1, 1, 0, 0, 0) := by decide +kernel
theorem l164_71 : (ax_dt (ax_T 164)).lookup 71 = some (.goto 4, 3, 0, 0, 0) := by decide +kernel
theorem l164_74 : (ax_dt (ax_T 164)).lookup 74 = some (.iconst 0, 1, 0, 0, 0) := by decide +kernel
theorem l164_75 : (ax_dt (ax_T 164)).lookup 75 = some (.istore_n 3, 1, 0, 0, 0) := by decide +kernel
theorem l164_76 : (ax_dt (ax_T 164)).lookup 76 = some (.iinc 4 1, 3, 0, 0, 0) := by decide +kernel
theorem l164_79 : (ax_dt (ax_T 164)).lookup 79 = some (.goto (-55), 3, 0, 0, 0) := by decide +kernel
theorem l164_82 : (ax_dt (ax_T 164)).lookup 82 = some (.iload_n 3, 1, 0, 0, 0) := by decide +kernel
theorem l164_83 : (ax_dt (ax_T 164)).lookup 83 = some (.ireturn, 1, 0, 0, 0) := by decide +kernel
noncomputable def F_X11_sameText_24 (v1 : Int) (v2 : Int) (μ : bM) (v3 : Int) (v4 : Int) : Option ((Int × Int) ⊕ (Int)) := bG (0 ≤ v1 ∧ v1 < 6400) (if (μ 89 v1.toNat) ≤ v4 then bG (0 ≤ v3 ∧ v3 ≤ 1) (some (.inr (v3))) else if v3 = 0 then bG (0 ≤ v3 ∧ v3 ≤ 1) (some (.inr (v3))) else bG (0 ≤ v1 ∧ v1 < 6400) (bG (bR ((μ 88 v1.toNat) + v4)) (bG (0 ≤ ((μ 88 v1.toNat) + v4) ∧ ((μ 88 v1.toNat) + v4) < 180000) (bG (0 ≤ v2 ∧ v2 < 6400) (bG (bR ((μ 88 v2.toNat) + v4)) (bG (0 ≤ ((μ 88 v2.toNat) + v4) ∧ ((μ 88 v2.toNat) + v4) < 180000) (if ¬ (μ 92 ((μ 88 v1.toNat) + v4).toNat) = (μ 92 ((μ 88 v2.toNat) + v4).toNat) then bG (bR (v4 + 1)) (some (.inl (0, (v4 + 1)))) else bG (bR (v4 + 1)) (some (.inl (1, (v4 + 1)))))))))))
noncomputable def F_X11_sameText (v1 : Int) (v2 : Int) (μ : bM) : Option (Int) := bG (0 ≤ v1 ∧ v1 < 6400) (bG (0 ≤ v2 ∧ v2 < 6400) (if ¬ (μ 89 v1.toNat) = (μ 89 v2.toNat) then bLoop (fun z => F_X11_sameText_24 v1 v2 μ z.1 z.2) (0, 0) else bLoop (fun z => F_X11_sameText_24 v1 v2 μ z.1 z.2) (1, 0)))
theorem q_X11_sameText_24 {L : Nat} {xs : Nat → Int32} {d : Nat} {μ : bM} {v1 : Int} {v2 : Int} {κ : ((Int × Int) ⊕ (Int)) → Option bX} (hr : ∀ r : Int, κ (.inr r) = (bPc μ) r) (H24 : ∀ (v3 : Int) (v4 : Int), bR v3 → bR v4 → bD L xs (d + 0) 164 24 [(0, .ref 76), (1, bI v1), (2, bI v2), (3, bI v3), (4, bI v4)] [] μ (κ (.inl (v3, v4))))  (h1 : bR v1) (h2 : bR v2) {v3 : Int} (h3 : bR v3) {v4 : Int} (h4 : bR v4) : bD L xs (d + 0) 164 24 [(0, .ref 76), (1, bI v1), (2, bI v2), (3, bI v3), (4, bI v4)] [] μ ((F_X11_sameText_24 v1 v2 μ v3 v4).bind κ) := by
  unfold F_X11_sameText_24
  refine bD.ok fun hk => ?_
  refine b_s (pc' := 26) (lv1 := [(0, .ref 76), (1, bI v1), (2, bI v2), (3, bI v3), (4, bI v4)]) (st' := [bI v4]) l164_24 (fun _ => rfl) ?_
  refine b_s (pc' := 27) (lv1 := [(0, .ref 76), (1, bI v1), (2, bI v2), (3, bI v3), (4, bI v4)]) (st' := [.ref 76, bI v4]) l164_26 (fun _ => rfl) ?_
  refine b_gp (q' := 89) (j := 13) l164_27 (by rfl) (by decide) (by decide) rfl hk rfl rfl (b_pc (pc' := 30) rfl ?_)
  refine b_s (pc' := 31) (lv1 := [(0, .ref 76), (1, bI v1), (2, bI v2), (3, bI v3), (4, bI v4)]) (st' := [bI v1, .ref 89, bI v4]) l164_30 (fun _ => rfl) ?_
  refine b_g fun g14 => ?_
  refine b_ial l164_31 (by rfl) g14 (b_pc (pc' := 32) rfl ?_)
  refine b_ige (pt := 82) l164_32 h4 (bO_i hk (by rfl)) (by decide) rfl (fun c1 => ?_) (fun c1 => b_pc (pc' := 35) rfl ?_)
  · refine b_s (pc' := 83) (lv1 := [(0, .ref 76), (1, bI v1), (2, bI v2), (3, bI v3), (4, bI v4)]) (st' := [bI v3]) l164_82 (fun _ => rfl) ?_
    refine b_g fun g2 => ?_
    exact b_retz l164_83 rfl g2 (hr _)
  · refine b_s (pc' := 36) (lv1 := [(0, .ref 76), (1, bI v1), (2, bI v2), (3, bI v3), (4, bI v4)]) (st' := [bI v3]) l164_35 (fun _ => rfl) ?_
    refine b_zeq (pt := 82) l164_36 h3 (by decide) rfl (fun c3 => ?_) (fun c3 => b_pc (pc' := 39) rfl ?_)
    · refine b_s (pc' := 83) (lv1 := [(0, .ref 76), (1, bI v1), (2, bI v2), (3, bI v3), (4, bI v4)]) (st' := [bI v3]) l164_82 (fun _ => rfl) ?_
      refine b_g fun g4 => ?_
      exact b_retz l164_83 rfl g4 (hr _)
    · refine b_s (pc' := 40) (lv1 := [(0, .ref 76), (1, bI v1), (2, bI v2), (3, bI v3), (4, bI v4)]) (st' := [.ref 76]) l164_39 (fun _ => rfl) ?_
      refine b_gp (q' := 92) (j := 16) l164_40 (by rfl) (by decide) (by decide) rfl hk rfl rfl (b_pc (pc' := 43) rfl ?_)
      refine b_s (pc' := 44) (lv1 := [(0, .ref 76), (1, bI v1), (2, bI v2), (3, bI v3), (4, bI v4)]) (st' := [.ref 76, .ref 92]) l164_43 (fun _ => rfl) ?_
      refine b_gp (q' := 88) (j := 12) l164_44 (by rfl) (by decide) (by decide) rfl hk rfl rfl (b_pc (pc' := 47) rfl ?_)
      refine b_s (pc' := 48) (lv1 := [(0, .ref 76), (1, bI v1), (2, bI v2), (3, bI v3), (4, bI v4)]) (st' := [bI v1, .ref 88, .ref 92]) l164_47 (fun _ => rfl) ?_
      refine b_g fun g13 => ?_
      refine b_ial l164_48 (by rfl) g13 (b_pc (pc' := 49) rfl ?_)
      refine b_s (pc' := 51) (lv1 := [(0, .ref 76), (1, bI v1), (2, bI v2), (3, bI v3), (4, bI v4)]) (st' := [bI v4, bI (μ 88 v1.toNat), .ref 92]) l164_49 (fun _ => rfl) ?_
      refine b_iadd l164_51 fun g5 => (b_pc (pc' := 52) rfl ?_)
      refine b_g fun g12 => ?_
      refine b_bal l164_52 (by rfl) g12 (b_pc (pc' := 53) rfl ?_)
      refine b_s (pc' := 54) (lv1 := [(0, .ref 76), (1, bI v1), (2, bI v2), (3, bI v3), (4, bI v4)]) (st' := [.ref 76, bI (μ 92 ((μ 88 v1.toNat) + v4).toNat)]) l164_53 (fun _ => rfl) ?_
      refine b_gp (q' := 92) (j := 16) l164_54 (by rfl) (by decide) (by decide) rfl hk rfl rfl (b_pc (pc' := 57) rfl ?_)
      refine b_s (pc' := 58) (lv1 := [(0, .ref 76), (1, bI v1), (2, bI v2), (3, bI v3), (4, bI v4)]) (st' := [.ref 76, .ref 92, bI (μ 92 ((μ 88 v1.toNat) + v4).toNat)]) l164_57 (fun _ => rfl) ?_
      refine b_gp (q' := 88) (j := 12) l164_58 (by rfl) (by decide) (by decide) rfl hk rfl rfl (b_pc (pc' := 61) rfl ?_)
      refine b_s (pc' := 62) (lv1 := [(0, .ref 76), (1, bI v1), (2, bI v2), (3, bI v3), (4, bI v4)]) (st' := [bI v2, .ref 88, .ref 92, bI (μ 92 ((μ 88 v1.toNat) + v4).toNat)]) l164_61 (fun _ => rfl) ?_
      refine b_g fun g11 => ?_
      refine b_ial l164_62 (by rfl) g11 (b_pc (pc' := 63) rfl ?_)
      refine b_s (pc' := 65) (lv1 := [(0, .ref 76), (1, bI v1), (2, bI v2), (3, bI v3), (4, bI v4)]) (st' := [bI v4, bI (μ 88 v2.toNat), .ref 92, bI (μ 92 ((μ 88 v1.toNat) + v4).toNat)]) l164_63 (fun _ => rfl) ?_
      refine b_iadd l164_65 fun g6 => (b_pc (pc' := 66) rfl ?_)
      refine b_g fun g10 => ?_
      refine b_bal l164_66 (by rfl) g10 (b_pc (pc' := 67) rfl ?_)
      refine b_ine (pt := 74) l164_67 (bO_br hk (by rfl)) (bO_br hk (by rfl)) (by decide) rfl (fun c7 => ?_) (fun c7 => b_pc (pc' := 70) rfl ?_)
      · refine b_s (pc' := 75) (lv1 := [(0, .ref 76), (1, bI v1), (2, bI v2), (3, bI v3), (4, bI v4)]) (st' := [bI 0]) l164_74 (fun _ => rfl) ?_
        refine b_w (pc' := 76) (lv1 := ax_st1 [(0, .ref 76), (1, bI v1), (2, bI v2), (3, bI v3), (4, bI v4)] 3 (bI 0)) (lv' := [(0, .ref 76), (1, bI v1), (2, bI v2), (3, bI 0), (4, bI v4)]) (st' := []) l164_75 (fun _ => rfl) (bSb rfl (bSb rfl (bSb rfl (bSb rfl (bSb rfl bSn))))) ?_
        refine b_inc (lv' := [(0, .ref 76), (1, bI v1), (2, bI v2), (3, bI 0), (4, bI (v4 + 1))]) l164_76 rfl (by decide +kernel) (bSb rfl (bSb rfl (bSb rfl (bSb rfl (bSb rfl bSn))))) fun g8 => (b_pc (pc' := 79) rfl ?_)
        refine b_s (pc' := 24) (lv1 := [(0, .ref 76), (1, bI v1), (2, bI v2), (3, bI 0), (4, bI (v4 + 1))]) (st' := []) l164_79 (fun _ => rfl) ?_
        refine bD.wk (lv' := [(0, .ref 76), (1, bI v1), (2, bI v2), (3, bI 0), (4, bI (v4 + 1))]) (bSb rfl (bSb rfl (bSb rfl (bSb rfl (bSb rfl bSn))))) ?_
        exact H24 0 (v4 + 1) (by decide) g8
      · refine b_s (pc' := 71) (lv1 := [(0, .ref 76), (1, bI v1), (2, bI v2), (3, bI v3), (4, bI v4)]) (st' := [bI 1]) l164_70 (fun _ => rfl) ?_
        refine b_s (pc' := 75) (lv1 := [(0, .ref 76), (1, bI v1), (2, bI v2), (3, bI v3), (4, bI v4)]) (st' := [bI 1]) l164_71 (fun _ => rfl) ?_
        refine b_w (pc' := 76) (lv1 := ax_st1 [(0, .ref 76), (1, bI v1), (2, bI v2), (3, bI v3), (4, bI v4)] 3 (bI 1)) (lv' := [(0, .ref 76), (1, bI v1), (2, bI v2), (3, bI 1), (4, bI v4)]) (st' := []) l164_75 (fun _ => rfl) (bSb rfl (bSb rfl (bSb rfl (bSb rfl (bSb rfl bSn))))) ?_
        refine b_inc (lv' := [(0, .ref 76), (1, bI v1), (2, bI v2), (3, bI 1), (4, bI (v4 + 1))]) l164_76 rfl (by decide +kernel) (bSb rfl (bSb rfl (bSb rfl (bSb rfl (bSb rfl bSn))))) fun g9 => (b_pc (pc' := 79) rfl ?_)
        refine b_s (pc' := 24) (lv1 := [(0, .ref 76), (1, bI v1), (2, bI v2), (3, bI 1), (4, bI (v4 + 1))]) (st' := []) l164_79 (fun _ => rfl) ?_
        refine bD.wk (lv' := [(0, .ref 76), (1, bI v1), (2, bI v2), (3, bI 1), (4, bI (v4 + 1))]) (bSb rfl (bSb rfl (bSb rfl (bSb rfl (bSb rfl bSn))))) ?_
        exact H24 1 (v4 + 1) (by decide) g9
theorem p_X11_sameText_24 {L : Nat} {xs : Nat → Int32} {d : Nat} {μ : bM}  {κ : (Int) → Option bX} (hr : ∀ r : Int, κ r = (bPc μ) r)  {v1 : Int} (h1 : bR v1) {v2 : Int} (h2 : bR v2) {v3 : Int} (h3 : bR v3) {v4 : Int} (h4 : bR v4) : bD L xs (d + 0) 164 24 [(0, .ref 76), (1, bI v1), (2, bI v2), (3, bI v3), (4, bI v4)] [] μ ((bLoop (fun z => F_X11_sameText_24 v1 v2 μ z.1 z.2) (v3, v4)).bind κ) :=
  b_loop (fun z => [(0, .ref 76), (1, bI v1), (2, bI v2), (3, bI z.1), (4, bI z.2)]) (fun z => μ) (fun z => bR z.1 ∧ bR z.2) (fun κ' hκ HH z hz => q_X11_sameText_24 (κ := κ') (fun r => (hκ _).trans (hr r)) (fun a3 a4 b3 b4 => HH (a3, a4) ⟨b3, b4⟩)  h1 h2 hz.1 hz.2) (v3, v4) ⟨h3, h4⟩
theorem r_X11_sameText {L : Nat} {xs : Nat → Int32} {d : Nat} {μ : bM}  (v1 : Int) (h1 : bR v1) (v2 : Int) (h2 : bR v2) : bD L xs (d + 0) 164 0 [(0, .ref 76), (1, bI v1), (2, bI v2)] [] μ ((F_X11_sameText v1 v2 μ).bind (bPc μ)) := by
  have hr : ∀ r, (bPc μ) r = (bPc μ) r := fun _ => rfl
  unfold F_X11_sameText
  refine bD.ok fun hk => ?_
  refine b_s (pc' := 1) (lv1 := [(0, .ref 76), (1, bI v1), (2, bI v2)]) (st' := [.ref 76]) l164_0 (fun _ => rfl) ?_
  refine b_gp (q' := 89) (j := 13) l164_1 (by rfl) (by decide) (by decide) rfl hk rfl rfl (b_pc (pc' := 4) rfl ?_)
  refine b_s (pc' := 5) (lv1 := [(0, .ref 76), (1, bI v1), (2, bI v2)]) (st' := [bI v1, .ref 89]) l164_4 (fun _ => rfl) ?_
  refine b_g fun g3 => ?_
  refine b_ial l164_5 (by rfl) g3 (b_pc (pc' := 6) rfl ?_)
  refine b_s (pc' := 7) (lv1 := [(0, .ref 76), (1, bI v1), (2, bI v2)]) (st' := [.ref 76, bI (μ 89 v1.toNat)]) l164_6 (fun _ => rfl) ?_
  refine b_gp (q' := 89) (j := 13) l164_7 (by rfl) (by decide) (by decide) rfl hk rfl rfl (b_pc (pc' := 10) rfl ?_)
  refine b_s (pc' := 11) (lv1 := [(0, .ref 76), (1, bI v1), (2, bI v2)]) (st' := [bI v2, .ref 89, bI (μ 89 v1.toNat)]) l164_10 (fun _ => rfl) ?_
  refine b_g fun g2 => ?_
  refine b_ial l164_11 (by rfl) g2 (b_pc (pc' := 12) rfl ?_)
  refine b_ine (pt := 19) l164_12 (bO_i hk (by rfl)) (bO_i hk (by rfl)) (by decide) rfl (fun c1 => ?_) (fun c1 => b_pc (pc' := 15) rfl ?_)
  · refine b_s (pc' := 20) (lv1 := [(0, .ref 76), (1, bI v1), (2, bI v2)]) (st' := [bI 0]) l164_19 (fun _ => rfl) ?_
    refine b_w (pc' := 21) (lv1 := ax_st1 [(0, .ref 76), (1, bI v1), (2, bI v2)] 3 (bI 0)) (lv' := [(0, .ref 76), (1, bI v1), (2, bI v2), (3, bI 0)]) (st' := []) l164_20 (fun _ => rfl) (bSb rfl (bSb rfl (bSb rfl (bSb rfl bSn)))) ?_
    refine b_s (pc' := 22) (lv1 := [(0, .ref 76), (1, bI v1), (2, bI v2), (3, bI 0)]) (st' := [bI 0]) l164_21 (fun _ => rfl) ?_
    refine b_w (pc' := 24) (lv1 := ax_st1 [(0, .ref 76), (1, bI v1), (2, bI v2), (3, bI 0)] 4 (bI 0)) (lv' := [(0, .ref 76), (1, bI v1), (2, bI v2), (3, bI 0), (4, bI 0)]) (st' := []) l164_22 (fun _ => rfl) (bSb rfl (bSb rfl (bSb rfl (bSb rfl (bSb rfl bSn))))) ?_
    refine bD.wk (lv' := [(0, .ref 76), (1, bI v1), (2, bI v2), (3, bI 0), (4, bI 0)]) (bSb rfl (bSb rfl (bSb rfl (bSb rfl (bSb rfl bSn))))) ?_
    exact p_X11_sameText_24 hr h1 h2 (by decide) (by decide)
  · refine b_s (pc' := 16) (lv1 := [(0, .ref 76), (1, bI v1), (2, bI v2)]) (st' := [bI 1]) l164_15 (fun _ => rfl) ?_
    refine b_s (pc' := 20) (lv1 := [(0, .ref 76), (1, bI v1), (2, bI v2)]) (st' := [bI 1]) l164_16 (fun _ => rfl) ?_
    refine b_w (pc' := 21) (lv1 := ax_st1 [(0, .ref 76), (1, bI v1), (2, bI v2)] 3 (bI 1)) (lv' := [(0, .ref 76), (1, bI v1), (2, bI v2), (3, bI 1)]) (st' := []) l164_20 (fun _ => rfl) (bSb rfl (bSb rfl (bSb rfl (bSb rfl bSn)))) ?_
    refine b_s (pc' := 22) (lv1 := [(0, .ref 76), (1, bI v1), (2, bI v2), (3, bI 1)]) (st' := [bI 0]) l164_21 (fun _ => rfl) ?_
    refine b_w (pc' := 24) (lv1 := ax_st1 [(0, .ref 76), (1, bI v1), (2, bI v2), (3, bI 1)] 4 (bI 0)) (lv' := [(0, .ref 76), (1, bI v1), (2, bI v2), (3, bI 1), (4, bI 0)]) (st' := []) l164_22 (fun _ => rfl) (bSb rfl (bSb rfl (bSb rfl (bSb rfl (bSb rfl bSn))))) ?_
    refine bD.wk (lv' := [(0, .ref 76), (1, bI v1), (2, bI v2), (3, bI 1), (4, bI 0)]) (bSb rfl (bSb rfl (bSb rfl (bSb rfl (bSb rfl bSn))))) ?_
    exact p_X11_sameText_24 hr h1 h2 (by decide) (by decide)
/-! ETModel.textOf -/
theorem l165_0 : (ax_dt (ax_T 165)).lookup 0 = some (.iconst 0, 1, 0, 0, 0) := by decide +kernel
theorem l165_1 : (ax_dt (ax_T 165)).lookup 1 = some (.istore_n 2, 1, 0, 0, 0) := by decide +kernel
theorem l165_2 : (ax_dt (ax_T 165)).lookup 2 = some (.iload_n 2, 1, 0, 0, 0) := by decide +kernel
theorem l165_3 : (ax_dt (ax_T 165)).lookup 3 = some (.aload_n 0, 1, 0, 0, 0) := by decide +kernel
theorem l165_4 : (ax_dt (ax_T 165)).lookup 4 = some (.getfield 211, 3, 9, 29, 0) := by decide +kernel
theorem l165_7 : (ax_dt (ax_T 165)).lookup 7 = some (.if_icmp .ge 25, 3, 0, 0, 0) := by decide +kernel
theorem l165_10 : (ax_dt (ax_T 165)).lookup 10 = some (.aload_n 0, 1, 0, 0, 0) := by decide +kernel
theorem l165_11 : (ax_dt (ax_T 165)).lookup 11 = some (.aload_n 0, 1, 0, 0, 0) := by decide +kernel
theorem l165_12 : (ax_dt (ax_T 165)).lookup 12 = some (.getfield 80, 3, 9, 30, 0) := by decide +kernel
theorem l165_15 : (ax_dt (ax_T 165)).lookup 15 = some (.iload_n 2, 1, 0, 0, 0) := by decide +kernel
theorem l165_16 : (ax_dt (ax_T 165)).lookup 16 = some (.iaload, 1, 0, 0, 0) := by decide +kernel
theorem l165_17 : (ax_dt (ax_T 165)).lookup 17 = some (.iload_n 1, 1, 0, 0, 0) := by decide +kernel
theorem l165_18 : (ax_dt (ax_T 165)).lookup 18 = some (.invokevirtual 214, 3, 164, 2, 0) := by decide +kernel
theorem l165_21 : (ax_dt (ax_T 165)).lookup 21 = some (.ifCond .eq 5, 3, 0, 0, 0) := by decide +kernel
theorem l165_24 : (ax_dt (ax_T 165)).lookup 24 = some (.iload_n 2, 1, 0, 0, 0) := by decide +kernel
theorem l165_25 : (ax_dt (ax_T 165)).lookup 25 = some (.ireturn, 1, 0, 0, 0) := by decide +kernel
theorem l165_26 : (ax_dt (ax_T 165)).lookup 26 = some (.iinc 2 1, 3, 0, 0, 0) := by decide +kernel
theorem l165_29 : (ax_dt (ax_T 165)).lookup 29 = some (.goto (-27), 3, 0, 0, 0) := by decide +kernel
theorem l165_32 : (ax_dt (ax_T 165)).lookup 32 = some (.iconst (-1), 1, 0, 0, 0) := by decide +kernel
theorem l165_33 : (ax_dt (ax_T 165)).lookup 33 = some (.ireturn, 1, 0, 0, 0) := by decide +kernel
noncomputable def F_X11_textOf_2 (v1 : Int) (μ : bM) (v2 : Int) : Option ((Int) ⊕ (Int)) := if (μ 76 29) ≤ v2 then some (.inr ((-1))) else bG (0 ≤ v2 ∧ v2 < 3200) ((F_X11_sameText (μ 99 v2.toNat) v1 μ).bind fun w2 => if w2 = 0 then bG (bR (v2 + 1)) (some (.inl (v2 + 1))) else some (.inr (v2)))
noncomputable def F_X11_textOf (v1 : Int) (μ : bM) : Option (Int) := bLoop (fun z => F_X11_textOf_2 v1 μ z) 0
theorem q_X11_textOf_2 {L : Nat} {xs : Nat → Int32} {d : Nat} {μ : bM} {v1 : Int} {κ : ((Int) ⊕ (Int)) → Option bX} (hr : ∀ r : Int, κ (.inr r) = (bPc μ) r) (H2 : ∀ (v2 : Int), bR v2 → bD L xs (d + 1) 165 2 [(0, .ref 76), (1, bI v1), (2, bI v2)] [] μ (κ (.inl v2)))  (h1 : bR v1) {v2 : Int} (h2 : bR v2) : bD L xs (d + 1) 165 2 [(0, .ref 76), (1, bI v1), (2, bI v2)] [] μ ((F_X11_textOf_2 v1 μ v2).bind κ) := by
  unfold F_X11_textOf_2
  refine bD.ok fun hk => ?_
  refine b_s (pc' := 3) (lv1 := [(0, .ref 76), (1, bI v1), (2, bI v2)]) (st' := [bI v2]) l165_2 (fun _ => rfl) ?_
  refine b_s (pc' := 4) (lv1 := [(0, .ref 76), (1, bI v1), (2, bI v2)]) (st' := [.ref 76, bI v2]) l165_3 (fun _ => rfl) ?_
  refine b_gi l165_4 (by rfl) (by decide) (by decide) rfl (b_pc (pc' := 7) rfl ?_)
  refine b_ige (pt := 32) l165_7 h2 (bO_f hk (ci := 9) (by rfl) rfl) (by decide) rfl (fun c1 => ?_) (fun c1 => b_pc (pc' := 10) rfl ?_)
  · refine b_s (pc' := 33) (lv1 := [(0, .ref 76), (1, bI v1), (2, bI v2)]) (st' := [bI (-1)]) l165_32 (fun _ => rfl) ?_
    exact b_reti l165_33 rfl (by decide) (hr _)
  · refine b_s (pc' := 11) (lv1 := [(0, .ref 76), (1, bI v1), (2, bI v2)]) (st' := [.ref 76]) l165_10 (fun _ => rfl) ?_
    refine b_s (pc' := 12) (lv1 := [(0, .ref 76), (1, bI v1), (2, bI v2)]) (st' := [.ref 76, .ref 76]) l165_11 (fun _ => rfl) ?_
    refine b_gp (q' := 99) (j := 23) l165_12 (by rfl) (by decide) (by decide) rfl hk rfl rfl (b_pc (pc' := 15) rfl ?_)
    refine b_s (pc' := 16) (lv1 := [(0, .ref 76), (1, bI v1), (2, bI v2)]) (st' := [bI v2, .ref 99, .ref 76]) l165_15 (fun _ => rfl) ?_
    refine b_g fun g5 => ?_
    refine b_ial l165_16 (by rfl) g5 (b_pc (pc' := 17) rfl ?_)
    refine b_s (pc' := 18) (lv1 := [(0, .ref 76), (1, bI v1), (2, bI v2)]) (st' := [bI v1, bI (μ 99 v2.toNat), .ref 76]) l165_17 (fun _ => rfl) ?_
    refine b_cPz l165_18 rfl (b_rc (ci := 9) (by rfl) (by decide) (by decide +kernel)) (Nat.le_of_ble_eq_true rfl) (Nat.le_of_ble_eq_true rfl) rfl (r_X11_sameText (μ 99 v2.toNat) (bO_i hk (by rfl)) v1 h1) fun w2 hw2 => b_pc (pc' := 21) rfl ?_
    refine b_zeq (pt := 26) l165_21 (bZ_R hw2) (by decide) rfl (fun c3 => ?_) (fun c3 => b_pc (pc' := 24) rfl ?_)
    · refine b_inc (lv' := [(0, .ref 76), (1, bI v1), (2, bI (v2 + 1))]) l165_26 rfl (by decide +kernel) (bSb rfl (bSb rfl (bSb rfl bSn))) fun g4 => (b_pc (pc' := 29) rfl ?_)
      refine b_s (pc' := 2) (lv1 := [(0, .ref 76), (1, bI v1), (2, bI (v2 + 1))]) (st' := []) l165_29 (fun _ => rfl) ?_
      refine bD.wk (lv' := [(0, .ref 76), (1, bI v1), (2, bI (v2 + 1))]) (bSb rfl (bSb rfl (bSb rfl bSn))) ?_
      exact H2 (v2 + 1) g4
    · refine b_s (pc' := 25) (lv1 := [(0, .ref 76), (1, bI v1), (2, bI v2)]) (st' := [bI v2]) l165_24 (fun _ => rfl) ?_
      exact b_reti l165_25 rfl h2 (hr _)
theorem p_X11_textOf_2 {L : Nat} {xs : Nat → Int32} {d : Nat} {μ : bM}  {κ : (Int) → Option bX} (hr : ∀ r : Int, κ r = (bPc μ) r)  {v1 : Int} (h1 : bR v1) {v2 : Int} (h2 : bR v2) : bD L xs (d + 1) 165 2 [(0, .ref 76), (1, bI v1), (2, bI v2)] [] μ ((bLoop (fun z => F_X11_textOf_2 v1 μ z) v2).bind κ) :=
  b_loop (fun z => [(0, .ref 76), (1, bI v1), (2, bI z)]) (fun z => μ) (fun z => bR z) (fun κ' hκ HH z hz => q_X11_textOf_2 (κ := κ') (fun r => (hκ _).trans (hr r)) (fun a2 b2 => HH a2 b2)  h1 hz) v2 h2
theorem r_X11_textOf {L : Nat} {xs : Nat → Int32} {d : Nat} {μ : bM}  (v1 : Int) (h1 : bR v1) : bD L xs (d + 1) 165 0 [(0, .ref 76), (1, bI v1)] [] μ ((F_X11_textOf v1 μ).bind (bPc μ)) := by
  have hr : ∀ r, (bPc μ) r = (bPc μ) r := fun _ => rfl
  unfold F_X11_textOf
  refine bD.ok fun hk => ?_
  refine b_s (pc' := 1) (lv1 := [(0, .ref 76), (1, bI v1)]) (st' := [bI 0]) l165_0 (fun _ => rfl) ?_
  refine b_w (pc' := 2) (lv1 := ax_st1 [(0, .ref 76), (1, bI v1)] 2 (bI 0)) (lv' := [(0, .ref 76), (1, bI v1), (2, bI 0)]) (st' := []) l165_1 (fun _ => rfl) (bSb rfl (bSb rfl (bSb rfl bSn))) ?_
  refine bD.wk (lv' := [(0, .ref 76), (1, bI v1), (2, bI 0)]) (bSb rfl (bSb rfl (bSb rfl bSn))) ?_
  exact p_X11_textOf_2 hr h1 (by decide)
/-! ETModel.findTexts -/
theorem l166_0 : (ax_dt (ax_T 166)).lookup 0 = some (.aload_n 0, 1, 0, 0, 0) := by decide +kernel
theorem l166_1 : (ax_dt (ax_T 166)).lookup 1 = some (.iconst 0, 1, 0, 0, 0) := by decide +kernel
theorem l166_2 : (ax_dt (ax_T 166)).lookup 2 = some (.putfield 211, 3, 9, 29, 0) := by decide +kernel
theorem l166_5 : (ax_dt (ax_T 166)).lookup 5 = some (.aload_n 0, 1, 0, 0, 0) := by decide +kernel
theorem l166_6 : (ax_dt (ax_T 166)).lookup 6 = some (.iconst 0, 1, 0, 0, 0) := by decide +kernel
theorem l166_7 : (ax_dt (ax_T 166)).lookup 7 = some (.putfield 217, 3, 9, 32, 0) := by decide +kernel
theorem l166_10 : (ax_dt (ax_T 166)).lookup 10 = some (.iconst 0, 1, 0, 0, 0) := by decide +kernel
theorem l166_11 : (ax_dt (ax_T 166)).lookup 11 = some (.istore_n 1, 1, 0, 0, 0) := by decide +kernel
theorem l166_12 : (ax_dt (ax_T 166)).lookup 12 = some (.iload_n 1, 1, 0, 0, 0) := by decide +kernel
theorem l166_13 : (ax_dt (ax_T 166)).lookup 13 = some (.aload_n 0, 1, 0, 0, 0) := by decide +kernel
theorem l166_14 : (ax_dt (ax_T 166)).lookup 14 = some (.getfield 196, 3, 9, 23, 0) := by decide +kernel
theorem l166_17 : (ax_dt (ax_T 166)).lookup 17 = some (.if_icmp .ge 116, 3, 0, 0, 0) := by decide +kernel
theorem l166_20 : (ax_dt (ax_T 166)).lookup 20 = some (.aload_n 0, 1, 0, 0, 0) := by decide +kernel
theorem l166_21 : (ax_dt (ax_T 166)).lookup 21 = some (.aload_n 0, 1, 0, 0, 0) := by decide +kernel
theorem l166_22 : (ax_dt (ax_T 166)).lookup 22 = some (.getfield 68, 3, 9, 24, 0) := by decide +kernel
theorem l166_25 : (ax_dt (ax_T 166)).lookup 25 = some (.iload_n 1, 1, 0, 0, 0) := by decide +kernel
theorem l166_26 : (ax_dt (ax_T 166)).lookup 26 = some (.iaload, 1, 0, 0, 0) := by decide +kernel
theorem l166_27 : (ax_dt (ax_T 166)).lookup 27 = some (.invokevirtual 140, 3, 140, 1, 0) := by decide +kernel
theorem l166_30 : (ax_dt (ax_T 166)).lookup 30 = some (.istore_n 2, 1, 0, 0, 0) := by decide +kernel
theorem l166_31 : (ax_dt (ax_T 166)).lookup 31 = some (.bipush 8, 2, 0, 0, 0) := by decide +kernel
theorem l166_33 : (ax_dt (ax_T 166)).lookup 33 = some (.iload_n 2, 1, 0, 0, 0) := by decide +kernel
theorem l166_34 : (ax_dt (ax_T 166)).lookup 34 = some (.imul, 1, 0, 0, 0) := by decide +kernel
theorem l166_35 : (ax_dt (ax_T 166)).lookup 35 = some (.istore_n 3, 1, 0, 0, 0) := by decide +kernel
theorem l166_36 : (ax_dt (ax_T 166)).lookup 36 = some (.iload_n 3, 1, 0, 0, 0) := by decide +kernel
theorem l166_37 : (ax_dt (ax_T 166)).lookup 37 = some (.bipush 8, 2, 0, 0, 0) := by decide +kernel
theorem l166_39 : (ax_dt (ax_T 166)).lookup 39 = some (.iload_n 2, 1, 0, 0, 0) := by decide +kernel
theorem l166_40 : (ax_dt (ax_T 166)).lookup 40 = some (.imul, 1, 0, 0, 0) := by decide +kernel
theorem l166_41 : (ax_dt (ax_T 166)).lookup 41 = some (.aload_n 0, 1, 0, 0, 0) := by decide +kernel
theorem l166_42 : (ax_dt (ax_T 166)).lookup 42 = some (.getfield 32, 3, 9, 10, 0) := by decide +kernel
theorem l166_45 : (ax_dt (ax_T 166)).lookup 45 = some (.iload_n 2, 1, 0, 0, 0) := by decide +kernel
theorem l166_46 : (ax_dt (ax_T 166)).lookup 46 = some (.iaload, 1, 0, 0, 0) := by decide +kernel
theorem l166_47 : (ax_dt (ax_T 166)).lookup 47 = some (.iadd, 1, 0, 0, 0) := by decide +kernel
theorem l166_48 : (ax_dt (ax_T 166)).lookup 48 = some (.if_icmp .ge 79, 3, 0, 0, 0) := by decide +kernel
theorem l166_51 : (ax_dt (ax_T 166)).lookup 51 = some (.aload_n 0, 1, 0, 0, 0) := by decide +kernel
theorem l166_52 : (ax_dt (ax_T 166)).lookup 52 = some (.getfield 38, 3, 9, 12, 0) := by decide +kernel
theorem l166_55 : (ax_dt (ax_T 166)).lookup 55 = some (.iload_n 3, 1, 0, 0, 0) := by decide +kernel
theorem l166_56 : (ax_dt (ax_T 166)).lookup 56 = some (.iaload, 1, 0, 0, 0) := by decide +kernel
theorem l166_57 : (ax_dt (ax_T 166)).lookup 57 = some (.bipush 14, 2, 0, 0, 0) := by decide +kernel
theorem l166_59 : (ax_dt (ax_T 166)).lookup 59 = some (.if_icmp .ne 62, 3, 0, 0, 0) := by decide +kernel
theorem l166_62 : (ax_dt (ax_T 166)).lookup 62 = some (.aload_n 0, 1, 0, 0, 0) := by decide +kernel
theorem l166_63 : (ax_dt (ax_T 166)).lookup 63 = some (.iload_n 3, 1, 0, 0, 0) := by decide +kernel
theorem l166_64 : (ax_dt (ax_T 166)).lookup 64 = some (.invokevirtual 220, 3, 165, 1, 0) := by decide +kernel
theorem l166_67 : (ax_dt (ax_T 166)).lookup 67 = some (.iconst (-1), 1, 0, 0, 0) := by decide +kernel
theorem l166_68 : (ax_dt (ax_T 166)).lookup 68 = some (.if_icmp .ne 53, 3, 0, 0, 0) := by decide +kernel
theorem l166_71 : (ax_dt (ax_T 166)).lookup 71 = some (.aload_n 0, 1, 0, 0, 0) := by decide +kernel
theorem l166_72 : (ax_dt (ax_T 166)).lookup 72 = some (.getfield 80, 3, 9, 30, 0) := by decide +kernel
theorem l166_75 : (ax_dt (ax_T 166)).lookup 75 = some (.aload_n 0, 1, 0, 0, 0) := by decide +kernel
theorem l166_76 : (ax_dt (ax_T 166)).lookup 76 = some (.getfield 211, 3, 9, 29, 0) := by decide +kernel
theorem l166_79 : (ax_dt (ax_T 166)).lookup 79 = some (.iload_n 3, 1, 0, 0, 0) := by decide +kernel
theorem l166_80 : (ax_dt (ax_T 166)).lookup 80 = some (.iastore, 1, 0, 0, 0) := by decide +kernel
theorem l166_81 : (ax_dt (ax_T 166)).lookup 81 = some (.aload_n 0, 1, 0, 0, 0) := by decide +kernel
theorem l166_82 : (ax_dt (ax_T 166)).lookup 82 = some (.getfield 83, 3, 9, 31, 0) := by decide +kernel
theorem l166_85 : (ax_dt (ax_T 166)).lookup 85 = some (.aload_n 0, 1, 0, 0, 0) := by decide +kernel
theorem l166_86 : (ax_dt (ax_T 166)).lookup 86 = some (.getfield 211, 3, 9, 29, 0) := by decide +kernel
theorem l166_89 : (ax_dt (ax_T 166)).lookup 89 = some (.aload_n 0, 1, 0, 0, 0) := by decide +kernel
theorem l166_90 : (ax_dt (ax_T 166)).lookup 90 = some (.getfield 217, 3, 9, 32, 0) := by decide +kernel
theorem l166_93 : (ax_dt (ax_T 166)).lookup 93 = some (.iastore, 1, 0, 0, 0) := by decide +kernel
theorem l166_94 : (ax_dt (ax_T 166)).lookup 94 = some (.aload_n 0, 1, 0, 0, 0) := by decide +kernel
theorem l166_95 : (ax_dt (ax_T 166)).lookup 95 = some (.aload_n 0, 1, 0, 0, 0) := by decide +kernel
theorem l166_96 : (ax_dt (ax_T 166)).lookup 96 = some (.getfield 217, 3, 9, 32, 0) := by decide +kernel
theorem l166_99 : (ax_dt (ax_T 166)).lookup 99 = some (.aload_n 0, 1, 0, 0, 0) := by decide +kernel
theorem l166_100 : (ax_dt (ax_T 166)).lookup 100 = some (.getfield 48, 3, 9, 15, 0) := by decide +kernel
theorem l166_103 : (ax_dt (ax_T 166)).lookup 103 = some (.iload_n 3, 1, 0, 0, 0) := by decide +kernel
theorem l166_104 : (ax_dt (ax_T 166)).lookup 104 = some (.iaload, 1, 0, 0, 0) := by decide +kernel
theorem l166_105 : (ax_dt (ax_T 166)).lookup 105 = some (.iadd, 1, 0, 0, 0) := by decide +kernel
theorem l166_106 : (ax_dt (ax_T 166)).lookup 106 = some (.iconst 1, 1, 0, 0, 0) := by decide +kernel
theorem l166_107 : (ax_dt (ax_T 166)).lookup 107 = some (.iadd, 1, 0, 0, 0) := by decide +kernel
theorem l166_108 : (ax_dt (ax_T 166)).lookup 108 = some (.putfield 217, 3, 9, 32, 0) := by decide +kernel
theorem l166_111 : (ax_dt (ax_T 166)).lookup 111 = some (.aload_n 0, 1, 0, 0, 0) := by decide +kernel
theorem l166_112 : (ax_dt (ax_T 166)).lookup 112 = some (.dup, 1, 0, 0, 0) := by decide +kernel
theorem l166_113 : (ax_dt (ax_T 166)).lookup 113 = some (.getfield 211, 3, 9, 29, 0) := by decide +kernel
theorem l166_116 : (ax_dt (ax_T 166)).lookup 116 = some (.iconst 1, 1, 0, 0, 0) := by decide +kernel
theorem l166_117 : (ax_dt (ax_T 166)).lookup 117 = some (.iadd, 1, 0, 0, 0) := by decide +kernel
theorem l166_118 : (ax_dt (ax_T 166)).lookup 118 = some (.putfield 211, 3, 9, 29, 0) := by decide +kernel
theorem l166_121 : (ax_dt (ax_T 166)).lookup 121 = some (.iinc 3 1, 3, 0, 0, 0) := by decide +kernel
theorem l166_124 : (ax_dt (ax_T 166)).lookup 124 = some (.goto (-88), 3, 0, 0, 0) := by decide +kernel
theorem l166_127 : (ax_dt (ax_T 166)).lookup 127 = some (.iinc 1 1, 3, 0, 0, 0) := by decide +kernel
theorem l166_130 : (ax_dt (ax_T 166)).lookup 130 = some (.goto (-118), 3, 0, 0, 0) := by decide +kernel
theorem l166_133 : (ax_dt (ax_T 166)).lookup 133 = some (.return_, 1, 0, 0, 0) := by decide +kernel
noncomputable def F_X11_findTexts_36 (v1 : Int) (v2 : Int) (v3 : Int) (μ : bM) : Option ((Int × bM) ⊕ ((Int × bM) ⊕ (Int × bM))) := bG (bR (8 * v2)) (bG (0 ≤ v2 ∧ v2 < 800) (bG (bR ((8 * v2) + (μ 84 v2.toNat))) (if ((8 * v2) + (μ 84 v2.toNat)) ≤ v3 then bG (bR (v1 + 1)) (some (.inr (.inl ((v1 + 1), μ)))) else bG (0 ≤ v3 ∧ v3 < 6400) (if ¬ (μ 86 v3.toNat) = 14 then bG (bR (v3 + 1)) (some (.inl ((v3 + 1), μ))) else (F_X11_textOf v3 μ).bind fun w7 => if ¬ w7 = (-1) then bG (bR (v3 + 1)) (some (.inl ((v3 + 1), μ))) else bG (0 ≤ (μ 76 29) ∧ (μ 76 29) < 3200) (bG (0 ≤ ((bset μ 99 (μ 76 29).toNat v3) 76 29) ∧ ((bset μ 99 (μ 76 29).toNat v3) 76 29) < 3200) (bG (0 ≤ v3 ∧ v3 < 6400) (bG (bR (((bset (bset μ 99 (μ 76 29).toNat v3) 100 ((bset μ 99 (μ 76 29).toNat v3) 76 29).toNat ((bset μ 99 (μ 76 29).toNat v3) 76 32)) 76 32) + ((bset (bset μ 99 (μ 76 29).toNat v3) 100 ((bset μ 99 (μ 76 29).toNat v3) 76 29).toNat ((bset μ 99 (μ 76 29).toNat v3) 76 32)) 89 v3.toNat))) (bG (bR ((((bset (bset μ 99 (μ 76 29).toNat v3) 100 ((bset μ 99 (μ 76 29).toNat v3) 76 29).toNat ((bset μ 99 (μ 76 29).toNat v3) 76 32)) 76 32) + ((bset (bset μ 99 (μ 76 29).toNat v3) 100 ((bset μ 99 (μ 76 29).toNat v3) 76 29).toNat ((bset μ 99 (μ 76 29).toNat v3) 76 32)) 89 v3.toNat)) + 1)) (bG (bR (((bset (bset (bset μ 99 (μ 76 29).toNat v3) 100 ((bset μ 99 (μ 76 29).toNat v3) 76 29).toNat ((bset μ 99 (μ 76 29).toNat v3) 76 32)) 76 32 ((((bset (bset μ 99 (μ 76 29).toNat v3) 100 ((bset μ 99 (μ 76 29).toNat v3) 76 29).toNat ((bset μ 99 (μ 76 29).toNat v3) 76 32)) 76 32) + ((bset (bset μ 99 (μ 76 29).toNat v3) 100 ((bset μ 99 (μ 76 29).toNat v3) 76 29).toNat ((bset μ 99 (μ 76 29).toNat v3) 76 32)) 89 v3.toNat)) + 1)) 76 29) + 1)) (bG (bR (v3 + 1)) (some (.inl ((v3 + 1), (bset (bset (bset (bset μ 99 (μ 76 29).toNat v3) 100 ((bset μ 99 (μ 76 29).toNat v3) 76 29).toNat ((bset μ 99 (μ 76 29).toNat v3) 76 32)) 76 32 ((((bset (bset μ 99 (μ 76 29).toNat v3) 100 ((bset μ 99 (μ 76 29).toNat v3) 76 29).toNat ((bset μ 99 (μ 76 29).toNat v3) 76 32)) 76 32) + ((bset (bset μ 99 (μ 76 29).toNat v3) 100 ((bset μ 99 (μ 76 29).toNat v3) 76 29).toNat ((bset μ 99 (μ 76 29).toNat v3) 76 32)) 89 v3.toNat)) + 1)) 76 29 (((bset (bset (bset μ 99 (μ 76 29).toNat v3) 100 ((bset μ 99 (μ 76 29).toNat v3) 76 29).toNat ((bset μ 99 (μ 76 29).toNat v3) 76 32)) 76 32 ((((bset (bset μ 99 (μ 76 29).toNat v3) 100 ((bset μ 99 (μ 76 29).toNat v3) 76 29).toNat ((bset μ 99 (μ 76 29).toNat v3) 76 32)) 76 32) + ((bset (bset μ 99 (μ 76 29).toNat v3) 100 ((bset μ 99 (μ 76 29).toNat v3) 76 29).toNat ((bset μ 99 (μ 76 29).toNat v3) 76 32)) 89 v3.toNat)) + 1)) 76 29) + 1)))))))))))))))
noncomputable def F_X11_findTexts_12 (v1 : Int) (μ : bM) : Option ((Int × bM) ⊕ (Int × bM)) := if (μ 76 23) ≤ v1 then some (.inr (0, μ)) else bG (0 ≤ v1 ∧ v1 < 400) ((F_X11_at (μ 95 v1.toNat) μ).bind fun w2 => bG (bR (8 * w2)) (bLoop (fun z => F_X11_findTexts_36 v1 w2 z.1 z.2) ((8 * w2), μ)))
noncomputable def F_X11_findTexts (μ : bM) : Option (Int × bM) := bLoop (fun z => F_X11_findTexts_12 z.1 z.2) (0, (bset (bset μ 76 29 0) 76 32 0))
theorem q_X11_findTexts_36 {L : Nat} {xs : Nat → Int32} {d : Nat} {μ : bM} {v1 : Int} {v2 : Int} {κ : ((Int × bM) ⊕ ((Int × bM) ⊕ (Int × bM))) → Option bX} (hr : ∀ r : Int × bM, κ (.inr (.inr r)) = (bMc) r) (H12 : ∀ (v1 : Int) (μ : bM), bR v1 → bD L xs (d + 2) 166 12 [(0, .ref 76), (1, bI v1)] [] μ (κ (.inr (.inl (v1, μ))))) (H36 : ∀ (v3 : Int) (μ : bM), bR v3 → bD L xs (d + 2) 166 36 [(0, .ref 76), (1, bI v1), (2, bI v2), (3, bI v3)] [] μ (κ (.inl (v3, μ))))  (h1 : bR v1) (h2 : bR v2) {v3 : Int} (h3 : bR v3) : bD L xs (d + 2) 166 36 [(0, .ref 76), (1, bI v1), (2, bI v2), (3, bI v3)] [] μ ((F_X11_findTexts_36 v1 v2 v3 μ).bind κ) := by
  unfold F_X11_findTexts_36
  refine bD.ok fun hk => ?_
  refine b_s (pc' := 37) (lv1 := [(0, .ref 76), (1, bI v1), (2, bI v2), (3, bI v3)]) (st' := [bI v3]) l166_36 (fun _ => rfl) ?_
  refine b_bipush l166_37 (by decide) (b_pc (pc' := 39) rfl ?_)
  refine b_s (pc' := 40) (lv1 := [(0, .ref 76), (1, bI v1), (2, bI v2), (3, bI v3)]) (st' := [bI v2, bI 8, bI v3]) l166_39 (fun _ => rfl) ?_
  refine b_imul l166_40 fun g1 => (b_pc (pc' := 41) rfl ?_)
  refine b_s (pc' := 42) (lv1 := [(0, .ref 76), (1, bI v1), (2, bI v2), (3, bI v3)]) (st' := [.ref 76, bI (8 * v2), bI v3]) l166_41 (fun _ => rfl) ?_
  refine b_gp (q' := 84) (j := 8) l166_42 (by rfl) (by decide) (by decide) rfl hk rfl rfl (b_pc (pc' := 45) rfl ?_)
  refine b_s (pc' := 46) (lv1 := [(0, .ref 76), (1, bI v1), (2, bI v2), (3, bI v3)]) (st' := [bI v2, .ref 84, bI (8 * v2), bI v3]) l166_45 (fun _ => rfl) ?_
  refine b_g fun g22 => ?_
  refine b_ial l166_46 (by rfl) g22 (b_pc (pc' := 47) rfl ?_)
  refine b_iadd l166_47 fun g2 => (b_pc (pc' := 48) rfl ?_)
  refine b_ige (pt := 127) l166_48 h3 g2 (by decide) rfl (fun c3 => ?_) (fun c3 => b_pc (pc' := 51) rfl ?_)
  · refine b_inc (lv' := [(0, .ref 76), (1, bI (v1 + 1))]) l166_127 rfl (by decide +kernel) (bSb rfl (bSb rfl bSn)) fun g4 => (b_pc (pc' := 130) rfl ?_)
    refine b_s (pc' := 12) (lv1 := [(0, .ref 76), (1, bI (v1 + 1))]) (st' := []) l166_130 (fun _ => rfl) ?_
    refine bD.wk (lv' := [(0, .ref 76), (1, bI (v1 + 1))]) (bSb rfl (bSb rfl bSn)) ?_
    exact H12 (v1 + 1) μ g4
  · refine b_s (pc' := 52) (lv1 := [(0, .ref 76), (1, bI v1), (2, bI v2), (3, bI v3)]) (st' := [.ref 76]) l166_51 (fun _ => rfl) ?_
    refine b_gp (q' := 86) (j := 10) l166_52 (by rfl) (by decide) (by decide) rfl hk rfl rfl (b_pc (pc' := 55) rfl ?_)
    refine b_s (pc' := 56) (lv1 := [(0, .ref 76), (1, bI v1), (2, bI v2), (3, bI v3)]) (st' := [bI v3, .ref 86]) l166_55 (fun _ => rfl) ?_
    refine b_g fun g21 => ?_
    refine b_ial l166_56 (by rfl) g21 (b_pc (pc' := 57) rfl ?_)
    refine b_bipush l166_57 (by decide) (b_pc (pc' := 59) rfl ?_)
    refine b_ine (pt := 121) l166_59 (bO_i hk (by rfl)) (by decide) (by decide) rfl (fun c5 => ?_) (fun c5 => b_pc (pc' := 62) rfl ?_)
    · refine b_inc (lv' := [(0, .ref 76), (1, bI v1), (2, bI v2), (3, bI (v3 + 1))]) l166_121 rfl (by decide +kernel) (bSb rfl (bSb rfl (bSb rfl (bSb rfl bSn)))) fun g6 => (b_pc (pc' := 124) rfl ?_)
      refine b_s (pc' := 36) (lv1 := [(0, .ref 76), (1, bI v1), (2, bI v2), (3, bI (v3 + 1))]) (st' := []) l166_124 (fun _ => rfl) ?_
      refine bD.wk (lv' := [(0, .ref 76), (1, bI v1), (2, bI v2), (3, bI (v3 + 1))]) (bSb rfl (bSb rfl (bSb rfl (bSb rfl bSn)))) ?_
      exact H36 (v3 + 1) μ g6
    · refine b_s (pc' := 63) (lv1 := [(0, .ref 76), (1, bI v1), (2, bI v2), (3, bI v3)]) (st' := [.ref 76]) l166_62 (fun _ => rfl) ?_
      refine b_s (pc' := 64) (lv1 := [(0, .ref 76), (1, bI v1), (2, bI v2), (3, bI v3)]) (st' := [bI v3, .ref 76]) l166_63 (fun _ => rfl) ?_
      refine b_cPi l166_64 rfl (b_rc (ci := 9) (by rfl) (by decide) (by decide +kernel)) (Nat.le_of_ble_eq_true rfl) (Nat.le_of_ble_eq_true rfl) rfl (r_X11_textOf v3 h3) fun w7 hw7 => b_pc (pc' := 67) rfl ?_
      refine b_s (pc' := 68) (lv1 := [(0, .ref 76), (1, bI v1), (2, bI v2), (3, bI v3)]) (st' := [bI (-1), bI w7]) l166_67 (fun _ => rfl) ?_
      refine b_ine (pt := 121) l166_68 hw7 (by decide) (by decide) rfl (fun c8 => ?_) (fun c8 => b_pc (pc' := 71) rfl ?_)
      · refine b_inc (lv' := [(0, .ref 76), (1, bI v1), (2, bI v2), (3, bI (v3 + 1))]) l166_121 rfl (by decide +kernel) (bSb rfl (bSb rfl (bSb rfl (bSb rfl bSn)))) fun g9 => (b_pc (pc' := 124) rfl ?_)
        refine b_s (pc' := 36) (lv1 := [(0, .ref 76), (1, bI v1), (2, bI v2), (3, bI (v3 + 1))]) (st' := []) l166_124 (fun _ => rfl) ?_
        refine bD.wk (lv' := [(0, .ref 76), (1, bI v1), (2, bI v2), (3, bI (v3 + 1))]) (bSb rfl (bSb rfl (bSb rfl (bSb rfl bSn)))) ?_
        exact H36 (v3 + 1) μ g9
      · refine b_s (pc' := 72) (lv1 := [(0, .ref 76), (1, bI v1), (2, bI v2), (3, bI v3)]) (st' := [.ref 76]) l166_71 (fun _ => rfl) ?_
        refine b_gp (q' := 99) (j := 23) l166_72 (by rfl) (by decide) (by decide) rfl hk rfl rfl (b_pc (pc' := 75) rfl ?_)
        refine b_s (pc' := 76) (lv1 := [(0, .ref 76), (1, bI v1), (2, bI v2), (3, bI v3)]) (st' := [.ref 76, .ref 99]) l166_75 (fun _ => rfl) ?_
        refine b_gi l166_76 (by rfl) (by decide) (by decide) rfl (b_pc (pc' := 79) rfl ?_)
        refine b_s (pc' := 80) (lv1 := [(0, .ref 76), (1, bI v1), (2, bI v2), (3, bI v3)]) (st' := [bI v3, bI (μ 76 29), .ref 99]) l166_79 (fun _ => rfl) ?_
        refine b_g fun g20 => ?_
        refine b_ias l166_80 (by rfl) g20 h3 (bD.ok fun hk10 => b_pc (pc' := 81) rfl ?_)
        refine b_s (pc' := 82) (lv1 := [(0, .ref 76), (1, bI v1), (2, bI v2), (3, bI v3)]) (st' := [.ref 76]) l166_81 (fun _ => rfl) ?_
        refine b_gp (q' := 100) (j := 24) l166_82 (by rfl) (by decide) (by decide) rfl hk10 rfl rfl (b_pc (pc' := 85) rfl ?_)
        refine b_s (pc' := 86) (lv1 := [(0, .ref 76), (1, bI v1), (2, bI v2), (3, bI v3)]) (st' := [.ref 76, .ref 100]) l166_85 (fun _ => rfl) ?_
        refine b_gi l166_86 (by rfl) (by decide) (by decide) rfl (b_pc (pc' := 89) rfl ?_)
        refine b_s (pc' := 90) (lv1 := [(0, .ref 76), (1, bI v1), (2, bI v2), (3, bI v3)]) (st' := [.ref 76, bI ((bset μ 99 (μ 76 29).toNat v3) 76 29), .ref 100]) l166_89 (fun _ => rfl) ?_
        refine b_gi l166_90 (by rfl) (by decide) (by decide) rfl (b_pc (pc' := 93) rfl ?_)
        refine b_g fun g19 => ?_
        refine b_ias l166_93 (by rfl) g19 (bO_f hk10 (ci := 9) (by rfl) rfl) (bD.ok fun hk11 => b_pc (pc' := 94) rfl ?_)
        refine b_s (pc' := 95) (lv1 := [(0, .ref 76), (1, bI v1), (2, bI v2), (3, bI v3)]) (st' := [.ref 76]) l166_94 (fun _ => rfl) ?_
        refine b_s (pc' := 96) (lv1 := [(0, .ref 76), (1, bI v1), (2, bI v2), (3, bI v3)]) (st' := [.ref 76, .ref 76]) l166_95 (fun _ => rfl) ?_
        refine b_gi l166_96 (by rfl) (by decide) (by decide) rfl (b_pc (pc' := 99) rfl ?_)
        refine b_s (pc' := 100) (lv1 := [(0, .ref 76), (1, bI v1), (2, bI v2), (3, bI v3)]) (st' := [.ref 76, bI ((bset (bset μ 99 (μ 76 29).toNat v3) 100 ((bset μ 99 (μ 76 29).toNat v3) 76 29).toNat ((bset μ 99 (μ 76 29).toNat v3) 76 32)) 76 32), .ref 76]) l166_99 (fun _ => rfl) ?_
        refine b_gp (q' := 89) (j := 13) l166_100 (by rfl) (by decide) (by decide) rfl hk11 rfl rfl (b_pc (pc' := 103) rfl ?_)
        refine b_s (pc' := 104) (lv1 := [(0, .ref 76), (1, bI v1), (2, bI v2), (3, bI v3)]) (st' := [bI v3, .ref 89, bI ((bset (bset μ 99 (μ 76 29).toNat v3) 100 ((bset μ 99 (μ 76 29).toNat v3) 76 29).toNat ((bset μ 99 (μ 76 29).toNat v3) 76 32)) 76 32), .ref 76]) l166_103 (fun _ => rfl) ?_
        refine b_g fun g18 => ?_
        refine b_ial l166_104 (by rfl) g18 (b_pc (pc' := 105) rfl ?_)
        refine b_iadd l166_105 fun g12 => (b_pc (pc' := 106) rfl ?_)
        refine b_s (pc' := 107) (lv1 := [(0, .ref 76), (1, bI v1), (2, bI v2), (3, bI v3)]) (st' := [bI 1, bI (((bset (bset μ 99 (μ 76 29).toNat v3) 100 ((bset μ 99 (μ 76 29).toNat v3) 76 29).toNat ((bset μ 99 (μ 76 29).toNat v3) 76 32)) 76 32) + ((bset (bset μ 99 (μ 76 29).toNat v3) 100 ((bset μ 99 (μ 76 29).toNat v3) 76 29).toNat ((bset μ 99 (μ 76 29).toNat v3) 76 32)) 89 v3.toNat)), .ref 76]) l166_106 (fun _ => rfl) ?_
        refine b_iadd l166_107 fun g13 => (b_pc (pc' := 108) rfl ?_)
        refine b_pi l166_108 (by rfl) (by decide) (by decide) rfl rfl g13 (bD.ok fun hk14 => b_pc (pc' := 111) rfl ?_)
        refine b_s (pc' := 112) (lv1 := [(0, .ref 76), (1, bI v1), (2, bI v2), (3, bI v3)]) (st' := [.ref 76]) l166_111 (fun _ => rfl) ?_
        refine b_s (pc' := 113) (lv1 := [(0, .ref 76), (1, bI v1), (2, bI v2), (3, bI v3)]) (st' := [.ref 76, .ref 76]) l166_112 (fun _ => rfl) ?_
        refine b_gi l166_113 (by rfl) (by decide) (by decide) rfl (b_pc (pc' := 116) rfl ?_)
        refine b_s (pc' := 117) (lv1 := [(0, .ref 76), (1, bI v1), (2, bI v2), (3, bI v3)]) (st' := [bI 1, bI ((bset (bset (bset μ 99 (μ 76 29).toNat v3) 100 ((bset μ 99 (μ 76 29).toNat v3) 76 29).toNat ((bset μ 99 (μ 76 29).toNat v3) 76 32)) 76 32 ((((bset (bset μ 99 (μ 76 29).toNat v3) 100 ((bset μ 99 (μ 76 29).toNat v3) 76 29).toNat ((bset μ 99 (μ 76 29).toNat v3) 76 32)) 76 32) + ((bset (bset μ 99 (μ 76 29).toNat v3) 100 ((bset μ 99 (μ 76 29).toNat v3) 76 29).toNat ((bset μ 99 (μ 76 29).toNat v3) 76 32)) 89 v3.toNat)) + 1)) 76 29), .ref 76]) l166_116 (fun _ => rfl) ?_
        refine b_iadd l166_117 fun g15 => (b_pc (pc' := 118) rfl ?_)
        refine b_pi l166_118 (by rfl) (by decide) (by decide) rfl rfl g15 (bD.ok fun hk16 => b_pc (pc' := 121) rfl ?_)
        refine b_inc (lv' := [(0, .ref 76), (1, bI v1), (2, bI v2), (3, bI (v3 + 1))]) l166_121 rfl (by decide +kernel) (bSb rfl (bSb rfl (bSb rfl (bSb rfl bSn)))) fun g17 => (b_pc (pc' := 124) rfl ?_)
        refine b_s (pc' := 36) (lv1 := [(0, .ref 76), (1, bI v1), (2, bI v2), (3, bI (v3 + 1))]) (st' := []) l166_124 (fun _ => rfl) ?_
        refine bD.wk (lv' := [(0, .ref 76), (1, bI v1), (2, bI v2), (3, bI (v3 + 1))]) (bSb rfl (bSb rfl (bSb rfl (bSb rfl bSn)))) ?_
        exact H36 (v3 + 1) (bset (bset (bset (bset μ 99 (μ 76 29).toNat v3) 100 ((bset μ 99 (μ 76 29).toNat v3) 76 29).toNat ((bset μ 99 (μ 76 29).toNat v3) 76 32)) 76 32 ((((bset (bset μ 99 (μ 76 29).toNat v3) 100 ((bset μ 99 (μ 76 29).toNat v3) 76 29).toNat ((bset μ 99 (μ 76 29).toNat v3) 76 32)) 76 32) + ((bset (bset μ 99 (μ 76 29).toNat v3) 100 ((bset μ 99 (μ 76 29).toNat v3) 76 29).toNat ((bset μ 99 (μ 76 29).toNat v3) 76 32)) 89 v3.toNat)) + 1)) 76 29 (((bset (bset (bset μ 99 (μ 76 29).toNat v3) 100 ((bset μ 99 (μ 76 29).toNat v3) 76 29).toNat ((bset μ 99 (μ 76 29).toNat v3) 76 32)) 76 32 ((((bset (bset μ 99 (μ 76 29).toNat v3) 100 ((bset μ 99 (μ 76 29).toNat v3) 76 29).toNat ((bset μ 99 (μ 76 29).toNat v3) 76 32)) 76 32) + ((bset (bset μ 99 (μ 76 29).toNat v3) 100 ((bset μ 99 (μ 76 29).toNat v3) 76 29).toNat ((bset μ 99 (μ 76 29).toNat v3) 76 32)) 89 v3.toNat)) + 1)) 76 29) + 1)) g17
theorem p_X11_findTexts_36 {L : Nat} {xs : Nat → Int32} {d : Nat} {μ : bM}  {κ : ((Int × bM) ⊕ (Int × bM)) → Option bX} (hr : ∀ r : Int × bM, κ (.inr r) = (bMc) r) (H12 : ∀ (v1 : Int) (μ : bM), bR v1 → bD L xs (d + 2) 166 12 [(0, .ref 76), (1, bI v1)] [] μ (κ (.inl (v1, μ))))  {v1 : Int} (h1 : bR v1) {v2 : Int} (h2 : bR v2) {v3 : Int} (h3 : bR v3) : bD L xs (d + 2) 166 36 [(0, .ref 76), (1, bI v1), (2, bI v2), (3, bI v3)] [] μ ((bLoop (fun z => F_X11_findTexts_36 v1 v2 z.1 z.2) (v3, μ)).bind κ) :=
  b_loop (fun z => [(0, .ref 76), (1, bI v1), (2, bI v2), (3, bI z.1)]) (fun z => z.2) (fun z => bR z.1) (fun κ' hκ HH z hz => q_X11_findTexts_36 (κ := κ') (fun r => (hκ _).trans (hr r)) (fun a1 am b1 => b_eq (hκ _) (H12 a1 am b1)) (fun a3 am b3 => HH (a3, am) b3)  h1 h2 hz) (v3, μ) h3
theorem q_X11_findTexts_12 {L : Nat} {xs : Nat → Int32} {d : Nat} {μ : bM}  {κ : ((Int × bM) ⊕ (Int × bM)) → Option bX} (hr : ∀ r : Int × bM, κ (.inr r) = (bMc) r) (H12 : ∀ (v1 : Int) (μ : bM), bR v1 → bD L xs (d + 2) 166 12 [(0, .ref 76), (1, bI v1)] [] μ (κ (.inl (v1, μ))))  {v1 : Int} (h1 : bR v1) : bD L xs (d + 2) 166 12 [(0, .ref 76), (1, bI v1)] [] μ ((F_X11_findTexts_12 v1 μ).bind κ) := by
  unfold F_X11_findTexts_12
  refine bD.ok fun hk => ?_
  refine b_s (pc' := 13) (lv1 := [(0, .ref 76), (1, bI v1)]) (st' := [bI v1]) l166_12 (fun _ => rfl) ?_
  refine b_s (pc' := 14) (lv1 := [(0, .ref 76), (1, bI v1)]) (st' := [.ref 76, bI v1]) l166_13 (fun _ => rfl) ?_
  refine b_gi l166_14 (by rfl) (by decide) (by decide) rfl (b_pc (pc' := 17) rfl ?_)
  refine b_ige (pt := 133) l166_17 h1 (bO_f hk (ci := 9) (by rfl) rfl) (by decide) rfl (fun c1 => ?_) (fun c1 => b_pc (pc' := 20) rfl ?_)
  · exact b_retv l166_133 rfl (hr _)
  · refine b_s (pc' := 21) (lv1 := [(0, .ref 76), (1, bI v1)]) (st' := [.ref 76]) l166_20 (fun _ => rfl) ?_
    refine b_s (pc' := 22) (lv1 := [(0, .ref 76), (1, bI v1)]) (st' := [.ref 76, .ref 76]) l166_21 (fun _ => rfl) ?_
    refine b_gp (q' := 95) (j := 19) l166_22 (by rfl) (by decide) (by decide) rfl hk rfl rfl (b_pc (pc' := 25) rfl ?_)
    refine b_s (pc' := 26) (lv1 := [(0, .ref 76), (1, bI v1)]) (st' := [bI v1, .ref 95, .ref 76]) l166_25 (fun _ => rfl) ?_
    refine b_g fun g4 => ?_
    refine b_ial l166_26 (by rfl) g4 (b_pc (pc' := 27) rfl ?_)
    refine b_cPi l166_27 rfl (b_rc (ci := 9) (by rfl) (by decide) (by decide +kernel)) (Nat.le_of_ble_eq_true rfl) (Nat.le_of_ble_eq_true rfl) rfl (r_X11_at (μ 95 v1.toNat) (bO_i hk (by rfl))) fun w2 hw2 => b_pc (pc' := 30) rfl ?_
    refine b_w (pc' := 31) (lv1 := ax_st1 [(0, .ref 76), (1, bI v1)] 2 (bI w2)) (lv' := [(0, .ref 76), (1, bI v1), (2, bI w2)]) (st' := []) l166_30 (fun _ => rfl) (bSb rfl (bSb rfl (bSb rfl bSn))) ?_
    refine b_bipush l166_31 (by decide) (b_pc (pc' := 33) rfl ?_)
    refine b_s (pc' := 34) (lv1 := [(0, .ref 76), (1, bI v1), (2, bI w2)]) (st' := [bI w2, bI 8]) l166_33 (fun _ => rfl) ?_
    refine b_imul l166_34 fun g3 => (b_pc (pc' := 35) rfl ?_)
    refine b_w (pc' := 36) (lv1 := ax_st1 [(0, .ref 76), (1, bI v1), (2, bI w2)] 3 (bI (8 * w2))) (lv' := [(0, .ref 76), (1, bI v1), (2, bI w2), (3, bI (8 * w2))]) (st' := []) l166_35 (fun _ => rfl) (bSb rfl (bSb rfl (bSb rfl (bSb rfl bSn)))) ?_
    refine bD.wk (lv' := [(0, .ref 76), (1, bI v1), (2, bI w2), (3, bI (8 * w2))]) (bSb rfl (bSb rfl (bSb rfl (bSb rfl bSn)))) ?_
    exact p_X11_findTexts_36 hr H12 h1 hw2 g3
theorem p_X11_findTexts_12 {L : Nat} {xs : Nat → Int32} {d : Nat} {μ : bM}  {κ : (Int × bM) → Option bX} (hr : ∀ r : Int × bM, κ r = (bMc) r)  {v1 : Int} (h1 : bR v1) : bD L xs (d + 2) 166 12 [(0, .ref 76), (1, bI v1)] [] μ ((bLoop (fun z => F_X11_findTexts_12 z.1 z.2) (v1, μ)).bind κ) :=
  b_loop (fun z => [(0, .ref 76), (1, bI z.1)]) (fun z => z.2) (fun z => bR z.1) (fun κ' hκ HH z hz => q_X11_findTexts_12 (κ := κ') (fun r => (hκ _).trans (hr r)) (fun a1 am b1 => HH (a1, am) b1)  hz) (v1, μ) h1
theorem r_X11_findTexts {L : Nat} {xs : Nat → Int32} {d : Nat} {μ : bM}   : bD L xs (d + 2) 166 0 [(0, .ref 76)] [] μ ((F_X11_findTexts μ).bind (bMc)) := by
  have hr : ∀ r, (bMc) r = (bMc) r := fun _ => rfl
  unfold F_X11_findTexts
  refine bD.ok fun hk => ?_
  refine b_s (pc' := 1) (lv1 := [(0, .ref 76)]) (st' := [.ref 76]) l166_0 (fun _ => rfl) ?_
  refine b_s (pc' := 2) (lv1 := [(0, .ref 76)]) (st' := [bI 0, .ref 76]) l166_1 (fun _ => rfl) ?_
  refine b_pi l166_2 (by rfl) (by decide) (by decide) rfl rfl (by decide) (bD.ok fun hk1 => b_pc (pc' := 5) rfl ?_)
  refine b_s (pc' := 6) (lv1 := [(0, .ref 76)]) (st' := [.ref 76]) l166_5 (fun _ => rfl) ?_
  refine b_s (pc' := 7) (lv1 := [(0, .ref 76)]) (st' := [bI 0, .ref 76]) l166_6 (fun _ => rfl) ?_
  refine b_pi l166_7 (by rfl) (by decide) (by decide) rfl rfl (by decide) (bD.ok fun hk2 => b_pc (pc' := 10) rfl ?_)
  refine b_s (pc' := 11) (lv1 := [(0, .ref 76)]) (st' := [bI 0]) l166_10 (fun _ => rfl) ?_
  refine b_w (pc' := 12) (lv1 := ax_st1 [(0, .ref 76)] 1 (bI 0)) (lv' := [(0, .ref 76), (1, bI 0)]) (st' := []) l166_11 (fun _ => rfl) (bSb rfl (bSb rfl bSn)) ?_
  refine bD.wk (lv' := [(0, .ref 76), (1, bI 0)]) (bSb rfl (bSb rfl bSn)) ?_
  exact p_X11_findTexts_12 hr (by decide)
/-! ETModel.rowBytes -/
theorem l167_0 : (ax_dt (ax_T 167)).lookup 0 = some (.iconst 1, 1, 0, 0, 0) := by decide +kernel
theorem l167_1 : (ax_dt (ax_T 167)).lookup 1 = some (.istore_n 2, 1, 0, 0, 0) := by decide +kernel
theorem l167_2 : (ax_dt (ax_T 167)).lookup 2 = some (.lload_n 0, 1, 0, 0, 0) := by decide +kernel
theorem l167_3 : (ax_dt (ax_T 167)).lookup 3 = some (.lstore_n 3, 1, 0, 0, 0) := by decide +kernel
theorem l167_4 : (ax_dt (ax_T 167)).lookup 4 = some (.lload_n 3, 1, 0, 0, 0) := by decide +kernel
theorem l167_5 : (ax_dt (ax_T 167)).lookup 5 = some (.ldc2_w 223, 3, 0, 0, 127) := by decide +kernel
theorem l167_8 : (ax_dt (ax_T 167)).lookup 8 = some (.lcmp, 1, 0, 0, 0) := by decide +kernel
theorem l167_9 : (ax_dt (ax_T 167)).lookup 9 = some (.ifCond .le 15, 3, 0, 0, 0) := by decide +kernel
theorem l167_12 : (ax_dt (ax_T 167)).lookup 12 = some (.lload_n 3, 1, 0, 0, 0) := by decide +kernel
theorem l167_13 : (ax_dt (ax_T 167)).lookup 13 = some (.ldc2_w 225, 3, 0, 0, 128) := by decide +kernel
theorem l167_16 : (ax_dt (ax_T 167)).lookup 16 = some (.ldiv, 1, 0, 0, 0) := by decide +kernel
theorem l167_17 : (ax_dt (ax_T 167)).lookup 17 = some (.lstore_n 3, 1, 0, 0, 0) := by decide +kernel
theorem l167_18 : (ax_dt (ax_T 167)).lookup 18 = some (.iinc 2 1, 3, 0, 0, 0) := by decide +kernel
theorem l167_21 : (ax_dt (ax_T 167)).lookup 21 = some (.goto (-17), 3, 0, 0, 0) := by decide +kernel
theorem l167_24 : (ax_dt (ax_T 167)).lookup 24 = some (.iload_n 2, 1, 0, 0, 0) := by decide +kernel
theorem l167_25 : (ax_dt (ax_T 167)).lookup 25 = some (.ireturn, 1, 0, 0, 0) := by decide +kernel
noncomputable def F_X11_rowBytes_4 (μ : bM) (v2 : Int) (v3 : Int) : Option ((Int × Int) ⊕ (Int)) := if (bCmp v3 127) ≤ 0 then some (.inr (v2)) else bG (bR (v2 + 1)) (some (.inl ((v2 + 1), (bDivL v3 128))))
noncomputable def F_X11_rowBytes (v0 : Int) (μ : bM) : Option (Int) := bLoop (fun z => F_X11_rowBytes_4 μ z.1 z.2) (1, v0)
theorem q_X11_rowBytes_4 {L : Nat} {xs : Nat → Int32} {d : Nat} {μ : bM}  {κ : ((Int × Int) ⊕ (Int)) → Option bX} (hr : ∀ r : Int, κ (.inr r) = (bPc μ) r) (H4 : ∀ (v2 : Int) (v3 : Int), bR v2 → bRL v3 → bD L xs (d + 0) 167 4 [(2, bI v2), (3, bLg v3)] [] μ (κ (.inl (v2, v3))))  {v2 : Int} (h2 : bR v2) {v3 : Int} (h3 : bRL v3) : bD L xs (d + 0) 167 4 [(2, bI v2), (3, bLg v3)] [] μ ((F_X11_rowBytes_4 μ v2 v3).bind κ) := by
  unfold F_X11_rowBytes_4
  refine bD.ok fun hk => ?_
  refine b_s (pc' := 5) (lv1 := [(2, bI v2), (3, bLg v3)]) (st' := [bLg v3]) l167_4 (fun _ => rfl) ?_
  refine b_s (pc' := 8) (lv1 := [(2, bI v2), (3, bLg v3)]) (st' := [bLg 127, bLg v3]) l167_5 (fun _ => rfl) ?_
  refine b_lcmp l167_8 h3 (by decide) (b_pc (pc' := 9) rfl ?_)
  refine b_zle (pt := 24) l167_9 (bCmp_R _ _) (by decide) rfl (fun c1 => ?_) (fun c1 => b_pc (pc' := 12) rfl ?_)
  · refine b_s (pc' := 25) (lv1 := [(2, bI v2), (3, bLg v3)]) (st' := [bI v2]) l167_24 (fun _ => rfl) ?_
    exact b_reti l167_25 rfl h2 (hr _)
  · refine b_s (pc' := 13) (lv1 := [(2, bI v2), (3, bLg v3)]) (st' := [bLg v3]) l167_12 (fun _ => rfl) ?_
    refine b_s (pc' := 16) (lv1 := [(2, bI v2), (3, bLg v3)]) (st' := [bLg 128, bLg v3]) l167_13 (fun _ => rfl) ?_
    refine b_ldiv l167_16 (by decide) (b_pc (pc' := 17) rfl ?_)
    refine b_w (pc' := 18) (lv1 := ax_st2 [(2, bI v2), (3, bLg v3)] 3 (bLg (bDivL v3 128))) (lv' := [(2, bI v2), (3, bLg (bDivL v3 128))]) (st' := []) l167_17 (fun _ => rfl) (bSb rfl (bSb rfl bSn)) ?_
    refine b_inc (lv' := [(2, bI (v2 + 1)), (3, bLg (bDivL v3 128))]) l167_18 rfl (by decide +kernel) (bSb rfl (bSb rfl bSn)) fun g2 => (b_pc (pc' := 21) rfl ?_)
    refine b_s (pc' := 4) (lv1 := [(2, bI (v2 + 1)), (3, bLg (bDivL v3 128))]) (st' := []) l167_21 (fun _ => rfl) ?_
    refine bD.wk (lv' := [(2, bI (v2 + 1)), (3, bLg (bDivL v3 128))]) (bSb rfl (bSb rfl bSn)) ?_
    exact H4 (v2 + 1) (bDivL v3 128) g2 (bl_rg _)
theorem p_X11_rowBytes_4 {L : Nat} {xs : Nat → Int32} {d : Nat} {μ : bM}  {κ : (Int) → Option bX} (hr : ∀ r : Int, κ r = (bPc μ) r)  {v2 : Int} (h2 : bR v2) {v3 : Int} (h3 : bRL v3) : bD L xs (d + 0) 167 4 [(2, bI v2), (3, bLg v3)] [] μ ((bLoop (fun z => F_X11_rowBytes_4 μ z.1 z.2) (v2, v3)).bind κ) :=
  b_loop (fun z => [(2, bI z.1), (3, bLg z.2)]) (fun z => μ) (fun z => bR z.1 ∧ bRL z.2) (fun κ' hκ HH z hz => q_X11_rowBytes_4 (κ := κ') (fun r => (hκ _).trans (hr r)) (fun a2 a3 b2 b3 => HH (a2, a3) ⟨b2, b3⟩)  hz.1 hz.2) (v2, v3) ⟨h2, h3⟩
theorem r_X11_rowBytes {L : Nat} {xs : Nat → Int32} {d : Nat} {μ : bM}  (v0 : Int) (h0 : bRL v0) : bD L xs (d + 0) 167 0 [(0, bLg v0)] [] μ ((F_X11_rowBytes v0 μ).bind (bPc μ)) := by
  have hr : ∀ r, (bPc μ) r = (bPc μ) r := fun _ => rfl
  unfold F_X11_rowBytes
  refine bD.ok fun hk => ?_
  refine b_s (pc' := 1) (lv1 := [(0, bLg v0)]) (st' := [bI 1]) l167_0 (fun _ => rfl) ?_
  refine b_w (pc' := 2) (lv1 := ax_st1 [(0, bLg v0)] 2 (bI 1)) (lv' := [(0, bLg v0), (2, bI 1)]) (st' := []) l167_1 (fun _ => rfl) (bSb rfl (bSb rfl bSn)) ?_
  refine b_s (pc' := 3) (lv1 := [(0, bLg v0), (2, bI 1)]) (st' := [bLg v0]) l167_2 (fun _ => rfl) ?_
  refine b_w (pc' := 4) (lv1 := ax_st2 [(0, bLg v0), (2, bI 1)] 3 (bLg v0)) (lv' := [(2, bI 1), (3, bLg v0)]) (st' := []) l167_3 (fun _ => rfl) (bSb rfl (bSb rfl bSn)) ?_
  refine bD.wk (lv' := [(2, bI 1), (3, bLg v0)]) (bSb rfl (bSb rfl bSn)) ?_
  exact p_X11_rowBytes_4 hr (by decide) h0
/-! ETModel.signedBytes -/
theorem l168_0 : (ax_dt (ax_T 168)).lookup 0 = some (.iconst 1, 1, 0, 0, 0) := by decide +kernel
theorem l168_1 : (ax_dt (ax_T 168)).lookup 1 = some (.istore_n 2, 1, 0, 0, 0) := by decide +kernel
theorem l168_2 : (ax_dt (ax_T 168)).lookup 2 = some (.lload_n 0, 1, 0, 0, 0) := by decide +kernel
theorem l168_3 : (ax_dt (ax_T 168)).lookup 3 = some (.lstore_n 3, 1, 0, 0, 0) := by decide +kernel
theorem l168_4 : (ax_dt (ax_T 168)).lookup 4 = some (.lload_n 3, 1, 0, 0, 0) := by decide +kernel
theorem l168_5 : (ax_dt (ax_T 168)).lookup 5 = some (.ldc2_w 227, 3, 0, 0, (-64)) := by decide +kernel
theorem l168_8 : (ax_dt (ax_T 168)).lookup 8 = some (.lcmp, 1, 0, 0, 0) := by decide +kernel
theorem l168_9 : (ax_dt (ax_T 168)).lookup 9 = some (.ifCond .lt 11, 3, 0, 0, 0) := by decide +kernel
theorem l168_12 : (ax_dt (ax_T 168)).lookup 12 = some (.lload_n 3, 1, 0, 0, 0) := by decide +kernel
theorem l168_13 : (ax_dt (ax_T 168)).lookup 13 = some (.ldc2_w 229, 3, 0, 0, 63) := by decide +kernel
theorem l168_16 : (ax_dt (ax_T 168)).lookup 16 = some (.lcmp, 1, 0, 0, 0) := by decide +kernel
theorem l168_17 : (ax_dt (ax_T 168)).lookup 17 = some (.ifCond .le 14, 3, 0, 0, 0) := by decide +kernel
theorem l168_20 : (ax_dt (ax_T 168)).lookup 20 = some (.lload_n 3, 1, 0, 0, 0) := by decide +kernel
theorem l168_21 : (ax_dt (ax_T 168)).lookup 21 = some (.bipush 7, 2, 0, 0, 0) := by decide +kernel
theorem l168_23 : (ax_dt (ax_T 168)).lookup 23 = some (.lshr, 1, 0, 0, 0) := by decide +kernel
theorem l168_24 : (ax_dt (ax_T 168)).lookup 24 = some (.lstore_n 3, 1, 0, 0, 0) := by decide +kernel
theorem l168_25 : (ax_dt (ax_T 168)).lookup 25 = some (.iinc 2 1, 3, 0, 0, 0) := by decide +kernel
theorem l168_28 : (ax_dt (ax_T 168)).lookup 28 = some (.goto (-24), 3, 0, 0, 0) := by decide +kernel
theorem l168_31 : (ax_dt (ax_T 168)).lookup 31 = some (.iload_n 2, 1, 0, 0, 0) := by decide +kernel
theorem l168_32 : (ax_dt (ax_T 168)).lookup 32 = some (.ireturn, 1, 0, 0, 0) := by decide +kernel
noncomputable def F_X11_signedBytes_4 (μ : bM) (v2 : Int) (v3 : Int) : Option ((Int × Int) ⊕ (Int)) := if (bCmp v3 (-64)) < 0 then bG (bR (v2 + 1)) (some (.inl ((v2 + 1), (bShrL v3 7)))) else if (bCmp v3 63) ≤ 0 then some (.inr (v2)) else bG (bR (v2 + 1)) (some (.inl ((v2 + 1), (bShrL v3 7))))
noncomputable def F_X11_signedBytes (v0 : Int) (μ : bM) : Option (Int) := bLoop (fun z => F_X11_signedBytes_4 μ z.1 z.2) (1, v0)
theorem q_X11_signedBytes_4 {L : Nat} {xs : Nat → Int32} {d : Nat} {μ : bM}  {κ : ((Int × Int) ⊕ (Int)) → Option bX} (hr : ∀ r : Int, κ (.inr r) = (bPc μ) r) (H4 : ∀ (v2 : Int) (v3 : Int), bR v2 → bRL v3 → bD L xs (d + 0) 168 4 [(2, bI v2), (3, bLg v3)] [] μ (κ (.inl (v2, v3))))  {v2 : Int} (h2 : bR v2) {v3 : Int} (h3 : bRL v3) : bD L xs (d + 0) 168 4 [(2, bI v2), (3, bLg v3)] [] μ ((F_X11_signedBytes_4 μ v2 v3).bind κ) := by
  unfold F_X11_signedBytes_4
  refine bD.ok fun hk => ?_
  refine b_s (pc' := 5) (lv1 := [(2, bI v2), (3, bLg v3)]) (st' := [bLg v3]) l168_4 (fun _ => rfl) ?_
  refine b_s (pc' := 8) (lv1 := [(2, bI v2), (3, bLg v3)]) (st' := [bLg (-64), bLg v3]) l168_5 (fun _ => rfl) ?_
  refine b_lcmp l168_8 h3 (by decide) (b_pc (pc' := 9) rfl ?_)
  refine b_zlt (pt := 20) l168_9 (bCmp_R _ _) (by decide) rfl (fun c1 => ?_) (fun c1 => b_pc (pc' := 12) rfl ?_)
  · refine b_s (pc' := 21) (lv1 := [(2, bI v2), (3, bLg v3)]) (st' := [bLg v3]) l168_20 (fun _ => rfl) ?_
    refine b_bipush l168_21 (by decide) (b_pc (pc' := 23) rfl ?_)
    refine b_lshr l168_23 (b_pc (pc' := 24) rfl ?_)
    refine b_w (pc' := 25) (lv1 := ax_st2 [(2, bI v2), (3, bLg v3)] 3 (bLg (bShrL v3 7))) (lv' := [(2, bI v2), (3, bLg (bShrL v3 7))]) (st' := []) l168_24 (fun _ => rfl) (bSb rfl (bSb rfl bSn)) ?_
    refine b_inc (lv' := [(2, bI (v2 + 1)), (3, bLg (bShrL v3 7))]) l168_25 rfl (by decide +kernel) (bSb rfl (bSb rfl bSn)) fun g2 => (b_pc (pc' := 28) rfl ?_)
    refine b_s (pc' := 4) (lv1 := [(2, bI (v2 + 1)), (3, bLg (bShrL v3 7))]) (st' := []) l168_28 (fun _ => rfl) ?_
    refine bD.wk (lv' := [(2, bI (v2 + 1)), (3, bLg (bShrL v3 7))]) (bSb rfl (bSb rfl bSn)) ?_
    exact H4 (v2 + 1) (bShrL v3 7) g2 (bl_rg _)
  · refine b_s (pc' := 13) (lv1 := [(2, bI v2), (3, bLg v3)]) (st' := [bLg v3]) l168_12 (fun _ => rfl) ?_
    refine b_s (pc' := 16) (lv1 := [(2, bI v2), (3, bLg v3)]) (st' := [bLg 63, bLg v3]) l168_13 (fun _ => rfl) ?_
    refine b_lcmp l168_16 h3 (by decide) (b_pc (pc' := 17) rfl ?_)
    refine b_zle (pt := 31) l168_17 (bCmp_R _ _) (by decide) rfl (fun c3 => ?_) (fun c3 => b_pc (pc' := 20) rfl ?_)
    · refine b_s (pc' := 32) (lv1 := [(2, bI v2), (3, bLg v3)]) (st' := [bI v2]) l168_31 (fun _ => rfl) ?_
      exact b_reti l168_32 rfl h2 (hr _)
    · refine b_s (pc' := 21) (lv1 := [(2, bI v2), (3, bLg v3)]) (st' := [bLg v3]) l168_20 (fun _ => rfl) ?_
      refine b_bipush l168_21 (by decide) (b_pc (pc' := 23) rfl ?_)
      refine b_lshr l168_23 (b_pc (pc' := 24) rfl ?_)
      refine b_w (pc' := 25) (lv1 := ax_st2 [(2, bI v2), (3, bLg v3)] 3 (bLg (bShrL v3 7))) (lv' := [(2, bI v2), (3, bLg (bShrL v3 7))]) (st' := []) l168_24 (fun _ => rfl) (bSb rfl (bSb rfl bSn)) ?_
      refine b_inc (lv' := [(2, bI (v2 + 1)), (3, bLg (bShrL v3 7))]) l168_25 rfl (by decide +kernel) (bSb rfl (bSb rfl bSn)) fun g4 => (b_pc (pc' := 28) rfl ?_)
      refine b_s (pc' := 4) (lv1 := [(2, bI (v2 + 1)), (3, bLg (bShrL v3 7))]) (st' := []) l168_28 (fun _ => rfl) ?_
      refine bD.wk (lv' := [(2, bI (v2 + 1)), (3, bLg (bShrL v3 7))]) (bSb rfl (bSb rfl bSn)) ?_
      exact H4 (v2 + 1) (bShrL v3 7) g4 (bl_rg _)
theorem p_X11_signedBytes_4 {L : Nat} {xs : Nat → Int32} {d : Nat} {μ : bM}  {κ : (Int) → Option bX} (hr : ∀ r : Int, κ r = (bPc μ) r)  {v2 : Int} (h2 : bR v2) {v3 : Int} (h3 : bRL v3) : bD L xs (d + 0) 168 4 [(2, bI v2), (3, bLg v3)] [] μ ((bLoop (fun z => F_X11_signedBytes_4 μ z.1 z.2) (v2, v3)).bind κ) :=
  b_loop (fun z => [(2, bI z.1), (3, bLg z.2)]) (fun z => μ) (fun z => bR z.1 ∧ bRL z.2) (fun κ' hκ HH z hz => q_X11_signedBytes_4 (κ := κ') (fun r => (hκ _).trans (hr r)) (fun a2 a3 b2 b3 => HH (a2, a3) ⟨b2, b3⟩)  hz.1 hz.2) (v2, v3) ⟨h2, h3⟩
theorem r_X11_signedBytes {L : Nat} {xs : Nat → Int32} {d : Nat} {μ : bM}  (v0 : Int) (h0 : bRL v0) : bD L xs (d + 0) 168 0 [(0, bLg v0)] [] μ ((F_X11_signedBytes v0 μ).bind (bPc μ)) := by
  have hr : ∀ r, (bPc μ) r = (bPc μ) r := fun _ => rfl
  unfold F_X11_signedBytes
  refine bD.ok fun hk => ?_
  refine b_s (pc' := 1) (lv1 := [(0, bLg v0)]) (st' := [bI 1]) l168_0 (fun _ => rfl) ?_
  refine b_w (pc' := 2) (lv1 := ax_st1 [(0, bLg v0)] 2 (bI 1)) (lv' := [(0, bLg v0), (2, bI 1)]) (st' := []) l168_1 (fun _ => rfl) (bSb rfl (bSb rfl bSn)) ?_
  refine b_s (pc' := 3) (lv1 := [(0, bLg v0), (2, bI 1)]) (st' := [bLg v0]) l168_2 (fun _ => rfl) ?_
  refine b_w (pc' := 4) (lv1 := ax_st2 [(0, bLg v0), (2, bI 1)] 3 (bLg v0)) (lv' := [(2, bI 1), (3, bLg v0)]) (st' := []) l168_3 (fun _ => rfl) (bSb rfl (bSb rfl bSn)) ?_
  refine bD.wk (lv' := [(2, bI 1), (3, bLg v0)]) (bSb rfl (bSb rfl bSn)) ?_
  exact p_X11_signedBytes_4 hr (by decide) h0
/-! ETModel.sizeOf -/
theorem l169_0 : (ax_dt (ax_T 169)).lookup 0 = some (.aload_n 0, 1, 0, 0, 0) := by decide +kernel
theorem l169_1 : (ax_dt (ax_T 169)).lookup 1 = some (.getfield 38, 3, 9, 12, 0) := by decide +kernel
theorem l169_4 : (ax_dt (ax_T 169)).lookup 4 = some (.iload_n 1, 1, 0, 0, 0) := by decide +kernel
theorem l169_5 : (ax_dt (ax_T 169)).lookup 5 = some (.iaload, 1, 0, 0, 0) := by decide +kernel
theorem l169_6 : (ax_dt (ax_T 169)).lookup 6 = some (.tableswitch 136 5 21 #[84, 86, 88, 111, 136, 111, 82, 82, 91, 86, 101, 136, 136, 136, 86, 136, 120], 82, 0, 0, 0) := by decide +kernel
theorem l169_88 : (ax_dt (ax_T 169)).lookup 88 = some (.iconst 1, 1, 0, 0, 0) := by decide +kernel
theorem l169_89 : (ax_dt (ax_T 169)).lookup 89 = some (.ireturn, 1, 0, 0, 0) := by decide +kernel
theorem l169_90 : (ax_dt (ax_T 169)).lookup 90 = some (.iconst 2, 1, 0, 0, 0) := by decide +kernel
theorem l169_91 : (ax_dt (ax_T 169)).lookup 91 = some (.ireturn, 1, 0, 0, 0) := by decide +kernel
theorem l169_92 : (ax_dt (ax_T 169)).lookup 92 = some (.iconst 4, 1, 0, 0, 0) := by decide +kernel
theorem l169_93 : (ax_dt (ax_T 169)).lookup 93 = some (.ireturn, 1, 0, 0, 0) := by decide +kernel
theorem l169_94 : (ax_dt (ax_T 169)).lookup 94 = some (.bipush 8, 2, 0, 0, 0) := by decide +kernel
theorem l169_96 : (ax_dt (ax_T 169)).lookup 96 = some (.ireturn, 1, 0, 0, 0) := by decide +kernel
theorem l169_97 : (ax_dt (ax_T 169)).lookup 97 = some (.aload_n 0, 1, 0, 0, 0) := by decide +kernel
theorem l169_98 : (ax_dt (ax_T 169)).lookup 98 = some (.getfield 41, 3, 9, 13, 0) := by decide +kernel
theorem l169_101 : (ax_dt (ax_T 169)).lookup 101 = some (.iload_n 1, 1, 0, 0, 0) := by decide +kernel
theorem l169_102 : (ax_dt (ax_T 169)).lookup 102 = some (.laload, 1, 0, 0, 0) := by decide +kernel
theorem l169_103 : (ax_dt (ax_T 169)).lookup 103 = some (.invokestatic 231, 3, 168, 1, 0) := by decide +kernel
theorem l169_106 : (ax_dt (ax_T 169)).lookup 106 = some (.ireturn, 1, 0, 0, 0) := by decide +kernel
theorem l169_107 : (ax_dt (ax_T 169)).lookup 107 = some (.aload_n 0, 1, 0, 0, 0) := by decide +kernel
theorem l169_108 : (ax_dt (ax_T 169)).lookup 108 = some (.getfield 41, 3, 9, 13, 0) := by decide +kernel
theorem l169_111 : (ax_dt (ax_T 169)).lookup 111 = some (.iload_n 1, 1, 0, 0, 0) := by decide +kernel
theorem l169_112 : (ax_dt (ax_T 169)).lookup 112 = some (.laload, 1, 0, 0, 0) := by decide +kernel
theorem l169_113 : (ax_dt (ax_T 169)).lookup 113 = some (.invokestatic 235, 3, 167, 1, 0) := by decide +kernel
theorem l169_116 : (ax_dt (ax_T 169)).lookup 116 = some (.ireturn, 1, 0, 0, 0) := by decide +kernel
theorem l169_117 : (ax_dt (ax_T 169)).lookup 117 = some (.aload_n 0, 1, 0, 0, 0) := by decide +kernel
theorem l169_118 : (ax_dt (ax_T 169)).lookup 118 = some (.getfield 48, 3, 9, 15, 0) := by decide +kernel
theorem l169_121 : (ax_dt (ax_T 169)).lookup 121 = some (.iload_n 1, 1, 0, 0, 0) := by decide +kernel
theorem l169_122 : (ax_dt (ax_T 169)).lookup 122 = some (.iaload, 1, 0, 0, 0) := by decide +kernel
theorem l169_123 : (ax_dt (ax_T 169)).lookup 123 = some (.iconst 1, 1, 0, 0, 0) := by decide +kernel
theorem l169_124 : (ax_dt (ax_T 169)).lookup 124 = some (.iadd, 1, 0, 0, 0) := by decide +kernel
theorem l169_125 : (ax_dt (ax_T 169)).lookup 125 = some (.ireturn, 1, 0, 0, 0) := by decide +kernel
theorem l169_126 : (ax_dt (ax_T 169)).lookup 126 = some (.aload_n 0, 1, 0, 0, 0) := by decide +kernel
theorem l169_127 : (ax_dt (ax_T 169)).lookup 127 = some (.getfield 89, 3, 9, 34, 0) := by decide +kernel
theorem l169_130 : (ax_dt (ax_T 169)).lookup 130 = some (.iload_n 1, 1, 0, 0, 0) := by decide +kernel
theorem l169_131 : (ax_dt (ax_T 169)).lookup 131 = some (.sipush 3200, 3, 0, 0, 0) := by decide +kernel
theorem l169_134 : (ax_dt (ax_T 169)).lookup 134 = some (.aload_n 0, 1, 0, 0, 0) := by decide +kernel
theorem l169_135 : (ax_dt (ax_T 169)).lookup 135 = some (.getfield 137, 3, 9, 3, 0) := by decide +kernel
theorem l169_138 : (ax_dt (ax_T 169)).lookup 138 = some (.imul, 1, 0, 0, 0) := by decide +kernel
theorem l169_139 : (ax_dt (ax_T 169)).lookup 139 = some (.isub, 1, 0, 0, 0) := by decide +kernel
theorem l169_140 : (ax_dt (ax_T 169)).lookup 140 = some (.iaload, 1, 0, 0, 0) := by decide +kernel
theorem l169_141 : (ax_dt (ax_T 169)).lookup 141 = some (.ireturn, 1, 0, 0, 0) := by decide +kernel
theorem l169_142 : (ax_dt (ax_T 169)).lookup 142 = some (.iconst 0, 1, 0, 0, 0) := by decide +kernel
theorem l169_143 : (ax_dt (ax_T 169)).lookup 143 = some (.ireturn, 1, 0, 0, 0) := by decide +kernel
noncomputable def F_X11_sizeOf (v1 : Int) (μ : bM) : Option (Int) := bG (0 ≤ v1 ∧ v1 < 6400) (if (μ 86 v1.toNat) = 5 then some (2) else if (μ 86 v1.toNat) = 6 then some (4) else if (μ 86 v1.toNat) = 7 then some (8) else if (μ 86 v1.toNat) = 8 then bG (0 ≤ v1 ∧ v1 < 6400) (bG (bR ((μ 89 v1.toNat) + 1)) (some (((μ 89 v1.toNat) + 1)))) else if (μ 86 v1.toNat) = 9 then some (0) else if (μ 86 v1.toNat) = 10 then bG (0 ≤ v1 ∧ v1 < 6400) (bG (bR ((μ 89 v1.toNat) + 1)) (some (((μ 89 v1.toNat) + 1)))) else if (μ 86 v1.toNat) = 11 then some (1) else if (μ 86 v1.toNat) = 12 then some (1) else if (μ 86 v1.toNat) = 13 then bG (0 ≤ v1 ∧ v1 < 6400) ((F_X11_signedBytes (μ 87 v1.toNat) μ).bind fun w5 => some (w5)) else if (μ 86 v1.toNat) = 14 then some (4) else if (μ 86 v1.toNat) = 15 then bG (0 ≤ v1 ∧ v1 < 6400) ((F_X11_rowBytes (μ 87 v1.toNat) μ).bind fun w7 => some (w7)) else if (μ 86 v1.toNat) = 16 then some (0) else if (μ 86 v1.toNat) = 17 then some (0) else if (μ 86 v1.toNat) = 18 then some (0) else if (μ 86 v1.toNat) = 19 then some (4) else if (μ 86 v1.toNat) = 20 then some (0) else if (μ 86 v1.toNat) = 21 then bG (bR (3200 * (μ 76 3))) (bG (bR (v1 - (3200 * (μ 76 3)))) (bG (0 ≤ (v1 - (3200 * (μ 76 3))) ∧ (v1 - (3200 * (μ 76 3))) < 3200) (some ((μ 102 (v1 - (3200 * (μ 76 3))).toNat))))) else some (0))
theorem r_X11_sizeOf {L : Nat} {xs : Nat → Int32} {d : Nat} {μ : bM}  (v1 : Int) (h1 : bR v1) : bD L xs (d + 1) 169 0 [(0, .ref 76), (1, bI v1)] [] μ ((F_X11_sizeOf v1 μ).bind (bPc μ)) := by
  have hr : ∀ r, (bPc μ) r = (bPc μ) r := fun _ => rfl
  unfold F_X11_sizeOf
  refine bD.ok fun hk => ?_
  refine b_s (pc' := 1) (lv1 := [(0, .ref 76), (1, bI v1)]) (st' := [.ref 76]) l169_0 (fun _ => rfl) ?_
  refine b_gp (q' := 86) (j := 10) l169_1 (by rfl) (by decide) (by decide) rfl hk rfl rfl (b_pc (pc' := 4) rfl ?_)
  refine b_s (pc' := 5) (lv1 := [(0, .ref 76), (1, bI v1)]) (st' := [bI v1, .ref 86]) l169_4 (fun _ => rfl) ?_
  refine b_g fun g29 => ?_
  refine b_ial l169_5 (by rfl) g29 (b_pc (pc' := 6) rfl ?_)
  refine b_tsw l169_6 (bO_i hk (by rfl)) (by decide) (by decide) (by decide) ?_
  refine b_pc (pc' := bTg [(5, 90), (6, 92), (7, 94), (8, 117), (9, 142), (10, 117), (11, 88), (12, 88), (13, 97), (14, 92), (15, 107), (16, 142), (17, 142), (18, 142), (19, 92), (20, 142), (21, 126)] 142 (μ 86 v1.toNat)) rfl ?_
  refine b_tg (fun c28 => ?_) (fun c28 => ?_)
  · refine b_s (pc' := 91) (lv1 := [(0, .ref 76), (1, bI v1)]) (st' := [bI 2]) l169_90 (fun _ => rfl) ?_
    exact b_reti l169_91 rfl (by decide) (hr _)
  · refine b_tg (fun c27 => ?_) (fun c27 => ?_)
    · refine b_s (pc' := 93) (lv1 := [(0, .ref 76), (1, bI v1)]) (st' := [bI 4]) l169_92 (fun _ => rfl) ?_
      exact b_reti l169_93 rfl (by decide) (hr _)
    · refine b_tg (fun c26 => ?_) (fun c26 => ?_)
      · refine b_bipush l169_94 (by decide) (b_pc (pc' := 96) rfl ?_)
        exact b_reti l169_96 rfl (by decide) (hr _)
      · refine b_tg (fun c25 => ?_) (fun c25 => ?_)
        · refine b_s (pc' := 118) (lv1 := [(0, .ref 76), (1, bI v1)]) (st' := [.ref 76]) l169_117 (fun _ => rfl) ?_
          refine b_gp (q' := 89) (j := 13) l169_118 (by rfl) (by decide) (by decide) rfl hk rfl rfl (b_pc (pc' := 121) rfl ?_)
          refine b_s (pc' := 122) (lv1 := [(0, .ref 76), (1, bI v1)]) (st' := [bI v1, .ref 89]) l169_121 (fun _ => rfl) ?_
          refine b_g fun g2 => ?_
          refine b_ial l169_122 (by rfl) g2 (b_pc (pc' := 123) rfl ?_)
          refine b_s (pc' := 124) (lv1 := [(0, .ref 76), (1, bI v1)]) (st' := [bI 1, bI (μ 89 v1.toNat)]) l169_123 (fun _ => rfl) ?_
          refine b_iadd l169_124 fun g1 => (b_pc (pc' := 125) rfl ?_)
          exact b_reti l169_125 rfl g1 (hr _)
        · refine b_tg (fun c24 => ?_) (fun c24 => ?_)
          · refine b_s (pc' := 143) (lv1 := [(0, .ref 76), (1, bI v1)]) (st' := [bI 0]) l169_142 (fun _ => rfl) ?_
            exact b_reti l169_143 rfl (by decide) (hr _)
          · refine b_tg (fun c23 => ?_) (fun c23 => ?_)
            · refine b_s (pc' := 118) (lv1 := [(0, .ref 76), (1, bI v1)]) (st' := [.ref 76]) l169_117 (fun _ => rfl) ?_
              refine b_gp (q' := 89) (j := 13) l169_118 (by rfl) (by decide) (by decide) rfl hk rfl rfl (b_pc (pc' := 121) rfl ?_)
              refine b_s (pc' := 122) (lv1 := [(0, .ref 76), (1, bI v1)]) (st' := [bI v1, .ref 89]) l169_121 (fun _ => rfl) ?_
              refine b_g fun g4 => ?_
              refine b_ial l169_122 (by rfl) g4 (b_pc (pc' := 123) rfl ?_)
              refine b_s (pc' := 124) (lv1 := [(0, .ref 76), (1, bI v1)]) (st' := [bI 1, bI (μ 89 v1.toNat)]) l169_123 (fun _ => rfl) ?_
              refine b_iadd l169_124 fun g3 => (b_pc (pc' := 125) rfl ?_)
              exact b_reti l169_125 rfl g3 (hr _)
            · refine b_tg (fun c22 => ?_) (fun c22 => ?_)
              · refine b_s (pc' := 89) (lv1 := [(0, .ref 76), (1, bI v1)]) (st' := [bI 1]) l169_88 (fun _ => rfl) ?_
                exact b_reti l169_89 rfl (by decide) (hr _)
              · refine b_tg (fun c21 => ?_) (fun c21 => ?_)
                · refine b_s (pc' := 89) (lv1 := [(0, .ref 76), (1, bI v1)]) (st' := [bI 1]) l169_88 (fun _ => rfl) ?_
                  exact b_reti l169_89 rfl (by decide) (hr _)
                · refine b_tg (fun c20 => ?_) (fun c20 => ?_)
                  · refine b_s (pc' := 98) (lv1 := [(0, .ref 76), (1, bI v1)]) (st' := [.ref 76]) l169_97 (fun _ => rfl) ?_
                    refine b_gp (q' := 87) (j := 11) l169_98 (by rfl) (by decide) (by decide) rfl hk rfl rfl (b_pc (pc' := 101) rfl ?_)
                    refine b_s (pc' := 102) (lv1 := [(0, .ref 76), (1, bI v1)]) (st' := [bI v1, .ref 87]) l169_101 (fun _ => rfl) ?_
                    refine b_g fun g6 => ?_
                    refine b_lal l169_102 (by rfl) g6 (b_pc (pc' := 103) rfl ?_)
                    refine b_cPi l169_103 rfl (fun _ => trivial) (Nat.le_of_ble_eq_true rfl) (Nat.le_of_ble_eq_true rfl) rfl (r_X11_signedBytes (μ 87 v1.toNat) (bO_l hk (by rfl))) fun w5 hw5 => b_pc (pc' := 106) rfl ?_
                    exact b_reti l169_106 rfl hw5 (hr _)
                  · refine b_tg (fun c19 => ?_) (fun c19 => ?_)
                    · refine b_s (pc' := 93) (lv1 := [(0, .ref 76), (1, bI v1)]) (st' := [bI 4]) l169_92 (fun _ => rfl) ?_
                      exact b_reti l169_93 rfl (by decide) (hr _)
                    · refine b_tg (fun c18 => ?_) (fun c18 => ?_)
                      · refine b_s (pc' := 108) (lv1 := [(0, .ref 76), (1, bI v1)]) (st' := [.ref 76]) l169_107 (fun _ => rfl) ?_
                        refine b_gp (q' := 87) (j := 11) l169_108 (by rfl) (by decide) (by decide) rfl hk rfl rfl (b_pc (pc' := 111) rfl ?_)
                        refine b_s (pc' := 112) (lv1 := [(0, .ref 76), (1, bI v1)]) (st' := [bI v1, .ref 87]) l169_111 (fun _ => rfl) ?_
                        refine b_g fun g8 => ?_
                        refine b_lal l169_112 (by rfl) g8 (b_pc (pc' := 113) rfl ?_)
                        refine b_cPi l169_113 rfl (fun _ => trivial) (Nat.le_of_ble_eq_true rfl) (Nat.le_of_ble_eq_true rfl) rfl (r_X11_rowBytes (μ 87 v1.toNat) (bO_l hk (by rfl))) fun w7 hw7 => b_pc (pc' := 116) rfl ?_
                        exact b_reti l169_116 rfl hw7 (hr _)
                      · refine b_tg (fun c17 => ?_) (fun c17 => ?_)
                        · refine b_s (pc' := 143) (lv1 := [(0, .ref 76), (1, bI v1)]) (st' := [bI 0]) l169_142 (fun _ => rfl) ?_
                          exact b_reti l169_143 rfl (by decide) (hr _)
                        · refine b_tg (fun c16 => ?_) (fun c16 => ?_)
                          · refine b_s (pc' := 143) (lv1 := [(0, .ref 76), (1, bI v1)]) (st' := [bI 0]) l169_142 (fun _ => rfl) ?_
                            exact b_reti l169_143 rfl (by decide) (hr _)
                          · refine b_tg (fun c15 => ?_) (fun c15 => ?_)
                            · refine b_s (pc' := 143) (lv1 := [(0, .ref 76), (1, bI v1)]) (st' := [bI 0]) l169_142 (fun _ => rfl) ?_
                              exact b_reti l169_143 rfl (by decide) (hr _)
                            · refine b_tg (fun c14 => ?_) (fun c14 => ?_)
                              · refine b_s (pc' := 93) (lv1 := [(0, .ref 76), (1, bI v1)]) (st' := [bI 4]) l169_92 (fun _ => rfl) ?_
                                exact b_reti l169_93 rfl (by decide) (hr _)
                              · refine b_tg (fun c13 => ?_) (fun c13 => ?_)
                                · refine b_s (pc' := 143) (lv1 := [(0, .ref 76), (1, bI v1)]) (st' := [bI 0]) l169_142 (fun _ => rfl) ?_
                                  exact b_reti l169_143 rfl (by decide) (hr _)
                                · refine b_tg (fun c12 => ?_) (fun c12 => ?_)
                                  · refine b_s (pc' := 127) (lv1 := [(0, .ref 76), (1, bI v1)]) (st' := [.ref 76]) l169_126 (fun _ => rfl) ?_
                                    refine b_gp (q' := 102) (j := 26) l169_127 (by rfl) (by decide) (by decide) rfl hk rfl rfl (b_pc (pc' := 130) rfl ?_)
                                    refine b_s (pc' := 131) (lv1 := [(0, .ref 76), (1, bI v1)]) (st' := [bI v1, .ref 102]) l169_130 (fun _ => rfl) ?_
                                    refine b_sipush l169_131 (by decide) (b_pc (pc' := 134) rfl ?_)
                                    refine b_s (pc' := 135) (lv1 := [(0, .ref 76), (1, bI v1)]) (st' := [.ref 76, bI 3200, bI v1, .ref 102]) l169_134 (fun _ => rfl) ?_
                                    refine b_gi l169_135 (by rfl) (by decide) (by decide) rfl (b_pc (pc' := 138) rfl ?_)
                                    refine b_imul l169_138 fun g9 => (b_pc (pc' := 139) rfl ?_)
                                    refine b_isub l169_139 fun g10 => (b_pc (pc' := 140) rfl ?_)
                                    refine b_g fun g11 => ?_
                                    refine b_ial l169_140 (by rfl) g11 (b_pc (pc' := 141) rfl ?_)
                                    exact b_reti l169_141 rfl (bO_i hk (by rfl)) (hr _)
                                  · refine b_pc (pc' := 142) rfl ?_
                                    refine b_s (pc' := 143) (lv1 := [(0, .ref 76), (1, bI v1)]) (st' := [bI 0]) l169_142 (fun _ => rfl) ?_
                                    exact b_reti l169_143 rfl (by decide) (hr _)
/-! ETModel.reckon -/
theorem l170_0 : (ax_dt (ax_T 170)).lookup 0 = some (.iconst 0, 1, 0, 0, 0) := by decide +kernel
theorem l170_1 : (ax_dt (ax_T 170)).lookup 1 = some (.istore_n 1, 1, 0, 0, 0) := by decide +kernel
theorem l170_2 : (ax_dt (ax_T 170)).lookup 2 = some (.iconst 0, 1, 0, 0, 0) := by decide +kernel
theorem l170_3 : (ax_dt (ax_T 170)).lookup 3 = some (.istore_n 2, 1, 0, 0, 0) := by decide +kernel
theorem l170_4 : (ax_dt (ax_T 170)).lookup 4 = some (.iload_n 2, 1, 0, 0, 0) := by decide +kernel
theorem l170_5 : (ax_dt (ax_T 170)).lookup 5 = some (.aload_n 0, 1, 0, 0, 0) := by decide +kernel
theorem l170_6 : (ax_dt (ax_T 170)).lookup 6 = some (.getfield 196, 3, 9, 23, 0) := by decide +kernel
theorem l170_9 : (ax_dt (ax_T 170)).lookup 9 = some (.if_icmp .ge 123, 3, 0, 0, 0) := by decide +kernel
theorem l170_12 : (ax_dt (ax_T 170)).lookup 12 = some (.aload_n 0, 1, 0, 0, 0) := by decide +kernel
theorem l170_13 : (ax_dt (ax_T 170)).lookup 13 = some (.getfield 68, 3, 9, 24, 0) := by decide +kernel
theorem l170_16 : (ax_dt (ax_T 170)).lookup 16 = some (.iload_n 2, 1, 0, 0, 0) := by decide +kernel
theorem l170_17 : (ax_dt (ax_T 170)).lookup 17 = some (.iaload, 1, 0, 0, 0) := by decide +kernel
theorem l170_18 : (ax_dt (ax_T 170)).lookup 18 = some (.istore_n 3, 1, 0, 0, 0) := by decide +kernel
theorem l170_19 : (ax_dt (ax_T 170)).lookup 19 = some (.aload_n 0, 1, 0, 0, 0) := by decide +kernel
theorem l170_20 : (ax_dt (ax_T 170)).lookup 20 = some (.iload_n 3, 1, 0, 0, 0) := by decide +kernel
theorem l170_21 : (ax_dt (ax_T 170)).lookup 21 = some (.invokevirtual 140, 3, 140, 1, 0) := by decide +kernel
theorem l170_24 : (ax_dt (ax_T 170)).lookup 24 = some (.istore 4, 2, 0, 0, 0) := by decide +kernel
theorem l170_26 : (ax_dt (ax_T 170)).lookup 26 = some (.aload_n 0, 1, 0, 0, 0) := by decide +kernel
theorem l170_27 : (ax_dt (ax_T 170)).lookup 27 = some (.getfield 26, 3, 9, 8, 0) := by decide +kernel
theorem l170_30 : (ax_dt (ax_T 170)).lookup 30 = some (.iload 4, 2, 0, 0, 0) := by decide +kernel
theorem l170_32 : (ax_dt (ax_T 170)).lookup 32 = some (.iaload, 1, 0, 0, 0) := by decide +kernel
theorem l170_33 : (ax_dt (ax_T 170)).lookup 33 = some (.iconst (-1), 1, 0, 0, 0) := by decide +kernel
theorem l170_34 : (ax_dt (ax_T 170)).lookup 34 = some (.if_icmp .ne 8, 3, 0, 0, 0) := by decide +kernel
theorem l170_37 : (ax_dt (ax_T 170)).lookup 37 = some (.bipush 11, 2, 0, 0, 0) := by decide +kernel
theorem l170_39 : (ax_dt (ax_T 170)).lookup 39 = some (.goto 4, 3, 0, 0, 0) := by decide +kernel
theorem l170_42 : (ax_dt (ax_T 170)).lookup 42 = some (.iload_n 1, 1, 0, 0, 0) := by decide +kernel
theorem l170_43 : (ax_dt (ax_T 170)).lookup 43 = some (.istore_n 1, 1, 0, 0, 0) := by decide +kernel
theorem l170_44 : (ax_dt (ax_T 170)).lookup 44 = some (.aload_n 0, 1, 0, 0, 0) := by decide +kernel
theorem l170_45 : (ax_dt (ax_T 170)).lookup 45 = some (.getfield 86, 3, 9, 33, 0) := by decide +kernel
theorem l170_48 : (ax_dt (ax_T 170)).lookup 48 = some (.iload_n 3, 1, 0, 0, 0) := by decide +kernel
theorem l170_49 : (ax_dt (ax_T 170)).lookup 49 = some (.iload_n 1, 1, 0, 0, 0) := by decide +kernel
theorem l170_50 : (ax_dt (ax_T 170)).lookup 50 = some (.iastore, 1, 0, 0, 0) := by decide +kernel
theorem l170_51 : (ax_dt (ax_T 170)).lookup 51 = some (.iload_n 1, 1, 0, 0, 0) := by decide +kernel
theorem l170_52 : (ax_dt (ax_T 170)).lookup 52 = some (.aload_n 0, 1, 0, 0, 0) := by decide +kernel
theorem l170_53 : (ax_dt (ax_T 170)).lookup 53 = some (.getfield 74, 3, 9, 27, 0) := by decide +kernel
theorem l170_56 : (ax_dt (ax_T 170)).lookup 56 = some (.iload_n 3, 1, 0, 0, 0) := by decide +kernel
theorem l170_57 : (ax_dt (ax_T 170)).lookup 57 = some (.iaload, 1, 0, 0, 0) := by decide +kernel
theorem l170_58 : (ax_dt (ax_T 170)).lookup 58 = some (.i2l, 1, 0, 0, 0) := by decide +kernel
theorem l170_59 : (ax_dt (ax_T 170)).lookup 59 = some (.invokestatic 235, 3, 167, 1, 0) := by decide +kernel
theorem l170_62 : (ax_dt (ax_T 170)).lookup 62 = some (.iadd, 1, 0, 0, 0) := by decide +kernel
theorem l170_63 : (ax_dt (ax_T 170)).lookup 63 = some (.istore_n 1, 1, 0, 0, 0) := by decide +kernel
theorem l170_64 : (ax_dt (ax_T 170)).lookup 64 = some (.bipush 8, 2, 0, 0, 0) := by decide +kernel
theorem l170_66 : (ax_dt (ax_T 170)).lookup 66 = some (.iload 4, 2, 0, 0, 0) := by decide +kernel
theorem l170_68 : (ax_dt (ax_T 170)).lookup 68 = some (.imul, 1, 0, 0, 0) := by decide +kernel
theorem l170_69 : (ax_dt (ax_T 170)).lookup 69 = some (.istore 5, 2, 0, 0, 0) := by decide +kernel
theorem l170_71 : (ax_dt (ax_T 170)).lookup 71 = some (.iload 5, 2, 0, 0, 0) := by decide +kernel
theorem l170_73 : (ax_dt (ax_T 170)).lookup 73 = some (.bipush 8, 2, 0, 0, 0) := by decide +kernel
theorem l170_75 : (ax_dt (ax_T 170)).lookup 75 = some (.iload 4, 2, 0, 0, 0) := by decide +kernel
theorem l170_77 : (ax_dt (ax_T 170)).lookup 77 = some (.imul, 1, 0, 0, 0) := by decide +kernel
theorem l170_78 : (ax_dt (ax_T 170)).lookup 78 = some (.aload_n 0, 1, 0, 0, 0) := by decide +kernel
theorem l170_79 : (ax_dt (ax_T 170)).lookup 79 = some (.getfield 32, 3, 9, 10, 0) := by decide +kernel
theorem l170_82 : (ax_dt (ax_T 170)).lookup 82 = some (.iload 4, 2, 0, 0, 0) := by decide +kernel
theorem l170_84 : (ax_dt (ax_T 170)).lookup 84 = some (.iaload, 1, 0, 0, 0) := by decide +kernel
theorem l170_85 : (ax_dt (ax_T 170)).lookup 85 = some (.iadd, 1, 0, 0, 0) := by decide +kernel
theorem l170_86 : (ax_dt (ax_T 170)).lookup 86 = some (.if_icmp .ge 18, 3, 0, 0, 0) := by decide +kernel
theorem l170_89 : (ax_dt (ax_T 170)).lookup 89 = some (.iload_n 1, 1, 0, 0, 0) := by decide +kernel
theorem l170_90 : (ax_dt (ax_T 170)).lookup 90 = some (.aload_n 0, 1, 0, 0, 0) := by decide +kernel
theorem l170_91 : (ax_dt (ax_T 170)).lookup 91 = some (.iload 5, 2, 0, 0, 0) := by decide +kernel
theorem l170_93 : (ax_dt (ax_T 170)).lookup 93 = some (.invokevirtual 238, 3, 169, 1, 0) := by decide +kernel
theorem l170_96 : (ax_dt (ax_T 170)).lookup 96 = some (.iadd, 1, 0, 0, 0) := by decide +kernel
theorem l170_97 : (ax_dt (ax_T 170)).lookup 97 = some (.istore_n 1, 1, 0, 0, 0) := by decide +kernel
theorem l170_98 : (ax_dt (ax_T 170)).lookup 98 = some (.iinc 5 1, 3, 0, 0, 0) := by decide +kernel
theorem l170_101 : (ax_dt (ax_T 170)).lookup 101 = some (.goto (-30), 3, 0, 0, 0) := by decide +kernel
theorem l170_104 : (ax_dt (ax_T 170)).lookup 104 = some (.iload_n 1, 1, 0, 0, 0) := by decide +kernel
theorem l170_105 : (ax_dt (ax_T 170)).lookup 105 = some (.aload_n 0, 1, 0, 0, 0) := by decide +kernel
theorem l170_106 : (ax_dt (ax_T 170)).lookup 106 = some (.getfield 71, 3, 9, 25, 0) := by decide +kernel
theorem l170_109 : (ax_dt (ax_T 170)).lookup 109 = some (.iload_n 2, 1, 0, 0, 0) := by decide +kernel
theorem l170_110 : (ax_dt (ax_T 170)).lookup 110 = some (.iaload, 1, 0, 0, 0) := by decide +kernel
theorem l170_111 : (ax_dt (ax_T 170)).lookup 111 = some (.iadd, 1, 0, 0, 0) := by decide +kernel
theorem l170_112 : (ax_dt (ax_T 170)).lookup 112 = some (.istore_n 1, 1, 0, 0, 0) := by decide +kernel
theorem l170_113 : (ax_dt (ax_T 170)).lookup 113 = some (.aload_n 0, 1, 0, 0, 0) := by decide +kernel
theorem l170_114 : (ax_dt (ax_T 170)).lookup 114 = some (.getfield 92, 3, 9, 35, 0) := by decide +kernel
theorem l170_117 : (ax_dt (ax_T 170)).lookup 117 = some (.aload_n 0, 1, 0, 0, 0) := by decide +kernel
theorem l170_118 : (ax_dt (ax_T 170)).lookup 118 = some (.getfield 29, 3, 9, 9, 0) := by decide +kernel
theorem l170_121 : (ax_dt (ax_T 170)).lookup 121 = some (.iload 4, 2, 0, 0, 0) := by decide +kernel
theorem l170_123 : (ax_dt (ax_T 170)).lookup 123 = some (.iaload, 1, 0, 0, 0) := by decide +kernel
theorem l170_124 : (ax_dt (ax_T 170)).lookup 124 = some (.iload_n 1, 1, 0, 0, 0) := by decide +kernel
theorem l170_125 : (ax_dt (ax_T 170)).lookup 125 = some (.iastore, 1, 0, 0, 0) := by decide +kernel
theorem l170_126 : (ax_dt (ax_T 170)).lookup 126 = some (.iinc 2 1, 3, 0, 0, 0) := by decide +kernel
theorem l170_129 : (ax_dt (ax_T 170)).lookup 129 = some (.goto (-125), 3, 0, 0, 0) := by decide +kernel
theorem l170_132 : (ax_dt (ax_T 170)).lookup 132 = some (.return_, 1, 0, 0, 0) := by decide +kernel
noncomputable def F_X11_reckon_104 (v1 : Int) (v2 : Int) (v4 : Int) (μ : bM) : Option ((Int × Int × bM) ⊕ (Int × bM)) := bG (0 ≤ v2 ∧ v2 < 400) (bG (bR (v1 + (μ 96 v2.toNat))) (bG (0 ≤ v4 ∧ v4 < 800) (bG (0 ≤ (μ 83 v4.toNat) ∧ (μ 83 v4.toNat) < 6) (bG (bR (v2 + 1)) (some (.inl ((v1 + (μ 96 v2.toNat)), (v2 + 1), (bset μ 103 (μ 83 v4.toNat).toNat (v1 + (μ 96 v2.toNat))))))))))
noncomputable def F_X11_reckon_71 (v2 : Int) (v4 : Int) (μ : bM) (v1 : Int) (v5 : Int) : Option ((Int × Int) ⊕ ((Int × Int × bM) ⊕ (Int × bM))) := bG (bR (8 * v4)) (bG (0 ≤ v4 ∧ v4 < 800) (bG (bR ((8 * v4) + (μ 84 v4.toNat))) (if ((8 * v4) + (μ 84 v4.toNat)) ≤ v5 then bUp (F_X11_reckon_104 v1 v2 v4 μ) else (F_X11_sizeOf v5 μ).bind fun w4 => bG (bR (v1 + w4)) (bG (bR (v5 + 1)) (some (.inl ((v1 + w4), (v5 + 1))))))))
noncomputable def F_X11_reckon_43 (v2 : Int) (v3 : Int) (v4 : Int) (y0 : Int) (μ : bM) : Option ((Int × Int × bM) ⊕ (Int × bM)) := bG (0 ≤ v3 ∧ v3 < 400) (bG (0 ≤ v3 ∧ v3 < 400) ((F_X11_rowBytes ((bset μ 101 v3.toNat y0) 97 v3.toNat) (bset μ 101 v3.toNat y0)).bind fun w2 => bG (bR (y0 + w2)) (bG (bR (8 * v4)) (bLoop (fun z => F_X11_reckon_71 v2 v4 (bset μ 101 v3.toNat y0) z.1 z.2) ((y0 + w2), (8 * v4))))))
noncomputable def F_X11_reckon_4 (v1 : Int) (v2 : Int) (μ : bM) : Option ((Int × Int × bM) ⊕ (Int × bM)) := if (μ 76 23) ≤ v2 then some (.inr (0, μ)) else bG (0 ≤ v2 ∧ v2 < 400) ((F_X11_at (μ 95 v2.toNat) μ).bind fun w2 => bG (0 ≤ w2 ∧ w2 < 800) (if ¬ (μ 82 w2.toNat) = (-1) then F_X11_reckon_43 v2 (μ 95 v2.toNat) w2 v1 μ else F_X11_reckon_43 v2 (μ 95 v2.toNat) w2 11 μ))
noncomputable def F_X11_reckon (μ : bM) : Option (Int × bM) := bLoop (fun z => F_X11_reckon_4 z.1 z.2.1 z.2.2) (0, 0, μ)
theorem p_X11_reckon_104 {L : Nat} {xs : Nat → Int32} {d : Nat} {μ : bM}  {κ : ((Int × Int × bM) ⊕ (Int × bM)) → Option bX} (hr : ∀ r : Int × bM, κ (.inr r) = (bMc) r) (H4 : ∀ (v1 : Int) (v2 : Int) (μ : bM), bR v1 → bR v2 → bD L xs (d + 2) 170 4 [(0, .ref 76), (1, bI v1), (2, bI v2)] [] μ (κ (.inl (v1, v2, μ))))  {v1 : Int} (h1 : bR v1) {v2 : Int} (h2 : bR v2) {v4 : Int} (h4 : bR v4) : bD L xs (d + 2) 170 104 [(0, .ref 76), (1, bI v1), (2, bI v2), (4, bI v4)] [] μ ((F_X11_reckon_104 v1 v2 v4 μ).bind κ) := by
  unfold F_X11_reckon_104
  refine bD.ok fun hk => ?_
  refine b_s (pc' := 105) (lv1 := [(0, .ref 76), (1, bI v1), (2, bI v2), (4, bI v4)]) (st' := [bI v1]) l170_104 (fun _ => rfl) ?_
  refine b_s (pc' := 106) (lv1 := [(0, .ref 76), (1, bI v1), (2, bI v2), (4, bI v4)]) (st' := [.ref 76, bI v1]) l170_105 (fun _ => rfl) ?_
  refine b_gp (q' := 96) (j := 20) l170_106 (by rfl) (by decide) (by decide) rfl hk rfl rfl (b_pc (pc' := 109) rfl ?_)
  refine b_s (pc' := 110) (lv1 := [(0, .ref 76), (1, bI v1), (2, bI v2), (4, bI v4)]) (st' := [bI v2, .ref 96, bI v1]) l170_109 (fun _ => rfl) ?_
  refine b_g fun g6 => ?_
  refine b_ial l170_110 (by rfl) g6 (b_pc (pc' := 111) rfl ?_)
  refine b_iadd l170_111 fun g1 => (b_pc (pc' := 112) rfl ?_)
  refine b_w (pc' := 113) (lv1 := ax_st1 [(0, .ref 76), (1, bI v1), (2, bI v2), (4, bI v4)] 1 (bI (v1 + (μ 96 v2.toNat)))) (lv' := [(0, .ref 76), (1, bI (v1 + (μ 96 v2.toNat))), (2, bI v2), (4, bI v4)]) (st' := []) l170_112 (fun _ => rfl) (bSb rfl (bSb rfl (bSb rfl (bSb rfl bSn)))) ?_
  refine b_s (pc' := 114) (lv1 := [(0, .ref 76), (1, bI (v1 + (μ 96 v2.toNat))), (2, bI v2), (4, bI v4)]) (st' := [.ref 76]) l170_113 (fun _ => rfl) ?_
  refine b_gp (q' := 103) (j := 27) l170_114 (by rfl) (by decide) (by decide) rfl hk rfl rfl (b_pc (pc' := 117) rfl ?_)
  refine b_s (pc' := 118) (lv1 := [(0, .ref 76), (1, bI (v1 + (μ 96 v2.toNat))), (2, bI v2), (4, bI v4)]) (st' := [.ref 76, .ref 103]) l170_117 (fun _ => rfl) ?_
  refine b_gp (q' := 83) (j := 7) l170_118 (by rfl) (by decide) (by decide) rfl hk rfl rfl (b_pc (pc' := 121) rfl ?_)
  refine b_s (pc' := 123) (lv1 := [(0, .ref 76), (1, bI (v1 + (μ 96 v2.toNat))), (2, bI v2), (4, bI v4)]) (st' := [bI v4, .ref 83, .ref 103]) l170_121 (fun _ => rfl) ?_
  refine b_g fun g5 => ?_
  refine b_ial l170_123 (by rfl) g5 (b_pc (pc' := 124) rfl ?_)
  refine b_s (pc' := 125) (lv1 := [(0, .ref 76), (1, bI (v1 + (μ 96 v2.toNat))), (2, bI v2), (4, bI v4)]) (st' := [bI (v1 + (μ 96 v2.toNat)), bI (μ 83 v4.toNat), .ref 103]) l170_124 (fun _ => rfl) ?_
  refine b_g fun g4 => ?_
  refine b_ias l170_125 (by rfl) g4 g1 (bD.ok fun hk2 => b_pc (pc' := 126) rfl ?_)
  refine b_inc (lv' := [(0, .ref 76), (1, bI (v1 + (μ 96 v2.toNat))), (2, bI (v2 + 1))]) l170_126 rfl (by decide +kernel) (bSb rfl (bSb rfl (bSb rfl bSn))) fun g3 => (b_pc (pc' := 129) rfl ?_)
  refine b_s (pc' := 4) (lv1 := [(0, .ref 76), (1, bI (v1 + (μ 96 v2.toNat))), (2, bI (v2 + 1))]) (st' := []) l170_129 (fun _ => rfl) ?_
  refine bD.wk (lv' := [(0, .ref 76), (1, bI (v1 + (μ 96 v2.toNat))), (2, bI (v2 + 1))]) (bSb rfl (bSb rfl (bSb rfl bSn))) ?_
  exact H4 (v1 + (μ 96 v2.toNat)) (v2 + 1) (bset μ 103 (μ 83 v4.toNat).toNat (v1 + (μ 96 v2.toNat))) g1 g3
theorem q_X11_reckon_71 {L : Nat} {xs : Nat → Int32} {d : Nat} {μ : bM} {v2 : Int} {v4 : Int} {κ : ((Int × Int) ⊕ ((Int × Int × bM) ⊕ (Int × bM))) → Option bX} (hr : ∀ r : Int × bM, κ (.inr (.inr r)) = (bMc) r) (H4 : ∀ (v1 : Int) (v2 : Int) (μ : bM), bR v1 → bR v2 → bD L xs (d + 2) 170 4 [(0, .ref 76), (1, bI v1), (2, bI v2)] [] μ (κ (.inr (.inl (v1, v2, μ))))) (H71 : ∀ (v1 : Int) (v5 : Int), bR v1 → bR v5 → bD L xs (d + 2) 170 71 [(0, .ref 76), (1, bI v1), (2, bI v2), (4, bI v4), (5, bI v5)] [] μ (κ (.inl (v1, v5))))  {v1 : Int} (h1 : bR v1) (h2 : bR v2) (h4 : bR v4) {v5 : Int} (h5 : bR v5) : bD L xs (d + 2) 170 71 [(0, .ref 76), (1, bI v1), (2, bI v2), (4, bI v4), (5, bI v5)] [] μ ((F_X11_reckon_71 v2 v4 μ v1 v5).bind κ) := by
  unfold F_X11_reckon_71
  refine bD.ok fun hk => ?_
  refine b_s (pc' := 73) (lv1 := [(0, .ref 76), (1, bI v1), (2, bI v2), (4, bI v4), (5, bI v5)]) (st' := [bI v5]) l170_71 (fun _ => rfl) ?_
  refine b_bipush l170_73 (by decide) (b_pc (pc' := 75) rfl ?_)
  refine b_s (pc' := 77) (lv1 := [(0, .ref 76), (1, bI v1), (2, bI v2), (4, bI v4), (5, bI v5)]) (st' := [bI v4, bI 8, bI v5]) l170_75 (fun _ => rfl) ?_
  refine b_imul l170_77 fun g1 => (b_pc (pc' := 78) rfl ?_)
  refine b_s (pc' := 79) (lv1 := [(0, .ref 76), (1, bI v1), (2, bI v2), (4, bI v4), (5, bI v5)]) (st' := [.ref 76, bI (8 * v4), bI v5]) l170_78 (fun _ => rfl) ?_
  refine b_gp (q' := 84) (j := 8) l170_79 (by rfl) (by decide) (by decide) rfl hk rfl rfl (b_pc (pc' := 82) rfl ?_)
  refine b_s (pc' := 84) (lv1 := [(0, .ref 76), (1, bI v1), (2, bI v2), (4, bI v4), (5, bI v5)]) (st' := [bI v4, .ref 84, bI (8 * v4), bI v5]) l170_82 (fun _ => rfl) ?_
  refine b_g fun g7 => ?_
  refine b_ial l170_84 (by rfl) g7 (b_pc (pc' := 85) rfl ?_)
  refine b_iadd l170_85 fun g2 => (b_pc (pc' := 86) rfl ?_)
  refine b_ige (pt := 104) l170_86 h5 g2 (by decide) rfl (fun c3 => ?_) (fun c3 => b_pc (pc' := 89) rfl ?_)
  · refine b_up (fun _ => rfl) ?_
    refine bD.wk (lv' := [(0, .ref 76), (1, bI v1), (2, bI v2), (4, bI v4)]) (bSb rfl (bSb rfl (bSb rfl (bSb rfl bSn)))) ?_
    exact p_X11_reckon_104 hr H4 h1 h2 h4
  · refine b_s (pc' := 90) (lv1 := [(0, .ref 76), (1, bI v1), (2, bI v2), (4, bI v4), (5, bI v5)]) (st' := [bI v1]) l170_89 (fun _ => rfl) ?_
    refine b_s (pc' := 91) (lv1 := [(0, .ref 76), (1, bI v1), (2, bI v2), (4, bI v4), (5, bI v5)]) (st' := [.ref 76, bI v1]) l170_90 (fun _ => rfl) ?_
    refine b_s (pc' := 93) (lv1 := [(0, .ref 76), (1, bI v1), (2, bI v2), (4, bI v4), (5, bI v5)]) (st' := [bI v5, .ref 76, bI v1]) l170_91 (fun _ => rfl) ?_
    refine b_cPi l170_93 rfl (b_rc (ci := 9) (by rfl) (by decide) (by decide +kernel)) (Nat.le_of_ble_eq_true rfl) (Nat.le_of_ble_eq_true rfl) rfl (r_X11_sizeOf v5 h5) fun w4 hw4 => b_pc (pc' := 96) rfl ?_
    refine b_iadd l170_96 fun g5 => (b_pc (pc' := 97) rfl ?_)
    refine b_w (pc' := 98) (lv1 := ax_st1 [(0, .ref 76), (1, bI v1), (2, bI v2), (4, bI v4), (5, bI v5)] 1 (bI (v1 + w4))) (lv' := [(0, .ref 76), (1, bI (v1 + w4)), (2, bI v2), (4, bI v4), (5, bI v5)]) (st' := []) l170_97 (fun _ => rfl) (bSb rfl (bSb rfl (bSb rfl (bSb rfl (bSb rfl bSn))))) ?_
    refine b_inc (lv' := [(0, .ref 76), (1, bI (v1 + w4)), (2, bI v2), (4, bI v4), (5, bI (v5 + 1))]) l170_98 rfl (by decide +kernel) (bSb rfl (bSb rfl (bSb rfl (bSb rfl (bSb rfl bSn))))) fun g6 => (b_pc (pc' := 101) rfl ?_)
    refine b_s (pc' := 71) (lv1 := [(0, .ref 76), (1, bI (v1 + w4)), (2, bI v2), (4, bI v4), (5, bI (v5 + 1))]) (st' := []) l170_101 (fun _ => rfl) ?_
    refine bD.wk (lv' := [(0, .ref 76), (1, bI (v1 + w4)), (2, bI v2), (4, bI v4), (5, bI (v5 + 1))]) (bSb rfl (bSb rfl (bSb rfl (bSb rfl (bSb rfl bSn))))) ?_
    exact H71 (v1 + w4) (v5 + 1) g5 g6
theorem p_X11_reckon_71 {L : Nat} {xs : Nat → Int32} {d : Nat} {μ : bM}  {κ : ((Int × Int × bM) ⊕ (Int × bM)) → Option bX} (hr : ∀ r : Int × bM, κ (.inr r) = (bMc) r) (H4 : ∀ (v1 : Int) (v2 : Int) (μ : bM), bR v1 → bR v2 → bD L xs (d + 2) 170 4 [(0, .ref 76), (1, bI v1), (2, bI v2)] [] μ (κ (.inl (v1, v2, μ))))  {v1 : Int} (h1 : bR v1) {v2 : Int} (h2 : bR v2) {v4 : Int} (h4 : bR v4) {v5 : Int} (h5 : bR v5) : bD L xs (d + 2) 170 71 [(0, .ref 76), (1, bI v1), (2, bI v2), (4, bI v4), (5, bI v5)] [] μ ((bLoop (fun z => F_X11_reckon_71 v2 v4 μ z.1 z.2) (v1, v5)).bind κ) :=
  b_loop (fun z => [(0, .ref 76), (1, bI z.1), (2, bI v2), (4, bI v4), (5, bI z.2)]) (fun z => μ) (fun z => bR z.1 ∧ bR z.2) (fun κ' hκ HH z hz => q_X11_reckon_71 (κ := κ') (fun r => (hκ _).trans (hr r)) (fun a1 a2 am b1 b2 => b_eq (hκ _) (H4 a1 a2 am b1 b2)) (fun a1 a5 b1 b5 => HH (a1, a5) ⟨b1, b5⟩)  hz.1 h2 h4 hz.2) (v1, v5) ⟨h1, h5⟩
theorem p_X11_reckon_43 {L : Nat} {xs : Nat → Int32} {d : Nat} {μ : bM}  {κ : ((Int × Int × bM) ⊕ (Int × bM)) → Option bX} (hr : ∀ r : Int × bM, κ (.inr r) = (bMc) r) (H4 : ∀ (v1 : Int) (v2 : Int) (μ : bM), bR v1 → bR v2 → bD L xs (d + 2) 170 4 [(0, .ref 76), (1, bI v1), (2, bI v2)] [] μ (κ (.inl (v1, v2, μ))))  {v2 : Int} (h2 : bR v2) {v3 : Int} (h3 : bR v3) {v4 : Int} (h4 : bR v4) {y0 : Int} (hy0 : bR y0) : bD L xs (d + 2) 170 43 [(0, .ref 76), (2, bI v2), (3, bI v3), (4, bI v4)] [bI y0] μ ((F_X11_reckon_43 v2 v3 v4 y0 μ).bind κ) := by
  unfold F_X11_reckon_43
  refine bD.ok fun hk => ?_
  refine b_w (pc' := 44) (lv1 := ax_st1 [(0, .ref 76), (2, bI v2), (3, bI v3), (4, bI v4)] 1 (bI y0)) (lv' := [(0, .ref 76), (1, bI y0), (2, bI v2), (3, bI v3), (4, bI v4)]) (st' := []) l170_43 (fun _ => rfl) (bSb rfl (bSb rfl (bSb rfl (bSb rfl (bSb rfl bSn))))) ?_
  refine b_s (pc' := 45) (lv1 := [(0, .ref 76), (1, bI y0), (2, bI v2), (3, bI v3), (4, bI v4)]) (st' := [.ref 76]) l170_44 (fun _ => rfl) ?_
  refine b_gp (q' := 101) (j := 25) l170_45 (by rfl) (by decide) (by decide) rfl hk rfl rfl (b_pc (pc' := 48) rfl ?_)
  refine b_s (pc' := 49) (lv1 := [(0, .ref 76), (1, bI y0), (2, bI v2), (3, bI v3), (4, bI v4)]) (st' := [bI v3, .ref 101]) l170_48 (fun _ => rfl) ?_
  refine b_s (pc' := 50) (lv1 := [(0, .ref 76), (1, bI y0), (2, bI v2), (3, bI v3), (4, bI v4)]) (st' := [bI y0, bI v3, .ref 101]) l170_49 (fun _ => rfl) ?_
  refine b_g fun g6 => ?_
  refine b_ias l170_50 (by rfl) g6 hy0 (bD.ok fun hk1 => b_pc (pc' := 51) rfl ?_)
  refine b_s (pc' := 52) (lv1 := [(0, .ref 76), (1, bI y0), (2, bI v2), (3, bI v3), (4, bI v4)]) (st' := [bI y0]) l170_51 (fun _ => rfl) ?_
  refine b_s (pc' := 53) (lv1 := [(0, .ref 76), (1, bI y0), (2, bI v2), (3, bI v3), (4, bI v4)]) (st' := [.ref 76, bI y0]) l170_52 (fun _ => rfl) ?_
  refine b_gp (q' := 97) (j := 21) l170_53 (by rfl) (by decide) (by decide) rfl hk1 rfl rfl (b_pc (pc' := 56) rfl ?_)
  refine b_s (pc' := 57) (lv1 := [(0, .ref 76), (1, bI y0), (2, bI v2), (3, bI v3), (4, bI v4)]) (st' := [bI v3, .ref 97, bI y0]) l170_56 (fun _ => rfl) ?_
  refine b_g fun g5 => ?_
  refine b_ial l170_57 (by rfl) g5 (b_pc (pc' := 58) rfl ?_)
  refine b_i2l l170_58 (bO_i hk1 (by rfl)) (b_pc (pc' := 59) rfl ?_)
  refine b_cPi l170_59 rfl (fun _ => trivial) (Nat.le_of_ble_eq_true rfl) (Nat.le_of_ble_eq_true rfl) rfl (r_X11_rowBytes ((bset μ 101 v3.toNat y0) 97 v3.toNat) (bR_L (bO_i hk1 (by rfl)))) fun w2 hw2 => b_pc (pc' := 62) rfl ?_
  refine b_iadd l170_62 fun g3 => (b_pc (pc' := 63) rfl ?_)
  refine b_w (pc' := 64) (lv1 := ax_st1 [(0, .ref 76), (1, bI y0), (2, bI v2), (3, bI v3), (4, bI v4)] 1 (bI (y0 + w2))) (lv' := [(0, .ref 76), (1, bI (y0 + w2)), (2, bI v2), (4, bI v4)]) (st' := []) l170_63 (fun _ => rfl) (bSb rfl (bSb rfl (bSb rfl (bSb rfl bSn)))) ?_
  refine b_bipush l170_64 (by decide) (b_pc (pc' := 66) rfl ?_)
  refine b_s (pc' := 68) (lv1 := [(0, .ref 76), (1, bI (y0 + w2)), (2, bI v2), (4, bI v4)]) (st' := [bI v4, bI 8]) l170_66 (fun _ => rfl) ?_
  refine b_imul l170_68 fun g4 => (b_pc (pc' := 69) rfl ?_)
  refine b_w (pc' := 71) (lv1 := ax_st1 [(0, .ref 76), (1, bI (y0 + w2)), (2, bI v2), (4, bI v4)] 5 (bI (8 * v4))) (lv' := [(0, .ref 76), (1, bI (y0 + w2)), (2, bI v2), (4, bI v4), (5, bI (8 * v4))]) (st' := []) l170_69 (fun _ => rfl) (bSb rfl (bSb rfl (bSb rfl (bSb rfl (bSb rfl bSn))))) ?_
  refine bD.wk (lv' := [(0, .ref 76), (1, bI (y0 + w2)), (2, bI v2), (4, bI v4), (5, bI (8 * v4))]) (bSb rfl (bSb rfl (bSb rfl (bSb rfl (bSb rfl bSn))))) ?_
  exact p_X11_reckon_71 hr H4 g3 h2 h4 g4
theorem q_X11_reckon_4 {L : Nat} {xs : Nat → Int32} {d : Nat} {μ : bM}  {κ : ((Int × Int × bM) ⊕ (Int × bM)) → Option bX} (hr : ∀ r : Int × bM, κ (.inr r) = (bMc) r) (H4 : ∀ (v1 : Int) (v2 : Int) (μ : bM), bR v1 → bR v2 → bD L xs (d + 2) 170 4 [(0, .ref 76), (1, bI v1), (2, bI v2)] [] μ (κ (.inl (v1, v2, μ))))  {v1 : Int} (h1 : bR v1) {v2 : Int} (h2 : bR v2) : bD L xs (d + 2) 170 4 [(0, .ref 76), (1, bI v1), (2, bI v2)] [] μ ((F_X11_reckon_4 v1 v2 μ).bind κ) := by
  unfold F_X11_reckon_4
  refine bD.ok fun hk => ?_
  refine b_s (pc' := 5) (lv1 := [(0, .ref 76), (1, bI v1), (2, bI v2)]) (st' := [bI v2]) l170_4 (fun _ => rfl) ?_
  refine b_s (pc' := 6) (lv1 := [(0, .ref 76), (1, bI v1), (2, bI v2)]) (st' := [.ref 76, bI v2]) l170_5 (fun _ => rfl) ?_
  refine b_gi l170_6 (by rfl) (by decide) (by decide) rfl (b_pc (pc' := 9) rfl ?_)
  refine b_ige (pt := 132) l170_9 h2 (bO_f hk (ci := 9) (by rfl) rfl) (by decide) rfl (fun c1 => ?_) (fun c1 => b_pc (pc' := 12) rfl ?_)
  · exact b_retv l170_132 rfl (hr _)
  · refine b_s (pc' := 13) (lv1 := [(0, .ref 76), (1, bI v1), (2, bI v2)]) (st' := [.ref 76]) l170_12 (fun _ => rfl) ?_
    refine b_gp (q' := 95) (j := 19) l170_13 (by rfl) (by decide) (by decide) rfl hk rfl rfl (b_pc (pc' := 16) rfl ?_)
    refine b_s (pc' := 17) (lv1 := [(0, .ref 76), (1, bI v1), (2, bI v2)]) (st' := [bI v2, .ref 95]) l170_16 (fun _ => rfl) ?_
    refine b_g fun g5 => ?_
    refine b_ial l170_17 (by rfl) g5 (b_pc (pc' := 18) rfl ?_)
    refine b_w (pc' := 19) (lv1 := ax_st1 [(0, .ref 76), (1, bI v1), (2, bI v2)] 3 (bI (μ 95 v2.toNat))) (lv' := [(0, .ref 76), (1, bI v1), (2, bI v2), (3, bI (μ 95 v2.toNat))]) (st' := []) l170_18 (fun _ => rfl) (bSb rfl (bSb rfl (bSb rfl (bSb rfl bSn)))) ?_
    refine b_s (pc' := 20) (lv1 := [(0, .ref 76), (1, bI v1), (2, bI v2), (3, bI (μ 95 v2.toNat))]) (st' := [.ref 76]) l170_19 (fun _ => rfl) ?_
    refine b_s (pc' := 21) (lv1 := [(0, .ref 76), (1, bI v1), (2, bI v2), (3, bI (μ 95 v2.toNat))]) (st' := [bI (μ 95 v2.toNat), .ref 76]) l170_20 (fun _ => rfl) ?_
    refine b_cPi l170_21 rfl (b_rc (ci := 9) (by rfl) (by decide) (by decide +kernel)) (Nat.le_of_ble_eq_true rfl) (Nat.le_of_ble_eq_true rfl) rfl (r_X11_at (μ 95 v2.toNat) (bO_i hk (by rfl))) fun w2 hw2 => b_pc (pc' := 24) rfl ?_
    refine b_w (pc' := 26) (lv1 := ax_st1 [(0, .ref 76), (1, bI v1), (2, bI v2), (3, bI (μ 95 v2.toNat))] 4 (bI w2)) (lv' := [(0, .ref 76), (1, bI v1), (2, bI v2), (3, bI (μ 95 v2.toNat)), (4, bI w2)]) (st' := []) l170_24 (fun _ => rfl) (bSb rfl (bSb rfl (bSb rfl (bSb rfl (bSb rfl bSn))))) ?_
    refine b_s (pc' := 27) (lv1 := [(0, .ref 76), (1, bI v1), (2, bI v2), (3, bI (μ 95 v2.toNat)), (4, bI w2)]) (st' := [.ref 76]) l170_26 (fun _ => rfl) ?_
    refine b_gp (q' := 82) (j := 6) l170_27 (by rfl) (by decide) (by decide) rfl hk rfl rfl (b_pc (pc' := 30) rfl ?_)
    refine b_s (pc' := 32) (lv1 := [(0, .ref 76), (1, bI v1), (2, bI v2), (3, bI (μ 95 v2.toNat)), (4, bI w2)]) (st' := [bI w2, .ref 82]) l170_30 (fun _ => rfl) ?_
    refine b_g fun g4 => ?_
    refine b_ial l170_32 (by rfl) g4 (b_pc (pc' := 33) rfl ?_)
    refine b_s (pc' := 34) (lv1 := [(0, .ref 76), (1, bI v1), (2, bI v2), (3, bI (μ 95 v2.toNat)), (4, bI w2)]) (st' := [bI (-1), bI (μ 82 w2.toNat)]) l170_33 (fun _ => rfl) ?_
    refine b_ine (pt := 42) l170_34 (bO_i hk (by rfl)) (by decide) (by decide) rfl (fun c3 => ?_) (fun c3 => b_pc (pc' := 37) rfl ?_)
    · refine b_s (pc' := 43) (lv1 := [(0, .ref 76), (1, bI v1), (2, bI v2), (3, bI (μ 95 v2.toNat)), (4, bI w2)]) (st' := [bI v1]) l170_42 (fun _ => rfl) ?_
      refine bD.wk (lv' := [(0, .ref 76), (2, bI v2), (3, bI (μ 95 v2.toNat)), (4, bI w2)]) (bSb rfl (bSb rfl (bSb rfl (bSb rfl bSn)))) ?_
      exact p_X11_reckon_43 hr H4 h2 (bO_i hk (by rfl)) hw2 h1
    · refine b_bipush l170_37 (by decide) (b_pc (pc' := 39) rfl ?_)
      refine b_s (pc' := 43) (lv1 := [(0, .ref 76), (1, bI v1), (2, bI v2), (3, bI (μ 95 v2.toNat)), (4, bI w2)]) (st' := [bI 11]) l170_39 (fun _ => rfl) ?_
      refine bD.wk (lv' := [(0, .ref 76), (2, bI v2), (3, bI (μ 95 v2.toNat)), (4, bI w2)]) (bSb rfl (bSb rfl (bSb rfl (bSb rfl bSn)))) ?_
      exact p_X11_reckon_43 hr H4 h2 (bO_i hk (by rfl)) hw2 (by decide)
theorem p_X11_reckon_4 {L : Nat} {xs : Nat → Int32} {d : Nat} {μ : bM}  {κ : (Int × bM) → Option bX} (hr : ∀ r : Int × bM, κ r = (bMc) r)  {v1 : Int} (h1 : bR v1) {v2 : Int} (h2 : bR v2) : bD L xs (d + 2) 170 4 [(0, .ref 76), (1, bI v1), (2, bI v2)] [] μ ((bLoop (fun z => F_X11_reckon_4 z.1 z.2.1 z.2.2) (v1, v2, μ)).bind κ) :=
  b_loop (fun z => [(0, .ref 76), (1, bI z.1), (2, bI z.2.1)]) (fun z => z.2.2) (fun z => bR z.1 ∧ bR z.2.1) (fun κ' hκ HH z hz => q_X11_reckon_4 (κ := κ') (fun r => (hκ _).trans (hr r)) (fun a1 a2 am b1 b2 => HH (a1, a2, am) ⟨b1, b2⟩)  hz.1 hz.2) (v1, v2, μ) ⟨h1, h2⟩
theorem r_X11_reckon {L : Nat} {xs : Nat → Int32} {d : Nat} {μ : bM}   : bD L xs (d + 2) 170 0 [(0, .ref 76)] [] μ ((F_X11_reckon μ).bind (bMc)) := by
  have hr : ∀ r, (bMc) r = (bMc) r := fun _ => rfl
  unfold F_X11_reckon
  refine bD.ok fun hk => ?_
  refine b_s (pc' := 1) (lv1 := [(0, .ref 76)]) (st' := [bI 0]) l170_0 (fun _ => rfl) ?_
  refine b_w (pc' := 2) (lv1 := ax_st1 [(0, .ref 76)] 1 (bI 0)) (lv' := [(0, .ref 76), (1, bI 0)]) (st' := []) l170_1 (fun _ => rfl) (bSb rfl (bSb rfl bSn)) ?_
  refine b_s (pc' := 3) (lv1 := [(0, .ref 76), (1, bI 0)]) (st' := [bI 0]) l170_2 (fun _ => rfl) ?_
  refine b_w (pc' := 4) (lv1 := ax_st1 [(0, .ref 76), (1, bI 0)] 2 (bI 0)) (lv' := [(0, .ref 76), (1, bI 0), (2, bI 0)]) (st' := []) l170_3 (fun _ => rfl) (bSb rfl (bSb rfl (bSb rfl bSn))) ?_
  refine bD.wk (lv' := [(0, .ref 76), (1, bI 0), (2, bI 0)]) (bSb rfl (bSb rfl (bSb rfl bSn))) ?_
  exact p_X11_reckon_4 hr (by decide) (by decide)
/-! ETModel.layOut -/
theorem l171_0 : (ax_dt (ax_T 171)).lookup 0 = some (.aload_n 0, 1, 0, 0, 0) := by decide +kernel
theorem l171_1 : (ax_dt (ax_T 171)).lookup 1 = some (.invokevirtual 241, 3, 161, 0, 0) := by decide +kernel
theorem l171_4 : (ax_dt (ax_T 171)).lookup 4 = some (.aload_n 0, 1, 0, 0, 0) := by decide +kernel
theorem l171_5 : (ax_dt (ax_T 171)).lookup 5 = some (.invokevirtual 244, 3, 163, 0, 0) := by decide +kernel
theorem l171_8 : (ax_dt (ax_T 171)).lookup 8 = some (.aload_n 0, 1, 0, 0, 0) := by decide +kernel
theorem l171_9 : (ax_dt (ax_T 171)).lookup 9 = some (.invokevirtual 247, 3, 166, 0, 0) := by decide +kernel
theorem l171_12 : (ax_dt (ax_T 171)).lookup 12 = some (.iconst 0, 1, 0, 0, 0) := by decide +kernel
theorem l171_13 : (ax_dt (ax_T 171)).lookup 13 = some (.istore_n 1, 1, 0, 0, 0) := by decide +kernel
theorem l171_14 : (ax_dt (ax_T 171)).lookup 14 = some (.iload_n 1, 1, 0, 0, 0) := by decide +kernel
theorem l171_15 : (ax_dt (ax_T 171)).lookup 15 = some (.sipush 3200, 3, 0, 0, 0) := by decide +kernel
theorem l171_18 : (ax_dt (ax_T 171)).lookup 18 = some (.if_icmp .ge 16, 3, 0, 0, 0) := by decide +kernel
theorem l171_21 : (ax_dt (ax_T 171)).lookup 21 = some (.aload_n 0, 1, 0, 0, 0) := by decide +kernel
theorem l171_22 : (ax_dt (ax_T 171)).lookup 22 = some (.getfield 89, 3, 9, 34, 0) := by decide +kernel
theorem l171_25 : (ax_dt (ax_T 171)).lookup 25 = some (.iload_n 1, 1, 0, 0, 0) := by decide +kernel
theorem l171_26 : (ax_dt (ax_T 171)).lookup 26 = some (.iconst 1, 1, 0, 0, 0) := by decide +kernel
theorem l171_27 : (ax_dt (ax_T 171)).lookup 27 = some (.iastore, 1, 0, 0, 0) := by decide +kernel
theorem l171_28 : (ax_dt (ax_T 171)).lookup 28 = some (.iinc 1 1, 3, 0, 0, 0) := by decide +kernel
theorem l171_31 : (ax_dt (ax_T 171)).lookup 31 = some (.goto (-17), 3, 0, 0, 0) := by decide +kernel
theorem l171_34 : (ax_dt (ax_T 171)).lookup 34 = some (.iconst 1, 1, 0, 0, 0) := by decide +kernel
theorem l171_35 : (ax_dt (ax_T 171)).lookup 35 = some (.istore_n 1, 1, 0, 0, 0) := by decide +kernel
theorem l171_36 : (ax_dt (ax_T 171)).lookup 36 = some (.iload_n 1, 1, 0, 0, 0) := by decide +kernel
theorem l171_37 : (ax_dt (ax_T 171)).lookup 37 = some (.ifCond .eq 164, 3, 0, 0, 0) := by decide +kernel
theorem l171_40 : (ax_dt (ax_T 171)).lookup 40 = some (.aload_n 0, 1, 0, 0, 0) := by decide +kernel
theorem l171_41 : (ax_dt (ax_T 171)).lookup 41 = some (.invokevirtual 250, 3, 170, 0, 0) := by decide +kernel
theorem l171_44 : (ax_dt (ax_T 171)).lookup 44 = some (.iconst 0, 1, 0, 0, 0) := by decide +kernel
theorem l171_45 : (ax_dt (ax_T 171)).lookup 45 = some (.istore_n 1, 1, 0, 0, 0) := by decide +kernel
theorem l171_46 : (ax_dt (ax_T 171)).lookup 46 = some (.iconst 0, 1, 0, 0, 0) := by decide +kernel
theorem l171_47 : (ax_dt (ax_T 171)).lookup 47 = some (.istore_n 2, 1, 0, 0, 0) := by decide +kernel
theorem l171_48 : (ax_dt (ax_T 171)).lookup 48 = some (.iload_n 2, 1, 0, 0, 0) := by decide +kernel
theorem l171_49 : (ax_dt (ax_T 171)).lookup 49 = some (.aload_n 0, 1, 0, 0, 0) := by decide +kernel
theorem l171_50 : (ax_dt (ax_T 171)).lookup 50 = some (.getfield 13, 3, 9, 4, 0) := by decide +kernel
theorem l171_53 : (ax_dt (ax_T 171)).lookup 53 = some (.aload_n 0, 1, 0, 0, 0) := by decide +kernel
theorem l171_54 : (ax_dt (ax_T 171)).lookup 54 = some (.getfield 137, 3, 9, 3, 0) := by decide +kernel
theorem l171_57 : (ax_dt (ax_T 171)).lookup 57 = some (.iaload, 1, 0, 0, 0) := by decide +kernel
theorem l171_58 : (ax_dt (ax_T 171)).lookup 58 = some (.if_icmp .ge 140, 3, 0, 0, 0) := by decide +kernel
theorem l171_61 : (ax_dt (ax_T 171)).lookup 61 = some (.aload_n 0, 1, 0, 0, 0) := by decide +kernel
theorem l171_62 : (ax_dt (ax_T 171)).lookup 62 = some (.iload_n 2, 1, 0, 0, 0) := by decide +kernel
theorem l171_63 : (ax_dt (ax_T 171)).lookup 63 = some (.invokevirtual 140, 3, 140, 1, 0) := by decide +kernel
theorem l171_66 : (ax_dt (ax_T 171)).lookup 66 = some (.istore_n 3, 1, 0, 0, 0) := by decide +kernel
theorem l171_67 : (ax_dt (ax_T 171)).lookup 67 = some (.bipush 8, 2, 0, 0, 0) := by decide +kernel
theorem l171_69 : (ax_dt (ax_T 171)).lookup 69 = some (.iload_n 3, 1, 0, 0, 0) := by decide +kernel
theorem l171_70 : (ax_dt (ax_T 171)).lookup 70 = some (.imul, 1, 0, 0, 0) := by decide +kernel
theorem l171_71 : (ax_dt (ax_T 171)).lookup 71 = some (.istore 4, 2, 0, 0, 0) := by decide +kernel
theorem l171_73 : (ax_dt (ax_T 171)).lookup 73 = some (.iload 4, 2, 0, 0, 0) := by decide +kernel
theorem l171_75 : (ax_dt (ax_T 171)).lookup 75 = some (.bipush 8, 2, 0, 0, 0) := by decide +kernel
theorem l171_77 : (ax_dt (ax_T 171)).lookup 77 = some (.iload_n 3, 1, 0, 0, 0) := by decide +kernel
theorem l171_78 : (ax_dt (ax_T 171)).lookup 78 = some (.imul, 1, 0, 0, 0) := by decide +kernel
theorem l171_79 : (ax_dt (ax_T 171)).lookup 79 = some (.aload_n 0, 1, 0, 0, 0) := by decide +kernel
theorem l171_80 : (ax_dt (ax_T 171)).lookup 80 = some (.getfield 32, 3, 9, 10, 0) := by decide +kernel
theorem l171_83 : (ax_dt (ax_T 171)).lookup 83 = some (.iload_n 3, 1, 0, 0, 0) := by decide +kernel
theorem l171_84 : (ax_dt (ax_T 171)).lookup 84 = some (.iaload, 1, 0, 0, 0) := by decide +kernel
theorem l171_85 : (ax_dt (ax_T 171)).lookup 85 = some (.iadd, 1, 0, 0, 0) := by decide +kernel
theorem l171_86 : (ax_dt (ax_T 171)).lookup 86 = some (.if_icmp .ge 106, 3, 0, 0, 0) := by decide +kernel
theorem l171_89 : (ax_dt (ax_T 171)).lookup 89 = some (.aload_n 0, 1, 0, 0, 0) := by decide +kernel
theorem l171_90 : (ax_dt (ax_T 171)).lookup 90 = some (.getfield 38, 3, 9, 12, 0) := by decide +kernel
theorem l171_93 : (ax_dt (ax_T 171)).lookup 93 = some (.iload 4, 2, 0, 0, 0) := by decide +kernel
theorem l171_95 : (ax_dt (ax_T 171)).lookup 95 = some (.iaload, 1, 0, 0, 0) := by decide +kernel
theorem l171_96 : (ax_dt (ax_T 171)).lookup 96 = some (.bipush 21, 2, 0, 0, 0) := by decide +kernel
theorem l171_98 : (ax_dt (ax_T 171)).lookup 98 = some (.if_icmp .ne 88, 3, 0, 0, 0) := by decide +kernel
theorem l171_101 : (ax_dt (ax_T 171)).lookup 101 = some (.aload_n 0, 1, 0, 0, 0) := by decide +kernel
theorem l171_102 : (ax_dt (ax_T 171)).lookup 102 = some (.getfield 86, 3, 9, 33, 0) := by decide +kernel
theorem l171_105 : (ax_dt (ax_T 171)).lookup 105 = some (.aload_n 0, 1, 0, 0, 0) := by decide +kernel
theorem l171_106 : (ax_dt (ax_T 171)).lookup 106 = some (.getfield 41, 3, 9, 13, 0) := by decide +kernel
theorem l171_109 : (ax_dt (ax_T 171)).lookup 109 = some (.iload 4, 2, 0, 0, 0) := by decide +kernel
theorem l171_111 : (ax_dt (ax_T 171)).lookup 111 = some (.laload, 1, 0, 0, 0) := by decide +kernel
theorem l171_112 : (ax_dt (ax_T 171)).lookup 112 = some (.l2i, 1, 0, 0, 0) := by decide +kernel
theorem l171_113 : (ax_dt (ax_T 171)).lookup 113 = some (.iaload, 1, 0, 0, 0) := by decide +kernel
theorem l171_114 : (ax_dt (ax_T 171)).lookup 114 = some (.i2l, 1, 0, 0, 0) := by decide +kernel
theorem l171_115 : (ax_dt (ax_T 171)).lookup 115 = some (.invokestatic 235, 3, 167, 1, 0) := by decide +kernel
theorem l171_118 : (ax_dt (ax_T 171)).lookup 118 = some (.istore 5, 2, 0, 0, 0) := by decide +kernel
theorem l171_120 : (ax_dt (ax_T 171)).lookup 120 = some (.iload 4, 2, 0, 0, 0) := by decide +kernel
theorem l171_122 : (ax_dt (ax_T 171)).lookup 122 = some (.sipush 3200, 3, 0, 0, 0) := by decide +kernel
theorem l171_125 : (ax_dt (ax_T 171)).lookup 125 = some (.aload_n 0, 1, 0, 0, 0) := by decide +kernel
theorem l171_126 : (ax_dt (ax_T 171)).lookup 126 = some (.getfield 137, 3, 9, 3, 0) := by decide +kernel
theorem l171_129 : (ax_dt (ax_T 171)).lookup 129 = some (.imul, 1, 0, 0, 0) := by decide +kernel
theorem l171_130 : (ax_dt (ax_T 171)).lookup 130 = some (.isub, 1, 0, 0, 0) := by decide +kernel
theorem l171_131 : (ax_dt (ax_T 171)).lookup 131 = some (.istore 6, 2, 0, 0, 0) := by decide +kernel
theorem l171_133 : (ax_dt (ax_T 171)).lookup 133 = some (.iload_n 1, 1, 0, 0, 0) := by decide +kernel
theorem l171_134 : (ax_dt (ax_T 171)).lookup 134 = some (.ifCond .ne 15, 3, 0, 0, 0) := by decide +kernel
theorem l171_137 : (ax_dt (ax_T 171)).lookup 137 = some (.iload 5, 2, 0, 0, 0) := by decide +kernel
theorem l171_139 : (ax_dt (ax_T 171)).lookup 139 = some (.aload_n 0, 1, 0, 0, 0) := by decide +kernel
theorem l171_140 : (ax_dt (ax_T 171)).lookup 140 = some (.getfield 89, 3, 9, 34, 0) := by decide +kernel
theorem l171_143 : (ax_dt (ax_T 171)).lookup 143 = some (.iload 6, 2, 0, 0, 0) := by decide +kernel
theorem l171_145 : (ax_dt (ax_T 171)).lookup 145 = some (.iaload, 1, 0, 0, 0) := by decide +kernel
theorem l171_146 : (ax_dt (ax_T 171)).lookup 146 = some (.if_icmp .le 7, 3, 0, 0, 0) := by decide +kernel
theorem l171_149 : (ax_dt (ax_T 171)).lookup 149 = some (.iconst 1, 1, 0, 0, 0) := by decide +kernel
theorem l171_150 : (ax_dt (ax_T 171)).lookup 150 = some (.goto 4, 3, 0, 0, 0) := by decide +kernel
theorem l171_153 : (ax_dt (ax_T 171)).lookup 153 = some (.iconst 0, 1, 0, 0, 0) := by decide +kernel
theorem l171_154 : (ax_dt (ax_T 171)).lookup 154 = some (.istore_n 1, 1, 0, 0, 0) := by decide +kernel
theorem l171_155 : (ax_dt (ax_T 171)).lookup 155 = some (.aload_n 0, 1, 0, 0, 0) := by decide +kernel
theorem l171_156 : (ax_dt (ax_T 171)).lookup 156 = some (.getfield 89, 3, 9, 34, 0) := by decide +kernel
theorem l171_159 : (ax_dt (ax_T 171)).lookup 159 = some (.iload 6, 2, 0, 0, 0) := by decide +kernel
theorem l171_161 : (ax_dt (ax_T 171)).lookup 161 = some (.iload 5, 2, 0, 0, 0) := by decide +kernel
theorem l171_163 : (ax_dt (ax_T 171)).lookup 163 = some (.aload_n 0, 1, 0, 0, 0) := by decide +kernel
theorem l171_164 : (ax_dt (ax_T 171)).lookup 164 = some (.getfield 89, 3, 9, 34, 0) := by decide +kernel
theorem l171_167 : (ax_dt (ax_T 171)).lookup 167 = some (.iload 6, 2, 0, 0, 0) := by decide +kernel
theorem l171_169 : (ax_dt (ax_T 171)).lookup 169 = some (.iaload, 1, 0, 0, 0) := by decide +kernel
theorem l171_170 : (ax_dt (ax_T 171)).lookup 170 = some (.if_icmp .le 8, 3, 0, 0, 0) := by decide +kernel
theorem l171_173 : (ax_dt (ax_T 171)).lookup 173 = some (.iload 5, 2, 0, 0, 0) := by decide +kernel
theorem l171_175 : (ax_dt (ax_T 171)).lookup 175 = some (.goto 10, 3, 0, 0, 0) := by decide +kernel
theorem l171_178 : (ax_dt (ax_T 171)).lookup 178 = some (.aload_n 0, 1, 0, 0, 0) := by decide +kernel
theorem l171_179 : (ax_dt (ax_T 171)).lookup 179 = some (.getfield 89, 3, 9, 34, 0) := by decide +kernel
theorem l171_182 : (ax_dt (ax_T 171)).lookup 182 = some (.iload 6, 2, 0, 0, 0) := by decide +kernel
theorem l171_184 : (ax_dt (ax_T 171)).lookup 184 = some (.iaload, 1, 0, 0, 0) := by decide +kernel
theorem l171_185 : (ax_dt (ax_T 171)).lookup 185 = some (.iastore, 1, 0, 0, 0) := by decide +kernel
theorem l171_186 : (ax_dt (ax_T 171)).lookup 186 = some (.iinc 4 1, 3, 0, 0, 0) := by decide +kernel
theorem l171_189 : (ax_dt (ax_T 171)).lookup 189 = some (.goto (-116), 3, 0, 0, 0) := by decide +kernel
theorem l171_192 : (ax_dt (ax_T 171)).lookup 192 = some (.iinc 2 1, 3, 0, 0, 0) := by decide +kernel
theorem l171_195 : (ax_dt (ax_T 171)).lookup 195 = some (.goto (-147), 3, 0, 0, 0) := by decide +kernel
theorem l171_198 : (ax_dt (ax_T 171)).lookup 198 = some (.goto (-162), 3, 0, 0, 0) := by decide +kernel
theorem l171_201 : (ax_dt (ax_T 171)).lookup 201 = some (.return_, 1, 0, 0, 0) := by decide +kernel
noncomputable def F_X11_layOut_154 (v2 : Int) (v3 : Int) (v4 : Int) (v5 : Int) (v6 : Int) (y0 : Int) (μ : bM) : Option ((Int × Int × bM) ⊕ ((Int × Int × bM) ⊕ ((Int × bM) ⊕ (Int × bM)))) := bG (0 ≤ v6 ∧ v6 < 3200) (if v5 ≤ (μ 102 v6.toNat) then bG (0 ≤ v6 ∧ v6 < 3200) (bG (0 ≤ v6 ∧ v6 < 3200) (bG (bR (v4 + 1)) (some (.inl (y0, (v4 + 1), (bset μ 102 v6.toNat (μ 102 v6.toNat))))))) else bG (0 ≤ v6 ∧ v6 < 3200) (bG (bR (v4 + 1)) (some (.inl (y0, (v4 + 1), (bset μ 102 v6.toNat v5))))))
noncomputable def F_X11_layOut_149 (v2 : Int) (v3 : Int) (v4 : Int) (v5 : Int) (v6 : Int) (μ : bM) : Option ((Int × Int × bM) ⊕ ((Int × Int × bM) ⊕ ((Int × bM) ⊕ (Int × bM)))) := F_X11_layOut_154 v2 v3 v4 v5 v6 1 μ
noncomputable def F_X11_layOut_73 (v2 : Int) (v3 : Int) (v1 : Int) (v4 : Int) (μ : bM) : Option ((Int × Int × bM) ⊕ ((Int × Int × bM) ⊕ ((Int × bM) ⊕ (Int × bM)))) := bG (bR (8 * v3)) (bG (0 ≤ v3 ∧ v3 < 800) (bG (bR ((8 * v3) + (μ 84 v3.toNat))) (if ((8 * v3) + (μ 84 v3.toNat)) ≤ v4 then bG (bR (v2 + 1)) (some (.inr (.inl (v1, (v2 + 1), μ)))) else bG (0 ≤ v4 ∧ v4 < 6400) (if ¬ (μ 86 v4.toNat) = 21 then bG (bR (v4 + 1)) (some (.inl (v1, (v4 + 1), μ))) else bG (0 ≤ v4 ∧ v4 < 6400) (bG (0 ≤ (b32 (μ 87 v4.toNat)) ∧ (b32 (μ 87 v4.toNat)) < 400) ((F_X11_rowBytes (μ 101 (b32 (μ 87 v4.toNat)).toNat) μ).bind fun w7 => bG (bR (3200 * (μ 76 3))) (bG (bR (v4 - (3200 * (μ 76 3)))) (if ¬ v1 = 0 then F_X11_layOut_149 v2 v3 v4 w7 (v4 - (3200 * (μ 76 3))) μ else bG (0 ≤ (v4 - (3200 * (μ 76 3))) ∧ (v4 - (3200 * (μ 76 3))) < 3200) (if w7 ≤ (μ 102 (v4 - (3200 * (μ 76 3))).toNat) then F_X11_layOut_154 v2 v3 v4 w7 (v4 - (3200 * (μ 76 3))) 0 μ else F_X11_layOut_149 v2 v3 v4 w7 (v4 - (3200 * (μ 76 3))) μ)))))))))
noncomputable def F_X11_layOut_48 (v1 : Int) (v2 : Int) (μ : bM) : Option ((Int × Int × bM) ⊕ ((Int × bM) ⊕ (Int × bM))) := bG (0 ≤ (μ 76 3) ∧ (μ 76 3) < 2) (if (μ 78 (μ 76 3).toNat) ≤ v2 then some (.inr (.inl (v1, μ))) else (F_X11_at v2 μ).bind fun w2 => bG (bR (8 * w2)) (bLoop (fun z => F_X11_layOut_73 v2 w2 z.1 z.2.1 z.2.2) (v1, (8 * w2), μ)))
noncomputable def F_X11_layOut_36 (v1 : Int) (μ : bM) : Option ((Int × bM) ⊕ (Int × bM)) := if v1 = 0 then some (.inr (0, μ)) else bMm (F_X11_reckon μ) (fun w2 μ3 => bLoop (fun z => F_X11_layOut_48 z.1 z.2.1 z.2.2) (0, 0, μ3))
noncomputable def F_X11_layOut_14 (v1 : Int) (μ : bM) : Option ((Int × bM) ⊕ (Int × bM)) := if 3200 ≤ v1 then bUp (bLoop (fun z => F_X11_layOut_36 z.1 z.2) (1, μ)) else bG (0 ≤ v1 ∧ v1 < 3200) (bG (bR (v1 + 1)) (some (.inl ((v1 + 1), (bset μ 102 v1.toNat 1)))))
noncomputable def F_X11_layOut (μ : bM) : Option (Int × bM) := bMm (F_X11_goThrough μ) (fun w1 μ2 => bMm (F_X11_findShapes μ2) (fun w4 μ5 => bMm (F_X11_findTexts μ5) (fun w7 μ8 => bLoop (fun z => F_X11_layOut_14 z.1 z.2) (0, μ8))))
theorem p_X11_layOut_154 {L : Nat} {xs : Nat → Int32} {d : Nat} {μ : bM} {v2 : Int} {v3 : Int} {κ : ((Int × Int × bM) ⊕ ((Int × Int × bM) ⊕ ((Int × bM) ⊕ (Int × bM)))) → Option bX} (hr : ∀ r : Int × bM, κ (.inr (.inr (.inr r))) = (bMc) r) (H36 : ∀ (v1 : Int) (μ : bM), bR v1 → bD L xs (d + 4) 171 36 [(0, .ref 76), (1, bI v1)] [] μ (κ (.inr (.inr (.inl (v1, μ)))))) (H48 : ∀ (v1 : Int) (v2 : Int) (μ : bM), bR v1 → bR v2 → bD L xs (d + 4) 171 48 [(0, .ref 76), (1, bI v1), (2, bI v2)] [] μ (κ (.inr (.inl (v1, v2, μ))))) (H73 : ∀ (v1 : Int) (v4 : Int) (μ : bM), bR v1 → bR v4 → bD L xs (d + 4) 171 73 [(0, .ref 76), (1, bI v1), (2, bI v2), (3, bI v3), (4, bI v4)] [] μ (κ (.inl (v1, v4, μ))))  (h2 : bR v2) (h3 : bR v3) {v4 : Int} (h4 : bR v4) {v5 : Int} (h5 : bR v5) {v6 : Int} (h6 : bR v6) {y0 : Int} (hy0 : bR y0) : bD L xs (d + 4) 171 154 [(0, .ref 76), (2, bI v2), (3, bI v3), (4, bI v4), (5, bI v5), (6, bI v6)] [bI y0] μ ((F_X11_layOut_154 v2 v3 v4 v5 v6 y0 μ).bind κ) := by
  unfold F_X11_layOut_154
  refine bD.ok fun hk => ?_
  refine b_w (pc' := 155) (lv1 := ax_st1 [(0, .ref 76), (2, bI v2), (3, bI v3), (4, bI v4), (5, bI v5), (6, bI v6)] 1 (bI y0)) (lv' := [(0, .ref 76), (1, bI y0), (2, bI v2), (3, bI v3), (4, bI v4), (5, bI v5), (6, bI v6)]) (st' := []) l171_154 (fun _ => rfl) (bSb rfl (bSb rfl (bSb rfl (bSb rfl (bSb rfl (bSb rfl (bSb rfl bSn))))))) ?_
  refine b_s (pc' := 156) (lv1 := [(0, .ref 76), (1, bI y0), (2, bI v2), (3, bI v3), (4, bI v4), (5, bI v5), (6, bI v6)]) (st' := [.ref 76]) l171_155 (fun _ => rfl) ?_
  refine b_gp (q' := 102) (j := 26) l171_156 (by rfl) (by decide) (by decide) rfl hk rfl rfl (b_pc (pc' := 159) rfl ?_)
  refine b_s (pc' := 161) (lv1 := [(0, .ref 76), (1, bI y0), (2, bI v2), (3, bI v3), (4, bI v4), (5, bI v5), (6, bI v6)]) (st' := [bI v6, .ref 102]) l171_159 (fun _ => rfl) ?_
  refine b_s (pc' := 163) (lv1 := [(0, .ref 76), (1, bI y0), (2, bI v2), (3, bI v3), (4, bI v4), (5, bI v5), (6, bI v6)]) (st' := [bI v5, bI v6, .ref 102]) l171_161 (fun _ => rfl) ?_
  refine b_s (pc' := 164) (lv1 := [(0, .ref 76), (1, bI y0), (2, bI v2), (3, bI v3), (4, bI v4), (5, bI v5), (6, bI v6)]) (st' := [.ref 76, bI v5, bI v6, .ref 102]) l171_163 (fun _ => rfl) ?_
  refine b_gp (q' := 102) (j := 26) l171_164 (by rfl) (by decide) (by decide) rfl hk rfl rfl (b_pc (pc' := 167) rfl ?_)
  refine b_s (pc' := 169) (lv1 := [(0, .ref 76), (1, bI y0), (2, bI v2), (3, bI v3), (4, bI v4), (5, bI v5), (6, bI v6)]) (st' := [bI v6, .ref 102, bI v5, bI v6, .ref 102]) l171_167 (fun _ => rfl) ?_
  refine b_g fun g9 => ?_
  refine b_ial l171_169 (by rfl) g9 (b_pc (pc' := 170) rfl ?_)
  refine b_ile (pt := 178) l171_170 h5 (bO_i hk (by rfl)) (by decide) rfl (fun c1 => ?_) (fun c1 => b_pc (pc' := 173) rfl ?_)
  · refine b_s (pc' := 179) (lv1 := [(0, .ref 76), (1, bI y0), (2, bI v2), (3, bI v3), (4, bI v4), (5, bI v5), (6, bI v6)]) (st' := [.ref 76, bI v6, .ref 102]) l171_178 (fun _ => rfl) ?_
    refine b_gp (q' := 102) (j := 26) l171_179 (by rfl) (by decide) (by decide) rfl hk rfl rfl (b_pc (pc' := 182) rfl ?_)
    refine b_s (pc' := 184) (lv1 := [(0, .ref 76), (1, bI y0), (2, bI v2), (3, bI v3), (4, bI v4), (5, bI v5), (6, bI v6)]) (st' := [bI v6, .ref 102, bI v6, .ref 102]) l171_182 (fun _ => rfl) ?_
    refine b_g fun g5 => ?_
    refine b_ial l171_184 (by rfl) g5 (b_pc (pc' := 185) rfl ?_)
    refine b_g fun g4 => ?_
    refine b_ias l171_185 (by rfl) g4 (bO_i hk (by rfl)) (bD.ok fun hk2 => b_pc (pc' := 186) rfl ?_)
    refine b_inc (lv' := [(0, .ref 76), (1, bI y0), (2, bI v2), (3, bI v3), (4, bI (v4 + 1))]) l171_186 rfl (by decide +kernel) (bSb rfl (bSb rfl (bSb rfl (bSb rfl (bSb rfl bSn))))) fun g3 => (b_pc (pc' := 189) rfl ?_)
    refine b_s (pc' := 73) (lv1 := [(0, .ref 76), (1, bI y0), (2, bI v2), (3, bI v3), (4, bI (v4 + 1))]) (st' := []) l171_189 (fun _ => rfl) ?_
    refine bD.wk (lv' := [(0, .ref 76), (1, bI y0), (2, bI v2), (3, bI v3), (4, bI (v4 + 1))]) (bSb rfl (bSb rfl (bSb rfl (bSb rfl (bSb rfl bSn))))) ?_
    exact H73 y0 (v4 + 1) (bset μ 102 v6.toNat (μ 102 v6.toNat)) hy0 g3
  · refine b_s (pc' := 175) (lv1 := [(0, .ref 76), (1, bI y0), (2, bI v2), (3, bI v3), (4, bI v4), (5, bI v5), (6, bI v6)]) (st' := [bI v5, bI v6, .ref 102]) l171_173 (fun _ => rfl) ?_
    refine b_s (pc' := 185) (lv1 := [(0, .ref 76), (1, bI y0), (2, bI v2), (3, bI v3), (4, bI v4), (5, bI v5), (6, bI v6)]) (st' := [bI v5, bI v6, .ref 102]) l171_175 (fun _ => rfl) ?_
    refine b_g fun g8 => ?_
    refine b_ias l171_185 (by rfl) g8 h5 (bD.ok fun hk6 => b_pc (pc' := 186) rfl ?_)
    refine b_inc (lv' := [(0, .ref 76), (1, bI y0), (2, bI v2), (3, bI v3), (4, bI (v4 + 1))]) l171_186 rfl (by decide +kernel) (bSb rfl (bSb rfl (bSb rfl (bSb rfl (bSb rfl bSn))))) fun g7 => (b_pc (pc' := 189) rfl ?_)
    refine b_s (pc' := 73) (lv1 := [(0, .ref 76), (1, bI y0), (2, bI v2), (3, bI v3), (4, bI (v4 + 1))]) (st' := []) l171_189 (fun _ => rfl) ?_
    refine bD.wk (lv' := [(0, .ref 76), (1, bI y0), (2, bI v2), (3, bI v3), (4, bI (v4 + 1))]) (bSb rfl (bSb rfl (bSb rfl (bSb rfl (bSb rfl bSn))))) ?_
    exact H73 y0 (v4 + 1) (bset μ 102 v6.toNat v5) hy0 g7
theorem p_X11_layOut_149 {L : Nat} {xs : Nat → Int32} {d : Nat} {μ : bM} {v2 : Int} {v3 : Int} {κ : ((Int × Int × bM) ⊕ ((Int × Int × bM) ⊕ ((Int × bM) ⊕ (Int × bM)))) → Option bX} (hr : ∀ r : Int × bM, κ (.inr (.inr (.inr r))) = (bMc) r) (H36 : ∀ (v1 : Int) (μ : bM), bR v1 → bD L xs (d + 4) 171 36 [(0, .ref 76), (1, bI v1)] [] μ (κ (.inr (.inr (.inl (v1, μ)))))) (H48 : ∀ (v1 : Int) (v2 : Int) (μ : bM), bR v1 → bR v2 → bD L xs (d + 4) 171 48 [(0, .ref 76), (1, bI v1), (2, bI v2)] [] μ (κ (.inr (.inl (v1, v2, μ))))) (H73 : ∀ (v1 : Int) (v4 : Int) (μ : bM), bR v1 → bR v4 → bD L xs (d + 4) 171 73 [(0, .ref 76), (1, bI v1), (2, bI v2), (3, bI v3), (4, bI v4)] [] μ (κ (.inl (v1, v4, μ))))  (h2 : bR v2) (h3 : bR v3) {v4 : Int} (h4 : bR v4) {v5 : Int} (h5 : bR v5) {v6 : Int} (h6 : bR v6) : bD L xs (d + 4) 171 149 [(0, .ref 76), (2, bI v2), (3, bI v3), (4, bI v4), (5, bI v5), (6, bI v6)] [] μ ((F_X11_layOut_149 v2 v3 v4 v5 v6 μ).bind κ) := by
  unfold F_X11_layOut_149
  refine bD.ok fun hk => ?_
  refine b_s (pc' := 150) (lv1 := [(0, .ref 76), (2, bI v2), (3, bI v3), (4, bI v4), (5, bI v5), (6, bI v6)]) (st' := [bI 1]) l171_149 (fun _ => rfl) ?_
  refine b_s (pc' := 154) (lv1 := [(0, .ref 76), (2, bI v2), (3, bI v3), (4, bI v4), (5, bI v5), (6, bI v6)]) (st' := [bI 1]) l171_150 (fun _ => rfl) ?_
  refine bD.wk (lv' := [(0, .ref 76), (2, bI v2), (3, bI v3), (4, bI v4), (5, bI v5), (6, bI v6)]) (bSb rfl (bSb rfl (bSb rfl (bSb rfl (bSb rfl (bSb rfl bSn)))))) ?_
  exact p_X11_layOut_154 hr H36 H48 H73 h2 h3 h4 h5 h6 (by decide)
theorem q_X11_layOut_73 {L : Nat} {xs : Nat → Int32} {d : Nat} {μ : bM} {v2 : Int} {v3 : Int} {κ : ((Int × Int × bM) ⊕ ((Int × Int × bM) ⊕ ((Int × bM) ⊕ (Int × bM)))) → Option bX} (hr : ∀ r : Int × bM, κ (.inr (.inr (.inr r))) = (bMc) r) (H36 : ∀ (v1 : Int) (μ : bM), bR v1 → bD L xs (d + 4) 171 36 [(0, .ref 76), (1, bI v1)] [] μ (κ (.inr (.inr (.inl (v1, μ)))))) (H48 : ∀ (v1 : Int) (v2 : Int) (μ : bM), bR v1 → bR v2 → bD L xs (d + 4) 171 48 [(0, .ref 76), (1, bI v1), (2, bI v2)] [] μ (κ (.inr (.inl (v1, v2, μ))))) (H73 : ∀ (v1 : Int) (v4 : Int) (μ : bM), bR v1 → bR v4 → bD L xs (d + 4) 171 73 [(0, .ref 76), (1, bI v1), (2, bI v2), (3, bI v3), (4, bI v4)] [] μ (κ (.inl (v1, v4, μ))))  {v1 : Int} (h1 : bR v1) (h2 : bR v2) (h3 : bR v3) {v4 : Int} (h4 : bR v4) : bD L xs (d + 4) 171 73 [(0, .ref 76), (1, bI v1), (2, bI v2), (3, bI v3), (4, bI v4)] [] μ ((F_X11_layOut_73 v2 v3 v1 v4 μ).bind κ) := by
  unfold F_X11_layOut_73
  refine bD.ok fun hk => ?_
  refine b_s (pc' := 75) (lv1 := [(0, .ref 76), (1, bI v1), (2, bI v2), (3, bI v3), (4, bI v4)]) (st' := [bI v4]) l171_73 (fun _ => rfl) ?_
  refine b_bipush l171_75 (by decide) (b_pc (pc' := 77) rfl ?_)
  refine b_s (pc' := 78) (lv1 := [(0, .ref 76), (1, bI v1), (2, bI v2), (3, bI v3), (4, bI v4)]) (st' := [bI v3, bI 8, bI v4]) l171_77 (fun _ => rfl) ?_
  refine b_imul l171_78 fun g1 => (b_pc (pc' := 79) rfl ?_)
  refine b_s (pc' := 80) (lv1 := [(0, .ref 76), (1, bI v1), (2, bI v2), (3, bI v3), (4, bI v4)]) (st' := [.ref 76, bI (8 * v3), bI v4]) l171_79 (fun _ => rfl) ?_
  refine b_gp (q' := 84) (j := 8) l171_80 (by rfl) (by decide) (by decide) rfl hk rfl rfl (b_pc (pc' := 83) rfl ?_)
  refine b_s (pc' := 84) (lv1 := [(0, .ref 76), (1, bI v1), (2, bI v2), (3, bI v3), (4, bI v4)]) (st' := [bI v3, .ref 84, bI (8 * v3), bI v4]) l171_83 (fun _ => rfl) ?_
  refine b_g fun g16 => ?_
  refine b_ial l171_84 (by rfl) g16 (b_pc (pc' := 85) rfl ?_)
  refine b_iadd l171_85 fun g2 => (b_pc (pc' := 86) rfl ?_)
  refine b_ige (pt := 192) l171_86 h4 g2 (by decide) rfl (fun c3 => ?_) (fun c3 => b_pc (pc' := 89) rfl ?_)
  · refine b_inc (lv' := [(0, .ref 76), (1, bI v1), (2, bI (v2 + 1))]) l171_192 rfl (by decide +kernel) (bSb rfl (bSb rfl (bSb rfl bSn))) fun g4 => (b_pc (pc' := 195) rfl ?_)
    refine b_s (pc' := 48) (lv1 := [(0, .ref 76), (1, bI v1), (2, bI (v2 + 1))]) (st' := []) l171_195 (fun _ => rfl) ?_
    refine bD.wk (lv' := [(0, .ref 76), (1, bI v1), (2, bI (v2 + 1))]) (bSb rfl (bSb rfl (bSb rfl bSn))) ?_
    exact H48 v1 (v2 + 1) μ h1 g4
  · refine b_s (pc' := 90) (lv1 := [(0, .ref 76), (1, bI v1), (2, bI v2), (3, bI v3), (4, bI v4)]) (st' := [.ref 76]) l171_89 (fun _ => rfl) ?_
    refine b_gp (q' := 86) (j := 10) l171_90 (by rfl) (by decide) (by decide) rfl hk rfl rfl (b_pc (pc' := 93) rfl ?_)
    refine b_s (pc' := 95) (lv1 := [(0, .ref 76), (1, bI v1), (2, bI v2), (3, bI v3), (4, bI v4)]) (st' := [bI v4, .ref 86]) l171_93 (fun _ => rfl) ?_
    refine b_g fun g15 => ?_
    refine b_ial l171_95 (by rfl) g15 (b_pc (pc' := 96) rfl ?_)
    refine b_bipush l171_96 (by decide) (b_pc (pc' := 98) rfl ?_)
    refine b_ine (pt := 186) l171_98 (bO_i hk (by rfl)) (by decide) (by decide) rfl (fun c5 => ?_) (fun c5 => b_pc (pc' := 101) rfl ?_)
    · refine b_inc (lv' := [(0, .ref 76), (1, bI v1), (2, bI v2), (3, bI v3), (4, bI (v4 + 1))]) l171_186 rfl (by decide +kernel) (bSb rfl (bSb rfl (bSb rfl (bSb rfl (bSb rfl bSn))))) fun g6 => (b_pc (pc' := 189) rfl ?_)
      refine b_s (pc' := 73) (lv1 := [(0, .ref 76), (1, bI v1), (2, bI v2), (3, bI v3), (4, bI (v4 + 1))]) (st' := []) l171_189 (fun _ => rfl) ?_
      refine bD.wk (lv' := [(0, .ref 76), (1, bI v1), (2, bI v2), (3, bI v3), (4, bI (v4 + 1))]) (bSb rfl (bSb rfl (bSb rfl (bSb rfl (bSb rfl bSn))))) ?_
      exact H73 v1 (v4 + 1) μ h1 g6
    · refine b_s (pc' := 102) (lv1 := [(0, .ref 76), (1, bI v1), (2, bI v2), (3, bI v3), (4, bI v4)]) (st' := [.ref 76]) l171_101 (fun _ => rfl) ?_
      refine b_gp (q' := 101) (j := 25) l171_102 (by rfl) (by decide) (by decide) rfl hk rfl rfl (b_pc (pc' := 105) rfl ?_)
      refine b_s (pc' := 106) (lv1 := [(0, .ref 76), (1, bI v1), (2, bI v2), (3, bI v3), (4, bI v4)]) (st' := [.ref 76, .ref 101]) l171_105 (fun _ => rfl) ?_
      refine b_gp (q' := 87) (j := 11) l171_106 (by rfl) (by decide) (by decide) rfl hk rfl rfl (b_pc (pc' := 109) rfl ?_)
      refine b_s (pc' := 111) (lv1 := [(0, .ref 76), (1, bI v1), (2, bI v2), (3, bI v3), (4, bI v4)]) (st' := [bI v4, .ref 87, .ref 101]) l171_109 (fun _ => rfl) ?_
      refine b_g fun g14 => ?_
      refine b_lal l171_111 (by rfl) g14 (b_pc (pc' := 112) rfl ?_)
      refine b_l2i l171_112 (b_pc (pc' := 113) rfl ?_)
      refine b_g fun g13 => ?_
      refine b_ial l171_113 (by rfl) g13 (b_pc (pc' := 114) rfl ?_)
      refine b_i2l l171_114 (bO_i hk (by rfl)) (b_pc (pc' := 115) rfl ?_)
      refine b_cPi l171_115 rfl (fun _ => trivial) (Nat.le_of_ble_eq_true rfl) (Nat.le_of_ble_eq_true rfl) rfl (r_X11_rowBytes (μ 101 (b32 (μ 87 v4.toNat)).toNat) (bR_L (bO_i hk (by rfl)))) fun w7 hw7 => b_pc (pc' := 118) rfl ?_
      refine b_w (pc' := 120) (lv1 := ax_st1 [(0, .ref 76), (1, bI v1), (2, bI v2), (3, bI v3), (4, bI v4)] 5 (bI w7)) (lv' := [(0, .ref 76), (1, bI v1), (2, bI v2), (3, bI v3), (4, bI v4), (5, bI w7)]) (st' := []) l171_118 (fun _ => rfl) (bSb rfl (bSb rfl (bSb rfl (bSb rfl (bSb rfl (bSb rfl bSn)))))) ?_
      refine b_s (pc' := 122) (lv1 := [(0, .ref 76), (1, bI v1), (2, bI v2), (3, bI v3), (4, bI v4), (5, bI w7)]) (st' := [bI v4]) l171_120 (fun _ => rfl) ?_
      refine b_sipush l171_122 (by decide) (b_pc (pc' := 125) rfl ?_)
      refine b_s (pc' := 126) (lv1 := [(0, .ref 76), (1, bI v1), (2, bI v2), (3, bI v3), (4, bI v4), (5, bI w7)]) (st' := [.ref 76, bI 3200, bI v4]) l171_125 (fun _ => rfl) ?_
      refine b_gi l171_126 (by rfl) (by decide) (by decide) rfl (b_pc (pc' := 129) rfl ?_)
      refine b_imul l171_129 fun g8 => (b_pc (pc' := 130) rfl ?_)
      refine b_isub l171_130 fun g9 => (b_pc (pc' := 131) rfl ?_)
      refine b_w (pc' := 133) (lv1 := ax_st1 [(0, .ref 76), (1, bI v1), (2, bI v2), (3, bI v3), (4, bI v4), (5, bI w7)] 6 (bI (v4 - (3200 * (μ 76 3))))) (lv' := [(0, .ref 76), (1, bI v1), (2, bI v2), (3, bI v3), (4, bI v4), (5, bI w7), (6, bI (v4 - (3200 * (μ 76 3))))]) (st' := []) l171_131 (fun _ => rfl) (bSb rfl (bSb rfl (bSb rfl (bSb rfl (bSb rfl (bSb rfl (bSb rfl bSn))))))) ?_
      refine b_s (pc' := 134) (lv1 := [(0, .ref 76), (1, bI v1), (2, bI v2), (3, bI v3), (4, bI v4), (5, bI w7), (6, bI (v4 - (3200 * (μ 76 3))))]) (st' := [bI v1]) l171_133 (fun _ => rfl) ?_
      refine b_zne (pt := 149) l171_134 h1 (by decide) rfl (fun c10 => ?_) (fun c10 => b_pc (pc' := 137) rfl ?_)
      · refine bD.wk (lv' := [(0, .ref 76), (2, bI v2), (3, bI v3), (4, bI v4), (5, bI w7), (6, bI (v4 - (3200 * (μ 76 3))))]) (bSb rfl (bSb rfl (bSb rfl (bSb rfl (bSb rfl (bSb rfl bSn)))))) ?_
        exact p_X11_layOut_149 hr H36 H48 H73 h2 h3 h4 hw7 g9
      · refine b_s (pc' := 139) (lv1 := [(0, .ref 76), (1, bI v1), (2, bI v2), (3, bI v3), (4, bI v4), (5, bI w7), (6, bI (v4 - (3200 * (μ 76 3))))]) (st' := [bI w7]) l171_137 (fun _ => rfl) ?_
        refine b_s (pc' := 140) (lv1 := [(0, .ref 76), (1, bI v1), (2, bI v2), (3, bI v3), (4, bI v4), (5, bI w7), (6, bI (v4 - (3200 * (μ 76 3))))]) (st' := [.ref 76, bI w7]) l171_139 (fun _ => rfl) ?_
        refine b_gp (q' := 102) (j := 26) l171_140 (by rfl) (by decide) (by decide) rfl hk rfl rfl (b_pc (pc' := 143) rfl ?_)
        refine b_s (pc' := 145) (lv1 := [(0, .ref 76), (1, bI v1), (2, bI v2), (3, bI v3), (4, bI v4), (5, bI w7), (6, bI (v4 - (3200 * (μ 76 3))))]) (st' := [bI (v4 - (3200 * (μ 76 3))), .ref 102, bI w7]) l171_143 (fun _ => rfl) ?_
        refine b_g fun g12 => ?_
        refine b_ial l171_145 (by rfl) g12 (b_pc (pc' := 146) rfl ?_)
        refine b_ile (pt := 153) l171_146 hw7 (bO_i hk (by rfl)) (by decide) rfl (fun c11 => ?_) (fun c11 => b_pc (pc' := 149) rfl ?_)
        · refine b_s (pc' := 154) (lv1 := [(0, .ref 76), (1, bI v1), (2, bI v2), (3, bI v3), (4, bI v4), (5, bI w7), (6, bI (v4 - (3200 * (μ 76 3))))]) (st' := [bI 0]) l171_153 (fun _ => rfl) ?_
          refine bD.wk (lv' := [(0, .ref 76), (2, bI v2), (3, bI v3), (4, bI v4), (5, bI w7), (6, bI (v4 - (3200 * (μ 76 3))))]) (bSb rfl (bSb rfl (bSb rfl (bSb rfl (bSb rfl (bSb rfl bSn)))))) ?_
          exact p_X11_layOut_154 hr H36 H48 H73 h2 h3 h4 hw7 g9 (by decide)
        · refine bD.wk (lv' := [(0, .ref 76), (2, bI v2), (3, bI v3), (4, bI v4), (5, bI w7), (6, bI (v4 - (3200 * (μ 76 3))))]) (bSb rfl (bSb rfl (bSb rfl (bSb rfl (bSb rfl (bSb rfl bSn)))))) ?_
          exact p_X11_layOut_149 hr H36 H48 H73 h2 h3 h4 hw7 g9
theorem p_X11_layOut_73 {L : Nat} {xs : Nat → Int32} {d : Nat} {μ : bM}  {κ : ((Int × Int × bM) ⊕ ((Int × bM) ⊕ (Int × bM))) → Option bX} (hr : ∀ r : Int × bM, κ (.inr (.inr r)) = (bMc) r) (H36 : ∀ (v1 : Int) (μ : bM), bR v1 → bD L xs (d + 4) 171 36 [(0, .ref 76), (1, bI v1)] [] μ (κ (.inr (.inl (v1, μ))))) (H48 : ∀ (v1 : Int) (v2 : Int) (μ : bM), bR v1 → bR v2 → bD L xs (d + 4) 171 48 [(0, .ref 76), (1, bI v1), (2, bI v2)] [] μ (κ (.inl (v1, v2, μ))))  {v1 : Int} (h1 : bR v1) {v2 : Int} (h2 : bR v2) {v3 : Int} (h3 : bR v3) {v4 : Int} (h4 : bR v4) : bD L xs (d + 4) 171 73 [(0, .ref 76), (1, bI v1), (2, bI v2), (3, bI v3), (4, bI v4)] [] μ ((bLoop (fun z => F_X11_layOut_73 v2 v3 z.1 z.2.1 z.2.2) (v1, v4, μ)).bind κ) :=
  b_loop (fun z => [(0, .ref 76), (1, bI z.1), (2, bI v2), (3, bI v3), (4, bI z.2.1)]) (fun z => z.2.2) (fun z => bR z.1 ∧ bR z.2.1) (fun κ' hκ HH z hz => q_X11_layOut_73 (κ := κ') (fun r => (hκ _).trans (hr r)) (fun a1 am b1 => b_eq (hκ _) (H36 a1 am b1)) (fun a1 a2 am b1 b2 => b_eq (hκ _) (H48 a1 a2 am b1 b2)) (fun a1 a4 am b1 b4 => HH (a1, a4, am) ⟨b1, b4⟩)  hz.1 h2 h3 hz.2) (v1, v4, μ) ⟨h1, h4⟩
theorem q_X11_layOut_48 {L : Nat} {xs : Nat → Int32} {d : Nat} {μ : bM}  {κ : ((Int × Int × bM) ⊕ ((Int × bM) ⊕ (Int × bM))) → Option bX} (hr : ∀ r : Int × bM, κ (.inr (.inr r)) = (bMc) r) (H36 : ∀ (v1 : Int) (μ : bM), bR v1 → bD L xs (d + 4) 171 36 [(0, .ref 76), (1, bI v1)] [] μ (κ (.inr (.inl (v1, μ))))) (H48 : ∀ (v1 : Int) (v2 : Int) (μ : bM), bR v1 → bR v2 → bD L xs (d + 4) 171 48 [(0, .ref 76), (1, bI v1), (2, bI v2)] [] μ (κ (.inl (v1, v2, μ))))  {v1 : Int} (h1 : bR v1) {v2 : Int} (h2 : bR v2) : bD L xs (d + 4) 171 48 [(0, .ref 76), (1, bI v1), (2, bI v2)] [] μ ((F_X11_layOut_48 v1 v2 μ).bind κ) := by
  unfold F_X11_layOut_48
  refine bD.ok fun hk => ?_
  refine b_s (pc' := 49) (lv1 := [(0, .ref 76), (1, bI v1), (2, bI v2)]) (st' := [bI v2]) l171_48 (fun _ => rfl) ?_
  refine b_s (pc' := 50) (lv1 := [(0, .ref 76), (1, bI v1), (2, bI v2)]) (st' := [.ref 76, bI v2]) l171_49 (fun _ => rfl) ?_
  refine b_gp (q' := 78) (j := 2) l171_50 (by rfl) (by decide) (by decide) rfl hk rfl rfl (b_pc (pc' := 53) rfl ?_)
  refine b_s (pc' := 54) (lv1 := [(0, .ref 76), (1, bI v1), (2, bI v2)]) (st' := [.ref 76, .ref 78, bI v2]) l171_53 (fun _ => rfl) ?_
  refine b_gi l171_54 (by rfl) (by decide) (by decide) rfl (b_pc (pc' := 57) rfl ?_)
  refine b_g fun g4 => ?_
  refine b_ial l171_57 (by rfl) g4 (b_pc (pc' := 58) rfl ?_)
  refine b_ige (pt := 198) l171_58 h2 (bO_i hk (by rfl)) (by decide) rfl (fun c1 => ?_) (fun c1 => b_pc (pc' := 61) rfl ?_)
  · refine b_s (pc' := 36) (lv1 := [(0, .ref 76), (1, bI v1), (2, bI v2)]) (st' := []) l171_198 (fun _ => rfl) ?_
    refine bD.wk (lv' := [(0, .ref 76), (1, bI v1)]) (bSb rfl (bSb rfl bSn)) ?_
    exact H36 v1 μ h1
  · refine b_s (pc' := 62) (lv1 := [(0, .ref 76), (1, bI v1), (2, bI v2)]) (st' := [.ref 76]) l171_61 (fun _ => rfl) ?_
    refine b_s (pc' := 63) (lv1 := [(0, .ref 76), (1, bI v1), (2, bI v2)]) (st' := [bI v2, .ref 76]) l171_62 (fun _ => rfl) ?_
    refine b_cPi l171_63 rfl (b_rc (ci := 9) (by rfl) (by decide) (by decide +kernel)) (Nat.le_of_ble_eq_true rfl) (Nat.le_of_ble_eq_true rfl) rfl (r_X11_at v2 h2) fun w2 hw2 => b_pc (pc' := 66) rfl ?_
    refine b_w (pc' := 67) (lv1 := ax_st1 [(0, .ref 76), (1, bI v1), (2, bI v2)] 3 (bI w2)) (lv' := [(0, .ref 76), (1, bI v1), (2, bI v2), (3, bI w2)]) (st' := []) l171_66 (fun _ => rfl) (bSb rfl (bSb rfl (bSb rfl (bSb rfl bSn)))) ?_
    refine b_bipush l171_67 (by decide) (b_pc (pc' := 69) rfl ?_)
    refine b_s (pc' := 70) (lv1 := [(0, .ref 76), (1, bI v1), (2, bI v2), (3, bI w2)]) (st' := [bI w2, bI 8]) l171_69 (fun _ => rfl) ?_
    refine b_imul l171_70 fun g3 => (b_pc (pc' := 71) rfl ?_)
    refine b_w (pc' := 73) (lv1 := ax_st1 [(0, .ref 76), (1, bI v1), (2, bI v2), (3, bI w2)] 4 (bI (8 * w2))) (lv' := [(0, .ref 76), (1, bI v1), (2, bI v2), (3, bI w2), (4, bI (8 * w2))]) (st' := []) l171_71 (fun _ => rfl) (bSb rfl (bSb rfl (bSb rfl (bSb rfl (bSb rfl bSn))))) ?_
    refine bD.wk (lv' := [(0, .ref 76), (1, bI v1), (2, bI v2), (3, bI w2), (4, bI (8 * w2))]) (bSb rfl (bSb rfl (bSb rfl (bSb rfl (bSb rfl bSn))))) ?_
    exact p_X11_layOut_73 hr H36 H48 h1 h2 hw2 g3
theorem p_X11_layOut_48 {L : Nat} {xs : Nat → Int32} {d : Nat} {μ : bM}  {κ : ((Int × bM) ⊕ (Int × bM)) → Option bX} (hr : ∀ r : Int × bM, κ (.inr r) = (bMc) r) (H36 : ∀ (v1 : Int) (μ : bM), bR v1 → bD L xs (d + 4) 171 36 [(0, .ref 76), (1, bI v1)] [] μ (κ (.inl (v1, μ))))  {v1 : Int} (h1 : bR v1) {v2 : Int} (h2 : bR v2) : bD L xs (d + 4) 171 48 [(0, .ref 76), (1, bI v1), (2, bI v2)] [] μ ((bLoop (fun z => F_X11_layOut_48 z.1 z.2.1 z.2.2) (v1, v2, μ)).bind κ) :=
  b_loop (fun z => [(0, .ref 76), (1, bI z.1), (2, bI z.2.1)]) (fun z => z.2.2) (fun z => bR z.1 ∧ bR z.2.1) (fun κ' hκ HH z hz => q_X11_layOut_48 (κ := κ') (fun r => (hκ _).trans (hr r)) (fun a1 am b1 => b_eq (hκ _) (H36 a1 am b1)) (fun a1 a2 am b1 b2 => HH (a1, a2, am) ⟨b1, b2⟩)  hz.1 hz.2) (v1, v2, μ) ⟨h1, h2⟩
theorem q_X11_layOut_36 {L : Nat} {xs : Nat → Int32} {d : Nat} {μ : bM}  {κ : ((Int × bM) ⊕ (Int × bM)) → Option bX} (hr : ∀ r : Int × bM, κ (.inr r) = (bMc) r) (H36 : ∀ (v1 : Int) (μ : bM), bR v1 → bD L xs (d + 4) 171 36 [(0, .ref 76), (1, bI v1)] [] μ (κ (.inl (v1, μ))))  {v1 : Int} (h1 : bR v1) : bD L xs (d + 4) 171 36 [(0, .ref 76), (1, bI v1)] [] μ ((F_X11_layOut_36 v1 μ).bind κ) := by
  unfold F_X11_layOut_36
  refine bD.ok fun hk => ?_
  refine b_s (pc' := 37) (lv1 := [(0, .ref 76), (1, bI v1)]) (st' := [bI v1]) l171_36 (fun _ => rfl) ?_
  refine b_zeq (pt := 201) l171_37 h1 (by decide) rfl (fun c1 => ?_) (fun c1 => b_pc (pc' := 40) rfl ?_)
  · exact b_retv l171_201 rfl (hr _)
  · refine b_s (pc' := 41) (lv1 := [(0, .ref 76), (1, bI v1)]) (st' := [.ref 76]) l171_40 (fun _ => rfl) ?_
    refine b_cMv l171_41 rfl (b_rc (ci := 9) (by rfl) (by decide) (by decide +kernel)) (Nat.le_of_ble_eq_true rfl) (Nat.le_of_ble_eq_true rfl) rfl (r_X11_reckon ) fun w2 μ3 hw2 => bD.ok fun hk4 => b_pc (pc' := 44) rfl ?_
    refine b_s (pc' := 45) (lv1 := [(0, .ref 76), (1, bI v1)]) (st' := [bI 0]) l171_44 (fun _ => rfl) ?_
    refine b_w (pc' := 46) (lv1 := ax_st1 [(0, .ref 76), (1, bI v1)] 1 (bI 0)) (lv' := [(0, .ref 76), (1, bI 0)]) (st' := []) l171_45 (fun _ => rfl) (bSb rfl (bSb rfl bSn)) ?_
    refine b_s (pc' := 47) (lv1 := [(0, .ref 76), (1, bI 0)]) (st' := [bI 0]) l171_46 (fun _ => rfl) ?_
    refine b_w (pc' := 48) (lv1 := ax_st1 [(0, .ref 76), (1, bI 0)] 2 (bI 0)) (lv' := [(0, .ref 76), (1, bI 0), (2, bI 0)]) (st' := []) l171_47 (fun _ => rfl) (bSb rfl (bSb rfl (bSb rfl bSn))) ?_
    refine bD.wk (lv' := [(0, .ref 76), (1, bI 0), (2, bI 0)]) (bSb rfl (bSb rfl (bSb rfl bSn))) ?_
    exact p_X11_layOut_48 hr H36 (by decide) (by decide)
theorem p_X11_layOut_36 {L : Nat} {xs : Nat → Int32} {d : Nat} {μ : bM}  {κ : (Int × bM) → Option bX} (hr : ∀ r : Int × bM, κ r = (bMc) r)  {v1 : Int} (h1 : bR v1) : bD L xs (d + 4) 171 36 [(0, .ref 76), (1, bI v1)] [] μ ((bLoop (fun z => F_X11_layOut_36 z.1 z.2) (v1, μ)).bind κ) :=
  b_loop (fun z => [(0, .ref 76), (1, bI z.1)]) (fun z => z.2) (fun z => bR z.1) (fun κ' hκ HH z hz => q_X11_layOut_36 (κ := κ') (fun r => (hκ _).trans (hr r)) (fun a1 am b1 => HH (a1, am) b1)  hz) (v1, μ) h1
theorem q_X11_layOut_14 {L : Nat} {xs : Nat → Int32} {d : Nat} {μ : bM}  {κ : ((Int × bM) ⊕ (Int × bM)) → Option bX} (hr : ∀ r : Int × bM, κ (.inr r) = (bMc) r) (H14 : ∀ (v1 : Int) (μ : bM), bR v1 → bD L xs (d + 4) 171 14 [(0, .ref 76), (1, bI v1)] [] μ (κ (.inl (v1, μ))))  {v1 : Int} (h1 : bR v1) : bD L xs (d + 4) 171 14 [(0, .ref 76), (1, bI v1)] [] μ ((F_X11_layOut_14 v1 μ).bind κ) := by
  unfold F_X11_layOut_14
  refine bD.ok fun hk => ?_
  refine b_s (pc' := 15) (lv1 := [(0, .ref 76), (1, bI v1)]) (st' := [bI v1]) l171_14 (fun _ => rfl) ?_
  refine b_sipush l171_15 (by decide) (b_pc (pc' := 18) rfl ?_)
  refine b_ige (pt := 34) l171_18 h1 (by decide) (by decide) rfl (fun c1 => ?_) (fun c1 => b_pc (pc' := 21) rfl ?_)
  · refine b_s (pc' := 35) (lv1 := [(0, .ref 76), (1, bI v1)]) (st' := [bI 1]) l171_34 (fun _ => rfl) ?_
    refine b_w (pc' := 36) (lv1 := ax_st1 [(0, .ref 76), (1, bI v1)] 1 (bI 1)) (lv' := [(0, .ref 76), (1, bI 1)]) (st' := []) l171_35 (fun _ => rfl) (bSb rfl (bSb rfl bSn)) ?_
    refine b_up (fun _ => rfl) ?_
    refine bD.wk (lv' := [(0, .ref 76), (1, bI 1)]) (bSb rfl (bSb rfl bSn)) ?_
    exact p_X11_layOut_36 hr (by decide)
  · refine b_s (pc' := 22) (lv1 := [(0, .ref 76), (1, bI v1)]) (st' := [.ref 76]) l171_21 (fun _ => rfl) ?_
    refine b_gp (q' := 102) (j := 26) l171_22 (by rfl) (by decide) (by decide) rfl hk rfl rfl (b_pc (pc' := 25) rfl ?_)
    refine b_s (pc' := 26) (lv1 := [(0, .ref 76), (1, bI v1)]) (st' := [bI v1, .ref 102]) l171_25 (fun _ => rfl) ?_
    refine b_s (pc' := 27) (lv1 := [(0, .ref 76), (1, bI v1)]) (st' := [bI 1, bI v1, .ref 102]) l171_26 (fun _ => rfl) ?_
    refine b_g fun g4 => ?_
    refine b_ias l171_27 (by rfl) g4 (by decide) (bD.ok fun hk2 => b_pc (pc' := 28) rfl ?_)
    refine b_inc (lv' := [(0, .ref 76), (1, bI (v1 + 1))]) l171_28 rfl (by decide +kernel) (bSb rfl (bSb rfl bSn)) fun g3 => (b_pc (pc' := 31) rfl ?_)
    refine b_s (pc' := 14) (lv1 := [(0, .ref 76), (1, bI (v1 + 1))]) (st' := []) l171_31 (fun _ => rfl) ?_
    refine bD.wk (lv' := [(0, .ref 76), (1, bI (v1 + 1))]) (bSb rfl (bSb rfl bSn)) ?_
    exact H14 (v1 + 1) (bset μ 102 v1.toNat 1) g3
theorem p_X11_layOut_14 {L : Nat} {xs : Nat → Int32} {d : Nat} {μ : bM}  {κ : (Int × bM) → Option bX} (hr : ∀ r : Int × bM, κ r = (bMc) r)  {v1 : Int} (h1 : bR v1) : bD L xs (d + 4) 171 14 [(0, .ref 76), (1, bI v1)] [] μ ((bLoop (fun z => F_X11_layOut_14 z.1 z.2) (v1, μ)).bind κ) :=
  b_loop (fun z => [(0, .ref 76), (1, bI z.1)]) (fun z => z.2) (fun z => bR z.1) (fun κ' hκ HH z hz => q_X11_layOut_14 (κ := κ') (fun r => (hκ _).trans (hr r)) (fun a1 am b1 => HH (a1, am) b1)  hz) (v1, μ) h1
theorem r_X11_layOut {L : Nat} {xs : Nat → Int32} {d : Nat} {μ : bM}   : bD L xs (d + 4) 171 0 [(0, .ref 76)] [] μ ((F_X11_layOut μ).bind (bMc)) := by
  have hr : ∀ r, (bMc) r = (bMc) r := fun _ => rfl
  unfold F_X11_layOut
  refine bD.ok fun hk => ?_
  refine b_s (pc' := 1) (lv1 := [(0, .ref 76)]) (st' := [.ref 76]) l171_0 (fun _ => rfl) ?_
  refine b_cMv l171_1 rfl (b_rc (ci := 9) (by rfl) (by decide) (by decide +kernel)) (Nat.le_of_ble_eq_true rfl) (Nat.le_of_ble_eq_true rfl) rfl (r_X11_goThrough ) fun w1 μ2 hw1 => bD.ok fun hk3 => b_pc (pc' := 4) rfl ?_
  refine b_s (pc' := 5) (lv1 := [(0, .ref 76)]) (st' := [.ref 76]) l171_4 (fun _ => rfl) ?_
  refine b_cMv l171_5 rfl (b_rc (ci := 9) (by rfl) (by decide) (by decide +kernel)) (Nat.le_of_ble_eq_true rfl) (Nat.le_of_ble_eq_true rfl) rfl (r_X11_findShapes ) fun w4 μ5 hw4 => bD.ok fun hk6 => b_pc (pc' := 8) rfl ?_
  refine b_s (pc' := 9) (lv1 := [(0, .ref 76)]) (st' := [.ref 76]) l171_8 (fun _ => rfl) ?_
  refine b_cMv l171_9 rfl (b_rc (ci := 9) (by rfl) (by decide) (by decide +kernel)) (Nat.le_of_ble_eq_true rfl) (Nat.le_of_ble_eq_true rfl) rfl (r_X11_findTexts ) fun w7 μ8 hw7 => bD.ok fun hk9 => b_pc (pc' := 12) rfl ?_
  refine b_s (pc' := 13) (lv1 := [(0, .ref 76)]) (st' := [bI 0]) l171_12 (fun _ => rfl) ?_
  refine b_w (pc' := 14) (lv1 := ax_st1 [(0, .ref 76)] 1 (bI 0)) (lv' := [(0, .ref 76), (1, bI 0)]) (st' := []) l171_13 (fun _ => rfl) (bSb rfl (bSb rfl bSn)) ?_
  refine bD.wk (lv' := [(0, .ref 76), (1, bI 0)]) (bSb rfl (bSb rfl bSn)) ?_
  exact p_X11_layOut_14 hr (by decide)
/-! ETModel.put -/
theorem l172_0 : (ax_dt (ax_T 172)).lookup 0 = some (.aload_n 0, 1, 0, 0, 0) := by decide +kernel
theorem l172_1 : (ax_dt (ax_T 172)).lookup 1 = some (.getfield 62, 3, 9, 19, 0) := by decide +kernel
theorem l172_4 : (ax_dt (ax_T 172)).lookup 4 = some (.aload_n 0, 1, 0, 0, 0) := by decide +kernel
theorem l172_5 : (ax_dt (ax_T 172)).lookup 5 = some (.getfield 253, 3, 9, 36, 0) := by decide +kernel
theorem l172_8 : (ax_dt (ax_T 172)).lookup 8 = some (.iload_n 1, 1, 0, 0, 0) := by decide +kernel
theorem l172_9 : (ax_dt (ax_T 172)).lookup 9 = some (.i2b, 1, 0, 0, 0) := by decide +kernel
theorem l172_10 : (ax_dt (ax_T 172)).lookup 10 = some (.bastore, 1, 0, 0, 0) := by decide +kernel
theorem l172_11 : (ax_dt (ax_T 172)).lookup 11 = some (.aload_n 0, 1, 0, 0, 0) := by decide +kernel
theorem l172_12 : (ax_dt (ax_T 172)).lookup 12 = some (.dup, 1, 0, 0, 0) := by decide +kernel
theorem l172_13 : (ax_dt (ax_T 172)).lookup 13 = some (.getfield 253, 3, 9, 36, 0) := by decide +kernel
theorem l172_16 : (ax_dt (ax_T 172)).lookup 16 = some (.iconst 1, 1, 0, 0, 0) := by decide +kernel
theorem l172_17 : (ax_dt (ax_T 172)).lookup 17 = some (.iadd, 1, 0, 0, 0) := by decide +kernel
theorem l172_18 : (ax_dt (ax_T 172)).lookup 18 = some (.putfield 253, 3, 9, 36, 0) := by decide +kernel
theorem l172_21 : (ax_dt (ax_T 172)).lookup 21 = some (.return_, 1, 0, 0, 0) := by decide +kernel
noncomputable def F_X11_put (v1 : Int) (μ : bM) : Option (Int × bM) := bG (0 ≤ (μ 76 36) ∧ (μ 76 36) < 40000) (bG (bR (((bset μ 93 (μ 76 36).toNat (b8 v1)) 76 36) + 1)) (some (0, (bset (bset μ 93 (μ 76 36).toNat (b8 v1)) 76 36 (((bset μ 93 (μ 76 36).toNat (b8 v1)) 76 36) + 1)))))
theorem r_X11_put {L : Nat} {xs : Nat → Int32} {d : Nat} {μ : bM}  (v1 : Int) (h1 : bR v1) : bD L xs (d + 0) 172 0 [(0, .ref 76), (1, bI v1)] [] μ ((F_X11_put v1 μ).bind (bMc)) := by
  have hr : ∀ r, (bMc) r = (bMc) r := fun _ => rfl
  unfold F_X11_put
  refine bD.ok fun hk => ?_
  refine b_s (pc' := 1) (lv1 := [(0, .ref 76), (1, bI v1)]) (st' := [.ref 76]) l172_0 (fun _ => rfl) ?_
  refine b_gp (q' := 93) (j := 17) l172_1 (by rfl) (by decide) (by decide) rfl hk rfl rfl (b_pc (pc' := 4) rfl ?_)
  refine b_s (pc' := 5) (lv1 := [(0, .ref 76), (1, bI v1)]) (st' := [.ref 76, .ref 93]) l172_4 (fun _ => rfl) ?_
  refine b_gi l172_5 (by rfl) (by decide) (by decide) rfl (b_pc (pc' := 8) rfl ?_)
  refine b_s (pc' := 9) (lv1 := [(0, .ref 76), (1, bI v1)]) (st' := [bI v1, bI (μ 76 36), .ref 93]) l172_8 (fun _ => rfl) ?_
  refine b_i2b l172_9 (b_pc (pc' := 10) rfl ?_)
  refine b_g fun g4 => ?_
  refine b_bas l172_10 (by rfl) g4 (b8_B _) (bD.ok fun hk1 => b_pc (pc' := 11) rfl ?_)
  refine b_s (pc' := 12) (lv1 := [(0, .ref 76), (1, bI v1)]) (st' := [.ref 76]) l172_11 (fun _ => rfl) ?_
  refine b_s (pc' := 13) (lv1 := [(0, .ref 76), (1, bI v1)]) (st' := [.ref 76, .ref 76]) l172_12 (fun _ => rfl) ?_
  refine b_gi l172_13 (by rfl) (by decide) (by decide) rfl (b_pc (pc' := 16) rfl ?_)
  refine b_s (pc' := 17) (lv1 := [(0, .ref 76), (1, bI v1)]) (st' := [bI 1, bI ((bset μ 93 (μ 76 36).toNat (b8 v1)) 76 36), .ref 76]) l172_16 (fun _ => rfl) ?_
  refine b_iadd l172_17 fun g2 => (b_pc (pc' := 18) rfl ?_)
  refine b_pi l172_18 (by rfl) (by decide) (by decide) rfl rfl g2 (bD.ok fun hk3 => b_pc (pc' := 21) rfl ?_)
  exact b_retv l172_21 rfl (hr _)
/-! ETModel.putRow -/
theorem l173_0 : (ax_dt (ax_T 173)).lookup 0 = some (.lload_n 1, 1, 0, 0, 0) := by decide +kernel
theorem l173_1 : (ax_dt (ax_T 173)).lookup 1 = some (.lstore_n 3, 1, 0, 0, 0) := by decide +kernel
theorem l173_2 : (ax_dt (ax_T 173)).lookup 2 = some (.lload_n 3, 1, 0, 0, 0) := by decide +kernel
theorem l173_3 : (ax_dt (ax_T 173)).lookup 3 = some (.ldc2_w 223, 3, 0, 0, 127) := by decide +kernel
theorem l173_6 : (ax_dt (ax_T 173)).lookup 6 = some (.lcmp, 1, 0, 0, 0) := by decide +kernel
theorem l173_7 : (ax_dt (ax_T 173)).lookup 7 = some (.ifCond .le 26, 3, 0, 0, 0) := by decide +kernel
theorem l173_10 : (ax_dt (ax_T 173)).lookup 10 = some (.aload_n 0, 1, 0, 0, 0) := by decide +kernel
theorem l173_11 : (ax_dt (ax_T 173)).lookup 11 = some (.lload_n 3, 1, 0, 0, 0) := by decide +kernel
theorem l173_12 : (ax_dt (ax_T 173)).lookup 12 = some (.ldc2_w 225, 3, 0, 0, 128) := by decide +kernel
theorem l173_15 : (ax_dt (ax_T 173)).lookup 15 = some (.lrem, 1, 0, 0, 0) := by decide +kernel
theorem l173_16 : (ax_dt (ax_T 173)).lookup 16 = some (.l2i, 1, 0, 0, 0) := by decide +kernel
theorem l173_17 : (ax_dt (ax_T 173)).lookup 17 = some (.sipush 128, 3, 0, 0, 0) := by decide +kernel
theorem l173_20 : (ax_dt (ax_T 173)).lookup 20 = some (.iadd, 1, 0, 0, 0) := by decide +kernel
theorem l173_21 : (ax_dt (ax_T 173)).lookup 21 = some (.invokevirtual 256, 3, 172, 1, 0) := by decide +kernel
theorem l173_24 : (ax_dt (ax_T 173)).lookup 24 = some (.lload_n 3, 1, 0, 0, 0) := by decide +kernel
theorem l173_25 : (ax_dt (ax_T 173)).lookup 25 = some (.ldc2_w 225, 3, 0, 0, 128) := by decide +kernel
theorem l173_28 : (ax_dt (ax_T 173)).lookup 28 = some (.ldiv, 1, 0, 0, 0) := by decide +kernel
theorem l173_29 : (ax_dt (ax_T 173)).lookup 29 = some (.lstore_n 3, 1, 0, 0, 0) := by decide +kernel
theorem l173_30 : (ax_dt (ax_T 173)).lookup 30 = some (.goto (-28), 3, 0, 0, 0) := by decide +kernel
theorem l173_33 : (ax_dt (ax_T 173)).lookup 33 = some (.aload_n 0, 1, 0, 0, 0) := by decide +kernel
theorem l173_34 : (ax_dt (ax_T 173)).lookup 34 = some (.lload_n 3, 1, 0, 0, 0) := by decide +kernel
theorem l173_35 : (ax_dt (ax_T 173)).lookup 35 = some (.l2i, 1, 0, 0, 0) := by decide +kernel
theorem l173_36 : (ax_dt (ax_T 173)).lookup 36 = some (.invokevirtual 256, 3, 172, 1, 0) := by decide +kernel
theorem l173_39 : (ax_dt (ax_T 173)).lookup 39 = some (.return_, 1, 0, 0, 0) := by decide +kernel
noncomputable def F_X11_putRow_2 (v3 : Int) (μ : bM) : Option ((Int × bM) ⊕ (Int × bM)) := if (bCmp v3 127) ≤ 0 then bMm (F_X11_put (b32 v3) μ) (fun w2 μ3 => some (.inr (0, μ3))) else bG (bR ((b32 (bRemL v3 128)) + 128)) (bMm (F_X11_put ((b32 (bRemL v3 128)) + 128) μ) (fun w6 μ7 => some (.inl ((bDivL v3 128), μ7))))
noncomputable def F_X11_putRow (v1 : Int) (μ : bM) : Option (Int × bM) := bLoop (fun z => F_X11_putRow_2 z.1 z.2) (v1, μ)
theorem q_X11_putRow_2 {L : Nat} {xs : Nat → Int32} {d : Nat} {μ : bM}  {κ : ((Int × bM) ⊕ (Int × bM)) → Option bX} (hr : ∀ r : Int × bM, κ (.inr r) = (bMc) r) (H2 : ∀ (v3 : Int) (μ : bM), bRL v3 → bD L xs (d + 1) 173 2 [(0, .ref 76), (3, bLg v3)] [] μ (κ (.inl (v3, μ))))  {v3 : Int} (h3 : bRL v3) : bD L xs (d + 1) 173 2 [(0, .ref 76), (3, bLg v3)] [] μ ((F_X11_putRow_2 v3 μ).bind κ) := by
  unfold F_X11_putRow_2
  refine bD.ok fun hk => ?_
  refine b_s (pc' := 3) (lv1 := [(0, .ref 76), (3, bLg v3)]) (st' := [bLg v3]) l173_2 (fun _ => rfl) ?_
  refine b_s (pc' := 6) (lv1 := [(0, .ref 76), (3, bLg v3)]) (st' := [bLg 127, bLg v3]) l173_3 (fun _ => rfl) ?_
  refine b_lcmp l173_6 h3 (by decide) (b_pc (pc' := 7) rfl ?_)
  refine b_zle (pt := 33) l173_7 (bCmp_R _ _) (by decide) rfl (fun c1 => ?_) (fun c1 => b_pc (pc' := 10) rfl ?_)
  · refine b_s (pc' := 34) (lv1 := [(0, .ref 76), (3, bLg v3)]) (st' := [.ref 76]) l173_33 (fun _ => rfl) ?_
    refine b_s (pc' := 35) (lv1 := [(0, .ref 76), (3, bLg v3)]) (st' := [bLg v3, .ref 76]) l173_34 (fun _ => rfl) ?_
    refine b_l2i l173_35 (b_pc (pc' := 36) rfl ?_)
    refine b_cMv l173_36 rfl (b_rc (ci := 9) (by rfl) (by decide) (by decide +kernel)) (Nat.le_of_ble_eq_true rfl) (Nat.le_of_ble_eq_true rfl) rfl (r_X11_put (b32 v3) (b32_R _)) fun w2 μ3 hw2 => bD.ok fun hk4 => b_pc (pc' := 39) rfl ?_
    exact b_retv l173_39 rfl (hr _)
  · refine b_s (pc' := 11) (lv1 := [(0, .ref 76), (3, bLg v3)]) (st' := [.ref 76]) l173_10 (fun _ => rfl) ?_
    refine b_s (pc' := 12) (lv1 := [(0, .ref 76), (3, bLg v3)]) (st' := [bLg v3, .ref 76]) l173_11 (fun _ => rfl) ?_
    refine b_s (pc' := 15) (lv1 := [(0, .ref 76), (3, bLg v3)]) (st' := [bLg 128, bLg v3, .ref 76]) l173_12 (fun _ => rfl) ?_
    refine b_lrem l173_15 (by decide) (b_pc (pc' := 16) rfl ?_)
    refine b_l2i l173_16 (b_pc (pc' := 17) rfl ?_)
    refine b_sipush l173_17 (by decide) (b_pc (pc' := 20) rfl ?_)
    refine b_iadd l173_20 fun g5 => (b_pc (pc' := 21) rfl ?_)
    refine b_cMv l173_21 rfl (b_rc (ci := 9) (by rfl) (by decide) (by decide +kernel)) (Nat.le_of_ble_eq_true rfl) (Nat.le_of_ble_eq_true rfl) rfl (r_X11_put ((b32 (bRemL v3 128)) + 128) g5) fun w6 μ7 hw6 => bD.ok fun hk8 => b_pc (pc' := 24) rfl ?_
    refine b_s (pc' := 25) (lv1 := [(0, .ref 76), (3, bLg v3)]) (st' := [bLg v3]) l173_24 (fun _ => rfl) ?_
    refine b_s (pc' := 28) (lv1 := [(0, .ref 76), (3, bLg v3)]) (st' := [bLg 128, bLg v3]) l173_25 (fun _ => rfl) ?_
    refine b_ldiv l173_28 (by decide) (b_pc (pc' := 29) rfl ?_)
    refine b_w (pc' := 30) (lv1 := ax_st2 [(0, .ref 76), (3, bLg v3)] 3 (bLg (bDivL v3 128))) (lv' := [(0, .ref 76), (3, bLg (bDivL v3 128))]) (st' := []) l173_29 (fun _ => rfl) (bSb rfl (bSb rfl bSn)) ?_
    refine b_s (pc' := 2) (lv1 := [(0, .ref 76), (3, bLg (bDivL v3 128))]) (st' := []) l173_30 (fun _ => rfl) ?_
    refine bD.wk (lv' := [(0, .ref 76), (3, bLg (bDivL v3 128))]) (bSb rfl (bSb rfl bSn)) ?_
    exact H2 (bDivL v3 128) μ7 (bl_rg _)
theorem p_X11_putRow_2 {L : Nat} {xs : Nat → Int32} {d : Nat} {μ : bM}  {κ : (Int × bM) → Option bX} (hr : ∀ r : Int × bM, κ r = (bMc) r)  {v3 : Int} (h3 : bRL v3) : bD L xs (d + 1) 173 2 [(0, .ref 76), (3, bLg v3)] [] μ ((bLoop (fun z => F_X11_putRow_2 z.1 z.2) (v3, μ)).bind κ) :=
  b_loop (fun z => [(0, .ref 76), (3, bLg z.1)]) (fun z => z.2) (fun z => bRL z.1) (fun κ' hκ HH z hz => q_X11_putRow_2 (κ := κ') (fun r => (hκ _).trans (hr r)) (fun a3 am b3 => HH (a3, am) b3)  hz) (v3, μ) h3
theorem r_X11_putRow {L : Nat} {xs : Nat → Int32} {d : Nat} {μ : bM}  (v1 : Int) (h1 : bRL v1) : bD L xs (d + 1) 173 0 [(0, .ref 76), (1, bLg v1)] [] μ ((F_X11_putRow v1 μ).bind (bMc)) := by
  have hr : ∀ r, (bMc) r = (bMc) r := fun _ => rfl
  unfold F_X11_putRow
  refine bD.ok fun hk => ?_
  refine b_s (pc' := 1) (lv1 := [(0, .ref 76), (1, bLg v1)]) (st' := [bLg v1]) l173_0 (fun _ => rfl) ?_
  refine b_w (pc' := 2) (lv1 := ax_st2 [(0, .ref 76), (1, bLg v1)] 3 (bLg v1)) (lv' := [(0, .ref 76), (3, bLg v1)]) (st' := []) l173_1 (fun _ => rfl) (bSb rfl (bSb rfl bSn)) ?_
  refine bD.wk (lv' := [(0, .ref 76), (3, bLg v1)]) (bSb rfl (bSb rfl bSn)) ?_
  exact p_X11_putRow_2 hr h1
/-! ETModel.putSigned -/
theorem l174_0 : (ax_dt (ax_T 174)).lookup 0 = some (.lload_n 1, 1, 0, 0, 0) := by decide +kernel
theorem l174_1 : (ax_dt (ax_T 174)).lookup 1 = some (.lstore_n 3, 1, 0, 0, 0) := by decide +kernel
theorem l174_2 : (ax_dt (ax_T 174)).lookup 2 = some (.lload_n 3, 1, 0, 0, 0) := by decide +kernel
theorem l174_3 : (ax_dt (ax_T 174)).lookup 3 = some (.ldc2_w 227, 3, 0, 0, (-64)) := by decide +kernel
theorem l174_6 : (ax_dt (ax_T 174)).lookup 6 = some (.lcmp, 1, 0, 0, 0) := by decide +kernel
theorem l174_7 : (ax_dt (ax_T 174)).lookup 7 = some (.ifCond .lt 11, 3, 0, 0, 0) := by decide +kernel
theorem l174_10 : (ax_dt (ax_T 174)).lookup 10 = some (.lload_n 3, 1, 0, 0, 0) := by decide +kernel
theorem l174_11 : (ax_dt (ax_T 174)).lookup 11 = some (.ldc2_w 229, 3, 0, 0, 63) := by decide +kernel
theorem l174_14 : (ax_dt (ax_T 174)).lookup 14 = some (.lcmp, 1, 0, 0, 0) := by decide +kernel
theorem l174_15 : (ax_dt (ax_T 174)).lookup 15 = some (.ifCond .le 25, 3, 0, 0, 0) := by decide +kernel
theorem l174_18 : (ax_dt (ax_T 174)).lookup 18 = some (.aload_n 0, 1, 0, 0, 0) := by decide +kernel
theorem l174_19 : (ax_dt (ax_T 174)).lookup 19 = some (.lload_n 3, 1, 0, 0, 0) := by decide +kernel
theorem l174_20 : (ax_dt (ax_T 174)).lookup 20 = some (.ldc2_w 223, 3, 0, 0, 127) := by decide +kernel
theorem l174_23 : (ax_dt (ax_T 174)).lookup 23 = some (.land, 1, 0, 0, 0) := by decide +kernel
theorem l174_24 : (ax_dt (ax_T 174)).lookup 24 = some (.l2i, 1, 0, 0, 0) := by decide +kernel
theorem l174_25 : (ax_dt (ax_T 174)).lookup 25 = some (.sipush 128, 3, 0, 0, 0) := by decide +kernel
theorem l174_28 : (ax_dt (ax_T 174)).lookup 28 = some (.iadd, 1, 0, 0, 0) := by decide +kernel
theorem l174_29 : (ax_dt (ax_T 174)).lookup 29 = some (.invokevirtual 256, 3, 172, 1, 0) := by decide +kernel
theorem l174_32 : (ax_dt (ax_T 174)).lookup 32 = some (.lload_n 3, 1, 0, 0, 0) := by decide +kernel
theorem l174_33 : (ax_dt (ax_T 174)).lookup 33 = some (.bipush 7, 2, 0, 0, 0) := by decide +kernel
theorem l174_35 : (ax_dt (ax_T 174)).lookup 35 = some (.lshr, 1, 0, 0, 0) := by decide +kernel
theorem l174_36 : (ax_dt (ax_T 174)).lookup 36 = some (.lstore_n 3, 1, 0, 0, 0) := by decide +kernel
theorem l174_37 : (ax_dt (ax_T 174)).lookup 37 = some (.goto (-35), 3, 0, 0, 0) := by decide +kernel
theorem l174_40 : (ax_dt (ax_T 174)).lookup 40 = some (.aload_n 0, 1, 0, 0, 0) := by decide +kernel
theorem l174_41 : (ax_dt (ax_T 174)).lookup 41 = some (.lload_n 3, 1, 0, 0, 0) := by decide +kernel
theorem l174_42 : (ax_dt (ax_T 174)).lookup 42 = some (.ldc2_w 223, 3, 0, 0, 127) := by decide +kernel
theorem l174_45 : (ax_dt (ax_T 174)).lookup 45 = some (.land, 1, 0, 0, 0) := by decide +kernel
theorem l174_46 : (ax_dt (ax_T 174)).lookup 46 = some (.l2i, 1, 0, 0, 0) := by decide +kernel
theorem l174_47 : (ax_dt (ax_T 174)).lookup 47 = some (.invokevirtual 256, 3, 172, 1, 0) := by decide +kernel
theorem l174_50 : (ax_dt (ax_T 174)).lookup 50 = some (.return_, 1, 0, 0, 0) := by decide +kernel
noncomputable def F_X11_putSigned_18 (v3 : Int) (μ : bM) : Option ((Int × bM) ⊕ (Int × bM)) := bG (bR ((b32 (bAndL v3 127)) + 128)) (bMm (F_X11_put ((b32 (bAndL v3 127)) + 128) μ) (fun w2 μ3 => some (.inl ((bShrL v3 7), μ3))))
noncomputable def F_X11_putSigned_2 (v3 : Int) (μ : bM) : Option ((Int × bM) ⊕ (Int × bM)) := if (bCmp v3 (-64)) < 0 then F_X11_putSigned_18 v3 μ else if (bCmp v3 63) ≤ 0 then bMm (F_X11_put (b32 (bAndL v3 127)) μ) (fun w3 μ4 => some (.inr (0, μ4))) else F_X11_putSigned_18 v3 μ
noncomputable def F_X11_putSigned (v1 : Int) (μ : bM) : Option (Int × bM) := bLoop (fun z => F_X11_putSigned_2 z.1 z.2) (v1, μ)
theorem p_X11_putSigned_18 {L : Nat} {xs : Nat → Int32} {d : Nat} {μ : bM}  {κ : ((Int × bM) ⊕ (Int × bM)) → Option bX} (hr : ∀ r : Int × bM, κ (.inr r) = (bMc) r) (H2 : ∀ (v3 : Int) (μ : bM), bRL v3 → bD L xs (d + 1) 174 2 [(0, .ref 76), (3, bLg v3)] [] μ (κ (.inl (v3, μ))))  {v3 : Int} (h3 : bRL v3) : bD L xs (d + 1) 174 18 [(0, .ref 76), (3, bLg v3)] [] μ ((F_X11_putSigned_18 v3 μ).bind κ) := by
  unfold F_X11_putSigned_18
  refine bD.ok fun hk => ?_
  refine b_s (pc' := 19) (lv1 := [(0, .ref 76), (3, bLg v3)]) (st' := [.ref 76]) l174_18 (fun _ => rfl) ?_
  refine b_s (pc' := 20) (lv1 := [(0, .ref 76), (3, bLg v3)]) (st' := [bLg v3, .ref 76]) l174_19 (fun _ => rfl) ?_
  refine b_s (pc' := 23) (lv1 := [(0, .ref 76), (3, bLg v3)]) (st' := [bLg 127, bLg v3, .ref 76]) l174_20 (fun _ => rfl) ?_
  refine b_land l174_23 (b_pc (pc' := 24) rfl ?_)
  refine b_l2i l174_24 (b_pc (pc' := 25) rfl ?_)
  refine b_sipush l174_25 (by decide) (b_pc (pc' := 28) rfl ?_)
  refine b_iadd l174_28 fun g1 => (b_pc (pc' := 29) rfl ?_)
  refine b_cMv l174_29 rfl (b_rc (ci := 9) (by rfl) (by decide) (by decide +kernel)) (Nat.le_of_ble_eq_true rfl) (Nat.le_of_ble_eq_true rfl) rfl (r_X11_put ((b32 (bAndL v3 127)) + 128) g1) fun w2 μ3 hw2 => bD.ok fun hk4 => b_pc (pc' := 32) rfl ?_
  refine b_s (pc' := 33) (lv1 := [(0, .ref 76), (3, bLg v3)]) (st' := [bLg v3]) l174_32 (fun _ => rfl) ?_
  refine b_bipush l174_33 (by decide) (b_pc (pc' := 35) rfl ?_)
  refine b_lshr l174_35 (b_pc (pc' := 36) rfl ?_)
  refine b_w (pc' := 37) (lv1 := ax_st2 [(0, .ref 76), (3, bLg v3)] 3 (bLg (bShrL v3 7))) (lv' := [(0, .ref 76), (3, bLg (bShrL v3 7))]) (st' := []) l174_36 (fun _ => rfl) (bSb rfl (bSb rfl bSn)) ?_
  refine b_s (pc' := 2) (lv1 := [(0, .ref 76), (3, bLg (bShrL v3 7))]) (st' := []) l174_37 (fun _ => rfl) ?_
  refine bD.wk (lv' := [(0, .ref 76), (3, bLg (bShrL v3 7))]) (bSb rfl (bSb rfl bSn)) ?_
  exact H2 (bShrL v3 7) μ3 (bl_rg _)
theorem q_X11_putSigned_2 {L : Nat} {xs : Nat → Int32} {d : Nat} {μ : bM}  {κ : ((Int × bM) ⊕ (Int × bM)) → Option bX} (hr : ∀ r : Int × bM, κ (.inr r) = (bMc) r) (H2 : ∀ (v3 : Int) (μ : bM), bRL v3 → bD L xs (d + 1) 174 2 [(0, .ref 76), (3, bLg v3)] [] μ (κ (.inl (v3, μ))))  {v3 : Int} (h3 : bRL v3) : bD L xs (d + 1) 174 2 [(0, .ref 76), (3, bLg v3)] [] μ ((F_X11_putSigned_2 v3 μ).bind κ) := by
  unfold F_X11_putSigned_2
  refine bD.ok fun hk => ?_
  refine b_s (pc' := 3) (lv1 := [(0, .ref 76), (3, bLg v3)]) (st' := [bLg v3]) l174_2 (fun _ => rfl) ?_
  refine b_s (pc' := 6) (lv1 := [(0, .ref 76), (3, bLg v3)]) (st' := [bLg (-64), bLg v3]) l174_3 (fun _ => rfl) ?_
  refine b_lcmp l174_6 h3 (by decide) (b_pc (pc' := 7) rfl ?_)
  refine b_zlt (pt := 18) l174_7 (bCmp_R _ _) (by decide) rfl (fun c1 => ?_) (fun c1 => b_pc (pc' := 10) rfl ?_)
  · refine bD.wk (lv' := [(0, .ref 76), (3, bLg v3)]) (bSb rfl (bSb rfl bSn)) ?_
    exact p_X11_putSigned_18 hr H2 h3
  · refine b_s (pc' := 11) (lv1 := [(0, .ref 76), (3, bLg v3)]) (st' := [bLg v3]) l174_10 (fun _ => rfl) ?_
    refine b_s (pc' := 14) (lv1 := [(0, .ref 76), (3, bLg v3)]) (st' := [bLg 63, bLg v3]) l174_11 (fun _ => rfl) ?_
    refine b_lcmp l174_14 h3 (by decide) (b_pc (pc' := 15) rfl ?_)
    refine b_zle (pt := 40) l174_15 (bCmp_R _ _) (by decide) rfl (fun c2 => ?_) (fun c2 => b_pc (pc' := 18) rfl ?_)
    · refine b_s (pc' := 41) (lv1 := [(0, .ref 76), (3, bLg v3)]) (st' := [.ref 76]) l174_40 (fun _ => rfl) ?_
      refine b_s (pc' := 42) (lv1 := [(0, .ref 76), (3, bLg v3)]) (st' := [bLg v3, .ref 76]) l174_41 (fun _ => rfl) ?_
      refine b_s (pc' := 45) (lv1 := [(0, .ref 76), (3, bLg v3)]) (st' := [bLg 127, bLg v3, .ref 76]) l174_42 (fun _ => rfl) ?_
      refine b_land l174_45 (b_pc (pc' := 46) rfl ?_)
      refine b_l2i l174_46 (b_pc (pc' := 47) rfl ?_)
      refine b_cMv l174_47 rfl (b_rc (ci := 9) (by rfl) (by decide) (by decide +kernel)) (Nat.le_of_ble_eq_true rfl) (Nat.le_of_ble_eq_true rfl) rfl (r_X11_put (b32 (bAndL v3 127)) (b32_R _)) fun w3 μ4 hw3 => bD.ok fun hk5 => b_pc (pc' := 50) rfl ?_
      exact b_retv l174_50 rfl (hr _)
    · refine bD.wk (lv' := [(0, .ref 76), (3, bLg v3)]) (bSb rfl (bSb rfl bSn)) ?_
      exact p_X11_putSigned_18 hr H2 h3
theorem p_X11_putSigned_2 {L : Nat} {xs : Nat → Int32} {d : Nat} {μ : bM}  {κ : (Int × bM) → Option bX} (hr : ∀ r : Int × bM, κ r = (bMc) r)  {v3 : Int} (h3 : bRL v3) : bD L xs (d + 1) 174 2 [(0, .ref 76), (3, bLg v3)] [] μ ((bLoop (fun z => F_X11_putSigned_2 z.1 z.2) (v3, μ)).bind κ) :=
  b_loop (fun z => [(0, .ref 76), (3, bLg z.1)]) (fun z => z.2) (fun z => bRL z.1) (fun κ' hκ HH z hz => q_X11_putSigned_2 (κ := κ') (fun r => (hκ _).trans (hr r)) (fun a3 am b3 => HH (a3, am) b3)  hz) (v3, μ) h3
theorem r_X11_putSigned {L : Nat} {xs : Nat → Int32} {d : Nat} {μ : bM}  (v1 : Int) (h1 : bRL v1) : bD L xs (d + 1) 174 0 [(0, .ref 76), (1, bLg v1)] [] μ ((F_X11_putSigned v1 μ).bind (bMc)) := by
  have hr : ∀ r, (bMc) r = (bMc) r := fun _ => rfl
  unfold F_X11_putSigned
  refine bD.ok fun hk => ?_
  refine b_s (pc' := 1) (lv1 := [(0, .ref 76), (1, bLg v1)]) (st' := [bLg v1]) l174_0 (fun _ => rfl) ?_
  refine b_w (pc' := 2) (lv1 := ax_st2 [(0, .ref 76), (1, bLg v1)] 3 (bLg v1)) (lv' := [(0, .ref 76), (3, bLg v1)]) (st' := []) l174_1 (fun _ => rfl) (bSb rfl (bSb rfl bSn)) ?_
  refine bD.wk (lv' := [(0, .ref 76), (3, bLg v1)]) (bSb rfl (bSb rfl bSn)) ?_
  exact p_X11_putSigned_2 hr h1
/-! ETModel.putNumber -/
theorem l175_0 : (ax_dt (ax_T 175)).lookup 0 = some (.iconst 0, 1, 0, 0, 0) := by decide +kernel
theorem l175_1 : (ax_dt (ax_T 175)).lookup 1 = some (.istore 4, 2, 0, 0, 0) := by decide +kernel
theorem l175_3 : (ax_dt (ax_T 175)).lookup 3 = some (.iload 4, 2, 0, 0, 0) := by decide +kernel
theorem l175_5 : (ax_dt (ax_T 175)).lookup 5 = some (.iload_n 3, 1, 0, 0, 0) := by decide +kernel
theorem l175_6 : (ax_dt (ax_T 175)).lookup 6 = some (.if_icmp .ge 21, 3, 0, 0, 0) := by decide +kernel
theorem l175_9 : (ax_dt (ax_T 175)).lookup 9 = some (.aload_n 0, 1, 0, 0, 0) := by decide +kernel
theorem l175_10 : (ax_dt (ax_T 175)).lookup 10 = some (.lload_n 1, 1, 0, 0, 0) := by decide +kernel
theorem l175_11 : (ax_dt (ax_T 175)).lookup 11 = some (.bipush 8, 2, 0, 0, 0) := by decide +kernel
theorem l175_13 : (ax_dt (ax_T 175)).lookup 13 = some (.iload 4, 2, 0, 0, 0) := by decide +kernel
theorem l175_15 : (ax_dt (ax_T 175)).lookup 15 = some (.imul, 1, 0, 0, 0) := by decide +kernel
theorem l175_16 : (ax_dt (ax_T 175)).lookup 16 = some (.lshr, 1, 0, 0, 0) := by decide +kernel
theorem l175_17 : (ax_dt (ax_T 175)).lookup 17 = some (.l2i, 1, 0, 0, 0) := by decide +kernel
theorem l175_18 : (ax_dt (ax_T 175)).lookup 18 = some (.invokevirtual 256, 3, 172, 1, 0) := by decide +kernel
theorem l175_21 : (ax_dt (ax_T 175)).lookup 21 = some (.iinc 4 1, 3, 0, 0, 0) := by decide +kernel
theorem l175_24 : (ax_dt (ax_T 175)).lookup 24 = some (.goto (-21), 3, 0, 0, 0) := by decide +kernel
theorem l175_27 : (ax_dt (ax_T 175)).lookup 27 = some (.return_, 1, 0, 0, 0) := by decide +kernel
noncomputable def F_X11_putNumber_3 (v1 : Int) (v3 : Int) (v4 : Int) (μ : bM) : Option ((Int × bM) ⊕ (Int × bM)) := if v3 ≤ v4 then some (.inr (0, μ)) else bG (bR (8 * v4)) (bMm (F_X11_put (b32 (bShrL v1 (8 * v4))) μ) (fun w3 μ4 => bG (bR (v4 + 1)) (some (.inl ((v4 + 1), μ4)))))
noncomputable def F_X11_putNumber (v1 : Int) (v3 : Int) (μ : bM) : Option (Int × bM) := bLoop (fun z => F_X11_putNumber_3 v1 v3 z.1 z.2) (0, μ)
theorem q_X11_putNumber_3 {L : Nat} {xs : Nat → Int32} {d : Nat} {μ : bM} {v1 : Int} {v3 : Int} {κ : ((Int × bM) ⊕ (Int × bM)) → Option bX} (hr : ∀ r : Int × bM, κ (.inr r) = (bMc) r) (H3 : ∀ (v4 : Int) (μ : bM), bR v4 → bD L xs (d + 1) 175 3 [(0, .ref 76), (1, bLg v1), (3, bI v3), (4, bI v4)] [] μ (κ (.inl (v4, μ))))  (h1 : bRL v1) (h3 : bR v3) {v4 : Int} (h4 : bR v4) : bD L xs (d + 1) 175 3 [(0, .ref 76), (1, bLg v1), (3, bI v3), (4, bI v4)] [] μ ((F_X11_putNumber_3 v1 v3 v4 μ).bind κ) := by
  unfold F_X11_putNumber_3
  refine bD.ok fun hk => ?_
  refine b_s (pc' := 5) (lv1 := [(0, .ref 76), (1, bLg v1), (3, bI v3), (4, bI v4)]) (st' := [bI v4]) l175_3 (fun _ => rfl) ?_
  refine b_s (pc' := 6) (lv1 := [(0, .ref 76), (1, bLg v1), (3, bI v3), (4, bI v4)]) (st' := [bI v3, bI v4]) l175_5 (fun _ => rfl) ?_
  refine b_ige (pt := 27) l175_6 h4 h3 (by decide) rfl (fun c1 => ?_) (fun c1 => b_pc (pc' := 9) rfl ?_)
  · exact b_retv l175_27 rfl (hr _)
  · refine b_s (pc' := 10) (lv1 := [(0, .ref 76), (1, bLg v1), (3, bI v3), (4, bI v4)]) (st' := [.ref 76]) l175_9 (fun _ => rfl) ?_
    refine b_s (pc' := 11) (lv1 := [(0, .ref 76), (1, bLg v1), (3, bI v3), (4, bI v4)]) (st' := [bLg v1, .ref 76]) l175_10 (fun _ => rfl) ?_
    refine b_bipush l175_11 (by decide) (b_pc (pc' := 13) rfl ?_)
    refine b_s (pc' := 15) (lv1 := [(0, .ref 76), (1, bLg v1), (3, bI v3), (4, bI v4)]) (st' := [bI v4, bI 8, bLg v1, .ref 76]) l175_13 (fun _ => rfl) ?_
    refine b_imul l175_15 fun g2 => (b_pc (pc' := 16) rfl ?_)
    refine b_lshr l175_16 (b_pc (pc' := 17) rfl ?_)
    refine b_l2i l175_17 (b_pc (pc' := 18) rfl ?_)
    refine b_cMv l175_18 rfl (b_rc (ci := 9) (by rfl) (by decide) (by decide +kernel)) (Nat.le_of_ble_eq_true rfl) (Nat.le_of_ble_eq_true rfl) rfl (r_X11_put (b32 (bShrL v1 (8 * v4))) (b32_R _)) fun w3 μ4 hw3 => bD.ok fun hk5 => b_pc (pc' := 21) rfl ?_
    refine b_inc (lv' := [(0, .ref 76), (1, bLg v1), (3, bI v3), (4, bI (v4 + 1))]) l175_21 rfl (by decide +kernel) (bSb rfl (bSb rfl (bSb rfl (bSb rfl bSn)))) fun g6 => (b_pc (pc' := 24) rfl ?_)
    refine b_s (pc' := 3) (lv1 := [(0, .ref 76), (1, bLg v1), (3, bI v3), (4, bI (v4 + 1))]) (st' := []) l175_24 (fun _ => rfl) ?_
    refine bD.wk (lv' := [(0, .ref 76), (1, bLg v1), (3, bI v3), (4, bI (v4 + 1))]) (bSb rfl (bSb rfl (bSb rfl (bSb rfl bSn)))) ?_
    exact H3 (v4 + 1) μ4 g6
theorem p_X11_putNumber_3 {L : Nat} {xs : Nat → Int32} {d : Nat} {μ : bM}  {κ : (Int × bM) → Option bX} (hr : ∀ r : Int × bM, κ r = (bMc) r)  {v1 : Int} (h1 : bRL v1) {v3 : Int} (h3 : bR v3) {v4 : Int} (h4 : bR v4) : bD L xs (d + 1) 175 3 [(0, .ref 76), (1, bLg v1), (3, bI v3), (4, bI v4)] [] μ ((bLoop (fun z => F_X11_putNumber_3 v1 v3 z.1 z.2) (v4, μ)).bind κ) :=
  b_loop (fun z => [(0, .ref 76), (1, bLg v1), (3, bI v3), (4, bI z.1)]) (fun z => z.2) (fun z => bR z.1) (fun κ' hκ HH z hz => q_X11_putNumber_3 (κ := κ') (fun r => (hκ _).trans (hr r)) (fun a4 am b4 => HH (a4, am) b4)  h1 h3 hz) (v4, μ) h4
theorem r_X11_putNumber {L : Nat} {xs : Nat → Int32} {d : Nat} {μ : bM}  (v1 : Int) (h1 : bRL v1) (v3 : Int) (h3 : bR v3) : bD L xs (d + 1) 175 0 [(0, .ref 76), (1, bLg v1), (3, bI v3)] [] μ ((F_X11_putNumber v1 v3 μ).bind (bMc)) := by
  have hr : ∀ r, (bMc) r = (bMc) r := fun _ => rfl
  unfold F_X11_putNumber
  refine bD.ok fun hk => ?_
  refine b_s (pc' := 1) (lv1 := [(0, .ref 76), (1, bLg v1), (3, bI v3)]) (st' := [bI 0]) l175_0 (fun _ => rfl) ?_
  refine b_w (pc' := 3) (lv1 := ax_st1 [(0, .ref 76), (1, bLg v1), (3, bI v3)] 4 (bI 0)) (lv' := [(0, .ref 76), (1, bLg v1), (3, bI v3), (4, bI 0)]) (st' := []) l175_1 (fun _ => rfl) (bSb rfl (bSb rfl (bSb rfl (bSb rfl bSn)))) ?_
  refine bD.wk (lv' := [(0, .ref 76), (1, bLg v1), (3, bI v3), (4, bI 0)]) (bSb rfl (bSb rfl (bSb rfl (bSb rfl bSn)))) ?_
  exact p_X11_putNumber_3 hr h1 h3 (by decide)
/-! ETModel.putText -/
theorem l176_0 : (ax_dt (ax_T 176)).lookup 0 = some (.iconst 0, 1, 0, 0, 0) := by decide +kernel
theorem l176_1 : (ax_dt (ax_T 176)).lookup 1 = some (.istore_n 2, 1, 0, 0, 0) := by decide +kernel
theorem l176_2 : (ax_dt (ax_T 176)).lookup 2 = some (.iload_n 2, 1, 0, 0, 0) := by decide +kernel
theorem l176_3 : (ax_dt (ax_T 176)).lookup 3 = some (.aload_n 0, 1, 0, 0, 0) := by decide +kernel
theorem l176_4 : (ax_dt (ax_T 176)).lookup 4 = some (.getfield 48, 3, 9, 15, 0) := by decide +kernel
theorem l176_7 : (ax_dt (ax_T 176)).lookup 7 = some (.iload_n 1, 1, 0, 0, 0) := by decide +kernel
theorem l176_8 : (ax_dt (ax_T 176)).lookup 8 = some (.iaload, 1, 0, 0, 0) := by decide +kernel
theorem l176_9 : (ax_dt (ax_T 176)).lookup 9 = some (.if_icmp .ge 26, 3, 0, 0, 0) := by decide +kernel
theorem l176_12 : (ax_dt (ax_T 176)).lookup 12 = some (.aload_n 0, 1, 0, 0, 0) := by decide +kernel
theorem l176_13 : (ax_dt (ax_T 176)).lookup 13 = some (.aload_n 0, 1, 0, 0, 0) := by decide +kernel
theorem l176_14 : (ax_dt (ax_T 176)).lookup 14 = some (.getfield 58, 3, 9, 18, 0) := by decide +kernel
theorem l176_17 : (ax_dt (ax_T 176)).lookup 17 = some (.aload_n 0, 1, 0, 0, 0) := by decide +kernel
theorem l176_18 : (ax_dt (ax_T 176)).lookup 18 = some (.getfield 45, 3, 9, 14, 0) := by decide +kernel
theorem l176_21 : (ax_dt (ax_T 176)).lookup 21 = some (.iload_n 1, 1, 0, 0, 0) := by decide +kernel
theorem l176_22 : (ax_dt (ax_T 176)).lookup 22 = some (.iaload, 1, 0, 0, 0) := by decide +kernel
theorem l176_23 : (ax_dt (ax_T 176)).lookup 23 = some (.iload_n 2, 1, 0, 0, 0) := by decide +kernel
theorem l176_24 : (ax_dt (ax_T 176)).lookup 24 = some (.iadd, 1, 0, 0, 0) := by decide +kernel
theorem l176_25 : (ax_dt (ax_T 176)).lookup 25 = some (.baload, 1, 0, 0, 0) := by decide +kernel
theorem l176_26 : (ax_dt (ax_T 176)).lookup 26 = some (.invokevirtual 256, 3, 172, 1, 0) := by decide +kernel
theorem l176_29 : (ax_dt (ax_T 176)).lookup 29 = some (.iinc 2 1, 3, 0, 0, 0) := by decide +kernel
theorem l176_32 : (ax_dt (ax_T 176)).lookup 32 = some (.goto (-30), 3, 0, 0, 0) := by decide +kernel
theorem l176_35 : (ax_dt (ax_T 176)).lookup 35 = some (.return_, 1, 0, 0, 0) := by decide +kernel
noncomputable def F_X11_putText_2 (v1 : Int) (v2 : Int) (μ : bM) : Option ((Int × bM) ⊕ (Int × bM)) := bG (0 ≤ v1 ∧ v1 < 6400) (if (μ 89 v1.toNat) ≤ v2 then some (.inr (0, μ)) else bG (0 ≤ v1 ∧ v1 < 6400) (bG (bR ((μ 88 v1.toNat) + v2)) (bG (0 ≤ ((μ 88 v1.toNat) + v2) ∧ ((μ 88 v1.toNat) + v2) < 180000) (bMm (F_X11_put (μ 92 ((μ 88 v1.toNat) + v2).toNat) μ) (fun w3 μ4 => bG (bR (v2 + 1)) (some (.inl ((v2 + 1), μ4))))))))
noncomputable def F_X11_putText (v1 : Int) (μ : bM) : Option (Int × bM) := bLoop (fun z => F_X11_putText_2 v1 z.1 z.2) (0, μ)
theorem q_X11_putText_2 {L : Nat} {xs : Nat → Int32} {d : Nat} {μ : bM} {v1 : Int} {κ : ((Int × bM) ⊕ (Int × bM)) → Option bX} (hr : ∀ r : Int × bM, κ (.inr r) = (bMc) r) (H2 : ∀ (v2 : Int) (μ : bM), bR v2 → bD L xs (d + 1) 176 2 [(0, .ref 76), (1, bI v1), (2, bI v2)] [] μ (κ (.inl (v2, μ))))  (h1 : bR v1) {v2 : Int} (h2 : bR v2) : bD L xs (d + 1) 176 2 [(0, .ref 76), (1, bI v1), (2, bI v2)] [] μ ((F_X11_putText_2 v1 v2 μ).bind κ) := by
  unfold F_X11_putText_2
  refine bD.ok fun hk => ?_
  refine b_s (pc' := 3) (lv1 := [(0, .ref 76), (1, bI v1), (2, bI v2)]) (st' := [bI v2]) l176_2 (fun _ => rfl) ?_
  refine b_s (pc' := 4) (lv1 := [(0, .ref 76), (1, bI v1), (2, bI v2)]) (st' := [.ref 76, bI v2]) l176_3 (fun _ => rfl) ?_
  refine b_gp (q' := 89) (j := 13) l176_4 (by rfl) (by decide) (by decide) rfl hk rfl rfl (b_pc (pc' := 7) rfl ?_)
  refine b_s (pc' := 8) (lv1 := [(0, .ref 76), (1, bI v1), (2, bI v2)]) (st' := [bI v1, .ref 89, bI v2]) l176_7 (fun _ => rfl) ?_
  refine b_g fun g9 => ?_
  refine b_ial l176_8 (by rfl) g9 (b_pc (pc' := 9) rfl ?_)
  refine b_ige (pt := 35) l176_9 h2 (bO_i hk (by rfl)) (by decide) rfl (fun c1 => ?_) (fun c1 => b_pc (pc' := 12) rfl ?_)
  · exact b_retv l176_35 rfl (hr _)
  · refine b_s (pc' := 13) (lv1 := [(0, .ref 76), (1, bI v1), (2, bI v2)]) (st' := [.ref 76]) l176_12 (fun _ => rfl) ?_
    refine b_s (pc' := 14) (lv1 := [(0, .ref 76), (1, bI v1), (2, bI v2)]) (st' := [.ref 76, .ref 76]) l176_13 (fun _ => rfl) ?_
    refine b_gp (q' := 92) (j := 16) l176_14 (by rfl) (by decide) (by decide) rfl hk rfl rfl (b_pc (pc' := 17) rfl ?_)
    refine b_s (pc' := 18) (lv1 := [(0, .ref 76), (1, bI v1), (2, bI v2)]) (st' := [.ref 76, .ref 92, .ref 76]) l176_17 (fun _ => rfl) ?_
    refine b_gp (q' := 88) (j := 12) l176_18 (by rfl) (by decide) (by decide) rfl hk rfl rfl (b_pc (pc' := 21) rfl ?_)
    refine b_s (pc' := 22) (lv1 := [(0, .ref 76), (1, bI v1), (2, bI v2)]) (st' := [bI v1, .ref 88, .ref 92, .ref 76]) l176_21 (fun _ => rfl) ?_
    refine b_g fun g8 => ?_
    refine b_ial l176_22 (by rfl) g8 (b_pc (pc' := 23) rfl ?_)
    refine b_s (pc' := 24) (lv1 := [(0, .ref 76), (1, bI v1), (2, bI v2)]) (st' := [bI v2, bI (μ 88 v1.toNat), .ref 92, .ref 76]) l176_23 (fun _ => rfl) ?_
    refine b_iadd l176_24 fun g2 => (b_pc (pc' := 25) rfl ?_)
    refine b_g fun g7 => ?_
    refine b_bal l176_25 (by rfl) g7 (b_pc (pc' := 26) rfl ?_)
    refine b_cMv l176_26 rfl (b_rc (ci := 9) (by rfl) (by decide) (by decide +kernel)) (Nat.le_of_ble_eq_true rfl) (Nat.le_of_ble_eq_true rfl) rfl (r_X11_put (μ 92 ((μ 88 v1.toNat) + v2).toNat) (bO_br hk (by rfl))) fun w3 μ4 hw3 => bD.ok fun hk5 => b_pc (pc' := 29) rfl ?_
    refine b_inc (lv' := [(0, .ref 76), (1, bI v1), (2, bI (v2 + 1))]) l176_29 rfl (by decide +kernel) (bSb rfl (bSb rfl (bSb rfl bSn))) fun g6 => (b_pc (pc' := 32) rfl ?_)
    refine b_s (pc' := 2) (lv1 := [(0, .ref 76), (1, bI v1), (2, bI (v2 + 1))]) (st' := []) l176_32 (fun _ => rfl) ?_
    refine bD.wk (lv' := [(0, .ref 76), (1, bI v1), (2, bI (v2 + 1))]) (bSb rfl (bSb rfl (bSb rfl bSn))) ?_
    exact H2 (v2 + 1) μ4 g6
theorem p_X11_putText_2 {L : Nat} {xs : Nat → Int32} {d : Nat} {μ : bM}  {κ : (Int × bM) → Option bX} (hr : ∀ r : Int × bM, κ r = (bMc) r)  {v1 : Int} (h1 : bR v1) {v2 : Int} (h2 : bR v2) : bD L xs (d + 1) 176 2 [(0, .ref 76), (1, bI v1), (2, bI v2)] [] μ ((bLoop (fun z => F_X11_putText_2 v1 z.1 z.2) (v2, μ)).bind κ) :=
  b_loop (fun z => [(0, .ref 76), (1, bI v1), (2, bI z.1)]) (fun z => z.2) (fun z => bR z.1) (fun κ' hκ HH z hz => q_X11_putText_2 (κ := κ') (fun r => (hκ _).trans (hr r)) (fun a2 am b2 => HH (a2, am) b2)  h1 hz) (v2, μ) h2
theorem r_X11_putText {L : Nat} {xs : Nat → Int32} {d : Nat} {μ : bM}  (v1 : Int) (h1 : bR v1) : bD L xs (d + 1) 176 0 [(0, .ref 76), (1, bI v1)] [] μ ((F_X11_putText v1 μ).bind (bMc)) := by
  have hr : ∀ r, (bMc) r = (bMc) r := fun _ => rfl
  unfold F_X11_putText
  refine bD.ok fun hk => ?_
  refine b_s (pc' := 1) (lv1 := [(0, .ref 76), (1, bI v1)]) (st' := [bI 0]) l176_0 (fun _ => rfl) ?_
  refine b_w (pc' := 2) (lv1 := ax_st1 [(0, .ref 76), (1, bI v1)] 2 (bI 0)) (lv' := [(0, .ref 76), (1, bI v1), (2, bI 0)]) (st' := []) l176_1 (fun _ => rfl) (bSb rfl (bSb rfl (bSb rfl bSn))) ?_
  refine bD.wk (lv' := [(0, .ref 76), (1, bI v1), (2, bI 0)]) (bSb rfl (bSb rfl (bSb rfl bSn))) ?_
  exact p_X11_putText_2 hr h1 (by decide)
/-! ETModel.putValue -/
theorem l177_0 : (ax_dt (ax_T 177)).lookup 0 = some (.aload_n 0, 1, 0, 0, 0) := by decide +kernel
theorem l177_1 : (ax_dt (ax_T 177)).lookup 1 = some (.getfield 38, 3, 9, 12, 0) := by decide +kernel
theorem l177_4 : (ax_dt (ax_T 177)).lookup 4 = some (.iload_n 1, 1, 0, 0, 0) := by decide +kernel
theorem l177_5 : (ax_dt (ax_T 177)).lookup 5 = some (.iaload, 1, 0, 0, 0) := by decide +kernel
theorem l177_6 : (ax_dt (ax_T 177)).lookup 6 = some (.tableswitch 187 8 21 #[96, 187, 128, 187, 187, 70, 109, 83, 187, 187, 187, 146, 187, 167], 70, 0, 0, 0) := by decide +kernel
theorem l177_76 : (ax_dt (ax_T 177)).lookup 76 = some (.aload_n 0, 1, 0, 0, 0) := by decide +kernel
theorem l177_77 : (ax_dt (ax_T 177)).lookup 77 = some (.aload_n 0, 1, 0, 0, 0) := by decide +kernel
theorem l177_78 : (ax_dt (ax_T 177)).lookup 78 = some (.getfield 41, 3, 9, 13, 0) := by decide +kernel
theorem l177_81 : (ax_dt (ax_T 177)).lookup 81 = some (.iload_n 1, 1, 0, 0, 0) := by decide +kernel
theorem l177_82 : (ax_dt (ax_T 177)).lookup 82 = some (.laload, 1, 0, 0, 0) := by decide +kernel
theorem l177_83 : (ax_dt (ax_T 177)).lookup 83 = some (.invokevirtual 260, 3, 174, 1, 0) := by decide +kernel
theorem l177_86 : (ax_dt (ax_T 177)).lookup 86 = some (.goto 122, 3, 0, 0, 0) := by decide +kernel
theorem l177_89 : (ax_dt (ax_T 177)).lookup 89 = some (.aload_n 0, 1, 0, 0, 0) := by decide +kernel
theorem l177_90 : (ax_dt (ax_T 177)).lookup 90 = some (.aload_n 0, 1, 0, 0, 0) := by decide +kernel
theorem l177_91 : (ax_dt (ax_T 177)).lookup 91 = some (.getfield 41, 3, 9, 13, 0) := by decide +kernel
theorem l177_94 : (ax_dt (ax_T 177)).lookup 94 = some (.iload_n 1, 1, 0, 0, 0) := by decide +kernel
theorem l177_95 : (ax_dt (ax_T 177)).lookup 95 = some (.laload, 1, 0, 0, 0) := by decide +kernel
theorem l177_96 : (ax_dt (ax_T 177)).lookup 96 = some (.invokevirtual 264, 3, 173, 1, 0) := by decide +kernel
theorem l177_99 : (ax_dt (ax_T 177)).lookup 99 = some (.goto 109, 3, 0, 0, 0) := by decide +kernel
theorem l177_102 : (ax_dt (ax_T 177)).lookup 102 = some (.aload_n 0, 1, 0, 0, 0) := by decide +kernel
theorem l177_103 : (ax_dt (ax_T 177)).lookup 103 = some (.iload_n 1, 1, 0, 0, 0) := by decide +kernel
theorem l177_104 : (ax_dt (ax_T 177)).lookup 104 = some (.invokevirtual 267, 3, 176, 1, 0) := by decide +kernel
theorem l177_107 : (ax_dt (ax_T 177)).lookup 107 = some (.aload_n 0, 1, 0, 0, 0) := by decide +kernel
theorem l177_108 : (ax_dt (ax_T 177)).lookup 108 = some (.iconst 0, 1, 0, 0, 0) := by decide +kernel
theorem l177_109 : (ax_dt (ax_T 177)).lookup 109 = some (.invokevirtual 256, 3, 172, 1, 0) := by decide +kernel
theorem l177_112 : (ax_dt (ax_T 177)).lookup 112 = some (.goto 96, 3, 0, 0, 0) := by decide +kernel
theorem l177_115 : (ax_dt (ax_T 177)).lookup 115 = some (.aload_n 0, 1, 0, 0, 0) := by decide +kernel
theorem l177_116 : (ax_dt (ax_T 177)).lookup 116 = some (.aload_n 0, 1, 0, 0, 0) := by decide +kernel
theorem l177_117 : (ax_dt (ax_T 177)).lookup 117 = some (.getfield 83, 3, 9, 31, 0) := by decide +kernel
theorem l177_120 : (ax_dt (ax_T 177)).lookup 120 = some (.aload_n 0, 1, 0, 0, 0) := by decide +kernel
theorem l177_121 : (ax_dt (ax_T 177)).lookup 121 = some (.iload_n 1, 1, 0, 0, 0) := by decide +kernel
theorem l177_122 : (ax_dt (ax_T 177)).lookup 122 = some (.invokevirtual 220, 3, 165, 1, 0) := by decide +kernel
theorem l177_125 : (ax_dt (ax_T 177)).lookup 125 = some (.iaload, 1, 0, 0, 0) := by decide +kernel
theorem l177_126 : (ax_dt (ax_T 177)).lookup 126 = some (.i2l, 1, 0, 0, 0) := by decide +kernel
theorem l177_127 : (ax_dt (ax_T 177)).lookup 127 = some (.iconst 4, 1, 0, 0, 0) := by decide +kernel
theorem l177_128 : (ax_dt (ax_T 177)).lookup 128 = some (.invokevirtual 270, 3, 175, 2, 0) := by decide +kernel
theorem l177_131 : (ax_dt (ax_T 177)).lookup 131 = some (.goto 77, 3, 0, 0, 0) := by decide +kernel
theorem l177_134 : (ax_dt (ax_T 177)).lookup 134 = some (.aload_n 0, 1, 0, 0, 0) := by decide +kernel
theorem l177_135 : (ax_dt (ax_T 177)).lookup 135 = some (.aload_n 0, 1, 0, 0, 0) := by decide +kernel
theorem l177_136 : (ax_dt (ax_T 177)).lookup 136 = some (.getfield 48, 3, 9, 15, 0) := by decide +kernel
theorem l177_139 : (ax_dt (ax_T 177)).lookup 139 = some (.iload_n 1, 1, 0, 0, 0) := by decide +kernel
theorem l177_140 : (ax_dt (ax_T 177)).lookup 140 = some (.iaload, 1, 0, 0, 0) := by decide +kernel
theorem l177_141 : (ax_dt (ax_T 177)).lookup 141 = some (.invokevirtual 256, 3, 172, 1, 0) := by decide +kernel
theorem l177_144 : (ax_dt (ax_T 177)).lookup 144 = some (.aload_n 0, 1, 0, 0, 0) := by decide +kernel
theorem l177_145 : (ax_dt (ax_T 177)).lookup 145 = some (.iload_n 1, 1, 0, 0, 0) := by decide +kernel
theorem l177_146 : (ax_dt (ax_T 177)).lookup 146 = some (.invokevirtual 267, 3, 176, 1, 0) := by decide +kernel
theorem l177_149 : (ax_dt (ax_T 177)).lookup 149 = some (.goto 59, 3, 0, 0, 0) := by decide +kernel
theorem l177_152 : (ax_dt (ax_T 177)).lookup 152 = some (.aload_n 0, 1, 0, 0, 0) := by decide +kernel
theorem l177_153 : (ax_dt (ax_T 177)).lookup 153 = some (.aload_n 0, 1, 0, 0, 0) := by decide +kernel
theorem l177_154 : (ax_dt (ax_T 177)).lookup 154 = some (.getfield 86, 3, 9, 33, 0) := by decide +kernel
theorem l177_157 : (ax_dt (ax_T 177)).lookup 157 = some (.aload_n 0, 1, 0, 0, 0) := by decide +kernel
theorem l177_158 : (ax_dt (ax_T 177)).lookup 158 = some (.getfield 41, 3, 9, 13, 0) := by decide +kernel
theorem l177_161 : (ax_dt (ax_T 177)).lookup 161 = some (.iload_n 1, 1, 0, 0, 0) := by decide +kernel
theorem l177_162 : (ax_dt (ax_T 177)).lookup 162 = some (.laload, 1, 0, 0, 0) := by decide +kernel
theorem l177_163 : (ax_dt (ax_T 177)).lookup 163 = some (.l2i, 1, 0, 0, 0) := by decide +kernel
theorem l177_164 : (ax_dt (ax_T 177)).lookup 164 = some (.iaload, 1, 0, 0, 0) := by decide +kernel
theorem l177_165 : (ax_dt (ax_T 177)).lookup 165 = some (.i2l, 1, 0, 0, 0) := by decide +kernel
theorem l177_166 : (ax_dt (ax_T 177)).lookup 166 = some (.iconst 4, 1, 0, 0, 0) := by decide +kernel
theorem l177_167 : (ax_dt (ax_T 177)).lookup 167 = some (.invokevirtual 270, 3, 175, 2, 0) := by decide +kernel
theorem l177_170 : (ax_dt (ax_T 177)).lookup 170 = some (.goto 38, 3, 0, 0, 0) := by decide +kernel
theorem l177_173 : (ax_dt (ax_T 177)).lookup 173 = some (.aload_n 0, 1, 0, 0, 0) := by decide +kernel
theorem l177_174 : (ax_dt (ax_T 177)).lookup 174 = some (.aload_n 0, 1, 0, 0, 0) := by decide +kernel
theorem l177_175 : (ax_dt (ax_T 177)).lookup 175 = some (.getfield 86, 3, 9, 33, 0) := by decide +kernel
theorem l177_178 : (ax_dt (ax_T 177)).lookup 178 = some (.aload_n 0, 1, 0, 0, 0) := by decide +kernel
theorem l177_179 : (ax_dt (ax_T 177)).lookup 179 = some (.getfield 41, 3, 9, 13, 0) := by decide +kernel
theorem l177_182 : (ax_dt (ax_T 177)).lookup 182 = some (.iload_n 1, 1, 0, 0, 0) := by decide +kernel
theorem l177_183 : (ax_dt (ax_T 177)).lookup 183 = some (.laload, 1, 0, 0, 0) := by decide +kernel
theorem l177_184 : (ax_dt (ax_T 177)).lookup 184 = some (.l2i, 1, 0, 0, 0) := by decide +kernel
theorem l177_185 : (ax_dt (ax_T 177)).lookup 185 = some (.iaload, 1, 0, 0, 0) := by decide +kernel
theorem l177_186 : (ax_dt (ax_T 177)).lookup 186 = some (.i2l, 1, 0, 0, 0) := by decide +kernel
theorem l177_187 : (ax_dt (ax_T 177)).lookup 187 = some (.invokevirtual 264, 3, 173, 1, 0) := by decide +kernel
theorem l177_190 : (ax_dt (ax_T 177)).lookup 190 = some (.goto 18, 3, 0, 0, 0) := by decide +kernel
theorem l177_193 : (ax_dt (ax_T 177)).lookup 193 = some (.aload_n 0, 1, 0, 0, 0) := by decide +kernel
theorem l177_194 : (ax_dt (ax_T 177)).lookup 194 = some (.aload_n 0, 1, 0, 0, 0) := by decide +kernel
theorem l177_195 : (ax_dt (ax_T 177)).lookup 195 = some (.getfield 41, 3, 9, 13, 0) := by decide +kernel
theorem l177_198 : (ax_dt (ax_T 177)).lookup 198 = some (.iload_n 1, 1, 0, 0, 0) := by decide +kernel
theorem l177_199 : (ax_dt (ax_T 177)).lookup 199 = some (.laload, 1, 0, 0, 0) := by decide +kernel
theorem l177_200 : (ax_dt (ax_T 177)).lookup 200 = some (.aload_n 0, 1, 0, 0, 0) := by decide +kernel
theorem l177_201 : (ax_dt (ax_T 177)).lookup 201 = some (.iload_n 1, 1, 0, 0, 0) := by decide +kernel
theorem l177_202 : (ax_dt (ax_T 177)).lookup 202 = some (.invokevirtual 238, 3, 169, 1, 0) := by decide +kernel
theorem l177_205 : (ax_dt (ax_T 177)).lookup 205 = some (.invokevirtual 270, 3, 175, 2, 0) := by decide +kernel
theorem l177_208 : (ax_dt (ax_T 177)).lookup 208 = some (.return_, 1, 0, 0, 0) := by decide +kernel
noncomputable def F_X11_putValue_193 (v1 : Int) (μ : bM) : Option (Int × bM) := bG (0 ≤ v1 ∧ v1 < 6400) ((F_X11_sizeOf v1 μ).bind fun w1 => bMm (F_X11_putNumber (μ 87 v1.toNat) w1 μ) (fun w2 μ3 => some (0, μ3)))
noncomputable def F_X11_putValue (v1 : Int) (μ : bM) : Option (Int × bM) := bG (0 ≤ v1 ∧ v1 < 6400) (if (μ 86 v1.toNat) = 8 then bMm (F_X11_putText v1 μ) (fun w1 μ2 => bMm (F_X11_put 0 μ2) (fun w4 μ5 => some (0, μ5))) else if (μ 86 v1.toNat) = 9 then F_X11_putValue_193 v1 μ else if (μ 86 v1.toNat) = 10 then bG (0 ≤ v1 ∧ v1 < 6400) (bMm (F_X11_put (μ 89 v1.toNat) μ) (fun w7 μ8 => bMm (F_X11_putText v1 μ8) (fun w10 μ11 => some (0, μ11)))) else if (μ 86 v1.toNat) = 11 then F_X11_putValue_193 v1 μ else if (μ 86 v1.toNat) = 12 then F_X11_putValue_193 v1 μ else if (μ 86 v1.toNat) = 13 then bG (0 ≤ v1 ∧ v1 < 6400) (bMm (F_X11_putSigned (μ 87 v1.toNat) μ) (fun w14 μ15 => some (0, μ15))) else if (μ 86 v1.toNat) = 14 then (F_X11_textOf v1 μ).bind fun w18 => bG (0 ≤ w18 ∧ w18 < 3200) (bMm (F_X11_putNumber (μ 100 w18.toNat) 4 μ) (fun w19 μ20 => some (0, μ20))) else if (μ 86 v1.toNat) = 15 then bG (0 ≤ v1 ∧ v1 < 6400) (bMm (F_X11_putRow (μ 87 v1.toNat) μ) (fun w23 μ24 => some (0, μ24))) else if (μ 86 v1.toNat) = 16 then F_X11_putValue_193 v1 μ else if (μ 86 v1.toNat) = 17 then F_X11_putValue_193 v1 μ else if (μ 86 v1.toNat) = 18 then F_X11_putValue_193 v1 μ else if (μ 86 v1.toNat) = 19 then bG (0 ≤ v1 ∧ v1 < 6400) (bG (0 ≤ (b32 (μ 87 v1.toNat)) ∧ (b32 (μ 87 v1.toNat)) < 400) (bMm (F_X11_putNumber (μ 101 (b32 (μ 87 v1.toNat)).toNat) 4 μ) (fun w27 μ28 => some (0, μ28)))) else if (μ 86 v1.toNat) = 20 then F_X11_putValue_193 v1 μ else if (μ 86 v1.toNat) = 21 then bG (0 ≤ v1 ∧ v1 < 6400) (bG (0 ≤ (b32 (μ 87 v1.toNat)) ∧ (b32 (μ 87 v1.toNat)) < 400) (bMm (F_X11_putRow (μ 101 (b32 (μ 87 v1.toNat)).toNat) μ) (fun w32 μ33 => some (0, μ33)))) else F_X11_putValue_193 v1 μ)
theorem p_X11_putValue_193 {L : Nat} {xs : Nat → Int32} {d : Nat} {μ : bM}  {κ : (Int × bM) → Option bX} (hr : ∀ r : Int × bM, κ r = (bMc) r)  {v1 : Int} (h1 : bR v1) : bD L xs (d + 2) 177 193 [(0, .ref 76), (1, bI v1)] [] μ ((F_X11_putValue_193 v1 μ).bind κ) := by
  unfold F_X11_putValue_193
  refine bD.ok fun hk => ?_
  refine b_s (pc' := 194) (lv1 := [(0, .ref 76), (1, bI v1)]) (st' := [.ref 76]) l177_193 (fun _ => rfl) ?_
  refine b_s (pc' := 195) (lv1 := [(0, .ref 76), (1, bI v1)]) (st' := [.ref 76, .ref 76]) l177_194 (fun _ => rfl) ?_
  refine b_gp (q' := 87) (j := 11) l177_195 (by rfl) (by decide) (by decide) rfl hk rfl rfl (b_pc (pc' := 198) rfl ?_)
  refine b_s (pc' := 199) (lv1 := [(0, .ref 76), (1, bI v1)]) (st' := [bI v1, .ref 87, .ref 76]) l177_198 (fun _ => rfl) ?_
  refine b_g fun g5 => ?_
  refine b_lal l177_199 (by rfl) g5 (b_pc (pc' := 200) rfl ?_)
  refine b_s (pc' := 201) (lv1 := [(0, .ref 76), (1, bI v1)]) (st' := [.ref 76, bLg (μ 87 v1.toNat), .ref 76]) l177_200 (fun _ => rfl) ?_
  refine b_s (pc' := 202) (lv1 := [(0, .ref 76), (1, bI v1)]) (st' := [bI v1, .ref 76, bLg (μ 87 v1.toNat), .ref 76]) l177_201 (fun _ => rfl) ?_
  refine b_cPi l177_202 rfl (b_rc (ci := 9) (by rfl) (by decide) (by decide +kernel)) (Nat.le_of_ble_eq_true rfl) (Nat.le_of_ble_eq_true rfl) rfl (r_X11_sizeOf v1 h1) fun w1 hw1 => b_pc (pc' := 205) rfl ?_
  refine b_cMv l177_205 rfl (b_rc (ci := 9) (by rfl) (by decide) (by decide +kernel)) (Nat.le_of_ble_eq_true rfl) (Nat.le_of_ble_eq_true rfl) rfl (r_X11_putNumber (μ 87 v1.toNat) (bO_l hk (by rfl)) w1 hw1) fun w2 μ3 hw2 => bD.ok fun hk4 => b_pc (pc' := 208) rfl ?_
  exact b_retv l177_208 rfl (hr _)
theorem r_X11_putValue {L : Nat} {xs : Nat → Int32} {d : Nat} {μ : bM}  (v1 : Int) (h1 : bR v1) : bD L xs (d + 2) 177 0 [(0, .ref 76), (1, bI v1)] [] μ ((F_X11_putValue v1 μ).bind (bMc)) := by
  have hr : ∀ r, (bMc) r = (bMc) r := fun _ => rfl
  unfold F_X11_putValue
  refine bD.ok fun hk => ?_
  refine b_s (pc' := 1) (lv1 := [(0, .ref 76), (1, bI v1)]) (st' := [.ref 76]) l177_0 (fun _ => rfl) ?_
  refine b_gp (q' := 86) (j := 10) l177_1 (by rfl) (by decide) (by decide) rfl hk rfl rfl (b_pc (pc' := 4) rfl ?_)
  refine b_s (pc' := 5) (lv1 := [(0, .ref 76), (1, bI v1)]) (st' := [bI v1, .ref 86]) l177_4 (fun _ => rfl) ?_
  refine b_g fun g51 => ?_
  refine b_ial l177_5 (by rfl) g51 (b_pc (pc' := 6) rfl ?_)
  refine b_tsw l177_6 (bO_i hk (by rfl)) (by decide) (by decide) (by decide) ?_
  refine b_pc (pc' := bTg [(8, 102), (9, 193), (10, 134), (11, 193), (12, 193), (13, 76), (14, 115), (15, 89), (16, 193), (17, 193), (18, 193), (19, 152), (20, 193), (21, 173)] 193 (μ 86 v1.toNat)) rfl ?_
  refine b_tg (fun c50 => ?_) (fun c50 => ?_)
  · refine b_s (pc' := 103) (lv1 := [(0, .ref 76), (1, bI v1)]) (st' := [.ref 76]) l177_102 (fun _ => rfl) ?_
    refine b_s (pc' := 104) (lv1 := [(0, .ref 76), (1, bI v1)]) (st' := [bI v1, .ref 76]) l177_103 (fun _ => rfl) ?_
    refine b_cMv l177_104 rfl (b_rc (ci := 9) (by rfl) (by decide) (by decide +kernel)) (Nat.le_of_ble_eq_true rfl) (Nat.le_of_ble_eq_true rfl) rfl (r_X11_putText v1 h1) fun w1 μ2 hw1 => bD.ok fun hk3 => b_pc (pc' := 107) rfl ?_
    refine b_s (pc' := 108) (lv1 := [(0, .ref 76), (1, bI v1)]) (st' := [.ref 76]) l177_107 (fun _ => rfl) ?_
    refine b_s (pc' := 109) (lv1 := [(0, .ref 76), (1, bI v1)]) (st' := [bI 0, .ref 76]) l177_108 (fun _ => rfl) ?_
    refine b_cMv l177_109 rfl (b_rc (ci := 9) (by rfl) (by decide) (by decide +kernel)) (Nat.le_of_ble_eq_true rfl) (Nat.le_of_ble_eq_true rfl) rfl (r_X11_put 0 (by decide)) fun w4 μ5 hw4 => bD.ok fun hk6 => b_pc (pc' := 112) rfl ?_
    refine b_s (pc' := 208) (lv1 := [(0, .ref 76), (1, bI v1)]) (st' := []) l177_112 (fun _ => rfl) ?_
    exact b_retv l177_208 rfl (hr _)
  · refine b_tg (fun c49 => ?_) (fun c49 => ?_)
    · refine bD.wk (lv' := [(0, .ref 76), (1, bI v1)]) (bSb rfl (bSb rfl bSn)) ?_
      exact p_X11_putValue_193 hr h1
    · refine b_tg (fun c48 => ?_) (fun c48 => ?_)
      · refine b_s (pc' := 135) (lv1 := [(0, .ref 76), (1, bI v1)]) (st' := [.ref 76]) l177_134 (fun _ => rfl) ?_
        refine b_s (pc' := 136) (lv1 := [(0, .ref 76), (1, bI v1)]) (st' := [.ref 76, .ref 76]) l177_135 (fun _ => rfl) ?_
        refine b_gp (q' := 89) (j := 13) l177_136 (by rfl) (by decide) (by decide) rfl hk rfl rfl (b_pc (pc' := 139) rfl ?_)
        refine b_s (pc' := 140) (lv1 := [(0, .ref 76), (1, bI v1)]) (st' := [bI v1, .ref 89, .ref 76]) l177_139 (fun _ => rfl) ?_
        refine b_g fun g13 => ?_
        refine b_ial l177_140 (by rfl) g13 (b_pc (pc' := 141) rfl ?_)
        refine b_cMv l177_141 rfl (b_rc (ci := 9) (by rfl) (by decide) (by decide +kernel)) (Nat.le_of_ble_eq_true rfl) (Nat.le_of_ble_eq_true rfl) rfl (r_X11_put (μ 89 v1.toNat) (bO_i hk (by rfl))) fun w7 μ8 hw7 => bD.ok fun hk9 => b_pc (pc' := 144) rfl ?_
        refine b_s (pc' := 145) (lv1 := [(0, .ref 76), (1, bI v1)]) (st' := [.ref 76]) l177_144 (fun _ => rfl) ?_
        refine b_s (pc' := 146) (lv1 := [(0, .ref 76), (1, bI v1)]) (st' := [bI v1, .ref 76]) l177_145 (fun _ => rfl) ?_
        refine b_cMv l177_146 rfl (b_rc (ci := 9) (by rfl) (by decide) (by decide +kernel)) (Nat.le_of_ble_eq_true rfl) (Nat.le_of_ble_eq_true rfl) rfl (r_X11_putText v1 h1) fun w10 μ11 hw10 => bD.ok fun hk12 => b_pc (pc' := 149) rfl ?_
        refine b_s (pc' := 208) (lv1 := [(0, .ref 76), (1, bI v1)]) (st' := []) l177_149 (fun _ => rfl) ?_
        exact b_retv l177_208 rfl (hr _)
      · refine b_tg (fun c47 => ?_) (fun c47 => ?_)
        · refine bD.wk (lv' := [(0, .ref 76), (1, bI v1)]) (bSb rfl (bSb rfl bSn)) ?_
          exact p_X11_putValue_193 hr h1
        · refine b_tg (fun c46 => ?_) (fun c46 => ?_)
          · refine bD.wk (lv' := [(0, .ref 76), (1, bI v1)]) (bSb rfl (bSb rfl bSn)) ?_
            exact p_X11_putValue_193 hr h1
          · refine b_tg (fun c45 => ?_) (fun c45 => ?_)
            · refine b_s (pc' := 77) (lv1 := [(0, .ref 76), (1, bI v1)]) (st' := [.ref 76]) l177_76 (fun _ => rfl) ?_
              refine b_s (pc' := 78) (lv1 := [(0, .ref 76), (1, bI v1)]) (st' := [.ref 76, .ref 76]) l177_77 (fun _ => rfl) ?_
              refine b_gp (q' := 87) (j := 11) l177_78 (by rfl) (by decide) (by decide) rfl hk rfl rfl (b_pc (pc' := 81) rfl ?_)
              refine b_s (pc' := 82) (lv1 := [(0, .ref 76), (1, bI v1)]) (st' := [bI v1, .ref 87, .ref 76]) l177_81 (fun _ => rfl) ?_
              refine b_g fun g17 => ?_
              refine b_lal l177_82 (by rfl) g17 (b_pc (pc' := 83) rfl ?_)
              refine b_cMv l177_83 rfl (b_rc (ci := 9) (by rfl) (by decide) (by decide +kernel)) (Nat.le_of_ble_eq_true rfl) (Nat.le_of_ble_eq_true rfl) rfl (r_X11_putSigned (μ 87 v1.toNat) (bO_l hk (by rfl))) fun w14 μ15 hw14 => bD.ok fun hk16 => b_pc (pc' := 86) rfl ?_
              refine b_s (pc' := 208) (lv1 := [(0, .ref 76), (1, bI v1)]) (st' := []) l177_86 (fun _ => rfl) ?_
              exact b_retv l177_208 rfl (hr _)
            · refine b_tg (fun c44 => ?_) (fun c44 => ?_)
              · refine b_s (pc' := 116) (lv1 := [(0, .ref 76), (1, bI v1)]) (st' := [.ref 76]) l177_115 (fun _ => rfl) ?_
                refine b_s (pc' := 117) (lv1 := [(0, .ref 76), (1, bI v1)]) (st' := [.ref 76, .ref 76]) l177_116 (fun _ => rfl) ?_
                refine b_gp (q' := 100) (j := 24) l177_117 (by rfl) (by decide) (by decide) rfl hk rfl rfl (b_pc (pc' := 120) rfl ?_)
                refine b_s (pc' := 121) (lv1 := [(0, .ref 76), (1, bI v1)]) (st' := [.ref 76, .ref 100, .ref 76]) l177_120 (fun _ => rfl) ?_
                refine b_s (pc' := 122) (lv1 := [(0, .ref 76), (1, bI v1)]) (st' := [bI v1, .ref 76, .ref 100, .ref 76]) l177_121 (fun _ => rfl) ?_
                refine b_cPi l177_122 rfl (b_rc (ci := 9) (by rfl) (by decide) (by decide +kernel)) (Nat.le_of_ble_eq_true rfl) (Nat.le_of_ble_eq_true rfl) rfl (r_X11_textOf v1 h1) fun w18 hw18 => b_pc (pc' := 125) rfl ?_
                refine b_g fun g22 => ?_
                refine b_ial l177_125 (by rfl) g22 (b_pc (pc' := 126) rfl ?_)
                refine b_i2l l177_126 (bO_i hk (by rfl)) (b_pc (pc' := 127) rfl ?_)
                refine b_s (pc' := 128) (lv1 := [(0, .ref 76), (1, bI v1)]) (st' := [bI 4, bLg (μ 100 w18.toNat), .ref 76]) l177_127 (fun _ => rfl) ?_
                refine b_cMv l177_128 rfl (b_rc (ci := 9) (by rfl) (by decide) (by decide +kernel)) (Nat.le_of_ble_eq_true rfl) (Nat.le_of_ble_eq_true rfl) rfl (r_X11_putNumber (μ 100 w18.toNat) (bR_L (bO_i hk (by rfl))) 4 (by decide)) fun w19 μ20 hw19 => bD.ok fun hk21 => b_pc (pc' := 131) rfl ?_
                refine b_s (pc' := 208) (lv1 := [(0, .ref 76), (1, bI v1)]) (st' := []) l177_131 (fun _ => rfl) ?_
                exact b_retv l177_208 rfl (hr _)
              · refine b_tg (fun c43 => ?_) (fun c43 => ?_)
                · refine b_s (pc' := 90) (lv1 := [(0, .ref 76), (1, bI v1)]) (st' := [.ref 76]) l177_89 (fun _ => rfl) ?_
                  refine b_s (pc' := 91) (lv1 := [(0, .ref 76), (1, bI v1)]) (st' := [.ref 76, .ref 76]) l177_90 (fun _ => rfl) ?_
                  refine b_gp (q' := 87) (j := 11) l177_91 (by rfl) (by decide) (by decide) rfl hk rfl rfl (b_pc (pc' := 94) rfl ?_)
                  refine b_s (pc' := 95) (lv1 := [(0, .ref 76), (1, bI v1)]) (st' := [bI v1, .ref 87, .ref 76]) l177_94 (fun _ => rfl) ?_
                  refine b_g fun g26 => ?_
                  refine b_lal l177_95 (by rfl) g26 (b_pc (pc' := 96) rfl ?_)
                  refine b_cMv l177_96 rfl (b_rc (ci := 9) (by rfl) (by decide) (by decide +kernel)) (Nat.le_of_ble_eq_true rfl) (Nat.le_of_ble_eq_true rfl) rfl (r_X11_putRow (μ 87 v1.toNat) (bO_l hk (by rfl))) fun w23 μ24 hw23 => bD.ok fun hk25 => b_pc (pc' := 99) rfl ?_
                  refine b_s (pc' := 208) (lv1 := [(0, .ref 76), (1, bI v1)]) (st' := []) l177_99 (fun _ => rfl) ?_
                  exact b_retv l177_208 rfl (hr _)
                · refine b_tg (fun c42 => ?_) (fun c42 => ?_)
                  · refine bD.wk (lv' := [(0, .ref 76), (1, bI v1)]) (bSb rfl (bSb rfl bSn)) ?_
                    exact p_X11_putValue_193 hr h1
                  · refine b_tg (fun c41 => ?_) (fun c41 => ?_)
                    · refine bD.wk (lv' := [(0, .ref 76), (1, bI v1)]) (bSb rfl (bSb rfl bSn)) ?_
                      exact p_X11_putValue_193 hr h1
                    · refine b_tg (fun c40 => ?_) (fun c40 => ?_)
                      · refine bD.wk (lv' := [(0, .ref 76), (1, bI v1)]) (bSb rfl (bSb rfl bSn)) ?_
                        exact p_X11_putValue_193 hr h1
                      · refine b_tg (fun c39 => ?_) (fun c39 => ?_)
                        · refine b_s (pc' := 153) (lv1 := [(0, .ref 76), (1, bI v1)]) (st' := [.ref 76]) l177_152 (fun _ => rfl) ?_
                          refine b_s (pc' := 154) (lv1 := [(0, .ref 76), (1, bI v1)]) (st' := [.ref 76, .ref 76]) l177_153 (fun _ => rfl) ?_
                          refine b_gp (q' := 101) (j := 25) l177_154 (by rfl) (by decide) (by decide) rfl hk rfl rfl (b_pc (pc' := 157) rfl ?_)
                          refine b_s (pc' := 158) (lv1 := [(0, .ref 76), (1, bI v1)]) (st' := [.ref 76, .ref 101, .ref 76]) l177_157 (fun _ => rfl) ?_
                          refine b_gp (q' := 87) (j := 11) l177_158 (by rfl) (by decide) (by decide) rfl hk rfl rfl (b_pc (pc' := 161) rfl ?_)
                          refine b_s (pc' := 162) (lv1 := [(0, .ref 76), (1, bI v1)]) (st' := [bI v1, .ref 87, .ref 101, .ref 76]) l177_161 (fun _ => rfl) ?_
                          refine b_g fun g31 => ?_
                          refine b_lal l177_162 (by rfl) g31 (b_pc (pc' := 163) rfl ?_)
                          refine b_l2i l177_163 (b_pc (pc' := 164) rfl ?_)
                          refine b_g fun g30 => ?_
                          refine b_ial l177_164 (by rfl) g30 (b_pc (pc' := 165) rfl ?_)
                          refine b_i2l l177_165 (bO_i hk (by rfl)) (b_pc (pc' := 166) rfl ?_)
                          refine b_s (pc' := 167) (lv1 := [(0, .ref 76), (1, bI v1)]) (st' := [bI 4, bLg (μ 101 (b32 (μ 87 v1.toNat)).toNat), .ref 76]) l177_166 (fun _ => rfl) ?_
                          refine b_cMv l177_167 rfl (b_rc (ci := 9) (by rfl) (by decide) (by decide +kernel)) (Nat.le_of_ble_eq_true rfl) (Nat.le_of_ble_eq_true rfl) rfl (r_X11_putNumber (μ 101 (b32 (μ 87 v1.toNat)).toNat) (bR_L (bO_i hk (by rfl))) 4 (by decide)) fun w27 μ28 hw27 => bD.ok fun hk29 => b_pc (pc' := 170) rfl ?_
                          refine b_s (pc' := 208) (lv1 := [(0, .ref 76), (1, bI v1)]) (st' := []) l177_170 (fun _ => rfl) ?_
                          exact b_retv l177_208 rfl (hr _)
                        · refine b_tg (fun c38 => ?_) (fun c38 => ?_)
                          · refine bD.wk (lv' := [(0, .ref 76), (1, bI v1)]) (bSb rfl (bSb rfl bSn)) ?_
                            exact p_X11_putValue_193 hr h1
                          · refine b_tg (fun c37 => ?_) (fun c37 => ?_)
                            · refine b_s (pc' := 174) (lv1 := [(0, .ref 76), (1, bI v1)]) (st' := [.ref 76]) l177_173 (fun _ => rfl) ?_
                              refine b_s (pc' := 175) (lv1 := [(0, .ref 76), (1, bI v1)]) (st' := [.ref 76, .ref 76]) l177_174 (fun _ => rfl) ?_
                              refine b_gp (q' := 101) (j := 25) l177_175 (by rfl) (by decide) (by decide) rfl hk rfl rfl (b_pc (pc' := 178) rfl ?_)
                              refine b_s (pc' := 179) (lv1 := [(0, .ref 76), (1, bI v1)]) (st' := [.ref 76, .ref 101, .ref 76]) l177_178 (fun _ => rfl) ?_
                              refine b_gp (q' := 87) (j := 11) l177_179 (by rfl) (by decide) (by decide) rfl hk rfl rfl (b_pc (pc' := 182) rfl ?_)
                              refine b_s (pc' := 183) (lv1 := [(0, .ref 76), (1, bI v1)]) (st' := [bI v1, .ref 87, .ref 101, .ref 76]) l177_182 (fun _ => rfl) ?_
                              refine b_g fun g36 => ?_
                              refine b_lal l177_183 (by rfl) g36 (b_pc (pc' := 184) rfl ?_)
                              refine b_l2i l177_184 (b_pc (pc' := 185) rfl ?_)
                              refine b_g fun g35 => ?_
                              refine b_ial l177_185 (by rfl) g35 (b_pc (pc' := 186) rfl ?_)
                              refine b_i2l l177_186 (bO_i hk (by rfl)) (b_pc (pc' := 187) rfl ?_)
                              refine b_cMv l177_187 rfl (b_rc (ci := 9) (by rfl) (by decide) (by decide +kernel)) (Nat.le_of_ble_eq_true rfl) (Nat.le_of_ble_eq_true rfl) rfl (r_X11_putRow (μ 101 (b32 (μ 87 v1.toNat)).toNat) (bR_L (bO_i hk (by rfl)))) fun w32 μ33 hw32 => bD.ok fun hk34 => b_pc (pc' := 190) rfl ?_
                              refine b_s (pc' := 208) (lv1 := [(0, .ref 76), (1, bI v1)]) (st' := []) l177_190 (fun _ => rfl) ?_
                              exact b_retv l177_208 rfl (hr _)
                            · refine b_pc (pc' := 193) rfl ?_
                              refine bD.wk (lv' := [(0, .ref 76), (1, bI v1)]) (bSb rfl (bSb rfl bSn)) ?_
                              exact p_X11_putValue_193 hr h1
/-! ETModel.shapeBytes -/
theorem l178_0 : (ax_dt (ax_T 178)).lookup 0 = some (.iconst 1, 1, 0, 0, 0) := by decide +kernel
theorem l178_1 : (ax_dt (ax_T 178)).lookup 1 = some (.istore_n 1, 1, 0, 0, 0) := by decide +kernel
theorem l178_2 : (ax_dt (ax_T 178)).lookup 2 = some (.iconst 0, 1, 0, 0, 0) := by decide +kernel
theorem l178_3 : (ax_dt (ax_T 178)).lookup 3 = some (.istore_n 2, 1, 0, 0, 0) := by decide +kernel
theorem l178_4 : (ax_dt (ax_T 178)).lookup 4 = some (.iload_n 2, 1, 0, 0, 0) := by decide +kernel
theorem l178_5 : (ax_dt (ax_T 178)).lookup 5 = some (.aload_n 0, 1, 0, 0, 0) := by decide +kernel
theorem l178_6 : (ax_dt (ax_T 178)).lookup 6 = some (.getfield 205, 3, 9, 26, 0) := by decide +kernel
theorem l178_9 : (ax_dt (ax_T 178)).lookup 9 = some (.if_icmp .ge 97, 3, 0, 0, 0) := by decide +kernel
theorem l178_12 : (ax_dt (ax_T 178)).lookup 12 = some (.aload_n 0, 1, 0, 0, 0) := by decide +kernel
theorem l178_13 : (ax_dt (ax_T 178)).lookup 13 = some (.aload_n 0, 1, 0, 0, 0) := by decide +kernel
theorem l178_14 : (ax_dt (ax_T 178)).lookup 14 = some (.getfield 77, 3, 9, 28, 0) := by decide +kernel
theorem l178_17 : (ax_dt (ax_T 178)).lookup 17 = some (.iload_n 2, 1, 0, 0, 0) := by decide +kernel
theorem l178_18 : (ax_dt (ax_T 178)).lookup 18 = some (.iaload, 1, 0, 0, 0) := by decide +kernel
theorem l178_19 : (ax_dt (ax_T 178)).lookup 19 = some (.invokevirtual 140, 3, 140, 1, 0) := by decide +kernel
theorem l178_22 : (ax_dt (ax_T 178)).lookup 22 = some (.istore_n 3, 1, 0, 0, 0) := by decide +kernel
theorem l178_23 : (ax_dt (ax_T 178)).lookup 23 = some (.iload_n 1, 1, 0, 0, 0) := by decide +kernel
theorem l178_24 : (ax_dt (ax_T 178)).lookup 24 = some (.iload_n 2, 1, 0, 0, 0) := by decide +kernel
theorem l178_25 : (ax_dt (ax_T 178)).lookup 25 = some (.iconst 1, 1, 0, 0, 0) := by decide +kernel
theorem l178_26 : (ax_dt (ax_T 178)).lookup 26 = some (.iadd, 1, 0, 0, 0) := by decide +kernel
theorem l178_27 : (ax_dt (ax_T 178)).lookup 27 = some (.i2l, 1, 0, 0, 0) := by decide +kernel
theorem l178_28 : (ax_dt (ax_T 178)).lookup 28 = some (.invokestatic 235, 3, 167, 1, 0) := by decide +kernel
theorem l178_31 : (ax_dt (ax_T 178)).lookup 31 = some (.iadd, 1, 0, 0, 0) := by decide +kernel
theorem l178_32 : (ax_dt (ax_T 178)).lookup 32 = some (.aload_n 0, 1, 0, 0, 0) := by decide +kernel
theorem l178_33 : (ax_dt (ax_T 178)).lookup 33 = some (.getfield 23, 3, 9, 7, 0) := by decide +kernel
theorem l178_36 : (ax_dt (ax_T 178)).lookup 36 = some (.iload_n 3, 1, 0, 0, 0) := by decide +kernel
theorem l178_37 : (ax_dt (ax_T 178)).lookup 37 = some (.iaload, 1, 0, 0, 0) := by decide +kernel
theorem l178_38 : (ax_dt (ax_T 178)).lookup 38 = some (.i2l, 1, 0, 0, 0) := by decide +kernel
theorem l178_39 : (ax_dt (ax_T 178)).lookup 39 = some (.invokestatic 235, 3, 167, 1, 0) := by decide +kernel
theorem l178_42 : (ax_dt (ax_T 178)).lookup 42 = some (.iadd, 1, 0, 0, 0) := by decide +kernel
theorem l178_43 : (ax_dt (ax_T 178)).lookup 43 = some (.iconst 3, 1, 0, 0, 0) := by decide +kernel
theorem l178_44 : (ax_dt (ax_T 178)).lookup 44 = some (.iadd, 1, 0, 0, 0) := by decide +kernel
theorem l178_45 : (ax_dt (ax_T 178)).lookup 45 = some (.istore_n 1, 1, 0, 0, 0) := by decide +kernel
theorem l178_46 : (ax_dt (ax_T 178)).lookup 46 = some (.bipush 8, 2, 0, 0, 0) := by decide +kernel
theorem l178_48 : (ax_dt (ax_T 178)).lookup 48 = some (.iload_n 3, 1, 0, 0, 0) := by decide +kernel
theorem l178_49 : (ax_dt (ax_T 178)).lookup 49 = some (.imul, 1, 0, 0, 0) := by decide +kernel
theorem l178_50 : (ax_dt (ax_T 178)).lookup 50 = some (.istore 4, 2, 0, 0, 0) := by decide +kernel
theorem l178_52 : (ax_dt (ax_T 178)).lookup 52 = some (.iload 4, 2, 0, 0, 0) := by decide +kernel
theorem l178_54 : (ax_dt (ax_T 178)).lookup 54 = some (.bipush 8, 2, 0, 0, 0) := by decide +kernel
theorem l178_56 : (ax_dt (ax_T 178)).lookup 56 = some (.iload_n 3, 1, 0, 0, 0) := by decide +kernel
theorem l178_57 : (ax_dt (ax_T 178)).lookup 57 = some (.imul, 1, 0, 0, 0) := by decide +kernel
theorem l178_58 : (ax_dt (ax_T 178)).lookup 58 = some (.aload_n 0, 1, 0, 0, 0) := by decide +kernel
theorem l178_59 : (ax_dt (ax_T 178)).lookup 59 = some (.getfield 32, 3, 9, 10, 0) := by decide +kernel
theorem l178_62 : (ax_dt (ax_T 178)).lookup 62 = some (.iload_n 3, 1, 0, 0, 0) := by decide +kernel
theorem l178_63 : (ax_dt (ax_T 178)).lookup 63 = some (.iaload, 1, 0, 0, 0) := by decide +kernel
theorem l178_64 : (ax_dt (ax_T 178)).lookup 64 = some (.iadd, 1, 0, 0, 0) := by decide +kernel
theorem l178_65 : (ax_dt (ax_T 178)).lookup 65 = some (.if_icmp .ge 35, 3, 0, 0, 0) := by decide +kernel
theorem l178_68 : (ax_dt (ax_T 178)).lookup 68 = some (.iload_n 1, 1, 0, 0, 0) := by decide +kernel
theorem l178_69 : (ax_dt (ax_T 178)).lookup 69 = some (.aload_n 0, 1, 0, 0, 0) := by decide +kernel
theorem l178_70 : (ax_dt (ax_T 178)).lookup 70 = some (.getfield 35, 3, 9, 11, 0) := by decide +kernel
theorem l178_73 : (ax_dt (ax_T 178)).lookup 73 = some (.iload 4, 2, 0, 0, 0) := by decide +kernel
theorem l178_75 : (ax_dt (ax_T 178)).lookup 75 = some (.iaload, 1, 0, 0, 0) := by decide +kernel
theorem l178_76 : (ax_dt (ax_T 178)).lookup 76 = some (.i2l, 1, 0, 0, 0) := by decide +kernel
theorem l178_77 : (ax_dt (ax_T 178)).lookup 77 = some (.invokestatic 235, 3, 167, 1, 0) := by decide +kernel
theorem l178_80 : (ax_dt (ax_T 178)).lookup 80 = some (.iadd, 1, 0, 0, 0) := by decide +kernel
theorem l178_81 : (ax_dt (ax_T 178)).lookup 81 = some (.aload_n 0, 1, 0, 0, 0) := by decide +kernel
theorem l178_82 : (ax_dt (ax_T 178)).lookup 82 = some (.getfield 38, 3, 9, 12, 0) := by decide +kernel
theorem l178_85 : (ax_dt (ax_T 178)).lookup 85 = some (.iload 4, 2, 0, 0, 0) := by decide +kernel
theorem l178_87 : (ax_dt (ax_T 178)).lookup 87 = some (.iaload, 1, 0, 0, 0) := by decide +kernel
theorem l178_88 : (ax_dt (ax_T 178)).lookup 88 = some (.i2l, 1, 0, 0, 0) := by decide +kernel
theorem l178_89 : (ax_dt (ax_T 178)).lookup 89 = some (.invokestatic 235, 3, 167, 1, 0) := by decide +kernel
theorem l178_92 : (ax_dt (ax_T 178)).lookup 92 = some (.iadd, 1, 0, 0, 0) := by decide +kernel
theorem l178_93 : (ax_dt (ax_T 178)).lookup 93 = some (.istore_n 1, 1, 0, 0, 0) := by decide +kernel
theorem l178_94 : (ax_dt (ax_T 178)).lookup 94 = some (.iinc 4 1, 3, 0, 0, 0) := by decide +kernel
theorem l178_97 : (ax_dt (ax_T 178)).lookup 97 = some (.goto (-45), 3, 0, 0, 0) := by decide +kernel
theorem l178_100 : (ax_dt (ax_T 178)).lookup 100 = some (.iinc 2 1, 3, 0, 0, 0) := by decide +kernel
theorem l178_103 : (ax_dt (ax_T 178)).lookup 103 = some (.goto (-99), 3, 0, 0, 0) := by decide +kernel
theorem l178_106 : (ax_dt (ax_T 178)).lookup 106 = some (.iload_n 1, 1, 0, 0, 0) := by decide +kernel
theorem l178_107 : (ax_dt (ax_T 178)).lookup 107 = some (.ireturn, 1, 0, 0, 0) := by decide +kernel
noncomputable def F_X11_shapeBytes_52 (v2 : Int) (v3 : Int) (μ : bM) (v1 : Int) (v4 : Int) : Option ((Int × Int) ⊕ ((Int × Int) ⊕ (Int))) := bG (bR (8 * v3)) (bG (0 ≤ v3 ∧ v3 < 800) (bG (bR ((8 * v3) + (μ 84 v3.toNat))) (if ((8 * v3) + (μ 84 v3.toNat)) ≤ v4 then bG (bR (v2 + 1)) (some (.inr (.inl (v1, (v2 + 1))))) else bG (0 ≤ v4 ∧ v4 < 6400) ((F_X11_rowBytes (μ 85 v4.toNat) μ).bind fun w5 => bG (bR (v1 + w5)) (bG (0 ≤ v4 ∧ v4 < 6400) ((F_X11_rowBytes (μ 86 v4.toNat) μ).bind fun w7 => bG (bR ((v1 + w5) + w7)) (bG (bR (v4 + 1)) (some (.inl (((v1 + w5) + w7), (v4 + 1)))))))))))
noncomputable def F_X11_shapeBytes_4 (μ : bM) (v1 : Int) (v2 : Int) : Option ((Int × Int) ⊕ (Int)) := if (μ 76 26) ≤ v2 then some (.inr (v1)) else bG (0 ≤ v2 ∧ v2 < 400) ((F_X11_at (μ 98 v2.toNat) μ).bind fun w2 => bG (bR (v2 + 1)) ((F_X11_rowBytes (v2 + 1) μ).bind fun w4 => bG (bR (v1 + w4)) (bG (0 ≤ w2 ∧ w2 < 800) ((F_X11_rowBytes (μ 81 w2.toNat) μ).bind fun w6 => bG (bR ((v1 + w4) + w6)) (bG (bR (((v1 + w4) + w6) + 3)) (bG (bR (8 * w2)) (bLoop (fun z => F_X11_shapeBytes_52 v2 w2 μ z.1 z.2) ((((v1 + w4) + w6) + 3), (8 * w2)))))))))
noncomputable def F_X11_shapeBytes (μ : bM) : Option (Int) := bLoop (fun z => F_X11_shapeBytes_4 μ z.1 z.2) (1, 0)
theorem q_X11_shapeBytes_52 {L : Nat} {xs : Nat → Int32} {d : Nat} {μ : bM} {v2 : Int} {v3 : Int} {κ : ((Int × Int) ⊕ ((Int × Int) ⊕ (Int))) → Option bX} (hr : ∀ r : Int, κ (.inr (.inr r)) = (bPc μ) r) (H4 : ∀ (v1 : Int) (v2 : Int), bR v1 → bR v2 → bD L xs (d + 1) 178 4 [(0, .ref 76), (1, bI v1), (2, bI v2)] [] μ (κ (.inr (.inl (v1, v2))))) (H52 : ∀ (v1 : Int) (v4 : Int), bR v1 → bR v4 → bD L xs (d + 1) 178 52 [(0, .ref 76), (1, bI v1), (2, bI v2), (3, bI v3), (4, bI v4)] [] μ (κ (.inl (v1, v4))))  {v1 : Int} (h1 : bR v1) (h2 : bR v2) (h3 : bR v3) {v4 : Int} (h4 : bR v4) : bD L xs (d + 1) 178 52 [(0, .ref 76), (1, bI v1), (2, bI v2), (3, bI v3), (4, bI v4)] [] μ ((F_X11_shapeBytes_52 v2 v3 μ v1 v4).bind κ) := by
  unfold F_X11_shapeBytes_52
  refine bD.ok fun hk => ?_
  refine b_s (pc' := 54) (lv1 := [(0, .ref 76), (1, bI v1), (2, bI v2), (3, bI v3), (4, bI v4)]) (st' := [bI v4]) l178_52 (fun _ => rfl) ?_
  refine b_bipush l178_54 (by decide) (b_pc (pc' := 56) rfl ?_)
  refine b_s (pc' := 57) (lv1 := [(0, .ref 76), (1, bI v1), (2, bI v2), (3, bI v3), (4, bI v4)]) (st' := [bI v3, bI 8, bI v4]) l178_56 (fun _ => rfl) ?_
  refine b_imul l178_57 fun g1 => (b_pc (pc' := 58) rfl ?_)
  refine b_s (pc' := 59) (lv1 := [(0, .ref 76), (1, bI v1), (2, bI v2), (3, bI v3), (4, bI v4)]) (st' := [.ref 76, bI (8 * v3), bI v4]) l178_58 (fun _ => rfl) ?_
  refine b_gp (q' := 84) (j := 8) l178_59 (by rfl) (by decide) (by decide) rfl hk rfl rfl (b_pc (pc' := 62) rfl ?_)
  refine b_s (pc' := 63) (lv1 := [(0, .ref 76), (1, bI v1), (2, bI v2), (3, bI v3), (4, bI v4)]) (st' := [bI v3, .ref 84, bI (8 * v3), bI v4]) l178_62 (fun _ => rfl) ?_
  refine b_g fun g12 => ?_
  refine b_ial l178_63 (by rfl) g12 (b_pc (pc' := 64) rfl ?_)
  refine b_iadd l178_64 fun g2 => (b_pc (pc' := 65) rfl ?_)
  refine b_ige (pt := 100) l178_65 h4 g2 (by decide) rfl (fun c3 => ?_) (fun c3 => b_pc (pc' := 68) rfl ?_)
  · refine b_inc (lv' := [(0, .ref 76), (1, bI v1), (2, bI (v2 + 1))]) l178_100 rfl (by decide +kernel) (bSb rfl (bSb rfl (bSb rfl bSn))) fun g4 => (b_pc (pc' := 103) rfl ?_)
    refine b_s (pc' := 4) (lv1 := [(0, .ref 76), (1, bI v1), (2, bI (v2 + 1))]) (st' := []) l178_103 (fun _ => rfl) ?_
    refine bD.wk (lv' := [(0, .ref 76), (1, bI v1), (2, bI (v2 + 1))]) (bSb rfl (bSb rfl (bSb rfl bSn))) ?_
    exact H4 v1 (v2 + 1) h1 g4
  · refine b_s (pc' := 69) (lv1 := [(0, .ref 76), (1, bI v1), (2, bI v2), (3, bI v3), (4, bI v4)]) (st' := [bI v1]) l178_68 (fun _ => rfl) ?_
    refine b_s (pc' := 70) (lv1 := [(0, .ref 76), (1, bI v1), (2, bI v2), (3, bI v3), (4, bI v4)]) (st' := [.ref 76, bI v1]) l178_69 (fun _ => rfl) ?_
    refine b_gp (q' := 85) (j := 9) l178_70 (by rfl) (by decide) (by decide) rfl hk rfl rfl (b_pc (pc' := 73) rfl ?_)
    refine b_s (pc' := 75) (lv1 := [(0, .ref 76), (1, bI v1), (2, bI v2), (3, bI v3), (4, bI v4)]) (st' := [bI v4, .ref 85, bI v1]) l178_73 (fun _ => rfl) ?_
    refine b_g fun g11 => ?_
    refine b_ial l178_75 (by rfl) g11 (b_pc (pc' := 76) rfl ?_)
    refine b_i2l l178_76 (bO_i hk (by rfl)) (b_pc (pc' := 77) rfl ?_)
    refine b_cPi l178_77 rfl (fun _ => trivial) (Nat.le_of_ble_eq_true rfl) (Nat.le_of_ble_eq_true rfl) rfl (r_X11_rowBytes (μ 85 v4.toNat) (bR_L (bO_i hk (by rfl)))) fun w5 hw5 => b_pc (pc' := 80) rfl ?_
    refine b_iadd l178_80 fun g6 => (b_pc (pc' := 81) rfl ?_)
    refine b_s (pc' := 82) (lv1 := [(0, .ref 76), (1, bI v1), (2, bI v2), (3, bI v3), (4, bI v4)]) (st' := [.ref 76, bI (v1 + w5)]) l178_81 (fun _ => rfl) ?_
    refine b_gp (q' := 86) (j := 10) l178_82 (by rfl) (by decide) (by decide) rfl hk rfl rfl (b_pc (pc' := 85) rfl ?_)
    refine b_s (pc' := 87) (lv1 := [(0, .ref 76), (1, bI v1), (2, bI v2), (3, bI v3), (4, bI v4)]) (st' := [bI v4, .ref 86, bI (v1 + w5)]) l178_85 (fun _ => rfl) ?_
    refine b_g fun g10 => ?_
    refine b_ial l178_87 (by rfl) g10 (b_pc (pc' := 88) rfl ?_)
    refine b_i2l l178_88 (bO_i hk (by rfl)) (b_pc (pc' := 89) rfl ?_)
    refine b_cPi l178_89 rfl (fun _ => trivial) (Nat.le_of_ble_eq_true rfl) (Nat.le_of_ble_eq_true rfl) rfl (r_X11_rowBytes (μ 86 v4.toNat) (bR_L (bO_i hk (by rfl)))) fun w7 hw7 => b_pc (pc' := 92) rfl ?_
    refine b_iadd l178_92 fun g8 => (b_pc (pc' := 93) rfl ?_)
    refine b_w (pc' := 94) (lv1 := ax_st1 [(0, .ref 76), (1, bI v1), (2, bI v2), (3, bI v3), (4, bI v4)] 1 (bI ((v1 + w5) + w7))) (lv' := [(0, .ref 76), (1, bI ((v1 + w5) + w7)), (2, bI v2), (3, bI v3), (4, bI v4)]) (st' := []) l178_93 (fun _ => rfl) (bSb rfl (bSb rfl (bSb rfl (bSb rfl (bSb rfl bSn))))) ?_
    refine b_inc (lv' := [(0, .ref 76), (1, bI ((v1 + w5) + w7)), (2, bI v2), (3, bI v3), (4, bI (v4 + 1))]) l178_94 rfl (by decide +kernel) (bSb rfl (bSb rfl (bSb rfl (bSb rfl (bSb rfl bSn))))) fun g9 => (b_pc (pc' := 97) rfl ?_)
    refine b_s (pc' := 52) (lv1 := [(0, .ref 76), (1, bI ((v1 + w5) + w7)), (2, bI v2), (3, bI v3), (4, bI (v4 + 1))]) (st' := []) l178_97 (fun _ => rfl) ?_
    refine bD.wk (lv' := [(0, .ref 76), (1, bI ((v1 + w5) + w7)), (2, bI v2), (3, bI v3), (4, bI (v4 + 1))]) (bSb rfl (bSb rfl (bSb rfl (bSb rfl (bSb rfl bSn))))) ?_
    exact H52 ((v1 + w5) + w7) (v4 + 1) g8 g9
theorem p_X11_shapeBytes_52 {L : Nat} {xs : Nat → Int32} {d : Nat} {μ : bM}  {κ : ((Int × Int) ⊕ (Int)) → Option bX} (hr : ∀ r : Int, κ (.inr r) = (bPc μ) r) (H4 : ∀ (v1 : Int) (v2 : Int), bR v1 → bR v2 → bD L xs (d + 1) 178 4 [(0, .ref 76), (1, bI v1), (2, bI v2)] [] μ (κ (.inl (v1, v2))))  {v1 : Int} (h1 : bR v1) {v2 : Int} (h2 : bR v2) {v3 : Int} (h3 : bR v3) {v4 : Int} (h4 : bR v4) : bD L xs (d + 1) 178 52 [(0, .ref 76), (1, bI v1), (2, bI v2), (3, bI v3), (4, bI v4)] [] μ ((bLoop (fun z => F_X11_shapeBytes_52 v2 v3 μ z.1 z.2) (v1, v4)).bind κ) :=
  b_loop (fun z => [(0, .ref 76), (1, bI z.1), (2, bI v2), (3, bI v3), (4, bI z.2)]) (fun z => μ) (fun z => bR z.1 ∧ bR z.2) (fun κ' hκ HH z hz => q_X11_shapeBytes_52 (κ := κ') (fun r => (hκ _).trans (hr r)) (fun a1 a2 b1 b2 => b_eq (hκ _) (H4 a1 a2 b1 b2)) (fun a1 a4 b1 b4 => HH (a1, a4) ⟨b1, b4⟩)  hz.1 h2 h3 hz.2) (v1, v4) ⟨h1, h4⟩
theorem q_X11_shapeBytes_4 {L : Nat} {xs : Nat → Int32} {d : Nat} {μ : bM}  {κ : ((Int × Int) ⊕ (Int)) → Option bX} (hr : ∀ r : Int, κ (.inr r) = (bPc μ) r) (H4 : ∀ (v1 : Int) (v2 : Int), bR v1 → bR v2 → bD L xs (d + 1) 178 4 [(0, .ref 76), (1, bI v1), (2, bI v2)] [] μ (κ (.inl (v1, v2))))  {v1 : Int} (h1 : bR v1) {v2 : Int} (h2 : bR v2) : bD L xs (d + 1) 178 4 [(0, .ref 76), (1, bI v1), (2, bI v2)] [] μ ((F_X11_shapeBytes_4 μ v1 v2).bind κ) := by
  unfold F_X11_shapeBytes_4
  refine bD.ok fun hk => ?_
  refine b_s (pc' := 5) (lv1 := [(0, .ref 76), (1, bI v1), (2, bI v2)]) (st' := [bI v2]) l178_4 (fun _ => rfl) ?_
  refine b_s (pc' := 6) (lv1 := [(0, .ref 76), (1, bI v1), (2, bI v2)]) (st' := [.ref 76, bI v2]) l178_5 (fun _ => rfl) ?_
  refine b_gi l178_6 (by rfl) (by decide) (by decide) rfl (b_pc (pc' := 9) rfl ?_)
  refine b_ige (pt := 106) l178_9 h2 (bO_f hk (ci := 9) (by rfl) rfl) (by decide) rfl (fun c1 => ?_) (fun c1 => b_pc (pc' := 12) rfl ?_)
  · refine b_s (pc' := 107) (lv1 := [(0, .ref 76), (1, bI v1), (2, bI v2)]) (st' := [bI v1]) l178_106 (fun _ => rfl) ?_
    exact b_reti l178_107 rfl h1 (hr _)
  · refine b_s (pc' := 13) (lv1 := [(0, .ref 76), (1, bI v1), (2, bI v2)]) (st' := [.ref 76]) l178_12 (fun _ => rfl) ?_
    refine b_s (pc' := 14) (lv1 := [(0, .ref 76), (1, bI v1), (2, bI v2)]) (st' := [.ref 76, .ref 76]) l178_13 (fun _ => rfl) ?_
    refine b_gp (q' := 98) (j := 22) l178_14 (by rfl) (by decide) (by decide) rfl hk rfl rfl (b_pc (pc' := 17) rfl ?_)
    refine b_s (pc' := 18) (lv1 := [(0, .ref 76), (1, bI v1), (2, bI v2)]) (st' := [bI v2, .ref 98, .ref 76]) l178_17 (fun _ => rfl) ?_
    refine b_g fun g11 => ?_
    refine b_ial l178_18 (by rfl) g11 (b_pc (pc' := 19) rfl ?_)
    refine b_cPi l178_19 rfl (b_rc (ci := 9) (by rfl) (by decide) (by decide +kernel)) (Nat.le_of_ble_eq_true rfl) (Nat.le_of_ble_eq_true rfl) rfl (r_X11_at (μ 98 v2.toNat) (bO_i hk (by rfl))) fun w2 hw2 => b_pc (pc' := 22) rfl ?_
    refine b_w (pc' := 23) (lv1 := ax_st1 [(0, .ref 76), (1, bI v1), (2, bI v2)] 3 (bI w2)) (lv' := [(0, .ref 76), (1, bI v1), (2, bI v2), (3, bI w2)]) (st' := []) l178_22 (fun _ => rfl) (bSb rfl (bSb rfl (bSb rfl (bSb rfl bSn)))) ?_
    refine b_s (pc' := 24) (lv1 := [(0, .ref 76), (1, bI v1), (2, bI v2), (3, bI w2)]) (st' := [bI v1]) l178_23 (fun _ => rfl) ?_
    refine b_s (pc' := 25) (lv1 := [(0, .ref 76), (1, bI v1), (2, bI v2), (3, bI w2)]) (st' := [bI v2, bI v1]) l178_24 (fun _ => rfl) ?_
    refine b_s (pc' := 26) (lv1 := [(0, .ref 76), (1, bI v1), (2, bI v2), (3, bI w2)]) (st' := [bI 1, bI v2, bI v1]) l178_25 (fun _ => rfl) ?_
    refine b_iadd l178_26 fun g3 => (b_pc (pc' := 27) rfl ?_)
    refine b_i2l l178_27 g3 (b_pc (pc' := 28) rfl ?_)
    refine b_cPi l178_28 rfl (fun _ => trivial) (Nat.le_of_ble_eq_true rfl) (Nat.le_of_ble_eq_true rfl) rfl (r_X11_rowBytes (v2 + 1) (bR_L g3)) fun w4 hw4 => b_pc (pc' := 31) rfl ?_
    refine b_iadd l178_31 fun g5 => (b_pc (pc' := 32) rfl ?_)
    refine b_s (pc' := 33) (lv1 := [(0, .ref 76), (1, bI v1), (2, bI v2), (3, bI w2)]) (st' := [.ref 76, bI (v1 + w4)]) l178_32 (fun _ => rfl) ?_
    refine b_gp (q' := 81) (j := 5) l178_33 (by rfl) (by decide) (by decide) rfl hk rfl rfl (b_pc (pc' := 36) rfl ?_)
    refine b_s (pc' := 37) (lv1 := [(0, .ref 76), (1, bI v1), (2, bI v2), (3, bI w2)]) (st' := [bI w2, .ref 81, bI (v1 + w4)]) l178_36 (fun _ => rfl) ?_
    refine b_g fun g10 => ?_
    refine b_ial l178_37 (by rfl) g10 (b_pc (pc' := 38) rfl ?_)
    refine b_i2l l178_38 (bO_i hk (by rfl)) (b_pc (pc' := 39) rfl ?_)
    refine b_cPi l178_39 rfl (fun _ => trivial) (Nat.le_of_ble_eq_true rfl) (Nat.le_of_ble_eq_true rfl) rfl (r_X11_rowBytes (μ 81 w2.toNat) (bR_L (bO_i hk (by rfl)))) fun w6 hw6 => b_pc (pc' := 42) rfl ?_
    refine b_iadd l178_42 fun g7 => (b_pc (pc' := 43) rfl ?_)
    refine b_s (pc' := 44) (lv1 := [(0, .ref 76), (1, bI v1), (2, bI v2), (3, bI w2)]) (st' := [bI 3, bI ((v1 + w4) + w6)]) l178_43 (fun _ => rfl) ?_
    refine b_iadd l178_44 fun g8 => (b_pc (pc' := 45) rfl ?_)
    refine b_w (pc' := 46) (lv1 := ax_st1 [(0, .ref 76), (1, bI v1), (2, bI v2), (3, bI w2)] 1 (bI (((v1 + w4) + w6) + 3))) (lv' := [(0, .ref 76), (1, bI (((v1 + w4) + w6) + 3)), (2, bI v2), (3, bI w2)]) (st' := []) l178_45 (fun _ => rfl) (bSb rfl (bSb rfl (bSb rfl (bSb rfl bSn)))) ?_
    refine b_bipush l178_46 (by decide) (b_pc (pc' := 48) rfl ?_)
    refine b_s (pc' := 49) (lv1 := [(0, .ref 76), (1, bI (((v1 + w4) + w6) + 3)), (2, bI v2), (3, bI w2)]) (st' := [bI w2, bI 8]) l178_48 (fun _ => rfl) ?_
    refine b_imul l178_49 fun g9 => (b_pc (pc' := 50) rfl ?_)
    refine b_w (pc' := 52) (lv1 := ax_st1 [(0, .ref 76), (1, bI (((v1 + w4) + w6) + 3)), (2, bI v2), (3, bI w2)] 4 (bI (8 * w2))) (lv' := [(0, .ref 76), (1, bI (((v1 + w4) + w6) + 3)), (2, bI v2), (3, bI w2), (4, bI (8 * w2))]) (st' := []) l178_50 (fun _ => rfl) (bSb rfl (bSb rfl (bSb rfl (bSb rfl (bSb rfl bSn))))) ?_
    refine bD.wk (lv' := [(0, .ref 76), (1, bI (((v1 + w4) + w6) + 3)), (2, bI v2), (3, bI w2), (4, bI (8 * w2))]) (bSb rfl (bSb rfl (bSb rfl (bSb rfl (bSb rfl bSn))))) ?_
    exact p_X11_shapeBytes_52 hr H4 g8 h2 hw2 g9
theorem p_X11_shapeBytes_4 {L : Nat} {xs : Nat → Int32} {d : Nat} {μ : bM}  {κ : (Int) → Option bX} (hr : ∀ r : Int, κ r = (bPc μ) r)  {v1 : Int} (h1 : bR v1) {v2 : Int} (h2 : bR v2) : bD L xs (d + 1) 178 4 [(0, .ref 76), (1, bI v1), (2, bI v2)] [] μ ((bLoop (fun z => F_X11_shapeBytes_4 μ z.1 z.2) (v1, v2)).bind κ) :=
  b_loop (fun z => [(0, .ref 76), (1, bI z.1), (2, bI z.2)]) (fun z => μ) (fun z => bR z.1 ∧ bR z.2) (fun κ' hκ HH z hz => q_X11_shapeBytes_4 (κ := κ') (fun r => (hκ _).trans (hr r)) (fun a1 a2 b1 b2 => HH (a1, a2) ⟨b1, b2⟩)  hz.1 hz.2) (v1, v2) ⟨h1, h2⟩
theorem r_X11_shapeBytes {L : Nat} {xs : Nat → Int32} {d : Nat} {μ : bM}   : bD L xs (d + 1) 178 0 [(0, .ref 76)] [] μ ((F_X11_shapeBytes μ).bind (bPc μ)) := by
  have hr : ∀ r, (bPc μ) r = (bPc μ) r := fun _ => rfl
  unfold F_X11_shapeBytes
  refine bD.ok fun hk => ?_
  refine b_s (pc' := 1) (lv1 := [(0, .ref 76)]) (st' := [bI 1]) l178_0 (fun _ => rfl) ?_
  refine b_w (pc' := 2) (lv1 := ax_st1 [(0, .ref 76)] 1 (bI 1)) (lv' := [(0, .ref 76), (1, bI 1)]) (st' := []) l178_1 (fun _ => rfl) (bSb rfl (bSb rfl bSn)) ?_
  refine b_s (pc' := 3) (lv1 := [(0, .ref 76), (1, bI 1)]) (st' := [bI 0]) l178_2 (fun _ => rfl) ?_
  refine b_w (pc' := 4) (lv1 := ax_st1 [(0, .ref 76), (1, bI 1)] 2 (bI 0)) (lv' := [(0, .ref 76), (1, bI 1), (2, bI 0)]) (st' := []) l178_3 (fun _ => rfl) (bSb rfl (bSb rfl (bSb rfl bSn))) ?_
  refine bD.wk (lv' := [(0, .ref 76), (1, bI 1), (2, bI 0)]) (bSb rfl (bSb rfl (bSb rfl bSn))) ?_
  exact p_X11_shapeBytes_4 hr (by decide) (by decide)
/-! ETModel.write -/
theorem l179_0 : (ax_dt (ax_T 179)).lookup 0 = some (.aload_n 0, 1, 0, 0, 0) := by decide +kernel
theorem l179_1 : (ax_dt (ax_T 179)).lookup 1 = some (.iconst 0, 1, 0, 0, 0) := by decide +kernel
theorem l179_2 : (ax_dt (ax_T 179)).lookup 2 = some (.putfield 120, 3, 9, 0, 0) := by decide +kernel
theorem l179_5 : (ax_dt (ax_T 179)).lookup 5 = some (.aload_n 0, 1, 0, 0, 0) := by decide +kernel
theorem l179_6 : (ax_dt (ax_T 179)).lookup 6 = some (.invokevirtual 274, 3, 171, 0, 0) := by decide +kernel
theorem l179_9 : (ax_dt (ax_T 179)).lookup 9 = some (.iconst 0, 1, 0, 0, 0) := by decide +kernel
theorem l179_10 : (ax_dt (ax_T 179)).lookup 10 = some (.istore_n 1, 1, 0, 0, 0) := by decide +kernel
theorem l179_11 : (ax_dt (ax_T 179)).lookup 11 = some (.iconst 0, 1, 0, 0, 0) := by decide +kernel
theorem l179_12 : (ax_dt (ax_T 179)).lookup 12 = some (.istore_n 2, 1, 0, 0, 0) := by decide +kernel
theorem l179_13 : (ax_dt (ax_T 179)).lookup 13 = some (.iload_n 2, 1, 0, 0, 0) := by decide +kernel
theorem l179_14 : (ax_dt (ax_T 179)).lookup 14 = some (.aload_n 0, 1, 0, 0, 0) := by decide +kernel
theorem l179_15 : (ax_dt (ax_T 179)).lookup 15 = some (.getfield 17, 3, 9, 5, 0) := by decide +kernel
theorem l179_18 : (ax_dt (ax_T 179)).lookup 18 = some (.aload_n 0, 1, 0, 0, 0) := by decide +kernel
theorem l179_19 : (ax_dt (ax_T 179)).lookup 19 = some (.getfield 137, 3, 9, 3, 0) := by decide +kernel
theorem l179_22 : (ax_dt (ax_T 179)).lookup 22 = some (.iaload, 1, 0, 0, 0) := by decide +kernel
theorem l179_23 : (ax_dt (ax_T 179)).lookup 23 = some (.if_icmp .ge 18, 3, 0, 0, 0) := by decide +kernel
theorem l179_26 : (ax_dt (ax_T 179)).lookup 26 = some (.iload_n 1, 1, 0, 0, 0) := by decide +kernel
theorem l179_27 : (ax_dt (ax_T 179)).lookup 27 = some (.aload_n 0, 1, 0, 0, 0) := by decide +kernel
theorem l179_28 : (ax_dt (ax_T 179)).lookup 28 = some (.getfield 92, 3, 9, 35, 0) := by decide +kernel
theorem l179_31 : (ax_dt (ax_T 179)).lookup 31 = some (.iload_n 2, 1, 0, 0, 0) := by decide +kernel
theorem l179_32 : (ax_dt (ax_T 179)).lookup 32 = some (.iaload, 1, 0, 0, 0) := by decide +kernel
theorem l179_33 : (ax_dt (ax_T 179)).lookup 33 = some (.iadd, 1, 0, 0, 0) := by decide +kernel
theorem l179_34 : (ax_dt (ax_T 179)).lookup 34 = some (.istore_n 1, 1, 0, 0, 0) := by decide +kernel
theorem l179_35 : (ax_dt (ax_T 179)).lookup 35 = some (.iinc 2 1, 3, 0, 0, 0) := by decide +kernel
theorem l179_38 : (ax_dt (ax_T 179)).lookup 38 = some (.goto (-25), 3, 0, 0, 0) := by decide +kernel
theorem l179_41 : (ax_dt (ax_T 179)).lookup 41 = some (.aload_n 0, 1, 0, 0, 0) := by decide +kernel
theorem l179_42 : (ax_dt (ax_T 179)).lookup 42 = some (.invokevirtual 277, 3, 178, 0, 0) := by decide +kernel
theorem l179_45 : (ax_dt (ax_T 179)).lookup 45 = some (.istore_n 2, 1, 0, 0, 0) := by decide +kernel
theorem l179_46 : (ax_dt (ax_T 179)).lookup 46 = some (.iload_n 1, 1, 0, 0, 0) := by decide +kernel
theorem l179_47 : (ax_dt (ax_T 179)).lookup 47 = some (.iconst 0, 1, 0, 0, 0) := by decide +kernel
theorem l179_48 : (ax_dt (ax_T 179)).lookup 48 = some (.invokestatic 281, 3, 136, 1, 0) := by decide +kernel
theorem l179_51 : (ax_dt (ax_T 179)).lookup 51 = some (.if_icmp .gt 22, 3, 0, 0, 0) := by decide +kernel
theorem l179_54 : (ax_dt (ax_T 179)).lookup 54 = some (.iload_n 2, 1, 0, 0, 0) := by decide +kernel
theorem l179_55 : (ax_dt (ax_T 179)).lookup 55 = some (.iconst 1, 1, 0, 0, 0) := by decide +kernel
theorem l179_56 : (ax_dt (ax_T 179)).lookup 56 = some (.invokestatic 281, 3, 136, 1, 0) := by decide +kernel
theorem l179_59 : (ax_dt (ax_T 179)).lookup 59 = some (.if_icmp .gt 14, 3, 0, 0, 0) := by decide +kernel
theorem l179_62 : (ax_dt (ax_T 179)).lookup 62 = some (.aload_n 0, 1, 0, 0, 0) := by decide +kernel
theorem l179_63 : (ax_dt (ax_T 179)).lookup 63 = some (.getfield 217, 3, 9, 32, 0) := by decide +kernel
theorem l179_66 : (ax_dt (ax_T 179)).lookup 66 = some (.iconst 2, 1, 0, 0, 0) := by decide +kernel
theorem l179_67 : (ax_dt (ax_T 179)).lookup 67 = some (.invokestatic 281, 3, 136, 1, 0) := by decide +kernel
theorem l179_70 : (ax_dt (ax_T 179)).lookup 70 = some (.if_icmp .le 6, 3, 0, 0, 0) := by decide +kernel
theorem l179_73 : (ax_dt (ax_T 179)).lookup 73 = some (.bipush (-2), 2, 0, 0, 0) := by decide +kernel
theorem l179_75 : (ax_dt (ax_T 179)).lookup 75 = some (.ireturn, 1, 0, 0, 0) := by decide +kernel
theorem l179_76 : (ax_dt (ax_T 179)).lookup 76 = some (.aload_n 0, 1, 0, 0, 0) := by decide +kernel
theorem l179_77 : (ax_dt (ax_T 179)).lookup 77 = some (.getfield 65, 3, 9, 20, 0) := by decide +kernel
theorem l179_80 : (ax_dt (ax_T 179)).lookup 80 = some (.iconst 0, 1, 0, 0, 0) := by decide +kernel
theorem l179_81 : (ax_dt (ax_T 179)).lookup 81 = some (.iload_n 1, 1, 0, 0, 0) := by decide +kernel
theorem l179_82 : (ax_dt (ax_T 179)).lookup 82 = some (.iastore, 1, 0, 0, 0) := by decide +kernel
theorem l179_83 : (ax_dt (ax_T 179)).lookup 83 = some (.aload_n 0, 1, 0, 0, 0) := by decide +kernel
theorem l179_84 : (ax_dt (ax_T 179)).lookup 84 = some (.getfield 65, 3, 9, 20, 0) := by decide +kernel
theorem l179_87 : (ax_dt (ax_T 179)).lookup 87 = some (.iconst 1, 1, 0, 0, 0) := by decide +kernel
theorem l179_88 : (ax_dt (ax_T 179)).lookup 88 = some (.iload_n 2, 1, 0, 0, 0) := by decide +kernel
theorem l179_89 : (ax_dt (ax_T 179)).lookup 89 = some (.iastore, 1, 0, 0, 0) := by decide +kernel
theorem l179_90 : (ax_dt (ax_T 179)).lookup 90 = some (.aload_n 0, 1, 0, 0, 0) := by decide +kernel
theorem l179_91 : (ax_dt (ax_T 179)).lookup 91 = some (.getfield 65, 3, 9, 20, 0) := by decide +kernel
theorem l179_94 : (ax_dt (ax_T 179)).lookup 94 = some (.iconst 2, 1, 0, 0, 0) := by decide +kernel
theorem l179_95 : (ax_dt (ax_T 179)).lookup 95 = some (.aload_n 0, 1, 0, 0, 0) := by decide +kernel
theorem l179_96 : (ax_dt (ax_T 179)).lookup 96 = some (.getfield 217, 3, 9, 32, 0) := by decide +kernel
theorem l179_99 : (ax_dt (ax_T 179)).lookup 99 = some (.iastore, 1, 0, 0, 0) := by decide +kernel
theorem l179_100 : (ax_dt (ax_T 179)).lookup 100 = some (.aload_n 0, 1, 0, 0, 0) := by decide +kernel
theorem l179_101 : (ax_dt (ax_T 179)).lookup 101 = some (.iconst 2, 1, 0, 0, 0) := by decide +kernel
theorem l179_102 : (ax_dt (ax_T 179)).lookup 102 = some (.invokestatic 284, 3, 135, 1, 0) := by decide +kernel
theorem l179_105 : (ax_dt (ax_T 179)).lookup 105 = some (.putfield 253, 3, 9, 36, 0) := by decide +kernel
theorem l179_108 : (ax_dt (ax_T 179)).lookup 108 = some (.iconst 0, 1, 0, 0, 0) := by decide +kernel
theorem l179_109 : (ax_dt (ax_T 179)).lookup 109 = some (.istore_n 3, 1, 0, 0, 0) := by decide +kernel
theorem l179_110 : (ax_dt (ax_T 179)).lookup 110 = some (.iload_n 3, 1, 0, 0, 0) := by decide +kernel
theorem l179_111 : (ax_dt (ax_T 179)).lookup 111 = some (.aload_n 0, 1, 0, 0, 0) := by decide +kernel
theorem l179_112 : (ax_dt (ax_T 179)).lookup 112 = some (.getfield 211, 3, 9, 29, 0) := by decide +kernel
theorem l179_115 : (ax_dt (ax_T 179)).lookup 115 = some (.if_icmp .ge 24, 3, 0, 0, 0) := by decide +kernel
theorem l179_118 : (ax_dt (ax_T 179)).lookup 118 = some (.aload_n 0, 1, 0, 0, 0) := by decide +kernel
theorem l179_119 : (ax_dt (ax_T 179)).lookup 119 = some (.aload_n 0, 1, 0, 0, 0) := by decide +kernel
theorem l179_120 : (ax_dt (ax_T 179)).lookup 120 = some (.getfield 80, 3, 9, 30, 0) := by decide +kernel
theorem l179_123 : (ax_dt (ax_T 179)).lookup 123 = some (.iload_n 3, 1, 0, 0, 0) := by decide +kernel
theorem l179_124 : (ax_dt (ax_T 179)).lookup 124 = some (.iaload, 1, 0, 0, 0) := by decide +kernel
theorem l179_125 : (ax_dt (ax_T 179)).lookup 125 = some (.invokevirtual 267, 3, 176, 1, 0) := by decide +kernel
theorem l179_128 : (ax_dt (ax_T 179)).lookup 128 = some (.aload_n 0, 1, 0, 0, 0) := by decide +kernel
theorem l179_129 : (ax_dt (ax_T 179)).lookup 129 = some (.iconst 0, 1, 0, 0, 0) := by decide +kernel
theorem l179_130 : (ax_dt (ax_T 179)).lookup 130 = some (.invokevirtual 256, 3, 172, 1, 0) := by decide +kernel
theorem l179_133 : (ax_dt (ax_T 179)).lookup 133 = some (.iinc 3 1, 3, 0, 0, 0) := by decide +kernel
theorem l179_136 : (ax_dt (ax_T 179)).lookup 136 = some (.goto (-26), 3, 0, 0, 0) := by decide +kernel
theorem l179_139 : (ax_dt (ax_T 179)).lookup 139 = some (.aload_n 0, 1, 0, 0, 0) := by decide +kernel
theorem l179_140 : (ax_dt (ax_T 179)).lookup 140 = some (.iconst 1, 1, 0, 0, 0) := by decide +kernel
theorem l179_141 : (ax_dt (ax_T 179)).lookup 141 = some (.invokestatic 284, 3, 135, 1, 0) := by decide +kernel
theorem l179_144 : (ax_dt (ax_T 179)).lookup 144 = some (.putfield 253, 3, 9, 36, 0) := by decide +kernel
theorem l179_147 : (ax_dt (ax_T 179)).lookup 147 = some (.iconst 0, 1, 0, 0, 0) := by decide +kernel
theorem l179_148 : (ax_dt (ax_T 179)).lookup 148 = some (.istore_n 3, 1, 0, 0, 0) := by decide +kernel
theorem l179_149 : (ax_dt (ax_T 179)).lookup 149 = some (.iload_n 3, 1, 0, 0, 0) := by decide +kernel
theorem l179_150 : (ax_dt (ax_T 179)).lookup 150 = some (.aload_n 0, 1, 0, 0, 0) := by decide +kernel
theorem l179_151 : (ax_dt (ax_T 179)).lookup 151 = some (.getfield 205, 3, 9, 26, 0) := by decide +kernel
theorem l179_154 : (ax_dt (ax_T 179)).lookup 154 = some (.if_icmp .ge 129, 3, 0, 0, 0) := by decide +kernel
theorem l179_157 : (ax_dt (ax_T 179)).lookup 157 = some (.aload_n 0, 1, 0, 0, 0) := by decide +kernel
theorem l179_158 : (ax_dt (ax_T 179)).lookup 158 = some (.aload_n 0, 1, 0, 0, 0) := by decide +kernel
theorem l179_159 : (ax_dt (ax_T 179)).lookup 159 = some (.getfield 77, 3, 9, 28, 0) := by decide +kernel
theorem l179_162 : (ax_dt (ax_T 179)).lookup 162 = some (.iload_n 3, 1, 0, 0, 0) := by decide +kernel
theorem l179_163 : (ax_dt (ax_T 179)).lookup 163 = some (.iaload, 1, 0, 0, 0) := by decide +kernel
theorem l179_164 : (ax_dt (ax_T 179)).lookup 164 = some (.invokevirtual 140, 3, 140, 1, 0) := by decide +kernel
theorem l179_167 : (ax_dt (ax_T 179)).lookup 167 = some (.istore 4, 2, 0, 0, 0) := by decide +kernel
theorem l179_169 : (ax_dt (ax_T 179)).lookup 169 = some (.aload_n 0, 1, 0, 0, 0) := by decide +kernel
theorem l179_170 : (ax_dt (ax_T 179)).lookup 170 = some (.iload_n 3, 1, 0, 0, 0) := by decide +kernel
theorem l179_171 : (ax_dt (ax_T 179)).lookup 171 = some (.iconst 1, 1, 0, 0, 0) := by decide +kernel
theorem l179_172 : (ax_dt (ax_T 179)).lookup 172 = some (.iadd, 1, 0, 0, 0) := by decide +kernel
theorem l179_173 : (ax_dt (ax_T 179)).lookup 173 = some (.i2l, 1, 0, 0, 0) := by decide +kernel
theorem l179_174 : (ax_dt (ax_T 179)).lookup 174 = some (.invokevirtual 264, 3, 173, 1, 0) := by decide +kernel
theorem l179_177 : (ax_dt (ax_T 179)).lookup 177 = some (.aload_n 0, 1, 0, 0, 0) := by decide +kernel
theorem l179_178 : (ax_dt (ax_T 179)).lookup 178 = some (.aload_n 0, 1, 0, 0, 0) := by decide +kernel
theorem l179_179 : (ax_dt (ax_T 179)).lookup 179 = some (.getfield 23, 3, 9, 7, 0) := by decide +kernel
theorem l179_182 : (ax_dt (ax_T 179)).lookup 182 = some (.iload 4, 2, 0, 0, 0) := by decide +kernel
theorem l179_184 : (ax_dt (ax_T 179)).lookup 184 = some (.iaload, 1, 0, 0, 0) := by decide +kernel
theorem l179_185 : (ax_dt (ax_T 179)).lookup 185 = some (.i2l, 1, 0, 0, 0) := by decide +kernel
theorem l179_186 : (ax_dt (ax_T 179)).lookup 186 = some (.invokevirtual 264, 3, 173, 1, 0) := by decide +kernel
theorem l179_189 : (ax_dt (ax_T 179)).lookup 189 = some (.aload_n 0, 1, 0, 0, 0) := by decide +kernel
theorem l179_190 : (ax_dt (ax_T 179)).lookup 190 = some (.aload_n 0, 1, 0, 0, 0) := by decide +kernel
theorem l179_191 : (ax_dt (ax_T 179)).lookup 191 = some (.aload_n 0, 1, 0, 0, 0) := by decide +kernel
theorem l179_192 : (ax_dt (ax_T 179)).lookup 192 = some (.getfield 77, 3, 9, 28, 0) := by decide +kernel
theorem l179_195 : (ax_dt (ax_T 179)).lookup 195 = some (.iload_n 3, 1, 0, 0, 0) := by decide +kernel
theorem l179_196 : (ax_dt (ax_T 179)).lookup 196 = some (.iaload, 1, 0, 0, 0) := by decide +kernel
theorem l179_197 : (ax_dt (ax_T 179)).lookup 197 = some (.invokevirtual 199, 3, 159, 1, 0) := by decide +kernel
theorem l179_200 : (ax_dt (ax_T 179)).lookup 200 = some (.iconst (-1), 1, 0, 0, 0) := by decide +kernel
theorem l179_201 : (ax_dt (ax_T 179)).lookup 201 = some (.if_icmp .ne 7, 3, 0, 0, 0) := by decide +kernel
theorem l179_204 : (ax_dt (ax_T 179)).lookup 204 = some (.iconst 0, 1, 0, 0, 0) := by decide +kernel
theorem l179_205 : (ax_dt (ax_T 179)).lookup 205 = some (.goto 4, 3, 0, 0, 0) := by decide +kernel
theorem l179_208 : (ax_dt (ax_T 179)).lookup 208 = some (.iconst 1, 1, 0, 0, 0) := by decide +kernel
theorem l179_209 : (ax_dt (ax_T 179)).lookup 209 = some (.invokevirtual 256, 3, 172, 1, 0) := by decide +kernel
theorem l179_212 : (ax_dt (ax_T 179)).lookup 212 = some (.bipush 8, 2, 0, 0, 0) := by decide +kernel
theorem l179_214 : (ax_dt (ax_T 179)).lookup 214 = some (.iload 4, 2, 0, 0, 0) := by decide +kernel
theorem l179_216 : (ax_dt (ax_T 179)).lookup 216 = some (.imul, 1, 0, 0, 0) := by decide +kernel
theorem l179_217 : (ax_dt (ax_T 179)).lookup 217 = some (.istore 5, 2, 0, 0, 0) := by decide +kernel
theorem l179_219 : (ax_dt (ax_T 179)).lookup 219 = some (.iload 5, 2, 0, 0, 0) := by decide +kernel
theorem l179_221 : (ax_dt (ax_T 179)).lookup 221 = some (.bipush 8, 2, 0, 0, 0) := by decide +kernel
theorem l179_223 : (ax_dt (ax_T 179)).lookup 223 = some (.iload 4, 2, 0, 0, 0) := by decide +kernel
theorem l179_225 : (ax_dt (ax_T 179)).lookup 225 = some (.imul, 1, 0, 0, 0) := by decide +kernel
theorem l179_226 : (ax_dt (ax_T 179)).lookup 226 = some (.aload_n 0, 1, 0, 0, 0) := by decide +kernel
theorem l179_227 : (ax_dt (ax_T 179)).lookup 227 = some (.getfield 32, 3, 9, 10, 0) := by decide +kernel
theorem l179_230 : (ax_dt (ax_T 179)).lookup 230 = some (.iload 4, 2, 0, 0, 0) := by decide +kernel
theorem l179_232 : (ax_dt (ax_T 179)).lookup 232 = some (.iaload, 1, 0, 0, 0) := by decide +kernel
theorem l179_233 : (ax_dt (ax_T 179)).lookup 233 = some (.iadd, 1, 0, 0, 0) := by decide +kernel
theorem l179_234 : (ax_dt (ax_T 179)).lookup 234 = some (.if_icmp .ge 33, 3, 0, 0, 0) := by decide +kernel
theorem l179_237 : (ax_dt (ax_T 179)).lookup 237 = some (.aload_n 0, 1, 0, 0, 0) := by decide +kernel
theorem l179_238 : (ax_dt (ax_T 179)).lookup 238 = some (.aload_n 0, 1, 0, 0, 0) := by decide +kernel
theorem l179_239 : (ax_dt (ax_T 179)).lookup 239 = some (.getfield 35, 3, 9, 11, 0) := by decide +kernel
theorem l179_242 : (ax_dt (ax_T 179)).lookup 242 = some (.iload 5, 2, 0, 0, 0) := by decide +kernel
theorem l179_244 : (ax_dt (ax_T 179)).lookup 244 = some (.iaload, 1, 0, 0, 0) := by decide +kernel
theorem l179_245 : (ax_dt (ax_T 179)).lookup 245 = some (.i2l, 1, 0, 0, 0) := by decide +kernel
theorem l179_246 : (ax_dt (ax_T 179)).lookup 246 = some (.invokevirtual 264, 3, 173, 1, 0) := by decide +kernel
theorem l179_249 : (ax_dt (ax_T 179)).lookup 249 = some (.aload_n 0, 1, 0, 0, 0) := by decide +kernel
theorem l179_250 : (ax_dt (ax_T 179)).lookup 250 = some (.aload_n 0, 1, 0, 0, 0) := by decide +kernel
theorem l179_251 : (ax_dt (ax_T 179)).lookup 251 = some (.getfield 38, 3, 9, 12, 0) := by decide +kernel
theorem l179_254 : (ax_dt (ax_T 179)).lookup 254 = some (.iload 5, 2, 0, 0, 0) := by decide +kernel
theorem l179_256 : (ax_dt (ax_T 179)).lookup 256 = some (.iaload, 1, 0, 0, 0) := by decide +kernel
theorem l179_257 : (ax_dt (ax_T 179)).lookup 257 = some (.i2l, 1, 0, 0, 0) := by decide +kernel
theorem l179_258 : (ax_dt (ax_T 179)).lookup 258 = some (.invokevirtual 264, 3, 173, 1, 0) := by decide +kernel
theorem l179_261 : (ax_dt (ax_T 179)).lookup 261 = some (.iinc 5 1, 3, 0, 0, 0) := by decide +kernel
theorem l179_264 : (ax_dt (ax_T 179)).lookup 264 = some (.goto (-45), 3, 0, 0, 0) := by decide +kernel
theorem l179_267 : (ax_dt (ax_T 179)).lookup 267 = some (.aload_n 0, 1, 0, 0, 0) := by decide +kernel
theorem l179_268 : (ax_dt (ax_T 179)).lookup 268 = some (.iconst 0, 1, 0, 0, 0) := by decide +kernel
theorem l179_269 : (ax_dt (ax_T 179)).lookup 269 = some (.invokevirtual 256, 3, 172, 1, 0) := by decide +kernel
theorem l179_272 : (ax_dt (ax_T 179)).lookup 272 = some (.aload_n 0, 1, 0, 0, 0) := by decide +kernel
theorem l179_273 : (ax_dt (ax_T 179)).lookup 273 = some (.iconst 0, 1, 0, 0, 0) := by decide +kernel
theorem l179_274 : (ax_dt (ax_T 179)).lookup 274 = some (.invokevirtual 256, 3, 172, 1, 0) := by decide +kernel
theorem l179_277 : (ax_dt (ax_T 179)).lookup 277 = some (.iinc 3 1, 3, 0, 0, 0) := by decide +kernel
theorem l179_280 : (ax_dt (ax_T 179)).lookup 280 = some (.goto (-131), 3, 0, 0, 0) := by decide +kernel
theorem l179_283 : (ax_dt (ax_T 179)).lookup 283 = some (.aload_n 0, 1, 0, 0, 0) := by decide +kernel
theorem l179_284 : (ax_dt (ax_T 179)).lookup 284 = some (.iconst 0, 1, 0, 0, 0) := by decide +kernel
theorem l179_285 : (ax_dt (ax_T 179)).lookup 285 = some (.invokevirtual 256, 3, 172, 1, 0) := by decide +kernel
theorem l179_288 : (ax_dt (ax_T 179)).lookup 288 = some (.aload_n 0, 1, 0, 0, 0) := by decide +kernel
theorem l179_289 : (ax_dt (ax_T 179)).lookup 289 = some (.iconst 0, 1, 0, 0, 0) := by decide +kernel
theorem l179_290 : (ax_dt (ax_T 179)).lookup 290 = some (.putfield 253, 3, 9, 36, 0) := by decide +kernel
theorem l179_293 : (ax_dt (ax_T 179)).lookup 293 = some (.iconst 0, 1, 0, 0, 0) := by decide +kernel
theorem l179_294 : (ax_dt (ax_T 179)).lookup 294 = some (.istore_n 3, 1, 0, 0, 0) := by decide +kernel
theorem l179_295 : (ax_dt (ax_T 179)).lookup 295 = some (.iload_n 3, 1, 0, 0, 0) := by decide +kernel
theorem l179_296 : (ax_dt (ax_T 179)).lookup 296 = some (.aload_n 0, 1, 0, 0, 0) := by decide +kernel
theorem l179_297 : (ax_dt (ax_T 179)).lookup 297 = some (.getfield 196, 3, 9, 23, 0) := by decide +kernel
theorem l179_300 : (ax_dt (ax_T 179)).lookup 300 = some (.if_icmp .ge 150, 3, 0, 0, 0) := by decide +kernel
theorem l179_303 : (ax_dt (ax_T 179)).lookup 303 = some (.aload_n 0, 1, 0, 0, 0) := by decide +kernel
theorem l179_304 : (ax_dt (ax_T 179)).lookup 304 = some (.getfield 68, 3, 9, 24, 0) := by decide +kernel
theorem l179_307 : (ax_dt (ax_T 179)).lookup 307 = some (.iload_n 3, 1, 0, 0, 0) := by decide +kernel
theorem l179_308 : (ax_dt (ax_T 179)).lookup 308 = some (.iaload, 1, 0, 0, 0) := by decide +kernel
theorem l179_309 : (ax_dt (ax_T 179)).lookup 309 = some (.istore 4, 2, 0, 0, 0) := by decide +kernel
theorem l179_311 : (ax_dt (ax_T 179)).lookup 311 = some (.aload_n 0, 1, 0, 0, 0) := by decide +kernel
theorem l179_312 : (ax_dt (ax_T 179)).lookup 312 = some (.iload 4, 2, 0, 0, 0) := by decide +kernel
theorem l179_314 : (ax_dt (ax_T 179)).lookup 314 = some (.invokevirtual 140, 3, 140, 1, 0) := by decide +kernel
theorem l179_317 : (ax_dt (ax_T 179)).lookup 317 = some (.istore 5, 2, 0, 0, 0) := by decide +kernel
theorem l179_319 : (ax_dt (ax_T 179)).lookup 319 = some (.aload_n 0, 1, 0, 0, 0) := by decide +kernel
theorem l179_320 : (ax_dt (ax_T 179)).lookup 320 = some (.getfield 26, 3, 9, 8, 0) := by decide +kernel
theorem l179_323 : (ax_dt (ax_T 179)).lookup 323 = some (.iload 5, 2, 0, 0, 0) := by decide +kernel
theorem l179_325 : (ax_dt (ax_T 179)).lookup 325 = some (.iaload, 1, 0, 0, 0) := by decide +kernel
theorem l179_326 : (ax_dt (ax_T 179)).lookup 326 = some (.iconst (-1), 1, 0, 0, 0) := by decide +kernel
theorem l179_327 : (ax_dt (ax_T 179)).lookup 327 = some (.if_icmp .ne 43, 3, 0, 0, 0) := by decide +kernel
theorem l179_330 : (ax_dt (ax_T 179)).lookup 330 = some (.aload_n 0, 1, 0, 0, 0) := by decide +kernel
theorem l179_331 : (ax_dt (ax_T 179)).lookup 331 = some (.aload_n 0, 1, 0, 0, 0) := by decide +kernel
theorem l179_332 : (ax_dt (ax_T 179)).lookup 332 = some (.getfield 92, 3, 9, 35, 0) := by decide +kernel
theorem l179_335 : (ax_dt (ax_T 179)).lookup 335 = some (.aload_n 0, 1, 0, 0, 0) := by decide +kernel
theorem l179_336 : (ax_dt (ax_T 179)).lookup 336 = some (.getfield 29, 3, 9, 9, 0) := by decide +kernel
theorem l179_339 : (ax_dt (ax_T 179)).lookup 339 = some (.iload 5, 2, 0, 0, 0) := by decide +kernel
theorem l179_341 : (ax_dt (ax_T 179)).lookup 341 = some (.iaload, 1, 0, 0, 0) := by decide +kernel
theorem l179_342 : (ax_dt (ax_T 179)).lookup 342 = some (.iaload, 1, 0, 0, 0) := by decide +kernel
theorem l179_343 : (ax_dt (ax_T 179)).lookup 343 = some (.iconst 4, 1, 0, 0, 0) := by decide +kernel
theorem l179_344 : (ax_dt (ax_T 179)).lookup 344 = some (.isub, 1, 0, 0, 0) := by decide +kernel
theorem l179_345 : (ax_dt (ax_T 179)).lookup 345 = some (.i2l, 1, 0, 0, 0) := by decide +kernel
theorem l179_346 : (ax_dt (ax_T 179)).lookup 346 = some (.iconst 4, 1, 0, 0, 0) := by decide +kernel
theorem l179_347 : (ax_dt (ax_T 179)).lookup 347 = some (.invokevirtual 270, 3, 175, 2, 0) := by decide +kernel
theorem l179_350 : (ax_dt (ax_T 179)).lookup 350 = some (.aload_n 0, 1, 0, 0, 0) := by decide +kernel
theorem l179_351 : (ax_dt (ax_T 179)).lookup 351 = some (.ldc2_w 287, 3, 0, 0, 4) := by decide +kernel
theorem l179_354 : (ax_dt (ax_T 179)).lookup 354 = some (.iconst 2, 1, 0, 0, 0) := by decide +kernel
theorem l179_355 : (ax_dt (ax_T 179)).lookup 355 = some (.invokevirtual 270, 3, 175, 2, 0) := by decide +kernel
theorem l179_358 : (ax_dt (ax_T 179)).lookup 358 = some (.aload_n 0, 1, 0, 0, 0) := by decide +kernel
theorem l179_359 : (ax_dt (ax_T 179)).lookup 359 = some (.lconst 0, 1, 0, 0, 0) := by decide +kernel
theorem l179_360 : (ax_dt (ax_T 179)).lookup 360 = some (.iconst 4, 1, 0, 0, 0) := by decide +kernel
theorem l179_361 : (ax_dt (ax_T 179)).lookup 361 = some (.invokevirtual 270, 3, 175, 2, 0) := by decide +kernel
theorem l179_364 : (ax_dt (ax_T 179)).lookup 364 = some (.aload_n 0, 1, 0, 0, 0) := by decide +kernel
theorem l179_365 : (ax_dt (ax_T 179)).lookup 365 = some (.bipush 8, 2, 0, 0, 0) := by decide +kernel
theorem l179_367 : (ax_dt (ax_T 179)).lookup 367 = some (.invokevirtual 256, 3, 172, 1, 0) := by decide +kernel
theorem l179_370 : (ax_dt (ax_T 179)).lookup 370 = some (.aload_n 0, 1, 0, 0, 0) := by decide +kernel
theorem l179_371 : (ax_dt (ax_T 179)).lookup 371 = some (.aload_n 0, 1, 0, 0, 0) := by decide +kernel
theorem l179_372 : (ax_dt (ax_T 179)).lookup 372 = some (.getfield 74, 3, 9, 27, 0) := by decide +kernel
theorem l179_375 : (ax_dt (ax_T 179)).lookup 375 = some (.iload 4, 2, 0, 0, 0) := by decide +kernel
theorem l179_377 : (ax_dt (ax_T 179)).lookup 377 = some (.iaload, 1, 0, 0, 0) := by decide +kernel
theorem l179_378 : (ax_dt (ax_T 179)).lookup 378 = some (.i2l, 1, 0, 0, 0) := by decide +kernel
theorem l179_379 : (ax_dt (ax_T 179)).lookup 379 = some (.invokevirtual 264, 3, 173, 1, 0) := by decide +kernel
theorem l179_382 : (ax_dt (ax_T 179)).lookup 382 = some (.bipush 8, 2, 0, 0, 0) := by decide +kernel
theorem l179_384 : (ax_dt (ax_T 179)).lookup 384 = some (.iload 5, 2, 0, 0, 0) := by decide +kernel
theorem l179_386 : (ax_dt (ax_T 179)).lookup 386 = some (.imul, 1, 0, 0, 0) := by decide +kernel
theorem l179_387 : (ax_dt (ax_T 179)).lookup 387 = some (.istore 6, 2, 0, 0, 0) := by decide +kernel
theorem l179_389 : (ax_dt (ax_T 179)).lookup 389 = some (.iload 6, 2, 0, 0, 0) := by decide +kernel
theorem l179_391 : (ax_dt (ax_T 179)).lookup 391 = some (.bipush 8, 2, 0, 0, 0) := by decide +kernel
theorem l179_393 : (ax_dt (ax_T 179)).lookup 393 = some (.iload 5, 2, 0, 0, 0) := by decide +kernel
theorem l179_395 : (ax_dt (ax_T 179)).lookup 395 = some (.imul, 1, 0, 0, 0) := by decide +kernel
theorem l179_396 : (ax_dt (ax_T 179)).lookup 396 = some (.aload_n 0, 1, 0, 0, 0) := by decide +kernel
theorem l179_397 : (ax_dt (ax_T 179)).lookup 397 = some (.getfield 32, 3, 9, 10, 0) := by decide +kernel
theorem l179_400 : (ax_dt (ax_T 179)).lookup 400 = some (.iload 5, 2, 0, 0, 0) := by decide +kernel
theorem l179_402 : (ax_dt (ax_T 179)).lookup 402 = some (.iaload, 1, 0, 0, 0) := by decide +kernel
theorem l179_403 : (ax_dt (ax_T 179)).lookup 403 = some (.iadd, 1, 0, 0, 0) := by decide +kernel
theorem l179_404 : (ax_dt (ax_T 179)).lookup 404 = some (.if_icmp .ge 15, 3, 0, 0, 0) := by decide +kernel
theorem l179_407 : (ax_dt (ax_T 179)).lookup 407 = some (.aload_n 0, 1, 0, 0, 0) := by decide +kernel
theorem l179_408 : (ax_dt (ax_T 179)).lookup 408 = some (.iload 6, 2, 0, 0, 0) := by decide +kernel
theorem l179_410 : (ax_dt (ax_T 179)).lookup 410 = some (.invokevirtual 289, 3, 177, 1, 0) := by decide +kernel
theorem l179_413 : (ax_dt (ax_T 179)).lookup 413 = some (.iinc 6 1, 3, 0, 0, 0) := by decide +kernel
theorem l179_416 : (ax_dt (ax_T 179)).lookup 416 = some (.goto (-27), 3, 0, 0, 0) := by decide +kernel
theorem l179_419 : (ax_dt (ax_T 179)).lookup 419 = some (.iconst 0, 1, 0, 0, 0) := by decide +kernel
theorem l179_420 : (ax_dt (ax_T 179)).lookup 420 = some (.istore 6, 2, 0, 0, 0) := by decide +kernel
theorem l179_422 : (ax_dt (ax_T 179)).lookup 422 = some (.iload 6, 2, 0, 0, 0) := by decide +kernel
theorem l179_424 : (ax_dt (ax_T 179)).lookup 424 = some (.aload_n 0, 1, 0, 0, 0) := by decide +kernel
theorem l179_425 : (ax_dt (ax_T 179)).lookup 425 = some (.getfield 71, 3, 9, 25, 0) := by decide +kernel
theorem l179_428 : (ax_dt (ax_T 179)).lookup 428 = some (.iload_n 3, 1, 0, 0, 0) := by decide +kernel
theorem l179_429 : (ax_dt (ax_T 179)).lookup 429 = some (.iaload, 1, 0, 0, 0) := by decide +kernel
theorem l179_430 : (ax_dt (ax_T 179)).lookup 430 = some (.if_icmp .ge 14, 3, 0, 0, 0) := by decide +kernel
theorem l179_433 : (ax_dt (ax_T 179)).lookup 433 = some (.aload_n 0, 1, 0, 0, 0) := by decide +kernel
theorem l179_434 : (ax_dt (ax_T 179)).lookup 434 = some (.iconst 0, 1, 0, 0, 0) := by decide +kernel
theorem l179_435 : (ax_dt (ax_T 179)).lookup 435 = some (.invokevirtual 256, 3, 172, 1, 0) := by decide +kernel
theorem l179_438 : (ax_dt (ax_T 179)).lookup 438 = some (.iinc 6 1, 3, 0, 0, 0) := by decide +kernel
theorem l179_441 : (ax_dt (ax_T 179)).lookup 441 = some (.goto (-19), 3, 0, 0, 0) := by decide +kernel
theorem l179_444 : (ax_dt (ax_T 179)).lookup 444 = some (.iinc 3 1, 3, 0, 0, 0) := by decide +kernel
theorem l179_447 : (ax_dt (ax_T 179)).lookup 447 = some (.goto (-152), 3, 0, 0, 0) := by decide +kernel
theorem l179_450 : (ax_dt (ax_T 179)).lookup 450 = some (.aload_n 0, 1, 0, 0, 0) := by decide +kernel
theorem l179_451 : (ax_dt (ax_T 179)).lookup 451 = some (.getfield 65, 3, 9, 20, 0) := by decide +kernel
theorem l179_454 : (ax_dt (ax_T 179)).lookup 454 = some (.iconst 0, 1, 0, 0, 0) := by decide +kernel
theorem l179_455 : (ax_dt (ax_T 179)).lookup 455 = some (.iaload, 1, 0, 0, 0) := by decide +kernel
theorem l179_456 : (ax_dt (ax_T 179)).lookup 456 = some (.aload_n 0, 1, 0, 0, 0) := by decide +kernel
theorem l179_457 : (ax_dt (ax_T 179)).lookup 457 = some (.getfield 65, 3, 9, 20, 0) := by decide +kernel
theorem l179_460 : (ax_dt (ax_T 179)).lookup 460 = some (.iconst 1, 1, 0, 0, 0) := by decide +kernel
theorem l179_461 : (ax_dt (ax_T 179)).lookup 461 = some (.iaload, 1, 0, 0, 0) := by decide +kernel
theorem l179_462 : (ax_dt (ax_T 179)).lookup 462 = some (.iadd, 1, 0, 0, 0) := by decide +kernel
theorem l179_463 : (ax_dt (ax_T 179)).lookup 463 = some (.aload_n 0, 1, 0, 0, 0) := by decide +kernel
theorem l179_464 : (ax_dt (ax_T 179)).lookup 464 = some (.getfield 65, 3, 9, 20, 0) := by decide +kernel
theorem l179_467 : (ax_dt (ax_T 179)).lookup 467 = some (.iconst 2, 1, 0, 0, 0) := by decide +kernel
theorem l179_468 : (ax_dt (ax_T 179)).lookup 468 = some (.iaload, 1, 0, 0, 0) := by decide +kernel
theorem l179_469 : (ax_dt (ax_T 179)).lookup 469 = some (.iadd, 1, 0, 0, 0) := by decide +kernel
theorem l179_470 : (ax_dt (ax_T 179)).lookup 470 = some (.ireturn, 1, 0, 0, 0) := by decide +kernel
noncomputable def F_X11_write_219 (v3 : Int) (v4 : Int) (v5 : Int) (μ : bM) : Option ((Int × bM) ⊕ ((Int × bM) ⊕ (Int × bM))) := bG (bR (8 * v4)) (bG (0 ≤ v4 ∧ v4 < 800) (bG (bR ((8 * v4) + (μ 84 v4.toNat))) (if ((8 * v4) + (μ 84 v4.toNat)) ≤ v5 then bMm (F_X11_put 0 μ) (fun w4 μ5 => bMm (F_X11_put 0 μ5) (fun w7 μ8 => bG (bR (v3 + 1)) (some (.inr (.inl ((v3 + 1), μ8)))))) else bG (0 ≤ v5 ∧ v5 < 6400) (bMm (F_X11_putRow (μ 85 v5.toNat) μ) (fun w11 μ12 => bG (0 ≤ v5 ∧ v5 < 6400) (bMm (F_X11_putRow (μ12 86 v5.toNat) μ12) (fun w14 μ15 => bG (bR (v5 + 1)) (some (.inl ((v5 + 1), μ15))))))))))
noncomputable def F_X11_write_422 (v3 : Int) (v6 : Int) (μ : bM) : Option ((Int × bM) ⊕ ((Int × bM) ⊕ (Int × bM))) := bG (0 ≤ v3 ∧ v3 < 400) (if (μ 96 v3.toNat) ≤ v6 then bG (bR (v3 + 1)) (some (.inr (.inl ((v3 + 1), μ)))) else bMm (F_X11_put 0 μ) (fun w3 μ4 => bG (bR (v6 + 1)) (some (.inl ((v6 + 1), μ4)))))
noncomputable def F_X11_write_389 (v3 : Int) (v5 : Int) (v6 : Int) (μ : bM) : Option ((Int × bM) ⊕ ((Int × bM) ⊕ (Int × bM))) := bG (bR (8 * v5)) (bG (0 ≤ v5 ∧ v5 < 800) (bG (bR ((8 * v5) + (μ 84 v5.toNat))) (if ((8 * v5) + (μ 84 v5.toNat)) ≤ v6 then bUp (bLoop (fun z => F_X11_write_422 v3 z.1 z.2) (0, μ)) else bMm (F_X11_putValue v6 μ) (fun w4 μ5 => bG (bR (v6 + 1)) (some (.inl ((v6 + 1), μ5)))))))
noncomputable def F_X11_write_370 (v3 : Int) (v4 : Int) (v5 : Int) (μ : bM) : Option ((Int × bM) ⊕ (Int × bM)) := bG (0 ≤ v4 ∧ v4 < 400) (bMm (F_X11_putRow (μ 97 v4.toNat) μ) (fun w1 μ2 => bG (bR (8 * v5)) (bLoop (fun z => F_X11_write_389 v3 v5 z.1 z.2) ((8 * v5), μ2))))
noncomputable def F_X11_write_450 (μ : bM) : Option (Int × bM) := bG (bR ((μ 94 0) + (μ 94 1))) (bG (bR (((μ 94 0) + (μ 94 1)) + (μ 94 2))) (some ((((μ 94 0) + (μ 94 1)) + (μ 94 2)), μ)))
noncomputable def F_X11_write_295 (v3 : Int) (μ : bM) : Option ((Int × bM) ⊕ (Int × bM)) := if (μ 76 23) ≤ v3 then bUp (F_X11_write_450 μ) else bG (0 ≤ v3 ∧ v3 < 400) ((F_X11_at (μ 95 v3.toNat) μ).bind fun w2 => bG (0 ≤ w2 ∧ w2 < 800) (if ¬ (μ 82 w2.toNat) = (-1) then F_X11_write_370 v3 (μ 95 v3.toNat) w2 μ else bG (0 ≤ w2 ∧ w2 < 800) (bG (0 ≤ (μ 83 w2.toNat) ∧ (μ 83 w2.toNat) < 6) (bG (bR ((μ 103 (μ 83 w2.toNat).toNat) - 4)) (bMm (F_X11_putNumber ((μ 103 (μ 83 w2.toNat).toNat) - 4) 4 μ) (fun w5 μ6 => bMm (F_X11_putNumber 4 2 μ6) (fun w8 μ9 => bMm (F_X11_putNumber 0 4 μ9) (fun w11 μ12 => bMm (F_X11_put 8 μ12) (fun w14 μ15 => F_X11_write_370 v3 (μ 95 v3.toNat) w2 μ15)))))))))
noncomputable def F_X11_write_149 (v3 : Int) (μ : bM) : Option ((Int × bM) ⊕ (Int × bM)) := if (μ 76 26) ≤ v3 then bMm (F_X11_put 0 μ) (fun w2 μ3 => bUp (bLoop (fun z => F_X11_write_295 z.1 z.2) (0, (bset μ3 76 36 0)))) else bG (0 ≤ v3 ∧ v3 < 400) ((F_X11_at (μ 98 v3.toNat) μ).bind fun w6 => bG (bR (v3 + 1)) (bMm (F_X11_putRow (v3 + 1) μ) (fun w8 μ9 => bG (0 ≤ w6 ∧ w6 < 800) (bMm (F_X11_putRow (μ9 81 w6.toNat) μ9) (fun w11 μ12 => bG (0 ≤ v3 ∧ v3 < 400) ((F_X11_firstChild (μ12 98 v3.toNat) μ12).bind fun w14 => if ¬ w14 = (-1) then bMm (F_X11_put 1 μ12) (fun w16 μ17 => bG (bR (8 * w6)) (bLoop (fun z => F_X11_write_219 v3 w6 z.1 z.2) ((8 * w6), μ17))) else bMm (F_X11_put 0 μ12) (fun w20 μ21 => bG (bR (8 * w6)) (bLoop (fun z => F_X11_write_219 v3 w6 z.1 z.2) ((8 * w6), μ21)))))))))
noncomputable def F_X11_write_110 (v3 : Int) (μ : bM) : Option ((Int × bM) ⊕ (Int × bM)) := if (μ 76 29) ≤ v3 then (F_X11_from 1 μ).bind fun w2 => bUp (bLoop (fun z => F_X11_write_149 z.1 z.2) (0, (bset μ 76 36 w2))) else bG (0 ≤ v3 ∧ v3 < 3200) (bMm (F_X11_putText (μ 99 v3.toNat) μ) (fun w4 μ5 => bMm (F_X11_put 0 μ5) (fun w7 μ8 => bG (bR (v3 + 1)) (some (.inl ((v3 + 1), μ8))))))
noncomputable def F_X11_write_41 (v1 : Int) (μ : bM) : Option (Int × bM) := (F_X11_shapeBytes μ).bind fun w1 => (F_X11_most 0 μ).bind fun w2 => if w2 < v1 then some ((-2), μ) else (F_X11_most 1 μ).bind fun w4 => if w4 < w1 then some ((-2), μ) else (F_X11_most 2 μ).bind fun w6 => if (μ 76 32) ≤ w6 then (F_X11_from 2 (bset (bset (bset μ 94 0 v1) 94 1 w1) 94 2 ((bset (bset μ 94 0 v1) 94 1 w1) 76 32))).bind fun w11 => bLoop (fun z => F_X11_write_110 z.1 z.2) (0, (bset (bset (bset (bset μ 94 0 v1) 94 1 w1) 94 2 ((bset (bset μ 94 0 v1) 94 1 w1) 76 32)) 76 36 w11)) else some ((-2), μ)
noncomputable def F_X11_write_13 (μ : bM) (v1 : Int) (v2 : Int) : Option ((Int × Int) ⊕ (Int × bM)) := bG (0 ≤ (μ 76 3) ∧ (μ 76 3) < 2) (if (μ 79 (μ 76 3).toNat) ≤ v2 then bUp (F_X11_write_41 v1 μ) else bG (0 ≤ v2 ∧ v2 < 6) (bG (bR (v1 + (μ 103 v2.toNat))) (bG (bR (v2 + 1)) (some (.inl ((v1 + (μ 103 v2.toNat)), (v2 + 1)))))))
noncomputable def F_X11_write (μ : bM) : Option (Int × bM) := bMm (F_X11_layOut (bset μ 76 0 0)) (fun w2 μ3 => bLoop (fun z => F_X11_write_13 μ3 z.1 z.2) (0, 0))
theorem q_X11_write_219 {L : Nat} {xs : Nat → Int32} {d : Nat} {μ : bM} {v3 : Int} {v4 : Int} {κ : ((Int × bM) ⊕ ((Int × bM) ⊕ (Int × bM))) → Option bX} (hr : ∀ r : Int × bM, κ (.inr (.inr r)) = (bMc) r) (H149 : ∀ (v3 : Int) (μ : bM), bR v3 → bD L xs (d + 5) 179 149 [(0, .ref 76), (3, bI v3)] [] μ (κ (.inr (.inl (v3, μ))))) (H219 : ∀ (v5 : Int) (μ : bM), bR v5 → bD L xs (d + 5) 179 219 [(0, .ref 76), (3, bI v3), (4, bI v4), (5, bI v5)] [] μ (κ (.inl (v5, μ))))  (h3 : bR v3) (h4 : bR v4) {v5 : Int} (h5 : bR v5) : bD L xs (d + 5) 179 219 [(0, .ref 76), (3, bI v3), (4, bI v4), (5, bI v5)] [] μ ((F_X11_write_219 v3 v4 v5 μ).bind κ) := by
  unfold F_X11_write_219
  refine bD.ok fun hk => ?_
  refine b_s (pc' := 221) (lv1 := [(0, .ref 76), (3, bI v3), (4, bI v4), (5, bI v5)]) (st' := [bI v5]) l179_219 (fun _ => rfl) ?_
  refine b_bipush l179_221 (by decide) (b_pc (pc' := 223) rfl ?_)
  refine b_s (pc' := 225) (lv1 := [(0, .ref 76), (3, bI v3), (4, bI v4), (5, bI v5)]) (st' := [bI v4, bI 8, bI v5]) l179_223 (fun _ => rfl) ?_
  refine b_imul l179_225 fun g1 => (b_pc (pc' := 226) rfl ?_)
  refine b_s (pc' := 227) (lv1 := [(0, .ref 76), (3, bI v3), (4, bI v4), (5, bI v5)]) (st' := [.ref 76, bI (8 * v4), bI v5]) l179_226 (fun _ => rfl) ?_
  refine b_gp (q' := 84) (j := 8) l179_227 (by rfl) (by decide) (by decide) rfl hk rfl rfl (b_pc (pc' := 230) rfl ?_)
  refine b_s (pc' := 232) (lv1 := [(0, .ref 76), (3, bI v3), (4, bI v4), (5, bI v5)]) (st' := [bI v4, .ref 84, bI (8 * v4), bI v5]) l179_230 (fun _ => rfl) ?_
  refine b_g fun g20 => ?_
  refine b_ial l179_232 (by rfl) g20 (b_pc (pc' := 233) rfl ?_)
  refine b_iadd l179_233 fun g2 => (b_pc (pc' := 234) rfl ?_)
  refine b_ige (pt := 267) l179_234 h5 g2 (by decide) rfl (fun c3 => ?_) (fun c3 => b_pc (pc' := 237) rfl ?_)
  · refine b_s (pc' := 268) (lv1 := [(0, .ref 76), (3, bI v3), (4, bI v4), (5, bI v5)]) (st' := [.ref 76]) l179_267 (fun _ => rfl) ?_
    refine b_s (pc' := 269) (lv1 := [(0, .ref 76), (3, bI v3), (4, bI v4), (5, bI v5)]) (st' := [bI 0, .ref 76]) l179_268 (fun _ => rfl) ?_
    refine b_cMv l179_269 rfl (b_rc (ci := 9) (by rfl) (by decide) (by decide +kernel)) (Nat.le_of_ble_eq_true rfl) (Nat.le_of_ble_eq_true rfl) rfl (r_X11_put 0 (by decide)) fun w4 μ5 hw4 => bD.ok fun hk6 => b_pc (pc' := 272) rfl ?_
    refine b_s (pc' := 273) (lv1 := [(0, .ref 76), (3, bI v3), (4, bI v4), (5, bI v5)]) (st' := [.ref 76]) l179_272 (fun _ => rfl) ?_
    refine b_s (pc' := 274) (lv1 := [(0, .ref 76), (3, bI v3), (4, bI v4), (5, bI v5)]) (st' := [bI 0, .ref 76]) l179_273 (fun _ => rfl) ?_
    refine b_cMv l179_274 rfl (b_rc (ci := 9) (by rfl) (by decide) (by decide +kernel)) (Nat.le_of_ble_eq_true rfl) (Nat.le_of_ble_eq_true rfl) rfl (r_X11_put 0 (by decide)) fun w7 μ8 hw7 => bD.ok fun hk9 => b_pc (pc' := 277) rfl ?_
    refine b_inc (lv' := [(0, .ref 76), (3, bI (v3 + 1))]) l179_277 rfl (by decide +kernel) (bSb rfl (bSb rfl bSn)) fun g10 => (b_pc (pc' := 280) rfl ?_)
    refine b_s (pc' := 149) (lv1 := [(0, .ref 76), (3, bI (v3 + 1))]) (st' := []) l179_280 (fun _ => rfl) ?_
    refine bD.wk (lv' := [(0, .ref 76), (3, bI (v3 + 1))]) (bSb rfl (bSb rfl bSn)) ?_
    exact H149 (v3 + 1) μ8 g10
  · refine b_s (pc' := 238) (lv1 := [(0, .ref 76), (3, bI v3), (4, bI v4), (5, bI v5)]) (st' := [.ref 76]) l179_237 (fun _ => rfl) ?_
    refine b_s (pc' := 239) (lv1 := [(0, .ref 76), (3, bI v3), (4, bI v4), (5, bI v5)]) (st' := [.ref 76, .ref 76]) l179_238 (fun _ => rfl) ?_
    refine b_gp (q' := 85) (j := 9) l179_239 (by rfl) (by decide) (by decide) rfl hk rfl rfl (b_pc (pc' := 242) rfl ?_)
    refine b_s (pc' := 244) (lv1 := [(0, .ref 76), (3, bI v3), (4, bI v4), (5, bI v5)]) (st' := [bI v5, .ref 85, .ref 76]) l179_242 (fun _ => rfl) ?_
    refine b_g fun g19 => ?_
    refine b_ial l179_244 (by rfl) g19 (b_pc (pc' := 245) rfl ?_)
    refine b_i2l l179_245 (bO_i hk (by rfl)) (b_pc (pc' := 246) rfl ?_)
    refine b_cMv l179_246 rfl (b_rc (ci := 9) (by rfl) (by decide) (by decide +kernel)) (Nat.le_of_ble_eq_true rfl) (Nat.le_of_ble_eq_true rfl) rfl (r_X11_putRow (μ 85 v5.toNat) (bR_L (bO_i hk (by rfl)))) fun w11 μ12 hw11 => bD.ok fun hk13 => b_pc (pc' := 249) rfl ?_
    refine b_s (pc' := 250) (lv1 := [(0, .ref 76), (3, bI v3), (4, bI v4), (5, bI v5)]) (st' := [.ref 76]) l179_249 (fun _ => rfl) ?_
    refine b_s (pc' := 251) (lv1 := [(0, .ref 76), (3, bI v3), (4, bI v4), (5, bI v5)]) (st' := [.ref 76, .ref 76]) l179_250 (fun _ => rfl) ?_
    refine b_gp (q' := 86) (j := 10) l179_251 (by rfl) (by decide) (by decide) rfl hk13 rfl rfl (b_pc (pc' := 254) rfl ?_)
    refine b_s (pc' := 256) (lv1 := [(0, .ref 76), (3, bI v3), (4, bI v4), (5, bI v5)]) (st' := [bI v5, .ref 86, .ref 76]) l179_254 (fun _ => rfl) ?_
    refine b_g fun g18 => ?_
    refine b_ial l179_256 (by rfl) g18 (b_pc (pc' := 257) rfl ?_)
    refine b_i2l l179_257 (bO_i hk13 (by rfl)) (b_pc (pc' := 258) rfl ?_)
    refine b_cMv l179_258 rfl (b_rc (ci := 9) (by rfl) (by decide) (by decide +kernel)) (Nat.le_of_ble_eq_true rfl) (Nat.le_of_ble_eq_true rfl) rfl (r_X11_putRow (μ12 86 v5.toNat) (bR_L (bO_i hk13 (by rfl)))) fun w14 μ15 hw14 => bD.ok fun hk16 => b_pc (pc' := 261) rfl ?_
    refine b_inc (lv' := [(0, .ref 76), (3, bI v3), (4, bI v4), (5, bI (v5 + 1))]) l179_261 rfl (by decide +kernel) (bSb rfl (bSb rfl (bSb rfl (bSb rfl bSn)))) fun g17 => (b_pc (pc' := 264) rfl ?_)
    refine b_s (pc' := 219) (lv1 := [(0, .ref 76), (3, bI v3), (4, bI v4), (5, bI (v5 + 1))]) (st' := []) l179_264 (fun _ => rfl) ?_
    refine bD.wk (lv' := [(0, .ref 76), (3, bI v3), (4, bI v4), (5, bI (v5 + 1))]) (bSb rfl (bSb rfl (bSb rfl (bSb rfl bSn)))) ?_
    exact H219 (v5 + 1) μ15 g17
theorem p_X11_write_219 {L : Nat} {xs : Nat → Int32} {d : Nat} {μ : bM}  {κ : ((Int × bM) ⊕ (Int × bM)) → Option bX} (hr : ∀ r : Int × bM, κ (.inr r) = (bMc) r) (H149 : ∀ (v3 : Int) (μ : bM), bR v3 → bD L xs (d + 5) 179 149 [(0, .ref 76), (3, bI v3)] [] μ (κ (.inl (v3, μ))))  {v3 : Int} (h3 : bR v3) {v4 : Int} (h4 : bR v4) {v5 : Int} (h5 : bR v5) : bD L xs (d + 5) 179 219 [(0, .ref 76), (3, bI v3), (4, bI v4), (5, bI v5)] [] μ ((bLoop (fun z => F_X11_write_219 v3 v4 z.1 z.2) (v5, μ)).bind κ) :=
  b_loop (fun z => [(0, .ref 76), (3, bI v3), (4, bI v4), (5, bI z.1)]) (fun z => z.2) (fun z => bR z.1) (fun κ' hκ HH z hz => q_X11_write_219 (κ := κ') (fun r => (hκ _).trans (hr r)) (fun a3 am b3 => b_eq (hκ _) (H149 a3 am b3)) (fun a5 am b5 => HH (a5, am) b5)  h3 h4 hz) (v5, μ) h5
theorem q_X11_write_422 {L : Nat} {xs : Nat → Int32} {d : Nat} {μ : bM} {v3 : Int} {κ : ((Int × bM) ⊕ ((Int × bM) ⊕ (Int × bM))) → Option bX} (hr : ∀ r : Int × bM, κ (.inr (.inr r)) = (bMc) r) (H295 : ∀ (v3 : Int) (μ : bM), bR v3 → bD L xs (d + 5) 179 295 [(0, .ref 76), (3, bI v3)] [] μ (κ (.inr (.inl (v3, μ))))) (H422 : ∀ (v6 : Int) (μ : bM), bR v6 → bD L xs (d + 5) 179 422 [(0, .ref 76), (3, bI v3), (6, bI v6)] [] μ (κ (.inl (v6, μ))))  (h3 : bR v3) {v6 : Int} (h6 : bR v6) : bD L xs (d + 5) 179 422 [(0, .ref 76), (3, bI v3), (6, bI v6)] [] μ ((F_X11_write_422 v3 v6 μ).bind κ) := by
  unfold F_X11_write_422
  refine bD.ok fun hk => ?_
  refine b_s (pc' := 424) (lv1 := [(0, .ref 76), (3, bI v3), (6, bI v6)]) (st' := [bI v6]) l179_422 (fun _ => rfl) ?_
  refine b_s (pc' := 425) (lv1 := [(0, .ref 76), (3, bI v3), (6, bI v6)]) (st' := [.ref 76, bI v6]) l179_424 (fun _ => rfl) ?_
  refine b_gp (q' := 96) (j := 20) l179_425 (by rfl) (by decide) (by decide) rfl hk rfl rfl (b_pc (pc' := 428) rfl ?_)
  refine b_s (pc' := 429) (lv1 := [(0, .ref 76), (3, bI v3), (6, bI v6)]) (st' := [bI v3, .ref 96, bI v6]) l179_428 (fun _ => rfl) ?_
  refine b_g fun g7 => ?_
  refine b_ial l179_429 (by rfl) g7 (b_pc (pc' := 430) rfl ?_)
  refine b_ige (pt := 444) l179_430 h6 (bO_i hk (by rfl)) (by decide) rfl (fun c1 => ?_) (fun c1 => b_pc (pc' := 433) rfl ?_)
  · refine b_inc (lv' := [(0, .ref 76), (3, bI (v3 + 1))]) l179_444 rfl (by decide +kernel) (bSb rfl (bSb rfl bSn)) fun g2 => (b_pc (pc' := 447) rfl ?_)
    refine b_s (pc' := 295) (lv1 := [(0, .ref 76), (3, bI (v3 + 1))]) (st' := []) l179_447 (fun _ => rfl) ?_
    refine bD.wk (lv' := [(0, .ref 76), (3, bI (v3 + 1))]) (bSb rfl (bSb rfl bSn)) ?_
    exact H295 (v3 + 1) μ g2
  · refine b_s (pc' := 434) (lv1 := [(0, .ref 76), (3, bI v3), (6, bI v6)]) (st' := [.ref 76]) l179_433 (fun _ => rfl) ?_
    refine b_s (pc' := 435) (lv1 := [(0, .ref 76), (3, bI v3), (6, bI v6)]) (st' := [bI 0, .ref 76]) l179_434 (fun _ => rfl) ?_
    refine b_cMv l179_435 rfl (b_rc (ci := 9) (by rfl) (by decide) (by decide +kernel)) (Nat.le_of_ble_eq_true rfl) (Nat.le_of_ble_eq_true rfl) rfl (r_X11_put 0 (by decide)) fun w3 μ4 hw3 => bD.ok fun hk5 => b_pc (pc' := 438) rfl ?_
    refine b_inc (lv' := [(0, .ref 76), (3, bI v3), (6, bI (v6 + 1))]) l179_438 rfl (by decide +kernel) (bSb rfl (bSb rfl (bSb rfl bSn))) fun g6 => (b_pc (pc' := 441) rfl ?_)
    refine b_s (pc' := 422) (lv1 := [(0, .ref 76), (3, bI v3), (6, bI (v6 + 1))]) (st' := []) l179_441 (fun _ => rfl) ?_
    refine bD.wk (lv' := [(0, .ref 76), (3, bI v3), (6, bI (v6 + 1))]) (bSb rfl (bSb rfl (bSb rfl bSn))) ?_
    exact H422 (v6 + 1) μ4 g6
theorem p_X11_write_422 {L : Nat} {xs : Nat → Int32} {d : Nat} {μ : bM}  {κ : ((Int × bM) ⊕ (Int × bM)) → Option bX} (hr : ∀ r : Int × bM, κ (.inr r) = (bMc) r) (H295 : ∀ (v3 : Int) (μ : bM), bR v3 → bD L xs (d + 5) 179 295 [(0, .ref 76), (3, bI v3)] [] μ (κ (.inl (v3, μ))))  {v3 : Int} (h3 : bR v3) {v6 : Int} (h6 : bR v6) : bD L xs (d + 5) 179 422 [(0, .ref 76), (3, bI v3), (6, bI v6)] [] μ ((bLoop (fun z => F_X11_write_422 v3 z.1 z.2) (v6, μ)).bind κ) :=
  b_loop (fun z => [(0, .ref 76), (3, bI v3), (6, bI z.1)]) (fun z => z.2) (fun z => bR z.1) (fun κ' hκ HH z hz => q_X11_write_422 (κ := κ') (fun r => (hκ _).trans (hr r)) (fun a3 am b3 => b_eq (hκ _) (H295 a3 am b3)) (fun a6 am b6 => HH (a6, am) b6)  h3 hz) (v6, μ) h6
theorem q_X11_write_389 {L : Nat} {xs : Nat → Int32} {d : Nat} {μ : bM} {v3 : Int} {v5 : Int} {κ : ((Int × bM) ⊕ ((Int × bM) ⊕ (Int × bM))) → Option bX} (hr : ∀ r : Int × bM, κ (.inr (.inr r)) = (bMc) r) (H295 : ∀ (v3 : Int) (μ : bM), bR v3 → bD L xs (d + 5) 179 295 [(0, .ref 76), (3, bI v3)] [] μ (κ (.inr (.inl (v3, μ))))) (H389 : ∀ (v6 : Int) (μ : bM), bR v6 → bD L xs (d + 5) 179 389 [(0, .ref 76), (3, bI v3), (5, bI v5), (6, bI v6)] [] μ (κ (.inl (v6, μ))))  (h3 : bR v3) (h5 : bR v5) {v6 : Int} (h6 : bR v6) : bD L xs (d + 5) 179 389 [(0, .ref 76), (3, bI v3), (5, bI v5), (6, bI v6)] [] μ ((F_X11_write_389 v3 v5 v6 μ).bind κ) := by
  unfold F_X11_write_389
  refine bD.ok fun hk => ?_
  refine b_s (pc' := 391) (lv1 := [(0, .ref 76), (3, bI v3), (5, bI v5), (6, bI v6)]) (st' := [bI v6]) l179_389 (fun _ => rfl) ?_
  refine b_bipush l179_391 (by decide) (b_pc (pc' := 393) rfl ?_)
  refine b_s (pc' := 395) (lv1 := [(0, .ref 76), (3, bI v3), (5, bI v5), (6, bI v6)]) (st' := [bI v5, bI 8, bI v6]) l179_393 (fun _ => rfl) ?_
  refine b_imul l179_395 fun g1 => (b_pc (pc' := 396) rfl ?_)
  refine b_s (pc' := 397) (lv1 := [(0, .ref 76), (3, bI v3), (5, bI v5), (6, bI v6)]) (st' := [.ref 76, bI (8 * v5), bI v6]) l179_396 (fun _ => rfl) ?_
  refine b_gp (q' := 84) (j := 8) l179_397 (by rfl) (by decide) (by decide) rfl hk rfl rfl (b_pc (pc' := 400) rfl ?_)
  refine b_s (pc' := 402) (lv1 := [(0, .ref 76), (3, bI v3), (5, bI v5), (6, bI v6)]) (st' := [bI v5, .ref 84, bI (8 * v5), bI v6]) l179_400 (fun _ => rfl) ?_
  refine b_g fun g8 => ?_
  refine b_ial l179_402 (by rfl) g8 (b_pc (pc' := 403) rfl ?_)
  refine b_iadd l179_403 fun g2 => (b_pc (pc' := 404) rfl ?_)
  refine b_ige (pt := 419) l179_404 h6 g2 (by decide) rfl (fun c3 => ?_) (fun c3 => b_pc (pc' := 407) rfl ?_)
  · refine b_s (pc' := 420) (lv1 := [(0, .ref 76), (3, bI v3), (5, bI v5), (6, bI v6)]) (st' := [bI 0]) l179_419 (fun _ => rfl) ?_
    refine b_w (pc' := 422) (lv1 := ax_st1 [(0, .ref 76), (3, bI v3), (5, bI v5), (6, bI v6)] 6 (bI 0)) (lv' := [(0, .ref 76), (3, bI v3), (6, bI 0)]) (st' := []) l179_420 (fun _ => rfl) (bSb rfl (bSb rfl (bSb rfl bSn))) ?_
    refine b_up (fun _ => rfl) ?_
    refine bD.wk (lv' := [(0, .ref 76), (3, bI v3), (6, bI 0)]) (bSb rfl (bSb rfl (bSb rfl bSn))) ?_
    exact p_X11_write_422 hr H295 h3 (by decide)
  · refine b_s (pc' := 408) (lv1 := [(0, .ref 76), (3, bI v3), (5, bI v5), (6, bI v6)]) (st' := [.ref 76]) l179_407 (fun _ => rfl) ?_
    refine b_s (pc' := 410) (lv1 := [(0, .ref 76), (3, bI v3), (5, bI v5), (6, bI v6)]) (st' := [bI v6, .ref 76]) l179_408 (fun _ => rfl) ?_
    refine b_cMv l179_410 rfl (b_rc (ci := 9) (by rfl) (by decide) (by decide +kernel)) (Nat.le_of_ble_eq_true rfl) (Nat.le_of_ble_eq_true rfl) rfl (r_X11_putValue v6 h6) fun w4 μ5 hw4 => bD.ok fun hk6 => b_pc (pc' := 413) rfl ?_
    refine b_inc (lv' := [(0, .ref 76), (3, bI v3), (5, bI v5), (6, bI (v6 + 1))]) l179_413 rfl (by decide +kernel) (bSb rfl (bSb rfl (bSb rfl (bSb rfl bSn)))) fun g7 => (b_pc (pc' := 416) rfl ?_)
    refine b_s (pc' := 389) (lv1 := [(0, .ref 76), (3, bI v3), (5, bI v5), (6, bI (v6 + 1))]) (st' := []) l179_416 (fun _ => rfl) ?_
    refine bD.wk (lv' := [(0, .ref 76), (3, bI v3), (5, bI v5), (6, bI (v6 + 1))]) (bSb rfl (bSb rfl (bSb rfl (bSb rfl bSn)))) ?_
    exact H389 (v6 + 1) μ5 g7
theorem p_X11_write_389 {L : Nat} {xs : Nat → Int32} {d : Nat} {μ : bM}  {κ : ((Int × bM) ⊕ (Int × bM)) → Option bX} (hr : ∀ r : Int × bM, κ (.inr r) = (bMc) r) (H295 : ∀ (v3 : Int) (μ : bM), bR v3 → bD L xs (d + 5) 179 295 [(0, .ref 76), (3, bI v3)] [] μ (κ (.inl (v3, μ))))  {v3 : Int} (h3 : bR v3) {v5 : Int} (h5 : bR v5) {v6 : Int} (h6 : bR v6) : bD L xs (d + 5) 179 389 [(0, .ref 76), (3, bI v3), (5, bI v5), (6, bI v6)] [] μ ((bLoop (fun z => F_X11_write_389 v3 v5 z.1 z.2) (v6, μ)).bind κ) :=
  b_loop (fun z => [(0, .ref 76), (3, bI v3), (5, bI v5), (6, bI z.1)]) (fun z => z.2) (fun z => bR z.1) (fun κ' hκ HH z hz => q_X11_write_389 (κ := κ') (fun r => (hκ _).trans (hr r)) (fun a3 am b3 => b_eq (hκ _) (H295 a3 am b3)) (fun a6 am b6 => HH (a6, am) b6)  h3 h5 hz) (v6, μ) h6
theorem p_X11_write_370 {L : Nat} {xs : Nat → Int32} {d : Nat} {μ : bM}  {κ : ((Int × bM) ⊕ (Int × bM)) → Option bX} (hr : ∀ r : Int × bM, κ (.inr r) = (bMc) r) (H295 : ∀ (v3 : Int) (μ : bM), bR v3 → bD L xs (d + 5) 179 295 [(0, .ref 76), (3, bI v3)] [] μ (κ (.inl (v3, μ))))  {v3 : Int} (h3 : bR v3) {v4 : Int} (h4 : bR v4) {v5 : Int} (h5 : bR v5) : bD L xs (d + 5) 179 370 [(0, .ref 76), (3, bI v3), (4, bI v4), (5, bI v5)] [] μ ((F_X11_write_370 v3 v4 v5 μ).bind κ) := by
  unfold F_X11_write_370
  refine bD.ok fun hk => ?_
  refine b_s (pc' := 371) (lv1 := [(0, .ref 76), (3, bI v3), (4, bI v4), (5, bI v5)]) (st' := [.ref 76]) l179_370 (fun _ => rfl) ?_
  refine b_s (pc' := 372) (lv1 := [(0, .ref 76), (3, bI v3), (4, bI v4), (5, bI v5)]) (st' := [.ref 76, .ref 76]) l179_371 (fun _ => rfl) ?_
  refine b_gp (q' := 97) (j := 21) l179_372 (by rfl) (by decide) (by decide) rfl hk rfl rfl (b_pc (pc' := 375) rfl ?_)
  refine b_s (pc' := 377) (lv1 := [(0, .ref 76), (3, bI v3), (4, bI v4), (5, bI v5)]) (st' := [bI v4, .ref 97, .ref 76]) l179_375 (fun _ => rfl) ?_
  refine b_g fun g5 => ?_
  refine b_ial l179_377 (by rfl) g5 (b_pc (pc' := 378) rfl ?_)
  refine b_i2l l179_378 (bO_i hk (by rfl)) (b_pc (pc' := 379) rfl ?_)
  refine b_cMv l179_379 rfl (b_rc (ci := 9) (by rfl) (by decide) (by decide +kernel)) (Nat.le_of_ble_eq_true rfl) (Nat.le_of_ble_eq_true rfl) rfl (r_X11_putRow (μ 97 v4.toNat) (bR_L (bO_i hk (by rfl)))) fun w1 μ2 hw1 => bD.ok fun hk3 => b_pc (pc' := 382) rfl ?_
  refine b_bipush l179_382 (by decide) (b_pc (pc' := 384) rfl ?_)
  refine b_s (pc' := 386) (lv1 := [(0, .ref 76), (3, bI v3), (4, bI v4), (5, bI v5)]) (st' := [bI v5, bI 8]) l179_384 (fun _ => rfl) ?_
  refine b_imul l179_386 fun g4 => (b_pc (pc' := 387) rfl ?_)
  refine b_w (pc' := 389) (lv1 := ax_st1 [(0, .ref 76), (3, bI v3), (4, bI v4), (5, bI v5)] 6 (bI (8 * v5))) (lv' := [(0, .ref 76), (3, bI v3), (5, bI v5), (6, bI (8 * v5))]) (st' := []) l179_387 (fun _ => rfl) (bSb rfl (bSb rfl (bSb rfl (bSb rfl bSn)))) ?_
  refine bD.wk (lv' := [(0, .ref 76), (3, bI v3), (5, bI v5), (6, bI (8 * v5))]) (bSb rfl (bSb rfl (bSb rfl (bSb rfl bSn)))) ?_
  exact p_X11_write_389 hr H295 h3 h5 g4
theorem p_X11_write_450 {L : Nat} {xs : Nat → Int32} {d : Nat} {μ : bM}  {κ : (Int × bM) → Option bX} (hr : ∀ r : Int × bM, κ r = (bMc) r)   : bD L xs (d + 5) 179 450 [(0, .ref 76)] [] μ ((F_X11_write_450 μ).bind κ) := by
  unfold F_X11_write_450
  refine bD.ok fun hk => ?_
  refine b_s (pc' := 451) (lv1 := [(0, .ref 76)]) (st' := [.ref 76]) l179_450 (fun _ => rfl) ?_
  refine b_gp (q' := 94) (j := 18) l179_451 (by rfl) (by decide) (by decide) rfl hk rfl rfl (b_pc (pc' := 454) rfl ?_)
  refine b_s (pc' := 455) (lv1 := [(0, .ref 76)]) (st' := [bI 0, .ref 94]) l179_454 (fun _ => rfl) ?_
  refine b_ial l179_455 (by rfl) (by decide) (b_pc (pc' := 456) rfl ?_)
  refine b_s (pc' := 457) (lv1 := [(0, .ref 76)]) (st' := [.ref 76, bI (μ 94 0)]) l179_456 (fun _ => rfl) ?_
  refine b_gp (q' := 94) (j := 18) l179_457 (by rfl) (by decide) (by decide) rfl hk rfl rfl (b_pc (pc' := 460) rfl ?_)
  refine b_s (pc' := 461) (lv1 := [(0, .ref 76)]) (st' := [bI 1, .ref 94, bI (μ 94 0)]) l179_460 (fun _ => rfl) ?_
  refine b_ial l179_461 (by rfl) (by decide) (b_pc (pc' := 462) rfl ?_)
  refine b_iadd l179_462 fun g1 => (b_pc (pc' := 463) rfl ?_)
  refine b_s (pc' := 464) (lv1 := [(0, .ref 76)]) (st' := [.ref 76, bI ((μ 94 0) + (μ 94 1))]) l179_463 (fun _ => rfl) ?_
  refine b_gp (q' := 94) (j := 18) l179_464 (by rfl) (by decide) (by decide) rfl hk rfl rfl (b_pc (pc' := 467) rfl ?_)
  refine b_s (pc' := 468) (lv1 := [(0, .ref 76)]) (st' := [bI 2, .ref 94, bI ((μ 94 0) + (μ 94 1))]) l179_467 (fun _ => rfl) ?_
  refine b_ial l179_468 (by rfl) (by decide) (b_pc (pc' := 469) rfl ?_)
  refine b_iadd l179_469 fun g2 => (b_pc (pc' := 470) rfl ?_)
  exact b_reti l179_470 rfl g2 (hr _)
theorem q_X11_write_295 {L : Nat} {xs : Nat → Int32} {d : Nat} {μ : bM}  {κ : ((Int × bM) ⊕ (Int × bM)) → Option bX} (hr : ∀ r : Int × bM, κ (.inr r) = (bMc) r) (H295 : ∀ (v3 : Int) (μ : bM), bR v3 → bD L xs (d + 5) 179 295 [(0, .ref 76), (3, bI v3)] [] μ (κ (.inl (v3, μ))))  {v3 : Int} (h3 : bR v3) : bD L xs (d + 5) 179 295 [(0, .ref 76), (3, bI v3)] [] μ ((F_X11_write_295 v3 μ).bind κ) := by
  unfold F_X11_write_295
  refine bD.ok fun hk => ?_
  refine b_s (pc' := 296) (lv1 := [(0, .ref 76), (3, bI v3)]) (st' := [bI v3]) l179_295 (fun _ => rfl) ?_
  refine b_s (pc' := 297) (lv1 := [(0, .ref 76), (3, bI v3)]) (st' := [.ref 76, bI v3]) l179_296 (fun _ => rfl) ?_
  refine b_gi l179_297 (by rfl) (by decide) (by decide) rfl (b_pc (pc' := 300) rfl ?_)
  refine b_ige (pt := 450) l179_300 h3 (bO_f hk (ci := 9) (by rfl) rfl) (by decide) rfl (fun c1 => ?_) (fun c1 => b_pc (pc' := 303) rfl ?_)
  · refine b_up (fun _ => rfl) ?_
    refine bD.wk (lv' := [(0, .ref 76)]) (bSb rfl bSn) ?_
    exact p_X11_write_450 hr 
  · refine b_s (pc' := 304) (lv1 := [(0, .ref 76), (3, bI v3)]) (st' := [.ref 76]) l179_303 (fun _ => rfl) ?_
    refine b_gp (q' := 95) (j := 19) l179_304 (by rfl) (by decide) (by decide) rfl hk rfl rfl (b_pc (pc' := 307) rfl ?_)
    refine b_s (pc' := 308) (lv1 := [(0, .ref 76), (3, bI v3)]) (st' := [bI v3, .ref 95]) l179_307 (fun _ => rfl) ?_
    refine b_g fun g20 => ?_
    refine b_ial l179_308 (by rfl) g20 (b_pc (pc' := 309) rfl ?_)
    refine b_w (pc' := 311) (lv1 := ax_st1 [(0, .ref 76), (3, bI v3)] 4 (bI (μ 95 v3.toNat))) (lv' := [(0, .ref 76), (3, bI v3), (4, bI (μ 95 v3.toNat))]) (st' := []) l179_309 (fun _ => rfl) (bSb rfl (bSb rfl (bSb rfl bSn))) ?_
    refine b_s (pc' := 312) (lv1 := [(0, .ref 76), (3, bI v3), (4, bI (μ 95 v3.toNat))]) (st' := [.ref 76]) l179_311 (fun _ => rfl) ?_
    refine b_s (pc' := 314) (lv1 := [(0, .ref 76), (3, bI v3), (4, bI (μ 95 v3.toNat))]) (st' := [bI (μ 95 v3.toNat), .ref 76]) l179_312 (fun _ => rfl) ?_
    refine b_cPi l179_314 rfl (b_rc (ci := 9) (by rfl) (by decide) (by decide +kernel)) (Nat.le_of_ble_eq_true rfl) (Nat.le_of_ble_eq_true rfl) rfl (r_X11_at (μ 95 v3.toNat) (bO_i hk (by rfl))) fun w2 hw2 => b_pc (pc' := 317) rfl ?_
    refine b_w (pc' := 319) (lv1 := ax_st1 [(0, .ref 76), (3, bI v3), (4, bI (μ 95 v3.toNat))] 5 (bI w2)) (lv' := [(0, .ref 76), (3, bI v3), (4, bI (μ 95 v3.toNat)), (5, bI w2)]) (st' := []) l179_317 (fun _ => rfl) (bSb rfl (bSb rfl (bSb rfl (bSb rfl bSn)))) ?_
    refine b_s (pc' := 320) (lv1 := [(0, .ref 76), (3, bI v3), (4, bI (μ 95 v3.toNat)), (5, bI w2)]) (st' := [.ref 76]) l179_319 (fun _ => rfl) ?_
    refine b_gp (q' := 82) (j := 6) l179_320 (by rfl) (by decide) (by decide) rfl hk rfl rfl (b_pc (pc' := 323) rfl ?_)
    refine b_s (pc' := 325) (lv1 := [(0, .ref 76), (3, bI v3), (4, bI (μ 95 v3.toNat)), (5, bI w2)]) (st' := [bI w2, .ref 82]) l179_323 (fun _ => rfl) ?_
    refine b_g fun g19 => ?_
    refine b_ial l179_325 (by rfl) g19 (b_pc (pc' := 326) rfl ?_)
    refine b_s (pc' := 327) (lv1 := [(0, .ref 76), (3, bI v3), (4, bI (μ 95 v3.toNat)), (5, bI w2)]) (st' := [bI (-1), bI (μ 82 w2.toNat)]) l179_326 (fun _ => rfl) ?_
    refine b_ine (pt := 370) l179_327 (bO_i hk (by rfl)) (by decide) (by decide) rfl (fun c3 => ?_) (fun c3 => b_pc (pc' := 330) rfl ?_)
    · refine bD.wk (lv' := [(0, .ref 76), (3, bI v3), (4, bI (μ 95 v3.toNat)), (5, bI w2)]) (bSb rfl (bSb rfl (bSb rfl (bSb rfl bSn)))) ?_
      exact p_X11_write_370 hr H295 h3 (bO_i hk (by rfl)) hw2
    · refine b_s (pc' := 331) (lv1 := [(0, .ref 76), (3, bI v3), (4, bI (μ 95 v3.toNat)), (5, bI w2)]) (st' := [.ref 76]) l179_330 (fun _ => rfl) ?_
      refine b_s (pc' := 332) (lv1 := [(0, .ref 76), (3, bI v3), (4, bI (μ 95 v3.toNat)), (5, bI w2)]) (st' := [.ref 76, .ref 76]) l179_331 (fun _ => rfl) ?_
      refine b_gp (q' := 103) (j := 27) l179_332 (by rfl) (by decide) (by decide) rfl hk rfl rfl (b_pc (pc' := 335) rfl ?_)
      refine b_s (pc' := 336) (lv1 := [(0, .ref 76), (3, bI v3), (4, bI (μ 95 v3.toNat)), (5, bI w2)]) (st' := [.ref 76, .ref 103, .ref 76]) l179_335 (fun _ => rfl) ?_
      refine b_gp (q' := 83) (j := 7) l179_336 (by rfl) (by decide) (by decide) rfl hk rfl rfl (b_pc (pc' := 339) rfl ?_)
      refine b_s (pc' := 341) (lv1 := [(0, .ref 76), (3, bI v3), (4, bI (μ 95 v3.toNat)), (5, bI w2)]) (st' := [bI w2, .ref 83, .ref 103, .ref 76]) l179_339 (fun _ => rfl) ?_
      refine b_g fun g18 => ?_
      refine b_ial l179_341 (by rfl) g18 (b_pc (pc' := 342) rfl ?_)
      refine b_g fun g17 => ?_
      refine b_ial l179_342 (by rfl) g17 (b_pc (pc' := 343) rfl ?_)
      refine b_s (pc' := 344) (lv1 := [(0, .ref 76), (3, bI v3), (4, bI (μ 95 v3.toNat)), (5, bI w2)]) (st' := [bI 4, bI (μ 103 (μ 83 w2.toNat).toNat), .ref 76]) l179_343 (fun _ => rfl) ?_
      refine b_isub l179_344 fun g4 => (b_pc (pc' := 345) rfl ?_)
      refine b_i2l l179_345 g4 (b_pc (pc' := 346) rfl ?_)
      refine b_s (pc' := 347) (lv1 := [(0, .ref 76), (3, bI v3), (4, bI (μ 95 v3.toNat)), (5, bI w2)]) (st' := [bI 4, bLg ((μ 103 (μ 83 w2.toNat).toNat) - 4), .ref 76]) l179_346 (fun _ => rfl) ?_
      refine b_cMv l179_347 rfl (b_rc (ci := 9) (by rfl) (by decide) (by decide +kernel)) (Nat.le_of_ble_eq_true rfl) (Nat.le_of_ble_eq_true rfl) rfl (r_X11_putNumber ((μ 103 (μ 83 w2.toNat).toNat) - 4) (bR_L g4) 4 (by decide)) fun w5 μ6 hw5 => bD.ok fun hk7 => b_pc (pc' := 350) rfl ?_
      refine b_s (pc' := 351) (lv1 := [(0, .ref 76), (3, bI v3), (4, bI (μ 95 v3.toNat)), (5, bI w2)]) (st' := [.ref 76]) l179_350 (fun _ => rfl) ?_
      refine b_s (pc' := 354) (lv1 := [(0, .ref 76), (3, bI v3), (4, bI (μ 95 v3.toNat)), (5, bI w2)]) (st' := [bLg 4, .ref 76]) l179_351 (fun _ => rfl) ?_
      refine b_s (pc' := 355) (lv1 := [(0, .ref 76), (3, bI v3), (4, bI (μ 95 v3.toNat)), (5, bI w2)]) (st' := [bI 2, bLg 4, .ref 76]) l179_354 (fun _ => rfl) ?_
      refine b_cMv l179_355 rfl (b_rc (ci := 9) (by rfl) (by decide) (by decide +kernel)) (Nat.le_of_ble_eq_true rfl) (Nat.le_of_ble_eq_true rfl) rfl (r_X11_putNumber 4 (by decide) 2 (by decide)) fun w8 μ9 hw8 => bD.ok fun hk10 => b_pc (pc' := 358) rfl ?_
      refine b_s (pc' := 359) (lv1 := [(0, .ref 76), (3, bI v3), (4, bI (μ 95 v3.toNat)), (5, bI w2)]) (st' := [.ref 76]) l179_358 (fun _ => rfl) ?_
      refine b_lconst (e := 0) l179_359 (by decide) (b_pc (pc' := 360) rfl ?_)
      refine b_s (pc' := 361) (lv1 := [(0, .ref 76), (3, bI v3), (4, bI (μ 95 v3.toNat)), (5, bI w2)]) (st' := [bI 4, bLg 0, .ref 76]) l179_360 (fun _ => rfl) ?_
      refine b_cMv l179_361 rfl (b_rc (ci := 9) (by rfl) (by decide) (by decide +kernel)) (Nat.le_of_ble_eq_true rfl) (Nat.le_of_ble_eq_true rfl) rfl (r_X11_putNumber 0 (by decide) 4 (by decide)) fun w11 μ12 hw11 => bD.ok fun hk13 => b_pc (pc' := 364) rfl ?_
      refine b_s (pc' := 365) (lv1 := [(0, .ref 76), (3, bI v3), (4, bI (μ 95 v3.toNat)), (5, bI w2)]) (st' := [.ref 76]) l179_364 (fun _ => rfl) ?_
      refine b_bipush l179_365 (by decide) (b_pc (pc' := 367) rfl ?_)
      refine b_cMv l179_367 rfl (b_rc (ci := 9) (by rfl) (by decide) (by decide +kernel)) (Nat.le_of_ble_eq_true rfl) (Nat.le_of_ble_eq_true rfl) rfl (r_X11_put 8 (by decide)) fun w14 μ15 hw14 => bD.ok fun hk16 => b_pc (pc' := 370) rfl ?_
      refine bD.wk (lv' := [(0, .ref 76), (3, bI v3), (4, bI (μ 95 v3.toNat)), (5, bI w2)]) (bSb rfl (bSb rfl (bSb rfl (bSb rfl bSn)))) ?_
      exact p_X11_write_370 hr H295 h3 (bO_i hk (by rfl)) hw2
theorem p_X11_write_295 {L : Nat} {xs : Nat → Int32} {d : Nat} {μ : bM}  {κ : (Int × bM) → Option bX} (hr : ∀ r : Int × bM, κ r = (bMc) r)  {v3 : Int} (h3 : bR v3) : bD L xs (d + 5) 179 295 [(0, .ref 76), (3, bI v3)] [] μ ((bLoop (fun z => F_X11_write_295 z.1 z.2) (v3, μ)).bind κ) :=
  b_loop (fun z => [(0, .ref 76), (3, bI z.1)]) (fun z => z.2) (fun z => bR z.1) (fun κ' hκ HH z hz => q_X11_write_295 (κ := κ') (fun r => (hκ _).trans (hr r)) (fun a3 am b3 => HH (a3, am) b3)  hz) (v3, μ) h3
theorem q_X11_write_149 {L : Nat} {xs : Nat → Int32} {d : Nat} {μ : bM}  {κ : ((Int × bM) ⊕ (Int × bM)) → Option bX} (hr : ∀ r : Int × bM, κ (.inr r) = (bMc) r) (H149 : ∀ (v3 : Int) (μ : bM), bR v3 → bD L xs (d + 5) 179 149 [(0, .ref 76), (3, bI v3)] [] μ (κ (.inl (v3, μ))))  {v3 : Int} (h3 : bR v3) : bD L xs (d + 5) 179 149 [(0, .ref 76), (3, bI v3)] [] μ ((F_X11_write_149 v3 μ).bind κ) := by
  unfold F_X11_write_149
  refine bD.ok fun hk => ?_
  refine b_s (pc' := 150) (lv1 := [(0, .ref 76), (3, bI v3)]) (st' := [bI v3]) l179_149 (fun _ => rfl) ?_
  refine b_s (pc' := 151) (lv1 := [(0, .ref 76), (3, bI v3)]) (st' := [.ref 76, bI v3]) l179_150 (fun _ => rfl) ?_
  refine b_gi l179_151 (by rfl) (by decide) (by decide) rfl (b_pc (pc' := 154) rfl ?_)
  refine b_ige (pt := 283) l179_154 h3 (bO_f hk (ci := 9) (by rfl) rfl) (by decide) rfl (fun c1 => ?_) (fun c1 => b_pc (pc' := 157) rfl ?_)
  · refine b_s (pc' := 284) (lv1 := [(0, .ref 76), (3, bI v3)]) (st' := [.ref 76]) l179_283 (fun _ => rfl) ?_
    refine b_s (pc' := 285) (lv1 := [(0, .ref 76), (3, bI v3)]) (st' := [bI 0, .ref 76]) l179_284 (fun _ => rfl) ?_
    refine b_cMv l179_285 rfl (b_rc (ci := 9) (by rfl) (by decide) (by decide +kernel)) (Nat.le_of_ble_eq_true rfl) (Nat.le_of_ble_eq_true rfl) rfl (r_X11_put 0 (by decide)) fun w2 μ3 hw2 => bD.ok fun hk4 => b_pc (pc' := 288) rfl ?_
    refine b_s (pc' := 289) (lv1 := [(0, .ref 76), (3, bI v3)]) (st' := [.ref 76]) l179_288 (fun _ => rfl) ?_
    refine b_s (pc' := 290) (lv1 := [(0, .ref 76), (3, bI v3)]) (st' := [bI 0, .ref 76]) l179_289 (fun _ => rfl) ?_
    refine b_pi l179_290 (by rfl) (by decide) (by decide) rfl rfl (by decide) (bD.ok fun hk5 => b_pc (pc' := 293) rfl ?_)
    refine b_s (pc' := 294) (lv1 := [(0, .ref 76), (3, bI v3)]) (st' := [bI 0]) l179_293 (fun _ => rfl) ?_
    refine b_w (pc' := 295) (lv1 := ax_st1 [(0, .ref 76), (3, bI v3)] 3 (bI 0)) (lv' := [(0, .ref 76), (3, bI 0)]) (st' := []) l179_294 (fun _ => rfl) (bSb rfl (bSb rfl bSn)) ?_
    refine b_up (fun _ => rfl) ?_
    refine bD.wk (lv' := [(0, .ref 76), (3, bI 0)]) (bSb rfl (bSb rfl bSn)) ?_
    exact p_X11_write_295 hr (by decide)
  · refine b_s (pc' := 158) (lv1 := [(0, .ref 76), (3, bI v3)]) (st' := [.ref 76]) l179_157 (fun _ => rfl) ?_
    refine b_s (pc' := 159) (lv1 := [(0, .ref 76), (3, bI v3)]) (st' := [.ref 76, .ref 76]) l179_158 (fun _ => rfl) ?_
    refine b_gp (q' := 98) (j := 22) l179_159 (by rfl) (by decide) (by decide) rfl hk rfl rfl (b_pc (pc' := 162) rfl ?_)
    refine b_s (pc' := 163) (lv1 := [(0, .ref 76), (3, bI v3)]) (st' := [bI v3, .ref 98, .ref 76]) l179_162 (fun _ => rfl) ?_
    refine b_g fun g26 => ?_
    refine b_ial l179_163 (by rfl) g26 (b_pc (pc' := 164) rfl ?_)
    refine b_cPi l179_164 rfl (b_rc (ci := 9) (by rfl) (by decide) (by decide +kernel)) (Nat.le_of_ble_eq_true rfl) (Nat.le_of_ble_eq_true rfl) rfl (r_X11_at (μ 98 v3.toNat) (bO_i hk (by rfl))) fun w6 hw6 => b_pc (pc' := 167) rfl ?_
    refine b_w (pc' := 169) (lv1 := ax_st1 [(0, .ref 76), (3, bI v3)] 4 (bI w6)) (lv' := [(0, .ref 76), (3, bI v3), (4, bI w6)]) (st' := []) l179_167 (fun _ => rfl) (bSb rfl (bSb rfl (bSb rfl bSn))) ?_
    refine b_s (pc' := 170) (lv1 := [(0, .ref 76), (3, bI v3), (4, bI w6)]) (st' := [.ref 76]) l179_169 (fun _ => rfl) ?_
    refine b_s (pc' := 171) (lv1 := [(0, .ref 76), (3, bI v3), (4, bI w6)]) (st' := [bI v3, .ref 76]) l179_170 (fun _ => rfl) ?_
    refine b_s (pc' := 172) (lv1 := [(0, .ref 76), (3, bI v3), (4, bI w6)]) (st' := [bI 1, bI v3, .ref 76]) l179_171 (fun _ => rfl) ?_
    refine b_iadd l179_172 fun g7 => (b_pc (pc' := 173) rfl ?_)
    refine b_i2l l179_173 g7 (b_pc (pc' := 174) rfl ?_)
    refine b_cMv l179_174 rfl (b_rc (ci := 9) (by rfl) (by decide) (by decide +kernel)) (Nat.le_of_ble_eq_true rfl) (Nat.le_of_ble_eq_true rfl) rfl (r_X11_putRow (v3 + 1) (bR_L g7)) fun w8 μ9 hw8 => bD.ok fun hk10 => b_pc (pc' := 177) rfl ?_
    refine b_s (pc' := 178) (lv1 := [(0, .ref 76), (3, bI v3), (4, bI w6)]) (st' := [.ref 76]) l179_177 (fun _ => rfl) ?_
    refine b_s (pc' := 179) (lv1 := [(0, .ref 76), (3, bI v3), (4, bI w6)]) (st' := [.ref 76, .ref 76]) l179_178 (fun _ => rfl) ?_
    refine b_gp (q' := 81) (j := 5) l179_179 (by rfl) (by decide) (by decide) rfl hk10 rfl rfl (b_pc (pc' := 182) rfl ?_)
    refine b_s (pc' := 184) (lv1 := [(0, .ref 76), (3, bI v3), (4, bI w6)]) (st' := [bI w6, .ref 81, .ref 76]) l179_182 (fun _ => rfl) ?_
    refine b_g fun g25 => ?_
    refine b_ial l179_184 (by rfl) g25 (b_pc (pc' := 185) rfl ?_)
    refine b_i2l l179_185 (bO_i hk10 (by rfl)) (b_pc (pc' := 186) rfl ?_)
    refine b_cMv l179_186 rfl (b_rc (ci := 9) (by rfl) (by decide) (by decide +kernel)) (Nat.le_of_ble_eq_true rfl) (Nat.le_of_ble_eq_true rfl) rfl (r_X11_putRow (μ9 81 w6.toNat) (bR_L (bO_i hk10 (by rfl)))) fun w11 μ12 hw11 => bD.ok fun hk13 => b_pc (pc' := 189) rfl ?_
    refine b_s (pc' := 190) (lv1 := [(0, .ref 76), (3, bI v3), (4, bI w6)]) (st' := [.ref 76]) l179_189 (fun _ => rfl) ?_
    refine b_s (pc' := 191) (lv1 := [(0, .ref 76), (3, bI v3), (4, bI w6)]) (st' := [.ref 76, .ref 76]) l179_190 (fun _ => rfl) ?_
    refine b_s (pc' := 192) (lv1 := [(0, .ref 76), (3, bI v3), (4, bI w6)]) (st' := [.ref 76, .ref 76, .ref 76]) l179_191 (fun _ => rfl) ?_
    refine b_gp (q' := 98) (j := 22) l179_192 (by rfl) (by decide) (by decide) rfl hk13 rfl rfl (b_pc (pc' := 195) rfl ?_)
    refine b_s (pc' := 196) (lv1 := [(0, .ref 76), (3, bI v3), (4, bI w6)]) (st' := [bI v3, .ref 98, .ref 76, .ref 76]) l179_195 (fun _ => rfl) ?_
    refine b_g fun g24 => ?_
    refine b_ial l179_196 (by rfl) g24 (b_pc (pc' := 197) rfl ?_)
    refine b_cPi l179_197 rfl (b_rc (ci := 9) (by rfl) (by decide) (by decide +kernel)) (Nat.le_of_ble_eq_true rfl) (Nat.le_of_ble_eq_true rfl) rfl (r_X11_firstChild (μ12 98 v3.toNat) (bO_i hk13 (by rfl))) fun w14 hw14 => b_pc (pc' := 200) rfl ?_
    refine b_s (pc' := 201) (lv1 := [(0, .ref 76), (3, bI v3), (4, bI w6)]) (st' := [bI (-1), bI w14, .ref 76]) l179_200 (fun _ => rfl) ?_
    refine b_ine (pt := 208) l179_201 hw14 (by decide) (by decide) rfl (fun c15 => ?_) (fun c15 => b_pc (pc' := 204) rfl ?_)
    · refine b_s (pc' := 209) (lv1 := [(0, .ref 76), (3, bI v3), (4, bI w6)]) (st' := [bI 1, .ref 76]) l179_208 (fun _ => rfl) ?_
      refine b_cMv l179_209 rfl (b_rc (ci := 9) (by rfl) (by decide) (by decide +kernel)) (Nat.le_of_ble_eq_true rfl) (Nat.le_of_ble_eq_true rfl) rfl (r_X11_put 1 (by decide)) fun w16 μ17 hw16 => bD.ok fun hk18 => b_pc (pc' := 212) rfl ?_
      refine b_bipush l179_212 (by decide) (b_pc (pc' := 214) rfl ?_)
      refine b_s (pc' := 216) (lv1 := [(0, .ref 76), (3, bI v3), (4, bI w6)]) (st' := [bI w6, bI 8]) l179_214 (fun _ => rfl) ?_
      refine b_imul l179_216 fun g19 => (b_pc (pc' := 217) rfl ?_)
      refine b_w (pc' := 219) (lv1 := ax_st1 [(0, .ref 76), (3, bI v3), (4, bI w6)] 5 (bI (8 * w6))) (lv' := [(0, .ref 76), (3, bI v3), (4, bI w6), (5, bI (8 * w6))]) (st' := []) l179_217 (fun _ => rfl) (bSb rfl (bSb rfl (bSb rfl (bSb rfl bSn)))) ?_
      refine bD.wk (lv' := [(0, .ref 76), (3, bI v3), (4, bI w6), (5, bI (8 * w6))]) (bSb rfl (bSb rfl (bSb rfl (bSb rfl bSn)))) ?_
      exact p_X11_write_219 hr H149 h3 hw6 g19
    · refine b_s (pc' := 205) (lv1 := [(0, .ref 76), (3, bI v3), (4, bI w6)]) (st' := [bI 0, .ref 76]) l179_204 (fun _ => rfl) ?_
      refine b_s (pc' := 209) (lv1 := [(0, .ref 76), (3, bI v3), (4, bI w6)]) (st' := [bI 0, .ref 76]) l179_205 (fun _ => rfl) ?_
      refine b_cMv l179_209 rfl (b_rc (ci := 9) (by rfl) (by decide) (by decide +kernel)) (Nat.le_of_ble_eq_true rfl) (Nat.le_of_ble_eq_true rfl) rfl (r_X11_put 0 (by decide)) fun w20 μ21 hw20 => bD.ok fun hk22 => b_pc (pc' := 212) rfl ?_
      refine b_bipush l179_212 (by decide) (b_pc (pc' := 214) rfl ?_)
      refine b_s (pc' := 216) (lv1 := [(0, .ref 76), (3, bI v3), (4, bI w6)]) (st' := [bI w6, bI 8]) l179_214 (fun _ => rfl) ?_
      refine b_imul l179_216 fun g23 => (b_pc (pc' := 217) rfl ?_)
      refine b_w (pc' := 219) (lv1 := ax_st1 [(0, .ref 76), (3, bI v3), (4, bI w6)] 5 (bI (8 * w6))) (lv' := [(0, .ref 76), (3, bI v3), (4, bI w6), (5, bI (8 * w6))]) (st' := []) l179_217 (fun _ => rfl) (bSb rfl (bSb rfl (bSb rfl (bSb rfl bSn)))) ?_
      refine bD.wk (lv' := [(0, .ref 76), (3, bI v3), (4, bI w6), (5, bI (8 * w6))]) (bSb rfl (bSb rfl (bSb rfl (bSb rfl bSn)))) ?_
      exact p_X11_write_219 hr H149 h3 hw6 g23
theorem p_X11_write_149 {L : Nat} {xs : Nat → Int32} {d : Nat} {μ : bM}  {κ : (Int × bM) → Option bX} (hr : ∀ r : Int × bM, κ r = (bMc) r)  {v3 : Int} (h3 : bR v3) : bD L xs (d + 5) 179 149 [(0, .ref 76), (3, bI v3)] [] μ ((bLoop (fun z => F_X11_write_149 z.1 z.2) (v3, μ)).bind κ) :=
  b_loop (fun z => [(0, .ref 76), (3, bI z.1)]) (fun z => z.2) (fun z => bR z.1) (fun κ' hκ HH z hz => q_X11_write_149 (κ := κ') (fun r => (hκ _).trans (hr r)) (fun a3 am b3 => HH (a3, am) b3)  hz) (v3, μ) h3
theorem q_X11_write_110 {L : Nat} {xs : Nat → Int32} {d : Nat} {μ : bM}  {κ : ((Int × bM) ⊕ (Int × bM)) → Option bX} (hr : ∀ r : Int × bM, κ (.inr r) = (bMc) r) (H110 : ∀ (v3 : Int) (μ : bM), bR v3 → bD L xs (d + 5) 179 110 [(0, .ref 76), (3, bI v3)] [] μ (κ (.inl (v3, μ))))  {v3 : Int} (h3 : bR v3) : bD L xs (d + 5) 179 110 [(0, .ref 76), (3, bI v3)] [] μ ((F_X11_write_110 v3 μ).bind κ) := by
  unfold F_X11_write_110
  refine bD.ok fun hk => ?_
  refine b_s (pc' := 111) (lv1 := [(0, .ref 76), (3, bI v3)]) (st' := [bI v3]) l179_110 (fun _ => rfl) ?_
  refine b_s (pc' := 112) (lv1 := [(0, .ref 76), (3, bI v3)]) (st' := [.ref 76, bI v3]) l179_111 (fun _ => rfl) ?_
  refine b_gi l179_112 (by rfl) (by decide) (by decide) rfl (b_pc (pc' := 115) rfl ?_)
  refine b_ige (pt := 139) l179_115 h3 (bO_f hk (ci := 9) (by rfl) rfl) (by decide) rfl (fun c1 => ?_) (fun c1 => b_pc (pc' := 118) rfl ?_)
  · refine b_s (pc' := 140) (lv1 := [(0, .ref 76), (3, bI v3)]) (st' := [.ref 76]) l179_139 (fun _ => rfl) ?_
    refine b_s (pc' := 141) (lv1 := [(0, .ref 76), (3, bI v3)]) (st' := [bI 1, .ref 76]) l179_140 (fun _ => rfl) ?_
    refine b_cPi l179_141 rfl (fun _ => trivial) (Nat.le_of_ble_eq_true rfl) (Nat.le_of_ble_eq_true rfl) rfl (r_X11_from 1 (by decide)) fun w2 hw2 => b_pc (pc' := 144) rfl ?_
    refine b_pi l179_144 (by rfl) (by decide) (by decide) rfl rfl hw2 (bD.ok fun hk3 => b_pc (pc' := 147) rfl ?_)
    refine b_s (pc' := 148) (lv1 := [(0, .ref 76), (3, bI v3)]) (st' := [bI 0]) l179_147 (fun _ => rfl) ?_
    refine b_w (pc' := 149) (lv1 := ax_st1 [(0, .ref 76), (3, bI v3)] 3 (bI 0)) (lv' := [(0, .ref 76), (3, bI 0)]) (st' := []) l179_148 (fun _ => rfl) (bSb rfl (bSb rfl bSn)) ?_
    refine b_up (fun _ => rfl) ?_
    refine bD.wk (lv' := [(0, .ref 76), (3, bI 0)]) (bSb rfl (bSb rfl bSn)) ?_
    exact p_X11_write_149 hr (by decide)
  · refine b_s (pc' := 119) (lv1 := [(0, .ref 76), (3, bI v3)]) (st' := [.ref 76]) l179_118 (fun _ => rfl) ?_
    refine b_s (pc' := 120) (lv1 := [(0, .ref 76), (3, bI v3)]) (st' := [.ref 76, .ref 76]) l179_119 (fun _ => rfl) ?_
    refine b_gp (q' := 99) (j := 23) l179_120 (by rfl) (by decide) (by decide) rfl hk rfl rfl (b_pc (pc' := 123) rfl ?_)
    refine b_s (pc' := 124) (lv1 := [(0, .ref 76), (3, bI v3)]) (st' := [bI v3, .ref 99, .ref 76]) l179_123 (fun _ => rfl) ?_
    refine b_g fun g11 => ?_
    refine b_ial l179_124 (by rfl) g11 (b_pc (pc' := 125) rfl ?_)
    refine b_cMv l179_125 rfl (b_rc (ci := 9) (by rfl) (by decide) (by decide +kernel)) (Nat.le_of_ble_eq_true rfl) (Nat.le_of_ble_eq_true rfl) rfl (r_X11_putText (μ 99 v3.toNat) (bO_i hk (by rfl))) fun w4 μ5 hw4 => bD.ok fun hk6 => b_pc (pc' := 128) rfl ?_
    refine b_s (pc' := 129) (lv1 := [(0, .ref 76), (3, bI v3)]) (st' := [.ref 76]) l179_128 (fun _ => rfl) ?_
    refine b_s (pc' := 130) (lv1 := [(0, .ref 76), (3, bI v3)]) (st' := [bI 0, .ref 76]) l179_129 (fun _ => rfl) ?_
    refine b_cMv l179_130 rfl (b_rc (ci := 9) (by rfl) (by decide) (by decide +kernel)) (Nat.le_of_ble_eq_true rfl) (Nat.le_of_ble_eq_true rfl) rfl (r_X11_put 0 (by decide)) fun w7 μ8 hw7 => bD.ok fun hk9 => b_pc (pc' := 133) rfl ?_
    refine b_inc (lv' := [(0, .ref 76), (3, bI (v3 + 1))]) l179_133 rfl (by decide +kernel) (bSb rfl (bSb rfl bSn)) fun g10 => (b_pc (pc' := 136) rfl ?_)
    refine b_s (pc' := 110) (lv1 := [(0, .ref 76), (3, bI (v3 + 1))]) (st' := []) l179_136 (fun _ => rfl) ?_
    refine bD.wk (lv' := [(0, .ref 76), (3, bI (v3 + 1))]) (bSb rfl (bSb rfl bSn)) ?_
    exact H110 (v3 + 1) μ8 g10
theorem p_X11_write_110 {L : Nat} {xs : Nat → Int32} {d : Nat} {μ : bM}  {κ : (Int × bM) → Option bX} (hr : ∀ r : Int × bM, κ r = (bMc) r)  {v3 : Int} (h3 : bR v3) : bD L xs (d + 5) 179 110 [(0, .ref 76), (3, bI v3)] [] μ ((bLoop (fun z => F_X11_write_110 z.1 z.2) (v3, μ)).bind κ) :=
  b_loop (fun z => [(0, .ref 76), (3, bI z.1)]) (fun z => z.2) (fun z => bR z.1) (fun κ' hκ HH z hz => q_X11_write_110 (κ := κ') (fun r => (hκ _).trans (hr r)) (fun a3 am b3 => HH (a3, am) b3)  hz) (v3, μ) h3
theorem p_X11_write_41 {L : Nat} {xs : Nat → Int32} {d : Nat} {μ : bM}  {κ : (Int × bM) → Option bX} (hr : ∀ r : Int × bM, κ r = (bMc) r)  {v1 : Int} (h1 : bR v1) : bD L xs (d + 5) 179 41 [(0, .ref 76), (1, bI v1)] [] μ ((F_X11_write_41 v1 μ).bind κ) := by
  unfold F_X11_write_41
  refine bD.ok fun hk => ?_
  refine b_s (pc' := 42) (lv1 := [(0, .ref 76), (1, bI v1)]) (st' := [.ref 76]) l179_41 (fun _ => rfl) ?_
  refine b_cPi l179_42 rfl (b_rc (ci := 9) (by rfl) (by decide) (by decide +kernel)) (Nat.le_of_ble_eq_true rfl) (Nat.le_of_ble_eq_true rfl) rfl (r_X11_shapeBytes ) fun w1 hw1 => b_pc (pc' := 45) rfl ?_
  refine b_w (pc' := 46) (lv1 := ax_st1 [(0, .ref 76), (1, bI v1)] 2 (bI w1)) (lv' := [(0, .ref 76), (1, bI v1), (2, bI w1)]) (st' := []) l179_45 (fun _ => rfl) (bSb rfl (bSb rfl (bSb rfl bSn))) ?_
  refine b_s (pc' := 47) (lv1 := [(0, .ref 76), (1, bI v1), (2, bI w1)]) (st' := [bI v1]) l179_46 (fun _ => rfl) ?_
  refine b_s (pc' := 48) (lv1 := [(0, .ref 76), (1, bI v1), (2, bI w1)]) (st' := [bI 0, bI v1]) l179_47 (fun _ => rfl) ?_
  refine b_cPi l179_48 rfl (fun _ => trivial) (Nat.le_of_ble_eq_true rfl) (Nat.le_of_ble_eq_true rfl) rfl (r_X11_most 0 (by decide)) fun w2 hw2 => b_pc (pc' := 51) rfl ?_
  refine b_igt (pt := 73) l179_51 h1 hw2 (by decide) rfl (fun c3 => ?_) (fun c3 => b_pc (pc' := 54) rfl ?_)
  · refine b_bipush l179_73 (by decide) (b_pc (pc' := 75) rfl ?_)
    exact b_reti l179_75 rfl (by decide) (hr _)
  · refine b_s (pc' := 55) (lv1 := [(0, .ref 76), (1, bI v1), (2, bI w1)]) (st' := [bI w1]) l179_54 (fun _ => rfl) ?_
    refine b_s (pc' := 56) (lv1 := [(0, .ref 76), (1, bI v1), (2, bI w1)]) (st' := [bI 1, bI w1]) l179_55 (fun _ => rfl) ?_
    refine b_cPi l179_56 rfl (fun _ => trivial) (Nat.le_of_ble_eq_true rfl) (Nat.le_of_ble_eq_true rfl) rfl (r_X11_most 1 (by decide)) fun w4 hw4 => b_pc (pc' := 59) rfl ?_
    refine b_igt (pt := 73) l179_59 hw1 hw4 (by decide) rfl (fun c5 => ?_) (fun c5 => b_pc (pc' := 62) rfl ?_)
    · refine b_bipush l179_73 (by decide) (b_pc (pc' := 75) rfl ?_)
      exact b_reti l179_75 rfl (by decide) (hr _)
    · refine b_s (pc' := 63) (lv1 := [(0, .ref 76), (1, bI v1), (2, bI w1)]) (st' := [.ref 76]) l179_62 (fun _ => rfl) ?_
      refine b_gi l179_63 (by rfl) (by decide) (by decide) rfl (b_pc (pc' := 66) rfl ?_)
      refine b_s (pc' := 67) (lv1 := [(0, .ref 76), (1, bI v1), (2, bI w1)]) (st' := [bI 2, bI (μ 76 32)]) l179_66 (fun _ => rfl) ?_
      refine b_cPi l179_67 rfl (fun _ => trivial) (Nat.le_of_ble_eq_true rfl) (Nat.le_of_ble_eq_true rfl) rfl (r_X11_most 2 (by decide)) fun w6 hw6 => b_pc (pc' := 70) rfl ?_
      refine b_ile (pt := 76) l179_70 (bO_f hk (ci := 9) (by rfl) rfl) hw6 (by decide) rfl (fun c7 => ?_) (fun c7 => b_pc (pc' := 73) rfl ?_)
      · refine b_s (pc' := 77) (lv1 := [(0, .ref 76), (1, bI v1), (2, bI w1)]) (st' := [.ref 76]) l179_76 (fun _ => rfl) ?_
        refine b_gp (q' := 94) (j := 18) l179_77 (by rfl) (by decide) (by decide) rfl hk rfl rfl (b_pc (pc' := 80) rfl ?_)
        refine b_s (pc' := 81) (lv1 := [(0, .ref 76), (1, bI v1), (2, bI w1)]) (st' := [bI 0, .ref 94]) l179_80 (fun _ => rfl) ?_
        refine b_s (pc' := 82) (lv1 := [(0, .ref 76), (1, bI v1), (2, bI w1)]) (st' := [bI v1, bI 0, .ref 94]) l179_81 (fun _ => rfl) ?_
        refine b_ias l179_82 (by rfl) (by decide) h1 (bD.ok fun hk8 => b_pc (pc' := 83) rfl ?_)
        refine b_s (pc' := 84) (lv1 := [(0, .ref 76), (1, bI v1), (2, bI w1)]) (st' := [.ref 76]) l179_83 (fun _ => rfl) ?_
        refine b_gp (q' := 94) (j := 18) l179_84 (by rfl) (by decide) (by decide) rfl hk8 rfl rfl (b_pc (pc' := 87) rfl ?_)
        refine b_s (pc' := 88) (lv1 := [(0, .ref 76), (1, bI v1), (2, bI w1)]) (st' := [bI 1, .ref 94]) l179_87 (fun _ => rfl) ?_
        refine b_s (pc' := 89) (lv1 := [(0, .ref 76), (1, bI v1), (2, bI w1)]) (st' := [bI w1, bI 1, .ref 94]) l179_88 (fun _ => rfl) ?_
        refine b_ias l179_89 (by rfl) (by decide) hw1 (bD.ok fun hk9 => b_pc (pc' := 90) rfl ?_)
        refine b_s (pc' := 91) (lv1 := [(0, .ref 76), (1, bI v1), (2, bI w1)]) (st' := [.ref 76]) l179_90 (fun _ => rfl) ?_
        refine b_gp (q' := 94) (j := 18) l179_91 (by rfl) (by decide) (by decide) rfl hk9 rfl rfl (b_pc (pc' := 94) rfl ?_)
        refine b_s (pc' := 95) (lv1 := [(0, .ref 76), (1, bI v1), (2, bI w1)]) (st' := [bI 2, .ref 94]) l179_94 (fun _ => rfl) ?_
        refine b_s (pc' := 96) (lv1 := [(0, .ref 76), (1, bI v1), (2, bI w1)]) (st' := [.ref 76, bI 2, .ref 94]) l179_95 (fun _ => rfl) ?_
        refine b_gi l179_96 (by rfl) (by decide) (by decide) rfl (b_pc (pc' := 99) rfl ?_)
        refine b_ias l179_99 (by rfl) (by decide) (bO_f hk9 (ci := 9) (by rfl) rfl) (bD.ok fun hk10 => b_pc (pc' := 100) rfl ?_)
        refine b_s (pc' := 101) (lv1 := [(0, .ref 76), (1, bI v1), (2, bI w1)]) (st' := [.ref 76]) l179_100 (fun _ => rfl) ?_
        refine b_s (pc' := 102) (lv1 := [(0, .ref 76), (1, bI v1), (2, bI w1)]) (st' := [bI 2, .ref 76]) l179_101 (fun _ => rfl) ?_
        refine b_cPi l179_102 rfl (fun _ => trivial) (Nat.le_of_ble_eq_true rfl) (Nat.le_of_ble_eq_true rfl) rfl (r_X11_from 2 (by decide)) fun w11 hw11 => b_pc (pc' := 105) rfl ?_
        refine b_pi l179_105 (by rfl) (by decide) (by decide) rfl rfl hw11 (bD.ok fun hk12 => b_pc (pc' := 108) rfl ?_)
        refine b_s (pc' := 109) (lv1 := [(0, .ref 76), (1, bI v1), (2, bI w1)]) (st' := [bI 0]) l179_108 (fun _ => rfl) ?_
        refine b_w (pc' := 110) (lv1 := ax_st1 [(0, .ref 76), (1, bI v1), (2, bI w1)] 3 (bI 0)) (lv' := [(0, .ref 76), (3, bI 0)]) (st' := []) l179_109 (fun _ => rfl) (bSb rfl (bSb rfl bSn)) ?_
        refine bD.wk (lv' := [(0, .ref 76), (3, bI 0)]) (bSb rfl (bSb rfl bSn)) ?_
        exact p_X11_write_110 hr (by decide)
      · refine b_bipush l179_73 (by decide) (b_pc (pc' := 75) rfl ?_)
        exact b_reti l179_75 rfl (by decide) (hr _)
theorem q_X11_write_13 {L : Nat} {xs : Nat → Int32} {d : Nat} {μ : bM}  {κ : ((Int × Int) ⊕ (Int × bM)) → Option bX} (hr : ∀ r : Int × bM, κ (.inr r) = (bMc) r) (H13 : ∀ (v1 : Int) (v2 : Int), bR v1 → bR v2 → bD L xs (d + 5) 179 13 [(0, .ref 76), (1, bI v1), (2, bI v2)] [] μ (κ (.inl (v1, v2))))  {v1 : Int} (h1 : bR v1) {v2 : Int} (h2 : bR v2) : bD L xs (d + 5) 179 13 [(0, .ref 76), (1, bI v1), (2, bI v2)] [] μ ((F_X11_write_13 μ v1 v2).bind κ) := by
  unfold F_X11_write_13
  refine bD.ok fun hk => ?_
  refine b_s (pc' := 14) (lv1 := [(0, .ref 76), (1, bI v1), (2, bI v2)]) (st' := [bI v2]) l179_13 (fun _ => rfl) ?_
  refine b_s (pc' := 15) (lv1 := [(0, .ref 76), (1, bI v1), (2, bI v2)]) (st' := [.ref 76, bI v2]) l179_14 (fun _ => rfl) ?_
  refine b_gp (q' := 79) (j := 3) l179_15 (by rfl) (by decide) (by decide) rfl hk rfl rfl (b_pc (pc' := 18) rfl ?_)
  refine b_s (pc' := 19) (lv1 := [(0, .ref 76), (1, bI v1), (2, bI v2)]) (st' := [.ref 76, .ref 79, bI v2]) l179_18 (fun _ => rfl) ?_
  refine b_gi l179_19 (by rfl) (by decide) (by decide) rfl (b_pc (pc' := 22) rfl ?_)
  refine b_g fun g5 => ?_
  refine b_ial l179_22 (by rfl) g5 (b_pc (pc' := 23) rfl ?_)
  refine b_ige (pt := 41) l179_23 h2 (bO_i hk (by rfl)) (by decide) rfl (fun c1 => ?_) (fun c1 => b_pc (pc' := 26) rfl ?_)
  · refine b_up (fun _ => rfl) ?_
    refine bD.wk (lv' := [(0, .ref 76), (1, bI v1)]) (bSb rfl (bSb rfl bSn)) ?_
    exact p_X11_write_41 hr h1
  · refine b_s (pc' := 27) (lv1 := [(0, .ref 76), (1, bI v1), (2, bI v2)]) (st' := [bI v1]) l179_26 (fun _ => rfl) ?_
    refine b_s (pc' := 28) (lv1 := [(0, .ref 76), (1, bI v1), (2, bI v2)]) (st' := [.ref 76, bI v1]) l179_27 (fun _ => rfl) ?_
    refine b_gp (q' := 103) (j := 27) l179_28 (by rfl) (by decide) (by decide) rfl hk rfl rfl (b_pc (pc' := 31) rfl ?_)
    refine b_s (pc' := 32) (lv1 := [(0, .ref 76), (1, bI v1), (2, bI v2)]) (st' := [bI v2, .ref 103, bI v1]) l179_31 (fun _ => rfl) ?_
    refine b_g fun g4 => ?_
    refine b_ial l179_32 (by rfl) g4 (b_pc (pc' := 33) rfl ?_)
    refine b_iadd l179_33 fun g2 => (b_pc (pc' := 34) rfl ?_)
    refine b_w (pc' := 35) (lv1 := ax_st1 [(0, .ref 76), (1, bI v1), (2, bI v2)] 1 (bI (v1 + (μ 103 v2.toNat)))) (lv' := [(0, .ref 76), (1, bI (v1 + (μ 103 v2.toNat))), (2, bI v2)]) (st' := []) l179_34 (fun _ => rfl) (bSb rfl (bSb rfl (bSb rfl bSn))) ?_
    refine b_inc (lv' := [(0, .ref 76), (1, bI (v1 + (μ 103 v2.toNat))), (2, bI (v2 + 1))]) l179_35 rfl (by decide +kernel) (bSb rfl (bSb rfl (bSb rfl bSn))) fun g3 => (b_pc (pc' := 38) rfl ?_)
    refine b_s (pc' := 13) (lv1 := [(0, .ref 76), (1, bI (v1 + (μ 103 v2.toNat))), (2, bI (v2 + 1))]) (st' := []) l179_38 (fun _ => rfl) ?_
    refine bD.wk (lv' := [(0, .ref 76), (1, bI (v1 + (μ 103 v2.toNat))), (2, bI (v2 + 1))]) (bSb rfl (bSb rfl (bSb rfl bSn))) ?_
    exact H13 (v1 + (μ 103 v2.toNat)) (v2 + 1) g2 g3
theorem p_X11_write_13 {L : Nat} {xs : Nat → Int32} {d : Nat} {μ : bM}  {κ : (Int × bM) → Option bX} (hr : ∀ r : Int × bM, κ r = (bMc) r)  {v1 : Int} (h1 : bR v1) {v2 : Int} (h2 : bR v2) : bD L xs (d + 5) 179 13 [(0, .ref 76), (1, bI v1), (2, bI v2)] [] μ ((bLoop (fun z => F_X11_write_13 μ z.1 z.2) (v1, v2)).bind κ) :=
  b_loop (fun z => [(0, .ref 76), (1, bI z.1), (2, bI z.2)]) (fun z => μ) (fun z => bR z.1 ∧ bR z.2) (fun κ' hκ HH z hz => q_X11_write_13 (κ := κ') (fun r => (hκ _).trans (hr r)) (fun a1 a2 b1 b2 => HH (a1, a2) ⟨b1, b2⟩)  hz.1 hz.2) (v1, v2) ⟨h1, h2⟩
theorem r_X11_write {L : Nat} {xs : Nat → Int32} {d : Nat} {μ : bM}   : bD L xs (d + 5) 179 0 [(0, .ref 76)] [] μ ((F_X11_write μ).bind (bMc)) := by
  have hr : ∀ r, (bMc) r = (bMc) r := fun _ => rfl
  unfold F_X11_write
  refine bD.ok fun hk => ?_
  refine b_s (pc' := 1) (lv1 := [(0, .ref 76)]) (st' := [.ref 76]) l179_0 (fun _ => rfl) ?_
  refine b_s (pc' := 2) (lv1 := [(0, .ref 76)]) (st' := [bI 0, .ref 76]) l179_1 (fun _ => rfl) ?_
  refine b_pi l179_2 (by rfl) (by decide) (by decide) rfl rfl (by decide) (bD.ok fun hk1 => b_pc (pc' := 5) rfl ?_)
  refine b_s (pc' := 6) (lv1 := [(0, .ref 76)]) (st' := [.ref 76]) l179_5 (fun _ => rfl) ?_
  refine b_cMv l179_6 rfl (b_rc (ci := 9) (by rfl) (by decide) (by decide +kernel)) (Nat.le_of_ble_eq_true rfl) (Nat.le_of_ble_eq_true rfl) rfl (r_X11_layOut ) fun w2 μ3 hw2 => bD.ok fun hk4 => b_pc (pc' := 9) rfl ?_
  refine b_s (pc' := 10) (lv1 := [(0, .ref 76)]) (st' := [bI 0]) l179_9 (fun _ => rfl) ?_
  refine b_w (pc' := 11) (lv1 := ax_st1 [(0, .ref 76)] 1 (bI 0)) (lv' := [(0, .ref 76), (1, bI 0)]) (st' := []) l179_10 (fun _ => rfl) (bSb rfl (bSb rfl bSn)) ?_
  refine b_s (pc' := 12) (lv1 := [(0, .ref 76), (1, bI 0)]) (st' := [bI 0]) l179_11 (fun _ => rfl) ?_
  refine b_w (pc' := 13) (lv1 := ax_st1 [(0, .ref 76), (1, bI 0)] 2 (bI 0)) (lv' := [(0, .ref 76), (1, bI 0), (2, bI 0)]) (st' := []) l179_12 (fun _ => rfl) (bSb rfl (bSb rfl (bSb rfl bSn))) ?_
  refine bD.wk (lv' := [(0, .ref 76), (1, bI 0), (2, bI 0)]) (bSb rfl (bSb rfl (bSb rfl bSn))) ?_
  exact p_X11_write_13 hr (by decide) (by decide)
end
