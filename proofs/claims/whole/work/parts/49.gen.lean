section
/-! ETLaw.feed -/
theorem l220_0 : (ax_dt (ax_T 220)).lookup 0 = some (.aload 6, 2, 0, 0, 0) := by decide +kernel
theorem l220_2 : (ax_dt (ax_T 220)).lookup 2 = some (.iconst 0, 1, 0, 0, 0) := by decide +kernel
theorem l220_3 : (ax_dt (ax_T 220)).lookup 3 = some (.aload_n 0, 1, 0, 0, 0) := by decide +kernel
theorem l220_4 : (ax_dt (ax_T 220)).lookup 4 = some (.iload_n 1, 1, 0, 0, 0) := by decide +kernel
theorem l220_5 : (ax_dt (ax_T 220)).lookup 5 = some (.iload_n 2, 1, 0, 0, 0) := by decide +kernel
theorem l220_6 : (ax_dt (ax_T 220)).lookup 6 = some (.iload_n 3, 1, 0, 0, 0) := by decide +kernel
theorem l220_7 : (ax_dt (ax_T 220)).lookup 7 = some (.iload 4, 2, 0, 0, 0) := by decide +kernel
theorem l220_9 : (ax_dt (ax_T 220)).lookup 9 = some (.iload 5, 2, 0, 0, 0) := by decide +kernel
theorem l220_11 : (ax_dt (ax_T 220)).lookup 11 = some (.invokevirtual 7, 3, 92, 5, 0) := by decide +kernel
theorem l220_14 : (ax_dt (ax_T 220)).lookup 14 = some (.i2l, 1, 0, 0, 0) := by decide +kernel
theorem l220_15 : (ax_dt (ax_T 220)).lookup 15 = some (.lastore, 1, 0, 0, 0) := by decide +kernel
theorem l220_16 : (ax_dt (ax_T 220)).lookup 16 = some (.goto 7, 3, 0, 0, 0) := by decide +kernel
theorem l220_19 : (ax_dt (ax_T 220)).lookup 19 = some (.astore 7, 2, 0, 0, 0) := by decide +kernel
theorem l220_21 : (ax_dt (ax_T 220)).lookup 21 = some (.iconst 1, 1, 0, 0, 0) := by decide +kernel
theorem l220_22 : (ax_dt (ax_T 220)).lookup 22 = some (.ireturn, 1, 0, 0, 0) := by decide +kernel
theorem l220_23 : (ax_dt (ax_T 220)).lookup 23 = some (.iconst 0, 1, 0, 0, 0) := by decide +kernel
theorem l220_24 : (ax_dt (ax_T 220)).lookup 24 = some (.ireturn, 1, 0, 0, 0) := by decide +kernel
noncomputable def F_L_feed (v1 : Int) (v2 : Int) (v3 : Int) (v4 : Int) (v5 : Int) (μ : bM) : Option (Int × bM × Nat) := bXm (F_X10_feed v1 v2 v3 v4 v5 μ) (fun w1 μ2 => some (0, (bset μ2 112 0 w1), 0)) (fun e μ => if e = "java/lang/IllegalStateException" then ((fun μ6 => some (1, μ6)) μ).bind (fun r => some (r.1, r.2, 1)) else none)
theorem r_L_feed {L : Nat} {xs : Nat → Int32} {d : Nat} {μ : bM}  (v1 : Int) (h1 : bR v1) (v2 : Int) (h2 : bR v2) (v3 : Int) (h3 : bR v3) (v4 : Int) (h4 : bR v4) (v5 : Int) (h5 : bR v5) : bD L xs (d + 3) 220 0 [(0, .ref 1), (1, bI v1), (2, bI v2), (3, bI v3), (4, bI v4), (5, bI v5), (6, .ref 112)] [] μ ((F_L_feed v1 v2 v3 v4 v5 μ).bind (bCc)) := by
  have hr : ∀ r, (bCc) r = (bCc) r := fun _ => rfl
  unfold F_L_feed
  refine bD.ok fun hk => ?_
  refine b_s (pc' := 2) (lv1 := [(0, .ref 1), (1, bI v1), (2, bI v2), (3, bI v3), (4, bI v4), (5, bI v5), (6, .ref 112)]) (st' := [.ref 112]) l220_0 (fun _ => rfl) ?_
  refine b_s (pc' := 3) (lv1 := [(0, .ref 1), (1, bI v1), (2, bI v2), (3, bI v3), (4, bI v4), (5, bI v5), (6, .ref 112)]) (st' := [bI 0, .ref 112]) l220_2 (fun _ => rfl) ?_
  refine b_s (pc' := 4) (lv1 := [(0, .ref 1), (1, bI v1), (2, bI v2), (3, bI v3), (4, bI v4), (5, bI v5), (6, .ref 112)]) (st' := [.ref 1, bI 0, .ref 112]) l220_3 (fun _ => rfl) ?_
  refine b_s (pc' := 5) (lv1 := [(0, .ref 1), (1, bI v1), (2, bI v2), (3, bI v3), (4, bI v4), (5, bI v5), (6, .ref 112)]) (st' := [bI v1, .ref 1, bI 0, .ref 112]) l220_4 (fun _ => rfl) ?_
  refine b_s (pc' := 6) (lv1 := [(0, .ref 1), (1, bI v1), (2, bI v2), (3, bI v3), (4, bI v4), (5, bI v5), (6, .ref 112)]) (st' := [bI v2, bI v1, .ref 1, bI 0, .ref 112]) l220_5 (fun _ => rfl) ?_
  refine b_s (pc' := 7) (lv1 := [(0, .ref 1), (1, bI v1), (2, bI v2), (3, bI v3), (4, bI v4), (5, bI v5), (6, .ref 112)]) (st' := [bI v3, bI v2, bI v1, .ref 1, bI 0, .ref 112]) l220_6 (fun _ => rfl) ?_
  refine b_s (pc' := 9) (lv1 := [(0, .ref 1), (1, bI v1), (2, bI v2), (3, bI v3), (4, bI v4), (5, bI v5), (6, .ref 112)]) (st' := [bI v4, bI v3, bI v2, bI v1, .ref 1, bI 0, .ref 112]) l220_7 (fun _ => rfl) ?_
  refine b_s (pc' := 11) (lv1 := [(0, .ref 1), (1, bI v1), (2, bI v2), (3, bI v3), (4, bI v4), (5, bI v5), (6, .ref 112)]) (st' := [bI v5, bI v4, bI v3, bI v2, bI v1, .ref 1, bI 0, .ref 112]) l220_9 (fun _ => rfl) ?_
  refine b_cCi l220_11 rfl (b_rc (ci := 8) (by rfl) (by decide) (by decide +kernel)) (Nat.le_of_ble_eq_true rfl) (Nat.le_of_ble_eq_true rfl) rfl (r_X10_feed v1 h1 v2 h2 v3 h3 v4 h4 v5 h5) ⟨fun _ z => (by cases z), (by decide +kernel)⟩ ?_ fun w1 μ2 hw1 => bD.ok fun hk3 => b_pc (pc' := 14) rfl ?_
  · intro e μ6
    by_cases z0 : e = "java/lang/IllegalStateException"
    · subst z0
      right
      refine ⟨19, 7, _, (fun μ6 => some (1, μ6)) μ6, by decide +kernel, l220_19, rfl, by decide, ?_, ?_⟩
      · refine bD.wk (lv' := []) bSn ?_
        have hr : ∀ r, bMc r = bMc r := fun _ => rfl
        refine bD.ok fun hk5 => b_pc (pc' := 21) rfl ?_
        refine b_s (pc' := 22) (lv1 := []) (st' := [bI 1]) l220_21 (fun _ => rfl) ?_
        exact b_reti l220_22 rfl (by decide) (hr _)
      · dsimp only
        rw [if_pos rfl]
        exact b_hz
    · left
      dsimp only
      rw [if_neg z0]
      rfl
  · refine b_i2l l220_14 hw1 (b_pc (pc' := 15) rfl ?_)
    refine b_las l220_15 (by rfl) (by decide) (bR_L hw1) (bD.ok fun hk4 => b_pc (pc' := 16) rfl ?_)
    refine b_s (pc' := 23) (lv1 := [(0, .ref 1), (1, bI v1), (2, bI v2), (3, bI v3), (4, bI v4), (5, bI v5), (6, .ref 112)]) (st' := []) l220_16 (fun _ => rfl) ?_
    refine b_s (pc' := 24) (lv1 := [(0, .ref 1), (1, bI v1), (2, bI v2), (3, bI v3), (4, bI v4), (5, bI v5), (6, .ref 112)]) (st' := [bI 0]) l220_23 (fun _ => rfl) ?_
    exact b_reti l220_24 rfl (by decide) (hr _)
/-! ETLaw.end -/
theorem l221_0 : (ax_dt (ax_T 221)).lookup 0 = some (.aload_n 0, 1, 0, 0, 0) := by decide +kernel
theorem l221_1 : (ax_dt (ax_T 221)).lookup 1 = some (.iload_n 1, 1, 0, 0, 0) := by decide +kernel
theorem l221_2 : (ax_dt (ax_T 221)).lookup 2 = some (.invokevirtual 15, 3, 93, 1, 0) := by decide +kernel
theorem l221_5 : (ax_dt (ax_T 221)).lookup 5 = some (.goto 6, 3, 0, 0, 0) := by decide +kernel
theorem l221_8 : (ax_dt (ax_T 221)).lookup 8 = some (.astore_n 2, 1, 0, 0, 0) := by decide +kernel
theorem l221_9 : (ax_dt (ax_T 221)).lookup 9 = some (.iconst 1, 1, 0, 0, 0) := by decide +kernel
theorem l221_10 : (ax_dt (ax_T 221)).lookup 10 = some (.ireturn, 1, 0, 0, 0) := by decide +kernel
theorem l221_11 : (ax_dt (ax_T 221)).lookup 11 = some (.iconst 0, 1, 0, 0, 0) := by decide +kernel
theorem l221_12 : (ax_dt (ax_T 221)).lookup 12 = some (.ireturn, 1, 0, 0, 0) := by decide +kernel
noncomputable def F_L_end (v1 : Int) (μ : bM) : Option (Int × bM × Nat) := bXm (F_X10_end v1 μ) (fun w1 μ2 => some (0, μ2, 0)) (fun e μ => if e = "java/lang/IllegalArgumentException" then ((fun μ5 => some (1, μ5)) μ).bind (fun r => some (r.1, r.2, 1)) else none)
theorem r_L_end {L : Nat} {xs : Nat → Int32} {d : Nat} {μ : bM}  (v1 : Int) (h1 : bR v1) : bD L xs (d + 2) 221 0 [(0, .ref 1), (1, bI v1)] [] μ ((F_L_end v1 μ).bind (bCc)) := by
  have hr : ∀ r, (bCc) r = (bCc) r := fun _ => rfl
  unfold F_L_end
  refine bD.ok fun hk => ?_
  refine b_s (pc' := 1) (lv1 := [(0, .ref 1), (1, bI v1)]) (st' := [.ref 1]) l221_0 (fun _ => rfl) ?_
  refine b_s (pc' := 2) (lv1 := [(0, .ref 1), (1, bI v1)]) (st' := [bI v1, .ref 1]) l221_1 (fun _ => rfl) ?_
  refine b_cCv l221_2 rfl (b_rc (ci := 8) (by rfl) (by decide) (by decide +kernel)) (Nat.le_of_ble_eq_true rfl) (Nat.le_of_ble_eq_true rfl) rfl (r_X10_end v1 h1) ⟨fun _ z => (by cases z), (by decide +kernel)⟩ ?_ fun w1 μ2 hw1 => bD.ok fun hk3 => b_pc (pc' := 5) rfl ?_
  · intro e μ5
    by_cases z0 : e = "java/lang/IllegalArgumentException"
    · subst z0
      right
      refine ⟨8, 2, _, (fun μ5 => some (1, μ5)) μ5, by decide +kernel, l221_8, rfl, by decide, ?_, ?_⟩
      · refine bD.wk (lv' := []) bSn ?_
        have hr : ∀ r, bMc r = bMc r := fun _ => rfl
        refine bD.ok fun hk4 => b_pc (pc' := 9) rfl ?_
        refine b_s (pc' := 10) (lv1 := []) (st' := [bI 1]) l221_9 (fun _ => rfl) ?_
        exact b_reti l221_10 rfl (by decide) (hr _)
      · dsimp only
        rw [if_pos rfl]
        exact b_hz
    · left
      dsimp only
      rw [if_neg z0]
      rfl
  · refine b_s (pc' := 11) (lv1 := [(0, .ref 1), (1, bI v1)]) (st' := []) l221_5 (fun _ => rfl) ?_
    refine b_s (pc' := 12) (lv1 := [(0, .ref 1), (1, bI v1)]) (st' := [bI 0]) l221_11 (fun _ => rfl) ?_
    exact b_reti l221_12 rfl (by decide) (hr _)
/-! ETLaw.unit -/
theorem l222_0 : (ax_dt (ax_T 222)).lookup 0 = some (.aload_n 2, 1, 0, 0, 0) := by decide +kernel
theorem l222_1 : (ax_dt (ax_T 222)).lookup 1 = some (.iconst 0, 1, 0, 0, 0) := by decide +kernel
theorem l222_2 : (ax_dt (ax_T 222)).lookup 2 = some (.aload_n 0, 1, 0, 0, 0) := by decide +kernel
theorem l222_3 : (ax_dt (ax_T 222)).lookup 3 = some (.iload_n 1, 1, 0, 0, 0) := by decide +kernel
theorem l222_4 : (ax_dt (ax_T 222)).lookup 4 = some (.invokevirtual 21, 3, 94, 1, 0) := by decide +kernel
theorem l222_7 : (ax_dt (ax_T 222)).lookup 7 = some (.i2l, 1, 0, 0, 0) := by decide +kernel
theorem l222_8 : (ax_dt (ax_T 222)).lookup 8 = some (.lastore, 1, 0, 0, 0) := by decide +kernel
theorem l222_9 : (ax_dt (ax_T 222)).lookup 9 = some (.goto 9, 3, 0, 0, 0) := by decide +kernel
theorem l222_12 : (ax_dt (ax_T 222)).lookup 12 = some (.astore_n 3, 1, 0, 0, 0) := by decide +kernel
theorem l222_13 : (ax_dt (ax_T 222)).lookup 13 = some (.iconst 1, 1, 0, 0, 0) := by decide +kernel
theorem l222_14 : (ax_dt (ax_T 222)).lookup 14 = some (.ireturn, 1, 0, 0, 0) := by decide +kernel
theorem l222_15 : (ax_dt (ax_T 222)).lookup 15 = some (.astore_n 3, 1, 0, 0, 0) := by decide +kernel
theorem l222_16 : (ax_dt (ax_T 222)).lookup 16 = some (.iconst 2, 1, 0, 0, 0) := by decide +kernel
theorem l222_17 : (ax_dt (ax_T 222)).lookup 17 = some (.ireturn, 1, 0, 0, 0) := by decide +kernel
theorem l222_18 : (ax_dt (ax_T 222)).lookup 18 = some (.iconst 0, 1, 0, 0, 0) := by decide +kernel
theorem l222_19 : (ax_dt (ax_T 222)).lookup 19 = some (.ireturn, 1, 0, 0, 0) := by decide +kernel
noncomputable def F_L_unit (v1 : Int) (μ : bM) : Option (Int × bM × Nat) := bXm (F_X10_unit v1 μ) (fun w1 μ2 => some (0, (bset μ2 112 0 w1), 0)) (fun e μ => if e = "java/lang/IllegalArgumentException" then ((fun μ6 => some (1, μ6)) μ).bind (fun r => some (r.1, r.2, 1)) else if e = "java/lang/UnsupportedOperationException" then ((fun μ8 => some (2, μ8)) μ).bind (fun r => some (r.1, r.2, 1)) else none)
theorem r_L_unit {L : Nat} {xs : Nat → Int32} {d : Nat} {μ : bM}  (v1 : Int) (h1 : bR v1) : bD L xs (d + 3) 222 0 [(0, .ref 1), (1, bI v1), (2, .ref 112)] [] μ ((F_L_unit v1 μ).bind (bCc)) := by
  have hr : ∀ r, (bCc) r = (bCc) r := fun _ => rfl
  unfold F_L_unit
  refine bD.ok fun hk => ?_
  refine b_s (pc' := 1) (lv1 := [(0, .ref 1), (1, bI v1), (2, .ref 112)]) (st' := [.ref 112]) l222_0 (fun _ => rfl) ?_
  refine b_s (pc' := 2) (lv1 := [(0, .ref 1), (1, bI v1), (2, .ref 112)]) (st' := [bI 0, .ref 112]) l222_1 (fun _ => rfl) ?_
  refine b_s (pc' := 3) (lv1 := [(0, .ref 1), (1, bI v1), (2, .ref 112)]) (st' := [.ref 1, bI 0, .ref 112]) l222_2 (fun _ => rfl) ?_
  refine b_s (pc' := 4) (lv1 := [(0, .ref 1), (1, bI v1), (2, .ref 112)]) (st' := [bI v1, .ref 1, bI 0, .ref 112]) l222_3 (fun _ => rfl) ?_
  refine b_cCi l222_4 rfl (b_rc (ci := 8) (by rfl) (by decide) (by decide +kernel)) (Nat.le_of_ble_eq_true rfl) (Nat.le_of_ble_eq_true rfl) rfl (r_X10_unit v1 h1) ⟨fun _ z => (by cases z), (by decide +kernel)⟩ ?_ fun w1 μ2 hw1 => bD.ok fun hk3 => b_pc (pc' := 7) rfl ?_
  · intro e μ6
    by_cases z0 : e = "java/lang/IllegalArgumentException"
    · subst z0
      right
      refine ⟨12, 3, _, (fun μ6 => some (1, μ6)) μ6, by decide +kernel, l222_12, rfl, by decide, ?_, ?_⟩
      · refine bD.wk (lv' := []) bSn ?_
        have hr : ∀ r, bMc r = bMc r := fun _ => rfl
        refine bD.ok fun hk5 => b_pc (pc' := 13) rfl ?_
        refine b_s (pc' := 14) (lv1 := []) (st' := [bI 1]) l222_13 (fun _ => rfl) ?_
        exact b_reti l222_14 rfl (by decide) (hr _)
      · dsimp only
        rw [if_pos rfl]
        exact b_hz
    · by_cases z1 : e = "java/lang/UnsupportedOperationException"
      · subst z1
        right
        refine ⟨15, 3, _, (fun μ8 => some (2, μ8)) μ6, by decide +kernel, l222_15, rfl, by decide, ?_, ?_⟩
        · refine bD.wk (lv' := []) bSn ?_
          have hr : ∀ r, bMc r = bMc r := fun _ => rfl
          refine bD.ok fun hk7 => b_pc (pc' := 16) rfl ?_
          refine b_s (pc' := 17) (lv1 := []) (st' := [bI 2]) l222_16 (fun _ => rfl) ?_
          exact b_reti l222_17 rfl (by decide) (hr _)
        · dsimp only
          rw [if_neg z0, if_pos rfl]
          exact b_hz
      · left
        dsimp only
        rw [if_neg z0, if_neg z1]
        rfl
  · refine b_i2l l222_7 hw1 (b_pc (pc' := 8) rfl ?_)
    refine b_las l222_8 (by rfl) (by decide) (bR_L hw1) (bD.ok fun hk4 => b_pc (pc' := 9) rfl ?_)
    refine b_s (pc' := 18) (lv1 := [(0, .ref 1), (1, bI v1), (2, .ref 112)]) (st' := []) l222_9 (fun _ => rfl) ?_
    refine b_s (pc' := 19) (lv1 := [(0, .ref 1), (1, bI v1), (2, .ref 112)]) (st' := [bI 0]) l222_18 (fun _ => rfl) ?_
    exact b_reti l222_19 rfl (by decide) (hr _)
/-! ETLaw.entry -/
theorem l223_0 : (ax_dt (ax_T 223)).lookup 0 = some (.aload_n 3, 1, 0, 0, 0) := by decide +kernel
theorem l223_1 : (ax_dt (ax_T 223)).lookup 1 = some (.iconst 0, 1, 0, 0, 0) := by decide +kernel
theorem l223_2 : (ax_dt (ax_T 223)).lookup 2 = some (.aload_n 0, 1, 0, 0, 0) := by decide +kernel
theorem l223_3 : (ax_dt (ax_T 223)).lookup 3 = some (.iload_n 1, 1, 0, 0, 0) := by decide +kernel
theorem l223_4 : (ax_dt (ax_T 223)).lookup 4 = some (.iload_n 2, 1, 0, 0, 0) := by decide +kernel
theorem l223_5 : (ax_dt (ax_T 223)).lookup 5 = some (.invokevirtual 27, 3, 95, 2, 0) := by decide +kernel
theorem l223_8 : (ax_dt (ax_T 223)).lookup 8 = some (.i2l, 1, 0, 0, 0) := by decide +kernel
theorem l223_9 : (ax_dt (ax_T 223)).lookup 9 = some (.lastore, 1, 0, 0, 0) := by decide +kernel
theorem l223_10 : (ax_dt (ax_T 223)).lookup 10 = some (.goto 15, 3, 0, 0, 0) := by decide +kernel
theorem l223_13 : (ax_dt (ax_T 223)).lookup 13 = some (.astore 4, 2, 0, 0, 0) := by decide +kernel
theorem l223_15 : (ax_dt (ax_T 223)).lookup 15 = some (.iconst 1, 1, 0, 0, 0) := by decide +kernel
theorem l223_16 : (ax_dt (ax_T 223)).lookup 16 = some (.ireturn, 1, 0, 0, 0) := by decide +kernel
theorem l223_17 : (ax_dt (ax_T 223)).lookup 17 = some (.astore 4, 2, 0, 0, 0) := by decide +kernel
theorem l223_19 : (ax_dt (ax_T 223)).lookup 19 = some (.iconst 2, 1, 0, 0, 0) := by decide +kernel
theorem l223_20 : (ax_dt (ax_T 223)).lookup 20 = some (.ireturn, 1, 0, 0, 0) := by decide +kernel
theorem l223_21 : (ax_dt (ax_T 223)).lookup 21 = some (.astore 4, 2, 0, 0, 0) := by decide +kernel
theorem l223_23 : (ax_dt (ax_T 223)).lookup 23 = some (.iconst 3, 1, 0, 0, 0) := by decide +kernel
theorem l223_24 : (ax_dt (ax_T 223)).lookup 24 = some (.ireturn, 1, 0, 0, 0) := by decide +kernel
theorem l223_25 : (ax_dt (ax_T 223)).lookup 25 = some (.iconst 0, 1, 0, 0, 0) := by decide +kernel
theorem l223_26 : (ax_dt (ax_T 223)).lookup 26 = some (.ireturn, 1, 0, 0, 0) := by decide +kernel
noncomputable def F_L_entry (v1 : Int) (v2 : Int) (μ : bM) : Option (Int × bM × Nat) := bXm (F_X10_entry v1 v2 μ) (fun w1 μ2 => some (0, (bset μ2 112 0 w1), 0)) (fun e μ => if e = "java/lang/IndexOutOfBoundsException" then ((fun μ6 => some (1, μ6)) μ).bind (fun r => some (r.1, r.2, 1)) else if e = "java/lang/IllegalArgumentException" then ((fun μ8 => some (2, μ8)) μ).bind (fun r => some (r.1, r.2, 1)) else if e = "java/lang/UnsupportedOperationException" then ((fun μ10 => some (3, μ10)) μ).bind (fun r => some (r.1, r.2, 1)) else none)
theorem r_L_entry {L : Nat} {xs : Nat → Int32} {d : Nat} {μ : bM}  (v1 : Int) (h1 : bR v1) (v2 : Int) (h2 : bR v2) : bD L xs (d + 3) 223 0 [(0, .ref 1), (1, bI v1), (2, bI v2), (3, .ref 112)] [] μ ((F_L_entry v1 v2 μ).bind (bCc)) := by
  have hr : ∀ r, (bCc) r = (bCc) r := fun _ => rfl
  unfold F_L_entry
  refine bD.ok fun hk => ?_
  refine b_s (pc' := 1) (lv1 := [(0, .ref 1), (1, bI v1), (2, bI v2), (3, .ref 112)]) (st' := [.ref 112]) l223_0 (fun _ => rfl) ?_
  refine b_s (pc' := 2) (lv1 := [(0, .ref 1), (1, bI v1), (2, bI v2), (3, .ref 112)]) (st' := [bI 0, .ref 112]) l223_1 (fun _ => rfl) ?_
  refine b_s (pc' := 3) (lv1 := [(0, .ref 1), (1, bI v1), (2, bI v2), (3, .ref 112)]) (st' := [.ref 1, bI 0, .ref 112]) l223_2 (fun _ => rfl) ?_
  refine b_s (pc' := 4) (lv1 := [(0, .ref 1), (1, bI v1), (2, bI v2), (3, .ref 112)]) (st' := [bI v1, .ref 1, bI 0, .ref 112]) l223_3 (fun _ => rfl) ?_
  refine b_s (pc' := 5) (lv1 := [(0, .ref 1), (1, bI v1), (2, bI v2), (3, .ref 112)]) (st' := [bI v2, bI v1, .ref 1, bI 0, .ref 112]) l223_4 (fun _ => rfl) ?_
  refine b_cCi l223_5 rfl (b_rc (ci := 8) (by rfl) (by decide) (by decide +kernel)) (Nat.le_of_ble_eq_true rfl) (Nat.le_of_ble_eq_true rfl) rfl (r_X10_entry v1 h1 v2 h2) ⟨fun _ z => (by cases z), (by decide +kernel)⟩ ?_ fun w1 μ2 hw1 => bD.ok fun hk3 => b_pc (pc' := 8) rfl ?_
  · intro e μ6
    by_cases z0 : e = "java/lang/IndexOutOfBoundsException"
    · subst z0
      right
      refine ⟨13, 4, _, (fun μ6 => some (1, μ6)) μ6, by decide +kernel, l223_13, rfl, by decide, ?_, ?_⟩
      · refine bD.wk (lv' := []) bSn ?_
        have hr : ∀ r, bMc r = bMc r := fun _ => rfl
        refine bD.ok fun hk5 => b_pc (pc' := 15) rfl ?_
        refine b_s (pc' := 16) (lv1 := []) (st' := [bI 1]) l223_15 (fun _ => rfl) ?_
        exact b_reti l223_16 rfl (by decide) (hr _)
      · dsimp only
        rw [if_pos rfl]
        exact b_hz
    · by_cases z1 : e = "java/lang/IllegalArgumentException"
      · subst z1
        right
        refine ⟨17, 4, _, (fun μ8 => some (2, μ8)) μ6, by decide +kernel, l223_17, rfl, by decide, ?_, ?_⟩
        · refine bD.wk (lv' := []) bSn ?_
          have hr : ∀ r, bMc r = bMc r := fun _ => rfl
          refine bD.ok fun hk7 => b_pc (pc' := 19) rfl ?_
          refine b_s (pc' := 20) (lv1 := []) (st' := [bI 2]) l223_19 (fun _ => rfl) ?_
          exact b_reti l223_20 rfl (by decide) (hr _)
        · dsimp only
          rw [if_neg z0, if_pos rfl]
          exact b_hz
      · by_cases z2 : e = "java/lang/UnsupportedOperationException"
        · subst z2
          right
          refine ⟨21, 4, _, (fun μ10 => some (3, μ10)) μ6, by decide +kernel, l223_21, rfl, by decide, ?_, ?_⟩
          · refine bD.wk (lv' := []) bSn ?_
            have hr : ∀ r, bMc r = bMc r := fun _ => rfl
            refine bD.ok fun hk9 => b_pc (pc' := 23) rfl ?_
            refine b_s (pc' := 24) (lv1 := []) (st' := [bI 3]) l223_23 (fun _ => rfl) ?_
            exact b_reti l223_24 rfl (by decide) (hr _)
          · dsimp only
            rw [if_neg z0, if_neg z1, if_pos rfl]
            exact b_hz
        · left
          dsimp only
          rw [if_neg z0, if_neg z1, if_neg z2]
          rfl
  · refine b_i2l l223_8 hw1 (b_pc (pc' := 9) rfl ?_)
    refine b_las l223_9 (by rfl) (by decide) (bR_L hw1) (bD.ok fun hk4 => b_pc (pc' := 10) rfl ?_)
    refine b_s (pc' := 25) (lv1 := [(0, .ref 1), (1, bI v1), (2, bI v2), (3, .ref 112)]) (st' := []) l223_10 (fun _ => rfl) ?_
    refine b_s (pc' := 26) (lv1 := [(0, .ref 1), (1, bI v1), (2, bI v2), (3, .ref 112)]) (st' := [bI 0]) l223_25 (fun _ => rfl) ?_
    exact b_reti l223_26 rfl (by decide) (hr _)
/-! ETLaw.number -/
theorem l224_0 : (ax_dt (ax_T 224)).lookup 0 = some (.aload 6, 2, 0, 0, 0) := by decide +kernel
theorem l224_2 : (ax_dt (ax_T 224)).lookup 2 = some (.iconst 0, 1, 0, 0, 0) := by decide +kernel
theorem l224_3 : (ax_dt (ax_T 224)).lookup 3 = some (.aload_n 0, 1, 0, 0, 0) := by decide +kernel
theorem l224_4 : (ax_dt (ax_T 224)).lookup 4 = some (.iload_n 1, 1, 0, 0, 0) := by decide +kernel
theorem l224_5 : (ax_dt (ax_T 224)).lookup 5 = some (.iload_n 2, 1, 0, 0, 0) := by decide +kernel
theorem l224_6 : (ax_dt (ax_T 224)).lookup 6 = some (.iload_n 3, 1, 0, 0, 0) := by decide +kernel
theorem l224_7 : (ax_dt (ax_T 224)).lookup 7 = some (.lload 4, 2, 0, 0, 0) := by decide +kernel
theorem l224_9 : (ax_dt (ax_T 224)).lookup 9 = some (.invokevirtual 33, 3, 96, 4, 0) := by decide +kernel
theorem l224_12 : (ax_dt (ax_T 224)).lookup 12 = some (.i2l, 1, 0, 0, 0) := by decide +kernel
theorem l224_13 : (ax_dt (ax_T 224)).lookup 13 = some (.lastore, 1, 0, 0, 0) := by decide +kernel
theorem l224_14 : (ax_dt (ax_T 224)).lookup 14 = some (.goto 15, 3, 0, 0, 0) := by decide +kernel
theorem l224_17 : (ax_dt (ax_T 224)).lookup 17 = some (.astore 7, 2, 0, 0, 0) := by decide +kernel
theorem l224_19 : (ax_dt (ax_T 224)).lookup 19 = some (.iconst 1, 1, 0, 0, 0) := by decide +kernel
theorem l224_20 : (ax_dt (ax_T 224)).lookup 20 = some (.ireturn, 1, 0, 0, 0) := by decide +kernel
theorem l224_21 : (ax_dt (ax_T 224)).lookup 21 = some (.astore 7, 2, 0, 0, 0) := by decide +kernel
theorem l224_23 : (ax_dt (ax_T 224)).lookup 23 = some (.iconst 2, 1, 0, 0, 0) := by decide +kernel
theorem l224_24 : (ax_dt (ax_T 224)).lookup 24 = some (.ireturn, 1, 0, 0, 0) := by decide +kernel
theorem l224_25 : (ax_dt (ax_T 224)).lookup 25 = some (.astore 7, 2, 0, 0, 0) := by decide +kernel
theorem l224_27 : (ax_dt (ax_T 224)).lookup 27 = some (.iconst 3, 1, 0, 0, 0) := by decide +kernel
theorem l224_28 : (ax_dt (ax_T 224)).lookup 28 = some (.ireturn, 1, 0, 0, 0) := by decide +kernel
theorem l224_29 : (ax_dt (ax_T 224)).lookup 29 = some (.iconst 0, 1, 0, 0, 0) := by decide +kernel
theorem l224_30 : (ax_dt (ax_T 224)).lookup 30 = some (.ireturn, 1, 0, 0, 0) := by decide +kernel
noncomputable def F_L_number (v1 : Int) (v2 : Int) (v3 : Int) (v4 : Int) (μ : bM) : Option (Int × bM × Nat) := bXm (F_X10_number v1 v2 v3 v4 μ) (fun w1 μ2 => some (0, (bset μ2 112 0 w1), 0)) (fun e μ => if e = "java/lang/IndexOutOfBoundsException" then ((fun μ6 => some (1, μ6)) μ).bind (fun r => some (r.1, r.2, 1)) else if e = "java/lang/IllegalArgumentException" then ((fun μ8 => some (2, μ8)) μ).bind (fun r => some (r.1, r.2, 1)) else if e = "java/lang/UnsupportedOperationException" then ((fun μ10 => some (3, μ10)) μ).bind (fun r => some (r.1, r.2, 1)) else none)
theorem r_L_number {L : Nat} {xs : Nat → Int32} {d : Nat} {μ : bM}  (v1 : Int) (h1 : bR v1) (v2 : Int) (h2 : bR v2) (v3 : Int) (h3 : bR v3) (v4 : Int) (h4 : bRL v4) : bD L xs (d + 4) 224 0 [(0, .ref 1), (1, bI v1), (2, bI v2), (3, bI v3), (4, bLg v4), (6, .ref 112)] [] μ ((F_L_number v1 v2 v3 v4 μ).bind (bCc)) := by
  have hr : ∀ r, (bCc) r = (bCc) r := fun _ => rfl
  unfold F_L_number
  refine bD.ok fun hk => ?_
  refine b_s (pc' := 2) (lv1 := [(0, .ref 1), (1, bI v1), (2, bI v2), (3, bI v3), (4, bLg v4), (6, .ref 112)]) (st' := [.ref 112]) l224_0 (fun _ => rfl) ?_
  refine b_s (pc' := 3) (lv1 := [(0, .ref 1), (1, bI v1), (2, bI v2), (3, bI v3), (4, bLg v4), (6, .ref 112)]) (st' := [bI 0, .ref 112]) l224_2 (fun _ => rfl) ?_
  refine b_s (pc' := 4) (lv1 := [(0, .ref 1), (1, bI v1), (2, bI v2), (3, bI v3), (4, bLg v4), (6, .ref 112)]) (st' := [.ref 1, bI 0, .ref 112]) l224_3 (fun _ => rfl) ?_
  refine b_s (pc' := 5) (lv1 := [(0, .ref 1), (1, bI v1), (2, bI v2), (3, bI v3), (4, bLg v4), (6, .ref 112)]) (st' := [bI v1, .ref 1, bI 0, .ref 112]) l224_4 (fun _ => rfl) ?_
  refine b_s (pc' := 6) (lv1 := [(0, .ref 1), (1, bI v1), (2, bI v2), (3, bI v3), (4, bLg v4), (6, .ref 112)]) (st' := [bI v2, bI v1, .ref 1, bI 0, .ref 112]) l224_5 (fun _ => rfl) ?_
  refine b_s (pc' := 7) (lv1 := [(0, .ref 1), (1, bI v1), (2, bI v2), (3, bI v3), (4, bLg v4), (6, .ref 112)]) (st' := [bI v3, bI v2, bI v1, .ref 1, bI 0, .ref 112]) l224_6 (fun _ => rfl) ?_
  refine b_s (pc' := 9) (lv1 := [(0, .ref 1), (1, bI v1), (2, bI v2), (3, bI v3), (4, bLg v4), (6, .ref 112)]) (st' := [bLg v4, bI v3, bI v2, bI v1, .ref 1, bI 0, .ref 112]) l224_7 (fun _ => rfl) ?_
  refine b_cCi l224_9 rfl (b_rc (ci := 8) (by rfl) (by decide) (by decide +kernel)) (Nat.le_of_ble_eq_true rfl) (Nat.le_of_ble_eq_true rfl) rfl (r_X10_number v1 h1 v2 h2 v3 h3 v4 h4) ⟨fun _ z => (by cases z), (by decide +kernel)⟩ ?_ fun w1 μ2 hw1 => bD.ok fun hk3 => b_pc (pc' := 12) rfl ?_
  · intro e μ6
    by_cases z0 : e = "java/lang/IndexOutOfBoundsException"
    · subst z0
      right
      refine ⟨17, 7, _, (fun μ6 => some (1, μ6)) μ6, by decide +kernel, l224_17, rfl, by decide, ?_, ?_⟩
      · refine bD.wk (lv' := []) bSn ?_
        have hr : ∀ r, bMc r = bMc r := fun _ => rfl
        refine bD.ok fun hk5 => b_pc (pc' := 19) rfl ?_
        refine b_s (pc' := 20) (lv1 := []) (st' := [bI 1]) l224_19 (fun _ => rfl) ?_
        exact b_reti l224_20 rfl (by decide) (hr _)
      · dsimp only
        rw [if_pos rfl]
        exact b_hz
    · by_cases z1 : e = "java/lang/IllegalArgumentException"
      · subst z1
        right
        refine ⟨21, 7, _, (fun μ8 => some (2, μ8)) μ6, by decide +kernel, l224_21, rfl, by decide, ?_, ?_⟩
        · refine bD.wk (lv' := []) bSn ?_
          have hr : ∀ r, bMc r = bMc r := fun _ => rfl
          refine bD.ok fun hk7 => b_pc (pc' := 23) rfl ?_
          refine b_s (pc' := 24) (lv1 := []) (st' := [bI 2]) l224_23 (fun _ => rfl) ?_
          exact b_reti l224_24 rfl (by decide) (hr _)
        · dsimp only
          rw [if_neg z0, if_pos rfl]
          exact b_hz
      · by_cases z2 : e = "java/lang/UnsupportedOperationException"
        · subst z2
          right
          refine ⟨25, 7, _, (fun μ10 => some (3, μ10)) μ6, by decide +kernel, l224_25, rfl, by decide, ?_, ?_⟩
          · refine bD.wk (lv' := []) bSn ?_
            have hr : ∀ r, bMc r = bMc r := fun _ => rfl
            refine bD.ok fun hk9 => b_pc (pc' := 27) rfl ?_
            refine b_s (pc' := 28) (lv1 := []) (st' := [bI 3]) l224_27 (fun _ => rfl) ?_
            exact b_reti l224_28 rfl (by decide) (hr _)
          · dsimp only
            rw [if_neg z0, if_neg z1, if_pos rfl]
            exact b_hz
        · left
          dsimp only
          rw [if_neg z0, if_neg z1, if_neg z2]
          rfl
  · refine b_i2l l224_12 hw1 (b_pc (pc' := 13) rfl ?_)
    refine b_las l224_13 (by rfl) (by decide) (bR_L hw1) (bD.ok fun hk4 => b_pc (pc' := 14) rfl ?_)
    refine b_s (pc' := 29) (lv1 := [(0, .ref 1), (1, bI v1), (2, bI v2), (3, bI v3), (4, bLg v4), (6, .ref 112)]) (st' := []) l224_14 (fun _ => rfl) ?_
    refine b_s (pc' := 30) (lv1 := [(0, .ref 1), (1, bI v1), (2, bI v2), (3, bI v3), (4, bLg v4), (6, .ref 112)]) (st' := [bI 0]) l224_29 (fun _ => rfl) ?_
    exact b_reti l224_30 rfl (by decide) (hr _)
/-! ETLaw.bytes -/
theorem l225_0 : (ax_dt (ax_T 225)).lookup 0 = some (.aload 4, 2, 0, 0, 0) := by decide +kernel
theorem l225_2 : (ax_dt (ax_T 225)).lookup 2 = some (.iconst 0, 1, 0, 0, 0) := by decide +kernel
theorem l225_3 : (ax_dt (ax_T 225)).lookup 3 = some (.aload_n 0, 1, 0, 0, 0) := by decide +kernel
theorem l225_4 : (ax_dt (ax_T 225)).lookup 4 = some (.iload_n 1, 1, 0, 0, 0) := by decide +kernel
theorem l225_5 : (ax_dt (ax_T 225)).lookup 5 = some (.iload_n 2, 1, 0, 0, 0) := by decide +kernel
theorem l225_6 : (ax_dt (ax_T 225)).lookup 6 = some (.iload_n 3, 1, 0, 0, 0) := by decide +kernel
theorem l225_7 : (ax_dt (ax_T 225)).lookup 7 = some (.invokevirtual 37, 3, 97, 3, 0) := by decide +kernel
theorem l225_10 : (ax_dt (ax_T 225)).lookup 10 = some (.i2l, 1, 0, 0, 0) := by decide +kernel
theorem l225_11 : (ax_dt (ax_T 225)).lookup 11 = some (.lastore, 1, 0, 0, 0) := by decide +kernel
theorem l225_12 : (ax_dt (ax_T 225)).lookup 12 = some (.goto 15, 3, 0, 0, 0) := by decide +kernel
theorem l225_15 : (ax_dt (ax_T 225)).lookup 15 = some (.astore 5, 2, 0, 0, 0) := by decide +kernel
theorem l225_17 : (ax_dt (ax_T 225)).lookup 17 = some (.iconst 1, 1, 0, 0, 0) := by decide +kernel
theorem l225_18 : (ax_dt (ax_T 225)).lookup 18 = some (.ireturn, 1, 0, 0, 0) := by decide +kernel
theorem l225_19 : (ax_dt (ax_T 225)).lookup 19 = some (.astore 5, 2, 0, 0, 0) := by decide +kernel
theorem l225_21 : (ax_dt (ax_T 225)).lookup 21 = some (.iconst 2, 1, 0, 0, 0) := by decide +kernel
theorem l225_22 : (ax_dt (ax_T 225)).lookup 22 = some (.ireturn, 1, 0, 0, 0) := by decide +kernel
theorem l225_23 : (ax_dt (ax_T 225)).lookup 23 = some (.astore 5, 2, 0, 0, 0) := by decide +kernel
theorem l225_25 : (ax_dt (ax_T 225)).lookup 25 = some (.iconst 3, 1, 0, 0, 0) := by decide +kernel
theorem l225_26 : (ax_dt (ax_T 225)).lookup 26 = some (.ireturn, 1, 0, 0, 0) := by decide +kernel
theorem l225_27 : (ax_dt (ax_T 225)).lookup 27 = some (.iconst 0, 1, 0, 0, 0) := by decide +kernel
theorem l225_28 : (ax_dt (ax_T 225)).lookup 28 = some (.ireturn, 1, 0, 0, 0) := by decide +kernel
noncomputable def F_L_bytes (v1 : Int) (v2 : Int) (v3 : Int) (μ : bM) : Option (Int × bM × Nat) := bXm (F_X10_bytes v1 v2 v3 μ) (fun w1 μ2 => some (0, (bset μ2 112 0 w1), 0)) (fun e μ => if e = "java/lang/IndexOutOfBoundsException" then ((fun μ6 => some (1, μ6)) μ).bind (fun r => some (r.1, r.2, 1)) else if e = "java/lang/IllegalArgumentException" then ((fun μ8 => some (2, μ8)) μ).bind (fun r => some (r.1, r.2, 1)) else if e = "java/lang/UnsupportedOperationException" then ((fun μ10 => some (3, μ10)) μ).bind (fun r => some (r.1, r.2, 1)) else none)
theorem r_L_bytes {L : Nat} {xs : Nat → Int32} {d : Nat} {μ : bM}  (v1 : Int) (h1 : bR v1) (v2 : Int) (h2 : bR v2) (v3 : Int) (h3 : bR v3) : bD L xs (d + 4) 225 0 [(0, .ref 1), (1, bI v1), (2, bI v2), (3, bI v3), (4, .ref 112)] [] μ ((F_L_bytes v1 v2 v3 μ).bind (bCc)) := by
  have hr : ∀ r, (bCc) r = (bCc) r := fun _ => rfl
  unfold F_L_bytes
  refine bD.ok fun hk => ?_
  refine b_s (pc' := 2) (lv1 := [(0, .ref 1), (1, bI v1), (2, bI v2), (3, bI v3), (4, .ref 112)]) (st' := [.ref 112]) l225_0 (fun _ => rfl) ?_
  refine b_s (pc' := 3) (lv1 := [(0, .ref 1), (1, bI v1), (2, bI v2), (3, bI v3), (4, .ref 112)]) (st' := [bI 0, .ref 112]) l225_2 (fun _ => rfl) ?_
  refine b_s (pc' := 4) (lv1 := [(0, .ref 1), (1, bI v1), (2, bI v2), (3, bI v3), (4, .ref 112)]) (st' := [.ref 1, bI 0, .ref 112]) l225_3 (fun _ => rfl) ?_
  refine b_s (pc' := 5) (lv1 := [(0, .ref 1), (1, bI v1), (2, bI v2), (3, bI v3), (4, .ref 112)]) (st' := [bI v1, .ref 1, bI 0, .ref 112]) l225_4 (fun _ => rfl) ?_
  refine b_s (pc' := 6) (lv1 := [(0, .ref 1), (1, bI v1), (2, bI v2), (3, bI v3), (4, .ref 112)]) (st' := [bI v2, bI v1, .ref 1, bI 0, .ref 112]) l225_5 (fun _ => rfl) ?_
  refine b_s (pc' := 7) (lv1 := [(0, .ref 1), (1, bI v1), (2, bI v2), (3, bI v3), (4, .ref 112)]) (st' := [bI v3, bI v2, bI v1, .ref 1, bI 0, .ref 112]) l225_6 (fun _ => rfl) ?_
  refine b_cCi l225_7 rfl (b_rc (ci := 8) (by rfl) (by decide) (by decide +kernel)) (Nat.le_of_ble_eq_true rfl) (Nat.le_of_ble_eq_true rfl) rfl (r_X10_bytes v1 h1 v2 h2 v3 h3) ⟨fun _ z => (by cases z), (by decide +kernel)⟩ ?_ fun w1 μ2 hw1 => bD.ok fun hk3 => b_pc (pc' := 10) rfl ?_
  · intro e μ6
    by_cases z0 : e = "java/lang/IndexOutOfBoundsException"
    · subst z0
      right
      refine ⟨15, 5, _, (fun μ6 => some (1, μ6)) μ6, by decide +kernel, l225_15, rfl, by decide, ?_, ?_⟩
      · refine bD.wk (lv' := []) bSn ?_
        have hr : ∀ r, bMc r = bMc r := fun _ => rfl
        refine bD.ok fun hk5 => b_pc (pc' := 17) rfl ?_
        refine b_s (pc' := 18) (lv1 := []) (st' := [bI 1]) l225_17 (fun _ => rfl) ?_
        exact b_reti l225_18 rfl (by decide) (hr _)
      · dsimp only
        rw [if_pos rfl]
        exact b_hz
    · by_cases z1 : e = "java/lang/IllegalArgumentException"
      · subst z1
        right
        refine ⟨19, 5, _, (fun μ8 => some (2, μ8)) μ6, by decide +kernel, l225_19, rfl, by decide, ?_, ?_⟩
        · refine bD.wk (lv' := []) bSn ?_
          have hr : ∀ r, bMc r = bMc r := fun _ => rfl
          refine bD.ok fun hk7 => b_pc (pc' := 21) rfl ?_
          refine b_s (pc' := 22) (lv1 := []) (st' := [bI 2]) l225_21 (fun _ => rfl) ?_
          exact b_reti l225_22 rfl (by decide) (hr _)
        · dsimp only
          rw [if_neg z0, if_pos rfl]
          exact b_hz
      · by_cases z2 : e = "java/lang/UnsupportedOperationException"
        · subst z2
          right
          refine ⟨23, 5, _, (fun μ10 => some (3, μ10)) μ6, by decide +kernel, l225_23, rfl, by decide, ?_, ?_⟩
          · refine bD.wk (lv' := []) bSn ?_
            have hr : ∀ r, bMc r = bMc r := fun _ => rfl
            refine bD.ok fun hk9 => b_pc (pc' := 25) rfl ?_
            refine b_s (pc' := 26) (lv1 := []) (st' := [bI 3]) l225_25 (fun _ => rfl) ?_
            exact b_reti l225_26 rfl (by decide) (hr _)
          · dsimp only
            rw [if_neg z0, if_neg z1, if_pos rfl]
            exact b_hz
        · left
          dsimp only
          rw [if_neg z0, if_neg z1, if_neg z2]
          rfl
  · refine b_i2l l225_10 hw1 (b_pc (pc' := 11) rfl ?_)
    refine b_las l225_11 (by rfl) (by decide) (bR_L hw1) (bD.ok fun hk4 => b_pc (pc' := 12) rfl ?_)
    refine b_s (pc' := 27) (lv1 := [(0, .ref 1), (1, bI v1), (2, bI v2), (3, bI v3), (4, .ref 112)]) (st' := []) l225_12 (fun _ => rfl) ?_
    refine b_s (pc' := 28) (lv1 := [(0, .ref 1), (1, bI v1), (2, bI v2), (3, bI v3), (4, .ref 112)]) (st' := [bI 0]) l225_27 (fun _ => rfl) ?_
    exact b_reti l225_28 rfl (by decide) (hr _)
/-! ETLaw.reference -/
theorem l226_0 : (ax_dt (ax_T 226)).lookup 0 = some (.aload 5, 2, 0, 0, 0) := by decide +kernel
theorem l226_2 : (ax_dt (ax_T 226)).lookup 2 = some (.iconst 0, 1, 0, 0, 0) := by decide +kernel
theorem l226_3 : (ax_dt (ax_T 226)).lookup 3 = some (.aload_n 0, 1, 0, 0, 0) := by decide +kernel
theorem l226_4 : (ax_dt (ax_T 226)).lookup 4 = some (.iload_n 1, 1, 0, 0, 0) := by decide +kernel
theorem l226_5 : (ax_dt (ax_T 226)).lookup 5 = some (.iload_n 2, 1, 0, 0, 0) := by decide +kernel
theorem l226_6 : (ax_dt (ax_T 226)).lookup 6 = some (.iload_n 3, 1, 0, 0, 0) := by decide +kernel
theorem l226_7 : (ax_dt (ax_T 226)).lookup 7 = some (.iload 4, 2, 0, 0, 0) := by decide +kernel
theorem l226_9 : (ax_dt (ax_T 226)).lookup 9 = some (.invokevirtual 41, 3, 98, 4, 0) := by decide +kernel
theorem l226_12 : (ax_dt (ax_T 226)).lookup 12 = some (.i2l, 1, 0, 0, 0) := by decide +kernel
theorem l226_13 : (ax_dt (ax_T 226)).lookup 13 = some (.lastore, 1, 0, 0, 0) := by decide +kernel
theorem l226_14 : (ax_dt (ax_T 226)).lookup 14 = some (.goto 19, 3, 0, 0, 0) := by decide +kernel
theorem l226_17 : (ax_dt (ax_T 226)).lookup 17 = some (.astore 6, 2, 0, 0, 0) := by decide +kernel
theorem l226_19 : (ax_dt (ax_T 226)).lookup 19 = some (.iconst 1, 1, 0, 0, 0) := by decide +kernel
theorem l226_20 : (ax_dt (ax_T 226)).lookup 20 = some (.ireturn, 1, 0, 0, 0) := by decide +kernel
theorem l226_21 : (ax_dt (ax_T 226)).lookup 21 = some (.astore 6, 2, 0, 0, 0) := by decide +kernel
theorem l226_23 : (ax_dt (ax_T 226)).lookup 23 = some (.iconst 2, 1, 0, 0, 0) := by decide +kernel
theorem l226_24 : (ax_dt (ax_T 226)).lookup 24 = some (.ireturn, 1, 0, 0, 0) := by decide +kernel
theorem l226_25 : (ax_dt (ax_T 226)).lookup 25 = some (.astore 6, 2, 0, 0, 0) := by decide +kernel
theorem l226_27 : (ax_dt (ax_T 226)).lookup 27 = some (.iconst 3, 1, 0, 0, 0) := by decide +kernel
theorem l226_28 : (ax_dt (ax_T 226)).lookup 28 = some (.ireturn, 1, 0, 0, 0) := by decide +kernel
theorem l226_29 : (ax_dt (ax_T 226)).lookup 29 = some (.astore 6, 2, 0, 0, 0) := by decide +kernel
theorem l226_31 : (ax_dt (ax_T 226)).lookup 31 = some (.iconst 4, 1, 0, 0, 0) := by decide +kernel
theorem l226_32 : (ax_dt (ax_T 226)).lookup 32 = some (.ireturn, 1, 0, 0, 0) := by decide +kernel
theorem l226_33 : (ax_dt (ax_T 226)).lookup 33 = some (.iconst 0, 1, 0, 0, 0) := by decide +kernel
theorem l226_34 : (ax_dt (ax_T 226)).lookup 34 = some (.ireturn, 1, 0, 0, 0) := by decide +kernel
noncomputable def F_L_reference (v1 : Int) (v2 : Int) (v3 : Int) (v4 : Int) (μ : bM) : Option (Int × bM × Nat) := bXm (F_X10_reference v1 v2 v3 v4 μ) (fun w1 μ2 => some (0, (bset μ2 112 0 w1), 0)) (fun e μ => if e = "java/lang/IndexOutOfBoundsException" then ((fun μ6 => some (1, μ6)) μ).bind (fun r => some (r.1, r.2, 1)) else if e = "java/lang/IllegalStateException" then ((fun μ8 => some (2, μ8)) μ).bind (fun r => some (r.1, r.2, 1)) else if e = "java/lang/IllegalArgumentException" then ((fun μ10 => some (3, μ10)) μ).bind (fun r => some (r.1, r.2, 1)) else if e = "java/lang/UnsupportedOperationException" then ((fun μ12 => some (4, μ12)) μ).bind (fun r => some (r.1, r.2, 1)) else none)
theorem r_L_reference {L : Nat} {xs : Nat → Int32} {d : Nat} {μ : bM}  (v1 : Int) (h1 : bR v1) (v2 : Int) (h2 : bR v2) (v3 : Int) (h3 : bR v3) (v4 : Int) (h4 : bR v4) : bD L xs (d + 4) 226 0 [(0, .ref 1), (1, bI v1), (2, bI v2), (3, bI v3), (4, bI v4), (5, .ref 112)] [] μ ((F_L_reference v1 v2 v3 v4 μ).bind (bCc)) := by
  have hr : ∀ r, (bCc) r = (bCc) r := fun _ => rfl
  unfold F_L_reference
  refine bD.ok fun hk => ?_
  refine b_s (pc' := 2) (lv1 := [(0, .ref 1), (1, bI v1), (2, bI v2), (3, bI v3), (4, bI v4), (5, .ref 112)]) (st' := [.ref 112]) l226_0 (fun _ => rfl) ?_
  refine b_s (pc' := 3) (lv1 := [(0, .ref 1), (1, bI v1), (2, bI v2), (3, bI v3), (4, bI v4), (5, .ref 112)]) (st' := [bI 0, .ref 112]) l226_2 (fun _ => rfl) ?_
  refine b_s (pc' := 4) (lv1 := [(0, .ref 1), (1, bI v1), (2, bI v2), (3, bI v3), (4, bI v4), (5, .ref 112)]) (st' := [.ref 1, bI 0, .ref 112]) l226_3 (fun _ => rfl) ?_
  refine b_s (pc' := 5) (lv1 := [(0, .ref 1), (1, bI v1), (2, bI v2), (3, bI v3), (4, bI v4), (5, .ref 112)]) (st' := [bI v1, .ref 1, bI 0, .ref 112]) l226_4 (fun _ => rfl) ?_
  refine b_s (pc' := 6) (lv1 := [(0, .ref 1), (1, bI v1), (2, bI v2), (3, bI v3), (4, bI v4), (5, .ref 112)]) (st' := [bI v2, bI v1, .ref 1, bI 0, .ref 112]) l226_5 (fun _ => rfl) ?_
  refine b_s (pc' := 7) (lv1 := [(0, .ref 1), (1, bI v1), (2, bI v2), (3, bI v3), (4, bI v4), (5, .ref 112)]) (st' := [bI v3, bI v2, bI v1, .ref 1, bI 0, .ref 112]) l226_6 (fun _ => rfl) ?_
  refine b_s (pc' := 9) (lv1 := [(0, .ref 1), (1, bI v1), (2, bI v2), (3, bI v3), (4, bI v4), (5, .ref 112)]) (st' := [bI v4, bI v3, bI v2, bI v1, .ref 1, bI 0, .ref 112]) l226_7 (fun _ => rfl) ?_
  refine b_cCi l226_9 rfl (b_rc (ci := 8) (by rfl) (by decide) (by decide +kernel)) (Nat.le_of_ble_eq_true rfl) (Nat.le_of_ble_eq_true rfl) rfl (r_X10_reference v1 h1 v2 h2 v3 h3 v4 h4) ⟨fun _ z => (by cases z), (by decide +kernel)⟩ ?_ fun w1 μ2 hw1 => bD.ok fun hk3 => b_pc (pc' := 12) rfl ?_
  · intro e μ6
    by_cases z0 : e = "java/lang/IndexOutOfBoundsException"
    · subst z0
      right
      refine ⟨17, 6, _, (fun μ6 => some (1, μ6)) μ6, by decide +kernel, l226_17, rfl, by decide, ?_, ?_⟩
      · refine bD.wk (lv' := []) bSn ?_
        have hr : ∀ r, bMc r = bMc r := fun _ => rfl
        refine bD.ok fun hk5 => b_pc (pc' := 19) rfl ?_
        refine b_s (pc' := 20) (lv1 := []) (st' := [bI 1]) l226_19 (fun _ => rfl) ?_
        exact b_reti l226_20 rfl (by decide) (hr _)
      · dsimp only
        rw [if_pos rfl]
        exact b_hz
    · by_cases z1 : e = "java/lang/IllegalStateException"
      · subst z1
        right
        refine ⟨21, 6, _, (fun μ8 => some (2, μ8)) μ6, by decide +kernel, l226_21, rfl, by decide, ?_, ?_⟩
        · refine bD.wk (lv' := []) bSn ?_
          have hr : ∀ r, bMc r = bMc r := fun _ => rfl
          refine bD.ok fun hk7 => b_pc (pc' := 23) rfl ?_
          refine b_s (pc' := 24) (lv1 := []) (st' := [bI 2]) l226_23 (fun _ => rfl) ?_
          exact b_reti l226_24 rfl (by decide) (hr _)
        · dsimp only
          rw [if_neg z0, if_pos rfl]
          exact b_hz
      · by_cases z2 : e = "java/lang/IllegalArgumentException"
        · subst z2
          right
          refine ⟨25, 6, _, (fun μ10 => some (3, μ10)) μ6, by decide +kernel, l226_25, rfl, by decide, ?_, ?_⟩
          · refine bD.wk (lv' := []) bSn ?_
            have hr : ∀ r, bMc r = bMc r := fun _ => rfl
            refine bD.ok fun hk9 => b_pc (pc' := 27) rfl ?_
            refine b_s (pc' := 28) (lv1 := []) (st' := [bI 3]) l226_27 (fun _ => rfl) ?_
            exact b_reti l226_28 rfl (by decide) (hr _)
          · dsimp only
            rw [if_neg z0, if_neg z1, if_pos rfl]
            exact b_hz
        · by_cases z3 : e = "java/lang/UnsupportedOperationException"
          · subst z3
            right
            refine ⟨29, 6, _, (fun μ12 => some (4, μ12)) μ6, by decide +kernel, l226_29, rfl, by decide, ?_, ?_⟩
            · refine bD.wk (lv' := []) bSn ?_
              have hr : ∀ r, bMc r = bMc r := fun _ => rfl
              refine bD.ok fun hk11 => b_pc (pc' := 31) rfl ?_
              refine b_s (pc' := 32) (lv1 := []) (st' := [bI 4]) l226_31 (fun _ => rfl) ?_
              exact b_reti l226_32 rfl (by decide) (hr _)
            · dsimp only
              rw [if_neg z0, if_neg z1, if_neg z2, if_pos rfl]
              exact b_hz
          · left
            dsimp only
            rw [if_neg z0, if_neg z1, if_neg z2, if_neg z3]
            rfl
  · refine b_i2l l226_12 hw1 (b_pc (pc' := 13) rfl ?_)
    refine b_las l226_13 (by rfl) (by decide) (bR_L hw1) (bD.ok fun hk4 => b_pc (pc' := 14) rfl ?_)
    refine b_s (pc' := 33) (lv1 := [(0, .ref 1), (1, bI v1), (2, bI v2), (3, bI v3), (4, bI v4), (5, .ref 112)]) (st' := []) l226_14 (fun _ => rfl) ?_
    refine b_s (pc' := 34) (lv1 := [(0, .ref 1), (1, bI v1), (2, bI v2), (3, bI v3), (4, bI v4), (5, .ref 112)]) (st' := [bI 0]) l226_33 (fun _ => rfl) ?_
    exact b_reti l226_34 rfl (by decide) (hr _)
/-! ETLaw.size -/
theorem l227_0 : (ax_dt (ax_T 227)).lookup 0 = some (.aload_n 2, 1, 0, 0, 0) := by decide +kernel
theorem l227_1 : (ax_dt (ax_T 227)).lookup 1 = some (.iconst 0, 1, 0, 0, 0) := by decide +kernel
theorem l227_2 : (ax_dt (ax_T 227)).lookup 2 = some (.aload_n 0, 1, 0, 0, 0) := by decide +kernel
theorem l227_3 : (ax_dt (ax_T 227)).lookup 3 = some (.iload_n 1, 1, 0, 0, 0) := by decide +kernel
theorem l227_4 : (ax_dt (ax_T 227)).lookup 4 = some (.invokevirtual 45, 3, 101, 1, 0) := by decide +kernel
theorem l227_7 : (ax_dt (ax_T 227)).lookup 7 = some (.i2l, 1, 0, 0, 0) := by decide +kernel
theorem l227_8 : (ax_dt (ax_T 227)).lookup 8 = some (.lastore, 1, 0, 0, 0) := by decide +kernel
theorem l227_9 : (ax_dt (ax_T 227)).lookup 9 = some (.goto 6, 3, 0, 0, 0) := by decide +kernel
theorem l227_12 : (ax_dt (ax_T 227)).lookup 12 = some (.astore_n 3, 1, 0, 0, 0) := by decide +kernel
theorem l227_13 : (ax_dt (ax_T 227)).lookup 13 = some (.iconst 1, 1, 0, 0, 0) := by decide +kernel
theorem l227_14 : (ax_dt (ax_T 227)).lookup 14 = some (.ireturn, 1, 0, 0, 0) := by decide +kernel
theorem l227_15 : (ax_dt (ax_T 227)).lookup 15 = some (.iconst 0, 1, 0, 0, 0) := by decide +kernel
theorem l227_16 : (ax_dt (ax_T 227)).lookup 16 = some (.ireturn, 1, 0, 0, 0) := by decide +kernel
noncomputable def F_L_size (v1 : Int) (μ : bM) : Option (Int × bM × Nat) := bXm (F_X10_size v1 μ) (fun w1 μ2 => some (0, (bset μ2 112 0 w1), 0)) (fun e μ => if e = "java/lang/IndexOutOfBoundsException" then ((fun μ6 => some (1, μ6)) μ).bind (fun r => some (r.1, r.2, 1)) else none)
theorem r_L_size {L : Nat} {xs : Nat → Int32} {d : Nat} {μ : bM}  (v1 : Int) (h1 : bR v1) : bD L xs (d + 2) 227 0 [(0, .ref 1), (1, bI v1), (2, .ref 112)] [] μ ((F_L_size v1 μ).bind (bCc)) := by
  have hr : ∀ r, (bCc) r = (bCc) r := fun _ => rfl
  unfold F_L_size
  refine bD.ok fun hk => ?_
  refine b_s (pc' := 1) (lv1 := [(0, .ref 1), (1, bI v1), (2, .ref 112)]) (st' := [.ref 112]) l227_0 (fun _ => rfl) ?_
  refine b_s (pc' := 2) (lv1 := [(0, .ref 1), (1, bI v1), (2, .ref 112)]) (st' := [bI 0, .ref 112]) l227_1 (fun _ => rfl) ?_
  refine b_s (pc' := 3) (lv1 := [(0, .ref 1), (1, bI v1), (2, .ref 112)]) (st' := [.ref 1, bI 0, .ref 112]) l227_2 (fun _ => rfl) ?_
  refine b_s (pc' := 4) (lv1 := [(0, .ref 1), (1, bI v1), (2, .ref 112)]) (st' := [bI v1, .ref 1, bI 0, .ref 112]) l227_3 (fun _ => rfl) ?_
  refine b_cCi l227_4 rfl (b_rc (ci := 8) (by rfl) (by decide) (by decide +kernel)) (Nat.le_of_ble_eq_true rfl) (Nat.le_of_ble_eq_true rfl) rfl (r_X10_size v1 h1) ⟨fun _ z => (by cases z), (by decide +kernel)⟩ ?_ fun w1 μ2 hw1 => bD.ok fun hk3 => b_pc (pc' := 7) rfl ?_
  · intro e μ6
    by_cases z0 : e = "java/lang/IndexOutOfBoundsException"
    · subst z0
      right
      refine ⟨12, 3, _, (fun μ6 => some (1, μ6)) μ6, by decide +kernel, l227_12, rfl, by decide, ?_, ?_⟩
      · refine bD.wk (lv' := []) bSn ?_
        have hr : ∀ r, bMc r = bMc r := fun _ => rfl
        refine bD.ok fun hk5 => b_pc (pc' := 13) rfl ?_
        refine b_s (pc' := 14) (lv1 := []) (st' := [bI 1]) l227_13 (fun _ => rfl) ?_
        exact b_reti l227_14 rfl (by decide) (hr _)
      · dsimp only
        rw [if_pos rfl]
        exact b_hz
    · left
      dsimp only
      rw [if_neg z0]
      rfl
  · refine b_i2l l227_7 hw1 (b_pc (pc' := 8) rfl ?_)
    refine b_las l227_8 (by rfl) (by decide) (bR_L hw1) (bD.ok fun hk4 => b_pc (pc' := 9) rfl ?_)
    refine b_s (pc' := 15) (lv1 := [(0, .ref 1), (1, bI v1), (2, .ref 112)]) (st' := []) l227_9 (fun _ => rfl) ?_
    refine b_s (pc' := 16) (lv1 := [(0, .ref 1), (1, bI v1), (2, .ref 112)]) (st' := [bI 0]) l227_15 (fun _ => rfl) ?_
    exact b_reti l227_16 rfl (by decide) (hr _)
/-! ETLaw.octet -/
theorem l228_0 : (ax_dt (ax_T 228)).lookup 0 = some (.aload_n 3, 1, 0, 0, 0) := by decide +kernel
theorem l228_1 : (ax_dt (ax_T 228)).lookup 1 = some (.iconst 0, 1, 0, 0, 0) := by decide +kernel
theorem l228_2 : (ax_dt (ax_T 228)).lookup 2 = some (.aload_n 0, 1, 0, 0, 0) := by decide +kernel
theorem l228_3 : (ax_dt (ax_T 228)).lookup 3 = some (.iload_n 1, 1, 0, 0, 0) := by decide +kernel
theorem l228_4 : (ax_dt (ax_T 228)).lookup 4 = some (.iload_n 2, 1, 0, 0, 0) := by decide +kernel
theorem l228_5 : (ax_dt (ax_T 228)).lookup 5 = some (.invokevirtual 48, 3, 102, 2, 0) := by decide +kernel
theorem l228_8 : (ax_dt (ax_T 228)).lookup 8 = some (.i2l, 1, 0, 0, 0) := by decide +kernel
theorem l228_9 : (ax_dt (ax_T 228)).lookup 9 = some (.lastore, 1, 0, 0, 0) := by decide +kernel
theorem l228_10 : (ax_dt (ax_T 228)).lookup 10 = some (.goto 7, 3, 0, 0, 0) := by decide +kernel
theorem l228_13 : (ax_dt (ax_T 228)).lookup 13 = some (.astore 4, 2, 0, 0, 0) := by decide +kernel
theorem l228_15 : (ax_dt (ax_T 228)).lookup 15 = some (.iconst 1, 1, 0, 0, 0) := by decide +kernel
theorem l228_16 : (ax_dt (ax_T 228)).lookup 16 = some (.ireturn, 1, 0, 0, 0) := by decide +kernel
theorem l228_17 : (ax_dt (ax_T 228)).lookup 17 = some (.iconst 0, 1, 0, 0, 0) := by decide +kernel
theorem l228_18 : (ax_dt (ax_T 228)).lookup 18 = some (.ireturn, 1, 0, 0, 0) := by decide +kernel
noncomputable def F_L_octet (v1 : Int) (v2 : Int) (μ : bM) : Option (Int × bM × Nat) := bXm (F_X10_octet v1 v2 μ) (fun w1 μ2 => some (0, (bset μ2 112 0 w1), 0)) (fun e μ => if e = "java/lang/IndexOutOfBoundsException" then ((fun μ6 => some (1, μ6)) μ).bind (fun r => some (r.1, r.2, 1)) else none)
theorem r_L_octet {L : Nat} {xs : Nat → Int32} {d : Nat} {μ : bM}  (v1 : Int) (h1 : bR v1) (v2 : Int) (h2 : bR v2) : bD L xs (d + 3) 228 0 [(0, .ref 1), (1, bI v1), (2, bI v2), (3, .ref 112)] [] μ ((F_L_octet v1 v2 μ).bind (bCc)) := by
  have hr : ∀ r, (bCc) r = (bCc) r := fun _ => rfl
  unfold F_L_octet
  refine bD.ok fun hk => ?_
  refine b_s (pc' := 1) (lv1 := [(0, .ref 1), (1, bI v1), (2, bI v2), (3, .ref 112)]) (st' := [.ref 112]) l228_0 (fun _ => rfl) ?_
  refine b_s (pc' := 2) (lv1 := [(0, .ref 1), (1, bI v1), (2, bI v2), (3, .ref 112)]) (st' := [bI 0, .ref 112]) l228_1 (fun _ => rfl) ?_
  refine b_s (pc' := 3) (lv1 := [(0, .ref 1), (1, bI v1), (2, bI v2), (3, .ref 112)]) (st' := [.ref 1, bI 0, .ref 112]) l228_2 (fun _ => rfl) ?_
  refine b_s (pc' := 4) (lv1 := [(0, .ref 1), (1, bI v1), (2, bI v2), (3, .ref 112)]) (st' := [bI v1, .ref 1, bI 0, .ref 112]) l228_3 (fun _ => rfl) ?_
  refine b_s (pc' := 5) (lv1 := [(0, .ref 1), (1, bI v1), (2, bI v2), (3, .ref 112)]) (st' := [bI v2, bI v1, .ref 1, bI 0, .ref 112]) l228_4 (fun _ => rfl) ?_
  refine b_cCi l228_5 rfl (b_rc (ci := 8) (by rfl) (by decide) (by decide +kernel)) (Nat.le_of_ble_eq_true rfl) (Nat.le_of_ble_eq_true rfl) rfl (r_X10_octet v1 h1 v2 h2) ⟨fun _ z => (by cases z), (by decide +kernel)⟩ ?_ fun w1 μ2 hw1 => bD.ok fun hk3 => b_pc (pc' := 8) rfl ?_
  · intro e μ6
    by_cases z0 : e = "java/lang/IndexOutOfBoundsException"
    · subst z0
      right
      refine ⟨13, 4, _, (fun μ6 => some (1, μ6)) μ6, by decide +kernel, l228_13, rfl, by decide, ?_, ?_⟩
      · refine bD.wk (lv' := []) bSn ?_
        have hr : ∀ r, bMc r = bMc r := fun _ => rfl
        refine bD.ok fun hk5 => b_pc (pc' := 15) rfl ?_
        refine b_s (pc' := 16) (lv1 := []) (st' := [bI 1]) l228_15 (fun _ => rfl) ?_
        exact b_reti l228_16 rfl (by decide) (hr _)
      · dsimp only
        rw [if_pos rfl]
        exact b_hz
    · left
      dsimp only
      rw [if_neg z0]
      rfl
  · refine b_i2l l228_8 hw1 (b_pc (pc' := 9) rfl ?_)
    refine b_las l228_9 (by rfl) (by decide) (bR_L hw1) (bD.ok fun hk4 => b_pc (pc' := 10) rfl ?_)
    refine b_s (pc' := 17) (lv1 := [(0, .ref 1), (1, bI v1), (2, bI v2), (3, .ref 112)]) (st' := []) l228_10 (fun _ => rfl) ?_
    refine b_s (pc' := 18) (lv1 := [(0, .ref 1), (1, bI v1), (2, bI v2), (3, .ref 112)]) (st' := [bI 0]) l228_17 (fun _ => rfl) ?_
    exact b_reti l228_18 rfl (by decide) (hr _)
/-! ETLaw.load -/
theorem l229_0 : (ax_dt (ax_T 229)).lookup 0 = some (.aload_n 2, 1, 0, 0, 0) := by decide +kernel
theorem l229_1 : (ax_dt (ax_T 229)).lookup 1 = some (.iconst 0, 1, 0, 0, 0) := by decide +kernel
theorem l229_2 : (ax_dt (ax_T 229)).lookup 2 = some (.aload_n 0, 1, 0, 0, 0) := by decide +kernel
theorem l229_3 : (ax_dt (ax_T 229)).lookup 3 = some (.iload_n 1, 1, 0, 0, 0) := by decide +kernel
theorem l229_4 : (ax_dt (ax_T 229)).lookup 4 = some (.invokevirtual 51, 3, 103, 1, 0) := by decide +kernel
theorem l229_7 : (ax_dt (ax_T 229)).lookup 7 = some (.i2l, 1, 0, 0, 0) := by decide +kernel
theorem l229_8 : (ax_dt (ax_T 229)).lookup 8 = some (.lastore, 1, 0, 0, 0) := by decide +kernel
theorem l229_9 : (ax_dt (ax_T 229)).lookup 9 = some (.goto 9, 3, 0, 0, 0) := by decide +kernel
theorem l229_12 : (ax_dt (ax_T 229)).lookup 12 = some (.astore_n 3, 1, 0, 0, 0) := by decide +kernel
theorem l229_13 : (ax_dt (ax_T 229)).lookup 13 = some (.iconst 1, 1, 0, 0, 0) := by decide +kernel
theorem l229_14 : (ax_dt (ax_T 229)).lookup 14 = some (.ireturn, 1, 0, 0, 0) := by decide +kernel
theorem l229_15 : (ax_dt (ax_T 229)).lookup 15 = some (.astore_n 3, 1, 0, 0, 0) := by decide +kernel
theorem l229_16 : (ax_dt (ax_T 229)).lookup 16 = some (.iconst 2, 1, 0, 0, 0) := by decide +kernel
theorem l229_17 : (ax_dt (ax_T 229)).lookup 17 = some (.ireturn, 1, 0, 0, 0) := by decide +kernel
theorem l229_18 : (ax_dt (ax_T 229)).lookup 18 = some (.iconst 0, 1, 0, 0, 0) := by decide +kernel
theorem l229_19 : (ax_dt (ax_T 229)).lookup 19 = some (.ireturn, 1, 0, 0, 0) := by decide +kernel
noncomputable def F_L_load (v1 : Int) (μ : bM) : Option (Int × bM × Nat) := bXm (F_X10_load v1 μ) (fun w1 μ2 => some (0, (bset μ2 112 0 w1), 0)) (fun e μ => if e = "java/lang/IndexOutOfBoundsException" then ((fun μ6 => some (1, μ6)) μ).bind (fun r => some (r.1, r.2, 1)) else if e = "java/lang/UnsupportedOperationException" then ((fun μ8 => some (2, μ8)) μ).bind (fun r => some (r.1, r.2, 1)) else none)
theorem r_L_load {L : Nat} {xs : Nat → Int32} {d : Nat} {μ : bM}  (v1 : Int) (h1 : bR v1) : bD L xs (d + 3) 229 0 [(0, .ref 1), (1, bI v1), (2, .ref 112)] [] μ ((F_L_load v1 μ).bind (bCc)) := by
  have hr : ∀ r, (bCc) r = (bCc) r := fun _ => rfl
  unfold F_L_load
  refine bD.ok fun hk => ?_
  refine b_s (pc' := 1) (lv1 := [(0, .ref 1), (1, bI v1), (2, .ref 112)]) (st' := [.ref 112]) l229_0 (fun _ => rfl) ?_
  refine b_s (pc' := 2) (lv1 := [(0, .ref 1), (1, bI v1), (2, .ref 112)]) (st' := [bI 0, .ref 112]) l229_1 (fun _ => rfl) ?_
  refine b_s (pc' := 3) (lv1 := [(0, .ref 1), (1, bI v1), (2, .ref 112)]) (st' := [.ref 1, bI 0, .ref 112]) l229_2 (fun _ => rfl) ?_
  refine b_s (pc' := 4) (lv1 := [(0, .ref 1), (1, bI v1), (2, .ref 112)]) (st' := [bI v1, .ref 1, bI 0, .ref 112]) l229_3 (fun _ => rfl) ?_
  refine b_cCi l229_4 rfl (b_rc (ci := 8) (by rfl) (by decide) (by decide +kernel)) (Nat.le_of_ble_eq_true rfl) (Nat.le_of_ble_eq_true rfl) rfl (r_X10_load v1 h1) ⟨fun _ z => (by cases z), (by decide +kernel)⟩ ?_ fun w1 μ2 hw1 => bD.ok fun hk3 => b_pc (pc' := 7) rfl ?_
  · intro e μ6
    by_cases z0 : e = "java/lang/IndexOutOfBoundsException"
    · subst z0
      right
      refine ⟨12, 3, _, (fun μ6 => some (1, μ6)) μ6, by decide +kernel, l229_12, rfl, by decide, ?_, ?_⟩
      · refine bD.wk (lv' := []) bSn ?_
        have hr : ∀ r, bMc r = bMc r := fun _ => rfl
        refine bD.ok fun hk5 => b_pc (pc' := 13) rfl ?_
        refine b_s (pc' := 14) (lv1 := []) (st' := [bI 1]) l229_13 (fun _ => rfl) ?_
        exact b_reti l229_14 rfl (by decide) (hr _)
      · dsimp only
        rw [if_pos rfl]
        exact b_hz
    · by_cases z1 : e = "java/lang/UnsupportedOperationException"
      · subst z1
        right
        refine ⟨15, 3, _, (fun μ8 => some (2, μ8)) μ6, by decide +kernel, l229_15, rfl, by decide, ?_, ?_⟩
        · refine bD.wk (lv' := []) bSn ?_
          have hr : ∀ r, bMc r = bMc r := fun _ => rfl
          refine bD.ok fun hk7 => b_pc (pc' := 16) rfl ?_
          refine b_s (pc' := 17) (lv1 := []) (st' := [bI 2]) l229_16 (fun _ => rfl) ?_
          exact b_reti l229_17 rfl (by decide) (hr _)
        · dsimp only
          rw [if_neg z0, if_pos rfl]
          exact b_hz
      · left
        dsimp only
        rw [if_neg z0, if_neg z1]
        rfl
  · refine b_i2l l229_7 hw1 (b_pc (pc' := 8) rfl ?_)
    refine b_las l229_8 (by rfl) (by decide) (bR_L hw1) (bD.ok fun hk4 => b_pc (pc' := 9) rfl ?_)
    refine b_s (pc' := 18) (lv1 := [(0, .ref 1), (1, bI v1), (2, .ref 112)]) (st' := []) l229_9 (fun _ => rfl) ?_
    refine b_s (pc' := 19) (lv1 := [(0, .ref 1), (1, bI v1), (2, .ref 112)]) (st' := [bI 0]) l229_18 (fun _ => rfl) ?_
    exact b_reti l229_19 rfl (by decide) (hr _)
/-! ETLaw.alter -/
theorem l230_0 : (ax_dt (ax_T 230)).lookup 0 = some (.aload 4, 2, 0, 0, 0) := by decide +kernel
theorem l230_2 : (ax_dt (ax_T 230)).lookup 2 = some (.iconst 0, 1, 0, 0, 0) := by decide +kernel
theorem l230_3 : (ax_dt (ax_T 230)).lookup 3 = some (.aload_n 0, 1, 0, 0, 0) := by decide +kernel
theorem l230_4 : (ax_dt (ax_T 230)).lookup 4 = some (.iload_n 1, 1, 0, 0, 0) := by decide +kernel
theorem l230_5 : (ax_dt (ax_T 230)).lookup 5 = some (.iload_n 2, 1, 0, 0, 0) := by decide +kernel
theorem l230_6 : (ax_dt (ax_T 230)).lookup 6 = some (.iload_n 3, 1, 0, 0, 0) := by decide +kernel
theorem l230_7 : (ax_dt (ax_T 230)).lookup 7 = some (.invokevirtual 54, 3, 104, 3, 0) := by decide +kernel
theorem l230_10 : (ax_dt (ax_T 230)).lookup 10 = some (.i2l, 1, 0, 0, 0) := by decide +kernel
theorem l230_11 : (ax_dt (ax_T 230)).lookup 11 = some (.lastore, 1, 0, 0, 0) := by decide +kernel
theorem l230_12 : (ax_dt (ax_T 230)).lookup 12 = some (.goto 7, 3, 0, 0, 0) := by decide +kernel
theorem l230_15 : (ax_dt (ax_T 230)).lookup 15 = some (.astore 5, 2, 0, 0, 0) := by decide +kernel
theorem l230_17 : (ax_dt (ax_T 230)).lookup 17 = some (.iconst 1, 1, 0, 0, 0) := by decide +kernel
theorem l230_18 : (ax_dt (ax_T 230)).lookup 18 = some (.ireturn, 1, 0, 0, 0) := by decide +kernel
theorem l230_19 : (ax_dt (ax_T 230)).lookup 19 = some (.iconst 0, 1, 0, 0, 0) := by decide +kernel
theorem l230_20 : (ax_dt (ax_T 230)).lookup 20 = some (.ireturn, 1, 0, 0, 0) := by decide +kernel
noncomputable def F_L_alter (v1 : Int) (v2 : Int) (v3 : Int) (μ : bM) : Option (Int × bM × Nat) := bXm (F_X10_alter v1 v2 v3 μ) (fun w1 μ2 => some (0, (bset μ2 112 0 w1), 0)) (fun e μ => if e = "java/lang/IndexOutOfBoundsException" then ((fun μ6 => some (1, μ6)) μ).bind (fun r => some (r.1, r.2, 1)) else none)
theorem r_L_alter {L : Nat} {xs : Nat → Int32} {d : Nat} {μ : bM}  (v1 : Int) (h1 : bR v1) (v2 : Int) (h2 : bR v2) (v3 : Int) (h3 : bR v3) : bD L xs (d + 3) 230 0 [(0, .ref 1), (1, bI v1), (2, bI v2), (3, bI v3), (4, .ref 112)] [] μ ((F_L_alter v1 v2 v3 μ).bind (bCc)) := by
  have hr : ∀ r, (bCc) r = (bCc) r := fun _ => rfl
  unfold F_L_alter
  refine bD.ok fun hk => ?_
  refine b_s (pc' := 2) (lv1 := [(0, .ref 1), (1, bI v1), (2, bI v2), (3, bI v3), (4, .ref 112)]) (st' := [.ref 112]) l230_0 (fun _ => rfl) ?_
  refine b_s (pc' := 3) (lv1 := [(0, .ref 1), (1, bI v1), (2, bI v2), (3, bI v3), (4, .ref 112)]) (st' := [bI 0, .ref 112]) l230_2 (fun _ => rfl) ?_
  refine b_s (pc' := 4) (lv1 := [(0, .ref 1), (1, bI v1), (2, bI v2), (3, bI v3), (4, .ref 112)]) (st' := [.ref 1, bI 0, .ref 112]) l230_3 (fun _ => rfl) ?_
  refine b_s (pc' := 5) (lv1 := [(0, .ref 1), (1, bI v1), (2, bI v2), (3, bI v3), (4, .ref 112)]) (st' := [bI v1, .ref 1, bI 0, .ref 112]) l230_4 (fun _ => rfl) ?_
  refine b_s (pc' := 6) (lv1 := [(0, .ref 1), (1, bI v1), (2, bI v2), (3, bI v3), (4, .ref 112)]) (st' := [bI v2, bI v1, .ref 1, bI 0, .ref 112]) l230_5 (fun _ => rfl) ?_
  refine b_s (pc' := 7) (lv1 := [(0, .ref 1), (1, bI v1), (2, bI v2), (3, bI v3), (4, .ref 112)]) (st' := [bI v3, bI v2, bI v1, .ref 1, bI 0, .ref 112]) l230_6 (fun _ => rfl) ?_
  refine b_cCi l230_7 rfl (b_rc (ci := 8) (by rfl) (by decide) (by decide +kernel)) (Nat.le_of_ble_eq_true rfl) (Nat.le_of_ble_eq_true rfl) rfl (r_X10_alter v1 h1 v2 h2 v3 h3) ⟨fun _ z => (by cases z), (by decide +kernel)⟩ ?_ fun w1 μ2 hw1 => bD.ok fun hk3 => b_pc (pc' := 10) rfl ?_
  · intro e μ6
    by_cases z0 : e = "java/lang/IndexOutOfBoundsException"
    · subst z0
      right
      refine ⟨15, 5, _, (fun μ6 => some (1, μ6)) μ6, by decide +kernel, l230_15, rfl, by decide, ?_, ?_⟩
      · refine bD.wk (lv' := []) bSn ?_
        have hr : ∀ r, bMc r = bMc r := fun _ => rfl
        refine bD.ok fun hk5 => b_pc (pc' := 17) rfl ?_
        refine b_s (pc' := 18) (lv1 := []) (st' := [bI 1]) l230_17 (fun _ => rfl) ?_
        exact b_reti l230_18 rfl (by decide) (hr _)
      · dsimp only
        rw [if_pos rfl]
        exact b_hz
    · left
      dsimp only
      rw [if_neg z0]
      rfl
  · refine b_i2l l230_10 hw1 (b_pc (pc' := 11) rfl ?_)
    refine b_las l230_11 (by rfl) (by decide) (bR_L hw1) (bD.ok fun hk4 => b_pc (pc' := 12) rfl ?_)
    refine b_s (pc' := 19) (lv1 := [(0, .ref 1), (1, bI v1), (2, bI v2), (3, bI v3), (4, .ref 112)]) (st' := []) l230_12 (fun _ => rfl) ?_
    refine b_s (pc' := 20) (lv1 := [(0, .ref 1), (1, bI v1), (2, bI v2), (3, bI v3), (4, .ref 112)]) (st' := [bI 0]) l230_19 (fun _ => rfl) ?_
    exact b_reti l230_20 rfl (by decide) (hr _)
/-! ETLaw.fault -/
theorem l231_0 : (ax_dt (ax_T 231)).lookup 0 = some (.aload_n 2, 1, 0, 0, 0) := by decide +kernel
theorem l231_1 : (ax_dt (ax_T 231)).lookup 1 = some (.iconst 0, 1, 0, 0, 0) := by decide +kernel
theorem l231_2 : (ax_dt (ax_T 231)).lookup 2 = some (.aload_n 0, 1, 0, 0, 0) := by decide +kernel
theorem l231_3 : (ax_dt (ax_T 231)).lookup 3 = some (.iload_n 1, 1, 0, 0, 0) := by decide +kernel
theorem l231_4 : (ax_dt (ax_T 231)).lookup 4 = some (.invokevirtual 57, 3, 106, 1, 0) := by decide +kernel
theorem l231_7 : (ax_dt (ax_T 231)).lookup 7 = some (.i2l, 1, 0, 0, 0) := by decide +kernel
theorem l231_8 : (ax_dt (ax_T 231)).lookup 8 = some (.lastore, 1, 0, 0, 0) := by decide +kernel
theorem l231_9 : (ax_dt (ax_T 231)).lookup 9 = some (.goto 6, 3, 0, 0, 0) := by decide +kernel
theorem l231_12 : (ax_dt (ax_T 231)).lookup 12 = some (.astore_n 3, 1, 0, 0, 0) := by decide +kernel
theorem l231_13 : (ax_dt (ax_T 231)).lookup 13 = some (.iconst 1, 1, 0, 0, 0) := by decide +kernel
theorem l231_14 : (ax_dt (ax_T 231)).lookup 14 = some (.ireturn, 1, 0, 0, 0) := by decide +kernel
theorem l231_15 : (ax_dt (ax_T 231)).lookup 15 = some (.iconst 0, 1, 0, 0, 0) := by decide +kernel
theorem l231_16 : (ax_dt (ax_T 231)).lookup 16 = some (.ireturn, 1, 0, 0, 0) := by decide +kernel
noncomputable def F_L_fault (v1 : Int) (μ : bM) : Option (Int × bM × Nat) := bXm (F_X10_fault v1 μ) (fun w1 μ2 => some (0, (bset μ2 112 0 w1), 0)) (fun e μ => if e = "java/lang/IndexOutOfBoundsException" then ((fun μ6 => some (1, μ6)) μ).bind (fun r => some (r.1, r.2, 1)) else none)
theorem r_L_fault {L : Nat} {xs : Nat → Int32} {d : Nat} {μ : bM}  (v1 : Int) (h1 : bR v1) : bD L xs (d + 1) 231 0 [(0, .ref 1), (1, bI v1), (2, .ref 112)] [] μ ((F_L_fault v1 μ).bind (bCc)) := by
  have hr : ∀ r, (bCc) r = (bCc) r := fun _ => rfl
  unfold F_L_fault
  refine bD.ok fun hk => ?_
  refine b_s (pc' := 1) (lv1 := [(0, .ref 1), (1, bI v1), (2, .ref 112)]) (st' := [.ref 112]) l231_0 (fun _ => rfl) ?_
  refine b_s (pc' := 2) (lv1 := [(0, .ref 1), (1, bI v1), (2, .ref 112)]) (st' := [bI 0, .ref 112]) l231_1 (fun _ => rfl) ?_
  refine b_s (pc' := 3) (lv1 := [(0, .ref 1), (1, bI v1), (2, .ref 112)]) (st' := [.ref 1, bI 0, .ref 112]) l231_2 (fun _ => rfl) ?_
  refine b_s (pc' := 4) (lv1 := [(0, .ref 1), (1, bI v1), (2, .ref 112)]) (st' := [bI v1, .ref 1, bI 0, .ref 112]) l231_3 (fun _ => rfl) ?_
  refine b_cCi l231_4 rfl (b_rc (ci := 8) (by rfl) (by decide) (by decide +kernel)) (Nat.le_of_ble_eq_true rfl) (Nat.le_of_ble_eq_true rfl) rfl (r_X10_fault v1 h1) ⟨fun _ z => (by cases z), (by decide +kernel)⟩ ?_ fun w1 μ2 hw1 => bD.ok fun hk3 => b_pc (pc' := 7) rfl ?_
  · intro e μ6
    by_cases z0 : e = "java/lang/IndexOutOfBoundsException"
    · subst z0
      right
      refine ⟨12, 3, _, (fun μ6 => some (1, μ6)) μ6, by decide +kernel, l231_12, rfl, by decide, ?_, ?_⟩
      · refine bD.wk (lv' := []) bSn ?_
        have hr : ∀ r, bMc r = bMc r := fun _ => rfl
        refine bD.ok fun hk5 => b_pc (pc' := 13) rfl ?_
        refine b_s (pc' := 14) (lv1 := []) (st' := [bI 1]) l231_13 (fun _ => rfl) ?_
        exact b_reti l231_14 rfl (by decide) (hr _)
      · dsimp only
        rw [if_pos rfl]
        exact b_hz
    · left
      dsimp only
      rw [if_neg z0]
      rfl
  · refine b_i2l l231_7 hw1 (b_pc (pc' := 8) rfl ?_)
    refine b_las l231_8 (by rfl) (by decide) (bR_L hw1) (bD.ok fun hk4 => b_pc (pc' := 9) rfl ?_)
    refine b_s (pc' := 15) (lv1 := [(0, .ref 1), (1, bI v1), (2, .ref 112)]) (st' := []) l231_9 (fun _ => rfl) ?_
    refine b_s (pc' := 16) (lv1 := [(0, .ref 1), (1, bI v1), (2, .ref 112)]) (st' := [bI 0]) l231_15 (fun _ => rfl) ?_
    exact b_reti l231_16 rfl (by decide) (hr _)
/-! ETLaw.count -/
theorem l232_0 : (ax_dt (ax_T 232)).lookup 0 = some (.aload_n 2, 1, 0, 0, 0) := by decide +kernel
theorem l232_1 : (ax_dt (ax_T 232)).lookup 1 = some (.iconst 0, 1, 0, 0, 0) := by decide +kernel
theorem l232_2 : (ax_dt (ax_T 232)).lookup 2 = some (.aload_n 0, 1, 0, 0, 0) := by decide +kernel
theorem l232_3 : (ax_dt (ax_T 232)).lookup 3 = some (.iload_n 1, 1, 0, 0, 0) := by decide +kernel
theorem l232_4 : (ax_dt (ax_T 232)).lookup 4 = some (.invokevirtual 60, 3, 107, 1, 0) := by decide +kernel
theorem l232_7 : (ax_dt (ax_T 232)).lookup 7 = some (.i2l, 1, 0, 0, 0) := by decide +kernel
theorem l232_8 : (ax_dt (ax_T 232)).lookup 8 = some (.lastore, 1, 0, 0, 0) := by decide +kernel
theorem l232_9 : (ax_dt (ax_T 232)).lookup 9 = some (.goto 6, 3, 0, 0, 0) := by decide +kernel
theorem l232_12 : (ax_dt (ax_T 232)).lookup 12 = some (.astore_n 3, 1, 0, 0, 0) := by decide +kernel
theorem l232_13 : (ax_dt (ax_T 232)).lookup 13 = some (.iconst 1, 1, 0, 0, 0) := by decide +kernel
theorem l232_14 : (ax_dt (ax_T 232)).lookup 14 = some (.ireturn, 1, 0, 0, 0) := by decide +kernel
theorem l232_15 : (ax_dt (ax_T 232)).lookup 15 = some (.iconst 0, 1, 0, 0, 0) := by decide +kernel
theorem l232_16 : (ax_dt (ax_T 232)).lookup 16 = some (.ireturn, 1, 0, 0, 0) := by decide +kernel
noncomputable def F_L_count (v1 : Int) (μ : bM) : Option (Int × bM × Nat) := bXm (F_X10_count v1 μ) (fun w1 μ2 => some (0, (bset μ2 112 0 w1), 0)) (fun e μ => if e = "java/lang/IndexOutOfBoundsException" then ((fun μ6 => some (1, μ6)) μ).bind (fun r => some (r.1, r.2, 1)) else none)
theorem r_L_count {L : Nat} {xs : Nat → Int32} {d : Nat} {μ : bM}  (v1 : Int) (h1 : bR v1) : bD L xs (d + 7) 232 0 [(0, .ref 1), (1, bI v1), (2, .ref 112)] [] μ ((F_L_count v1 μ).bind (bCc)) := by
  have hr : ∀ r, (bCc) r = (bCc) r := fun _ => rfl
  unfold F_L_count
  refine bD.ok fun hk => ?_
  refine b_s (pc' := 1) (lv1 := [(0, .ref 1), (1, bI v1), (2, .ref 112)]) (st' := [.ref 112]) l232_0 (fun _ => rfl) ?_
  refine b_s (pc' := 2) (lv1 := [(0, .ref 1), (1, bI v1), (2, .ref 112)]) (st' := [bI 0, .ref 112]) l232_1 (fun _ => rfl) ?_
  refine b_s (pc' := 3) (lv1 := [(0, .ref 1), (1, bI v1), (2, .ref 112)]) (st' := [.ref 1, bI 0, .ref 112]) l232_2 (fun _ => rfl) ?_
  refine b_s (pc' := 4) (lv1 := [(0, .ref 1), (1, bI v1), (2, .ref 112)]) (st' := [bI v1, .ref 1, bI 0, .ref 112]) l232_3 (fun _ => rfl) ?_
  refine b_cCi l232_4 rfl (b_rc (ci := 8) (by rfl) (by decide) (by decide +kernel)) (Nat.le_of_ble_eq_true rfl) (Nat.le_of_ble_eq_true rfl) rfl (r_X10_count v1 h1) ⟨fun _ z => (by cases z), (by decide +kernel)⟩ ?_ fun w1 μ2 hw1 => bD.ok fun hk3 => b_pc (pc' := 7) rfl ?_
  · intro e μ6
    by_cases z0 : e = "java/lang/IndexOutOfBoundsException"
    · subst z0
      right
      refine ⟨12, 3, _, (fun μ6 => some (1, μ6)) μ6, by decide +kernel, l232_12, rfl, by decide, ?_, ?_⟩
      · refine bD.wk (lv' := []) bSn ?_
        have hr : ∀ r, bMc r = bMc r := fun _ => rfl
        refine bD.ok fun hk5 => b_pc (pc' := 13) rfl ?_
        refine b_s (pc' := 14) (lv1 := []) (st' := [bI 1]) l232_13 (fun _ => rfl) ?_
        exact b_reti l232_14 rfl (by decide) (hr _)
      · dsimp only
        rw [if_pos rfl]
        exact b_hz
    · left
      dsimp only
      rw [if_neg z0]
      rfl
  · refine b_i2l l232_7 hw1 (b_pc (pc' := 8) rfl ?_)
    refine b_las l232_8 (by rfl) (by decide) (bR_L hw1) (bD.ok fun hk4 => b_pc (pc' := 9) rfl ?_)
    refine b_s (pc' := 15) (lv1 := [(0, .ref 1), (1, bI v1), (2, .ref 112)]) (st' := []) l232_9 (fun _ => rfl) ?_
    refine b_s (pc' := 16) (lv1 := [(0, .ref 1), (1, bI v1), (2, .ref 112)]) (st' := [bI 0]) l232_15 (fun _ => rfl) ?_
    exact b_reti l232_16 rfl (by decide) (hr _)
/-! ETLaw.about -/
theorem l233_0 : (ax_dt (ax_T 233)).lookup 0 = some (.aload_n 3, 1, 0, 0, 0) := by decide +kernel
theorem l233_1 : (ax_dt (ax_T 233)).lookup 1 = some (.iconst 0, 1, 0, 0, 0) := by decide +kernel
theorem l233_2 : (ax_dt (ax_T 233)).lookup 2 = some (.aload_n 0, 1, 0, 0, 0) := by decide +kernel
theorem l233_3 : (ax_dt (ax_T 233)).lookup 3 = some (.iload_n 1, 1, 0, 0, 0) := by decide +kernel
theorem l233_4 : (ax_dt (ax_T 233)).lookup 4 = some (.iload_n 2, 1, 0, 0, 0) := by decide +kernel
theorem l233_5 : (ax_dt (ax_T 233)).lookup 5 = some (.invokevirtual 63, 3, 108, 2, 0) := by decide +kernel
theorem l233_8 : (ax_dt (ax_T 233)).lookup 8 = some (.i2l, 1, 0, 0, 0) := by decide +kernel
theorem l233_9 : (ax_dt (ax_T 233)).lookup 9 = some (.lastore, 1, 0, 0, 0) := by decide +kernel
theorem l233_10 : (ax_dt (ax_T 233)).lookup 10 = some (.goto 7, 3, 0, 0, 0) := by decide +kernel
theorem l233_13 : (ax_dt (ax_T 233)).lookup 13 = some (.astore 4, 2, 0, 0, 0) := by decide +kernel
theorem l233_15 : (ax_dt (ax_T 233)).lookup 15 = some (.iconst 1, 1, 0, 0, 0) := by decide +kernel
theorem l233_16 : (ax_dt (ax_T 233)).lookup 16 = some (.ireturn, 1, 0, 0, 0) := by decide +kernel
theorem l233_17 : (ax_dt (ax_T 233)).lookup 17 = some (.iconst 0, 1, 0, 0, 0) := by decide +kernel
theorem l233_18 : (ax_dt (ax_T 233)).lookup 18 = some (.ireturn, 1, 0, 0, 0) := by decide +kernel
noncomputable def F_L_about (v1 : Int) (v2 : Int) (μ : bM) : Option (Int × bM × Nat) := bXm (F_X10_about v1 v2 μ) (fun w1 μ2 => some (0, (bset μ2 112 0 w1), 0)) (fun e μ => if e = "java/lang/IndexOutOfBoundsException" then ((fun μ6 => some (1, μ6)) μ).bind (fun r => some (r.1, r.2, 1)) else none)
theorem r_L_about {L : Nat} {xs : Nat → Int32} {d : Nat} {μ : bM}  (v1 : Int) (h1 : bR v1) (v2 : Int) (h2 : bR v2) : bD L xs (d + 7) 233 0 [(0, .ref 1), (1, bI v1), (2, bI v2), (3, .ref 112)] [] μ ((F_L_about v1 v2 μ).bind (bCc)) := by
  have hr : ∀ r, (bCc) r = (bCc) r := fun _ => rfl
  unfold F_L_about
  refine bD.ok fun hk => ?_
  refine b_s (pc' := 1) (lv1 := [(0, .ref 1), (1, bI v1), (2, bI v2), (3, .ref 112)]) (st' := [.ref 112]) l233_0 (fun _ => rfl) ?_
  refine b_s (pc' := 2) (lv1 := [(0, .ref 1), (1, bI v1), (2, bI v2), (3, .ref 112)]) (st' := [bI 0, .ref 112]) l233_1 (fun _ => rfl) ?_
  refine b_s (pc' := 3) (lv1 := [(0, .ref 1), (1, bI v1), (2, bI v2), (3, .ref 112)]) (st' := [.ref 1, bI 0, .ref 112]) l233_2 (fun _ => rfl) ?_
  refine b_s (pc' := 4) (lv1 := [(0, .ref 1), (1, bI v1), (2, bI v2), (3, .ref 112)]) (st' := [bI v1, .ref 1, bI 0, .ref 112]) l233_3 (fun _ => rfl) ?_
  refine b_s (pc' := 5) (lv1 := [(0, .ref 1), (1, bI v1), (2, bI v2), (3, .ref 112)]) (st' := [bI v2, bI v1, .ref 1, bI 0, .ref 112]) l233_4 (fun _ => rfl) ?_
  refine b_cCi l233_5 rfl (b_rc (ci := 8) (by rfl) (by decide) (by decide +kernel)) (Nat.le_of_ble_eq_true rfl) (Nat.le_of_ble_eq_true rfl) rfl (r_X10_about v1 h1 v2 h2) ⟨fun _ z => (by cases z), (by decide +kernel)⟩ ?_ fun w1 μ2 hw1 => bD.ok fun hk3 => b_pc (pc' := 8) rfl ?_
  · intro e μ6
    by_cases z0 : e = "java/lang/IndexOutOfBoundsException"
    · subst z0
      right
      refine ⟨13, 4, _, (fun μ6 => some (1, μ6)) μ6, by decide +kernel, l233_13, rfl, by decide, ?_, ?_⟩
      · refine bD.wk (lv' := []) bSn ?_
        have hr : ∀ r, bMc r = bMc r := fun _ => rfl
        refine bD.ok fun hk5 => b_pc (pc' := 15) rfl ?_
        refine b_s (pc' := 16) (lv1 := []) (st' := [bI 1]) l233_15 (fun _ => rfl) ?_
        exact b_reti l233_16 rfl (by decide) (hr _)
      · dsimp only
        rw [if_pos rfl]
        exact b_hz
    · left
      dsimp only
      rw [if_neg z0]
      rfl
  · refine b_i2l l233_8 hw1 (b_pc (pc' := 9) rfl ?_)
    refine b_las l233_9 (by rfl) (by decide) (bR_L hw1) (bD.ok fun hk4 => b_pc (pc' := 10) rfl ?_)
    refine b_s (pc' := 17) (lv1 := [(0, .ref 1), (1, bI v1), (2, bI v2), (3, .ref 112)]) (st' := []) l233_10 (fun _ => rfl) ?_
    refine b_s (pc' := 18) (lv1 := [(0, .ref 1), (1, bI v1), (2, bI v2), (3, .ref 112)]) (st' := [bI 0]) l233_17 (fun _ => rfl) ?_
    exact b_reti l233_18 rfl (by decide) (hr _)
/-! ETLaw.child -/
theorem l234_0 : (ax_dt (ax_T 234)).lookup 0 = some (.aload_n 3, 1, 0, 0, 0) := by decide +kernel
theorem l234_1 : (ax_dt (ax_T 234)).lookup 1 = some (.iconst 0, 1, 0, 0, 0) := by decide +kernel
theorem l234_2 : (ax_dt (ax_T 234)).lookup 2 = some (.aload_n 0, 1, 0, 0, 0) := by decide +kernel
theorem l234_3 : (ax_dt (ax_T 234)).lookup 3 = some (.iload_n 1, 1, 0, 0, 0) := by decide +kernel
theorem l234_4 : (ax_dt (ax_T 234)).lookup 4 = some (.iload_n 2, 1, 0, 0, 0) := by decide +kernel
theorem l234_5 : (ax_dt (ax_T 234)).lookup 5 = some (.invokevirtual 66, 3, 109, 2, 0) := by decide +kernel
theorem l234_8 : (ax_dt (ax_T 234)).lookup 8 = some (.i2l, 1, 0, 0, 0) := by decide +kernel
theorem l234_9 : (ax_dt (ax_T 234)).lookup 9 = some (.lastore, 1, 0, 0, 0) := by decide +kernel
theorem l234_10 : (ax_dt (ax_T 234)).lookup 10 = some (.goto 7, 3, 0, 0, 0) := by decide +kernel
theorem l234_13 : (ax_dt (ax_T 234)).lookup 13 = some (.astore 4, 2, 0, 0, 0) := by decide +kernel
theorem l234_15 : (ax_dt (ax_T 234)).lookup 15 = some (.iconst 1, 1, 0, 0, 0) := by decide +kernel
theorem l234_16 : (ax_dt (ax_T 234)).lookup 16 = some (.ireturn, 1, 0, 0, 0) := by decide +kernel
theorem l234_17 : (ax_dt (ax_T 234)).lookup 17 = some (.iconst 0, 1, 0, 0, 0) := by decide +kernel
theorem l234_18 : (ax_dt (ax_T 234)).lookup 18 = some (.ireturn, 1, 0, 0, 0) := by decide +kernel
noncomputable def F_L_child (v1 : Int) (v2 : Int) (μ : bM) : Option (Int × bM × Nat) := bXm (F_X10_child v1 v2 μ) (fun w1 μ2 => some (0, (bset μ2 112 0 w1), 0)) (fun e μ => if e = "java/lang/IndexOutOfBoundsException" then ((fun μ6 => some (1, μ6)) μ).bind (fun r => some (r.1, r.2, 1)) else none)
theorem r_L_child {L : Nat} {xs : Nat → Int32} {d : Nat} {μ : bM}  (v1 : Int) (h1 : bR v1) (v2 : Int) (h2 : bR v2) : bD L xs (d + 2) 234 0 [(0, .ref 1), (1, bI v1), (2, bI v2), (3, .ref 112)] [] μ ((F_L_child v1 v2 μ).bind (bCc)) := by
  have hr : ∀ r, (bCc) r = (bCc) r := fun _ => rfl
  unfold F_L_child
  refine bD.ok fun hk => ?_
  refine b_s (pc' := 1) (lv1 := [(0, .ref 1), (1, bI v1), (2, bI v2), (3, .ref 112)]) (st' := [.ref 112]) l234_0 (fun _ => rfl) ?_
  refine b_s (pc' := 2) (lv1 := [(0, .ref 1), (1, bI v1), (2, bI v2), (3, .ref 112)]) (st' := [bI 0, .ref 112]) l234_1 (fun _ => rfl) ?_
  refine b_s (pc' := 3) (lv1 := [(0, .ref 1), (1, bI v1), (2, bI v2), (3, .ref 112)]) (st' := [.ref 1, bI 0, .ref 112]) l234_2 (fun _ => rfl) ?_
  refine b_s (pc' := 4) (lv1 := [(0, .ref 1), (1, bI v1), (2, bI v2), (3, .ref 112)]) (st' := [bI v1, .ref 1, bI 0, .ref 112]) l234_3 (fun _ => rfl) ?_
  refine b_s (pc' := 5) (lv1 := [(0, .ref 1), (1, bI v1), (2, bI v2), (3, .ref 112)]) (st' := [bI v2, bI v1, .ref 1, bI 0, .ref 112]) l234_4 (fun _ => rfl) ?_
  refine b_cCi l234_5 rfl (b_rc (ci := 8) (by rfl) (by decide) (by decide +kernel)) (Nat.le_of_ble_eq_true rfl) (Nat.le_of_ble_eq_true rfl) rfl (r_X10_child v1 h1 v2 h2) ⟨fun _ z => (by cases z), (by decide +kernel)⟩ ?_ fun w1 μ2 hw1 => bD.ok fun hk3 => b_pc (pc' := 8) rfl ?_
  · intro e μ6
    by_cases z0 : e = "java/lang/IndexOutOfBoundsException"
    · subst z0
      right
      refine ⟨13, 4, _, (fun μ6 => some (1, μ6)) μ6, by decide +kernel, l234_13, rfl, by decide, ?_, ?_⟩
      · refine bD.wk (lv' := []) bSn ?_
        have hr : ∀ r, bMc r = bMc r := fun _ => rfl
        refine bD.ok fun hk5 => b_pc (pc' := 15) rfl ?_
        refine b_s (pc' := 16) (lv1 := []) (st' := [bI 1]) l234_15 (fun _ => rfl) ?_
        exact b_reti l234_16 rfl (by decide) (hr _)
      · dsimp only
        rw [if_pos rfl]
        exact b_hz
    · left
      dsimp only
      rw [if_neg z0]
      rfl
  · refine b_i2l l234_8 hw1 (b_pc (pc' := 9) rfl ?_)
    refine b_las l234_9 (by rfl) (by decide) (bR_L hw1) (bD.ok fun hk4 => b_pc (pc' := 10) rfl ?_)
    refine b_s (pc' := 17) (lv1 := [(0, .ref 1), (1, bI v1), (2, bI v2), (3, .ref 112)]) (st' := []) l234_10 (fun _ => rfl) ?_
    refine b_s (pc' := 18) (lv1 := [(0, .ref 1), (1, bI v1), (2, bI v2), (3, .ref 112)]) (st' := [bI 0]) l234_17 (fun _ => rfl) ?_
    exact b_reti l234_18 rfl (by decide) (hr _)
/-! ETLaw.root -/
theorem l235_0 : (ax_dt (ax_T 235)).lookup 0 = some (.aload_n 2, 1, 0, 0, 0) := by decide +kernel
theorem l235_1 : (ax_dt (ax_T 235)).lookup 1 = some (.iconst 0, 1, 0, 0, 0) := by decide +kernel
theorem l235_2 : (ax_dt (ax_T 235)).lookup 2 = some (.aload_n 0, 1, 0, 0, 0) := by decide +kernel
theorem l235_3 : (ax_dt (ax_T 235)).lookup 3 = some (.iload_n 1, 1, 0, 0, 0) := by decide +kernel
theorem l235_4 : (ax_dt (ax_T 235)).lookup 4 = some (.invokevirtual 69, 3, 110, 1, 0) := by decide +kernel
theorem l235_7 : (ax_dt (ax_T 235)).lookup 7 = some (.i2l, 1, 0, 0, 0) := by decide +kernel
theorem l235_8 : (ax_dt (ax_T 235)).lookup 8 = some (.lastore, 1, 0, 0, 0) := by decide +kernel
theorem l235_9 : (ax_dt (ax_T 235)).lookup 9 = some (.goto 6, 3, 0, 0, 0) := by decide +kernel
theorem l235_12 : (ax_dt (ax_T 235)).lookup 12 = some (.astore_n 3, 1, 0, 0, 0) := by decide +kernel
theorem l235_13 : (ax_dt (ax_T 235)).lookup 13 = some (.iconst 1, 1, 0, 0, 0) := by decide +kernel
theorem l235_14 : (ax_dt (ax_T 235)).lookup 14 = some (.ireturn, 1, 0, 0, 0) := by decide +kernel
theorem l235_15 : (ax_dt (ax_T 235)).lookup 15 = some (.iconst 0, 1, 0, 0, 0) := by decide +kernel
theorem l235_16 : (ax_dt (ax_T 235)).lookup 16 = some (.ireturn, 1, 0, 0, 0) := by decide +kernel
noncomputable def F_L_root (v1 : Int) (μ : bM) : Option (Int × bM × Nat) := bXm (F_X10_root v1 μ) (fun w1 μ2 => some (0, (bset μ2 112 0 w1), 0)) (fun e μ => if e = "java/lang/IndexOutOfBoundsException" then ((fun μ6 => some (1, μ6)) μ).bind (fun r => some (r.1, r.2, 1)) else none)
theorem r_L_root {L : Nat} {xs : Nat → Int32} {d : Nat} {μ : bM}  (v1 : Int) (h1 : bR v1) : bD L xs (d + 1) 235 0 [(0, .ref 1), (1, bI v1), (2, .ref 112)] [] μ ((F_L_root v1 μ).bind (bCc)) := by
  have hr : ∀ r, (bCc) r = (bCc) r := fun _ => rfl
  unfold F_L_root
  refine bD.ok fun hk => ?_
  refine b_s (pc' := 1) (lv1 := [(0, .ref 1), (1, bI v1), (2, .ref 112)]) (st' := [.ref 112]) l235_0 (fun _ => rfl) ?_
  refine b_s (pc' := 2) (lv1 := [(0, .ref 1), (1, bI v1), (2, .ref 112)]) (st' := [bI 0, .ref 112]) l235_1 (fun _ => rfl) ?_
  refine b_s (pc' := 3) (lv1 := [(0, .ref 1), (1, bI v1), (2, .ref 112)]) (st' := [.ref 1, bI 0, .ref 112]) l235_2 (fun _ => rfl) ?_
  refine b_s (pc' := 4) (lv1 := [(0, .ref 1), (1, bI v1), (2, .ref 112)]) (st' := [bI v1, .ref 1, bI 0, .ref 112]) l235_3 (fun _ => rfl) ?_
  refine b_cCi l235_4 rfl (b_rc (ci := 8) (by rfl) (by decide) (by decide +kernel)) (Nat.le_of_ble_eq_true rfl) (Nat.le_of_ble_eq_true rfl) rfl (r_X10_root v1 h1) ⟨fun _ z => (by cases z), (by decide +kernel)⟩ ?_ fun w1 μ2 hw1 => bD.ok fun hk3 => b_pc (pc' := 7) rfl ?_
  · intro e μ6
    by_cases z0 : e = "java/lang/IndexOutOfBoundsException"
    · subst z0
      right
      refine ⟨12, 3, _, (fun μ6 => some (1, μ6)) μ6, by decide +kernel, l235_12, rfl, by decide, ?_, ?_⟩
      · refine bD.wk (lv' := []) bSn ?_
        have hr : ∀ r, bMc r = bMc r := fun _ => rfl
        refine bD.ok fun hk5 => b_pc (pc' := 13) rfl ?_
        refine b_s (pc' := 14) (lv1 := []) (st' := [bI 1]) l235_13 (fun _ => rfl) ?_
        exact b_reti l235_14 rfl (by decide) (hr _)
      · dsimp only
        rw [if_pos rfl]
        exact b_hz
    · left
      dsimp only
      rw [if_neg z0]
      rfl
  · refine b_i2l l235_7 hw1 (b_pc (pc' := 8) rfl ?_)
    refine b_las l235_8 (by rfl) (by decide) (bR_L hw1) (bD.ok fun hk4 => b_pc (pc' := 9) rfl ?_)
    refine b_s (pc' := 15) (lv1 := [(0, .ref 1), (1, bI v1), (2, .ref 112)]) (st' := []) l235_9 (fun _ => rfl) ?_
    refine b_s (pc' := 16) (lv1 := [(0, .ref 1), (1, bI v1), (2, .ref 112)]) (st' := [bI 0]) l235_15 (fun _ => rfl) ?_
    exact b_reti l235_16 rfl (by decide) (hr _)
/-! ETLaw.attribute -/
theorem l236_0 : (ax_dt (ax_T 236)).lookup 0 = some (.aload 4, 2, 0, 0, 0) := by decide +kernel
theorem l236_2 : (ax_dt (ax_T 236)).lookup 2 = some (.iconst 0, 1, 0, 0, 0) := by decide +kernel
theorem l236_3 : (ax_dt (ax_T 236)).lookup 3 = some (.aload_n 0, 1, 0, 0, 0) := by decide +kernel
theorem l236_4 : (ax_dt (ax_T 236)).lookup 4 = some (.iload_n 1, 1, 0, 0, 0) := by decide +kernel
theorem l236_5 : (ax_dt (ax_T 236)).lookup 5 = some (.iload_n 2, 1, 0, 0, 0) := by decide +kernel
theorem l236_6 : (ax_dt (ax_T 236)).lookup 6 = some (.iload_n 3, 1, 0, 0, 0) := by decide +kernel
theorem l236_7 : (ax_dt (ax_T 236)).lookup 7 = some (.invokevirtual 72, 3, 111, 3, 0) := by decide +kernel
theorem l236_10 : (ax_dt (ax_T 236)).lookup 10 = some (.i2l, 1, 0, 0, 0) := by decide +kernel
theorem l236_11 : (ax_dt (ax_T 236)).lookup 11 = some (.lastore, 1, 0, 0, 0) := by decide +kernel
theorem l236_12 : (ax_dt (ax_T 236)).lookup 12 = some (.goto 7, 3, 0, 0, 0) := by decide +kernel
theorem l236_15 : (ax_dt (ax_T 236)).lookup 15 = some (.astore 5, 2, 0, 0, 0) := by decide +kernel
theorem l236_17 : (ax_dt (ax_T 236)).lookup 17 = some (.iconst 1, 1, 0, 0, 0) := by decide +kernel
theorem l236_18 : (ax_dt (ax_T 236)).lookup 18 = some (.ireturn, 1, 0, 0, 0) := by decide +kernel
theorem l236_19 : (ax_dt (ax_T 236)).lookup 19 = some (.iconst 0, 1, 0, 0, 0) := by decide +kernel
theorem l236_20 : (ax_dt (ax_T 236)).lookup 20 = some (.ireturn, 1, 0, 0, 0) := by decide +kernel
noncomputable def F_L_attribute (v1 : Int) (v2 : Int) (v3 : Int) (μ : bM) : Option (Int × bM × Nat) := bXm (F_X10_attribute v1 v2 v3 μ) (fun w1 μ2 => some (0, (bset μ2 112 0 w1), 0)) (fun e μ => if e = "java/lang/IndexOutOfBoundsException" then ((fun μ6 => some (1, μ6)) μ).bind (fun r => some (r.1, r.2, 1)) else none)
theorem r_L_attribute {L : Nat} {xs : Nat → Int32} {d : Nat} {μ : bM}  (v1 : Int) (h1 : bR v1) (v2 : Int) (h2 : bR v2) (v3 : Int) (h3 : bR v3) : bD L xs (d + 3) 236 0 [(0, .ref 1), (1, bI v1), (2, bI v2), (3, bI v3), (4, .ref 112)] [] μ ((F_L_attribute v1 v2 v3 μ).bind (bCc)) := by
  have hr : ∀ r, (bCc) r = (bCc) r := fun _ => rfl
  unfold F_L_attribute
  refine bD.ok fun hk => ?_
  refine b_s (pc' := 2) (lv1 := [(0, .ref 1), (1, bI v1), (2, bI v2), (3, bI v3), (4, .ref 112)]) (st' := [.ref 112]) l236_0 (fun _ => rfl) ?_
  refine b_s (pc' := 3) (lv1 := [(0, .ref 1), (1, bI v1), (2, bI v2), (3, bI v3), (4, .ref 112)]) (st' := [bI 0, .ref 112]) l236_2 (fun _ => rfl) ?_
  refine b_s (pc' := 4) (lv1 := [(0, .ref 1), (1, bI v1), (2, bI v2), (3, bI v3), (4, .ref 112)]) (st' := [.ref 1, bI 0, .ref 112]) l236_3 (fun _ => rfl) ?_
  refine b_s (pc' := 5) (lv1 := [(0, .ref 1), (1, bI v1), (2, bI v2), (3, bI v3), (4, .ref 112)]) (st' := [bI v1, .ref 1, bI 0, .ref 112]) l236_4 (fun _ => rfl) ?_
  refine b_s (pc' := 6) (lv1 := [(0, .ref 1), (1, bI v1), (2, bI v2), (3, bI v3), (4, .ref 112)]) (st' := [bI v2, bI v1, .ref 1, bI 0, .ref 112]) l236_5 (fun _ => rfl) ?_
  refine b_s (pc' := 7) (lv1 := [(0, .ref 1), (1, bI v1), (2, bI v2), (3, bI v3), (4, .ref 112)]) (st' := [bI v3, bI v2, bI v1, .ref 1, bI 0, .ref 112]) l236_6 (fun _ => rfl) ?_
  refine b_cCi l236_7 rfl (b_rc (ci := 8) (by rfl) (by decide) (by decide +kernel)) (Nat.le_of_ble_eq_true rfl) (Nat.le_of_ble_eq_true rfl) rfl (r_X10_attribute v1 h1 v2 h2 v3 h3) ⟨fun _ z => (by cases z), (by decide +kernel)⟩ ?_ fun w1 μ2 hw1 => bD.ok fun hk3 => b_pc (pc' := 10) rfl ?_
  · intro e μ6
    by_cases z0 : e = "java/lang/IndexOutOfBoundsException"
    · subst z0
      right
      refine ⟨15, 5, _, (fun μ6 => some (1, μ6)) μ6, by decide +kernel, l236_15, rfl, by decide, ?_, ?_⟩
      · refine bD.wk (lv' := []) bSn ?_
        have hr : ∀ r, bMc r = bMc r := fun _ => rfl
        refine bD.ok fun hk5 => b_pc (pc' := 17) rfl ?_
        refine b_s (pc' := 18) (lv1 := []) (st' := [bI 1]) l236_17 (fun _ => rfl) ?_
        exact b_reti l236_18 rfl (by decide) (hr _)
      · dsimp only
        rw [if_pos rfl]
        exact b_hz
    · left
      dsimp only
      rw [if_neg z0]
      rfl
  · refine b_i2l l236_10 hw1 (b_pc (pc' := 11) rfl ?_)
    refine b_las l236_11 (by rfl) (by decide) (bR_L hw1) (bD.ok fun hk4 => b_pc (pc' := 12) rfl ?_)
    refine b_s (pc' := 19) (lv1 := [(0, .ref 1), (1, bI v1), (2, bI v2), (3, bI v3), (4, .ref 112)]) (st' := []) l236_12 (fun _ => rfl) ?_
    refine b_s (pc' := 20) (lv1 := [(0, .ref 1), (1, bI v1), (2, bI v2), (3, bI v3), (4, .ref 112)]) (st' := [bI 0]) l236_19 (fun _ => rfl) ?_
    exact b_reti l236_20 rfl (by decide) (hr _)
/-! ETLaw.value -/
theorem l237_0 : (ax_dt (ax_T 237)).lookup 0 = some (.aload_n 3, 1, 0, 0, 0) := by decide +kernel
theorem l237_1 : (ax_dt (ax_T 237)).lookup 1 = some (.iconst 0, 1, 0, 0, 0) := by decide +kernel
theorem l237_2 : (ax_dt (ax_T 237)).lookup 2 = some (.aload_n 0, 1, 0, 0, 0) := by decide +kernel
theorem l237_3 : (ax_dt (ax_T 237)).lookup 3 = some (.iload_n 1, 1, 0, 0, 0) := by decide +kernel
theorem l237_4 : (ax_dt (ax_T 237)).lookup 4 = some (.iload_n 2, 1, 0, 0, 0) := by decide +kernel
theorem l237_5 : (ax_dt (ax_T 237)).lookup 5 = some (.invokevirtual 75, 3, 112, 2, 0) := by decide +kernel
theorem l237_8 : (ax_dt (ax_T 237)).lookup 8 = some (.lastore, 1, 0, 0, 0) := by decide +kernel
theorem l237_9 : (ax_dt (ax_T 237)).lookup 9 = some (.goto 7, 3, 0, 0, 0) := by decide +kernel
theorem l237_12 : (ax_dt (ax_T 237)).lookup 12 = some (.astore 4, 2, 0, 0, 0) := by decide +kernel
theorem l237_14 : (ax_dt (ax_T 237)).lookup 14 = some (.iconst 1, 1, 0, 0, 0) := by decide +kernel
theorem l237_15 : (ax_dt (ax_T 237)).lookup 15 = some (.ireturn, 1, 0, 0, 0) := by decide +kernel
theorem l237_16 : (ax_dt (ax_T 237)).lookup 16 = some (.iconst 0, 1, 0, 0, 0) := by decide +kernel
theorem l237_17 : (ax_dt (ax_T 237)).lookup 17 = some (.ireturn, 1, 0, 0, 0) := by decide +kernel
noncomputable def F_L_value (v1 : Int) (v2 : Int) (μ : bM) : Option (Int × bM × Nat) := bXm (F_X10_value v1 v2 μ) (fun w1 μ2 => some (0, (bset μ2 112 0 w1), 0)) (fun e μ => if e = "java/lang/IndexOutOfBoundsException" then ((fun μ6 => some (1, μ6)) μ).bind (fun r => some (r.1, r.2, 1)) else none)
theorem r_L_value {L : Nat} {xs : Nat → Int32} {d : Nat} {μ : bM}  (v1 : Int) (h1 : bR v1) (v2 : Int) (h2 : bR v2) : bD L xs (d + 3) 237 0 [(0, .ref 1), (1, bI v1), (2, bI v2), (3, .ref 112)] [] μ ((F_L_value v1 v2 μ).bind (bCc)) := by
  have hr : ∀ r, (bCc) r = (bCc) r := fun _ => rfl
  unfold F_L_value
  refine bD.ok fun hk => ?_
  refine b_s (pc' := 1) (lv1 := [(0, .ref 1), (1, bI v1), (2, bI v2), (3, .ref 112)]) (st' := [.ref 112]) l237_0 (fun _ => rfl) ?_
  refine b_s (pc' := 2) (lv1 := [(0, .ref 1), (1, bI v1), (2, bI v2), (3, .ref 112)]) (st' := [bI 0, .ref 112]) l237_1 (fun _ => rfl) ?_
  refine b_s (pc' := 3) (lv1 := [(0, .ref 1), (1, bI v1), (2, bI v2), (3, .ref 112)]) (st' := [.ref 1, bI 0, .ref 112]) l237_2 (fun _ => rfl) ?_
  refine b_s (pc' := 4) (lv1 := [(0, .ref 1), (1, bI v1), (2, bI v2), (3, .ref 112)]) (st' := [bI v1, .ref 1, bI 0, .ref 112]) l237_3 (fun _ => rfl) ?_
  refine b_s (pc' := 5) (lv1 := [(0, .ref 1), (1, bI v1), (2, bI v2), (3, .ref 112)]) (st' := [bI v2, bI v1, .ref 1, bI 0, .ref 112]) l237_4 (fun _ => rfl) ?_
  refine b_cCl l237_5 rfl (b_rc (ci := 8) (by rfl) (by decide) (by decide +kernel)) (Nat.le_of_ble_eq_true rfl) (Nat.le_of_ble_eq_true rfl) rfl (r_X10_value v1 h1 v2 h2) ⟨fun _ z => (by cases z), (by decide +kernel)⟩ ?_ fun w1 μ2 hw1 => bD.ok fun hk3 => b_pc (pc' := 8) rfl ?_
  · intro e μ6
    by_cases z0 : e = "java/lang/IndexOutOfBoundsException"
    · subst z0
      right
      refine ⟨12, 4, _, (fun μ6 => some (1, μ6)) μ6, by decide +kernel, l237_12, rfl, by decide, ?_, ?_⟩
      · refine bD.wk (lv' := []) bSn ?_
        have hr : ∀ r, bMc r = bMc r := fun _ => rfl
        refine bD.ok fun hk5 => b_pc (pc' := 14) rfl ?_
        refine b_s (pc' := 15) (lv1 := []) (st' := [bI 1]) l237_14 (fun _ => rfl) ?_
        exact b_reti l237_15 rfl (by decide) (hr _)
      · dsimp only
        rw [if_pos rfl]
        exact b_hz
    · left
      dsimp only
      rw [if_neg z0]
      rfl
  · refine b_las l237_8 (by rfl) (by decide) hw1 (bD.ok fun hk4 => b_pc (pc' := 9) rfl ?_)
    refine b_s (pc' := 16) (lv1 := [(0, .ref 1), (1, bI v1), (2, bI v2), (3, .ref 112)]) (st' := []) l237_9 (fun _ => rfl) ?_
    refine b_s (pc' := 17) (lv1 := [(0, .ref 1), (1, bI v1), (2, bI v2), (3, .ref 112)]) (st' := [bI 0]) l237_16 (fun _ => rfl) ?_
    exact b_reti l237_17 rfl (by decide) (hr _)
/-! ETLaw.letter -/
theorem l238_0 : (ax_dt (ax_T 238)).lookup 0 = some (.aload 4, 2, 0, 0, 0) := by decide +kernel
theorem l238_2 : (ax_dt (ax_T 238)).lookup 2 = some (.iconst 0, 1, 0, 0, 0) := by decide +kernel
theorem l238_3 : (ax_dt (ax_T 238)).lookup 3 = some (.aload_n 0, 1, 0, 0, 0) := by decide +kernel
theorem l238_4 : (ax_dt (ax_T 238)).lookup 4 = some (.iload_n 1, 1, 0, 0, 0) := by decide +kernel
theorem l238_5 : (ax_dt (ax_T 238)).lookup 5 = some (.iload_n 2, 1, 0, 0, 0) := by decide +kernel
theorem l238_6 : (ax_dt (ax_T 238)).lookup 6 = some (.iload_n 3, 1, 0, 0, 0) := by decide +kernel
theorem l238_7 : (ax_dt (ax_T 238)).lookup 7 = some (.invokevirtual 79, 3, 113, 3, 0) := by decide +kernel
theorem l238_10 : (ax_dt (ax_T 238)).lookup 10 = some (.i2l, 1, 0, 0, 0) := by decide +kernel
theorem l238_11 : (ax_dt (ax_T 238)).lookup 11 = some (.lastore, 1, 0, 0, 0) := by decide +kernel
theorem l238_12 : (ax_dt (ax_T 238)).lookup 12 = some (.goto 7, 3, 0, 0, 0) := by decide +kernel
theorem l238_15 : (ax_dt (ax_T 238)).lookup 15 = some (.astore 5, 2, 0, 0, 0) := by decide +kernel
theorem l238_17 : (ax_dt (ax_T 238)).lookup 17 = some (.iconst 1, 1, 0, 0, 0) := by decide +kernel
theorem l238_18 : (ax_dt (ax_T 238)).lookup 18 = some (.ireturn, 1, 0, 0, 0) := by decide +kernel
theorem l238_19 : (ax_dt (ax_T 238)).lookup 19 = some (.iconst 0, 1, 0, 0, 0) := by decide +kernel
theorem l238_20 : (ax_dt (ax_T 238)).lookup 20 = some (.ireturn, 1, 0, 0, 0) := by decide +kernel
noncomputable def F_L_letter (v1 : Int) (v2 : Int) (v3 : Int) (μ : bM) : Option (Int × bM × Nat) := bXm (F_X10_letter v1 v2 v3 μ) (fun w1 μ2 => some (0, (bset μ2 112 0 w1), 0)) (fun e μ => if e = "java/lang/IndexOutOfBoundsException" then ((fun μ6 => some (1, μ6)) μ).bind (fun r => some (r.1, r.2, 1)) else none)
theorem r_L_letter {L : Nat} {xs : Nat → Int32} {d : Nat} {μ : bM}  (v1 : Int) (h1 : bR v1) (v2 : Int) (h2 : bR v2) (v3 : Int) (h3 : bR v3) : bD L xs (d + 3) 238 0 [(0, .ref 1), (1, bI v1), (2, bI v2), (3, bI v3), (4, .ref 112)] [] μ ((F_L_letter v1 v2 v3 μ).bind (bCc)) := by
  have hr : ∀ r, (bCc) r = (bCc) r := fun _ => rfl
  unfold F_L_letter
  refine bD.ok fun hk => ?_
  refine b_s (pc' := 2) (lv1 := [(0, .ref 1), (1, bI v1), (2, bI v2), (3, bI v3), (4, .ref 112)]) (st' := [.ref 112]) l238_0 (fun _ => rfl) ?_
  refine b_s (pc' := 3) (lv1 := [(0, .ref 1), (1, bI v1), (2, bI v2), (3, bI v3), (4, .ref 112)]) (st' := [bI 0, .ref 112]) l238_2 (fun _ => rfl) ?_
  refine b_s (pc' := 4) (lv1 := [(0, .ref 1), (1, bI v1), (2, bI v2), (3, bI v3), (4, .ref 112)]) (st' := [.ref 1, bI 0, .ref 112]) l238_3 (fun _ => rfl) ?_
  refine b_s (pc' := 5) (lv1 := [(0, .ref 1), (1, bI v1), (2, bI v2), (3, bI v3), (4, .ref 112)]) (st' := [bI v1, .ref 1, bI 0, .ref 112]) l238_4 (fun _ => rfl) ?_
  refine b_s (pc' := 6) (lv1 := [(0, .ref 1), (1, bI v1), (2, bI v2), (3, bI v3), (4, .ref 112)]) (st' := [bI v2, bI v1, .ref 1, bI 0, .ref 112]) l238_5 (fun _ => rfl) ?_
  refine b_s (pc' := 7) (lv1 := [(0, .ref 1), (1, bI v1), (2, bI v2), (3, bI v3), (4, .ref 112)]) (st' := [bI v3, bI v2, bI v1, .ref 1, bI 0, .ref 112]) l238_6 (fun _ => rfl) ?_
  refine b_cCi l238_7 rfl (b_rc (ci := 8) (by rfl) (by decide) (by decide +kernel)) (Nat.le_of_ble_eq_true rfl) (Nat.le_of_ble_eq_true rfl) rfl (r_X10_letter v1 h1 v2 h2 v3 h3) ⟨fun _ z => (by cases z), (by decide +kernel)⟩ ?_ fun w1 μ2 hw1 => bD.ok fun hk3 => b_pc (pc' := 10) rfl ?_
  · intro e μ6
    by_cases z0 : e = "java/lang/IndexOutOfBoundsException"
    · subst z0
      right
      refine ⟨15, 5, _, (fun μ6 => some (1, μ6)) μ6, by decide +kernel, l238_15, rfl, by decide, ?_, ?_⟩
      · refine bD.wk (lv' := []) bSn ?_
        have hr : ∀ r, bMc r = bMc r := fun _ => rfl
        refine bD.ok fun hk5 => b_pc (pc' := 17) rfl ?_
        refine b_s (pc' := 18) (lv1 := []) (st' := [bI 1]) l238_17 (fun _ => rfl) ?_
        exact b_reti l238_18 rfl (by decide) (hr _)
      · dsimp only
        rw [if_pos rfl]
        exact b_hz
    · left
      dsimp only
      rw [if_neg z0]
      rfl
  · refine b_i2l l238_10 hw1 (b_pc (pc' := 11) rfl ?_)
    refine b_las l238_11 (by rfl) (by decide) (bR_L hw1) (bD.ok fun hk4 => b_pc (pc' := 12) rfl ?_)
    refine b_s (pc' := 19) (lv1 := [(0, .ref 1), (1, bI v1), (2, bI v2), (3, bI v3), (4, .ref 112)]) (st' := []) l238_12 (fun _ => rfl) ?_
    refine b_s (pc' := 20) (lv1 := [(0, .ref 1), (1, bI v1), (2, bI v2), (3, bI v3), (4, .ref 112)]) (st' := [bI 0]) l238_19 (fun _ => rfl) ?_
    exact b_reti l238_20 rfl (by decide) (hr _)
/-! ETLaw.find -/
theorem l239_0 : (ax_dt (ax_T 239)).lookup 0 = some (.aload_n 2, 1, 0, 0, 0) := by decide +kernel
theorem l239_1 : (ax_dt (ax_T 239)).lookup 1 = some (.iconst 0, 1, 0, 0, 0) := by decide +kernel
theorem l239_2 : (ax_dt (ax_T 239)).lookup 2 = some (.aload_n 0, 1, 0, 0, 0) := by decide +kernel
theorem l239_3 : (ax_dt (ax_T 239)).lookup 3 = some (.iload_n 1, 1, 0, 0, 0) := by decide +kernel
theorem l239_4 : (ax_dt (ax_T 239)).lookup 4 = some (.invokevirtual 82, 3, 114, 1, 0) := by decide +kernel
theorem l239_7 : (ax_dt (ax_T 239)).lookup 7 = some (.i2l, 1, 0, 0, 0) := by decide +kernel
theorem l239_8 : (ax_dt (ax_T 239)).lookup 8 = some (.lastore, 1, 0, 0, 0) := by decide +kernel
theorem l239_9 : (ax_dt (ax_T 239)).lookup 9 = some (.goto 6, 3, 0, 0, 0) := by decide +kernel
theorem l239_12 : (ax_dt (ax_T 239)).lookup 12 = some (.astore_n 3, 1, 0, 0, 0) := by decide +kernel
theorem l239_13 : (ax_dt (ax_T 239)).lookup 13 = some (.iconst 1, 1, 0, 0, 0) := by decide +kernel
theorem l239_14 : (ax_dt (ax_T 239)).lookup 14 = some (.ireturn, 1, 0, 0, 0) := by decide +kernel
theorem l239_15 : (ax_dt (ax_T 239)).lookup 15 = some (.iconst 0, 1, 0, 0, 0) := by decide +kernel
theorem l239_16 : (ax_dt (ax_T 239)).lookup 16 = some (.ireturn, 1, 0, 0, 0) := by decide +kernel
noncomputable def F_L_find (v1 : Int) (μ : bM) : Option (Int × bM × Nat) := bXm (F_X10_find v1 μ) (fun w1 μ2 => some (0, (bset μ2 112 0 w1), 0)) (fun e μ => if e = "java/lang/IndexOutOfBoundsException" then ((fun μ6 => some (1, μ6)) μ).bind (fun r => some (r.1, r.2, 1)) else none)
theorem r_L_find {L : Nat} {xs : Nat → Int32} {d : Nat} {μ : bM}  (v1 : Int) (h1 : bR v1) : bD L xs (d + 5) 239 0 [(0, .ref 1), (1, bI v1), (2, .ref 112)] [] μ ((F_L_find v1 μ).bind (bCc)) := by
  have hr : ∀ r, (bCc) r = (bCc) r := fun _ => rfl
  unfold F_L_find
  refine bD.ok fun hk => ?_
  refine b_s (pc' := 1) (lv1 := [(0, .ref 1), (1, bI v1), (2, .ref 112)]) (st' := [.ref 112]) l239_0 (fun _ => rfl) ?_
  refine b_s (pc' := 2) (lv1 := [(0, .ref 1), (1, bI v1), (2, .ref 112)]) (st' := [bI 0, .ref 112]) l239_1 (fun _ => rfl) ?_
  refine b_s (pc' := 3) (lv1 := [(0, .ref 1), (1, bI v1), (2, .ref 112)]) (st' := [.ref 1, bI 0, .ref 112]) l239_2 (fun _ => rfl) ?_
  refine b_s (pc' := 4) (lv1 := [(0, .ref 1), (1, bI v1), (2, .ref 112)]) (st' := [bI v1, .ref 1, bI 0, .ref 112]) l239_3 (fun _ => rfl) ?_
  refine b_cCi l239_4 rfl (b_rc (ci := 8) (by rfl) (by decide) (by decide +kernel)) (Nat.le_of_ble_eq_true rfl) (Nat.le_of_ble_eq_true rfl) rfl (r_X10_find v1 h1) ⟨fun _ z => (by cases z), (by decide +kernel)⟩ ?_ fun w1 μ2 hw1 => bD.ok fun hk3 => b_pc (pc' := 7) rfl ?_
  · intro e μ6
    by_cases z0 : e = "java/lang/IndexOutOfBoundsException"
    · subst z0
      right
      refine ⟨12, 3, _, (fun μ6 => some (1, μ6)) μ6, by decide +kernel, l239_12, rfl, by decide, ?_, ?_⟩
      · refine bD.wk (lv' := []) bSn ?_
        have hr : ∀ r, bMc r = bMc r := fun _ => rfl
        refine bD.ok fun hk5 => b_pc (pc' := 13) rfl ?_
        refine b_s (pc' := 14) (lv1 := []) (st' := [bI 1]) l239_13 (fun _ => rfl) ?_
        exact b_reti l239_14 rfl (by decide) (hr _)
      · dsimp only
        rw [if_pos rfl]
        exact b_hz
    · left
      dsimp only
      rw [if_neg z0]
      rfl
  · refine b_i2l l239_7 hw1 (b_pc (pc' := 8) rfl ?_)
    refine b_las l239_8 (by rfl) (by decide) (bR_L hw1) (bD.ok fun hk4 => b_pc (pc' := 9) rfl ?_)
    refine b_s (pc' := 15) (lv1 := [(0, .ref 1), (1, bI v1), (2, .ref 112)]) (st' := []) l239_9 (fun _ => rfl) ?_
    refine b_s (pc' := 16) (lv1 := [(0, .ref 1), (1, bI v1), (2, .ref 112)]) (st' := [bI 0]) l239_15 (fun _ => rfl) ?_
    exact b_reti l239_16 rfl (by decide) (hr _)
end
