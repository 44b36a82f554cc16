section CE
theorem en_start {L : Nat} {xs : Nat → Int32} {μf : bM} {c : Nat} (hc : c ≤ 512) (h : bD L xs 9 240 23 [(0, .ref 0), (1, .ref 1), (2, .ref 76), (3, .ref 112), (4, bI 0)] [] b0 (some (.inl 1, μf, c))) : en_Run L xs := by
  obtain ⟨-, -, hr⟩ := h b0_ok (.inl 1, μf, c) rfl
  have hr := hr true
  refine ⟨bH b0, (112, bH μf, if c = 0 then true else false), 112 + c, 422378 + 6 * c, ?_, by omega, by omega⟩
  refine d_new (pc' := 3) (c := 111 + c) (s := 422372 + 6 * c) l240_0 (by decide) rfl (by omega) (by show 6 + _ = _; omega) ?_
  refine c_s (pc' := 4) (lv1 := [(0, .ref 0)]) (st' := [.ref 1, .ref 1]) l240_3 (fun _ => rfl) ?_
  refine d_call (pc' := 7) (n' := 75) (c1 := 74) (s1 := 135887) (c := 37 + c) (s := 286485 + 6 * c) l240_4 rfl (fun _ => trivial) (Nat.le_of_ble_eq_true rfl) (Nat.le_of_ble_eq_true rfl) rfl (k_1 (d := 5) (fun y hy => up_ne (by omega)) up_at) rfl (by omega) (by omega) ?_
  refine c_eq (M' := (75, bH b0, true)) (by rw [c_done (show bH b0 1 = .inr (8, [.ref 2, .ref 4, .ref 6, .ref 13, .ref 30, .ref 61]) from rfl)]) rfl ?_
  refine c_s (pc' := 8) (lv1 := ax_st1 [(0, .ref 0)] 1 (.ref 1)) (st' := []) l240_7 (fun _ => rfl) ?_
  refine bRn.wk (lv' := [(0, .ref 0), (1, .ref 1)]) (bSub_mem (bSb rfl (bSb rfl bSn))) ?_
  refine d_new (pc' := 11) (c := 36 + c) (s := 286430 + 6 * c) l240_8 (by decide) rfl (by omega) (by show 55 + _ = _; omega) ?_
  refine c_s (pc' := 12) (lv1 := [(0, .ref 0), (1, .ref 1)]) (st' := [.ref 76, .ref 76]) l240_11 (fun _ => rfl) ?_
  refine d_call (pc' := 15) (n' := 111) (c1 := 35) (s1 := 286429) (c := 1 + c) (s := 1 + 6 * c) l240_12 rfl (fun _ => trivial) (Nat.le_of_ble_eq_true rfl) (Nat.le_of_ble_eq_true rfl) rfl (k_76 (d := 8) (fun y hy => up_ne (by omega)) up_at) rfl (by omega) (by omega) ?_
  refine c_eq (M' := (111, bH b0, true)) (by rw [c_done (show bH b0 76 = .inr (9, [.int 0, .ref 77, .int 0, .int 0, .ref 78, .ref 79, .ref 80, .ref 81, .ref 82, .ref 83, .ref 84, .ref 85, .ref 86, .ref 87, .ref 88, .ref 89, .ref 90, .ref 91, .ref 92, .ref 93, .ref 94, .int 0, .int 0, .int 0, .ref 95, .ref 96, .int 0, .ref 97, .ref 98, .int 0, .ref 99, .ref 100, .int 0, .ref 101, .ref 102, .ref 103, .int 0, .int 0, .int 0, .int 0, .int 0, .int 0, .int 0, .int 0, .ref 104, .ref 105, .ref 106, .ref 107, .ref 108, .ref 109, .ref 110, .ref 111, .int 0, .int 0, .long 0]) from rfl)]) rfl ?_
  refine c_s (pc' := 16) (lv1 := ax_st1 [(0, .ref 0), (1, .ref 1)] 2 (.ref 76)) (st' := []) l240_15 (fun _ => rfl) ?_
  refine bRn.wk (lv' := [(0, .ref 0), (1, .ref 1), (2, .ref 76)]) (bSub_mem (bSb rfl (bSb rfl (bSb rfl bSn)))) ?_
  refine c_v (pc' := 17) (w := bI ((1 : Nat) : Int)) (st' := []) l240_16 (fun _ => rfl) (congrArg Value.int (by decide)) ?_
  refine d_arr (pc' := 19) (m := 1) (q' := 112) (c := c) (s := 6 * c) l240_17 rfl (by decide) rfl rfl (b0_l (n := 1) rfl) rfl rfl ?_
  refine c_s (pc' := 20) (lv1 := ax_st1 [(0, .ref 0), (1, .ref 1), (2, .ref 76)] 3 (.ref 112)) (st' := []) l240_19 (fun _ => rfl) ?_
  refine c_s (pc' := 21) (lv1 := ax_st1 [(0, .ref 0), (1, .ref 1), (2, .ref 76)] 3 (.ref 112)) (st' := [bI 0]) l240_20 (fun _ => rfl) ?_
  refine c_s (pc' := 23) (lv1 := ax_st1 (ax_st1 [(0, .ref 0), (1, .ref 1), (2, .ref 76)] 3 (.ref 112)) 4 (bI 0)) (st' := []) l240_21 (fun _ => rfl) ?_
  refine bRn.wk (lv' := [(0, .ref 0), (1, .ref 1), (2, .ref 76), (3, .ref 112), (4, bI 0)]) (bSub_mem (bSb rfl (bSb rfl (bSb rfl (bSb rfl (bSb rfl bSn)))))) ?_
  exact hr
end CE
