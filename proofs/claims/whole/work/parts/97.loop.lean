section GI
/-! THE LAW'S LOOP: every call keeps the invariant, and the class answers as the model -/
theorem x32 (x : Int32) : bR x.toInt := by
  have h1 := Int32.le_toInt x
  have h2 := Int32.toInt_lt x
  constructor <;> omega
theorem xOr (a b : Int) : bRL (bOrL a b) := by
  unfold bOrL
  have h1 := Int64.le_toInt (Int64.ofInt a ||| Int64.ofInt b)
  have h2 := Int64.toInt_lt (Int64.ofInt a ||| Int64.ofInt b)
  constructor <;> omega
theorem Inv_b0 : Inv b0 := by
  have z : b0 61 1 = 0 := rfl
  have z0 : b0 61 0 = 0 := rfl
  refine ⟨b0_ok, ⟨rfl, by decide, by decide, fun k hk => ?_⟩, ⟨⟨rfl, by decide, by decide, fun k hk => ?_⟩, ⟨rfl, by decide, by decide, fun k hk => ?_⟩, ⟨rfl, by decide, by decide, fun k hk => ?_⟩⟩, ⟨rfl, rfl⟩, 61, 0, ⟨Or.inr ⟨rfl, rfl⟩, rfl, Or.inl rfl, rfl⟩, ⟨by rw [z]; omega, by rw [z0]; omega, rfl, rfl⟩, fun e he => ?_, fun u hu => ?_, fun e he => ?_, fun e he => ?_, ⟨rfl, by decide, by decide⟩, Or.inl rfl⟩
  · have : b0 2 1 = 0 := rfl
    omega
  · have : b0 7 1 = 0 := rfl
    omega
  · have : b0 9 1 = 0 := rfl
    omega
  · have : b0 11 1 = 0 := rfl
    omega
  · omega
  · omega
  · omega
  · omega
theorem law_loop {L : Nat} {xs : Nat → Int32} (hL : L ≤ 3072) : ∀ (d : Nat) (i : Int) (μ : bM), Inv μ → 0 ≤ i → i + 6 * (d : Int) ≤ (L : Int) → (L : Int) < i + 6 * (d : Int) + 6 → ∃ (μf : bM) (c : Nat), c ≤ d ∧ bD L xs 9 240 23 [(0, .ref 0), (1, .ref 1), (2, .ref 76), (3, .ref 112), (4, bI i)] [] μ (some (.inl 1, μf, c)) := by
  intro d
  induction d with
  | zero =>
    intro i μ h h0 h1 h2
    exact ⟨μ, 0, by omega, g_end hL (by omega)⟩
  | succ d ih =>
    intro i μ h h0 h1 h2
    have hi : 0 ≤ i ∧ i + 6 ≤ (L : Int) := by omega
    have go : ∀ μ2, Inv μ2 → ∃ (μf : bM) (c : Nat), c ≤ d ∧ bD L xs 9 240 23 [(0, .ref 0), (1, .ref 1), (2, .ref 76), (3, .ref 112), (4, bI (i + 6))] [] μ2 (some (.inl 1, μf, c)) := fun μ2 hμ => ih (i + 6) μ2 hμ (by omega) (by omega) (by omega)
    obtain ⟨v, hv⟩ : ∃ v, v = bAnd (xs i.toNat).toInt 31 := ⟨_, rfl⟩
    by_cases c0 : v = 0
    · obtain ⟨k, r, μ1, μ2, n1, e1, e2, e3, e4, e5, e6⟩ := st_feed h (x32 _) (x32 _) (x32 _) (x32 _) (x32 _)
      obtain ⟨μf, c, hc, hk⟩ := go μ2 e6
      exact ⟨μf, c + n1, by omega, g_0 hL hi (hv.symm.trans c0) e1 e3 e4 e5 hk⟩
    by_cases c1 : v = 1
    · obtain ⟨k, r, μ1, μ2, n1, e1, e2, e3, e4, e6⟩ := st_end h (x32 _)
      obtain ⟨μf, c, hc, hk⟩ := go μ2 e6
      exact ⟨μf, c + n1, by omega, g_1 hL hi (hv.symm.trans c1) e1 e3 e4 hk⟩
    by_cases c2 : v = 2
    · obtain ⟨k, r, μ1, μ2, n1, e1, e2, e3, e4, e5, e6⟩ := st_unit h (x32 _)
      obtain ⟨μf, c, hc, hk⟩ := go μ2 e6
      exact ⟨μf, c + n1, by omega, g_2 hL hi (hv.symm.trans c2) e1 e3 e4 e5 hk⟩
    by_cases c3 : v = 3
    · obtain ⟨k, r, μ1, μ2, n1, e1, e2, e3, e4, e5, e6⟩ := st_entry h (x32 _) (x32 _)
      obtain ⟨μf, c, hc, hk⟩ := go μ2 e6
      exact ⟨μf, c + n1, by omega, g_3 hL hi (hv.symm.trans c3) e1 e3 e4 e5 hk⟩
    by_cases c4 : v = 4
    · obtain ⟨k, r, μ1, μ2, n1, e1, e2, e3, e4, e5, e6⟩ := st_number h (x32 _) (x32 _) (x32 _) (xOr _ _)
      obtain ⟨μf, c, hc, hk⟩ := go μ2 e6
      exact ⟨μf, c + n1, by omega, g_4 hL hi (hv.symm.trans c4) e1 e3 e4 e5 hk⟩
    by_cases c5 : v = 5
    · obtain ⟨k, r, μ1, μ2, n1, e1, e2, e3, e4, e5, e6⟩ := st_bytes h (x32 _) (x32 _) (x32 _)
      obtain ⟨μf, c, hc, hk⟩ := go μ2 e6
      exact ⟨μf, c + n1, by omega, g_5 hL hi (hv.symm.trans c5) e1 e3 e4 e5 hk⟩
    by_cases c6 : v = 6
    · obtain ⟨k, r, μ1, μ2, n1, e1, e2, e3, e4, e5, e6⟩ := st_reference h (x32 _) (x32 _) (x32 _) (x32 _)
      obtain ⟨μf, c, hc, hk⟩ := go μ2 e6
      exact ⟨μf, c + n1, by omega, g_6 hL hi (hv.symm.trans c6) e1 e3 e4 e5 hk⟩
    by_cases c7 : v = 7
    · obtain ⟨k, μ1, μ2, e1, e3, e6⟩ := st_clear h
      obtain ⟨μf, c, hc, hk⟩ := go μ2 e6
      exact ⟨μf, c, by omega, g_7 (n1 := 0) hL hi (hv.symm.trans c7) e1 e3 rfl hk⟩
    by_cases c8 : v = 8
    · obtain ⟨k, μ1, μ2, e1, e3, e6⟩ := st_write h
      obtain ⟨μf, c, hc, hk⟩ := go μ2 e6
      exact ⟨μf, c, by omega, g_8 (n1 := 0) hL hi (hv.symm.trans c8) e1 e3 rfl hk⟩
    by_cases c9 : v = 9
    · obtain ⟨k, r, μ1, μ2, n1, e1, e2, e3, e4, e5, e6⟩ := st_size h (x32 _)
      obtain ⟨μf, c, hc, hk⟩ := go μ2 e6
      exact ⟨μf, c + n1, by omega, g_9 hL hi (hv.symm.trans c9) e1 e3 e4 e5 hk⟩
    by_cases c10 : v = 10
    · obtain ⟨k, r, μ1, μ2, n1, e1, e2, e3, e4, e5, e6⟩ := st_octet h (x32 _) (x32 _)
      obtain ⟨μf, c, hc, hk⟩ := go μ2 e6
      exact ⟨μf, c + n1, by omega, g_10 hL hi (hv.symm.trans c10) e1 e3 e4 e5 hk⟩
    by_cases c11 : v = 11
    · obtain ⟨k, r, μ1, μ2, n1, e1, e2, e3, e4, e5, e6⟩ := st_load h (x32 _)
      obtain ⟨μf, c, hc, hk⟩ := go μ2 e6
      exact ⟨μf, c + n1, by omega, g_11 hL hi (hv.symm.trans c11) e1 e3 e4 e5 hk⟩
    by_cases c12 : v = 12
    · obtain ⟨k, r, μ1, μ2, n1, e1, e2, e3, e4, e5, e6⟩ := st_alter h (x32 _) (x32 _) (x32 _)
      obtain ⟨μf, c, hc, hk⟩ := go μ2 e6
      exact ⟨μf, c + n1, by omega, g_12 hL hi (hv.symm.trans c12) e1 e3 e4 e5 hk⟩
    by_cases c13 : v = 13
    · obtain ⟨k, μ1, μ2, n1, e1, e2, e3, e6⟩ := st_read h
      obtain ⟨μf, c, hc, hk⟩ := go μ2 e6
      exact ⟨μf, c + n1, by omega, g_13 hL hi (hv.symm.trans c13) e1 e3 rfl hk⟩
    by_cases c14 : v = 14
    · obtain ⟨k, r, μ1, μ2, n1, e1, e2, e3, e4, e5, e6⟩ := st_fault h (x32 _)
      obtain ⟨μf, c, hc, hk⟩ := go μ2 e6
      exact ⟨μf, c + n1, by omega, g_14 hL hi (hv.symm.trans c14) e1 e3 e4 e5 hk⟩
    by_cases c15 : v = 15
    · obtain ⟨k, r, μ1, μ2, n1, e1, e2, e3, e4, e5, e6⟩ := st_count h (x32 _)
      obtain ⟨μf, c, hc, hk⟩ := go μ2 e6
      exact ⟨μf, c + n1, by omega, g_15 hL hi (hv.symm.trans c15) e1 e3 e4 e5 hk⟩
    by_cases c16 : v = 16
    · obtain ⟨k, r, μ1, μ2, n1, e1, e2, e3, e4, e5, e6⟩ := st_about h (x32 _) (x32 _)
      obtain ⟨μf, c, hc, hk⟩ := go μ2 e6
      exact ⟨μf, c + n1, by omega, g_16 hL hi (hv.symm.trans c16) e1 e3 e4 e5 hk⟩
    by_cases c17 : v = 17
    · obtain ⟨k, r, μ1, μ2, n1, e1, e2, e3, e4, e5, e6⟩ := st_child h (x32 _) (x32 _)
      obtain ⟨μf, c, hc, hk⟩ := go μ2 e6
      exact ⟨μf, c + n1, by omega, g_17 hL hi (hv.symm.trans c17) e1 e3 e4 e5 hk⟩
    by_cases c18 : v = 18
    · obtain ⟨k, r, μ1, μ2, n1, e1, e2, e3, e4, e5, e6⟩ := st_root h (x32 _)
      obtain ⟨μf, c, hc, hk⟩ := go μ2 e6
      exact ⟨μf, c + n1, by omega, g_18 hL hi (hv.symm.trans c18) e1 e3 e4 e5 hk⟩
    by_cases c19 : v = 19
    · obtain ⟨k, r, μ1, μ2, n1, e1, e2, e3, e4, e5, e6⟩ := st_attribute h (x32 _) (x32 _) (x32 _)
      obtain ⟨μf, c, hc, hk⟩ := go μ2 e6
      exact ⟨μf, c + n1, by omega, g_19 hL hi (hv.symm.trans c19) e1 e3 e4 e5 hk⟩
    by_cases c20 : v = 20
    · obtain ⟨k, r, μ1, μ2, n1, e1, e2, e3, e4, e5, e6⟩ := st_value h (x32 _) (x32 _)
      obtain ⟨μf, c, hc, hk⟩ := go μ2 e6
      exact ⟨μf, c + n1, by omega, g_20 hL hi (hv.symm.trans c20) e1 e3 e4 e5 hk⟩
    by_cases c21 : v = 21
    · obtain ⟨k, r, μ1, μ2, n1, e1, e2, e3, e4, e5, e6⟩ := st_letter h (x32 _) (x32 _) (x32 _)
      obtain ⟨μf, c, hc, hk⟩ := go μ2 e6
      exact ⟨μf, c + n1, by omega, g_21 hL hi (hv.symm.trans c21) e1 e3 e4 e5 hk⟩
    by_cases c22 : v = 22
    · obtain ⟨k, r, μ1, μ2, n1, e1, e2, e3, e4, e5, e6⟩ := st_find h (x32 _)
      obtain ⟨μf, c, hc, hk⟩ := go μ2 e6
      exact ⟨μf, c + n1, by omega, g_22 hL hi (hv.symm.trans c22) e1 e3 e4 e5 hk⟩
    by_cases c23 : v = 23
    · obtain ⟨k, μ2, e1, e3, e6⟩ := st_covers h (xOr _ _)
      obtain ⟨μf, c, hc, hk⟩ := go μ2 e6
      exact ⟨μf, c, by omega, g_23 (n1 := 0) hL hi (hv.symm.trans c23) e1 e3 rfl hk⟩
    · obtain ⟨μf, c, hc, hk⟩ := go μ h
      refine ⟨μf, c, by omega, g_d (n1 := 0) hL hi (fun q hq => ?_) hk⟩
      rw [← hv]
      unfold lawTb at hq
      simp only [List.mem_cons, List.not_mem_nil, or_false] at hq
      rcases hq with rfl | rfl | rfl | rfl | rfl | rfl | rfl | rfl | rfl | rfl | rfl | rfl | rfl | rfl | rfl | rfl | rfl | rfl | rfl | rfl | rfl | rfl | rfl | rfl <;> assumption
theorem whole_run {L : Nat} {xs : Nat → Int32} (hL : L ≤ 3072) : en_Run L xs := by
  obtain ⟨μf, c, hc, hk⟩ := law_loop (xs := xs) hL (L / 6) 0 b0 Inv_b0 (by omega) (by omega) (by omega)
  exact en_start (by omega) hk
end GI
