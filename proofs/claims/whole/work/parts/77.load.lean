section DH
theorem st_load {μ : bM} (h : Inv μ) {v : Int} (hv : bR v) : Step (F_L_load v μ) (F_X11_load v) := by
  obtain ⟨hok, h1, h2, h3, h4⟩ := id h
  have e76 := h1.1
  have u0 := h1.2.1
  have u1 := h1.2.2.1
  by_cases c : 0 ≤ v ∧ v ≤ 2
  · have hs := sec_i c h2
    have hst := sec_st c
    have hrg := sec_rg c
    have hs2 := hs.2.2.1
    have hs1 := hs.2.1
    have hcut : F_X6_cut (secS v) 0 μ = some (0, bset μ (secS v) 1 0) := S_cut (by decide) hs1
    have hus : F_X6_used 2 μ = some (μ 2 1) := rfl
    have hof : ∀ ν, F_X5_of v ν = some ((secS v : Nat) : Int) := fun ν => sec_of c
    by_cases cl : μ 2 1 ≤ (secC v : Int)
    · -- the class
      obtain ⟨ν0, hν0⟩ : ∃ ν0, ν0 = bset μ (secS v) 1 0 := ⟨_, rfl⟩
      have ok0 : bOk ν0 := by
        rw [hν0]
        exact bOk_set hok ((bIn_f (ci := 5) hst.1 rfl).mpr (show bR 0 by decide))
      have z1 : ν0 (secS v) 1 = 0 := by rw [hν0, bset_at]
      have z2 : ν0 2 = μ 2 := by rw [hν0, bset_q (by omega)]
      have z3 : ν0 3 = μ 3 := by rw [hν0, bset_q (by omega)]
      obtain ⟨n, hn⟩ : ∃ n : Nat, μ 2 1 = n := ⟨(μ 2 1).toNat, by omega⟩
      obtain ⟨ν1, a1, a2⟩ := A_from (s := secS v) (s2 := 2) (μ := ν0) (a := 0) (n := n) ok0 bSt2 ⟨by omega, by omega⟩ ⟨by rw [z2]; exact u0, by rw [z2]; exact u1⟩ (by omega) (by decide) (by rw [z2]; omega) (by rw [z1, hst.2]; omega)
      have y2 : ν1 2 = μ 2 := by rw [a2.2.1 2 (by omega) (by omega), z2]
      have E0 : F_X10_load v μ = some (.inl (μ 2 1), bset ν1 2 1 0) := by
        unfold F_X10_load
        rw [C_needSec, if_pos c, bXm_inl, hof, Option.bind_some, Int.toNat_natCast]
        have hmo : F_X6_most (secS v) μ = some ((secC v : Nat) : Int) := by unfold F_X6_most; rw [hst.2]
        rw [hus, Option.bind_some, hmo, Option.bind_some, if_pos cl, hcut, bMm_some, ← hν0, hn, a1, bMm_some, S_cut (s := 2) (by decide) (by rw [y2]; exact u0), bMm_some]
      have E1 : F_L_load v μ = some (0, bset (bset ν1 2 1 0) 112 0 (μ 2 1), 0) := by unfold F_L_load; rw [E0]; rfl
      obtain ⟨μ1, hμ1⟩ : ∃ μ1, μ1 = bset (bset ν1 2 1 0) 112 0 (μ 2 1) := ⟨_, rfl⟩
      -- what the model finds
      have m76 : μ1 76 = μ 76 := by rw [hμ1, bset_q (by decide), bset_q (by decide), a2.2.1 76 (by omega) (by omega), hν0, bset_q (by omega)]
      have m77 : μ1 77 = μ 77 := by rw [hμ1, bset_q (by decide), bset_q (by decide), a2.2.1 77 (by omega) (by omega), hν0, bset_q (by omega)]
      have m93 : μ1 93 = μ 93 := by rw [hμ1, bset_q (by decide), bset_q (by decide), a2.2.1 93 (by omega) (by omega), hν0, bset_q (by omega)]
      have m94 : μ1 94 = μ 94 := by rw [hμ1, bset_q (by decide), bset_q (by decide), a2.2.1 94 (by omega) (by omega), hν0, bset_q (by omega)]
      -- the model's loop
      have LP := bLoop_inv (f := fun z : Int × bM => F_X11_load_42 v z.1 z.2) (fun z => ∃ j : Nat, j ≤ n ∧ z.1 = j ∧ z.2 = bcp (bset μ1 76 0 0) 93 (secO v) j (fun k => μ 77 (k - secO v))) (fun z => n - z.1.toNat) (fun r => r = ((n : Int), bset (bset (bcp (bset μ1 76 0 0) 93 (secO v) n (fun k => μ 77 (k - secO v))) 94 v.toNat n) 76 2 0)) ?_ (0, bset μ1 76 0 0) ⟨0, by omega, rfl, by rw [bcp_0]⟩
      · obtain ⟨r, l1, l2⟩ := LP
        subst l2
        have E2 : F_X11_load v μ1 = some ((n : Int), bset (bset (bcp (bset μ1 76 0 0) 93 (secO v) n (fun k => μ 77 (k - secO v))) 94 v.toNat n) 76 2 0) := by
          unfold F_X11_load
          rw [M_isSec, b01_1 c, Option.bind_some, if_pos (by decide), sec_most c, Option.bind_some, m76, e76, if_pos cl, bset_at, if_pos (by decide)]
          exact l1
        have ok1 := okC 3 (r_L_load (d := 0) v hv) hok E1
        rw [← hμ1] at ok1 E1
        have ok2 := okP 2 (r_X11_load (d := 0) v hv) ok1 E2
        obtain ⟨ρ, hρ⟩ : ∃ ρ, ρ = bset (bset (bcp (bset μ1 76 0 0) 93 (secO v) n (fun k => μ 77 (k - secO v))) 94 v.toNat n) 76 2 0 := ⟨_, rfl⟩
        rw [← hρ] at E2 ok2
        have fr : ∀ q, q ≠ 76 → q ≠ 93 → q ≠ 94 → q ≠ 112 → q ≠ 2 → q ≠ secS v → q ≠ secS v + 1 → ρ q = μ q := fun q q1 q2 q3 q4 q5 q6 q7 => by rw [hρ, bset_q q1, bset_q q3, bcp_q q2, bset_q q1, hμ1, bset_q q4, bset_q q5, a2.2.1 q q6 q7, hν0, bset_q q6]
        have fr76 : ∀ k, k ≠ 0 → k ≠ 2 → ρ 76 k = μ 76 k := fun k k0 k2 => by rw [hρ, bset_k k2, bset_q (by decide), bcp_q (by decide), bset_k k0, m76]
        have rs1 : ρ (secS v) 1 = n := by rw [hρ, bset_q (by omega), bset_q (by omega), bcp_q (by omega), bset_q (by omega), hμ1, bset_q (by omega), bset_q (by omega), a2.1, z1]; omega
        have rs2 : ∀ k : Nat, k < n → ρ (secS v + 1) k = μ 3 k := fun k hk => by
          have := a2.new (by omega) hk
          rw [z1] at this
          rw [hρ, bset_q (by omega), bset_q (by omega), bcp_q (by omega), bset_q (by omega), hμ1, bset_q (by omega), bset_q (by omega)]
          simpa [z3] using this
        have r93 : ∀ k, ρ 93 k = bcp (bset μ1 76 0 0) 93 (secO v) n (fun k => μ 77 (k - secO v)) 93 k := fun k => by rw [hρ, bset_q (by decide), bset_q (by decide)]
        refine ⟨0, n, μ1, ρ, 0, E1, by omega, E2, by rw [hρ, bset_k (by decide), bset_q (by decide), bcp_q (by decide), bset_at], fun _ => by rw [hρ, bset_q (by decide), bset_q (by decide), bcp_q (by decide), bset_q (by decide), hμ1, bset_at, hn], ok2, ?_, iSec_new c h2 ⟨?_, ?_, ?_, fun k hk => ?_⟩ (fun q q1 q2 q3 q4 q5 q6 => fr q (by omega) (by omega) (by omega) (by omega) (by omega) q1 q2) (fun k hk => ?_) (fun k hk => ?_), iFault_congr h3 (fr 46 (by decide) (by decide) (by decide) (by decide) (by decide) (by omega) (by omega)) (fr76 21 (by decide) (by decide)) (fr76 22 (by decide) (by decide)), iMain_congr (fun q m => ?_) (fr76 3 (by decide) (by decide)) h4⟩
        · have t1 : ρ 76 2 = 0 := by rw [hρ, bset_at]
          have t2 : ρ 2 1 = 0 := by rw [hρ, bset_q (by decide), bset_q (by decide), bcp_q (by decide), bset_q (by decide), hμ1, bset_q (by decide), bset_at]
          exact ⟨by rw [t1, t2], by omega, by omega, fun k hk => by omega⟩
        · rw [rs1, hρ, bset_q (by decide), bset_at]
        · omega
        · omega
        · rw [rs1] at hk
          rw [rs2 k (by omega), r93, bcp_in (by omega), show secO v + k - secO v = k by omega]
          exact h1.2.2.2 k (by omega)
        · rw [hρ, bset_q (by decide), bset_k hk, bcp_q (by decide), bset_q (by decide), m94]
        · rw [r93, bcp_out (by omega), bset_q (by decide), m93]
        · unfold mainIds at m
          exact fr q (by omega) (by omega) (by omega) (by omega) (by omega) (by omega) (by omega)
      · intro z hz
        obtain ⟨z1', z2'⟩ := z
        obtain ⟨j, hj, g1, g2⟩ := hz
        simp only at g1 g2
        subst g1
        subst g2
        have w76 : bcp (bset μ1 76 0 0) 93 (secO v) j (fun k => μ 77 (k - secO v)) 76 2 = n := by rw [bcp_q (by decide), bset_k (by decide), m76, e76, hn]
        by_cases cj : j < n
        · left
          refine ⟨((j : Int) + 1, bcp (bset μ1 76 0 0) 93 (secO v) (j + 1) (fun k => μ 77 (k - secO v))), ?_, ⟨j + 1, by omega, by simp, rfl⟩, by simp only; omega⟩
          show F_X11_load_42 v j (bcp (bset μ1 76 0 0) 93 (secO v) j (fun k => μ 77 (k - secO v))) = _
          unfold F_X11_load_42
          rw [w76, if_neg (by omega), sec_from c, Option.bind_some, bG_pos (by constructor <;> omega), bG_pos (by omega), bG_pos (by omega), bG_pos (by constructor <;> omega), bcp_q (show 77 ≠ 93 by decide), bset_q (show 77 ≠ 76 by decide), m77, show ((secO v : Int) + (j : Int)).toNat = secO v + j by omega, bcp_succ (by rw [show secO v + j - secO v = j by omega]; rfl)]
        · right
          have : j = n := by omega
          subst this
          refine ⟨_, ?_, rfl⟩
          show F_X11_load_42 v j (bcp (bset μ1 76 0 0) 93 (secO v) j (fun k => μ 77 (k - secO v))) = _
          unfold F_X11_load_42
          rw [w76, if_pos (by omega)]
          unfold F_X11_load_73
          rw [bG_pos (by omega), bG_pos (by omega), w76, bset_q (show 94 ≠ 76 by decide), bset_at]
          rfl
    · refine St_thr h (j := 184) (d2 := 2) (k := 2) (r := 0) (by decide) ?_ (r_X11_load (d := 0) v hv) ?_
      · have E0 : F_X10_load v μ = some (.inr "java/lang/UnsupportedOperationException", μ) := by
          unfold F_X10_load
          rw [C_needSec, if_pos c, bXm_inl, hof, Option.bind_some, Int.toNat_natCast]
          have hmo : F_X6_most (secS v) μ = some ((secC v : Nat) : Int) := by unfold F_X6_most; rw [hst.2]
          rw [hus, Option.bind_some, hmo, Option.bind_some, if_neg cl]
        unfold F_L_load
        rw [E0]
        rfl
      · unfold F_X11_load
        rw [M_isSec, b01_1 c, Option.bind_some, if_pos (by decide), sec_most c, Option.bind_some, e76, if_neg cl, bset_at, if_neg (by decide)]
  · refine St_thr h (j := 184) (d2 := 2) (k := 1) (r := 0) (by decide) ?_ (r_X11_load (d := 0) v hv) ?_
    · have E0 : F_X10_load v μ = some (.inr "java/lang/IndexOutOfBoundsException", μ) := by
        unfold F_X10_load
        rw [C_needSec, if_neg c]
        rfl
      unfold F_L_load
      rw [E0]
      rfl
    · unfold F_X11_load
      rw [M_isSec, b01_0 c, Option.bind_some, if_neg (by decide), bset_at, if_neg (by decide)]
end DH
