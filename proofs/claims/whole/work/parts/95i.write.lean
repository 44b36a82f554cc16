section FI
section
variable {T b n m : Nat} {μ : bM} {ord : Nat → Nat}
theorem AppL.get {q1 k1 q2 : Nat} {μ μ1 : bM} {L : List Int} (h : AppL q1 k1 q2 μ μ1 L) (h0 : 0 ≤ μ q1 k1) {j : Nat} (hj : j < L.length) : μ1 q2 ((μ q1 k1).toNat + j) = L.getD j 0 := App.new h h0 hj
theorem AppL.out {q1 k1 q2 : Nat} {μ μ1 : bM} {L : List Int} (h : AppL q1 k1 q2 μ μ1 L) {k : Nat} (hk : k < (μ q1 k1).toNat ∨ (μ q1 k1).toNat + L.length ≤ k) : μ1 q2 k = μ q2 k := by rw [h.2.2.2 k, if_neg (by omega)]
theorem st_write (h : Inv μ) : ∃ (k : Int) (μ1 μ2 : bM), F_X10_write μ = some (k, μ1) ∧ F_X11_write μ1 = some (k, μ2) ∧ Inv μ2 := by
  obtain ⟨hok, h1, h2, h3, h4⟩ := id h
  obtain ⟨T, b, n, m, hN, hB, hTr⟩ := iMain_view h4
  obtain ⟨hT, hb, e15, e763, hn, hm, n4, m6, e78, e79⟩ := id hN
  have hc := cT_of hN hTr
  obtain ⟨lm, ord, a1, a2, a3, a4, a5, a6⟩ := C_lay hok hN hTr
  have ho' : ∀ k, k < n → ord k < n := fun k hk => (a2.1 k hk).1
  obtain ⟨y5, y14, y15, y17, ysh, ytx, y132, y16, y19, yfix, ypost⟩ := id a4
  have t15 : lm 1 5 = T := by rw [a3 1 (by omega)]; exact e15
  -- numbers of shapes, and the closings
  have y20 : ∀ e, e < n → lm 20 e = shI T μ ord (posE (μ (T + 3)) n e).toNat + 1 := fun e he => by
    obtain ⟨k, k1, k2, k3⟩ := a2.2 e he
    rw [k3, Int.toNat_natCast, ← ysh.2.2.2.1 k k1, k2]
  have y20r : ∀ e, e < n → 1 ≤ lm 20 e ∧ lm 20 e ≤ 400 := fun e he => by
    obtain ⟨k, k1, k2, k3⟩ := a2.2 e he
    rw [y20 e he, k3, Int.toNat_natCast]
    have := shI_rg hc ho' k1
    omega
  have y17r : ∀ e, e < n → 0 ≤ lm 17 e ∧ lm 17 e ≤ 30 := fun e he => by rw [y17 e he]; exact nex_cnt hc he
  have hst : ∀ e, e < n → stP T n μ ord e = rb (lm 20 e) + svs T μ e + lm 17 e := fun e he => by
    unfold stP
    rw [y20 e he, y17 e he]
  obtain ⟨S, hS⟩ : ∃ S, S = (shS T μ ord n).1 := ⟨_, rfl⟩
  obtain ⟨ent, hent⟩ : ∃ ent, ent = (shS T μ ord n).2 := ⟨_, rfl⟩
  obtain ⟨s1, s2, -⟩ := shS_ok hc ho' n (Nat.le_refl n)
  rw [← hS] at s1 s2
  rw [← hent] at s2
  have y130 : lm 13 0 = S := by rw [hS]; exact ysh.1
  have y21 : ∀ s, s < S → lm 21 s = ent s ∧ ent s < n := fun s hs => ⟨by rw [hent]; exact ysh.2.1 s (by rw [← hS]; exact hs), s2 s hs⟩
  have y133 : lm 13 3 = 1 + (preS T n μ ent S).length := by
    rw [preS_len, hS, hent]
    exact ysh.2.2.2.2
  obtain ⟨p, hp⟩ : ∃ p, p = tA T μ ord n := ⟨_, rfl⟩
  have pok := tA_ok hok hc ho' n (Nat.le_refl n)
  have ple := tA_le hc ho' n (Nat.le_refl n)
  have pslt : ∀ t, t < (tA T μ ord n).1 → slT T n μ ((tA T μ ord n).2 t) := fun t ht => (pok.1 t ht).2
  have htp : ∀ a, slT T n μ a → ∃ t : Nat, t < (tA T μ ord n).1 ∧ scan (fun t => tm T μ ((tA T μ ord n).2 t) a) 1 0 (tA T μ ord n).1 = t ∧ lm 22 a = tP T μ (tA T μ ord n) t := fun a ha => by
    have hV : Vt T μ ord n 0 a := by
      obtain ⟨e, k, x1, x2, x3, x4⟩ := ha
      obtain ⟨j, j1, j2, -⟩ := a2.2 e x1
      exact Or.inl ⟨j, k, j1, by rw [j2]; exact x2, by rw [j2]; exact x3, x4⟩
    rcases tStep_cases hok hc pok ha with ⟨z, g⟩ | ⟨t, g1, g2, g3, g4⟩
    · obtain ⟨-, t, q1, q2⟩ := pok.2.2 a hV
      exact absurd q2 (g t q1)
    · exact ⟨t, g1, g2, ytx.2.2.2.1 a hV t g1 g3⟩
  have y134 : lm 13 4 = tP T μ (tA T μ ord n) (tA T μ ord n).1 := ytx.2.2.2.2
  have sU : startP T n m μ m = n := by unfold startP; rw [if_neg (by omega)]
  have plen : ((preL T μ (lm 19) (lm 22) (lm 20) (lm 17) (lm 16) ord n).length : Int) = lm 13 2 := by
    have := preL_len (X := lm 19) (tp := lm 22) (sh := lm 20) (clo := lm 17) (tot := lm 16) hc a2 hst (fun e he => (y17r e he).1) yfix m (Nat.le_refl m)
    rw [sU, Int.toNat_natCast] at this
    rw [this, y132]
  -- the model's layout, over any memory that differs in the stores alone
  have modelL : ∀ μ1 : bM, (∀ q, (q < 7 ∨ 29 < q) → μ1 q = μ q) → ∃ lm', F_X11_layOut (bset μ1 76 0 0) = some (0, lm') ∧ (∀ q, (q < 95 ∨ 103 < q) → q ≠ 76 → lm' q = μ1 q) ∧ (∀ k, k ≠ 0 → k ≠ 23 → k ≠ 26 → k ≠ 29 → k ≠ 32 → lm' 76 k = μ 76 k) ∧ lm' 76 0 = 0 ∧ layM T b n m μ ord lm' := fun μ1 hf => by
    obtain ⟨lm', b1, b2, b3, b4⟩ := M_lay (ρ0 := bset μ1 76 0 0) hok hN hTr a2 (fun q q1 q2 q3 => by rw [bset_q q3, hf q (by omega)]) (by rw [bset_k (by omega), hf 76 (by omega)])
    exact ⟨lm', b1, fun q q1 q2 => by rw [b2 q q1 q2, bset_q q2], fun k k0 k1 k2 k3 k4 => by rw [b3 k k1 k2 k3 k4, bset_k k0, hf 76 (by omega)], by rw [b3 0 (by omega) (by omega) (by omega) (by omega), bset_at], b4⟩
  -- how the model comes to its sums
  have modelW : ∀ lm' : bM, layM T b n m μ ord lm' → lm' 76 3 = b → lm' 79 b = m → bLoop (fun z : Int × Int => F_X11_write_13 lm' z.1 z.2) (0, 0) = F_X11_write_41 (lm 13 2) lm' ∨ F_X11_write_41 (lm 13 2) lm' = none := fun lm' hl m3 m79 => by
    have h103 := (lay_place hc a2 a4 hl).2
    cases hw : F_X11_write_41 (lm 13 2) lm' with
    | none => exact Or.inr rfl
    | some res =>
      left
      have G := bLoop_inv (f := fun z : Int × Int => F_X11_write_13 lm' z.1 z.2) (fun z => ∃ u : Nat, u ≤ m ∧ z.2 = u ∧ z.1 = sumI (fun u => lm 16 u) u) (fun z => m - z.2.toNat) (fun r => r = res) ?_ (0, 0) ⟨0, by omega, rfl, rfl⟩
      · obtain ⟨r, x1, x2⟩ := G
        rw [x1, x2]
      · rintro ⟨z1, z2⟩ ⟨u, u1, u2, u3⟩
        simp only at u2 u3
        subst u2
        show (∃ s', F_X11_write_13 lm' z1 u = some (Sum.inl s') ∧ _) ∨ ∃ q, F_X11_write_13 lm' z1 u = some (Sum.inr q) ∧ _
        have su := sumI_rg' (f := fun u => lm 16 u) (lo := 0) (hi := 900000) u (fun w hw => y16 w (by omega))
        unfold F_X11_write_13
        rw [m3, bG_pos (by omega), Int.toNat_natCast, m79]
        by_cases c : u < m
        · left
          have y16u := y16 u c
          rw [if_neg (by omega), bG_pos (by omega), Int.toNat_natCast, ← h103 u c, bG_pos (by constructor <;> omega), bG_pos (by constructor <;> omega)]
          refine ⟨_, rfl, ⟨u + 1, by omega, by simp, ?_⟩, by simp only; omega⟩
          simp only
          rw [u3]
          rfl
        · right
          have : u = m := by omega
          subst this
          rw [if_pos (by omega), u3, ← y132, hw]
          exact ⟨_, rfl, rfl⟩
  have f7 : 0 ≤ lm 7 1 := by rw [a3 7 (by omega)]; exact h2.1.2.1
  by_cases big : 24000 < lm 13 2 ∨ 8000 < lm 13 3 ∨ 8000 < lm 13 4
  · -- too large
    have E1 : F_X10_write μ = some (-2, lm) := by
      unfold F_X10_write
      rw [e15, Int.toNat_natCast, a1, bMm_some]
      by_cases c1 : 24000 < lm 13 2
      · rw [if_pos c1]
      · rw [if_neg c1]
        by_cases c2 : 8000 < lm 13 3
        · rw [if_pos c2]
        · rw [if_neg c2, if_neg (by omega)]
    obtain ⟨lm', b1, b2, b3, b0, b4⟩ := modelL lm (fun q hq => a3 q (by omega))
    have hMl : mA T b n m μ lm' := mA_congr (mA_of hN hTr) (b3 3 (by omega) (by omega) (by omega) (by omega) (by omega)) (fun q q1 q2 => by rw [b2 q (by omega) (by omega), a3 q (by omega)])
    have hsb := M_shapeBytes (S := S) (ent := ent) hc hMl (by rw [hS]; exact b4.2.2.2.1.1) (by omega) (fun s hs => ⟨by rw [hent]; exact b4.2.2.2.1.2.1 s (by rw [← hS]; exact hs), s2 s hs⟩)
    rw [← preS_len (T := T) (n := n) (μ := μ) (ent := ent) S, ← y133] at hsb
    have h32 : lm' 76 32 = lm 13 4 := by rw [y134]; exact b4.2.2.2.2.1.2.2.2
    have E41 : F_X11_write_41 (lm 13 2) lm' = some (-2, lm') := by
      unfold F_X11_write_41
      rw [hsb, Option.bind_some, show F_X11_most 0 lm' = some 24000 from rfl, Option.bind_some]
      by_cases c1 : 24000 < lm 13 2
      · rw [if_pos c1]
      · rw [if_neg c1, show F_X11_most 1 lm' = some 8000 from rfl, Option.bind_some]
        by_cases c2 : 8000 < lm 13 3
        · rw [if_pos c2]
        · rw [if_neg c2, show F_X11_most 2 lm' = some 8000 from rfl, Option.bind_some, h32, if_neg (by omega)]
    have E2 : F_X11_write lm = some (-2, lm') := by
      unfold F_X11_write
      rw [b1, bMm_some]
      rcases modelW lm' b4 hMl.1.2.1 hMl.1.2.2.2.1 with hh | hh
      · rw [hh, E41]
      · rw [E41] at hh; cases hh
    have ok2 := kp_X11_write a6 E2
    refine ⟨-2, lm, lm', E1, E2, Inv_lay h hN hB hTr ok2 (fun q q1 q2 q3 q4 => by rw [b2 q q3 q2, a3 q q1]) b3 (iLay_congr a5 hT (fun q hq => b2 q (by omega) (by omega)))⟩
  · -- the class writes
    have hw0 : wC T μ lm lm := ⟨fun q hq => a3 q (by omega), fun q _ _ => rfl, a6⟩
    obtain ⟨ρ1, c1, c2, c3⟩ := C_wunits hok hc a2 y19 y20r y17r y16 y14 y15 (by omega) hw0 f7
    have k7 := c3.cnt
    rw [bset_at] at k7
    have r1 : ∀ q, q ≠ 7 → q ≠ 8 → ρ1 q = lm q := fun q q1 q2 => by rw [c3.row q1 q2, bset_q q1]
    obtain ⟨ρ2, d1, d2, d3⟩ := C_wshapes hc y130 (by omega) y21 (by omega) c2 (by rw [r1 9 (by omega) (by omega), a3 9 (by omega)]; exact h2.2.1.2.1)
    have k9 := d3.cnt
    rw [bset_at] at k9
    have r2 : ∀ q, q ≠ 9 → q ≠ 10 → ρ2 q = ρ1 q := fun q q1 q2 => by rw [d3.row q1 q2, bset_q q1]
    obtain ⟨ρ3, e1, e2, e3⟩ := C_wtexts hc pslt (by omega) ytx.1 ytx.2.1 (by omega) d2 (by rw [r2 11 (by omega) (by omega), r1 11 (by omega) (by omega), a3 11 (by omega)]; exact h2.2.2.2.1)
    have k11 := e3.cnt
    rw [bset_at] at k11
    have r3 : ∀ q, q ≠ 11 → q ≠ 12 → ρ3 q = ρ2 q := fun q q1 q2 => by rw [e3.row q1 q2, bset_q q1]
    have rall : ∀ q, (q < 7 ∨ 12 < q) → ρ3 q = lm q := fun q hq => by rw [r3 q (by omega) (by omega), r2 q (by omega) (by omega), r1 q (by omega) (by omega)]
    have plT := preT_len hc pslt (tA T μ ord n).1 (Nat.le_refl _)
    simp only [List.length_append, List.length_cons, List.length_nil] at k9
    have u7 : ρ3 7 1 = lm 13 2 := by rw [r3 7 (by omega) (by omega), r2 7 (by omega) (by omega), k7, plen]; omega
    have u9 : ρ3 9 1 = lm 13 3 := by rw [r3 9 (by omega) (by omega), k9, y133]; omega
    have u11 : ρ3 11 1 = lm 13 4 := by rw [k11, plT, y134]; omega
    have s132 : 0 ≤ lm 13 2 := by omega
    have s133 : 1 ≤ lm 13 3 := by omega
    have s134 : 0 ≤ lm 13 4 := by omega
    have E1 : F_X10_write μ = some (lm 13 2 + lm 13 3 + lm 13 4, ρ3) := by
      unfold F_X10_write
      rw [e15, Int.toNat_natCast, a1, bMm_some, if_neg (by omega), if_neg (by omega), if_pos (by omega), t15, Int.toNat_natCast, c1, bMm_some, r1 1 (by omega) (by omega), t15, Int.toNat_natCast, d1, bMm_some, r2 1 (by omega) (by omega), r1 1 (by omega) (by omega), t15, Int.toNat_natCast, e1, bMm_some, show F_X6_used 7 ρ3 = some (ρ3 7 1) from rfl, show F_X6_used 9 ρ3 = some (ρ3 9 1) from rfl, show F_X6_used 11 ρ3 = some (ρ3 11 1) from rfl, u7, u9, u11, Option.bind_some, Option.bind_some, bG_pos (by constructor <;> omega), Option.bind_some, bG_pos (by constructor <;> omega)]
    have ok1 := kp_X10_write hok E1
    -- the model
    obtain ⟨lm', b1, b2, b3, b0, b4⟩ := modelL ρ3 (fun q hq => by rw [rall q (by omega), a3 q (by omega)])
    have b2' : ∀ q, (q < 7 ∨ 29 < q ∧ q < 95 ∨ 103 < q) → q ≠ 76 → lm' q = μ q := fun q q1 q2 => by rw [b2 q (by omega) q2, rall q (by omega), a3 q (by omega)]
    have hMl : mA T b n m μ lm' := mA_congr (mA_of hN hTr) (b3 3 (by omega) (by omega) (by omega) (by omega) (by omega)) (fun q q1 q2 => b2' q (by omega) (by omega))
    have h98 : ∀ s, s < S → lm' 98 s = ent s ∧ ent s < n := fun s hs => ⟨by rw [hent]; exact b4.2.2.2.1.2.1 s (by rw [← hS]; exact hs), s2 s hs⟩
    have h26 : lm' 76 26 = S := by rw [hS]; exact b4.2.2.2.1.1
    have hsb := M_shapeBytes (S := S) (ent := ent) hc hMl h26 (by omega) h98
    rw [← preS_len (T := T) (n := n) (μ := μ) (ent := ent) S, ← y133] at hsb
    have h32 : lm' 76 32 = lm 13 4 := by rw [y134]; exact b4.2.2.2.2.1.2.2.2
    obtain ⟨lw, hlw⟩ : ∃ lw, lw = bset (bset (bset lm' 94 0 (lm 13 2)) 94 1 (lm 13 3)) 94 2 (lm 13 4) := ⟨_, rfl⟩
    have lwq : ∀ q, q ≠ 94 → lw q = lm' q := fun q hq => by rw [hlw, bset_q hq, bset_q hq, bset_q hq]
    have lw0 : lw 94 0 = lm 13 2 := by rw [hlw, bset_k (by omega), bset_k (by omega), bset_at]
    have lw1 : lw 94 1 = lm 13 3 := by rw [hlw, bset_k (by omega), bset_at]
    have lw2 : lw 94 2 = lm 13 4 := by rw [hlw, bset_at]
    have hMw : mA T b n m μ lw := mA_congr hMl (by rw [lwq 76 (by omega)]) (fun q q1 q2 => lwq q (by omega))
    obtain ⟨pl1, pl2⟩ := lay_place hc a2 a4 b4
    have hx : txM T b μ (tA T μ ord n) lw := by
      obtain ⟨x1, x2, x3, x4⟩ := b4.2.2.2.2.1
      exact ⟨by rw [lwq 76 (by omega)]; exact x1, fun t ht => by rw [lwq 99 (by omega)]; exact x2 t ht, fun t ht => by rw [lwq 100 (by omega)]; exact x3 t ht, by rw [lwq 76 (by omega)]; exact x4⟩
    have KE : ∀ σ1, wM lw σ1 → σ1 76 36 = 0 → ∃ ρ', bLoop (fun z : Int × bM => F_X11_write_295 z.1 z.2) (0, σ1) = some (lw 94 0 + lw 94 1 + lw 94 2, ρ') ∧ AppL 76 36 93 σ1 ρ' (preL T μ (lm 19) (lm 22) (lm 20) (lm 17) (lm 16) ord n) := fun σ1 hw1 z0 => by
      refine Q_entries hok hc a2 hMw (fun e he => ⟨by rw [lwq 101 (by omega)]; exact (pl1 e he).symm, y19 e he⟩) hx htp (fun e he => ⟨?_, y20r e he⟩) (fun k hk => ⟨?_, y17r _ (ho' k hk)⟩) (by rw [lwq 76 (by omega)]; exact b4.1) (fun k hk => by rw [lwq 95 (by omega)]; exact b4.2.1 k hk) (fun u hu => ⟨by rw [lwq 103 (by omega)]; exact (pl2 u hu).symm, y16 u hu⟩) (fun k hk => ?_) (by omega) hw1 z0
      · obtain ⟨k, k1, k2, k3⟩ := a2.2 e he
        rw [lwq 97 (by omega), y20 e he, k3, Int.toNat_natCast, ← b4.2.2.2.1.2.2 k k1, k2]
      · rw [lwq 96 (by omega), b4.2.2.1 k hk, y17 _ (ho' k hk)]
      · have : k = 0 ∨ k = 1 ∨ k = 2 := by omega
        rcases this with rfl | rfl | rfl
        · rw [lw0]; omega
        · rw [lw1]; omega
        · rw [lw2]; omega
    have KS : ∀ σ1, wM lw σ1 → σ1 76 36 = 24000 → ∃ σ2 ρ', bLoop (fun z : Int × bM => F_X11_write_149 z.1 z.2) (0, σ1) = some (lw 94 0 + lw 94 1 + lw 94 2, ρ') ∧ wM lw σ2 ∧ AppL 76 36 93 σ1 σ2 (preS T n μ ent S ++ [b8 0]) ∧ AppL 76 36 93 (bset σ2 76 36 0) ρ' (preL T μ (lm 19) (lm 22) (lm 20) (lm 17) (lm 16) ord n) := fun σ1 hw1 z0 => Q_shapes hc hMw (by rw [lwq 76 (by omega)]; exact h26) (by omega) (fun s hs => by rw [lwq 98 (by omega)]; exact h98 s hs) (by omega) KE hw1 z0
    have hwl : wM lw (bset lw 76 36 32000) := wM_at ⟨fun q _ _ => rfl, fun k _ => rfl⟩
    obtain ⟨σ1, σ2, ρ4, g1, g2, g3, g4⟩ := Q_texts hok hc hMw pslt (by omega) hx (by omega) KS hwl bset_at
    have E41 : F_X11_write_41 (lm 13 2) lm' = some (lm 13 2 + lm 13 3 + lm 13 4, ρ4) := by
      unfold F_X11_write_41
      rw [hsb, Option.bind_some, show F_X11_most 0 lm' = some 24000 from rfl, Option.bind_some, if_neg (by omega), show F_X11_most 1 lm' = some 8000 from rfl, Option.bind_some, if_neg (by omega), show F_X11_most 2 lm' = some 8000 from rfl, Option.bind_some, h32, if_pos (by omega)]
      rw [bset_q (show 76 ≠ 94 by decide), bset_q (show 76 ≠ 94 by decide), h32, ← hlw, show F_X11_from 2 lw = some 32000 from rfl, Option.bind_some, g1, lw0, lw1, lw2]
    have E2 : F_X11_write ρ3 = some (lm 13 2 + lm 13 3 + lm 13 4, ρ4) := by
      unfold F_X11_write
      rw [b1, bMm_some]
      rcases modelW lm' b4 hMl.1.2.1 hMl.1.2.2.2.1 with hh | hh
      · rw [hh, E41]
      · rw [E41] at hh; cases hh
    have ok2 := kp_X11_write ok1 E2
    -- what the last memory holds
    have v1 : ∀ q, q ≠ 76 → q ≠ 93 → σ1 q = lw q := fun q q1 q2 => by rw [g2.row q1 q2, bset_q q1]
    have v2 : ∀ q, q ≠ 76 → q ≠ 93 → σ2 q = lw q := fun q q1 q2 => by rw [g3.row q1 q2, bset_q q1, v1 q q1 q2]
    have v4 : ∀ q, q ≠ 76 → q ≠ 93 → ρ4 q = lw q := fun q q1 q2 => by rw [g4.row q1 q2, bset_q q1, v2 q q1 q2]
    have w76 : ∀ k, k ≠ 36 → ρ4 76 k = lm' 76 k := fun k hk => by
      rw [g4.2.2.1 k hk, bset_k hk, g3.2.2.1 k hk, bset_k hk, g2.2.2.1 k hk, bset_k hk, lwq 76 (by omega)]
    have b93 : ∀ k : Nat, k < (preL T μ (lm 19) (lm 22) (lm 20) (lm 17) (lm 16) ord n).length → ρ4 93 k = (preL T μ (lm 19) (lm 22) (lm 20) (lm 17) (lm 16) ord n).getD k 0 := fun k hk => by
      have := g4.get (by rw [bset_at]; omega) hk
      rw [bset_at] at this
      simpa using this
    have o93 : ∀ k : Nat, 24000 ≤ k → ρ4 93 k = σ2 93 k := fun k hk => by
      rw [g4.out (by rw [bset_at]; right; show 0 + _ ≤ k; omega), bset_q (by omega)]
    have s93 : ∀ k : Nat, k < (preS T n μ ent S ++ [b8 0]).length → σ2 93 (24000 + k) = (preS T n μ ent S ++ [b8 0]).getD k 0 := fun k hk => by
      have := g3.get (by rw [bset_at]; omega) hk
      rw [bset_at] at this
      exact this
    have so93 : ∀ k : Nat, 32000 ≤ k → σ2 93 k = σ1 93 k := fun k hk => by
      rw [g3.out (by rw [bset_at]; right; show 24000 + _ ≤ k; simp only [List.length_append, List.length_cons, List.length_nil]; omega), bset_q (by omega)]
    have t93 : ∀ k : Nat, k < (preT T μ (tA T μ ord n).2 (tA T μ ord n).1).length → σ1 93 (32000 + k) = (preT T μ (tA T μ ord n).2 (tA T μ ord n).1).getD k 0 := fun k hk => by
      have := g2.get (by rw [bset_at]; omega) hk
      rw [bset_at] at this
      exact this
    have x8 : ∀ k : Nat, k < (preL T μ (lm 19) (lm 22) (lm 20) (lm 17) (lm 16) ord n).length → ρ3 8 k = (preL T μ (lm 19) (lm 22) (lm 20) (lm 17) (lm 16) ord n).getD k 0 := fun k hk => by
      have := c3.get (by rw [bset_at]; omega) hk
      rw [bset_at] at this
      rw [r3 8 (by omega) (by omega), r2 8 (by omega) (by omega)]
      simpa using this
    have x10 : ∀ k : Nat, k < (preS T n μ ent S ++ [b8 0]).length → ρ3 10 k = (preS T n μ ent S ++ [b8 0]).getD k 0 := fun k hk => by
      have := d3.get (by rw [bset_at]; omega) hk
      rw [bset_at] at this
      rw [r3 10 (by omega) (by omega)]
      simpa using this
    have x12 : ∀ k : Nat, k < (preT T μ (tA T μ ord n).2 (tA T μ ord n).1).length → ρ3 12 k = (preT T μ (tA T μ ord n).2 (tA T μ ord n).1).getD k 0 := fun k hk => by
      have := e3.get (by rw [bset_at]; omega) hk
      rw [bset_at] at this
      simpa using this
    have st3 : ∀ q, 7 ≤ q → q ≤ 12 → ρ4 q = ρ3 q := fun q q1 q2 => by rw [v4 q (by omega) (by omega), lwq q (by omega), b2 q (by omega) (by omega)]
    have fin : ∀ q, (q < 7 ∨ 29 < q ∧ q < 93 ∨ 103 < q) → q ≠ 76 → ρ4 q = μ q := fun q q1 q2 => by rw [v4 q q2 (by omega), lwq q (by omega), b2' q (by omega) q2]
    have hsec : iSec ρ4 := by
      refine ⟨⟨?_, ?_, ?_, fun k hk => ?_⟩, ⟨?_, ?_, ?_, fun k hk => ?_⟩, ⟨?_, ?_, ?_, fun k hk => ?_⟩⟩
      · rw [v4 94 (by omega) (by omega), lw0, st3 7 (by omega) (by omega), u7]
      · rw [st3 7 (by omega) (by omega), u7]; omega
      · rw [st3 7 (by omega) (by omega), u7]; omega
      · rw [st3 7 (by omega) (by omega), u7] at hk
        rw [Nat.zero_add, b93 k (by omega), st3 (7 + 1) (by omega) (by omega), x8 k (by omega)]
      · rw [v4 94 (by omega) (by omega), lw1, st3 9 (by omega) (by omega), u9]
      · rw [st3 9 (by omega) (by omega), u9]; omega
      · rw [st3 9 (by omega) (by omega), u9]; omega
      · rw [st3 9 (by omega) (by omega), u9] at hk
        have hl : k < (preS T n μ ent S ++ [b8 0]).length := by simp only [List.length_append, List.length_cons, List.length_nil]; omega
        rw [o93 (24000 + k) (by omega), s93 k hl, st3 (9 + 1) (by omega) (by omega), x10 k hl]
      · rw [v4 94 (by omega) (by omega), lw2, st3 11 (by omega) (by omega), u11]
      · rw [st3 11 (by omega) (by omega), u11]; omega
      · rw [st3 11 (by omega) (by omega), u11]; omega
      · rw [st3 11 (by omega) (by omega), u11] at hk
        rw [o93 (32000 + k) (by omega), so93 (32000 + k) (by omega), t93 k (by omega), st3 (11 + 1) (by omega) (by omega), x12 k (by omega)]
    have hlay : iLay T ρ4 := iLay_congr a5 hT (fun q hq => by rw [v4 q (by omega) (by omega), lwq q (by omega), b2 q (by omega) (by omega), rall q (by omega)])
    have l76 : ∀ k, k ≠ 0 → k ≠ 23 → k ≠ 26 → k ≠ 29 → k ≠ 32 → k ≠ 36 → ρ4 76 k = μ 76 k := fun k k0 k1 k2 k3 k4 k5 => by rw [w76 k k5, b3 k k0 k1 k2 k3 k4]
    -- the invariant: by way of a memory with the old sections
    obtain ⟨tc, te, tr, tch, ta, tl, ty⟩ := id hTr
    have eT : ∀ k, k ≤ 14 → ρ4 (T + k) = μ (T + k) := fun k hk => fin (T + k) (by omega) (by omega)
    have eM : ∀ q, 77 ≤ q → q ≤ 92 → ρ4 q = μ q := fun q q1 q2 => fin q (by omega) (by omega)
    have t0 : ρ4 T = μ T := eT 0 (by omega)
    refine ⟨_, ρ3, ρ4, E1, E2, ok2, iTape_congr h1 (l76 2 (by omega) (by omega) (by omega) (by omega) (by omega) (by omega)) (by rw [fin 2 (by omega) (by omega)]) (fin 3 (by omega) (by omega)) (eM 77 (by omega) (by omega)), hsec, iFault_congr h3 (fin 46 (by omega) (by omega)) (l76 21 (by omega) (by omega) (by omega) (by omega) (by omega) (by omega)) (l76 22 (by omega) (by omega) (by omega) (by omega) (by omega) (by omega)), T, b, ?_, ?_, ?_, ?_, ?_, ?_, ?_, hlay⟩
    · unfold iBank at hB ⊢; rw [fin 1 (by omega) (by omega), fin 30 (by omega) (by omega), l76 3 (by omega) (by omega) (by omega) (by omega) (by omega) (by omega)]; exact hB
    · unfold iCnt at tc ⊢; rw [t0, eM 78 (by omega) (by omega), eM 79 (by omega) (by omega)]; exact tc
    · unfold iEnt at te ⊢; rw [t0, eT 1 (by omega), eT 2 (by omega), eT 3 (by omega), eT 4 (by omega), eT 5 (by omega), eT 10 (by omega), eM 81 (by omega) (by omega), eM 82 (by omega) (by omega), eM 83 (by omega) (by omega), eM 84 (by omega) (by omega)]; exact te
    · unfold iRoot at tr ⊢; rw [t0, eT 1 (by omega), eT 3 (by omega), eT 4 (by omega), eM 80 (by omega) (by omega)]; exact tr
    · unfold iChl at tch ⊢; rw [t0, eT 3 (by omega), eT 6 (by omega), eT 7 (by omega), eT 8 (by omega), eT 9 (by omega)]; exact tch
    · unfold iAtt iAt1 at ta ⊢; rw [t0, eT 4 (by omega), eT 10 (by omega), eT 11 (by omega), eT 12 (by omega), eT 13 (by omega), eT 14 (by omega), eM 85 (by omega) (by omega), eM 86 (by omega) (by omega), eM 87 (by omega) (by omega), eM 88 (by omega) (by omega), eM 89 (by omega) (by omega), eM 91 (by omega) (by omega), eM 92 (by omega) (by omega), fin 4 (by omega) (by omega), fin 5 (by omega) (by omega)]; exact ta
    · unfold iLet at tl ⊢; rw [eM 90 (by omega) (by omega), eM 91 (by omega) (by omega), fin 4 (by omega) (by omega)]; exact tl
end
end FI
