section DW
/-- w is the first of the n with P; -1 -/
def fstP (P : Nat → Prop) (n : Nat) (w : Int) : Prop := (w = -1 ∧ ∀ j, j < n → ¬ P j) ∨ ∃ c : Nat, c < n ∧ w = c ∧ P c ∧ ∀ j, j < c → ¬ P j
theorem fstP_uni {P : Nat → Prop} {n : Nat} {w w' : Int} (h : fstP P n w) (h' : fstP P n w') : w = w' := by
  rcases h with ⟨h1, h2⟩ | ⟨c, h1, h2, h3, h4⟩
  · rcases h' with ⟨g1, g2⟩ | ⟨d, g1, g2, g3, g4⟩
    · omega
    · exact absurd g3 (h2 d g1)
  · rcases h' with ⟨g1, g2⟩ | ⟨d, g1, g2, g3, g4⟩
    · exact absurd h3 (g2 c h1)
    · by_cases x : c < d
      · exact absurd h3 (g4 c x)
      · by_cases y : d < c
        · exact absurd g3 (h4 d y)
        · omega
theorem cntC_flat {f : Nat → Int} {p : Int} {x : Nat} : ∀ y, x ≤ y → (∀ k, x ≤ k → k < y → f k ≠ p) → cntC f p y = cntC f p x := by
  intro y
  induction y with
  | zero => intro h _; rw [show x = 0 by omega]
  | succ y ih =>
    intro h hk
    by_cases c : x ≤ y
    · have := ih c (fun k a b => hk k a (by omega))
      rw [← this]
      show cntC f p y + _ = _
      rw [if_neg (hk y c (by omega))]
      omega
    · rw [show x = y + 1 by omega]
section
variable {T b n m : Nat} {μ : bM}
theorem C_childNamed (hok : bOk μ) (h1 : iTape μ) (hN : iNum T b n m μ) (hTr : iTree T b μ) {a : Nat} (ha : a < n) : ∃ w, F_X10_childNamedByTape a μ = some w ∧ fstP (fun j => μ (T + 3) j = a ∧ nmd T μ j) n w := by
  obtain ⟨hT, hb, e15, e763, hn, hm, n4, m6, e78, e79⟩ := id hN
  have hnn : (μ T 1).toNat = n := by omega
  obtain ⟨q1, q2, q3, q4, q5⟩ := hTr.2.2.2.1 a (by omega)
  rw [hnn] at q1 q2
  have H := bLoop_inv (f := fun z : Int × Int => F_X10_childNamedByTape_12 a μ z.1 z.2) (fun z => (z.1 = -1 ∧ 0 ≤ z.2 ∧ ∀ j, j < n → ¬ (μ (T + 3) j = a ∧ nmd T μ j)) ∨ ∃ c : Nat, c < n ∧ z.1 = c ∧ μ (T + 3) c = a ∧ z.2 = cntC (μ (T + 3)) a c ∧ ∀ j, j < c → ¬ (μ (T + 3) j = a ∧ nmd T μ j)) (fun z => if z.1 = -1 then 0 else n - z.1.toNat + 1) (fun w => fstP (fun j => μ (T + 3) j = a ∧ nmd T μ j) n w) ?_ (μ (T + 7) a, 0) ?_
  · obtain ⟨r, r1, r2⟩ := H
    refine ⟨r, ?_, r2⟩
    unfold F_X10_childNamedByTape
    rw [bG_pos (by omega), e15, Int.toNat_natCast, Int.toNat_natCast]
    exact r1
  · rintro ⟨z1, z2⟩ hz
    show (∃ s', F_X10_childNamedByTape_12 a μ z1 z2 = some (Sum.inl s') ∧ _) ∨ ∃ r, F_X10_childNamedByTape_12 a μ z1 z2 = some (Sum.inr r) ∧ _
    unfold F_X10_childNamedByTape_12
    rw [bG_pos (by omega), e15, Int.toNat_natCast, Int.toNat_natCast, q1]
    rcases hz with ⟨g1, g2, g3⟩ | ⟨c, g1, g2, g3, g4, g5⟩
    · simp only at g1 g2
      subst g1
      right
      refine ⟨-1, ?_, Or.inl ⟨rfl, g3⟩⟩
      by_cases x : cntC (μ (T + 3)) a n ≤ z2
      · rw [if_pos x]
      · rw [if_neg x, if_pos rfl]
    · simp only at g2 g4
      subst g2
      have e1 : cntC (μ (T + 3)) a (c + 1) = cntC (μ (T + 3)) a c + 1 := by rw [cntC, if_pos g3]
      have e2 := cntC_mono (f := μ (T + 3)) (p := (a : Int)) (show c + 1 ≤ n by omega)
      have e3 := cntC_0 (f := μ (T + 3)) (p := (a : Int)) c
      have e4 := cntC_le (f := μ (T + 3)) (p := (a : Int)) c
      have nm := C_named hok h1 hN hTr g1
      rw [if_neg (by omega), if_neg (by omega)]
      by_cases x : nmd T μ c
      · right
        rw [nm.1 x, Option.bind_some, if_neg (by decide)]
        exact ⟨_, rfl, Or.inr ⟨c, g1, rfl, ⟨g3, x⟩, g5⟩⟩
      · left
        have p4 := (hTr.2.2.2.1 c (by omega)).2.2.2.1 (by omega)
        rw [hnn, g3] at p4
        rw [nm.2 x, Option.bind_some, if_pos rfl, bG_pos (by omega), bG_pos (by constructor <;> omega), Int.toNat_natCast, p4]
        refine ⟨_, rfl, ?_⟩
        rcases scan_spec (f := μ (T + 3)) (p := (a : Int)) (n - (c + 1)) (c + 1) with ⟨y1, y2⟩ | ⟨d, d1, d2, d3, d4, d5⟩
        · rw [y1]
          refine ⟨Or.inl ⟨rfl, by simp only; omega, fun j hj hP => ?_⟩, by show (if (-1 : Int) = -1 then 0 else _) < _; rw [if_pos rfl, if_neg (by omega)]; omega⟩
          by_cases u : j < c
          · exact g5 j u hP
          · by_cases v : j = c
            · rw [v] at hP; exact x hP.2
            · exact y2 j (by omega) (by omega) hP.1
        · rw [d4]
          refine ⟨Or.inr ⟨d, by omega, rfl, d3, ?_, fun j hj hP => ?_⟩, by simp only; rw [if_neg (by omega), if_neg (by omega)]; omega⟩
          · simp only
            rw [g4, cntC_flat d d1 (fun k k1 k2 => d5 k k1 k2), e1]
          · by_cases u : j < c
            · exact g5 j u hP
            · by_cases v : j = c
              · rw [v] at hP; exact x hP.2
              · exact d5 j (by omega) hj hP.1
  · rw [q2]
    rcases scan_spec (f := μ (T + 3)) (p := (a : Int)) n 0 with ⟨y1, y2⟩ | ⟨d, d1, d2, d3, d4, d5⟩
    · rw [y1]
      exact Or.inl ⟨rfl, by decide, fun j hj hP => y2 j (by omega) (by omega) hP.1⟩
    · rw [d4]
      refine Or.inr ⟨d, by omega, rfl, d3, ?_, fun j hj hP => d5 j (by omega) hj hP.1⟩
      simp only
      rw [cntC_flat (x := 0) d (by omega) (fun k k1 k2 => d5 k k1 k2)]
      rfl
theorem C_rootNamed (hok : bOk μ) (h1 : iTape μ) (hN : iNum T b n m μ) (hTr : iTree T b μ) : ∃ w, F_X10_rootNamedByTape μ = some w ∧ fstP (fun j => μ (T + 3) j = -1 ∧ nmd T μ j) n w := by
  obtain ⟨hT, hb, e15, e763, hn, hm, n4, m6, e78, e79⟩ := id hN
  have H := bLoop_inv (f := fun z : Int => F_X10_rootNamedByTape_2 μ z) (fun z => ∃ u : Nat, u ≤ m ∧ z = u ∧ ∀ v : Nat, v < u → ¬ nmd T μ (μ (T + 1) v).toNat) (fun z => m - z.toNat) (fun w => fstP (fun j => μ (T + 3) j = -1 ∧ nmd T μ j) n w) ?_ 0 ⟨0, by omega, rfl, fun v hv => by omega⟩
  · exact H
  · rintro z ⟨u, hu, g1, g2⟩
    subst g1
    show (∃ s', F_X10_rootNamedByTape_2 μ u = some (Sum.inl s') ∧ _) ∨ ∃ r, F_X10_rootNamedByTape_2 μ u = some (Sum.inr r) ∧ _
    unfold F_X10_rootNamedByTape_2
    rw [e15, Int.toNat_natCast, hm]
    have hroot : ∀ j : Nat, j < n → μ (T + 3) j = -1 → ∃ v : Nat, v < m ∧ μ (T + 1) v = j := fun j hj hp => by
      obtain ⟨-, -, -, p7, -, -, p10, -⟩ := hTr.2.1 j (by omega)
      exact ⟨(μ (T + 4) j).toNat, by omega, (p10 hp).2⟩
    by_cases c : u < m
    · obtain ⟨r1, r2, r3, r4, r5⟩ := hTr.2.2.1 u (by omega)
      obtain ⟨e, he⟩ : ∃ e : Nat, μ (T + 1) u = e := ⟨(μ (T + 1) u).toNat, by omega⟩
      have hen : e < n := by omega
      have nm := C_named hok h1 hN hTr hen
      rw [if_neg (by omega), bG_pos (by omega), Int.toNat_natCast, he]
      by_cases x : nmd T μ e
      · right
        rw [nm.1 x, Option.bind_some, if_neg (by decide), bG_pos (by omega)]
        refine ⟨_, rfl, Or.inr ⟨e, hen, rfl, ⟨by rw [he, Int.toNat_natCast] at r3; exact r3, x⟩, fun j hj hP => ?_⟩⟩
        obtain ⟨v, v1, v2⟩ := hroot j (by omega) hP.1
        by_cases y : v < u
        · have := g2 v y
          rw [v2, Int.toNat_natCast] at this
          exact this hP.2
        · by_cases y2 : v = u
          · rw [y2] at v2; omega
          · have := (hTr.2.2.1 v (by omega)).2.2.2.2 u (by omega)
            omega
      · left
        rw [nm.2 x, Option.bind_some, if_pos rfl, bG_pos (by constructor <;> omega)]
        refine ⟨_, rfl, ⟨u + 1, by omega, by simp, fun v hv => ?_⟩, by omega⟩
        by_cases y : v = u
        · rw [y, he, Int.toNat_natCast]; exact x
        · exact g2 v (by omega)
    · right
      rw [if_pos (by omega)]
      refine ⟨_, rfl, Or.inl ⟨rfl, fun j hj hP => ?_⟩⟩
      obtain ⟨v, v1, v2⟩ := hroot j hj hP.1
      have := g2 v (by omega)
      rw [v2, Int.toNat_natCast] at this
      exact this hP.2
theorem M_findLoop {ν : bM} (h1 : iTape μ) (hN : iNum T b n m μ) (hTr : iTree T b μ) (fr : ∀ q, 77 ≤ q → q ≤ 92 → ν q = μ q) (f3 : ν 76 3 = μ 76 3) {a : Int} : ∃ w, bLoop (fun z => F_X11_find_39 a (μ 2 1) ν z) 0 = some (w, ν) ∧ fstP (fun j => μ (T + 3) j = a ∧ nmd T μ j) n w := by
  obtain ⟨hT, hb, e15, e763, hn, hm, n4, m6, e78, e79⟩ := id hN
  have H := bLoop_inv (f := fun z : Int => F_X11_find_39 a (μ 2 1) ν z) (fun z => ∃ u : Nat, u ≤ n ∧ z = u ∧ ∀ v : Nat, v < u → ¬ (μ (T + 3) v = a ∧ nmd T μ v)) (fun z => n - z.toNat) (fun r => ∃ w, r = (w, ν) ∧ fstP (fun j => μ (T + 3) j = a ∧ nmd T μ j) n w) ?_ 0 ⟨0, by omega, rfl, fun v hv => by omega⟩
  · obtain ⟨r, r1, w, r2, r3⟩ := H
    exact ⟨w, by rw [r1, r2], r3⟩
  · rintro z ⟨u, hu, g1, g2⟩
    subst g1
    show (∃ s', F_X11_find_39 a (μ 2 1) ν u = some (Sum.inl s') ∧ _) ∨ ∃ r, F_X11_find_39 a (μ 2 1) ν u = some (Sum.inr r) ∧ _
    unfold F_X11_find_39
    have v3 : ν 76 3 = b := by rw [f3]; exact e763
    rw [v3, bG_pos (by omega), Int.toNat_natCast, fr 78 (by omega) (by omega), e78]
    by_cases c : u < n
    · have p2 := (hTr.2.1 u (by omega)).1.2.1
      have nm := M_named h1 hN hTr fr f3 c
      rw [if_neg (by omega), M_at hb v3 (by omega), Option.bind_some, bG_pos (by omega), t400, fr 82 (by omega) (by omega), p2]
      by_cases x : μ (T + 3) u = a
      · rw [if_neg (fun y => y x)]
        by_cases x2 : nmd T μ u
        · right
          rw [nm.1 x2, Option.bind_some, if_neg (by decide)]
          exact ⟨_, rfl, _, rfl, Or.inr ⟨u, c, rfl, ⟨x, x2⟩, g2⟩⟩
        · left
          rw [nm.2 x2, Option.bind_some, if_pos rfl, bG_pos (by constructor <;> omega)]
          refine ⟨_, rfl, ⟨u + 1, by omega, by simp, fun v hv => ?_⟩, by omega⟩
          by_cases y : v = u
          · rw [y]; exact fun q => x2 q.2
          · exact g2 v (by omega)
      · left
        rw [if_pos x, bG_pos (by constructor <;> omega)]
        refine ⟨_, rfl, ⟨u + 1, by omega, by simp, fun v hv => ?_⟩, by omega⟩
        by_cases y : v = u
        · rw [y]; exact fun q => x q.1
        · exact g2 v (by omega)
    · right
      rw [if_pos (by omega)]
      exact ⟨_, rfl, _, rfl, Or.inl ⟨rfl, fun j hj => g2 j (by omega)⟩⟩
theorem st_find (h : Inv μ) {a : Int} (ha : bR a) : Step (F_L_find a μ) (F_X11_find a) := by
  obtain ⟨hok, h1, h2, h3, h4⟩ := id h
  obtain ⟨T, b, n, m, hN, hB, hTr⟩ := iMain_view h4
  obtain ⟨hT, hb, e15, e763, hn, hm, n4, m6, e78, e79⟩ := id hN
  by_cases c : a = -1 ∨ 0 ≤ a ∧ a < n
  · obtain ⟨w, w1, w2⟩ : ∃ w, F_X10_find a μ = some (.inl w, bset μ 2 1 0) ∧ fstP (fun j => μ (T + 3) j = a ∧ nmd T μ j) n w := by
      have cut : F_X6_cut 2 0 μ = some (0, bset μ 2 1 0) := S_cut (by decide) h1.2.1
      rcases c with rfl | c
      · obtain ⟨w, w1, w2⟩ := C_rootNamed hok h1 hN hTr
        refine ⟨w, ?_, w2⟩
        unfold F_X10_find F_X10_find_10
        rw [if_pos rfl, if_neg (by decide), w1, Option.bind_some, cut, bMm_some]
      · obtain ⟨e, rfl⟩ : ∃ u : Nat, a = u := ⟨a.toNat, by omega⟩
        obtain ⟨w, w1, w2⟩ := C_childNamed hok h1 hN hTr (a := e) (by omega)
        refine ⟨w, ?_, w2⟩
        unfold F_X10_find F_X10_find_10
        rw [if_neg (by omega), C_needEntry hN, if_pos c, bXm_inl, if_pos (by omega), w1, Option.bind_some, cut, bMm_some]
    have hw : -1 ≤ w ∧ w < n := by rcases w2 with ⟨x, -⟩ | ⟨x, x1, x2, -⟩ <;> omega
    have E1 : F_L_find a μ = some (0, bset (bset μ 2 1 0) 112 0 w, 0) := by unfold F_L_find; rw [w1]; rfl
    obtain ⟨μ1, hμ1⟩ : ∃ μ1, μ1 = bset (bset μ 2 1 0) 112 0 w := ⟨_, rfl⟩
    rw [← hμ1] at E1
    have ok1 := kp_L_find a ha hok E1
    have f1 : ∀ q, q ≠ 112 → q ≠ 2 → μ1 q = μ q := fun q q1 q2 => by rw [hμ1, bset_q q1, bset_q q2]
    obtain ⟨ν, hν⟩ : ∃ ν, ν = bset (bset μ1 76 0 0) 76 2 0 := ⟨_, rfl⟩
    have f2 : ∀ q, q ≠ 112 → q ≠ 2 → q ≠ 76 → ν q = μ q := fun q q1 q2 q3 => by rw [hν, bset_q q3, bset_q q3, f1 q q1 q2]
    have f76 : ∀ k, k ≠ 0 → k ≠ 2 → ν 76 k = μ 76 k := fun k k0 k2 => by rw [hν, bset_k k2, bset_k k0, f1 76 (by omega) (by omega)]
    obtain ⟨w', y1, y2⟩ := M_findLoop (ν := ν) (a := a) h1 hN hTr (fun q q1 q2 => f2 q (by omega) (by omega) (by omega)) (f76 3 (by omega) (by omega))
    have hww := fstP_uni w2 y2
    subst hww
    have m2 : bset μ1 76 0 0 76 2 = μ 2 1 := by rw [bset_k (by omega), f1 76 (by omega) (by omega)]; exact h1.1
    have E19 : F_X11_find_14 a μ1 = some (w, ν) := by
      unfold F_X11_find_14 F_X11_find_19
      rw [goes_1, bMm_some, if_pos (by decide), m2, ← hν]
      exact y1
    have E2 : F_X11_find a μ1 = some (w, ν) := by
      have hN1 : iNum T b n m μ1 := iNum_congr hN (by rw [f1 1 (by omega) (by omega)]) (by rw [f1 76 (by omega) (by omega)]) (f1 T (by omega) (by omega)) (f1 78 (by omega) (by omega)) (f1 79 (by omega) (by omega))
      unfold F_X11_find
      by_cases x : a = -1
      · rw [if_pos x, E19]
      · rw [if_neg x, M_isEntry hN1, b01_1 (by omega), Option.bind_some, if_neg (by decide), E19]
    have ok2 := kp_X11_find a ha ok1 E2
    have n2 : ν 2 1 = 0 := by rw [hν, bset_q (by omega), bset_q (by omega), hμ1, bset_q (by omega), bset_at]
    have n76 : ν 76 2 = 0 := by rw [hν, bset_at]
    refine ⟨0, w, μ1, ν, 0, E1, by omega, E2, by rw [hν, bset_k (by omega), bset_at], fun _ => by rw [hν, bset_q (by omega), bset_q (by omega), hμ1, bset_at], ok2, ⟨by rw [n76, n2], by omega, by omega, fun k hk => by omega⟩, iSec_congr h2 (fun q _ _ => f2 q (by omega) (by omega) (by omega)) (f2 93 (by omega) (by omega) (by omega)) (f2 94 (by omega) (by omega) (by omega)), iFault_congr h3 (f2 46 (by omega) (by omega) (by omega)) (f76 21 (by omega) (by omega)) (f76 22 (by omega) (by omega)), iMain_congr (fun q m => ?_) (f76 3 (by omega) (by omega)) h4⟩
    unfold mainIds at m
    exact f2 q (by omega) (by omega) (by omega)
  · refine St_thr2 h (k := 1) (r := 0) (by decide) (by decide) ?_ ?_
    · have E0 : F_X10_find a μ = some (.inr "java/lang/IndexOutOfBoundsException", μ) := by
        unfold F_X10_find
        rw [if_neg (by omega), C_needEntry hN, if_neg (by omega), bXm_inr]
      unfold F_L_find
      rw [E0]
      rfl
    · unfold F_X11_find F_X11_find_19
      rw [if_neg (by omega), M_isEntry hN, b01_0 (by omega), Option.bind_some, if_pos rfl, goes_0, bMm_some, if_neg (by decide)]
end
end DW
