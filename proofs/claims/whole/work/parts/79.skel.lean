section DJ
/-! one entry more -/
def iSkel (T b : Nat) (μ : bM) : Prop := iCnt T b μ ∧ iEnt T b μ ∧ iRoot T b μ ∧ iChl T μ
section
variable {T b n m : Nat} {μ μ' : bM} {tag par u d : Int}
/-- the rows behind one entry more, told by those before -/
def addE (T b n m : Nat) (tag par u d : Int) (μ μ' : bM) : Prop :=
  (μ' T 1 = (n : Int) + 1 ∧ μ' T 0 = (m : Int) + (if par = -1 then 1 else 0) ∧ μ' 78 b = (n : Int) + 1 ∧ μ' 79 b = (m : Int) + (if par = -1 then 1 else 0)) ∧
  (∀ j : Nat, μ' (T + 1) j = if par = -1 ∧ j = m then (n : Int) else μ (T + 1) j) ∧
  (∀ j : Nat, μ' (T + 2) j = if j = n then tag else μ (T + 2) j) ∧
  (∀ j : Nat, μ' (T + 3) j = if j = n then par else μ (T + 3) j) ∧
  (∀ j : Nat, μ' (T + 4) j = if j = n then u else μ (T + 4) j) ∧
  (∀ j : Nat, μ' (T + 5) j = if j = n then d else μ (T + 5) j) ∧
  (∀ j : Nat, μ' (T + 6) j = if j = n then 0 else if (j : Int) = par then μ (T + 6) j + 1 else μ (T + 6) j) ∧
  (∀ j : Nat, μ' (T + 7) j = if j = n then -1 else if (j : Int) = par ∧ μ (T + 6) j = 0 then (n : Int) else μ (T + 7) j) ∧
  (∀ j : Nat, μ' (T + 8) j = if j = n then -1 else if (j : Int) = par then (n : Int) else μ (T + 8) j) ∧
  (∀ j : Nat, μ' (T + 9) j = if j = n then -1 else if 0 ≤ par ∧ μ (T + 6) par.toNat ≠ 0 ∧ (j : Int) = μ (T + 8) par.toNat then (n : Int) else μ (T + 9) j) ∧
  (∀ j : Nat, μ' (T + 10) j = if j = n then 0 else μ (T + 10) j) ∧
  (∀ j : Nat, j < 6 → μ' 80 (6 * b + j) = if par = -1 ∧ j = m then (n : Int) else μ 80 (6 * b + j)) ∧
  (∀ j : Nat, j < 400 → μ' 81 (400 * b + j) = if j = n then tag else μ 81 (400 * b + j)) ∧
  (∀ j : Nat, j < 400 → μ' 82 (400 * b + j) = if j = n then par else μ 82 (400 * b + j)) ∧
  (∀ j : Nat, j < 400 → μ' 83 (400 * b + j) = if j = n then u else μ 83 (400 * b + j)) ∧
  (∀ j : Nat, j < 400 → μ' 84 (400 * b + j) = if j = n then 0 else μ 84 (400 * b + j))
theorem skel_add (hs : iSkel T b μ) (hn : μ T 1 = (n : Int)) (hm : μ T 0 = (m : Int)) (n4 : n < 400) (m6 : m ≤ 6) (ht : 1 ≤ tag ∧ tag ≤ 16383)
    (hp : par = -1 ∧ u = m ∧ d = 0 ∧ m < 6 ∨ (0 ≤ par ∧ par < n) ∧ u = μ (T + 4) par.toNat ∧ d = μ (T + 5) par.toNat + 1 ∧ d ≤ 30) (ha : addE T b n m tag par u d μ μ') : iSkel T b μ' := by
  obtain ⟨hc, he, hr, hch⟩ := hs
  obtain ⟨⟨c1, c0, d1, d0⟩, a1, a2, a3, a4, a5, a6, a7, a8, a9, a10, b0, b1, b2, b3, b4⟩ := ha
  have hle : (m : Int) ≤ (m : Int) + (if par = -1 then 1 else 0) := by split <;> omega
  have hu : 0 ≤ u ∧ u < (m : Int) + (if par = -1 then 1 else 0) := by
    rcases hp with ⟨h1, h2, h3, h4⟩ | ⟨h1, h2, h3, h4⟩
    · rw [if_pos h1]; omega
    · rw [if_neg (by omega)]
      have := (he par.toNat (by omega)).2.2.2.1
      omega
  have hd : 0 ≤ d ∧ d ≤ 30 := by
    rcases hp with ⟨h1, h2, h3, h4⟩ | ⟨h1, h2, h3, h4⟩
    · omega
    · have := (he par.toNat (by omega)).2.2.2.2.2.1
      omega
  have hpar : -1 ≤ par ∧ par < n := by rcases hp with ⟨h1, h2, h3, h4⟩ | ⟨h1, h2, h3, h4⟩ <;> omega
  have a3o : ∀ k, k < n → μ' (T + 3) k = μ (T + 3) k := fun k hk => by rw [a3, if_neg (by omega)]
  have c1n : (μ' T 1).toNat = n + 1 := by omega
  have hnn : (μ T 1).toNat = n := by omega
  refine ⟨⟨⟨by omega, by omega⟩, ⟨by omega, ?_⟩, by omega, by omega⟩, fun e h => ?_, fun w h => ?_, fun e h => ?_⟩
  · rw [c0]
    rcases hp with ⟨h1, h2, h3, h4⟩ | ⟨h1, h2, h3, h4⟩
    · rw [if_pos h1]; omega
    · rw [if_neg (by omega)]; omega
  · rw [c1] at h
    by_cases x : e = n
    · subst x
      rw [b1 e n4, b2 e n4, b3 e n4, b4 e n4, a2 e, a3 e, a4 e, a5 e, a10 e, c0]
      simp only [if_true]
      refine ⟨⟨trivial, trivial, trivial, trivial⟩, ht, hpar, hu, by decide, hd, fun h1 => ?_, fun h1 => ?_⟩
      · rcases hp with ⟨g1, g2, g3, g4⟩ | ⟨g1, g2, g3, g4⟩
        · exact ⟨g3, by rw [a1, if_pos ⟨g1, by omega⟩]⟩
        · omega
      · rcases hp with ⟨g1, g2, g3, g4⟩ | ⟨g1, g2, g3, g4⟩
        · omega
        · rw [a5, a4, if_neg (by omega), if_neg (by omega)]
          exact ⟨g3, g2⟩
    · have hlt : e < n := by omega
      obtain ⟨⟨p1, p2, p3, p4⟩, p5, p6, p7, p8, p9, p10, p11⟩ := he e (by omega)
      rw [b1 e (by omega), b2 e (by omega), b3 e (by omega), b4 e (by omega), a2 e, a3 e, a4 e, a5 e, a10 e, c0]
      simp only [if_neg x]
      refine ⟨⟨p1, p2, p3, p4⟩, p5, p6, by omega, p8, p9, fun h1 => ?_, fun h1 => ?_⟩
      · rw [a1, if_neg (by omega)]; exact p10 h1
      · rw [a5, a4, if_neg (by omega), if_neg (by omega)]; exact p11 h1
  · rw [c0] at h
    by_cases x : par = -1 ∧ w = m
    · rcases hp with ⟨g1, g2, g3, g4⟩ | ⟨g1, g2, g3, g4⟩
      · rw [b0 w (by omega), a1 w, if_pos x, if_pos x]
        refine ⟨rfl, by omega, ?_, ?_, fun v hv => ?_⟩
        · rw [Int.toNat_natCast, a3, if_pos rfl]; exact g1
        · rw [Int.toNat_natCast, a4, if_pos rfl]; omega
        · rw [a1, if_neg (by omega)]
          have := (hr v (by omega)).2.1
          omega
      · omega
    · have hw : w < m := by
        by_cases y : par = -1
        · rw [if_pos y] at h; omega
        · rw [if_neg y] at h; omega
      obtain ⟨p1, p2, p3, p4, p5⟩ := hr w (by omega)
      rw [b0 w (by omega), a1 w, if_neg x, if_neg x]
      refine ⟨p1, by omega, ?_, ?_, fun v hv => ?_⟩
      · rw [a3, if_neg (by omega)]; exact p3
      · rw [a4, if_neg (by omega)]; exact p4
      · rw [a1, if_neg (by omega)]; exact p5 v hv
  · rw [c1] at h
    rw [c1n]
    have hcnt : ∀ q : Int, cntC (μ' (T + 3)) q (n + 1) = cntC (μ (T + 3)) q n + (if par = q then 1 else 0) := fun q => by
      show cntC (μ' (T + 3)) q n + _ = _
      rw [cntC_congr n a3o, a3 n, if_pos rfl]
    have hlst : ∀ q : Int, lstC (μ' (T + 3)) q (n + 1) = if par = q then (n : Int) else lstC (μ (T + 3)) q n := fun q => by
      show (if μ' (T + 3) n = q then (n : Int) else lstC (μ' (T + 3)) q n) = _
      rw [lstC_congr n a3o, a3 n, if_pos rfl]
    have hsc : ∀ (q : Int) (a : Nat), a ≤ n → scan (μ' (T + 3)) q a (n + 1 - a) = if scan (μ (T + 3)) q a (n - a) = -1 then (if par = q then (n : Int) else -1) else scan (μ (T + 3)) q a (n - a) := fun q a ha => by
      rw [show n + 1 - a = (n - a) + 1 by omega, scan_snoc, scan_congr (g := μ (T + 3)) (fun k h1 h2 => a3o k (by omega)), show a + (n - a) = n by omega, a3 n, if_pos rfl]
    have hsc0 : ∀ q : Int, scan (μ' (T + 3)) q 0 (n + 1) = if scan (μ (T + 3)) q 0 n = -1 then (if par = q then (n : Int) else -1) else scan (μ (T + 3)) q 0 n := fun q => hsc q 0 (by omega)
    rw [hcnt, hlst, hsc0]
    by_cases x : e = n
    · subst x
      have hno : ∀ k, k < e → μ (T + 3) k ≠ e := fun k hk => by
        have := (he k (by omega)).2.2.1
        omega
      have z1 : scan (μ (T + 3)) e 0 e = -1 := scan_no fun k _ hk => hno k (by omega)
      have z2 : cntC (μ (T + 3)) e e = 0 := (cntC_scan e).mpr z1
      have z3 : lstC (μ (T + 3)) e e = -1 := by
        rcases lstC_spec (f := μ (T + 3)) (p := (e : Int)) e with ⟨h1, _⟩ | ⟨c, h1, h2, _⟩
        · exact h1
        · exact absurd h2 (hno c h1)
      have np : ¬ par = (e : Int) := by omega
      rw [a6, a7, a8, a9, a3, z1, z2, z3, if_pos rfl, if_pos rfl, if_pos rfl, if_pos rfl, if_pos rfl, if_pos rfl, if_neg np, if_neg np]
      refine ⟨rfl, rfl, rfl, fun _ => ?_, fun _ => rfl⟩
      rw [show e + 1 - (e + 1) = 0 by omega]
      rfl
    · have hlt : e < n := by omega
      obtain ⟨p1, p2, p3, p4, p5⟩ := hch e (by omega)
      rw [hnn] at p1 p2 p3 p4
      rw [a6, a7, a8, a9, a3, if_neg x, if_neg x, if_neg x, if_neg x, if_neg x, p1, p2, p3]
      by_cases y : (e : Int) = par
      · have y' : par = (e : Int) := y.symm
        rw [if_pos y, if_pos y', if_pos y, if_pos y', if_pos y']
        refine ⟨rfl, ?_, rfl, ?_⟩
        · by_cases w : cntC (μ (T + 3)) e n = 0
          · rw [if_pos ⟨y, w⟩, if_pos ((cntC_scan n).mp w)]
          · rw [if_neg (fun h => w h.2), if_neg (fun h => w ((cntC_scan n).mpr h))]
        · have q0 : 0 ≤ par := by omega
          have qe : par.toNat = e := by omega
          rw [qe]
          have nl : ¬ ((e : Int) = μ (T + 8) e) ∨ lstC (μ (T + 3)) e n = -1 := by
            rcases lstC_spec (f := μ (T + 3)) (p := (e : Int)) n with ⟨h1, _⟩ | ⟨c, h1, h2, h3, _⟩
            · exact Or.inr h1
            · left
              rw [p3, h3]
              have := (he c (by omega)).2.2.1
              omega
          have ne : ¬ (0 ≤ par ∧ μ (T + 6) e ≠ 0 ∧ (e : Int) = μ (T + 8) e) := by
            rintro ⟨_, _, h⟩
            rcases nl with h1 | h1
            · exact h1 h
            · rw [p3, h1] at h; omega
          rw [if_neg ne]
          refine ⟨fun h => ?_, p5⟩
          have pe := (he e (by omega)).2.2.1
          rw [p4 h, hsc _ (e + 1) (by omega)]
          by_cases w : scan (μ (T + 3)) (μ (T + 3) e) (e + 1) (n - (e + 1)) = -1
          · rw [if_pos w, w, if_neg (by omega)]
          · rw [if_neg w]
      · have y' : ¬ par = (e : Int) := fun h => y h.symm
        rw [if_neg y, if_neg y', if_neg (fun h => y h.1), if_neg y, if_neg y', if_neg y']
        refine ⟨by omega, ?_, rfl, ?_⟩
        · by_cases w : scan (μ (T + 3)) e 0 n = -1
          · rw [if_pos w, w]
          · rw [if_neg w]
        · by_cases z : 0 ≤ par ∧ μ (T + 6) par.toNat ≠ 0 ∧ (e : Int) = μ (T + 8) par.toNat
          · rw [if_pos z]
            obtain ⟨q1, q2, q3, _, _⟩ := hch par.toNat (by omega)
            rw [hnn] at q1 q2 q3
            have qe : ((par.toNat : Nat) : Int) = par := by omega
            rcases lstC_spec (f := μ (T + 3)) (p := ((par.toNat : Nat) : Int)) n with ⟨h1, _⟩ | ⟨c, h1, h2, h3, h4⟩
            · have := z.2.2
              rw [q3, h1] at this
              omega
            · have ce : c = e := by
                have := z.2.2
                rw [q3, h3] at this
                omega
              subst ce
              rw [qe] at h2
              refine ⟨fun h => ?_, fun h => by omega⟩
              rw [hsc _ (c + 1) (by omega), h2]
              rw [scan_no (fun k k1 k2 => by rw [← qe]; exact h4 k (by omega) (by omega)), if_pos rfl, if_pos rfl]
          · rw [if_neg z]
            refine ⟨fun h => ?_, p5⟩
            have pe := (he e (by omega)).2.2.1
            rw [p4 h, hsc _ (e + 1) (by omega)]
            by_cases w : scan (μ (T + 3)) (μ (T + 3) e) (e + 1) (n - (e + 1)) = -1
            · rw [if_pos w, w]
              by_cases v : par = μ (T + 3) e
              · exfalso
                apply z
                obtain ⟨q1, q2, q3, _, _⟩ := hch par.toNat (by omega)
                rw [hnn] at q1 q2 q3
                have qe : ((par.toNat : Nat) : Int) = par := by omega
                rw [qe] at q1 q3
                have hl : lstC (μ (T + 3)) par n = e := by
                  rcases lstC_spec (f := μ (T + 3)) (p := par) n with ⟨h1, h2⟩ | ⟨c, h1, h2, h3, h4⟩
                  · exact absurd v.symm (h2 e hlt)
                  · by_cases u1 : c < e
                    · exact absurd v.symm (h4 e u1 hlt)
                    · by_cases u2 : e < c
                      · rcases scan_spec (f := μ (T + 3)) (p := μ (T + 3) e) (n - (e + 1)) (e + 1) with ⟨_, g2⟩ | ⟨g, g1, g2, g3, g4, g5⟩
                        · exact absurd (by rw [h2, v]) (g2 c (by omega) (by omega))
                        · rw [g4] at w; omega
                      · rw [h3]; omega
                refine ⟨by omega, ?_, by rw [q3, hl]⟩
                rw [q1]
                intro h0
                have := (cntC_scan n).mp h0
                rcases scan_spec (f := μ (T + 3)) (p := par) n 0 with ⟨_, g2⟩ | ⟨g, g1, g2, g3, g4, g5⟩
                · exact absurd v.symm (g2 e (by omega) (by omega))
                · rw [g4] at this; omega
              · rw [if_neg v]
            · rw [if_neg w]
end
end DJ
