section DQ
theorem C_zero {s a l : Nat} {μ : bM} (hb : bOk μ) (hs : bStore s) (h : sOk s μ) (hal : a ≤ l) (hl : (l : Int) ≤ μ s 1) : F_X6_zeroFrom s a l μ = some (scan (μ (s + 1)) 0 a (l - a)) := by
  unfold F_X6_zeroFrom
  have h2 := h.2
  have hm := bN_max (s + 1)
  have := loop_scan (F := fun z => F_X6_zeroFrom_2 s l μ z) (f := μ (s + 1)) (w := 0) (non := (-1 : Int)) (fnd := fun j => (j : Int)) (l - a) a ?_ ?_
  · rw [this]
    congr 1
    rcases scan_spec (f := μ (s + 1)) (p := 0) (l - a) a with ⟨e, _⟩ | ⟨c, c1, c2, c3, c4, c5⟩
    · rw [e, if_pos rfl]
    · rw [c4, if_neg (by omega), Int.toNat_natCast]
  · show F_X6_zeroFrom_2 s l μ _ = _
    unfold F_X6_zeroFrom_2
    rw [if_pos (by omega)]
  · intro j h1 h3
    show F_X6_zeroFrom_2 s l μ j = _
    unfold F_X6_zeroFrom_2 
    have hsat : sAt s μ j = μ (s + 1) j % 256 := by unfold sAt; rw [if_pos (by omega), Int.toNat_natCast]
    rw [if_neg (by omega), S_at hb hs h, Option.bind_some, hsat]
    have hby := bO_b (k := j) hb (bStore_d hs)
    by_cases c : μ (s + 1) j = 0
    · rw [if_pos c, c, if_neg (by decide)]
    · rw [if_neg c, if_pos (by omega), bG_pos (by constructor <;> omega)]
theorem M_areBytes {μ : bM} {f : Int} {L : Nat} (hL : μ 76 2 = L) (hL2 : L ≤ 12000) : F_X11_areBytes f μ = some (if L ≤ 255 ∧ (f = 10 ∨ scan (μ 77) 0 0 L = -1) then 1 else 0) := by
  unfold F_X11_areBytes
  rw [hL]
  by_cases c : (255 : Int) < L
  · rw [if_pos c, if_neg (by omega)]
    refine bLoop_done ?_
    show F_X11_areBytes_18 f μ 0 0 = _
    unfold F_X11_areBytes_18
    rw [hL, if_neg (by omega), if_pos rfl, bG_pos (by decide)]
  · rw [if_neg c]
    by_cases c10 : f = 10
    · rw [if_pos ⟨by omega, Or.inl c10⟩]
      refine bLoop_done ?_
      show F_X11_areBytes_18 f μ 1 0 = _
      unfold F_X11_areBytes_18
      rw [hL]
      by_cases c0 : (L : Int) ≤ 0
      · rw [if_pos c0, bG_pos (by decide)]
      · rw [if_neg c0, if_neg (by decide), if_pos c10, bG_pos (by decide)]
    · have H := bLoop_inv (f := fun z : Int × Int => F_X11_areBytes_18 f μ z.1 z.2) (fun z => ∃ j : Nat, j ≤ L ∧ z.2 = j ∧ (z.1 = 1 ∧ (∀ k, k < j → μ 77 k ≠ 0) ∨ z.1 = 0 ∧ ∃ k, k < L ∧ μ 77 k = 0)) (fun z => L - z.2.toNat) (fun r => r = if L ≤ 255 ∧ (f = 10 ∨ scan (μ 77) 0 0 L = -1) then 1 else 0) ?_ (1, 0) ⟨0, by omega, rfl, Or.inl ⟨rfl, fun k hk => by omega⟩⟩
      · obtain ⟨r, h1, h2⟩ := H
        rw [h1, h2]
      · rintro ⟨z1, z2⟩ ⟨j, hj, g1, g2⟩
        simp only at g1 g2
        subst g1
        have hno : (∃ k, k < L ∧ μ 77 k = 0) → ¬ (L ≤ 255 ∧ (f = 10 ∨ scan (μ 77) 0 0 L = -1)) := by
          rintro ⟨k, k1, k2⟩ ⟨_, h⟩
          rcases h with h | h
          · exact c10 h
          · rcases scan_spec (f := μ 77) (p := 0) L 0 with ⟨_, x⟩ | ⟨d, d1, d2, d3, d4, d5⟩
            · exact x k (by omega) (by omega) k2
            · rw [d4] at h; omega
        by_cases cj : j < L
        · rcases g2 with ⟨rfl, g3⟩ | ⟨rfl, g3⟩
          · left
            by_cases cz : μ 77 j = 0
            · refine ⟨(0, (j : Int) + 1), ?_, ⟨j + 1, by omega, by simp, Or.inr ⟨rfl, j, cj, cz⟩⟩, by simp only; omega⟩
              show F_X11_areBytes_18 f μ 1 j = _
              unfold F_X11_areBytes_18
              rw [hL, if_neg (by omega), if_neg (by decide), if_neg c10, bG_pos (by omega), Int.toNat_natCast, if_pos cz, bG_pos (by constructor <;> omega)]
            · refine ⟨(1, (j : Int) + 1), ?_, ⟨j + 1, by omega, by simp, Or.inl ⟨rfl, fun k hk => ?_⟩⟩, by simp only; omega⟩
              · show F_X11_areBytes_18 f μ 1 j = _
                unfold F_X11_areBytes_18
                rw [hL, if_neg (by omega), if_neg (by decide), if_neg c10, bG_pos (by omega), Int.toNat_natCast, if_neg cz, bG_pos (by constructor <;> omega)]
              · by_cases ck : k = j
                · rw [ck]; exact cz
                · exact g3 k (by omega)
          · right
            refine ⟨0, ?_, by rw [if_neg (hno g3)]⟩
            show F_X11_areBytes_18 f μ 0 j = _
            unfold F_X11_areBytes_18
            rw [hL, if_neg (by omega), if_pos rfl, bG_pos (by decide)]
        · right
          have : j = L := by omega
          subst this
          rcases g2 with ⟨rfl, g3⟩ | ⟨rfl, g3⟩
          · refine ⟨1, ?_, by rw [if_pos ⟨by omega, Or.inr (scan_no fun k _ hk => g3 k (by omega))⟩]⟩
            show F_X11_areBytes_18 f μ 1 j = _
            unfold F_X11_areBytes_18
            rw [hL, if_pos (by omega), bG_pos (by decide)]
          · refine ⟨0, ?_, by rw [if_neg (hno g3)]⟩
            show F_X11_areBytes_18 f μ 0 j = _
            unfold F_X11_areBytes_18
            rw [hL, if_pos (by omega), bG_pos (by decide)]
theorem tK {b e A : Nat} : (8 * (400 * (b : Int) + (e : Int)) + ((A : Int) + 1) - 1).toNat = 3200 * b + (8 * e + A) := by omega
/-- the model's step behind all tests -/
theorem M_bytes {b e A P L al : Nat} {μ : bM} {nm fo : Int} (hb : b = 0 ∨ b = 1) (h3 : μ 76 3 = (b : Int)) (he : e < 400) (hA : μ 84 (400 * b + e) = A) (hA8 : A < 8) (hP : μ 91 b = P) (hP2 : P + L ≤ 38000) (hL : μ 76 2 = L) (hL2 : L ≤ 12000) (hal : μ 90 b = al) (hal2 : al ≤ 30000) :
    ∃ σ, F_X11_bytes_87 e nm fo 0 μ = some ((A : Int) + 1, σ) ∧
    (∀ j, σ 84 (400 * b + j) = if j = e then (A : Int) + 1 else μ 84 (400 * b + j)) ∧ (∀ j, σ 85 (3200 * b + j) = if j = 8 * e + A then nm else μ 85 (3200 * b + j)) ∧ (∀ j, σ 86 (3200 * b + j) = if j = 8 * e + A then fo else μ 86 (3200 * b + j)) ∧
    (∀ j, σ 87 (3200 * b + j) = if j = 8 * e + A then 0 else μ 87 (3200 * b + j)) ∧ (∀ j, σ 88 (3200 * b + j) = if j = 8 * e + A then 90000 * (b : Int) + P else μ 88 (3200 * b + j)) ∧ (∀ j, σ 89 (3200 * b + j) = if j = 8 * e + A then (L : Int) else μ 89 (3200 * b + j)) ∧
    σ 90 b = (al : Int) + L ∧ σ 91 b = (P : Int) + L ∧ (∀ k, σ 92 k = if 90000 * b + P ≤ k ∧ k < 90000 * b + P + L then μ 77 (k - (90000 * b + P)) else μ 92 k) ∧ σ 76 0 = 0 ∧ σ 76 2 = 0 ∧ (∀ k, k ≠ 0 → k ≠ 2 → σ 76 k = μ 76 k) ∧
    ∀ q, (q < 84 ∨ 92 < q) → q ≠ 76 → σ q = μ q := by
  obtain ⟨σ0, b1, b2, b3, b4, b5, b6, b7, b8⟩ := M_add (b := b) (e := e) (A := A) (μ := bset μ 76 0 0) (nm := nm) (fo := fo) (va := 0) hb (by rw [bset_k (by omega)]; exact h3) he (by rw [bset_q (by omega)]; exact hA) hA8
  have f76 : ∀ k, k ≠ 0 → σ0 76 k = μ 76 k := fun k k0 => by rw [b8 76 (by omega), bset_k k0]
  have f9 : ∀ q, 90 ≤ q → σ0 q = μ q := fun q hq => by rw [b8 q (by omega), bset_q (by omega)]
  obtain ⟨μ3, hμ3⟩ : ∃ μ3, μ3 = bset (bset (bset σ0 88 (3200 * b + (8 * e + A)) (90000 * (b : Int) + P)) 89 (3200 * b + (8 * e + A)) L) 90 b ((al : Int) + L) := ⟨_, rfl⟩
  have m76 : ∀ k, k ≠ 0 → μ3 76 k = μ 76 k := fun k k0 => by rw [hμ3, bset_q (by omega), bset_q (by omega), bset_q (by omega), f76 k k0]
  have m77 : μ3 77 = μ 77 := by rw [hμ3, bset_q (by omega), bset_q (by omega), bset_q (by omega), b8 77 (by omega), bset_q (by omega)]
  have m88 : μ3 88 (3200 * b + (8 * e + A)) = 90000 * (b : Int) + P := by rw [hμ3, bset_q (by omega), bset_q (by omega), bset_at]
  have m91 : μ3 91 b = P := by rw [hμ3, bset_q (by omega), bset_q (by omega), bset_q (by omega), f9 91 (by omega)]; exact hP
  have LP := bLoop_inv (f := fun z : Int × bM => F_X11_bytes_185 ((A : Int) + 1) (8 * (400 * (b : Int) + e) + ((A : Int) + 1) - 1) z.1 z.2) (fun z => ∃ j : Nat, j ≤ L ∧ z.1 = j ∧ z.2 = bcp μ3 92 (90000 * b + P) j (fun k => μ 77 (k - (90000 * b + P)))) (fun z => L - z.1.toNat) (fun r => r = ((A : Int) + 1, bset (bset (bcp μ3 92 (90000 * b + P) L (fun k => μ 77 (k - (90000 * b + P)))) 91 b ((P : Int) + L)) 76 2 0)) ?_ (0, μ3) ⟨0, by omega, rfl, by rw [bcp_0]⟩
  · obtain ⟨r, l1, l2⟩ := LP
    subst l2
    refine ⟨bset (bset (bcp μ3 92 (90000 * b + P) L (fun k => μ 77 (k - (90000 * b + P)))) 91 b ((P : Int) + L)) 76 2 0, ?_, fun j => ?_, fun j => ?_, fun j => ?_, fun j => ?_, fun j => ?_, fun j => ?_, ?_, ?_, fun k => ?_, ?_, ?_, fun k k0 k2 => ?_, fun q hq q76 => ?_⟩
    rotate_left
    · rw [bset_q (by omega), bset_q (by omega), bcp_q (by omega), hμ3, bset_q (by omega), bset_q (by omega), bset_q (by omega), b2 j, bset_q (by omega)]
    · rw [bset_q (by omega), bset_q (by omega), bcp_q (by omega), hμ3, bset_q (by omega), bset_q (by omega), bset_q (by omega), b3 j, bset_q (by omega)]
    · rw [bset_q (by omega), bset_q (by omega), bcp_q (by omega), hμ3, bset_q (by omega), bset_q (by omega), bset_q (by omega), b4 j, bset_q (by omega)]
    · rw [bset_q (by omega), bset_q (by omega), bcp_q (by omega), hμ3, bset_q (by omega), bset_q (by omega), bset_q (by omega), b5 j, bset_q (by omega)]
    · rw [bset_q (by omega), bset_q (by omega), bcp_q (by omega), hμ3, bset_q (by omega), bset_q (by omega), bset_row, b6 j, bset_q (by omega)]
      by_cases c : j = 8 * e + A
      · rw [if_pos (by omega), if_pos c]
      · rw [if_neg (by omega), if_neg c, if_neg c]
    · rw [bset_q (by omega), bset_q (by omega), bcp_q (by omega), hμ3, bset_q (by omega), bset_row, bset_q (by omega), b7 j, bset_q (by omega)]
      by_cases c : j = 8 * e + A
      · rw [if_pos (by omega), if_pos c]
      · rw [if_neg (by omega), if_neg c, if_neg c]
    · rw [bset_q (by omega), bset_q (by omega), bcp_q (by omega), hμ3, bset_at]
    · rw [bset_q (by omega), bset_at]
    · rw [bset_q (by omega), bset_q (by omega)]
      by_cases c : 90000 * b + P ≤ k ∧ k < 90000 * b + P + L
      · rw [bcp_in c, if_pos c]
      · rw [bcp_out c, if_neg c, hμ3, bset_q (by omega), bset_q (by omega), bset_q (by omega), f9 92 (by omega)]
    · rw [bset_k (by omega), bset_q (by omega), bcp_q (by omega), hμ3, bset_q (by omega), bset_q (by omega), bset_q (by omega), b8 76 (by omega), bset_at]
    · rw [bset_at]
    · rw [bset_k k2, bset_q (by omega), bcp_q (by omega), m76 k k0]
    · rw [bset_q q76, bset_q (by omega), bcp_q (by omega), hμ3, bset_q (by omega), bset_q (by omega), bset_q (by omega), b8 q (by omega), bset_q q76]
    · unfold F_X11_bytes_87
      rw [bset_at, if_pos (by decide), b1, bMm_some, M_at hb (by rw [f76 3 (by omega)]; exact h3) (by omega), Option.bind_some, tK]
      have e90 : σ0 90 b = al := by rw [f9 90 (by omega)]; exact hal
      have e91 : σ0 91 b = P := by rw [f9 91 (by omega)]; exact hP
      have e763 : σ0 76 3 = b := by rw [f76 3 (by omega)]; exact h3
      have e762 : σ0 76 2 = L := by rw [f76 2 (by omega)]; exact hL
      simp (disch := first | omega | decide) only [bG_pos, bMm_some, bXm_inl, bXm_inr, Option.bind_some, bset_q, bset_k, bset_at, if_pos, if_neg, Int.toNat_natCast, e763, e762, e90, e91]
      rw [← hμ3]
      exact l1
  · rintro ⟨z1, z2⟩ ⟨j, hj, g1, g2⟩
    simp only at g1 g2
    subst g1
    subst g2
    have w2 : bcp μ3 92 (90000 * b + P) j (fun k => μ 77 (k - (90000 * b + P))) 76 2 = L := by rw [bcp_q (by omega), m76 2 (by omega)]; exact hL
    by_cases cj : j < L
    · left
      refine ⟨((j : Int) + 1, bcp μ3 92 (90000 * b + P) (j + 1) (fun k => μ 77 (k - (90000 * b + P)))), ?_, ⟨j + 1, by omega, by simp, rfl⟩, by simp only; omega⟩
      show F_X11_bytes_185 ((A : Int) + 1) (8 * (400 * (b : Int) + e) + ((A : Int) + 1) - 1) j (bcp μ3 92 (90000 * b + P) j (fun k => μ 77 (k - (90000 * b + P)))) = _
      unfold F_X11_bytes_185
      rw [w2, if_neg (by omega), bG_pos (by omega), tK, bcp_q (show 88 ≠ 92 by decide), m88, bG_pos (by constructor <;> omega), bG_pos (by omega), bG_pos (by omega), bG_pos (by constructor <;> omega), bcp_q (show 77 ≠ 92 by decide), m77, show (90000 * (b : Int) + P + (j : Int)).toNat = (90000 * b + P) + j by omega, Int.toNat_natCast, bcp_succ (by rw [show 90000 * b + P + j - (90000 * b + P) = j by omega])]
    · right
      have : j = L := by omega
      subst this
      refine ⟨_, ?_, rfl⟩
      show F_X11_bytes_185 ((A : Int) + 1) (8 * (400 * (b : Int) + e) + ((A : Int) + 1) - 1) j (bcp μ3 92 (90000 * b + P) j (fun k => μ 77 (k - (90000 * b + P)))) = _
      unfold F_X11_bytes_185 F_X11_bytes_222
      have w3 : bcp μ3 92 (90000 * b + P) j (fun k => μ 77 (k - (90000 * b + P))) 76 3 = b := by rw [bcp_q (by omega), m76 3 (by omega)]; exact h3
      have w91 : bcp μ3 92 (90000 * b + P) j (fun k => μ 77 (k - (90000 * b + P))) 91 b = P := by rw [bcp_q (by omega)]; exact m91
      rw [w2, if_pos (by omega), w3, bG_pos (by omega), Int.toNat_natCast, w91, bG_pos (by constructor <;> omega), bG_pos (by omega)]
      rfl
end DQ
