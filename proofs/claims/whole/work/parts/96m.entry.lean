section FV
/-! one entry read -/
/-- the class's cells out of one memory, the model's out of another; the units and the roots that the class tells -/
def mx (T b : Nat) (μ ν : bM) : bM := fun q k => if q < 76 then μ q k else if q = 79 ∧ k = b then μ T 0 else if q = 80 ∧ 6 * b ≤ k ∧ k < 6 * b + 6 then μ (T + 1) (k - 6 * b) else ν q k
def Sk (T b : Nat) (μ ν : bM) : Prop := iSkel T b (mx T b μ ν)
section
variable {r : Nat → Nat → Int} {sz : Nat → Nat} {μ ν μ' ν' : bM} {T b e A p E L P j s sI N n m : Nat} {tag par u d : Int}
theorem mx_c {q : Nat} (h : q < 76) : mx T b μ ν q = μ q := by
  funext k
  unfold mx
  rw [if_pos h]
theorem mx_m {q : Nat} (h : 76 ≤ q) (h1 : q ≠ 79) (h2 : q ≠ 80) : mx T b μ ν q = ν q := by
  funext k
  unfold mx
  rw [if_neg (by omega), if_neg (by omega), if_neg (by omega)]
theorem mx_79 : mx T b μ ν 79 b = μ T 0 := by
  unfold mx
  rw [if_neg (by omega), if_pos ⟨rfl, rfl⟩]
theorem mx_80 {u : Nat} (h : u < 6) : mx T b μ ν 80 (6 * b + u) = μ (T + 1) u := by
  unfold mx
  rw [if_neg (by omega), if_neg (by omega), if_pos (by omega)]
  congr 1
  omega
theorem Sk_iff (hT : T = 31 ∨ T = 61) : Sk T b μ ν ↔ (((0 ≤ μ T 1 ∧ μ T 1 ≤ 400) ∧ (0 ≤ μ T 0 ∧ μ T 0 ≤ 6) ∧ ν 78 b = μ T 1) ∧ (∀ e : Nat, (e : Int) < μ T 1 →
  (ν 81 (400 * b + e) = μ (T + 2) e ∧ ν 82 (400 * b + e) = μ (T + 3) e ∧ ν 83 (400 * b + e) = μ (T + 4) e ∧ ν 84 (400 * b + e) = μ (T + 10) e) ∧
  (1 ≤ μ (T + 2) e ∧ μ (T + 2) e ≤ 16383) ∧ (-1 ≤ μ (T + 3) e ∧ μ (T + 3) e < e) ∧ (0 ≤ μ (T + 4) e ∧ μ (T + 4) e < μ T 0) ∧ (0 ≤ μ (T + 10) e ∧ μ (T + 10) e ≤ 8) ∧ (0 ≤ μ (T + 5) e ∧ μ (T + 5) e ≤ 30) ∧
  (μ (T + 3) e = -1 → μ (T + 5) e = 0 ∧ μ (T + 1) (μ (T + 4) e).toNat = e) ∧ (0 ≤ μ (T + 3) e → μ (T + 5) e = μ (T + 5) (μ (T + 3) e).toNat + 1 ∧ μ (T + 4) e = μ (T + 4) (μ (T + 3) e).toNat)) ∧
  (∀ u : Nat, (u : Int) < μ T 0 → (0 ≤ μ (T + 1) u ∧ μ (T + 1) u < μ T 1) ∧ μ (T + 3) (μ (T + 1) u).toNat = -1 ∧ μ (T + 4) (μ (T + 1) u).toNat = u ∧ ∀ v : Nat, v < u → μ (T + 1) v < μ (T + 1) u) ∧ iChl T μ) := by
  unfold Sk iSkel iCnt iEnt iRoot iChl
  rw [mx_c (q := T) (by omega), mx_c (q := T + 1) (by omega), mx_c (q := T + 2) (by omega), mx_c (q := T + 3) (by omega), mx_c (q := T + 4) (by omega), mx_c (q := T + 5) (by omega), mx_c (q := T + 6) (by omega), mx_c (q := T + 7) (by omega), mx_c (q := T + 8) (by omega), mx_c (q := T + 9) (by omega), mx_c (q := T + 10) (by omega), mx_m (q := 78) (by omega) (by omega) (by omega), mx_m (q := 81) (by omega) (by omega) (by omega), mx_m (q := 82) (by omega) (by omega) (by omega), mx_m (q := 83) (by omega) (by omega) (by omega), mx_m (q := 84) (by omega) (by omega) (by omega), mx_79]
  constructor
  · rintro ⟨⟨a1, a2, a3, a4⟩, h2, h3, h4⟩
    exact ⟨⟨a1, a2, a3⟩, h2, fun u hu => (h3 u hu).2, h4⟩
  · rintro ⟨⟨a1, a2, a3⟩, h2, h3, h4⟩
    exact ⟨⟨a1, a2, a3, rfl⟩, h2, fun u hu => ⟨mx_80 (by omega), h3 u hu⟩, h4⟩
/-- the model's memory behind one entry more -/
def mkM (ν : bM) (b n : Nat) (tag par u : Int) : bM := bset (bset (bset (bset (bset ν 78 b ((n : Int) + 1)) 81 (400 * b + n) tag) 82 (400 * b + n) par) 83 (400 * b + n) u) 84 (400 * b + n) 0
theorem M_make2 (hb : b = 0 ∨ b = 1) (h3 : ν 76 3 = (b : Int)) (hn : ν 78 b = (n : Int)) (n4 : n < 400) : F_X11_make tag par u ν = some ((n : Int), mkM ν b n tag par u) := by
  unfold F_X11_make F_X11_at mkM
  simp (disch := first | omega | decide) only [bG_pos, bMm_some, bXm_inl, bXm_inr, Option.bind_some, bset_q, bset_k, bset_at, if_pos, if_neg, Int.toNat_natCast, hn, h3, t400]
theorem Sk_add (hT : T = 31 ∨ T = 61) (hs : Sk T b μ ν) (hn : μ T 1 = (n : Int)) (hm : μ T 0 = (m : Int)) (n4 : n < 400) (m6 : m ≤ 6) (ht : 1 ≤ tag ∧ tag ≤ 16383)
    (hp : par = -1 ∧ u = m ∧ d = 0 ∧ m < 6 ∨ (0 ≤ par ∧ par < n) ∧ u = μ (T + 4) par.toNat ∧ d = μ (T + 5) par.toNat + 1 ∧ d ≤ 30) (ha : addC T n m tag par u d μ μ') : Sk T b μ' (mkM ν b n tag par u) := by
  refine skel_add (μ := mx T b μ ν) (n := n) (m := m) (tag := tag) (par := par) (u := u) (d := d) hs (by rw [mx_c (by omega)]; exact hn) (by rw [mx_c (by omega)]; exact hm) n4 m6 ht ?_ ?_
  · rw [mx_c (q := T + 4) (by omega), mx_c (q := T + 5) (by omega)]
    exact hp
  · obtain ⟨⟨c1, c0⟩, a1, a2, a3, a4, a5, a6, a7, a8, a9, a10⟩ := ha
    unfold addE
    rw [mx_79]
    simp (disch := omega) only [mx_c, mx_m]
    refine ⟨⟨c1, c0, by unfold mkM; simp (disch := first | omega | decide) only [bset_q, bset_k, bset_at], c0⟩, a1, a2, a3, a4, a5, a6, a7, a8, a9, a10, fun j hj => ?_, fun j hj => ?_, fun j hj => ?_, fun j hj => ?_, fun j hj => ?_⟩
    · rw [mx_80 hj, mx_80 hj, a1 j]
    · unfold mkM
      simp (disch := first | omega | decide) only [bset_q, bset_row, Nat.add_left_cancel_iff]
    · unfold mkM
      simp (disch := first | omega | decide) only [bset_q, bset_row, Nat.add_left_cancel_iff]
    · unfold mkM
      simp (disch := first | omega | decide) only [bset_q, bset_row, Nat.add_left_cancel_iff]
    · unfold mkM
      simp (disch := first | omega | decide) only [bset_q, bset_row, Nat.add_left_cancel_iff]
theorem Sk_att (hT : T = 31 ∨ T = 61) (hs : Sk T b μ ν) (hn : μ T 1 = (n : Int)) (hC : ∀ q, T ≤ q → q ≤ T + 9 → μ' q = μ q) (hM : ∀ q k, q = 78 ∧ k = b ∨ 81 ≤ q ∧ q ≤ 83 → ν' q k = ν q k)
    (h10 : ∀ j, j < n → j ≠ e → μ' (T + 10) j = μ (T + 10) j ∧ ν' 84 (400 * b + j) = ν 84 (400 * b + j)) (h1 : μ' (T + 10) e = (N : Int)) (h2 : ν' 84 (400 * b + e) = (N : Int)) (hN : N ≤ 8) : Sk T b μ' ν' := by
  rw [Sk_iff hT] at hs ⊢
  obtain ⟨⟨a1, a2, a3⟩, h3, h4, h5⟩ := hs
  unfold iChl at h5 ⊢
  have t0 := hC T (by omega) (by omega)
  rw [hC (T + 1) (by omega) (by omega), hC (T + 2) (by omega) (by omega), hC (T + 3) (by omega) (by omega), hC (T + 4) (by omega) (by omega), hC (T + 5) (by omega) (by omega), hC (T + 6) (by omega) (by omega), hC (T + 7) (by omega) (by omega), hC (T + 8) (by omega) (by omega), hC (T + 9) (by omega) (by omega), t0]
  refine ⟨⟨a1, a2, ?_⟩, fun i hi => ?_, h4, h5⟩
  · rw [hM 78 b (by omega)]; exact a3
  · obtain ⟨⟨x1, x2, x3, x4⟩, x5, x6, x7, x8, x9⟩ := h3 i hi
    rw [hM 81 _ (by omega), hM 82 _ (by omega), hM 83 _ (by omega)]
    by_cases c : i = e
    · rw [c] at x1 x2 x3 x4 x5 x6 x7 x8 x9 ⊢
      rw [h1, h2]
      exact ⟨⟨x1, x2, x3, rfl⟩, x5, x6, x7, by omega, x9⟩
    · obtain ⟨y1, y2⟩ := h10 i (by omega) c
      rw [y1, y2]
      exact ⟨⟨x1, x2, x3, x4⟩, x5, x6, x7, x8, x9⟩
theorem TB_cong {S : Nat} (h : TB S μ ν) (hC : ∀ q, 49 ≤ q → q ≤ 58 → μ' q = μ q) (hM : ∀ q, 104 ≤ q → q ≤ 109 → ν' q = ν q) (h43 : ν' 76 43 = ν 76 43) : TB S μ' ν' := by
  obtain ⟨t1, t2, t3, t4, t5, t6⟩ := h
  have e50 := hC 50 (by omega) (by omega)
  have e51 := hC 51 (by omega) (by omega)
  have e52 := hC 52 (by omega) (by omega)
  have e53 := hC 53 (by omega) (by omega)
  have e54 := hC 54 (by omega) (by omega)
  have e55 := hC 55 (by omega) (by omega)
  refine ⟨t1, by rw [hC 49 (by omega) (by omega)]; exact t2, by rw [h43]; exact t3, chOk_cong t4 (hC 57 (by omega) (by omega)) (hC 58 (by omega) (by omega)) (fun s _ => by rw [e55]), fun s hs => ?_, fun s hs t ht => ?_⟩
  · obtain ⟨y1, y2, y3⟩ := t5 s hs
    rw [e55, hM 104 (by omega) (by omega)]
    exact ⟨Row1_cong y1 ⟨by rw [e50], by rw [e51], by rw [e52]⟩ (fun k _ _ => ⟨by rw [e53], by rw [e54]⟩) ⟨by rw [hM 105 (by omega) (by omega)], by rw [hM 106 (by omega) (by omega)], by rw [hM 107 (by omega) (by omega)]⟩ (fun k _ _ => ⟨by rw [hM 108 (by omega) (by omega)], by rw [hM 109 (by omega) (by omega)]⟩), y2, y3⟩
  · rw [hM 104 (by omega) (by omega)]
    exact t6 s hs t ht
theorem At0_cong (h : At0 r sz T b μ ν j) (hc : ∀ q, q = 60 ∨ T + 11 ≤ q ∧ q ≤ T + 14 → μ' q j = μ q j) (hm : ∀ q, 85 ≤ q → q ≤ 89 → ν' q (3200 * b + j) = ν q (3200 * b + j)) (h111 : ν' 111 j = ν 111 j)
    (h91 : ν 91 b ≤ ν' 91 b) (h92 : ∀ k : Nat, 90000 * b ≤ k → (k : Int) < 90000 * b + ν 91 b → ν' 92 k = ν 92 k) : At0 r sz T b μ' ν' j := by
  obtain ⟨a1, a2, a3⟩ := h
  unfold At0
  rw [hc (T + 11) (by omega), hc (T + 12) (by omega), hc (T + 13) (by omega), hc (T + 14) (by omega), hc 60 (by omega), hm 85 (by omega) (by omega), hm 86 (by omega) (by omega), hm 87 (by omega) (by omega), hm 88 (by omega) (by omega), hm 89 (by omega) (by omega), h111]
  refine ⟨a1, a2, ?_⟩
  rcases a3 with ⟨b1, st, n, b2, b3, b4, b5, b6, b7⟩ | a3
  · left
    refine ⟨b1, st, n, b2, b3, b4, b5, ⟨b6.1, by omega⟩, fun i hi => ?_⟩
    rw [← b7 i hi]
    exact h92 _ (by omega) (by omega)
  · exact Or.inr a3
/-- what holds of all that has been read: n entries, m units, L letters, P octets kept -/
def RB (r : Nat → Nat → Int) (sz : Nat → Nat) (T b S n m L P : Nat) (μ ν : bM) : Prop :=
  (CSrc r sz μ ∧ MSrc r sz ν ∧ μ 30 0 = (T : Int) ∧ ν 76 3 = (b : Int)) ∧ TB S μ ν ∧ Sk T b μ ν ∧ (μ T 1 = (n : Int) ∧ μ T 0 = (m : Int)) ∧
  (μ 30 4 = (L : Int) ∧ ν 90 b = (L : Int) ∧ L ≤ 30000 ∧ ν 91 b = (P : Int) ∧ P ≤ 8000 + L ∧ sz 2 ≤ P ∧ ∀ i, i < sz 2 → ν 92 (90000 * b + i) = r 2 i) ∧
  (L : Int) = sumI (fun e => sumI (fun k => μ (T + 14) (8 * e + k)) (μ (T + 10) e).toNat) n ∧
  ∀ e, e < n → ∀ k : Nat, (k : Int) < μ (T + 10) e → At0 r sz T b μ ν (8 * e + k) ∧ ∀ i, i < k → μ (T + 11) (8 * e + i) ≠ μ (T + 11) (8 * e + k)
end
end FV
