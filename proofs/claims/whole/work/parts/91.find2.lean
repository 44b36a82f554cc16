section DV
theorem loop_flag {F : Int × Int → Option ((Int × Int) ⊕ Int)} {n : Nat} {P : Nat → Prop} (h0 : ∀ v : Int, v = 0 ∨ v = 1 → F (v, (n : Int)) = some (.inr v)) (h1 : ∀ j : Nat, j < n → F (0, (j : Int)) = some (.inr 0))
    (h2 : ∀ j : Nat, j < n → P j → F (1, (j : Int)) = some (.inl (1, (j : Int) + 1))) (h3 : ∀ j : Nat, j < n → ¬ P j → F (1, (j : Int)) = some (.inl (0, (j : Int) + 1))) :
    bLoop F (0, 0) = some 0 ∧ ((∀ j, j < n → P j) → bLoop F (1, 0) = some 1) ∧ (¬ (∀ j, j < n → P j) → bLoop F (1, 0) = some 0) := by
  have z : ∀ j : Nat, j ≤ n → bLoop F (0, (j : Int)) = some 0 := fun j hj => by
    by_cases c : j < n
    · exact bLoop_done (h1 j c)
    · rw [show j = n by omega]
      exact bLoop_done (h0 0 (Or.inl rfl))
  have H : ∀ k i : Nat, i + k = n → (((∀ j, i ≤ j → j < n → P j) → bLoop F (1, (i : Int)) = some 1) ∧ (¬ (∀ j, i ≤ j → j < n → P j) → bLoop F (1, (i : Int)) = some 0)) := by
    intro k
    induction k with
    | zero =>
      intro i hi
      rw [show i = n by omega]
      exact ⟨fun _ => bLoop_done (h0 1 (Or.inr rfl)), fun h => absurd (fun j a b => by omega) h⟩
    | succ k ih =>
      intro i hi
      have ih := ih (i + 1) (by omega)
      rw [Int.natCast_succ] at ih
      by_cases c : P i
      · rw [bLoop_step (h2 i (by omega) c)]
        refine ⟨fun h => ih.1 fun j a b => h j (by omega) b, fun h => ih.2 fun h' => h fun j a b => ?_⟩
        by_cases x : j = i
        · rw [x]; exact c
        · exact h' j (by omega) b
      · rw [bLoop_step (h3 i (by omega) c)]
        have zz := z (i + 1) (by omega)
        rw [Int.natCast_succ] at zz
        exact ⟨fun h => absurd (h i (by omega) (by omega)) c, fun _ => zz⟩
  have hh := H n 0 (by omega)
  refine ⟨z 0 (by omega), fun h => hh.1 fun j _ b => h j b, fun h => hh.2 fun h' => h fun j b => h' j (by omega) b⟩
theorem C_same {s s2 a c n : Nat} {μ : bM} (hb : bOk μ) (hs : bStore s) (hs2 : bStore s2) (h : sOk s μ) (h2 : sOk s2 μ) (ha : (a : Int) + n ≤ μ s 1) (hc : (c : Int) + n ≤ μ s2 1) : ((∀ i, i < n → μ (s + 1) (a + i) = μ (s2 + 1) (c + i)) → F_X6_same s s2 a c n μ = some 1) ∧ (¬ (∀ i, i < n → μ (s + 1) (a + i) = μ (s2 + 1) (c + i)) → F_X6_same s s2 a c n μ = some 0) := by
  have m1 := bN_max (s + 1)
  have m2 := bN_max (s2 + 1)
  have u1 := h.2
  have u2 := h2.2
  have L := loop_scan (F := fun z => F_X6_same_3 s s2 a c n μ z) (f := fun i => if μ (s + 1) (a + i) = μ (s2 + 1) (c + i) then 0 else 1) (w := 1) (non := (1 : Int)) (fnd := fun _ => 0) n 0 ?_ ?_
  · have E : F_X6_same s s2 a c n μ = bLoop (fun z => F_X6_same_3 s s2 a c n μ z) ((0 : Nat) : Int) := rfl
    rw [E, L]
    constructor
    · intro hh
      rw [scan_no, if_pos rfl]
      intro k _ hk
      rw [if_pos (hh k (by omega))]
      decide
    · intro hh
      rcases scan_spec (f := fun i => if μ (s + 1) (a + i) = μ (s2 + 1) (c + i) then (0 : Int) else 1) (p := 1) n 0 with ⟨e, g⟩ | ⟨d, d1, d2, d3, d4, d5⟩
      · exfalso
        apply hh
        intro i hi
        have := g i (by omega) (by omega)
        by_cases x : μ (s + 1) (a + i) = μ (s2 + 1) (c + i)
        · exact x
        · rw [if_neg x] at this; exact absurd rfl this
      · rw [d4, if_neg (by omega)]
  · show F_X6_same_3 s s2 a c n μ _ = _
    unfold F_X6_same_3
    rw [if_pos (by omega)]
  · intro j _ hj
    show F_X6_same_3 s s2 a c n μ _ = _
    unfold F_X6_same_3
    have b1 := bO_b (k := a + j) hb (bStore_d hs)
    have b2 := bO_b (k := c + j) hb (bStore_d hs2)
    have e1 : sAt s μ ((a : Int) + j) = μ (s + 1) (a + j) % 256 := by unfold sAt; rw [if_pos (by omega), show ((a : Int) + (j : Int)).toNat = a + j by omega]
    have e2 : sAt s2 μ ((c : Int) + j) = μ (s2 + 1) (c + j) % 256 := by unfold sAt; rw [if_pos (by omega), show ((c : Int) + (j : Int)).toNat = c + j by omega]
    rw [if_neg (by omega), bG_pos (by constructor <;> omega), S_at hb hs h, Option.bind_some, bG_pos (by constructor <;> omega), S_at hb hs2 h2, Option.bind_some, e1, e2]
    by_cases x : μ (s + 1) (a + j) = μ (s2 + 1) (c + j)
    · rw [if_pos (by rw [x]), bG_pos (by constructor <;> omega), if_pos x, if_neg (by decide)]
    · rw [if_neg (fun y => x (mod_inj b1 b2 y)), if_neg x, if_pos rfl]
section
variable {T b n m : Nat} {μ : bM}
/-- is the entry named by the tape -/
def nmd (T : Nat) (μ : bM) (e : Nat) : Prop := nmS T μ e 3 ≠ -1 ∧ (μ (T + 12) (8 * e + (nmS T μ e 3).toNat) = 8 ∨ μ (T + 12) (8 * e + (nmS T μ e 3).toNat) = 14) ∧ μ (T + 14) (8 * e + (nmS T μ e 3).toNat) = μ 2 1 ∧ ∀ i : Nat, (i : Int) < μ 2 1 → μ 5 ((μ (T + 13) (8 * e + (nmS T μ e 3).toNat)).toNat + i) = μ 3 i
theorem C_named (hok : bOk μ) (h1 : iTape μ) (hN : iNum T b n m μ) (hTr : iTree T b μ) {e : Nat} (he : e < n) : (nmd T μ e → F_X10_isNamedByTape e μ = some 1) ∧ (¬ nmd T μ e → F_X10_isNamedByTape e μ = some 0) := by
  obtain ⟨hT, hb, e15, e763, hn, hm, n4, m6, e78, e79⟩ := id hN
  have p8 := (hTr.2.1 e (by omega)).2.2.2.2.1
  have tl := hTr.2.2.2.2.2.1
  obtain ⟨L, hL⟩ : ∃ L : Nat, μ 2 1 = L := ⟨(μ 2 1).toNat, by have := h1.2.1; omega⟩
  unfold F_X10_isNamedByTape nmd
  rw [e15, Int.toNat_natCast, C_slotOf (by omega) p8, Option.bind_some, hL]
  by_cases c1 : nmS T μ e 3 = -1
  · rw [if_pos c1, if_pos rfl]
    exact ⟨fun h => absurd c1 h.1, fun _ => rfl⟩
  · obtain ⟨k, x1, x2, x3, x4⟩ := nmS_lt hN hTr he c1
    have hat := (hTr.2.2.2.2.1 e (by omega) k x2).1.2.2
    rw [if_neg c1, x1, Int.toNat_natCast, if_neg (by omega), bG_pos (by omega), Int.toNat_natCast, C_isText, Option.bind_some]
    by_cases c2 : μ (T + 12) (8 * e + k) = 8 ∨ μ (T + 12) (8 * e + k) = 14
    · rw [if_pos c2, if_neg (by decide), bG_pos (by omega)]
      have hu : F_X6_used 2 μ = some (L : Int) := by unfold F_X6_used; rw [hL]
      rw [hu, Option.bind_some]
      by_cases c3 : μ (T + 14) (8 * e + k) = L
      · rcases hat with ⟨l1, l2, l3, l4, l5⟩ | l
        · obtain ⟨st, hst⟩ : ∃ st : Nat, μ (T + 13) (8 * e + k) = st := ⟨(μ (T + 13) (8 * e + k)).toNat, by omega⟩
          have t4 := tl.2.1
          have hss : F_X8_start T ((8 * e + k : Nat) : Int) μ = some (st : Int) := by
            unfold F_X8_start
            rw [bG_pos (by omega), Int.toNat_natCast, hst, b32i (by constructor <;> omega)]
          have S := C_same (s := 4) (s2 := 2) (a := st) (c := 0) (n := L) hok bSt4 bSt2 ⟨t4.1, t4.2⟩ (sOk2 h1) (by omega) (by omega)
          rw [if_neg (fun y => y c3), hss, Option.bind_some, Option.bind_some]
          have heq : (∀ i, i < L → μ (4 + 1) (st + i) = μ (2 + 1) (0 + i)) ↔ ∀ i : Nat, (i : Int) < (L : Int) → μ 5 ((μ (T + 13) (8 * e + k)).toNat + i) = μ 3 i := by
            rw [hst, Int.toNat_natCast]
            constructor
            · intro q i hi
              have := q i (by omega)
              rw [Nat.zero_add] at this
              exact this
            · intro q i hi
              rw [Nat.zero_add]
              exact q i (by omega)
          constructor
          · intro q
            have S1 : F_X6_same 4 2 st 0 L μ = some 1 := S.1 (heq.mpr q.2.2.2)
            rw [S1]
            rfl
          · intro q
            have S2 : F_X6_same 4 2 st 0 L μ = some 0 := S.2 (fun y => q ⟨by omega, c2, c3, heq.mp y⟩)
            rw [S2]
            rfl
        · have := l.1
          unfold isNum isRef at this
          omega
      · rw [if_pos c3]
        exact ⟨fun q => absurd q.2.2.1 c3, fun _ => rfl⟩
    · rw [if_neg c2, if_pos rfl]
      exact ⟨fun q => absurd q.2.1 c2, fun _ => rfl⟩
theorem M_named {ν : bM} (h1 : iTape μ) (hN : iNum T b n m μ) (hTr : iTree T b μ) (fr : ∀ q, 77 ≤ q → q ≤ 92 → ν q = μ q) (f3 : ν 76 3 = μ 76 3) {e : Nat} (he : e < n) : (nmd T μ e → F_X11_isNamed e (μ 2 1) ν = some 1) ∧ (¬ nmd T μ e → F_X11_isNamed e (μ 2 1) ν = some 0) := by
  obtain ⟨A, hA, hA8, h84, hat, hdis⟩ := slots_M hN hTr he
  obtain ⟨hT, hb, e15, e763, hn, hm, n4, m6, e78, e79⟩ := id hN
  have tl := hTr.2.2.2.2.2.1
  obtain ⟨L, hL⟩ : ∃ L : Nat, μ 2 1 = L := ⟨(μ 2 1).toNat, by have := h1.2.1; omega⟩
  have hL2 : L ≤ 12000 := by have := h1.2.2.1; omega
  have hs : nmS T μ e 3 = scan (fun k => μ (T + 11) (8 * e + k)) 3 0 A := by unfold nmS; rw [hA, Int.toNat_natCast]
  have r84 : ν 84 (400 * b + e) = A := by rw [fr 84 (by omega) (by omega)]; exact h84
  -- what the loop finds at the place of the name
  have inner : ∀ j, j < A → (μ (T + 12) (8 * e + j) = 8 ∨ μ (T + 12) (8 * e + j) = 14) → ((μ (T + 14) (8 * e + j) = L ∧ ∀ i : Nat, (i : Int) < L → μ 5 ((μ (T + 13) (8 * e + j)).toNat + i) = μ 3 i) → F_X11_isNamed_52 L ((3200 * b + (8 * e + j) : Nat) : Int) ν = some 1) ∧ (¬ (μ (T + 14) (8 * e + j) = L ∧ ∀ i : Nat, (i : Int) < L → μ 5 ((μ (T + 13) (8 * e + j)).toNat + i) = μ 3 i) → F_X11_isNamed_52 L ((3200 * b + (8 * e + j) : Nat) : Int) ν = some 0) := by
    intro j hj ht
    obtain ⟨a1, a2, a3⟩ := hat j hj
    rcases a3 with ⟨l1, l2, l3, l4, l5⟩ | l
    · have t91 := tl.2.2
      have t4 := tl.2.1
      have F0 : ∀ (hlen : μ (T + 14) (8 * e + j) = L), _ := fun hlen => loop_flag (F := fun z : Int × Int => F_X11_isNamed_73 L ((3200 * b + (8 * e + j) : Nat) : Int) ν z.1 z.2) (n := L) (P := fun i => μ 92 ((μ 88 (3200 * b + (8 * e + j))).toNat + i) = μ 77 i)
        (by
          intro v hv
          show F_X11_isNamed_73 L _ ν v L = _
          unfold F_X11_isNamed_73
          rw [if_pos (by omega), bG_pos (by omega)])
        (by
          intro i hi
          show F_X11_isNamed_73 L _ ν 0 i = _
          unfold F_X11_isNamed_73
          rw [if_neg (by omega), if_pos rfl, bG_pos (by decide)])
        (by
          intro i hi hp
          show F_X11_isNamed_73 L _ ν 1 i = _
          unfold F_X11_isNamed_73
          rw [if_neg (by omega), if_neg (by decide), bG_pos (by omega), Int.toNat_natCast, fr 88 (by omega) (by omega), bG_pos (by constructor <;> omega), bG_pos (by omega), bG_pos (by omega), fr 92 (by omega) (by omega), fr 77 (by omega) (by omega), show (μ 88 (3200 * b + (8 * e + j)) + (i : Int)).toNat = (μ 88 (3200 * b + (8 * e + j))).toNat + i by omega, Int.toNat_natCast, if_neg (fun y => y hp), bG_pos (by constructor <;> omega)])
        (by
          intro i hi hp
          show F_X11_isNamed_73 L _ ν 1 i = _
          unfold F_X11_isNamed_73
          rw [if_neg (by omega), if_neg (by decide), bG_pos (by omega), Int.toNat_natCast, fr 88 (by omega) (by omega), bG_pos (by constructor <;> omega), bG_pos (by omega), bG_pos (by omega), fr 92 (by omega) (by omega), fr 77 (by omega) (by omega), show (μ 88 (3200 * b + (8 * e + j)) + (i : Int)).toNat = (μ 88 (3200 * b + (8 * e + j))).toNat + i by omega, Int.toNat_natCast, if_pos hp, bG_pos (by constructor <;> omega)])
      unfold F_X11_isNamed_52
      rw [bG_pos (by omega), Int.toNat_natCast, fr 89 (by omega) (by omega), a1.2.2]
      by_cases c : μ (T + 14) (8 * e + j) = L
      · have F1 := F0 c
        have heq : (∀ i, i < L → μ 92 ((μ 88 (3200 * b + (8 * e + j))).toNat + i) = μ 77 i) ↔ ∀ i : Nat, (i : Int) < (L : Int) → μ 5 ((μ (T + 13) (8 * e + j)).toNat + i) = μ 3 i := by
          constructor
          · intro q i hi
            rw [← l5 i (by omega), ← h1.2.2.2 i (by omega)]
            exact q i (by omega)
          · intro q i hi
            rw [l5 i (by omega), h1.2.2.2 i (by omega)]
            exact q i (by omega)
        rw [if_neg (fun y => y c)]
        exact ⟨fun q => F1.2.1 (heq.mpr q.2), fun q => F1.2.2 (fun y => q ⟨c, heq.mp y⟩)⟩
      · rw [if_pos c]
        refine ⟨fun q => absurd q.1 c, fun _ => bLoop_done ?_⟩
        show F_X11_isNamed_73 L _ ν 0 0 = _
        unfold F_X11_isNamed_73
        by_cases x : (L : Int) ≤ 0
        · rw [if_pos x, bG_pos (by decide)]
        · rw [if_neg x, if_pos rfl, bG_pos (by decide)]
    · have := l.1
      unfold isNum isRef at this
      omega
  have inner' : ∀ j, j < A → (μ (T + 12) (8 * e + j) = 8 ∨ μ (T + 12) (8 * e + j) = 14) → ∃ r, F_X11_isNamed_52 L ((3200 * b + (8 * e + j) : Nat) : Int) ν = some r := fun j hj ht => by
    by_cases c : μ (T + 14) (8 * e + j) = L ∧ ∀ i : Nat, (i : Int) < L → μ 5 ((μ (T + 13) (8 * e + j)).toNat + i) = μ 3 i
    · exact ⟨_, (inner j hj ht).1 c⟩
    · exact ⟨_, (inner j hj ht).2 c⟩
  have Lp := @loop_scan2 Int (fun z => F_X11_isNamed_12 L (400 * (b : Int) + e) ν z) (fun k => μ (T + 11) (8 * e + k)) 3 0 (fun k => (F_X11_isNamed_52 L ((3200 * b + (8 * e + k) : Nat) : Int) ν).getD 0) (3200 * b + 8 * e) (fun k => μ (T + 12) (8 * e + k) = 8 ∨ μ (T + 12) (8 * e + k) = 14) (fun _ => inferInstance) A ?_ ?_ ?_
  · have E : F_X11_isNamed e L ν = bLoop (fun z => F_X11_isNamed_12 L (400 * (b : Int) + e) ν z) ((3200 * b + 8 * e : Nat) : Int) := by
      unfold F_X11_isNamed
      rw [M_at hb (by rw [f3]; exact e763) (by omega), Option.bind_some, bG_pos (by constructor <;> omega)]
      congr 1
      omega
    unfold nmd
    rw [hL, E, Lp, hs]
    by_cases c1 : scan (fun k => μ (T + 11) (8 * e + k)) 3 0 A = -1
    · rw [if_pos c1]
      exact ⟨fun q => absurd c1 q.1, fun _ => rfl⟩
    · rw [if_neg c1]
      have hlt : (scan (fun k => μ (T + 11) (8 * e + k)) 3 0 A).toNat < A := by
        rcases scan_spec (f := fun k => μ (T + 11) (8 * e + k)) (p := 3) A 0 with ⟨x, _⟩ | ⟨d, d1, d2, d3, d4, d5⟩
        · exact absurd x c1
        · omega
      obtain ⟨j, hj⟩ : ∃ j, j = (scan (fun k => μ (T + 11) (8 * e + k)) 3 0 A).toNat := ⟨_, rfl⟩
      rw [← hj] at hlt ⊢
      by_cases c2 : μ (T + 12) (8 * e + j) = 8 ∨ μ (T + 12) (8 * e + j) = 14
      · rw [if_pos c2]
        have I := inner j hlt c2
        constructor
        · intro q
          rw [I.1 q.2.2]
          rfl
        · intro q
          rw [I.2 (fun y => q ⟨c1, c2, y⟩)]
          rfl
      · rw [if_neg c2]
        exact ⟨fun q => absurd q.2.1 c2, fun _ => rfl⟩
  · show F_X11_isNamed_12 L (400 * (b : Int) + e) ν _ = _
    unfold F_X11_isNamed_12
    rw [bG_pos (by constructor <;> omega), bG_pos (by omega), t400, r84, bG_pos (by constructor <;> omega), if_pos (by omega)]
  · intro i j hij hj q1 q2
    exact hdis i j hij hj (by rw [q1, q2])
  · intro j hj
    obtain ⟨a1, a2, a3⟩ := hat j hj
    show F_X11_isNamed_12 L (400 * (b : Int) + e) ν _ = _
    unfold F_X11_isNamed_12
    rw [bG_pos (by constructor <;> omega), bG_pos (by omega), t400, r84, bG_pos (by constructor <;> omega), if_neg (by omega), bG_pos (by omega), Int.toNat_natCast, show 3200 * b + 8 * e + j = 3200 * b + (8 * e + j) by omega, fr 85 (by omega) (by omega), fr 86 (by omega) (by omega), a1.1, a1.2.1]
    by_cases c : μ (T + 11) (8 * e + j) = 3
    · rw [if_neg (fun x => x c), if_pos c, bG_pos (by omega), M_isText, Option.bind_some]
      by_cases g : μ (T + 12) (8 * e + j) = 8 ∨ μ (T + 12) (8 * e + j) = 14
      · obtain ⟨r, hr⟩ := inner' j hj g
        rw [if_pos g, if_neg (by decide), if_pos g, hr]
        rfl
      · rw [if_neg g, if_pos rfl, bG_pos (by constructor <;> omega), if_neg g]
    · rw [if_pos c, bG_pos (by constructor <;> omega), if_neg c]
end
end DV
