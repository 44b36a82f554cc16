section DU
/-- a loop that looks for the one place where f is w, and there for good -/
theorem loop_scan2 {ρ : Type} {F : Int → Option (Int ⊕ ρ)} {f : Nat → Int} {w : Int} {non : ρ} {fnd : Nat → ρ} {o : Nat} {good : Nat → Prop} [DecidablePred good] (m : Nat) (hend : F ((o + m : Nat) : Int) = some (.inr non)) (hu : ∀ i j, i < j → j < m → f i = w → f j ≠ w)
    (hs : ∀ j : Nat, j < m → F ((o + j : Nat) : Int) = if f j = w then (if good j then some (.inr (fnd j)) else some (.inl ((o + j : Nat) + 1 : Int))) else some (.inl ((o + j : Nat) + 1 : Int))) :
    bLoop F (o : Int) = some (if scan f w 0 m = -1 then non else if good (scan f w 0 m).toNat then fnd (scan f w 0 m).toNat else non) := by
  have H : ∀ k i : Nat, i + k = m → (∀ j, j < i → f j = w → ¬ good j) → bLoop F ((o + i : Nat) : Int) = some (if scan f w 0 m = -1 then non else if good (scan f w 0 m).toNat then fnd (scan f w 0 m).toNat else non) := by
    intro k
    induction k with
    | zero =>
      intro i hi hb
      have : i = m := by omega
      subst this
      rw [bLoop_done hend]
      rcases scan_spec (f := f) (p := w) i 0 with ⟨e, _⟩ | ⟨c, c1, c2, c3, c4, c5⟩
      · rw [if_pos e]
      · rw [c4, if_neg (by omega), Int.toNat_natCast, if_neg (hb c (by omega) c3)]
    | succ k ih =>
      intro i hi hb
      have h := hs i (by omega)
      by_cases c : f i = w
      · rw [if_pos c] at h
        by_cases g : good i
        · rw [if_pos g] at h
          have e : scan f w 0 m = i := scan_is (by omega) (by omega) c (fun j _ hj hf => hu j i hj (by omega) hf c)
          rw [bLoop_done h, e, if_neg (by omega), Int.toNat_natCast, if_pos g]
        · rw [if_neg g] at h
          rw [bLoop_step h]
          have := ih (i + 1) (by omega) (fun j hj hf => by
            by_cases x : j = i
            · rw [x]; exact g
            · exact hb j (by omega) hf)
          rw [show (((o + i : Nat) : Int) + 1) = ((o + (i + 1) : Nat) : Int) by omega]
          exact this
      · rw [if_neg c] at h
        rw [bLoop_step h]
        have := ih (i + 1) (by omega) (fun j hj hf => by
            by_cases x : j = i
            · rw [x] at hf; exact absurd hf c
            · exact hb j (by omega) hf)
        rw [show (((o + i : Nat) : Int) + 1) = ((o + (i + 1) : Nat) : Int) by omega]
        exact this
  exact H m 0 (by omega) (fun j hj => by omega)
section
variable {T b n m : Nat} {μ : bM}
/-- the slots of an entry, as the model has them -/
theorem slots_M (hN : iNum T b n m μ) (hTr : iTree T b μ) {e : Nat} (he : e < n) : ∃ A : Nat, μ (T + 10) e = A ∧ A ≤ 8 ∧ μ 84 (400 * b + e) = A ∧ (∀ k, k < A → iAt1 T b μ e (8 * e + k)) ∧ ∀ i j, i < j → j < A → μ (T + 11) (8 * e + i) ≠ μ (T + 11) (8 * e + j) := by
  obtain ⟨hT, hb, e15, e763, hn, hm, n4, m6, e78, e79⟩ := hN
  obtain ⟨⟨p1, p2, p3, p4⟩, p5, p6, p7, p8, p9, p10, p11⟩ := hTr.2.1 e (by omega)
  refine ⟨(μ (T + 10) e).toNat, by omega, by omega, by omega, fun k hk => (hTr.2.2.2.2.1 e (by omega) k (by omega)).1, fun i j hij hj => (hTr.2.2.2.2.1 e (by omega) j (by omega)).2 i hij⟩
theorem isNum_dec (f : Int) : isNum f ∨ ¬ isNum f := Classical.em _
theorem M_numberNamed (hN : iNum T b n m μ) (hTr : iTree T b μ) {e : Nat} (he : e < n) {w : Int} : (nmS T μ e w ≠ -1 ∧ isNum (μ (T + 12) (8 * e + (nmS T μ e w).toNat)) → F_X11_numberNamed e w μ = some ((3200 * b + (8 * e + (nmS T μ e w).toNat) : Nat) : Int)) ∧ (¬ (nmS T μ e w ≠ -1 ∧ isNum (μ (T + 12) (8 * e + (nmS T μ e w).toNat))) → F_X11_numberNamed e w μ = some (-1)) := by
  obtain ⟨A, hA, hA8, h84, hat, hdis⟩ := slots_M hN hTr he
  obtain ⟨hT, hb, e15, e763, hn, hm, n4, m6, e78, e79⟩ := id hN
  have L := @loop_scan2 Int (fun z => F_X11_numberNamed_12 w (400 * (b : Int) + e) μ z) (fun k => μ (T + 11) (8 * e + k)) w (-1) (fun k => ((3200 * b + (8 * e + k) : Nat) : Int)) (3200 * b + 8 * e) (fun k => isNum (μ (T + 12) (8 * e + k))) (fun _ => Classical.propDecidable _) A ?_ ?_ ?_
  · have E : F_X11_numberNamed e w μ = bLoop (fun z => F_X11_numberNamed_12 w (400 * (b : Int) + e) μ z) ((3200 * b + 8 * e : Nat) : Int) := by
      unfold F_X11_numberNamed
      rw [M_at hb e763 (by omega), Option.bind_some, bG_pos (by constructor <;> omega)]
      congr 1
      omega
    have hs : nmS T μ e w = scan (fun k => μ (T + 11) (8 * e + k)) w 0 A := by unfold nmS; rw [hA, Int.toNat_natCast]
    rw [E, L, hs]
    constructor
    · rintro ⟨h1, h2⟩
      rw [if_neg h1, if_pos h2]
    · intro h
      by_cases c : scan (fun k => μ (T + 11) (8 * e + k)) w 0 A = -1
      · rw [if_pos c]
      · rw [if_neg c, if_neg (fun x => h ⟨c, x⟩)]
  · show F_X11_numberNamed_12 w (400 * (b : Int) + e) μ _ = _
    unfold F_X11_numberNamed_12
    rw [bG_pos (by constructor <;> omega), bG_pos (by omega), t400, h84, bG_pos (by constructor <;> omega), if_pos (by omega)]
  · intro i j hij hj h1 h2
    exact hdis i j hij hj (by rw [h1, h2])
  · intro j hj
    obtain ⟨a1, a2, a3⟩ := hat j hj
    show F_X11_numberNamed_12 w (400 * (b : Int) + e) μ _ = _
    unfold F_X11_numberNamed_12
    rw [bG_pos (by constructor <;> omega), bG_pos (by omega), t400, h84, bG_pos (by constructor <;> omega), if_neg (by omega), bG_pos (by omega), Int.toNat_natCast, show 3200 * b + 8 * e + j = 3200 * b + (8 * e + j) by omega, a1.1, a1.2.1]
    by_cases c : μ (T + 11) (8 * e + j) = w
    · rw [if_neg (fun x => x c), if_pos c, bG_pos (by omega)]
      by_cases g : isNum (μ (T + 12) (8 * e + j))
      · rw [(M_isNumber (μ := μ)).1 g, Option.bind_some, if_neg (by decide), if_pos g]
      · rw [(M_isNumber (μ := μ)).2 g, Option.bind_some, if_pos rfl, bG_pos (by constructor <;> omega), if_neg g]
    · rw [if_pos c, bG_pos (by constructor <;> omega), if_neg c]
theorem M_depth' (h : iNum T b n m μ) (he : iEnt T b μ) {e : Nat} (hlt : e < n) {ν : bM} (f76 : ν 76 3 = μ 76 3) (f82 : ν 82 = μ 82) : F_X11_depth e ν = some (μ (T + 5) e) := by
  rw [← M_depth h he hlt]
  unfold F_X11_depth F_X11_depth_13 F_X11_at
  rw [f76, f82]
/-- does the entry cover the address -/
def cvr (T : Nat) (μ : bM) (e : Nat) (x : Int) : Prop := (nmS T μ e 17 ≠ -1 ∧ isNum (μ (T + 12) (8 * e + (nmS T μ e 17).toNat))) ∧ (nmS T μ e 18 ≠ -1 ∧ isNum (μ (T + 12) (8 * e + (nmS T μ e 18).toNat))) ∧ F_X10_isBelow x (μ (T + 13) (8 * e + (nmS T μ e 17).toNat)) μ = some 0 ∧ F_X10_isBelow x (μ (T + 13) (8 * e + (nmS T μ e 18).toNat)) μ = some 1
theorem below_01 {x y : Int} : F_X10_isBelow x y μ = some 0 ∨ F_X10_isBelow x y μ = some 1 := by
  unfold F_X10_isBelow
  split
  · exact Or.inl rfl
  · exact Or.inr rfl
theorem nmS_lt (hN : iNum T b n m μ) (hTr : iTree T b μ) {e : Nat} (he : e < n) {w : Int} (h : nmS T μ e w ≠ -1) : ∃ k : Nat, nmS T μ e w = k ∧ (k : Int) < μ (T + 10) e ∧ k < 8 ∧ μ (T + 11) (8 * e + k) = w := by
  obtain ⟨A, hA, hA8, h84, hat, hdis⟩ := slots_M hN hTr he
  unfold nmS at h ⊢
  rcases scan_spec (f := fun k => μ (T + 11) (8 * e + k)) (p := w) (μ (T + 10) e).toNat 0 with ⟨c, _⟩ | ⟨c, c1, c2, c3, c4, c5⟩
  · exact absurd c h
  · exact ⟨c, c4, by omega, by omega, c3⟩
theorem C_covers (hN : iNum T b n m μ) (hTr : iTree T b μ) {e : Nat} (he : e < n) {x : Int} : (cvr T μ e x → F_X10_coversAddress e x μ = some 1) ∧ (¬ cvr T μ e x → F_X10_coversAddress e x μ = some 0) := by
  obtain ⟨hT, hb, e15, e763, hn, hm, n4, m6, e78, e79⟩ := id hN
  have p8 := (hTr.2.1 e (by omega)).2.2.2.2.1
  unfold F_X10_coversAddress
  rw [e15, Int.toNat_natCast, C_slotOf (by omega) p8, C_slotOf (by omega) p8]
  simp only [Option.bind_some]
  unfold cvr
  by_cases c1 : nmS T μ e 17 = -1
  · rw [if_pos c1, if_pos rfl]
    exact ⟨fun h => absurd c1 h.1.1, fun _ => rfl⟩
  · by_cases c2 : nmS T μ e 18 = -1
    · rw [if_neg c1, if_pos c2, if_neg (by omega), if_pos rfl]
      exact ⟨fun h => absurd c2 h.2.1.1, fun _ => rfl⟩
    · obtain ⟨k1, x1, x2, x3, x4⟩ := nmS_lt hN hTr he c1
      obtain ⟨k2, y1, y2, y3, y4⟩ := nmS_lt hN hTr he c2
      rw [if_neg c1, if_neg c2, x1, y1, Int.toNat_natCast, Int.toNat_natCast, if_neg (by omega), if_neg (by omega), bG_pos (by omega), bG_pos (by omega), bG_pos (by omega), bG_pos (by omega), Int.toNat_natCast, Int.toNat_natCast]
      by_cases g1 : isNum (μ (T + 12) (8 * e + k1))
      · rw [(C_isNumber (μ := μ)).1 g1, Option.bind_some, if_neg (by decide)]
        by_cases g2 : isNum (μ (T + 12) (8 * e + k2))
        · rw [(C_isNumber (μ := μ)).1 g2, Option.bind_some, if_neg (by decide)]
          rcases below_01 (μ := μ) (x := x) (y := μ (T + 13) (8 * e + k1)) with b1 | b1
          · rw [b1, Option.bind_some, if_neg (by decide)]
            rcases below_01 (μ := μ) (x := x) (y := μ (T + 13) (8 * e + k2)) with b2 | b2
            · rw [b2, Option.bind_some, if_pos rfl]
              exact ⟨fun h => (by cases h.2.2.2), fun _ => rfl⟩
            · rw [b2, Option.bind_some, if_neg (by decide)]
              exact ⟨fun _ => rfl, fun h => absurd ⟨⟨by omega, g1⟩, ⟨by omega, g2⟩, rfl, rfl⟩ h⟩
          · rw [b1, Option.bind_some, if_pos (by decide)]
            exact ⟨fun h => (by cases h.2.2.1), fun _ => rfl⟩
        · rw [(C_isNumber (μ := μ)).2 g2, Option.bind_some, if_pos rfl]
          exact ⟨fun h => absurd h.2.1.2 g2, fun _ => rfl⟩
      · rw [(C_isNumber (μ := μ)).2 g1, Option.bind_some, if_pos rfl]
        exact ⟨fun h => absurd h.1.2 g1, fun _ => rfl⟩
theorem st_covers (h : Inv μ) {x : Int} (hx : bRL x) : ∃ (k : Int) (μ2 : bM), F_X10_covers x μ = some k ∧ F_X11_covers x μ = some (k, μ2) ∧ Inv μ2 := by
  obtain ⟨hok, h1, h2, h3, h4⟩ := id h
  obtain ⟨T, b, n, m, hN, hB, hTr⟩ := iMain_view h4
  obtain ⟨hT, hb, e15, e763, hn, hm, n4, m6, e78, e79⟩ := id hN
  obtain ⟨ν, hν⟩ : ∃ ν, ν = bset μ 76 0 0 := ⟨_, rfl⟩
  have hNν : iNum T b n m ν := by rw [hν]; exact iNum_76 hN
  have fr : ∀ q, q ≠ 76 → ν q = μ q := fun q hq => by rw [hν, bset_q hq]
  have hTν : ∀ e w, nmS T ν e w = nmS T μ e w := fun e w => by unfold nmS; rw [fr (T + 11) (by omega), fr (T + 10) (by omega)]
  -- both loops go together
  have H : ∀ k i : Nat, i + k = n → ∀ v : Int, (v = -1 ∨ 0 ≤ v ∧ v < n) → ∃ r : Int, bLoop (fun z : Int × Int => F_X10_covers_5 x μ z.1 z.2) (v, (i : Int)) = some r ∧ bLoop (fun z : Int × Int × Int => F_X11_covers_13 x ν z.1 z.2.1 z.2.2) (v, (if v = -1 then -1 else μ (T + 5) v.toNat), (i : Int)) = some (r, ν) := by
    intro k
    induction k with
    | zero =>
      intro i hi v hv
      refine ⟨v, bLoop_done ?_, bLoop_done ?_⟩
      · show F_X10_covers_5 x μ v i = _
        unfold F_X10_covers_5
        rw [e15, Int.toNat_natCast, hn, if_pos (by omega)]
      · show F_X11_covers_13 x ν v _ i = _
        unfold F_X11_covers_13
        obtain ⟨-, -, -, g763, -, -, -, -, g78, -⟩ := hNν
        rw [g763, bG_pos (by omega), Int.toNat_natCast, g78, if_pos (by omega)]
    | succ k ih =>
      intro i hi v hv
      have hin : i < n := by omega
      have hv5 : v ≠ -1 → 0 ≤ μ (T + 5) v.toNat ∧ μ (T + 5) v.toNat ≤ 30 := fun hne => (hTr.2.1 v.toNat (by omega)).2.2.2.2.2.1
      have hi5 := (hTr.2.1 i (by omega)).2.2.2.2.2.1
      have hdp : F_X11_depth i ν = some (μ (T + 5) i) := M_depth' hN hTr.2.1 hin (by rw [hν, bset_k (by omega)]) (fr 82 (by omega))
      obtain ⟨-, -, -, g763, -, -, -, -, g78, -⟩ := id hNν
      have hCc := C_covers (x := x) hN hTr hin
      obtain ⟨g, hg⟩ : ∃ g : Int, (cvr T μ i x ∧ (v = -1 ∨ μ (T + 5) v.toNat < μ (T + 5) i)) ↔ g = 1 := by
        by_cases c : cvr T μ i x ∧ (v = -1 ∨ μ (T + 5) v.toNat < μ (T + 5) i)
        · exact ⟨1, fun _ => rfl, fun _ => c⟩
        · exact ⟨0, fun q => absurd q c, fun q => by omega⟩
      -- the class's turn
      have C1 : F_X10_covers_5 x μ v i = some (.inl ((if g = 1 then (i : Int) else v), (i : Int) + 1)) ∨ False := by
        left
        unfold F_X10_covers_5 F_X10_covers_44 F_X10_covers_49
        rw [e15, Int.toNat_natCast, hn, if_neg (by omega)]
        by_cases cv : v = -1
        · rw [if_pos cv, if_neg (by decide)]
          by_cases cc : cvr T μ i x
          · rw [hCc.1 cc, Option.bind_some, if_neg (by decide), bG_pos (by constructor <;> omega), if_pos (c := g = 1) (hg.mp ⟨cc, Or.inl cv⟩)]
          · rw [hCc.2 cc, Option.bind_some, if_pos rfl, bG_pos (by constructor <;> omega), if_neg (c := g = 1) (fun y => cc (hg.mpr y).1)]
        · rw [if_neg cv, bG_pos (by omega), bG_pos (by omega), Int.toNat_natCast]
          by_cases cd : μ (T + 5) i ≤ μ (T + 5) v.toNat
          · rw [if_pos cd, if_pos rfl, bG_pos (by constructor <;> omega), if_neg (c := g = 1) (by intro y; rcases (hg.mpr y).2 with y | y <;> omega)]
          · rw [if_neg cd, if_neg (by decide)]
            by_cases cc : cvr T μ i x
            · rw [hCc.1 cc, Option.bind_some, if_neg (by decide), bG_pos (by constructor <;> omega), if_pos (c := g = 1) (hg.mp ⟨cc, Or.inr (by omega)⟩)]
            · rw [hCc.2 cc, Option.bind_some, if_pos rfl, bG_pos (by constructor <;> omega), if_neg (c := g = 1) (fun y => cc (hg.mpr y).1)]
      have M1 : F_X11_covers_13 x ν v (if v = -1 then -1 else μ (T + 5) v.toNat) i = some (.inl ((if g = 1 then (i : Int) else v), (if g = 1 then μ (T + 5) i else (if v = -1 then -1 else μ (T + 5) v.toNat)), (i : Int) + 1)) := by
        have t91 : ∀ d : Int, F_X11_covers_91 x v d i ν = some (.inl (v, d, (i : Int) + 1)) := fun d => by
          unfold F_X11_covers_91 F_X11_covers_92
          rw [if_pos rfl, bG_pos (by constructor <;> omega)]
        have hnn : ∀ w, (nmS T μ i w ≠ -1 ∧ isNum (μ (T + 12) (8 * i + (nmS T μ i w).toNat)) → F_X11_numberNamed i w ν = some ((3200 * b + (8 * i + (nmS T μ i w).toNat) : Nat) : Int)) ∧ (¬ (nmS T μ i w ≠ -1 ∧ isNum (μ (T + 12) (8 * i + (nmS T μ i w).toNat))) → F_X11_numberNamed i w ν = some (-1)) := fun w => by
          have := M_numberNamed hN hTr hin (w := w)
          have e : F_X11_numberNamed i w ν = F_X11_numberNamed i w μ := by
            unfold F_X11_numberNamed F_X11_numberNamed_12 F_X11_at F_X11_isNumber
            rw [fr 84 (by omega), fr 85 (by omega), fr 86 (by omega), show ν 76 3 = μ 76 3 by rw [hν, bset_k (by omega)]]
          rw [e]
          exact this
        unfold F_X11_covers_13
        rw [g763, bG_pos (by omega), Int.toNat_natCast, g78, if_neg (by omega)]
        by_cases c1 : nmS T μ i 17 ≠ -1 ∧ isNum (μ (T + 12) (8 * i + (nmS T μ i 17).toNat))
        · rw [(hnn 17).1 c1, Option.bind_some]
          by_cases c2 : nmS T μ i 18 ≠ -1 ∧ isNum (μ (T + 12) (8 * i + (nmS T μ i 18).toNat))
          · obtain ⟨k1, x1, x2, x3, x4⟩ := nmS_lt hN hTr hin c1.1
            obtain ⟨k2, y1, y2, y3, y4⟩ := nmS_lt hN hTr hin c2.1
            have v1 : μ 87 (3200 * b + (8 * i + k1)) = μ (T + 13) (8 * i + k1) := by
              rcases (hTr.2.2.2.2.1 i (by omega) k1 x2).1.2.2 with z | z
              · have q1 := z.1
                have q2 := c1.2
                rw [x1, Int.toNat_natCast] at q2
                unfold isLet at q1
                unfold isNum at q2
                omega
              · exact z.2.2.1
            have v2 : μ 87 (3200 * b + (8 * i + k2)) = μ (T + 13) (8 * i + k2) := by
              rcases (hTr.2.2.2.2.1 i (by omega) k2 y2).1.2.2 with z | z
              · have q1 := z.1
                have q2 := c2.2
                rw [y1, Int.toNat_natCast] at q2
                unfold isLet at q1
                unfold isNum at q2
                omega
              · exact z.2.2.1
            have bel : ∀ y, F_X11_isBelow x y ν = F_X10_isBelow x y μ := fun y => rfl
            rw [(hnn 18).1 c2, Option.bind_some, x1, y1, Int.toNat_natCast, Int.toNat_natCast, if_neg (by omega), if_neg (by omega), bG_pos (by omega), bG_pos (by omega), Int.toNat_natCast, Int.toNat_natCast, fr 87 (by omega), v1, v2, bel, bel]
            have cvre : cvr T μ i x ↔ F_X10_isBelow x (μ (T + 13) (8 * i + k1)) μ = some 0 ∧ F_X10_isBelow x (μ (T + 13) (8 * i + k2)) μ = some 1 := by
              unfold cvr
              rw [x1, y1, Int.toNat_natCast, Int.toNat_natCast]
              rw [x1, Int.toNat_natCast] at c1
              rw [y1, Int.toNat_natCast] at c2
              exact ⟨fun q => q.2.2, fun q => ⟨c1, c2, q⟩⟩
            rcases below_01 (μ := μ) (x := x) (y := μ (T + 13) (8 * i + k1)) with b1 | b1
            · rw [b1, Option.bind_some, if_neg (by decide)]
              rcases below_01 (μ := μ) (x := x) (y := μ (T + 13) (8 * i + k2)) with b2 | b2
              · have nc : ¬ cvr T μ i x := fun q => by have := (cvre.mp q).2; rw [b2] at this; cases this
                rw [b2, Option.bind_some, if_pos rfl, t91, if_neg (c := g = 1) (fun q => nc (hg.mpr q).1), if_neg (c := g = 1) (fun q => nc (hg.mpr q).1)]
              · have yc : cvr T μ i x := cvre.mpr ⟨b1, b2⟩
                rw [b2, Option.bind_some, if_neg (by decide)]
                unfold F_X11_covers_92
                rw [if_neg (by decide), hdp, Option.bind_some]
                by_cases cv : v = -1
                · rw [if_pos cv, if_neg (by omega), Option.bind_some, bG_pos (by constructor <;> omega), if_pos (c := g = 1) (hg.mp ⟨yc, Or.inl cv⟩), if_pos (c := g = 1) (hg.mp ⟨yc, Or.inl cv⟩)]
                · rw [if_neg cv]
                  by_cases cd : μ (T + 5) i ≤ μ (T + 5) v.toNat
                  · have nd : ¬ (cvr T μ i x ∧ (v = -1 ∨ μ (T + 5) v.toNat < μ (T + 5) i)) := by intro y; rcases y.2 with y | y <;> omega
                    rw [if_pos cd, bG_pos (by constructor <;> omega), if_neg (c := g = 1) (fun q => nd (hg.mpr q)), if_neg (c := g = 1) (fun q => nd (hg.mpr q))]
                  · rw [if_neg cd, Option.bind_some, bG_pos (by constructor <;> omega), if_pos (c := g = 1) (hg.mp ⟨yc, Or.inr (by omega)⟩), if_pos (c := g = 1) (hg.mp ⟨yc, Or.inr (by omega)⟩)]
            · have nc : ¬ cvr T μ i x := fun q => by have := (cvre.mp q).1; rw [b1] at this; cases this
              rw [b1, Option.bind_some, if_pos (by decide), t91, if_neg (c := g = 1) (fun q => nc (hg.mpr q).1), if_neg (c := g = 1) (fun q => nc (hg.mpr q).1)]
          · have nc : ¬ cvr T μ i x := fun q => c2 q.2.1
            rw [(hnn 18).2 c2, Option.bind_some, t91, if_neg (c := g = 1) (fun q => nc (hg.mpr q).1), if_neg (c := g = 1) (fun q => nc (hg.mpr q).1), if_neg (by omega), if_pos rfl]
        · have nc : ¬ cvr T μ i x := fun q => c1 q.1
          rw [(hnn 17).2 c1, Option.bind_some, t91, if_neg (c := g = 1) (fun q => nc (hg.mpr q).1), if_neg (c := g = 1) (fun q => nc (hg.mpr q).1)]
          by_cases c2 : nmS T μ i 18 ≠ -1 ∧ isNum (μ (T + 12) (8 * i + (nmS T μ i 18).toNat))
          · rw [(hnn 18).1 c2, Option.bind_some, if_pos rfl]
          · rw [(hnn 18).2 c2, Option.bind_some, if_pos rfl]
      rcases C1 with C1 | C1
      · by_cases cc : g = 1
        · rw [if_pos cc] at C1 M1
          rw [if_pos cc] at M1
          obtain ⟨r, r1, r2⟩ := ih (i + 1) (by omega) (i : Int) (Or.inr (by omega))
          refine ⟨r, ?_, ?_⟩
          · rw [bLoop_step (f := fun z : Int × Int => F_X10_covers_5 x μ z.1 z.2) C1]
            rw [Int.natCast_succ] at r1
            exact r1
          · rw [bLoop_step (f := fun z : Int × Int × Int => F_X11_covers_13 x ν z.1 z.2.1 z.2.2) M1]
            rw [Int.natCast_succ, if_neg (by omega), Int.toNat_natCast] at r2
            exact r2
        · rw [if_neg cc] at C1 M1
          rw [if_neg cc] at M1
          obtain ⟨r, r1, r2⟩ := ih (i + 1) (by omega) v hv
          refine ⟨r, ?_, ?_⟩
          · rw [bLoop_step (f := fun z : Int × Int => F_X10_covers_5 x μ z.1 z.2) C1]
            rw [Int.natCast_succ] at r1
            exact r1
          · rw [bLoop_step (f := fun z : Int × Int × Int => F_X11_covers_13 x ν z.1 z.2.1 z.2.2) M1]
            rw [Int.natCast_succ] at r2
            exact r2
      · exact C1.elim
  obtain ⟨r, r1, r2⟩ := H n 0 (by omega) (-1) (Or.inl rfl)
  refine ⟨r, ν, r1, ?_, ?_⟩
  · unfold F_X11_covers
    rw [← hν]
    exact r2
  · rw [hν]
    exact Inv_thr h (ok_thr hok (by decide)) (fun q q1 _ => bset_q q1) (fun k k0 => bset_k k0)
end
end DU
