section GA
/-! the references found -/
theorem bDiv2 {a : Nat} (h : a ≤ 2147483647) : bDiv (a : Int) 2 = ((a / 2 : Nat) : Int) := by
  unfold bDiv
  rw [Int32.toInt_div_of_ne_right _ _ (by decide), Int32.toInt_ofInt_of_le (by omega) (by omega), Int32.toInt_ofInt_of_le (by decide) (by decide), Int.tdiv_eq_ediv_of_nonneg (by omega)]
  rfl
section
variable {r : Nat → Nat → Int} {sz : Nat → Nat} {μ ν μ' ν' ν6 : bM} {T b e A p E L P j s sI N n m S u0 fi n0 m0 p' p2 L' P' c k Z : Nat} {v : Int}
/-- the entry of the unit whose place is v -/
def Fnd (f : Nat → Int) (n0 n : Nat) (v x : Int) : Prop := (x = -1 ∧ ∀ i, n0 ≤ i → i < n → f i ≠ v) ∨ ∃ c : Nat, x = (c : Int) ∧ n0 ≤ c ∧ c < n ∧ f c = v
theorem C_entryAt (h30 : μ 30 0 = (T : Int)) (hn : μ T 1 = (n : Int)) (n4 : n ≤ 400) (hlt : n0 < n) (hinc : ∀ e, n0 ≤ e → e < n → ∀ f, n0 ≤ f → f < e → μ 59 f < μ 59 e) : ∃ x, F_X4_entryAt n0 v μ = some x ∧ Fnd (μ 59) n0 n v x := by
  have L : ∀ (d lo hi c : Nat), hi - lo ≤ d → n0 ≤ lo → hi ≤ n → c + (hi - lo) ≤ 400 → (∀ i, n0 ≤ i → i < n → μ 59 i = v → lo ≤ i ∧ i < hi) → ∃ x, bLoop (fun z : Int × Int × Int => F_X4_entryAt_17 v μ z.1 z.2.1 z.2.2) ((lo : Int), (hi : Int) - 1, (c : Int)) = some x ∧ Fnd (μ 59) n0 n v x := by
    intro d
    induction d with
    | zero =>
      intro lo hi c h1 h2 h3 h4 h5
      refine ⟨-1, bLoop_done ?_, Or.inl ⟨rfl, fun i i1 i2 i3 => ?_⟩⟩
      · show F_X4_entryAt_17 v μ lo ((hi : Int) - 1) c = _
        unfold F_X4_entryAt_17
        by_cases x : 400 ≤ (c : Int)
        · rw [if_pos x]
        · rw [if_neg x, if_pos (by omega)]
      · have := h5 i i1 i2 i3
        omega
    | succ d ih =>
      intro lo hi c h1 h2 h3 h4 h5
      by_cases x : lo < hi
      · have e1 : (lo : Int) + ((hi : Int) - 1) = ((lo + hi - 1 : Nat) : Int) := by omega
        obtain ⟨md, hmd⟩ : ∃ md, md = (lo + hi - 1) / 2 := ⟨_, rfl⟩
        have hm1 : lo ≤ md ∧ md < hi := by omega
        have D : bDiv ((lo : Int) + ((hi : Int) - 1)) 2 = (md : Int) := by rw [e1, bDiv2 (by omega), hmd]
        have S : F_X4_entryAt_17 v μ lo ((hi : Int) - 1) c = if ¬ bCmp (μ 59 md) v = 0 then (if 0 ≤ bCmp (μ 59 md) v then some (.inl ((lo : Int), (md : Int) - 1, (c : Int) + 1)) else some (.inl ((md : Int) + 1, (hi : Int) - 1, (c : Int) + 1))) else some (.inr (md : Int)) := by
          unfold F_X4_entryAt_17
          rw [if_neg (by omega), if_neg (by omega), D, bG_pos (by constructor <;> omega), bG_pos (by omega), bG_pos (by omega), bG_pos (by constructor <;> omega), bG_pos (by constructor <;> omega), bG_pos (by constructor <;> omega), bG_pos (by constructor <;> omega), Int.toNat_natCast]
        by_cases z : μ 59 md = v
        · refine ⟨md, bLoop_done ?_, Or.inr ⟨md, rfl, by omega, by omega, z⟩⟩
          show F_X4_entryAt_17 v μ lo ((hi : Int) - 1) c = _
          rw [S, if_neg (fun hh => hh (bC0.mpr z))]
        · by_cases y : v ≤ μ 59 md
          · rw [if_pos (fun hh => z (bC0.mp hh)), if_pos (bCge.mpr y)] at S
            have q5 : ∀ i, n0 ≤ i → i < n → μ 59 i = v → lo ≤ i ∧ i < md := fun i i1 i2 i3 => by
              have q := h5 i i1 i2 i3
              refine ⟨q.1, ?_⟩
              by_cases g : i < md
              · exact g
              · by_cases g2 : i = md
                · rw [g2] at i3; exact absurd i3 z
                · have := hinc i i1 i2 md (by omega) (by omega)
                  omega
            obtain ⟨w, w1, w2⟩ := ih lo md (c + 1) (by omega) h2 (by omega) (by omega) q5
            exact ⟨w, (bLoop_step (f := fun z : Int × Int × Int => F_X4_entryAt_17 v μ z.1 z.2.1 z.2.2) (s := ((lo : Int), (hi : Int) - 1, (c : Int))) S).trans w1, w2⟩
          · rw [if_pos (fun hh => z (bC0.mp hh)), if_neg (fun hh => y (bCge.mp hh))] at S
            have q5 : ∀ i, n0 ≤ i → i < n → μ 59 i = v → md + 1 ≤ i ∧ i < hi := fun i i1 i2 i3 => by
              have q := h5 i i1 i2 i3
              refine ⟨?_, q.2⟩
              by_cases g : md < i
              · exact g
              · by_cases g2 : i = md
                · rw [g2] at i3; exact absurd i3 z
                · have := hinc md (by omega) (by omega) i i1 (by omega)
                  omega
            obtain ⟨w, w1, w2⟩ := ih (md + 1) hi (c + 1) (by omega) (by omega) h3 (by omega) q5
            exact ⟨w, (bLoop_step (f := fun z : Int × Int × Int => F_X4_entryAt_17 v μ z.1 z.2.1 z.2.2) (s := ((lo : Int), (hi : Int) - 1, (c : Int))) S).trans w1, w2⟩
      · exact ih lo hi c (by omega) h2 h3 h4 h5
  unfold F_X4_entryAt
  rw [h30, Int.toNat_natCast, hn, bG_pos (by constructor <;> omega)]
  exact L (n - n0) n0 n 0 (by omega) (by omega) (by omega) (by omega) (fun i i1 i2 _ => ⟨i1, i2⟩)
theorem M_47 {v3 : Int} (hb : b = 0 ∨ b = 1) (h3 : ν 76 3 = (b : Int)) (hn : ν 78 b = (n : Int)) (n4 : n ≤ 400) (hs : s < 6400) (hlt : n0 ≤ n) : ∃ x, bLoop (fun z : Int × Int => F_X11_resolve_47 n0 v3 s ν z.1 z.2) (-1, (n0 : Int)) = F_X11_resolve_95 n0 v3 s x ν ∧ Fnd (ν 110) n0 n (ν 87 s) x := by
  have L : ∀ (d i : Nat) (x : Int), i + d = n → n0 ≤ i → Fnd (ν 110) n0 i (ν 87 s) x → ∃ y, bLoop (fun z : Int × Int => F_X11_resolve_47 n0 v3 s ν z.1 z.2) (x, (i : Int)) = F_X11_resolve_95 n0 v3 s y ν ∧ Fnd (ν 110) n0 n (ν 87 s) y := by
    intro d
    induction d with
    | zero =>
      intro i x hd hi hx
      have : i = n := by omega
      subst this
      refine ⟨x, bLoop_up ?_, hx⟩
      show F_X11_resolve_47 n0 v3 s ν x i = _
      unfold F_X11_resolve_47
      rw [h3, bG_pos (by omega), Int.toNat_natCast, hn, if_pos (by omega)]
    | succ d ih =>
      intro i x hd hi hx
      have S : F_X11_resolve_47 n0 v3 s ν x i = if ¬ bCmp (ν 110 i) (ν 87 s) = 0 then some (.inl (x, (i : Int) + 1)) else some (.inl ((i : Int), (i : Int) + 1)) := by
        unfold F_X11_resolve_47
        rw [h3, bG_pos (by omega), Int.toNat_natCast, hn, if_neg (by omega), bG_pos (by omega), bG_pos (by omega), Int.toNat_natCast, Int.toNat_natCast, bG_pos (by constructor <;> omega), bG_pos (by constructor <;> omega)]
      by_cases z : ν 110 i = ν 87 s
      · rw [if_neg (fun hh => hh (bC0.mpr z))] at S
        obtain ⟨w, w1, w2⟩ := ih (i + 1) i (by omega) (by omega) (Or.inr ⟨i, rfl, hi, by omega, z⟩)
        exact ⟨w, (bLoop_step (f := fun z : Int × Int => F_X11_resolve_47 n0 v3 s ν z.1 z.2) (s := (x, (i : Int))) S).trans w1, w2⟩
      · rw [if_pos (fun hh => z (bC0.mp hh))] at S
        obtain ⟨w, w1, w2⟩ := ih (i + 1) x (by omega) (by omega) (by
          rcases hx with ⟨x1, x2⟩ | ⟨c, x1, x2, x3, x4⟩
          · refine Or.inl ⟨x1, fun k k1 k2 => ?_⟩
            by_cases g : k = i
            · rw [g]; exact z
            · exact x2 k k1 (by omega)
          · exact Or.inr ⟨c, x1, x2, by omega, x4⟩)
        exact ⟨w, (bLoop_step (f := fun z : Int × Int => F_X11_resolve_47 n0 v3 s ν z.1 z.2) (s := (x, (i : Int))) S).trans w1, w2⟩
  exact L (n - n0) n0 (-1) (by omega) (by omega) (Or.inl ⟨rfl, fun i i1 i2 => by omega⟩)
theorem Fnd_eq {f g : Nat → Int} {x y : Int} (hfg : ∀ i, n0 ≤ i → i < n → f i = g i) (hinc : ∀ e, n0 ≤ e → e < n → ∀ i, n0 ≤ i → i < e → f i < f e) (hx : Fnd f n0 n v x) (hy : Fnd g n0 n v y) : x = y := by
  rcases hx with ⟨x1, x2⟩ | ⟨c, x1, x2, x3, x4⟩
  · rcases hy with ⟨y1, y2⟩ | ⟨d, y1, y2, y3, y4⟩
    · omega
    · exact absurd (hfg d y2 y3) (by have := x2 d y2 y3; omega)
  · rcases hy with ⟨y1, y2⟩ | ⟨d, y1, y2, y3, y4⟩
    · exact absurd (hfg c x2 x3) (by have := y2 c x2 x3; omega)
    · have e1 := hfg d y2 y3
      have e2 := hfg c x2 x3
      by_cases w : c = d
      · omega
      · by_cases w2 : c < d
        · have := hinc d y2 y3 c x2 w2
          omega
        · have := hinc c x2 x3 d y2 (by omega)
          omega
/-- a model that is wrong goes on without harm -/
theorem M12_w (hb : b = 0 ∨ b = 1) (he : e < 400) (hlt : n0 ≤ n) (n4 : n ≤ 400) : ∀ (d k : Nat) (ν : bM), k + d = 9 → ν 76 37 ≠ -1 → ν 76 3 = (b : Int) → ν 78 b = (n : Int) → (0 ≤ ν 84 (400 * b + e) ∧ ν 84 (400 * b + e) ≤ 8) →
    ∃ ν', bLoop (fun z : Int × bM => F_X11_resolve_12 n0 (400 * (b : Int) + e) z.1 z.2) (8 * (400 * (b : Int) + e) + k, ν) = some (0, ν') ∧ SameW ν ν' ∧ Fr (sRm b) ν ν' := by
  intro d
  induction d with
  | zero =>
    intro k ν hd hw h3 hn h84
    refine ⟨ν, bLoop_done ?_, ⟨rfl, rfl, rfl⟩, Fr_rf⟩
    show F_X11_resolve_12 n0 (400 * (b : Int) + e) (8 * (400 * (b : Int) + e) + k) ν = _
    unfold F_X11_resolve_12
    rw [bG_pos (by constructor <;> omega), bG_pos (by omega), t400, bG_pos (by constructor <;> omega), if_pos (by omega)]
  | succ d ih =>
    intro k ν hd hw h3 hn h84
    by_cases x : ν 84 (400 * b + e) ≤ k
    · refine ⟨ν, bLoop_done ?_, ⟨rfl, rfl, rfl⟩, Fr_rf⟩
      show F_X11_resolve_12 n0 (400 * (b : Int) + e) (8 * (400 * (b : Int) + e) + k) ν = _
      unfold F_X11_resolve_12
      rw [bG_pos (by constructor <;> omega), bG_pos (by omega), t400, bG_pos (by constructor <;> omega), if_pos (by omega)]
    · have es : 8 * (400 * (b : Int) + (e : Int)) + (k : Int) = ((3200 * b + (8 * e + k) : Nat) : Int) := by omega
      have en : 8 * (400 * (b : Int) + (e : Int)) + (k : Int) + 1 = 8 * (400 * (b : Int) + (e : Int)) + ((k + 1 : Nat) : Int) := by omega
      have S : F_X11_resolve_12 n0 (400 * (b : Int) + e) (8 * (400 * (b : Int) + e) + k) ν = (F_X11_isReference (ν 86 (3200 * b + (8 * e + k))) ν).bind fun w4 => if w4 = 0 then some (.inl (8 * (400 * (b : Int) + (e : Int)) + ((k + 1 : Nat) : Int), ν)) else bLoop (fun z => F_X11_resolve_47 n0 (400 * (b : Int) + e) (8 * (400 * (b : Int) + e) + k) ν z.1 z.2) ((-1), (n0 : Int)) := by
        unfold F_X11_resolve_12
        rw [bG_pos (by constructor <;> omega), bG_pos (by omega), t400, bG_pos (by constructor <;> omega), if_neg (by omega), bG_pos (by omega), t3200, bG_pos (by constructor <;> omega), en]
      by_cases y : isRef (ν 86 (3200 * b + (8 * e + k)))
      · rw [M_isReference.1 y, Option.bind_some, if_neg (by decide), es] at S
        obtain ⟨z, z1, z2⟩ := M_47 (v3 := 400 * (b : Int) + e) (s := 3200 * b + (8 * e + k)) hb h3 hn n4 (by omega) hlt
        have Z : F_X11_resolve_95 n0 (400 * (b : Int) + e) ((3200 * b + (8 * e + k) : Nat) : Int) z ν = some (.inl (8 * (400 * (b : Int) + (e : Int)) + ((k + 1 : Nat) : Int), bset ν 87 (3200 * b + (8 * e + k)) z)) := by
          unfold F_X11_resolve_95
          rw [h3, M_badno hw, bMm_some, bG_pos (by omega), bG_pos (by constructor <;> omega), bG_pos (by constructor <;> omega), bG_pos (by constructor <;> omega), bG_pos (by omega), Int.toNat_natCast, show (((3200 * b + (8 * e + k) : Nat) : Int) + 1) = 8 * (400 * (b : Int) + (e : Int)) + ((k + 1 : Nat) : Int) by omega]
          split <;> rfl
        rw [z1, Z] at S
        obtain ⟨ν', w1, w2, w3⟩ := ih (k + 1) (bset ν 87 (3200 * b + (8 * e + k)) z) (by omega) (by simp (disch := first | omega | decide) only [bset_q, bset_k, bset_at]; exact hw) (by simp (disch := first | omega | decide) only [bset_q, bset_k, bset_at, h3]) (by simp (disch := first | omega | decide) only [bset_q, bset_k, bset_at, hn]) (by simp (disch := first | omega | decide) only [bset_q, bset_k, bset_at]; exact h84)
        refine ⟨ν', ?_, ⟨w2.1.trans (by simp (disch := first | omega | decide) only [bset_q, bset_k, bset_at]), w2.2.1.trans (by simp (disch := first | omega | decide) only [bset_q, bset_k, bset_at]), w2.2.2.trans (by simp (disch := first | omega | decide) only [bset_q, bset_k, bset_at])⟩, Fr_tr (Fr_b (by unfold sRm; omega)) w3⟩
        rw [← w1]
        refine bLoop_step (f := fun z : Int × bM => F_X11_resolve_12 n0 (400 * (b : Int) + e) z.1 z.2) ?_
        show F_X11_resolve_12 n0 (400 * (b : Int) + e) (8 * (400 * (b : Int) + e) + k) ν = _
        rw [es]
        exact S
      · rw [M_isReference.2 y, Option.bind_some, if_pos rfl] at S
        obtain ⟨ν', w1, w2, w3⟩ := ih (k + 1) ν (by omega) hw h3 hn h84
        refine ⟨ν', ?_, w2, w3⟩
        rw [← w1]
        exact bLoop_step (f := fun z : Int × bM => F_X11_resolve_12 n0 (400 * (b : Int) + e) z.1 z.2) (s := (8 * (400 * (b : Int) + e) + (k : Int), ν)) S
end
end GA
