section FA
/-! bytes put one behind the other, by the class into a store, by the model into the sections -/
def AppL (q1 k1 q2 : Nat) (μ μ' : bM) (L : List Int) : Prop := App q1 k1 q2 μ μ' L.length (fun j => L.getD j 0)
section
variable {q1 k1 q2 : Nat} {μ μ1 μ2 : bM}
theorem AppL.nil : AppL q1 k1 q2 μ μ [] := App.refl
theorem AppL.trans {L L' : List Int} (h : AppL q1 k1 q2 μ μ1 L) (h' : AppL q1 k1 q2 μ1 μ2 L') (h0 : 0 ≤ μ q1 k1) : AppL q1 k1 q2 μ μ2 (L ++ L') := by
  unfold AppL at h h' ⊢
  refine (App.trans h h' h0).congr (by rw [List.length_append]) (fun j hj => ?_)
  simp only [List.getD_eq_getElem?_getD, List.getElem?_append]
  by_cases c : j < L.length
  · rw [if_pos c, if_pos c]
  · rw [if_neg c, if_neg c]
theorem AppL.cnt {L : List Int} (h : AppL q1 k1 q2 μ μ1 L) : μ1 q1 k1 = μ q1 k1 + L.length := h.1
theorem AppL.row {L : List Int} (h : AppL q1 k1 q2 μ μ1 L) {q : Nat} (h1 : q ≠ q1) (h2 : q ≠ q2) : μ1 q = μ q := h.2.1 q h1 h2
theorem AppL.one (hq : q1 ≠ q2) (v : Int) : AppL q1 k1 q2 μ (bset (bset μ q2 (μ q1 k1).toNat v) q1 k1 (μ q1 k1 + 1)) [v] := (App.one hq v).congr rfl (fun j hj => by
  rw [show j = 0 by omega]
  rfl)
end
/-- a number by sevens, the lowest first -/
def rowLf : Nat → Int → List Int
  | 0, v => [b8 (v % 128)]
  | f + 1, v => if v ≤ 127 then [b8 (v % 128)] else b8 (v % 128 + 128) :: rowLf f (v / 128)
def rowL (v : Int) : List Int := rowLf 9 v
theorem rowLf_len : ∀ (f : Nat) (v : Int), ((rowLf f v).length : Int) = rbI f v
  | 0, v => rfl
  | f + 1, v => by
    unfold rowLf rbI
    by_cases c : v ≤ 127
    · rw [if_pos c, if_pos c]; rfl
    · rw [if_neg c, if_neg c, List.length_cons, Int.natCast_succ, rowLf_len f (v / 128)]
      omega
theorem rowL_len {v : Int} : ((rowL v).length : Int) = rb v := rowLf_len 9 v
def srowLf : Nat → Int → List Int
  | 0, v => [b8 (v % 128)]
  | f + 1, v => if -64 ≤ v ∧ v ≤ 63 then [b8 (v % 128)] else b8 (v % 128 + 128) :: srowLf f (v / 128)
def srowL (v : Int) : List Int := srowLf 9 v
theorem srowLf_len : ∀ (f : Nat) (v : Int), ((srowLf f v).length : Int) = srI f v
  | 0, v => rfl
  | f + 1, v => by
    unfold srowLf srI
    by_cases c : -64 ≤ v ∧ v ≤ 63
    · rw [if_pos c, if_pos c]; rfl
    · rw [if_neg c, if_neg c, List.length_cons, Int.natCast_succ, srowLf_len f (v / 128)]
      omega
theorem srowL_len {v : Int} : ((srowL v).length : Int) = sr v := srowLf_len 9 v
def lowLf (v : Int) : Nat → Nat → List Int
  | 0, _ => []
  | k + 1, j => b8 (b32 (bShrL v (8 * (j : Int)))) :: lowLf v k (j + 1)
def lowL (v : Int) (w : Nat) : List Int := lowLf v w 0
theorem lowLf_len {v : Int} : ∀ (k j : Nat), (lowLf v k j).length = k
  | 0, _ => rfl
  | k + 1, j => by unfold lowLf; rw [List.length_cons, lowLf_len k (j + 1)]
theorem lowL_len {v : Int} {w : Nat} : (lowL v w).length = w := lowLf_len w 0
def cpLf (f : Nat → Int) : Nat → Nat → List Int
  | 0, _ => []
  | k + 1, j => f j :: cpLf f k (j + 1)
def cpL (f : Nat → Int) (n : Nat) : List Int := cpLf f n 0
theorem cpLf_len {f : Nat → Int} : ∀ (k j : Nat), (cpLf f k j).length = k
  | 0, _ => rfl
  | k + 1, j => by unfold cpLf; rw [List.length_cons, cpLf_len k (j + 1)]
theorem cpL_len {f : Nat → Int} {n : Nat} : (cpL f n).length = n := cpLf_len n 0
theorem cpLf_congr {f g : Nat → Int} : ∀ (k j : Nat), (∀ i, j ≤ i → i < j + k → f i = g i) → cpLf f k j = cpLf g k j
  | 0, _, _ => rfl
  | k + 1, j, h => by
    unfold cpLf
    rw [h j (by omega) (by omega), cpLf_congr k (j + 1) (fun i a b => h i (by omega) (by omega))]
theorem b8_b {v : Int} (h : -128 ≤ v ∧ v ≤ 127) : b8 v = v := by unfold b8; omega
section
variable {s s2 : Nat} {ρ : bM}
/-! the class's -/
theorem P_add (h : sOk s ρ) (hr : ρ s 1 + 1 ≤ (bN (s + 1) : Int)) (o : Int) : ∃ ρ', F_X6_add s o ρ = some (0, ρ') ∧ AppL s 1 (s + 1) ρ ρ' [b8 o] := ⟨_, S_add h (by omega) o, AppL.one (by omega) _⟩
theorem sOk_app {ρ' : bM} {L : List Int} (h : sOk s ρ) (hr : ρ s 1 + L.length ≤ (bN (s + 1) : Int)) (ha : AppL s 1 (s + 1) ρ ρ' L) : sOk s ρ' := by
  have := ha.cnt
  have := h.1
  exact ⟨by omega, by omega⟩
theorem P_low {v : Int} {w : Nat} (hw : w ≤ 1000) (h : sOk s ρ) (hr : ρ s 1 + w ≤ (bN (s + 1) : Int)) : ∃ ρ', F_X6_addLowFirst s v w ρ = some (0, ρ') ∧ AppL s 1 (s + 1) ρ ρ' (lowL v w) := by
  have h0 := h.1
  have H : ∀ (k j : Nat) (σ : bM), j + k = w → sOk s σ → σ s 1 + k ≤ (bN (s + 1) : Int) → ∃ ρ', bLoop (fun z : Int × bM => F_X6_addLowFirst_3 s v w z.1 z.2) ((j : Int), σ) = some (0, ρ') ∧ AppL s 1 (s + 1) σ ρ' (lowLf v k j) := by
    intro k
    induction k with
    | zero =>
      intro j σ hj _ _
      refine ⟨σ, bLoop_done ?_, AppL.nil⟩
      show F_X6_addLowFirst_3 s v w j σ = _
      unfold F_X6_addLowFirst_3
      rw [if_pos (by omega)]
    | succ k ih =>
      intro j σ hj hs hrm
      have hs0 := hs.1
      obtain ⟨σ1, a1, a2⟩ := P_add hs (by omega) (b32 (bShrL v (8 * (j : Int))))
      have c1 := a2.cnt
      simp only [List.length_cons, List.length_nil] at c1
      obtain ⟨σ2, b1, b2⟩ := ih (j + 1) σ1 (by omega) (sOk_app hs (by simp only [List.length_cons, List.length_nil]; omega) a2) (by omega)
      refine ⟨σ2, ?_, a2.trans b2 hs0⟩
      rw [Int.natCast_succ] at b1
      rw [← b1]
      refine bLoop_step (f := fun z : Int × bM => F_X6_addLowFirst_3 s v w z.1 z.2) ?_
      show F_X6_addLowFirst_3 s v w j σ = _
      unfold F_X6_addLowFirst_3
      rw [if_neg (by omega), bG_pos (by constructor <;> omega), a1, bMm_some, bG_pos (by constructor <;> omega)]
  exact H w 0 ρ (by omega) h hr
theorem P_cp (hb : bOk ρ) (h2s : bStore s2) (h : sOk s ρ) (h2 : sOk s2 ρ) (hne : s ≠ s2 ∧ s + 1 ≠ s2 ∧ s ≠ s2 + 1) {a n : Nat} (hn : (a : Int) + n ≤ ρ s2 1) (hr : ρ s 1 + n ≤ (bN (s + 1) : Int)) : ∃ ρ', F_X6_addFrom s s2 a n ρ = some (0, ρ') ∧ AppL s 1 (s + 1) ρ ρ' (cpL (fun i => ρ (s2 + 1) (a + i)) n) := by
  obtain ⟨ρ', a1, a2⟩ := A_from (s := s) (s2 := s2) (μ := ρ) (a := a) (n := n) hb h2s h h2 hne (by omega) hn hr
  refine ⟨ρ', a1, ?_⟩
  unfold AppL
  refine a2.congr cpL_len.symm (fun j hj => ?_)
  have H : ∀ (k i j : Nat), j < k → (cpLf (fun i => ρ (s2 + 1) (a + i)) k i).getD j 0 = ρ (s2 + 1) (a + (i + j)) := by
    intro k
    induction k with
    | zero => intro i j hj; omega
    | succ k ih =>
      intro i j hj
      unfold cpLf
      cases j with
      | zero => rfl
      | succ j =>
        rw [List.getD_cons_succ, ih (i + 1) j (by omega)]
        congr 2
        omega
  (try simp only)
  unfold cpL
  rw [H n 0 j hj, Int.toNat_natCast, Nat.zero_add]
theorem P_sevens {L : List Int} {st : Nat → Int → Int} (hst : ∀ f x, 1 ≤ st f x ∧ st f x ≤ f + 1) (ls : Nat → Int → List Int) (hlen : ∀ f x, ((ls f x).length : Int) = st f x) (ok : Int → Prop) (hl0 : ∀ x, ok x → st 0 x = 1 ∧ ls 0 x = [b8 (x % 128)]) (hls : ∀ f x, ok x → (st (f + 1) x = 1 ∧ ls (f + 1) x = [b8 (x % 128)]) ∨ (st (f + 1) x = 1 + st f (x / 128) ∧ ls (f + 1) x = b8 (x % 128 + 128) :: ls f (x / 128) ∧ ok (x / 128)))
    (hokR : ∀ x, ok x → bRL x) : ∀ (f : Nat) (x i : Int) (σ : bM) (size : Int), ok x → 1 ≤ i → i + f ≤ 1000 → size - i + 1 = st f x → sOk s σ → σ s 1 + st f x ≤ (bN (s + 1) : Int) → ∃ ρ', bLoop (fun z : Int × Int × bM => F_X6_addSevens_6 s size z.1 z.2.1 z.2.2) (x, i, σ) = some (0, ρ') ∧ AppL s 1 (s + 1) σ ρ' (ls f x) := by
  intro f
  have last : ∀ (g : Nat) (x i : Int) (σ : bM) (size : Int), ok x → 1 ≤ i → i ≤ 1000 → size - i + 1 = 1 → ls g x = [b8 (x % 128)] → sOk s σ → σ s 1 + 1 ≤ (bN (s + 1) : Int) → ∃ ρ', bLoop (fun z : Int × Int × bM => F_X6_addSevens_6 s size z.1 z.2.1 z.2.2) (x, i, σ) = some (0, ρ') ∧ AppL s 1 (s + 1) σ ρ' (ls g x) := by
    intro g x i σ size hx hi hi2 hsz hl hs hr
    obtain ⟨σ1, a1, a2⟩ := P_add hs (by omega) (x % 128)
    refine ⟨σ1, ?_, by rw [hl]; exact a2⟩
    have hs' : size = i := by omega
    rw [bLoop_step (f := fun z : Int × Int × bM => F_X6_addSevens_6 s size z.1 z.2.1 z.2.2) (s' := (bShrL x 7, i + 1, σ1))]
    · refine bLoop_done ?_
      show F_X6_addSevens_6 s size (bShrL x 7) (i + 1) σ1 = _
      unfold F_X6_addSevens_6
      rw [if_pos (by omega)]
    · show F_X6_addSevens_6 s size x i σ = _
      unfold F_X6_addSevens_6
      rw [if_neg (by omega), if_pos (by omega), bAndL127 (hokR x hx), b32i (by constructor <;> omega), a1, bMm_some, bG_pos (by constructor <;> omega)]
  induction f with
  | zero =>
    intro x i σ size hx hi hi2 hsz hs hr
    obtain ⟨e1, e2⟩ := hl0 x hx
    exact last 0 x i σ size hx hi (by omega) (by omega) e2 hs (by omega)
  | succ f ih =>
    intro x i σ size hx hi hi2 hsz hs hr
    rcases hls f x hx with ⟨e1, e2⟩ | ⟨e1, e2, e3⟩
    · exact last (f + 1) x i σ size hx hi (by omega) (by omega) e2 hs (by omega)
    · have hst1 := hst f (x / 128)
      have hs0 := hs.1
      obtain ⟨σ1, a1, a2⟩ := P_add hs (by omega) (x % 128 + 128)
      have c1 := a2.cnt
      simp only [List.length_cons, List.length_nil] at c1
      obtain ⟨σ2, b1, b2⟩ := ih (x / 128) (i + 1) σ1 size e3 (by omega) (by omega) (by omega) (sOk_app hs (by simp only [List.length_cons, List.length_nil]; omega) a2) (by omega)
      refine ⟨σ2, ?_, by rw [e2]; exact a2.trans b2 hs0⟩
      rw [← b1]
      refine bLoop_step (f := fun z : Int × Int × bM => F_X6_addSevens_6 s size z.1 z.2.1 z.2.2) ?_
      show F_X6_addSevens_6 s size x i σ = _
      unfold F_X6_addSevens_6
      have hor := bOr128 (x % 128).toNat (by omega)
      rw [show (((x % 128).toNat : Nat) : Int) = x % 128 by omega] at hor
      rw [if_neg (by omega), if_neg (by omega), bAndL127 (hokR x hx), b32i (by constructor <;> omega), hor, a1, bMm_some, bG_pos (by constructor <;> omega), bShrL7 (hokR x hx)]
theorem P_row {v : Int} (hv : 0 ≤ v ∧ v ≤ 9223372036854775807) (h : sOk s ρ) (hr : ρ s 1 + rb v ≤ (bN (s + 1) : Int)) : ∃ ρ', F_X6_addRow s v ρ = some (0, ρ') ∧ AppL s 1 (s + 1) ρ ρ' (rowL v) := by
  obtain ⟨ρ', a1, a2⟩ := P_sevens (s := s) (L := []) (st := rbI) rbI_rg rowLf rowLf_len (fun x => 0 ≤ x ∧ x ≤ 9223372036854775807) (fun x _ => ⟨rfl, rfl⟩) (fun f x hx => by
      rw [show rbI (f + 1) x = if x ≤ 127 then 1 else 1 + rbI f (x / 128) from rfl, show rowLf (f + 1) x = if x ≤ 127 then [b8 (x % 128)] else b8 (x % 128 + 128) :: rowLf f (x / 128) from rfl]
      by_cases c : x ≤ 127
      · left
        rw [if_pos c, if_pos c]; exact ⟨rfl, rfl⟩
      · right
        rw [if_neg c, if_neg c]
        exact ⟨rfl, rfl, by omega, by omega⟩) (fun x hx => ⟨by omega, hx.2⟩) 9 v 1 ρ (rb v) hv (by omega) (by omega) (by unfold rb; omega) h (by unfold rb at hr; exact hr)
  refine ⟨ρ', ?_, a2⟩
  unfold F_X6_addRow F_X6_addSevens
  rw [C_rowSize hv, Option.bind_some, a1, bMm_some]
theorem P_srow {v : Int} (hv : bRL v) (h : sOk s ρ) (hr : ρ s 1 + sr v ≤ (bN (s + 1) : Int)) : ∃ ρ', F_X6_addSignedRow s v ρ = some (0, ρ') ∧ AppL s 1 (s + 1) ρ ρ' (srowL v) := by
  obtain ⟨ρ', a1, a2⟩ := P_sevens (s := s) (L := []) (st := srI) srI_rg srowLf srowLf_len (fun x => bRL x) (fun x _ => ⟨rfl, rfl⟩) (fun f x hx => by
      rw [show srI (f + 1) x = if -64 ≤ x ∧ x ≤ 63 then 1 else 1 + srI f (x / 128) from rfl, show srowLf (f + 1) x = if -64 ≤ x ∧ x ≤ 63 then [b8 (x % 128)] else b8 (x % 128 + 128) :: srowLf f (x / 128) from rfl]
      by_cases c : -64 ≤ x ∧ x ≤ 63
      · left
        rw [if_pos c, if_pos c]; exact ⟨rfl, rfl⟩
      · right
        have := hx.1
        have := hx.2
        rw [if_neg c, if_neg c]
        exact ⟨rfl, rfl, by omega, by omega⟩) (fun x hx => hx) 9 v 1 ρ (sr v) hv (by omega) (by omega) (by unfold sr; omega) h (by unfold sr at hr; exact hr)
  refine ⟨ρ', ?_, a2⟩
  unfold F_X6_addSignedRow F_X6_addSevens
  rw [(M_signed hv).2, Option.bind_some, a1, bMm_some]
end
end FA
