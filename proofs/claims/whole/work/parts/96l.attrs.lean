section FU
/-! all attributes of an entry -/
def sEc (T e q k : Nat) : Prop := q = 46 ∨ q = 30 ∧ k = 4 ∨ q = 60 ∧ 8 * e ≤ k ∧ k < 8 * e + 8 ∨ q = T + 10 ∧ k = e ∨ T + 11 ≤ q ∧ q ≤ T + 14 ∧ 8 * e ≤ k ∧ k < 8 * e + 8
def sEm (b e P q k : Nat) : Prop := q = 76 ∧ 37 ≤ k ∧ k ≤ 40 ∨ q = 76 ∧ k = 53 ∨ q = 111 ∧ 8 * e ≤ k ∧ k < 8 * e + 8 ∨ q = 84 ∧ k = 400 * b + e ∨ 85 ≤ q ∧ q ≤ 89 ∧ 3200 * b + 8 * e ≤ k ∧ k < 3200 * b + 8 * e + 8 ∨ 90 ≤ q ∧ q ≤ 91 ∧ k = b ∨ q = 92 ∧ 90000 * b + P ≤ k ∧ k < 90000 * b + 90000
/-- what does not change while the attributes are read -/
def EC (r : Nat → Nat → Int) (sz : Nat → Nat) (T b sI N P : Nat) (μ ν : bM) : Prop := CSrc r sz μ ∧ MSrc r sz ν ∧ μ 30 0 = (T : Int) ∧ ν 76 3 = (b : Int) ∧ μ 52 sI = (N : Int) ∧ ν 107 sI = (N : Int) ∧ rowsP sI N μ ν ∧ sz 2 ≤ P ∧ ∀ i, i < sz 2 → ν 92 (90000 * b + i) = r 2 i
/-- what has been read -/
def ES (r : Nat → Nat → Int) (sz : Nat → Nat) (T b e E L0 sI A p L P : Nat) (μ ν : bM) : Prop := Cur 0 p E μ ∧ Mur 0 p E ν ∧ p ≤ E ∧ μ (T + 10) e = (A : Int) ∧ ν 84 (400 * b + e) = (A : Int) ∧ μ 30 4 = (L : Int) ∧ ν 90 b = (L : Int) ∧ L ≤ 30000 ∧ ν 91 b = (P : Int) ∧ P ≤ 8000 + L ∧ (L : Int) = L0 + sumI (fun k => μ (T + 14) (8 * e + k)) A ∧ ∀ k, k < A → At0 r sz T b μ ν (8 * e + k) ∧ μ (T + 11) (8 * e + k) = ν 108 (8 * sI + k)
section
variable {r : Nat → Nat → Int} {sz : Nat → Nat} {μ ν μ' ν' : bM} {T b e A p E L0 L P j s sI N : Nat}
def AtsOk (r : Nat → Nat → Int) (sz : Nat → Nat) (T b e E L0 sI N A p P : Nat) (μ ν : bM) : Prop :=
  (∃ (p' L' P' : Nat) (μ' ν' : bM), bLoop (fun z : Int × bM => F_X4_readEntry_89 sI e z.1 z.2) ((A : Int), μ) = some (.inl (e : Int), μ') ∧ bLoop (fun z : Int × bM => F_X11_readEntry_147 sI e z.1 z.2) ((A : Int), ν) = some ((e : Int), bset ν' 76 53 (ν' 106 sI)) ∧ ES r sz T b e E L0 sI N p' L' P' μ' ν' ∧ p ≤ p' ∧ P ≤ P' ∧ Fr (sEc T e) μ μ' ∧ Fr (sEm b e P) ν ν') ∨
  (∃ μ' ν' : bM, bLoop (fun z : Int × bM => F_X4_readEntry_89 sI e z.1 z.2) ((A : Int), μ) = some (.inr ISE, μ') ∧ bLoop (fun z : Int × bM => F_X11_readEntry_147 sI e z.1 z.2) ((A : Int), ν) = some ((e : Int), ν') ∧ BadP μ' ν' ∧ Fr (sEc T e) μ μ' ∧ Fr (sEm b e P) ν ν')
theorem sEm_P {b e P P' : Nat} (h : P ≤ P') {q k : Nat} (x : sEm b e P' q k) : sEm b e P q k := by
  unfold sEm at x ⊢
  omega
theorem sEc_A {T e A : Nat} (h : A < 8) {q k : Nat} (x : sAc T e (8 * e + A) q k) : sEc T e q k := by
  unfold sAc at x
  unfold sEc
  omega
theorem sEm_A {b e A P : Nat} (h : A < 8) {q k : Nat} (x : sAm b e (8 * e + A) P q k) : sEm b e P q k := by
  unfold sAm at x
  unfold sEm
  omega
theorem J_ats1 (hs : Src r sz) (hT : T = 31 ∨ T = 61) (hb : b = 0 ∨ b = 1) (hE : E ≤ sz 0) (he : e < 400) (hsI : sI < 200) (hN8 : N ≤ 8) (hAN : A < N) (hec : EC r sz T b sI N P μ ν) (hes : ES r sz T b e E L0 sI A p L P μ ν)
    (ih : ∀ (p' L' P' : Nat) (μ1 ν1 : bM), EC r sz T b sI N P' μ1 ν1 → ES r sz T b e E L0 sI (A + 1) p' L' P' μ1 ν1 → AtsOk r sz T b e E L0 sI N (A + 1) p' P' μ1 ν1) : AtsOk r sz T b e E L0 sI N A p P μ ν := by
  obtain ⟨c1, c2, c3, c4, c5, c6, c7, c8, c9⟩ := id hec
  obtain ⟨e1, e2, e3, e4, e5, e6, e7, e8, e9, e10, e11, e12⟩ := id hes
  obtain ⟨⟨n1, n2⟩, n3, n4, n5⟩ := c7 A hAN
  have monoC : ∀ q k, sAc T e (8 * e + A) q k → sEc T e q k := fun q k x => sEc_A (by omega) x
  have monoM : ∀ q k, sAm b e (8 * e + A) P q k → sEm b e P q k := fun q k x => sEm_A (by omega) x
  rcases J_att hs hT hb c1 c2 e1 e2 e3 hE c3 c4 he e4 e5 (by omega) hsI c5 c6 hAN n1 rfl n2 rfl n3 n4 e6 e7 e8 e9 e10 c8 c9 with ⟨p', n, P', μ1, ν1, q1, q2, q3, q4, q5, q6, q7, q8, q9, q10, q11, q12, q13, q14, q15, q16, q17, q18, q19⟩ | ⟨μ1, ν1, q1, q2, q3, q4, q5⟩
  · have hc1 : CSrc r sz μ1 := CSrc_A hT c1 q18
    have hm1 : MSrc r sz ν1 := MSrc_A c2 q19
    have r108 : ν1 108 = ν 108 := funext fun k => q19 108 k (by unfold sAm; omega)
    have r109 : ν1 109 = ν 109 := funext fun k => q19 109 k (by unfold sAm; omega)
    have r53 : μ1 53 = μ 53 := funext fun k => q18 53 k (by unfold sAc; omega)
    have r54 : μ1 54 = μ 54 := funext fun k => q18 54 k (by unfold sAc; omega)
    have hec1 : EC r sz T b sI N P' μ1 ν1 := by
      refine ⟨hc1, hm1, ?_, ?_, ?_, ?_, ?_, by omega, fun i hi => ?_⟩
      · rw [q18 30 0 (by unfold sAc; omega)]; exact c3
      · rw [q19 76 3 (by unfold sAm; omega)]; exact c4
      · rw [q18 52 sI (by unfold sAc; omega)]; exact c5
      · rw [q19 107 sI (by unfold sAm; omega)]; exact c6
      · unfold rowsP
        rw [r108, r109, r53, r54]
        exact c7
      · rw [q19 92 _ (by unfold sAm; omega)]
        exact c9 i hi
    have hes1 : ES r sz T b e E L0 sI (A + 1) p' (L + n) P' μ1 ν1 := by
      refine ⟨q5, q6, q2, by rw [q7]; rfl, by rw [q8]; rfl, q12, q13, q14, q15, by omega, ?_, fun k hk => ?_⟩
      · show _ = (L0 : Int) + (sumI (fun k => μ1 (T + 14) (8 * e + k)) A + μ1 (T + 14) (8 * e + A))
        rw [q11, sumI_congr (g := fun k => μ (T + 14) (8 * e + k)) A (fun k hk => q18 (T + 14) (8 * e + k) (by unfold sAc; omega))]
        omega
      · rw [r108]
        by_cases c : k = A
        · rw [c]
          exact ⟨q9, q10⟩
        · obtain ⟨x1, x2⟩ := e12 k (by omega)
          refine ⟨At0_fr hT x1 (by omega) q18 q19 (by omega) e9 q15 q16, ?_⟩
          rw [q18 (T + 11) (8 * e + k) (by unfold sAc; omega)]
          exact x2
    have s1 := bLoop_step (f := fun z : Int × bM => F_X4_readEntry_89 sI e z.1 z.2) (s := ((A : Int), μ)) q3
    have s2 := bLoop_step (f := fun z : Int × bM => F_X11_readEntry_147 sI e z.1 z.2) (s := ((A : Int), ν)) q4
    have monoP : ∀ q k, sEm b e P' q k → sEm b e P q k := fun q k x => sEm_P q16 x
    rcases ih p' (L + n) P' μ1 ν1 hec1 hes1 with ⟨p2, L2, P2, μ2, ν2, w1, w2, w3, w4, w5, w6, w7⟩ | ⟨μ2, ν2, w1, w2, w3, w4, w5⟩
    · exact Or.inl ⟨p2, L2, P2, μ2, ν2, s1.trans w1, s2.trans w2, w3, by omega, by omega, Fr_tr (Fr_mono q18 monoC) w6, Fr_tr (Fr_mono q19 monoM) (Fr_mono w7 monoP)⟩
    · exact Or.inr ⟨μ2, ν2, s1.trans w1, s2.trans w2, w3, Fr_tr (Fr_mono q18 monoC) w4, Fr_tr (Fr_mono q19 monoM) (Fr_mono w5 monoP)⟩
  · right
    have s2 := bLoop_step (f := fun z : Int × bM => F_X11_readEntry_147 sI e z.1 z.2) (s := ((A : Int), ν)) q2
    refine ⟨μ1, bset ν1 76 53 (ν1 106 sI), bLoop_done q1, s2.trans (bLoop_done ?_), ?_, Fr_mono q4 monoC, Fr_tr (Fr_mono q5 monoM) (Fr_b (by unfold sEm; omega))⟩
    · show F_X11_readEntry_147 sI e ((A : Int) + 1) ν1 = _
      have x107 : ν1 107 sI = (N : Int) := by rw [q5 107 sI (by unfold sAm; omega)]; exact c6
      unfold F_X11_readEntry_147
      rw [bG_pos (by omega), Int.toNat_natCast, x107, bG_pos (by omega), if_pos (c := ¬ ν1 76 37 = -1) (BadP_ne q3)]
      split <;> rfl
    · obtain ⟨x1, x2, x3, x4, x5⟩ := q3
      exact ⟨by simp (disch := first | omega | decide) only [bset_q, bset_k, bset_at]; exact x1, by simp (disch := first | omega | decide) only [bset_q, bset_k, bset_at]; exact x2, by simp (disch := first | omega | decide) only [bset_q, bset_k, bset_at]; exact x3, x4, x5⟩
theorem J_ats (hs : Src r sz) (hT : T = 31 ∨ T = 61) (hb : b = 0 ∨ b = 1) (hE : E ≤ sz 0) (he : e < 400) (hsI : sI < 200) (hN8 : N ≤ 8) : ∀ (d A p L P : Nat) (μ ν : bM), A + d = N → EC r sz T b sI N P μ ν → ES r sz T b e E L0 sI A p L P μ ν → AtsOk r sz T b e E L0 sI N A p P μ ν := by
  intro d
  induction d with
  | zero =>
    intro A p L P μ ν hd hec hes
    have : A = N := by omega
    subst this
    obtain ⟨c1, c2, c3, c4, c5, c6, c7, c8, c9⟩ := id hec
    left
    refine ⟨p, L, P, μ, ν, bLoop_done ?_, bLoop_done ?_, hes, by omega, by omega, Fr_rf, Fr_rf⟩
    · show F_X4_readEntry_89 sI e (A : Int) μ = _
      unfold F_X4_readEntry_89
      rw [bG_pos (by omega), Int.toNat_natCast, c5, if_pos (by omega)]
    · show F_X11_readEntry_147 sI e (A : Int) ν = _
      unfold F_X11_readEntry_147
      rw [bG_pos (by omega), Int.toNat_natCast, c6, if_pos (by omega), bG_pos (by omega)]
  | succ d ih =>
    intro A p L P μ ν hd hec hes
    exact J_ats1 hs hT hb hE he hsI hN8 (by omega) hec hes fun p' L' P' μ1 ν1 a1 a2 => ih (A + 1) p' L' P' μ1 ν1 (by omega) a1 a2
end
end FU
