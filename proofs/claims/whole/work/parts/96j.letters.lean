section FS
/-! texts and blocks -/
def sVm (b s P q k : Nat) : Prop := q = 76 ∧ 37 ≤ k ∧ k ≤ 40 ∨ 88 ≤ q ∧ q ≤ 89 ∧ k = s ∨ q = 91 ∧ k = b ∨ q = 92 ∧ 90000 * b + P ≤ k ∧ k < 90000 * b + 90000
def secN (fo : Int) : Nat := if fo = 14 then 2 else 0
section
variable {r : Nat → Nat → Int} {sz : Nat → Nat} {μ ν μ' ν' : bM} {T b e A p E L P j s : Nat} {nm fo va ln : Int}
theorem bcp_fr {X : Nat → Nat → Prop} {q a n : Nat} {f : Nat → Int} (h : ∀ k, a ≤ k → k < a + n → X q k) : Fr X ν (bcp ν q a n f) := fun q' k x => by
  unfold bcp
  rw [if_neg (fun hh => x (by rw [hh.1]; exact h k hh.2.1 hh.2.2))]
def kpM (ν : bM) (b P off n : Nat) : bM := bset (bcp ν 92 (90000 * b + P) n (fun k => ν 93 (off + (k - (90000 * b + P))))) 91 b (((P + n : Nat)) : Int)
theorem M_keep {off n : Nat} (hb : b = 0 ∨ b = 1) (h3 : ν 76 3 = (b : Int)) (hP : ν 91 b = (P : Int)) (h1 : off + n ≤ 40000) (h2 : P + n ≤ 90000) : F_X11_keep off n ν = some (((90000 * b + P : Nat) : Int), kpM ν b P off n) := by
  have L : ∀ d i : Nat, i + d = n → bLoop (fun z : Int × bM => F_X11_keep_21 off n ((90000 * b + P : Nat) : Int) z.1 z.2) ((i : Int), bcp ν 92 (90000 * b + P) i (fun k => ν 93 (off + (k - (90000 * b + P))))) = some (((90000 * b + P : Nat) : Int), kpM ν b P off n) := by
    intro d
    induction d with
    | zero =>
      intro i hi
      have : i = n := by omega
      subst this
      refine bLoop_done ?_
      have e3 : bcp ν 92 (90000 * b + P) i (fun k => ν 93 (off + (k - (90000 * b + P)))) 76 3 = (b : Int) := by rw [bcp_q (by decide)]; exact h3
      have e91 : bcp ν 92 (90000 * b + P) i (fun k => ν 93 (off + (k - (90000 * b + P)))) 91 b = (P : Int) := by rw [bcp_q (by decide)]; exact hP
      show F_X11_keep_21 off i ((90000 * b + P : Nat) : Int) (i : Int) (bcp ν 92 (90000 * b + P) i (fun k => ν 93 (off + (k - (90000 * b + P))))) = _
      unfold F_X11_keep_21 F_X11_keep_51 kpM
      rw [if_pos (by omega), e3, Int.toNat_natCast, bG_pos (by omega), e91, bG_pos (by constructor <;> omega), bG_pos (by omega), show (P : Int) + (i : Int) = ((P + i : Nat) : Int) by omega]
      rfl
    | succ d ih =>
      intro i hi
      refine (bLoop_step ?_).trans (ih (i + 1) (by omega))
      show F_X11_keep_21 off n ((90000 * b + P : Nat) : Int) (i : Int) (bcp ν 92 (90000 * b + P) i (fun k => ν 93 (off + (k - (90000 * b + P))))) = _
      unfold F_X11_keep_21
      rw [if_neg (by omega), bG_pos (by constructor <;> omega), bG_pos (by constructor <;> omega), bG_pos (by omega), bG_pos (by omega), bG_pos (by constructor <;> omega), show (((90000 * b + P : Nat) : Int) + (i : Int)).toNat = 90000 * b + P + i by omega, show ((off : Int) + (i : Int)).toNat = off + i by omega, bcp_q (q' := 93) (by decide), bcp_succ (by rw [show 90000 * b + P + i - (90000 * b + P) = i by omega])]
      rfl
  unfold F_X11_keep
  rw [h3, Int.toNat_natCast, hP, bG_pos (by constructor <;> omega), bG_pos (by omega), bG_pos (by constructor <;> omega), show (90000 : Int) * (b : Int) + (P : Int) = ((90000 * b + P : Nat) : Int) by omega]
  have := L n 0 (by omega)
  rw [bcp_0] at this
  exact this
theorem kpM_fr {off n : Nat} (h2 : P + n ≤ 90000) : Fr (sVm b s P) ν (kpM ν b P off n) := by
  unfold kpM
  exact Fr_tr (bcp_fr fun k h1 h3 => by unfold sVm; omega) (Fr_b (by unfold sVm; omega))
theorem kpM_in {off n i : Nat} (hi : i < n) : kpM ν b P off n 92 (90000 * b + P + i) = ν 93 (off + i) := by
  unfold kpM
  rw [bset_q (by decide), bcp_in (by omega), show 90000 * b + P + i - (90000 * b + P) = i by omega]
theorem oc_0 (hs : Src r sz) {i : Nat} : oc (r j) i = 0 ↔ r j i = 0 := by
  have := hs.2.2.2 j i
  unfold oc
  omega
theorem C_zero2 (hs : Src r sz) (hc : CSrc r sz μ) (hj : j < 3) {a l : Nat} (hal : a ≤ l) (hl : l ≤ sz j) : F_X6_zeroFrom (7 + 2 * j) a l μ = some (scan (r j) 0 a (l - a)) := by
  have hz : l ≤ 24000 := by
    obtain ⟨s0, s1, s2, s3⟩ := hs
    have : j = 0 ∨ j = 1 ∨ j = 2 := by omega
    rcases this with c | c | c <;> subst c <;> omega
  unfold F_X6_zeroFrom
  have L := loop_scan (F := fun z => F_X6_zeroFrom_2 (7 + 2 * j) l μ z) (f := r j) (w := 0) (non := (-1 : Int)) (fnd := fun k : Nat => (k : Int)) (l - a) a ?_ fun i j1 j2 => ?_
  · refine L.trans ?_
    by_cases c : scan (r j) 0 a (l - a) = -1
    · rw [if_pos c, c]
    · rw [if_neg c]
      rcases scan_spec (f := r j) (p := 0) (l - a) a with ⟨e, _⟩ | ⟨d, d1, d2, d3, d4, d5⟩
      · exact absurd e c
      · rw [d4, Int.toNat_natCast]
  · show F_X6_zeroFrom_2 (7 + 2 * j) l μ ((a + (l - a) : Nat) : Int) = _
    unfold F_X6_zeroFrom_2
    rw [if_pos (by omega)]
  · show F_X6_zeroFrom_2 (7 + 2 * j) l μ (i : Int) = _
    unfold F_X6_zeroFrom_2
    rw [if_neg (by omega), C_oct hs hc hj (by omega), Option.bind_some]
    have ho := oc_0 (j := j) hs (i := i)
    by_cases c : r j i = 0
    · rw [if_neg (fun hh => hh (by have := ho.mpr c; omega)), if_pos c]
    · rw [if_pos (fun hh => c (ho.mp (by omega))), if_neg c, bG_pos (by constructor <;> omega)]
/-- what reading a text or a block comes to -/
def LetOk (r : Nat → Nat → Int) (sz : Nat → Nat) (T b e A p E P : Nat) (nm fo : Int) (μ ν : bM) : Prop :=
  (∃ (p' st n P' : Nat) (ν' : bM), p ≤ p' ∧ p' ≤ E ∧ n ≤ 255 ∧ st + n ≤ sz (secN fo) ∧ F_X4_readLetters e nm fo μ = F_X4_readLetters_121 e nm fo p st n (bset μ 46 0 (p' : Int)) ∧ F_X11_readValue ((3200 * b + (8 * e + A) : Nat) : Int) ν = some (0, ν') ∧ Mur 0 p' E ν' ∧ ν' 89 (3200 * b + (8 * e + A)) = (n : Int) ∧
    (90000 * (b : Int) ≤ ν' 88 (3200 * b + (8 * e + A)) ∧ ν' 88 (3200 * b + (8 * e + A)) + n ≤ 90000 * b + P') ∧ ν' 91 b = (P' : Int) ∧ P ≤ P' ∧ P' ≤ P + n ∧ (∀ i, i < n → ν' 92 ((ν' 88 (3200 * b + (8 * e + A))).toNat + i) = r (secN fo) (st + i)) ∧ Fr (sVm b (3200 * b + (8 * e + A)) P) ν ν') ∨
  (∃ μ' ν' : bM, F_X4_readLetters e nm fo μ = some (.inr ISE, μ') ∧ F_X11_readValue ((3200 * b + (8 * e + A) : Nat) : Int) ν = some (0, ν') ∧ BadP μ' ν' ∧ Fr (sAc T e (8 * e + A)) μ μ' ∧ Fr (sVm b (3200 * b + (8 * e + A)) P) ν ν' ∧ ν' 89 = ν 89)
theorem C_97 {first st n : Int} : (0 ≤ n ∧ n ≤ 255 → F_X4_readLetters_97 e nm fo first st n μ = F_X4_readLetters_121 e nm fo first st n μ) ∧ (¬ (0 ≤ n ∧ n ≤ 255) → F_X4_readLetters_97 e nm fo first st n μ = some (.inr ISE, fl μ 6 first)) := by
  unfold F_X4_readLetters_97 F_X4_readLetters_110
  rw [C_refuse, bXm_inr]
  refine ⟨fun h => ?_, fun h => ?_⟩
  · rw [if_neg (by omega), if_pos (by omega)]
  · by_cases c : n < 0
    · rw [if_pos c]
    · rw [if_neg c, if_neg (by omega)]
theorem M_textIs {at' n : Int} (hs : s < 6400) : F_X11_textIs s at' n ν = some (0, bset (bset ν 88 s at') 89 s n) := by
  unfold F_X11_textIs
  rw [bG_pos (by omega), bG_pos (by omega), Int.toNat_natCast]
/-! a text in the entries -/
theorem M_text8_run (hs : Src r sz) (hm : MSrc r sz ν) (h' : Mur 0 p E ν) (hE : E ≤ sz 0) : ∀ n : Nat, p + n ≤ E → (∀ i, i < n → r 0 (p + i) ≠ 0) → F_X11_readText8 s ν = bLoop (fun z : Int × bM => F_X11_readText8_7 s p z.1 z.2) ((n : Int), bset ν 76 40 ((p + n : Nat) : Int)) := by
  have hz := sz_le hs (j := 0) (by omega)
  intro n
  induction n with
  | zero =>
    intro _ _
    unfold F_X11_readText8
    rw [h'.2.1, Nat.add_zero, bset_id h'.2.1]
    rfl
  | succ n ih =>
    intro h2 h3
    rw [ih (by omega) (fun i hi => h3 i (by omega))]
    refine bLoop_step ?_
    show F_X11_readText8_7 s p (n : Int) (bset ν 76 40 ((p + n : Nat) : Int)) = _
    have g := Mur_at (p' := p + n) h'
    have hm1 : MSrc r sz (bset ν 76 40 ((p + n : Nat) : Int)) := MSrc_b hm (by omega)
    have hh : F_X11_has 1 (bset ν 76 40 ((p + n : Nat) : Int)) = _ := M_has_ok (w := 1) g (by omega) (by omega)
    have ho := oc_0 (j := 0) hs (i := p + n)
    have h3' := h3 n (by omega)
    unfold F_X11_readText8_7
    rw [if_neg (c := ¬ _ = -1) (fun hh => hh g.2.2.2), hh, bMm_some, if_pos (by decide), g.2.1, M_oct hs hm1 (by omega) g.1 (by omega), Option.bind_some, if_pos (fun hh => h3' (ho.mp (by omega))), bG_pos (by constructor <;> omega), bG_pos (by constructor <;> omega), bset_bset, show ((p + n : Nat) : Int) + 1 = ((p + (n + 1) : Nat) : Int) by omega]
    rfl
theorem J_text8 (hs : Src r sz) (hb : b = 0 ∨ b = 1) (hc : CSrc r sz μ) (hm : MSrc r sz ν) (h : Cur 0 p E μ) (h' : Mur 0 p E ν) (hp : p ≤ E) (hE : E ≤ sz 0) (h3 : ν 76 3 = (b : Int)) (he : e < 400) (hA8 : A < 8) (hP : ν 91 b = (P : Int)) (hP2 : P ≤ 38000)
    (hfo : fo = 8) (h86 : ν 86 (3200 * b + (8 * e + A)) = fo) : LetOk r sz T b e A p E P nm fo μ ν := by
  subst hfo
  have hz := sz_le hs (j := 0) (by omega)
  have hsr : 3200 * b + (8 * e + A) < 6400 := by omega
  have D : F_X11_readValue ((3200 * b + (8 * e + A) : Nat) : Int) ν = bMm (F_X11_readText8 ((3200 * b + (8 * e + A) : Nat) : Int) ν) (fun w16 μ17 => some (0, μ17)) := by
    unfold F_X11_readValue
    rw [bG_pos (by omega), Int.toNat_natCast, h86]
    simp (disch := decide) only [if_pos, if_neg]
  have hC : F_X4_readLetters e nm 8 μ = bXm (F_X1_textLength μ) (fun w13 μ14 => F_X4_readLetters_97 e nm 8 p p w13 μ14) (fun e μ => some (.inr e, μ)) := by
    unfold F_X4_readLetters
    rw [if_neg (by decide), h.2.2.1]
  have hL : F_X6_zeroFrom (7 + 2 * 0) p E μ = _ := C_zero2 (j := 0) hs hc (by omega) hp hE
  unfold LetOk
  rw [D, hC]
  unfold F_X1_textLength
  rw [h.2.1.1, Int.toNat_natCast, h.2.2.1, h.2.2.2, hL, Option.bind_some]
  rcases scan_spec (f := r 0) (p := 0) (E - p) p with ⟨c1, c2⟩ | ⟨z, d1, d2, d3, d4, d5⟩
  · right
    rw [c1, if_neg (by decide), C_refuse, bXm_inr, bXm_inr, M_text8_run hs hm h' hE (E - p) (by omega) (fun i hi => c2 (p + i) (by omega) (by omega)), show p + (E - p) = E by omega]
    have g := Mur_at (p' := E) h'
    have hh : F_X11_has 1 (bset ν 76 40 (E : Int)) = _ := M_has_bad (w := 1) g (by omega) (by omega) (by omega)
    have e8 : bLoop (fun z : Int × bM => F_X11_readText8_7 ((3200 * b + (8 * e + A) : Nat) : Int) p z.1 z.2) (((E - p : Nat) : Int), bset ν 76 40 (E : Int)) = some (0, wr (bset ν 76 40 (E : Int)) 1 ((0 : Nat) : Int) E) := by
      refine bLoop_done ?_
      show F_X11_readText8_7 _ p _ (bset ν 76 40 (E : Int)) = _
      unfold F_X11_readText8_7
      rw [if_neg (c := ¬ _ = -1) (fun hh => hh g.2.2.2), hh, bMm_some, if_neg (by decide)]
    rw [e8, bMm_some]
    refine ⟨_, _, rfl, rfl, (Bad1_mk0 (ν := bset ν 76 40 (E : Int)) h.1 (by omega)).1, fl_fr, Fr_tr (Fr_b (by unfold sVm; omega)) (wr_frX fun k k1 k2 => Or.inl ⟨rfl, k1, k2⟩), ?_⟩
    unfold wr
    simp (disch := first | omega | decide) only [bset_q, bset_k, bset_at]
  · rw [d4, if_pos (by omega), bG_pos (by constructor <;> omega), bG_pos (by constructor <;> omega), bXm_inl, M_text8_run hs hm h' hE (z - p) (by omega) (fun i hi => d5 (p + i) (by omega) (by omega)), show p + (z - p) = z by omega, show (z : Int) + 1 = ((z + 1 : Nat) : Int) by omega]
    have g := Mur_at (p' := z) h'
    have hm1 : MSrc r sz (bset ν 76 40 (z : Int)) := MSrc_b hm (by omega)
    have hh : F_X11_has 1 (bset ν 76 40 (z : Int)) = _ := M_has_ok (w := 1) g (by omega) (by omega)
    have ho := oc_0 (j := 0) hs (i := z)
    have e7 : F_X11_readText8_7 ((3200 * b + (8 * e + A) : Nat) : Int) p ((z - p : Nat) : Int) (bset ν 76 40 (z : Int)) = bUp (F_X11_readText8_35 ((3200 * b + (8 * e + A) : Nat) : Int) p ((z - p : Nat) : Int) (bset ν 76 40 (z : Int))) := by
      unfold F_X11_readText8_7
      rw [if_neg (c := ¬ _ = -1) (fun hh => hh g.2.2.2), hh, bMm_some, if_pos (by decide), g.2.1, M_oct hs hm1 (by omega) g.1 (by omega), Option.bind_some, if_neg (fun hh => hh (by have := ho.mpr d3; omega))]
    have lp : ∀ x, F_X11_readText8_35 ((3200 * b + (8 * e + A) : Nat) : Int) p ((z - p : Nat) : Int) (bset ν 76 40 (z : Int)) = some x → bLoop (fun z : Int × bM => F_X11_readText8_7 ((3200 * b + (8 * e + A) : Nat) : Int) p z.1 z.2) (((z - p : Nat) : Int), bset ν 76 40 (z : Int)) = some x := fun x hx => by
      refine bLoop_done ?_
      show F_X11_readText8_7 _ p _ (bset ν 76 40 (z : Int)) = _
      rw [e7, hx]
      rfl
    by_cases cn : z - p ≤ 255
    · left
      have hk := M_keep (P := P) (ν := bset ν 76 40 (z : Int)) (off := 0 + p) (n := z - p) hb (by simp (disch := first | omega | decide) only [bset_q, bset_k, bset_at, h3]) (by simp (disch := first | omega | decide) only [bset_q, bset_k, bset_at, hP]) (by omega) (by omega)
      have z40 : kpM (bset ν 76 40 (z : Int)) b P (0 + p) (z - p) 76 40 = (z : Int) := by unfold kpM; rw [bset_q (by decide), bcp_q (by decide)]; simp (disch := first | omega | decide) only [bset_q, bset_k, bset_at]
      have x35 : F_X11_readText8_35 ((3200 * b + (8 * e + A) : Nat) : Int) p ((z - p : Nat) : Int) (bset ν 76 40 (z : Int)) = some (0, bset (bset (bset (kpM (bset ν 76 40 (z : Int)) b P (0 + p) (z - p)) 88 (3200 * b + (8 * e + A)) ((90000 * b + P : Nat) : Int)) 89 (3200 * b + (8 * e + A)) ((z - p : Nat) : Int)) 76 40 ((z + 1 : Nat) : Int)) := by
        have y40 : bset (bset (kpM (bset ν 76 40 (z : Int)) b P (0 + p) (z - p)) 88 (3200 * b + (8 * e + A)) ((90000 * b + P : Nat) : Int)) 89 (3200 * b + (8 * e + A)) ((z - p : Nat) : Int) 76 40 = (z : Int) := by rw [bset_q (by decide), bset_q (by decide), z40]
        unfold F_X11_readText8_35
        rw [if_pos (by omega), show F_X11_from 0 (bset ν 76 40 (z : Int)) = some 0 from rfl, Option.bind_some, bG_pos (by constructor <;> omega), show (0 : Int) + (p : Int) = ((0 + p : Nat) : Int) by omega, hk, bMm_some, M_textIs hsr, bMm_some, y40, bG_pos (by constructor <;> omega), show (z : Int) + 1 = ((z + 1 : Nat) : Int) by omega]
      rw [lp _ x35, bMm_some, C_97.1 (by omega), show (z : Int) - (p : Int) = ((z - p : Nat) : Int) by omega]
      have k88 : bset (bset (bset (kpM (bset ν 76 40 (z : Int)) b P (0 + p) (z - p)) 88 (3200 * b + (8 * e + A)) ((90000 * b + P : Nat) : Int)) 89 (3200 * b + (8 * e + A)) ((z - p : Nat) : Int)) 76 40 ((z + 1 : Nat) : Int) 88 (3200 * b + (8 * e + A)) = ((90000 * b + P : Nat) : Int) := by simp (disch := first | omega | decide) only [bset_q, bset_k, bset_at]
      refine ⟨z + 1, p, z - p, P + (z - p), _, by omega, by omega, cn, by show p + (z - p) ≤ sz 0; omega, rfl, rfl, ?_, by simp (disch := first | omega | decide) only [bset_q, bset_k, bset_at], ⟨by rw [k88]; omega, by rw [k88]; omega⟩, ?_, by omega, by omega, fun i hi => ?_, ?_⟩
      · have g2 : Mur 0 z E (kpM (bset ν 76 40 (z : Int)) b P (0 + p) (z - p)) := by
          unfold Mur kpM
          rw [bset_q (by decide), bcp_q (by decide)]
          exact g
        exact Mur_at (Mur_b (Mur_b g2 (Or.inl (by decide))) (Or.inl (by decide)))
      · rw [bset_q (by decide), bset_q (by decide), bset_q (by decide)]
        unfold kpM
        rw [bset_at]
      · rw [k88, Int.toNat_natCast, bset_q (by decide), bset_q (by decide), bset_q (by decide), kpM_in hi, bset_q (by decide), show 0 + p + i = sO 0 + (p + i) by unfold sO; simp, (hm 0 (by omega)).2 (p + i) (by omega)]
        rfl
      · exact Fr_tr (Fr_tr (Fr_tr (Fr_tr (Fr_b (by unfold sVm; omega)) (kpM_fr (by omega))) (Fr_b (by unfold sVm; omega))) (Fr_b (by unfold sVm; omega))) (Fr_b (by unfold sVm; omega))
    · right
      have w40 : wr (bset ν 76 40 (z : Int)) 6 0 p 76 40 = (z : Int) := by unfold wr; simp (disch := first | omega | decide) only [bset_q, bset_k, bset_at]
      have x35 : F_X11_readText8_35 ((3200 * b + (8 * e + A) : Nat) : Int) p ((z - p : Nat) : Int) (bset ν 76 40 (z : Int)) = some (0, bset (wr (bset ν 76 40 (z : Int)) 6 0 p) 76 40 ((z + 1 : Nat) : Int)) := by
        unfold F_X11_readText8_35
        rw [if_neg (by omega), M_bad g.2.2.2, bMm_some, w40, bG_pos (by constructor <;> omega), show (z : Int) + 1 = ((z + 1 : Nat) : Int) by omega]
      rw [lp _ x35, bMm_some, C_97.2 (by omega)]
      refine ⟨_, _, rfl, rfl, ?_, Fr_tr (Fr_b (by unfold sAc; omega)) fl_fr, Fr_tr (Fr_tr (Fr_b (by unfold sVm; omega)) (wr_frX fun k k1 k2 => Or.inl ⟨rfl, k1, k2⟩)) (Fr_b (by unfold sVm; omega)), ?_⟩
      · obtain ⟨x1, x2, x3, x4, x5⟩ := (Bad1_mk (μ := μ) (ν := ν) (j := 0) (k := 6) (a := z + 1) (a' := z) (pl := p) h.1 (by omega)).1
        exact ⟨by simp (disch := first | omega | decide) only [bset_q, bset_k, bset_at]; exact x1, by simp (disch := first | omega | decide) only [bset_q, bset_k, bset_at]; exact x2, by simp (disch := first | omega | decide) only [bset_q, bset_k, bset_at]; exact x3, x4, x5⟩
      · unfold wr
        simp (disch := first | omega | decide) only [bset_q, bset_k, bset_at]
/-! a block -/
theorem J_block (hs : Src r sz) (hb : b = 0 ∨ b = 1) (hc : CSrc r sz μ) (hm : MSrc r sz ν) (h : Cur 0 p E μ) (h' : Mur 0 p E ν) (hp : p ≤ E) (hE : E ≤ sz 0) (h3 : ν 76 3 = (b : Int)) (he : e < 400) (hA8 : A < 8) (hP : ν 91 b = (P : Int)) (hP2 : P ≤ 38000)
    (hfo : fo = 10) (h86 : ν 86 (3200 * b + (8 * e + A)) = fo) : LetOk r sz T b e A p E P nm fo μ ν := by
  subst hfo
  have hz := sz_le hs (j := 0) (by omega)
  have hsr : 3200 * b + (8 * e + A) < 6400 := by omega
  have D : F_X11_readValue ((3200 * b + (8 * e + A) : Nat) : Int) ν = bMm (F_X11_fixed 1 ν) (fun w19 μ20 => bMm (F_X11_has (b32 w19) μ20) (fun w22 μ23 => if w22 = 0 then some (0, μ23) else (F_X11_from 0 μ23).bind fun w26 => bG (bR (w26 + (μ23 76 40))) (bMm (F_X11_keep (w26 + (μ23 76 40)) (b32 w19) μ23) (fun w28 μ29 => bMm (F_X11_textIs ((3200 * b + (8 * e + A) : Nat) : Int) w28 (b32 w19) μ29) (fun w31 μ32 => bG (bR ((μ32 76 40) + (b32 w19))) (some (0, (bset μ32 76 40 ((μ32 76 40) + (b32 w19)))))))))) := by
    unfold F_X11_readValue
    rw [bG_pos (by omega), Int.toNat_natCast, h86]
    simp (disch := decide) only [if_pos, if_neg]
  have hC : F_X4_readLetters e nm 10 μ = bXm (F_X1_lowFirst 1 μ) (fun w7 μ8 => bXm (F_X1_skip (b32 w7) μ8) (fun w10 μ11 => F_X4_readLetters_97 e nm 10 p (μ8 46 0) (b32 w7) μ11) (fun e μ => some (.inr e, μ))) (fun e μ => some (.inr e, μ)) := by
    unfold F_X4_readLetters
    rw [if_pos (by decide), if_neg (by decide), h.2.2.1]
  unfold LetOk
  rw [D, hC]
  rcases J_low (w := 1) hs hc hm (by omega) h h' hp hE (by omega) with ⟨a1, a2, a3⟩ | ⟨μ', ν', a1, a2, a3⟩
  · have a2' : F_X1_lowFirst 1 μ = _ := a2
    have a3' : F_X11_fixed 1 ν = _ := a3
    have ho := oc_lt (f := r 0) (i := p)
    rw [a2', bXm_inl, a3', bMm_some, low1, b32_n (by omega)]
    have g := Cur_at (p' := p + 1) h
    have g' := Mur_at (p' := p + 1) h'
    obtain ⟨o, hoo⟩ : ∃ o, o = oc (r 0) p := ⟨_, rfl⟩
    rw [← hoo] at ho ⊢
    by_cases cE : p + 1 + o ≤ E
    · left
      have hh : F_X11_has (o : Int) (bset ν 76 40 ((p + 1 : Nat) : Int)) = _ := M_has_ok (w := o) g' cE (by omega)
      have hk := M_keep (P := P) (ν := bset ν 76 40 ((p + 1 : Nat) : Int)) (off := 0 + (p + 1)) (n := o) hb (by simp (disch := first | omega | decide) only [bset_q, bset_k, bset_at, h3]) (by simp (disch := first | omega | decide) only [bset_q, bset_k, bset_at, hP]) (by omega) (by omega)
      have z40 : kpM (bset ν 76 40 ((p + 1 : Nat) : Int)) b P (0 + (p + 1)) o 76 40 = ((p + 1 : Nat) : Int) := by unfold kpM; rw [bset_q (by decide), bcp_q (by decide)]; simp (disch := first | omega | decide) only [bset_q, bset_k, bset_at]
      have y40 : bset (bset (kpM (bset ν 76 40 ((p + 1 : Nat) : Int)) b P (0 + (p + 1)) o) 88 (3200 * b + (8 * e + A)) ((90000 * b + P : Nat) : Int)) 89 (3200 * b + (8 * e + A)) (o : Int) 76 40 = ((p + 1 : Nat) : Int) := by rw [bset_q (by decide), bset_q (by decide), z40]
      unfold F_X1_skip
      rw [g.2.2.2, g.2.2.1, bG_pos (by constructor <;> omega), if_pos (by omega), bG_pos (by constructor <;> omega), bXm_inl, C_97.1 (by omega), bset_bset, hh, bMm_some, if_neg (by decide), show F_X11_from 0 (bset ν 76 40 ((p + 1 : Nat) : Int)) = some 0 from rfl, Option.bind_some, g'.2.1, bG_pos (by constructor <;> omega), show (0 : Int) + ((p + 1 : Nat) : Int) = ((0 + (p + 1) : Nat) : Int) by omega, hk, bMm_some, M_textIs hsr, bMm_some, y40, bG_pos (by constructor <;> omega), show ((p + 1 : Nat) : Int) + (o : Int) = ((p + 1 + o : Nat) : Int) by omega]
      have k88 : bset (bset (bset (kpM (bset ν 76 40 ((p + 1 : Nat) : Int)) b P (0 + (p + 1)) o) 88 (3200 * b + (8 * e + A)) ((90000 * b + P : Nat) : Int)) 89 (3200 * b + (8 * e + A)) (o : Int)) 76 40 ((p + 1 + o : Nat) : Int) 88 (3200 * b + (8 * e + A)) = ((90000 * b + P : Nat) : Int) := by simp (disch := first | omega | decide) only [bset_q, bset_k, bset_at]
      refine ⟨p + 1 + o, p + 1, o, P + o, _, by omega, cE, by omega, by show p + 1 + o ≤ sz 0; omega, rfl, rfl, ?_, by simp (disch := first | omega | decide) only [bset_q, bset_k, bset_at], ⟨by rw [k88]; omega, by rw [k88]; omega⟩, ?_, by omega, by omega, fun i hi => ?_, ?_⟩
      · have g2 : Mur 0 (p + 1) E (kpM (bset ν 76 40 ((p + 1 : Nat) : Int)) b P (0 + (p + 1)) o) := by
          unfold Mur kpM
          rw [bset_q (by decide), bcp_q (by decide)]
          exact g'
        exact Mur_at (Mur_b (Mur_b g2 (Or.inl (by decide))) (Or.inl (by decide)))
      · rw [bset_q (by decide), bset_q (by decide), bset_q (by decide)]
        unfold kpM
        rw [bset_at]
      · rw [k88, Int.toNat_natCast, bset_q (by decide), bset_q (by decide), bset_q (by decide), kpM_in hi, bset_q (by decide), show 0 + (p + 1) + i = sO 0 + (p + 1 + i) by unfold sO; simp, (hm 0 (by omega)).2 (p + 1 + i) (by omega)]
        rfl
      · exact Fr_tr (Fr_tr (Fr_tr (Fr_tr (Fr_b (by unfold sVm; omega)) (kpM_fr (by omega))) (Fr_b (by unfold sVm; omega))) (Fr_b (by unfold sVm; omega))) (Fr_b (by unfold sVm; omega))
    · right
      have hh : F_X11_has (o : Int) (bset ν 76 40 ((p + 1 : Nat) : Int)) = _ := M_has_bad (w := o) g' (by omega) (by omega) (by omega)
      unfold F_X1_skip
      rw [g.2.2.2, g.2.2.1, bG_pos (by constructor <;> omega), if_neg (by omega), C_refuse, bXm_inr, bXm_inr, hh, bMm_some, if_pos rfl]
      refine ⟨_, _, rfl, rfl, (Bad1_mk (μ := μ) (ν := ν) (j := 0) (k := 1) (a := p + 1) (a' := p + 1) (pl := E) h.1 (by omega)).1, Fr_tr (Fr_b (by unfold sAc; omega)) fl_fr, Fr_tr (Fr_b (by unfold sVm; omega)) (wr_frX fun k k1 k2 => Or.inl ⟨rfl, k1, k2⟩), ?_⟩
      unfold wr
      simp (disch := first | omega | decide) only [bset_q, bset_k, bset_at]
  · right
    have a1' : F_X1_lowFirst 1 μ = _ := a1
    have a2' : F_X11_fixed 1 ν = _ := a2
    rw [a1', bXm_inr, a2', bMm_some, M_has_w (BadP_ne a3.1), bMm_some, if_pos rfl]
    exact ⟨μ', ν', rfl, rfl, a3.1, Bad1_frC a3, Bad1_frX (fun k k1 k2 => Or.inl ⟨rfl, k1, k2⟩) a3, a3.2.2.1 89 (by decide)⟩
/-! a kept text -/
theorem J_kept (hs : Src r sz) (hb : b = 0 ∨ b = 1) (hc : CSrc r sz μ) (hm : MSrc r sz ν) (h : Cur 0 p E μ) (h' : Mur 0 p E ν) (hp : p ≤ E) (hE : E ≤ sz 0) (h3 : ν 76 3 = (b : Int)) (he : e < 400) (hA8 : A < 8) (hP : ν 91 b = (P : Int)) (hP2 : P ≤ 38000) (hP3 : sz 2 ≤ P) (hpool : ∀ i, i < sz 2 → ν 92 (90000 * b + i) = r 2 i)
    (hfo : fo = 14) (h86 : ν 86 (3200 * b + (8 * e + A)) = fo) : LetOk r sz T b e A p E P nm fo μ ν := by
  subst hfo
  have hz := sz_le hs (j := 0) (by omega)
  have hz2 : sz 2 ≤ 8000 := hs.2.2.1
  have hsr : 3200 * b + (8 * e + A) < 6400 := by omega
  have D : F_X11_readValue ((3200 * b + (8 * e + A) : Nat) : Int) ν = bMm (F_X11_readText14 ((3200 * b + (8 * e + A) : Nat) : Int) ν) (fun w56 μ57 => some (0, μ57)) := by
    unfold F_X11_readValue
    rw [bG_pos (by omega), Int.toNat_natCast, h86]
    simp (disch := decide) only [if_pos, if_neg]
  have hC : F_X4_readLetters e nm 14 μ = bXm (F_X1_lowFirst 4 μ) (fun w3 μ4 => (F_X4_keptLength 11 w3 μ4).bind fun w6 => F_X4_readLetters_97 e nm 14 p (b32 w3) w6 μ4) (fun e μ => some (.inr e, μ)) := by
    unfold F_X4_readLetters
    rw [if_pos (by decide), if_pos (by decide), h.2.2.1]
  unfold LetOk
  rw [D, hC]
  unfold F_X11_readText14
  rcases J_low (w := 4) hs hc hm (by omega) h h' hp hE (by omega) with ⟨a1, a2, a3⟩ | ⟨μ', ν', a1, a2, a3⟩
  rotate_left
  · right
    have a1' : F_X1_lowFirst 4 μ = _ := a1
    have a2' : F_X11_fixed 4 ν = _ := a2
    rw [a1', bXm_inr, a2', bMm_some, if_neg (BadP_ne a3.1), bMm_some]
    exact ⟨μ', ν', rfl, rfl, a3.1, Bad1_frC a3, Bad1_frX (fun k k1 k2 => Or.inl ⟨rfl, k1, k2⟩) a3, a3.2.2.1 89 (by decide)⟩
  · have a2' : F_X1_lowFirst 4 μ = _ := a2
    have a3' : F_X11_fixed 4 ν = _ := a3
    have hlt : lowN (r 0) p 4 < 4294967296 := lowN_lt (f := r 0) (p := p) 4
    rw [a2', bXm_inl, a3', bMm_some, sg_id (by omega), h'.2.1]
    have g := Cur_at (p' := p + 4) h
    have g' := Mur_at (p' := p + 4) h'
    obtain ⟨a, haa⟩ : ∃ a, a = lowN (r 0) p 4 := ⟨_, rfl⟩
    rw [← haa] at hlt ⊢
    have hc1 : CSrc r sz (bset μ 46 0 ((p + 4 : Nat) : Int)) := CSrc_b hc (by omega)
    have hm1 : MSrc r sz (bset ν 76 40 ((p + 4 : Nat) : Int)) := MSrc_b hm (by omega)
    rw [if_pos (c := bset ν 76 40 ((p + 4 : Nat) : Int) 76 37 = -1) g'.2.2.2]
    have k94 : bset ν 76 40 ((p + 4 : Nat) : Int) 94 2 = (sz 2 : Int) := (hm1 2 (by omega)).1
    have kB : ∀ i, i < sz 2 → bset ν 76 40 ((p + 4 : Nat) : Int) 93 (32000 + i) = r 2 i := (hm1 2 (by omega)).2
    have u11 : F_X6_used 11 (bset μ 46 0 ((p + 4 : Nat) : Int)) = some (sz 2 : Int) := by
      unfold F_X6_used
      rw [show bset μ 46 0 ((p + 4 : Nat) : Int) 11 1 = (sz 2 : Int) from (hc1 2 (by omega)).1]
    have x71bad : ∀ n : Nat, n ≤ 256 → (sz 2 ≤ a + n ∨ 255 < n) → F_X11_readText14_71 ((3200 * b + (8 * e + A) : Nat) : Int) p a n (bset ν 76 40 ((p + 4 : Nat) : Int)) = some (0, wr (bset ν 76 40 ((p + 4 : Nat) : Int)) 6 0 p) := by
      intro n hn hor
      unfold F_X11_readText14_71
      rw [bG_pos (by constructor <;> omega), k94, M_bad g'.2.2.2, bMm_some]
      by_cases c : sz 2 ≤ a + n
      · rw [if_pos (bCge.mpr (by omega))]
      · rw [if_neg (fun hh => by have := bCge.mp hh; omega), if_neg (by omega)]
    have s23 : ∀ n : Nat, n ≤ 256 → sz 2 ≤ a + n ∨ 255 < n ∨ (a + n < sz 2 ∧ r 2 (a + n) = 0) → F_X11_readText14_23 ((3200 * b + (8 * e + A) : Nat) : Int) p a (bset ν 76 40 ((p + 4 : Nat) : Int)) n = bUp (F_X11_readText14_71 ((3200 * b + (8 * e + A) : Nat) : Int) p a n (bset ν 76 40 ((p + 4 : Nat) : Int))) := by
      intro n hn hor
      unfold F_X11_readText14_23
      rw [bG_pos (by constructor <;> omega), k94]
      by_cases c : sz 2 ≤ a + n
      · rw [if_pos (bCge.mpr (by omega))]
      · rw [if_neg (fun hh => by have := bCge.mp hh; omega)]
        by_cases c2 : 255 < n
        · rw [if_pos (by omega)]
        · have hr0 : r 2 (a + n) = 0 := ((hor.resolve_left c).resolve_left c2).2
          rw [if_neg (by omega), show F_X11_from 2 (bset ν 76 40 ((p + 4 : Nat) : Int)) = some 32000 from rfl, Option.bind_some, b32_n (by omega), bG_pos (by constructor <;> omega), bG_pos (by constructor <;> omega), bG_pos (by omega), show ((32000 : Int) + (a : Int) + (n : Int)).toNat = 32000 + (a + n) by omega, kB _ (by omega), if_pos hr0]
    have s23n : ∀ n : Nat, n ≤ 255 → a + n < sz 2 → r 2 (a + n) ≠ 0 → F_X11_readText14_23 ((3200 * b + (8 * e + A) : Nat) : Int) p a (bset ν 76 40 ((p + 4 : Nat) : Int)) n = some (.inl ((n : Int) + 1)) := by
      intro n hn c hr0
      unfold F_X11_readText14_23
      rw [bG_pos (by constructor <;> omega), k94, if_neg (fun hh => by have := bCge.mp hh; omega), if_neg (by omega), show F_X11_from 2 (bset ν 76 40 ((p + 4 : Nat) : Int)) = some 32000 from rfl, Option.bind_some, b32_n (by omega), bG_pos (by constructor <;> omega), bG_pos (by constructor <;> omega), bG_pos (by omega), show ((32000 : Int) + (a : Int) + (n : Int)).toNat = 32000 + (a + n) by omega, kB _ (by omega), if_neg hr0, bG_pos (by constructor <;> omega)]
    have run : ∀ (m n : Nat) (x : Int × bM), n + m ≤ 256 → (∀ i, n ≤ i → i < n + m → i ≤ 255 ∧ a + i < sz 2 ∧ r 2 (a + i) ≠ 0) → (sz 2 ≤ a + (n + m) ∨ 255 < n + m ∨ (a + (n + m) < sz 2 ∧ r 2 (a + (n + m)) = 0)) → F_X11_readText14_71 ((3200 * b + (8 * e + A) : Nat) : Int) p a ((n + m : Nat) : Int) (bset ν 76 40 ((p + 4 : Nat) : Int)) = some x → bLoop (fun z => F_X11_readText14_23 ((3200 * b + (8 * e + A) : Nat) : Int) p a (bset ν 76 40 ((p + 4 : Nat) : Int)) z) (n : Int) = some x := by
      intro m
      induction m with
      | zero =>
        intro n x hn h1 h2 h4
        refine bLoop_done ?_
        show F_X11_readText14_23 _ p a _ (n : Int) = _
        rw [s23 n (by omega) h2, show n = n + 0 from rfl, h4]
        rfl
      | succ m ih =>
        intro n x hn h1 h2 h4
        obtain ⟨y1, y2, y3⟩ := h1 n (by omega) (by omega)
        refine (bLoop_step (s23n n y1 y2 y3)).trans (ih (n + 1) x (by omega) (fun i i1 i2 => h1 i (by omega) (by omega)) (by rw [show n + 1 + m = n + (m + 1) by omega]; exact h2) (by rw [show n + 1 + m = n + (m + 1) by omega]; exact h4))
    have badE : ∃ μ' ν' : bM, some ((.inr ISE : Int ⊕ String), fl (bset μ 46 0 ((p + 4 : Nat) : Int)) 6 p) = some (.inr ISE, μ') ∧ some ((0 : Int), wr (bset ν 76 40 ((p + 4 : Nat) : Int)) 6 0 p) = some (0, ν') ∧ BadP μ' ν' ∧ Fr (sAc T e (8 * e + A)) μ μ' ∧ Fr (sVm b (3200 * b + (8 * e + A)) P) ν ν' ∧ ν' 89 = ν 89 := by
      refine ⟨_, _, rfl, rfl, (Bad1_mk (μ := μ) (ν := ν) (j := 0) (k := 6) (a := p + 4) (a' := p + 4) (pl := p) h.1 (by omega)).1, Fr_tr (Fr_b (by unfold sAc; omega)) fl_fr, Fr_tr (Fr_b (by unfold sVm; omega)) (wr_frX fun k k1 k2 => Or.inl ⟨rfl, k1, k2⟩), ?_⟩
      unfold wr
      simp (disch := first | omega | decide) only [bset_q, bset_k, bset_at]
    have hbad : ∀ w6 : Int, F_X4_keptLength 11 a (bset μ 46 0 ((p + 4 : Nat) : Int)) = some w6 → ¬ (0 ≤ w6 ∧ w6 ≤ 255) → ((F_X4_keptLength 11 a (bset μ 46 0 ((p + 4 : Nat) : Int))).bind fun w6 => F_X4_readLetters_97 e nm 14 p (b32 a) w6 (bset μ 46 0 ((p + 4 : Nat) : Int))) = some (.inr ISE, fl (bset μ 46 0 ((p + 4 : Nat) : Int)) 6 p) := fun w6 h1 h2 => by
      rw [h1, Option.bind_some, C_97.2 h2]
    by_cases ca : a < sz 2
    rotate_left
    · right
      have kl : F_X4_keptLength 11 a (bset μ 46 0 ((p + 4 : Nat) : Int)) = some (-1) := by
        unfold F_X4_keptLength
        rw [u11, Option.bind_some, if_neg (fun hh => by have := bClt.mp hh; omega)]
      have hr : bLoop (fun z => F_X11_readText14_23 ((3200 * b + (8 * e + A) : Nat) : Int) p a (bset ν 76 40 ((p + 4 : Nat) : Int)) z) 0 = _ := run 0 0 _ (by omega) (fun i i1 i2 => by omega) (Or.inl (by omega)) (x71bad 0 (by omega) (Or.inl (by omega)))
      rw [hbad _ kl (by omega), hr, bMm_some]
      exact badE
    · have hzf : F_X6_zeroFrom 11 a (sz 2) (bset μ 46 0 ((p + 4 : Nat) : Int)) = _ := C_zero2 (j := 2) hs hc1 (by omega) (by omega) (Nat.le_refl _)
      have kl0 : F_X4_keptLength 11 a (bset μ 46 0 ((p + 4 : Nat) : Int)) = if ¬ scan (r 2) 0 a (sz 2 - a) = -1 then bG (bR (scan (r 2) 0 a (sz 2 - a) - a)) (some (scan (r 2) 0 a (sz 2 - a) - a)) else some (-1) := by
        unfold F_X4_keptLength
        rw [u11, Option.bind_some, if_pos (bClt.mpr (by omega)), Option.bind_some, b32_n (by omega), hzf, Option.bind_some]
      have bad256 : (∀ i, i < 256 → a + i < sz 2 ∧ r 2 (a + i) ≠ 0) → bLoop (fun z => F_X11_readText14_23 ((3200 * b + (8 * e + A) : Nat) : Int) p a (bset ν 76 40 ((p + 4 : Nat) : Int)) z) 0 = some (0, wr (bset ν 76 40 ((p + 4 : Nat) : Int)) 6 0 p) := fun hi => run 256 0 _ (by omega) (fun i i1 i2 => ⟨by omega, hi i (by omega)⟩) (Or.inr (Or.inl (by omega))) (x71bad 256 (by omega) (Or.inr (by omega)))
      rcases scan_spec (f := r 2) (p := 0) (sz 2 - a) a with ⟨c1, c2⟩ | ⟨z, d1, d2, d3, d4, d5⟩
      · right
        rw [c1, if_neg (by decide)] at kl0
        rw [hbad _ kl0 (by omega)]
        by_cases c3 : sz 2 - a ≤ 256
        · have hr : bLoop (fun z => F_X11_readText14_23 ((3200 * b + (8 * e + A) : Nat) : Int) p a (bset ν 76 40 ((p + 4 : Nat) : Int)) z) 0 = _ := run (sz 2 - a) 0 _ (by omega) (fun i i1 i2 => ⟨by omega, by omega, c2 (a + i) (by omega) (by omega)⟩) (Or.inl (by omega)) (by rw [Nat.zero_add]; exact x71bad (sz 2 - a) (by omega) (Or.inl (by omega)))
          rw [hr, bMm_some]
          exact badE
        · rw [bad256 fun i hi => ⟨by omega, c2 (a + i) (by omega) (by omega)⟩, bMm_some]
          exact badE
      · rw [d4, if_pos (by omega), bG_pos (by constructor <;> omega)] at kl0
        by_cases cn : z - a ≤ 255
        · left
          have x71 : F_X11_readText14_71 ((3200 * b + (8 * e + A) : Nat) : Int) p a ((0 + (z - a) : Nat) : Int) (bset ν 76 40 ((p + 4 : Nat) : Int)) = some (0, bset (bset (bset ν 76 40 ((p + 4 : Nat) : Int)) 88 (3200 * b + (8 * e + A)) ((90000 * b + a : Nat) : Int)) 89 (3200 * b + (8 * e + A)) ((z - a : Nat) : Int)) := by
            have e3 : bset ν 76 40 ((p + 4 : Nat) : Int) 76 3 = (b : Int) := by simp (disch := first | omega | decide) only [bset_q, bset_k, bset_at, h3]
            unfold F_X11_readText14_71
            rw [bG_pos (by constructor <;> omega), k94, if_neg (fun hh => by have := bCge.mp hh; omega), if_pos (by omega), e3, bG_pos (by constructor <;> omega), b32_n (by omega), bG_pos (by constructor <;> omega), M_textIs hsr, bMm_some, show (90000 : Int) * (b : Int) + (a : Int) = ((90000 * b + a : Nat) : Int) by omega, Nat.zero_add]
          have hr : bLoop (fun z => F_X11_readText14_23 ((3200 * b + (8 * e + A) : Nat) : Int) p a (bset ν 76 40 ((p + 4 : Nat) : Int)) z) 0 = _ := run (z - a) 0 _ (by omega) (fun i i1 i2 => ⟨by omega, by omega, d5 (a + i) (by omega) (by omega)⟩) (Or.inr (Or.inr ⟨by omega, by rw [show a + (0 + (z - a)) = z by omega]; exact d3⟩)) x71
          rw [hr, bMm_some, kl0, Option.bind_some, C_97.1 (by omega), b32_n (by omega), show (z : Int) - (a : Int) = ((z - a : Nat) : Int) by omega]
          have k88 : bset (bset (bset ν 76 40 ((p + 4 : Nat) : Int)) 88 (3200 * b + (8 * e + A)) ((90000 * b + a : Nat) : Int)) 89 (3200 * b + (8 * e + A)) ((z - a : Nat) : Int) 88 (3200 * b + (8 * e + A)) = ((90000 * b + a : Nat) : Int) := by simp (disch := first | omega | decide) only [bset_q, bset_k, bset_at]
          refine ⟨p + 4, a, z - a, P, _, by omega, a1, cn, by show a + (z - a) ≤ sz 2; omega, rfl, rfl, Mur_b (Mur_b g' (Or.inl (by decide))) (Or.inl (by decide)), by simp (disch := first | omega | decide) only [bset_q, bset_k, bset_at], ⟨by rw [k88]; omega, by rw [k88]; omega⟩, by simp (disch := first | omega | decide) only [bset_q, bset_k, bset_at, hP], by omega, by omega, fun i hi => ?_, ?_⟩
          · rw [k88, Int.toNat_natCast, bset_q (by decide), bset_q (by decide), bset_q (by decide), show 90000 * b + a + i = 90000 * b + (a + i) by omega, hpool (a + i) (by omega)]
            rfl
          · exact Fr_tr (Fr_tr (Fr_b (by unfold sVm; omega)) (Fr_b (by unfold sVm; omega))) (Fr_b (by unfold sVm; omega))
        · right
          rw [hbad _ kl0 (by omega), bad256 fun i hi => ⟨by omega, d5 (a + i) (by omega) (by omega)⟩, bMm_some]
          exact badE
end
end FS
