section FT
/-! one attribute of an entry -/
/-- the attribute in the slot j, before its reference is found -/
def At0 (r : Nat → Nat → Int) (sz : Nat → Nat) (T b : Nat) (μ ν : bM) (j : Nat) : Prop :=
  (ν 85 (3200 * b + j) = μ (T + 11) j ∧ ν 86 (3200 * b + j) = μ (T + 12) j ∧ ν 89 (3200 * b + j) = μ (T + 14) j) ∧ (1 ≤ μ (T + 11) j ∧ μ (T + 11) j ≤ 16383) ∧
  ((isLet (μ (T + 12) j) ∧ ∃ st n : Nat, μ (T + 13) j = (st : Int) ∧ μ (T + 14) j = (n : Int) ∧ n ≤ 255 ∧ st + n ≤ sz (secN (μ (T + 12) j)) ∧ (90000 * (b : Int) ≤ ν 88 (3200 * b + j) ∧ ν 88 (3200 * b + j) + n ≤ 90000 * b + ν 91 b) ∧ ∀ i, i < n → ν 92 ((ν 88 (3200 * b + j)).toNat + i) = r (secN (μ (T + 12) j)) (st + i)) ∨
    ((isNum (μ (T + 12) j) ∨ isRef (μ (T + 12) j)) ∧ μ (T + 14) j = 0 ∧ ν 87 (3200 * b + j) = μ (T + 13) j ∧ (μ (T + 12) j = 15 → 0 ≤ μ (T + 13) j) ∧ (isRef (μ (T + 12) j) → μ 60 j = ν 111 j ∧ 0 ≤ μ 60 j ∧ μ 60 j ≤ 24000)))
section
variable {r : Nat → Nat → Int} {sz : Nat → Nat} {μ ν μ' ν' : bM} {T b e A p E L P j s sI N : Nat} {nm fo va : Int}
theorem At0_fr {j' P' : Nat} (hT : T = 31 ∨ T = 61) (h : At0 r sz T b μ ν j) (hj : j < 3200) (hC : Fr (sAc T e j') μ μ') (hM : Fr (sAm b e j' P) ν ν') (hne : j ≠ j') (hP : ν 91 b = (P : Int)) (hP' : ν' 91 b = (P' : Int)) (hle : P ≤ P') : At0 r sz T b μ' ν' j := by
  have c11 : μ' (T + 11) j = μ (T + 11) j := hC _ _ (by unfold sAc; omega)
  have c12 : μ' (T + 12) j = μ (T + 12) j := hC _ _ (by unfold sAc; omega)
  have c13 : μ' (T + 13) j = μ (T + 13) j := hC _ _ (by unfold sAc; omega)
  have c14 : μ' (T + 14) j = μ (T + 14) j := hC _ _ (by unfold sAc; omega)
  have c60 : μ' 60 j = μ 60 j := hC _ _ (by unfold sAc; omega)
  have m85 : ν' 85 (3200 * b + j) = ν 85 (3200 * b + j) := hM _ _ (by unfold sAm; omega)
  have m86 : ν' 86 (3200 * b + j) = ν 86 (3200 * b + j) := hM _ _ (by unfold sAm; omega)
  have m87 : ν' 87 (3200 * b + j) = ν 87 (3200 * b + j) := hM _ _ (by unfold sAm; omega)
  have m88 : ν' 88 (3200 * b + j) = ν 88 (3200 * b + j) := hM _ _ (by unfold sAm; omega)
  have m89 : ν' 89 (3200 * b + j) = ν 89 (3200 * b + j) := hM _ _ (by unfold sAm; omega)
  have m111 : ν' 111 j = ν 111 j := hM _ _ (by unfold sAm; omega)
  obtain ⟨a1, a2, a3⟩ := h
  unfold At0
  rw [c11, c12, c13, c14, c60, m85, m86, m87, m88, m89, m111, hP']
  refine ⟨a1, a2, ?_⟩
  rcases a3 with ⟨b1, st, n, b2, b3, b4, b5, b6, b7⟩ | a3
  · left
    rw [hP] at b6
    refine ⟨b1, st, n, b2, b3, b4, b5, ⟨b6.1, by omega⟩, fun i hi => ?_⟩
    rw [← b7 i hi]
    exact hM _ _ (by unfold sAm; omega)
  · exact Or.inr a3
theorem M147 {μ19 : bM} {w ln : Int} (hb : b = 0 ∨ b = 1) (h3 : ν 76 3 = (b : Int)) (h37 : ν 76 37 = -1) (h40 : ν 76 40 = (p : Int)) (he : e < 400) (hA' : ν 84 (400 * b + e) = (A : Int)) (hA8 : A < 8) (hsI : sI < 200) (hN : ν 107 sI = (N : Int)) (hAN : A < N) (hnm : ν 108 (8 * sI + A) = nm) (hfo : ν 109 (8 * sI + A) = fo)
    (hv : F_X11_readValue ((3200 * b + (8 * e + A) : Nat) : Int) (adM ν b e A nm fo) = some (w, μ19)) (k3 : μ19 76 3 = (b : Int)) (k90 : μ19 90 b = (L : Int)) (hL : L ≤ 30000) (k89 : μ19 89 (3200 * b + (8 * e + A)) = ln) (hln : 0 ≤ ln ∧ ln ≤ 255) :
    (μ19 76 37 ≠ -1 ∨ (L : Int) + ln ≤ 30000 → F_X11_readEntry_147 sI e A ν = some (.inl ((A : Int) + 1, bset μ19 90 b ((L : Int) + ln)))) ∧ (μ19 76 37 = -1 → 30000 < (L : Int) + ln → F_X11_readEntry_147 sI e A ν = some (.inl ((A : Int) + 1, wr (bset μ19 90 b ((L : Int) + ln)) 8 0 p))) := by
  have i3 : adM ν b e A nm fo 76 3 = (b : Int) := by unfold adM; simp (disch := first | omega | decide) only [bset_q, bset_k, bset_at, h3]
  have i40 : adM ν b e A nm fo 76 40 = (p : Int) := by unfold adM; simp (disch := first | omega | decide) only [bset_q, bset_k, bset_at, h40]
  have ts : ((8 : Int) * (sI : Int) + (A : Int)).toNat = 8 * sI + A := by omega
  have tq : (8 : Int) * (400 * (b : Int) + (e : Int)) + ((A : Int) + 1) - 1 = ((3200 * b + (8 * e + A) : Nat) : Int) := by omega
  have q3 : bset μ19 90 b ((L : Int) + ln) 76 3 = (b : Int) := by simp (disch := first | omega | decide) only [bset_q, bset_k, bset_at, k3]
  have q37 : bset μ19 90 b ((L : Int) + ln) 76 37 = μ19 76 37 := by simp (disch := first | omega | decide) only [bset_q, bset_k, bset_at]
  have q90 : bset μ19 90 b ((L : Int) + ln) 90 b = (L : Int) + ln := bset_at
  have g1 : bR ((A : Int) + 1) := by constructor <;> omega
  unfold F_X11_readEntry_147
  simp only [bG_pos g1]
  rw [bG_pos (by omega), Int.toNat_natCast, hN, if_neg (by omega), if_neg (c := ¬ ν 76 37 = -1) (fun hh => hh h37), bG_pos (by constructor <;> omega), bG_pos (by constructor <;> omega), bG_pos (by omega), bG_pos (by constructor <;> omega), bG_pos (by constructor <;> omega), bG_pos (by omega), ts, hnm, hfo, M_add2 hb h3 he hA' hA8, bMm_some, M_at hb i3 (by omega), Option.bind_some, bG_pos (by constructor <;> omega), bG_pos (by constructor <;> omega), bG_pos (by constructor <;> omega), tq, hv, bMm_some, k3, bG_pos (by omega), bG_pos (by omega), Int.toNat_natCast, Int.toNat_natCast, k90, k89, bG_pos (by constructor <;> omega), bG_pos (by omega), q37, q3, bG_pos (by omega), Int.toNat_natCast, q90, i40]
  refine ⟨fun h => ?_, fun h1 h2 => ?_⟩
  · by_cases c : μ19 76 37 = -1
    · have h := h.resolve_left (fun hh => hh c)
      rw [if_neg (fun hh => hh c), if_pos h]
    · rw [if_pos c]
  · rw [if_neg (fun hh => hh h1), if_neg (by omega), M_bad (by rw [q37]; exact h1), bMm_some]
/-- what one attribute comes to -/
def AttOk (r : Nat → Nat → Int) (sz : Nat → Nat) (T b e A p E L P sI : Nat) (nm : Int) (μ ν : bM) : Prop :=
  (∃ (p' n P' : Nat) (μ' ν' : bM), p ≤ p' ∧ p' ≤ E ∧ F_X4_readEntry_89 sI e A μ = some (.inl ((A : Int) + 1, μ')) ∧ F_X11_readEntry_147 sI e A ν = some (.inl ((A : Int) + 1, ν')) ∧ Cur 0 p' E μ' ∧ Mur 0 p' E ν' ∧ μ' (T + 10) e = (A : Int) + 1 ∧ ν' 84 (400 * b + e) = (A : Int) + 1 ∧ At0 r sz T b μ' ν' (8 * e + A) ∧ μ' (T + 11) (8 * e + A) = nm ∧ μ' (T + 14) (8 * e + A) = (n : Int) ∧
    μ' 30 4 = ((L + n : Nat) : Int) ∧ ν' 90 b = ((L + n : Nat) : Int) ∧ L + n ≤ 30000 ∧ ν' 91 b = (P' : Int) ∧ P ≤ P' ∧ P' ≤ P + n ∧ Fr (sAc T e (8 * e + A)) μ μ' ∧ Fr (sAm b e (8 * e + A) P) ν ν') ∨
  (∃ μ' ν' : bM, F_X4_readEntry_89 sI e A μ = some (.inr (.inr ISE, μ')) ∧ F_X11_readEntry_147 sI e A ν = some (.inl ((A : Int) + 1, ν')) ∧ BadP μ' ν' ∧ Fr (sAc T e (8 * e + A)) μ μ' ∧ Fr (sAm b e (8 * e + A) P) ν ν')
theorem C89 (hsI : sI < 200) (hN : μ 52 sI = (N : Int)) (hAN : A < N) (hA8 : A < 8) (hnm : μ 53 (8 * sI + A) = nm) (hfo : μ 54 (8 * sI + A) = fo) (he : e < 400) : F_X4_readEntry_89 sI e A μ =
    (F_X2_isLetters fo μ).bind fun w3 => if w3 = 0 then bXm (F_X4_readNumber e nm fo μ) (fun w5 μ6 => some (.inl (((A : Int) + 1), μ6))) (fun e μ => some (.inr (.inr e, μ))) else bXm (F_X4_readLetters e nm fo μ) (fun w11 μ12 => some (.inl (((A : Int) + 1), μ12))) (fun e μ => some (.inr (.inr e, μ))) := by
  have g : bR ((A : Int) + 1) := by constructor <;> omega
  unfold F_X4_readEntry_89
  rw [bG_pos (by omega), Int.toNat_natCast, hN, if_neg (by omega), C_slotAt (by omega) hA8, Option.bind_some, bG_pos (by omega), t8, hnm, hfo, bG_pos (by omega), bG_pos (by omega), bG_pos (by omega), bG_pos (by omega)]
  simp only [bG_pos g]
theorem J_att (hs : Src r sz) (hT : T = 31 ∨ T = 61) (hb : b = 0 ∨ b = 1) (hc : CSrc r sz μ) (hm : MSrc r sz ν) (h : Cur 0 p E μ) (h' : Mur 0 p E ν) (hp : p ≤ E) (hE : E ≤ sz 0) (h30 : μ 30 0 = (T : Int)) (h3 : ν 76 3 = (b : Int)) (he : e < 400) (hA : μ (T + 10) e = A) (hA' : ν 84 (400 * b + e) = (A : Int)) (hA8 : A < 8)
    (hsI : sI < 200) (hN : μ 52 sI = (N : Int)) (hN' : ν 107 sI = (N : Int)) (hAN : A < N) (hnm : μ 53 (8 * sI + A) = nm) (hnm' : ν 108 (8 * sI + A) = nm) (hfo : μ 54 (8 * sI + A) = fo) (hfo' : ν 109 (8 * sI + A) = fo) (hnm1 : 1 ≤ nm ∧ nm ≤ 16383) (hok : okF fo)
    (hL : μ 30 4 = (L : Int)) (hL' : ν 90 b = (L : Int)) (hL3 : L ≤ 30000) (hP : ν 91 b = (P : Int)) (hP2 : P ≤ 8000 + L) (hP3 : sz 2 ≤ P) (hpool : ∀ i, i < sz 2 → ν 92 (90000 * b + i) = r 2 i) : AttOk r sz T b e A p E L P sI nm μ ν := by
  have hz := sz_le hs (j := 0) (by omega)
  have fA : Fr (sAm b e (8 * e + A) P) ν (adM ν b e A nm fo) := adM_fr
  have hmA : MSrc r sz (adM ν b e A nm fo) := MSrc_A hm fA
  have gA : Mur 0 p E (adM ν b e A nm fo) := by unfold adM; exact Mur_b (Mur_b (Mur_b (Mur_b (Mur_b (Mur_b h' (Or.inl (by decide))) (Or.inl (by decide))) (Or.inl (by decide))) (Or.inl (by decide))) (Or.inl (by decide))) (Or.inl (by decide))
  have k3 : adM ν b e A nm fo 76 3 = (b : Int) := by unfold adM; simp (disch := first | omega | decide) only [bset_q, bset_k, bset_at, h3]
  have k84 : adM ν b e A nm fo 84 (400 * b + e) = (A : Int) + 1 := by unfold adM; simp (disch := first | omega | decide) only [bset_q, bset_k, bset_at]
  have k85 : adM ν b e A nm fo 85 (3200 * b + (8 * e + A)) = nm := by unfold adM; simp (disch := first | omega | decide) only [bset_q, bset_k, bset_at]
  have k86 : adM ν b e A nm fo 86 (3200 * b + (8 * e + A)) = fo := by unfold adM; simp (disch := first | omega | decide) only [bset_q, bset_k, bset_at]
  have k89 : adM ν b e A nm fo 89 (3200 * b + (8 * e + A)) = 0 := by unfold adM; simp (disch := first | omega | decide) only [bset_q, bset_k, bset_at]
  have k90 : adM ν b e A nm fo 90 b = (L : Int) := by unfold adM; simp (disch := first | omega | decide) only [bset_q, bset_k, bset_at, hL']
  have k91 : adM ν b e A nm fo 91 b = (P : Int) := by unfold adM; simp (disch := first | omega | decide) only [bset_q, bset_k, bset_at, hP]
  have kpool : ∀ i, i < sz 2 → adM ν b e A nm fo 92 (90000 * b + i) = r 2 i := fun i hi => by
    rw [← hpool i hi]
    unfold adM
    simp (disch := first | omega | decide) only [bset_q, bset_k, bset_at]
  have c89 := C89 (μ := μ) (e := e) hsI hN hAN hA8 hnm hfo he
  unfold AttOk
  rw [c89]
  by_cases cl : isLet fo
  · rw [C_isLetters.1 cl, Option.bind_some, if_neg (by decide)]
    have hlet : LetOk r sz T b e A p E P nm fo μ (adM ν b e A nm fo) := by
      rcases cl with c | c | c
      · exact J_text8 hs hb hc hmA h gA hp hE k3 he hA8 k91 (by omega) c k86
      · exact J_kept hs hb hc hmA h gA hp hE k3 he hA8 k91 (by omega) hP3 kpool c k86
      · exact J_block hs hb hc hmA h gA hp hE k3 he hA8 k91 (by omega) c k86
    have mono : ∀ q k, sVm b (3200 * b + (8 * e + A)) P q k → sAm b e (8 * e + A) P q k := fun q k x => by unfold sVm at x; unfold sAm; omega
    rcases hlet with ⟨p', st, n, P', ν', q1, q2, q3, q4, q5, q6, q7, q8, q9, q10, q11, q12, q13, q14⟩ | ⟨μ', ν', q1, q2, q3, q4, q5, q6⟩
    · have x3 : ν' 76 3 = (b : Int) := by rw [q14 76 3 (by unfold sVm; omega)]; exact k3
      have x90 : ν' 90 b = (L : Int) := by rw [q14 90 b (by unfold sVm; omega)]; exact k90
      have m := M147 hb h3 h'.2.2.2 h'.2.1 he hA' hA8 hsI hN' hAN hnm' hfo' q6 x3 x90 hL3 q8 (by omega)
      have i30 : bset μ 46 0 (p' : Int) 30 4 = (L : Int) := by simp (disch := first | omega | decide) only [bset_q, bset_k, bset_at, hL]
      have j30 : bset (bset μ 46 0 (p' : Int)) 30 4 ((L : Int) + (n : Int)) 30 0 = (T : Int) := by simp (disch := first | omega | decide) only [bset_q, bset_k, bset_at, h30]
      have jA : bset (bset μ 46 0 (p' : Int)) 30 4 ((L : Int) + (n : Int)) (T + 10) e = (A : Int) := by simp (disch := first | omega | decide) only [bset_q, bset_k, bset_at, hA]
      rw [q5]
      unfold F_X4_readLetters_121
      rw [i30, bG_pos (by constructor <;> omega), bset_at]
      have fM : Fr (sAm b e (8 * e + A) P) ν (bset ν' 90 b ((L : Int) + (n : Int))) := Fr_tr fA (Fr_tr (Fr_mono q14 mono) (Fr_b (by unfold sAm; omega)))
      have fC : Fr (sAc T e (8 * e + A)) μ (bset (bset μ 46 0 (p' : Int)) 30 4 ((L : Int) + (n : Int))) := Fr_tr (Fr_b (by unfold sAc; omega)) (Fr_b (by unfold sAc; omega))
      by_cases cL : (L : Int) + (n : Int) ≤ 30000
      · left
        unfold F_X4_readLetters_153
        rw [if_pos cL, j30, Int.toNat_natCast, C_add2 he jA hA8, bMm_some, bXm_inl, m.1 (Or.inr cL)]
        have w84 : ν' 84 (400 * b + e) = (A : Int) + 1 := by rw [q14 84 _ (by unfold sVm; omega)]; exact k84
        have w85 : ν' 85 (3200 * b + (8 * e + A)) = nm := by rw [q14 85 _ (by unfold sVm; omega)]; exact k85
        have w86 : ν' 86 (3200 * b + (8 * e + A)) = fo := by rw [q14 86 _ (by unfold sVm; omega)]; exact k86
        refine ⟨p', n, P', _, _, q1, q2, rfl, rfl, ?_, Mur_b q7 (Or.inl (by decide)), by unfold adC; simp (disch := first | omega | decide) only [bset_q, bset_k, bset_at], ?_, ?_, by unfold adC; simp (disch := first | omega | decide) only [bset_q, bset_k, bset_at], by unfold adC; simp (disch := first | omega | decide) only [bset_q, bset_k, bset_at], ?_, ?_, by omega, ?_, q11, q12, Fr_tr fC adC_fr, fM⟩
        · unfold adC
          exact Cur_b (Cur_b (Cur_b (Cur_b (Cur_b (Cur_b (Cur_at h) (by decide)) (by omega)) (by omega)) (by omega)) (by omega)) (by omega)
        · simp (disch := first | omega | decide) only [bset_q, bset_k, bset_at, w84]
        · have a11 : adC (bset (bset μ 46 0 (p' : Int)) 30 4 ((L : Int) + (n : Int))) T e A nm fo st n (T + 11) (8 * e + A) = nm := by unfold adC; simp (disch := first | omega | decide) only [bset_q, bset_k, bset_at]
          have a12 : adC (bset (bset μ 46 0 (p' : Int)) 30 4 ((L : Int) + (n : Int))) T e A nm fo st n (T + 12) (8 * e + A) = fo := by unfold adC; simp (disch := first | omega | decide) only [bset_q, bset_k, bset_at]
          have a13 : adC (bset (bset μ 46 0 (p' : Int)) 30 4 ((L : Int) + (n : Int))) T e A nm fo st n (T + 13) (8 * e + A) = st := by unfold adC; simp (disch := first | omega | decide) only [bset_q, bset_k, bset_at]
          have a14 : adC (bset (bset μ 46 0 (p' : Int)) 30 4 ((L : Int) + (n : Int))) T e A nm fo st n (T + 14) (8 * e + A) = n := by unfold adC; simp (disch := first | omega | decide) only [bset_q, bset_k, bset_at]
          have hB : ∀ q k, q ≠ 90 → bset ν' 90 b ((L : Int) + (n : Int)) q k = ν' q k := fun q k hq => by rw [bset_q hq]
          unfold At0
          rw [a11, a12, a13, a14, hB 85 _ (by decide), hB 86 _ (by decide), hB 88 _ (by decide), hB 89 _ (by decide), hB 91 _ (by decide), q10]
          refine ⟨⟨w85, w86, q8⟩, hnm1, Or.inl ⟨cl, st, n, rfl, rfl, q3, q4, q9, fun i hi => ?_⟩⟩
          rw [hB 92 _ (by decide)]
          exact q13 i hi
        · unfold adC
          simp (disch := first | omega | decide) only [bset_q, bset_k, bset_at]
          omega
        · simp (disch := first | omega | decide) only [bset_q, bset_k, bset_at]
          omega
        · simp (disch := first | omega | decide) only [bset_q, bset_k, bset_at, q10]
      · right
        rw [if_neg cL, C_refuse, bXm_inr, bXm_inr, m.2 q7.2.2.2 (by omega)]
        refine ⟨_, _, rfl, rfl, (Bad1_mk0 (j := 0) (by simp (disch := first | omega | decide) only [bset_q, bset_k, bset_at, h.1]) (by omega)).1, Fr_tr fC fl_fr, Fr_tr fM wr_fr⟩
    · right
      have x3 : ν' 76 3 = (b : Int) := by rw [q5 76 3 (by unfold sVm; omega)]; exact k3
      have x90 : ν' 90 b = (L : Int) := by rw [q5 90 b (by unfold sVm; omega)]; exact k90
      have m := M147 hb h3 h'.2.2.2 h'.2.1 he hA' hA8 hsI hN' hAN hnm' hfo' q2 x3 x90 hL3 (show ν' 89 (3200 * b + (8 * e + A)) = 0 by rw [q6]; exact k89) (by omega)
      rw [q1, bXm_inr, m.1 (Or.inl (BadP_ne q3))]
      refine ⟨_, _, rfl, rfl, ?_, q4, Fr_tr fA (Fr_tr (Fr_mono q5 mono) (Fr_b (by unfold sAm; omega)))⟩
      obtain ⟨x1, x2, x3, x4, x5⟩ := q3
      exact ⟨by simp (disch := first | omega | decide) only [bset_q, bset_k, bset_at]; exact x1, by simp (disch := first | omega | decide) only [bset_q, bset_k, bset_at]; exact x2, by simp (disch := first | omega | decide) only [bset_q, bset_k, bset_at]; exact x3, x4, x5⟩
  · rw [C_isLetters.2 cl, Option.bind_some, if_pos rfl]
    have hnr : isNum fo ∨ isRef fo := hok.elim Or.inl fun x => x.elim (fun y => absurd y cl) Or.inr
    have mono : ∀ q k, sNm b (8 * e + A) q k → sAm b e (8 * e + A) P q k := fun q k x => by unfold sNm at x; unfold sAm; omega
    rcases J_num (nm := nm) (fo := fo) (μ := μ) (ν := adM ν b e A nm fo) hs hT hb hc hmA h gA hp hE h30 k3 he hA hA8 hnr k86 with ⟨p', v, ν1, q1, q2, q3, q4, q5, q6⟩ | ⟨μ', ν', q1, q2, q3, q4, q5⟩
    · left
      have hν1 : Fr (fun q k => q = 111 ∧ k = 8 * e + A) (adM ν b e A nm fo) ν1 := by
        rcases q5 with ⟨c, _⟩ | c
        · rw [c]; exact Fr_rf
        · rw [c]; exact Fr_b ⟨rfl, rfl⟩
      have F1 : Fr (sNm b (8 * e + A)) (adM ν b e A nm fo) (bset (bset ν1 76 40 (p' : Int)) 87 (3200 * b + (8 * e + A)) v) := Fr_tr (Fr_mono hν1 fun q k x => by unfold sNm; omega) (Fr_tr (Fr_b (by unfold sNm; omega)) (Fr_b (by unfold sNm; omega)))
      have x3 : bset (bset ν1 76 40 (p' : Int)) 87 (3200 * b + (8 * e + A)) v 76 3 = (b : Int) := by rw [F1 76 3 (by unfold sNm; omega)]; exact k3
      have x90 : bset (bset ν1 76 40 (p' : Int)) 87 (3200 * b + (8 * e + A)) v 90 b = (L : Int) := by rw [F1 90 b (by unfold sNm; omega)]; exact k90
      have x89 : bset (bset ν1 76 40 (p' : Int)) 87 (3200 * b + (8 * e + A)) v 89 (3200 * b + (8 * e + A)) = 0 := by rw [F1 89 _ (by unfold sNm; omega)]; exact k89
      have m := M147 hb h3 h'.2.2.2 h'.2.1 he hA' hA8 hsI hN' hAN hnm' hfo' q6 x3 x90 hL3 x89 (by omega)
      rw [q4, bXm_inl, m.1 (Or.inr (by omega))]
      have g2 : Mur 0 p' E (bset (bset ν1 76 40 (p' : Int)) 87 (3200 * b + (8 * e + A)) v) := by
        have : Mur 0 p E ν1 := by
          rcases q5 with ⟨c, _⟩ | c
          · rw [c]; exact gA
          · rw [c]; exact Mur_b gA (Or.inl (by decide))
        exact Mur_b (Mur_at this) (Or.inl (by decide))
      have F2 : Fr (sAm b e (8 * e + A) P) (adM ν b e A nm fo) (bset (bset (bset ν1 76 40 (p' : Int)) 87 (3200 * b + (8 * e + A)) v) 90 b ((L : Int) + 0)) := Fr_tr (Fr_mono F1 mono) (Fr_b (by unfold sAm; omega))
      have V : ∀ q k, ¬ sNm b (8 * e + A) q k → q ≠ 90 → bset (bset (bset ν1 76 40 (p' : Int)) 87 (3200 * b + (8 * e + A)) v) 90 b ((L : Int) + 0) q k = adM ν b e A nm fo q k := fun q k x y => by rw [bset_q y, F1 q k x]
      refine ⟨p', 0, P, _, _, q1, q2, rfl, rfl, ?_, Mur_b g2 (Or.inl (by decide)), by unfold adC; simp (disch := first | omega | decide) only [bset_q, bset_k, bset_at], ?_, ?_, by unfold adC; simp (disch := first | omega | decide) only [bset_q, bset_k, bset_at], by unfold adC; simp (disch := first | omega | decide) only [bset_q, bset_k, bset_at]; rfl, ?_, ?_, by omega, ?_, by omega, by omega, Fr_tr (Fr_tr (Fr_b (by unfold sAc; omega)) (Fr_b (by unfold sAc; omega))) adC_fr, Fr_tr fA F2⟩
      · unfold adC
        exact Cur_b (Cur_b (Cur_b (Cur_b (Cur_b (Cur_at (Cur_b h (by decide))) (by omega)) (by omega)) (by omega)) (by omega)) (by omega)
      · rw [V 84 _ (by unfold sNm; omega) (by decide)]; exact k84
      · have a11 : adC (bset (bset μ 60 (8 * e + A) (p : Int)) 46 0 (p' : Int)) T e A nm fo v 0 (T + 11) (8 * e + A) = nm := by unfold adC; simp (disch := first | omega | decide) only [bset_q, bset_k, bset_at]
        have a12 : adC (bset (bset μ 60 (8 * e + A) (p : Int)) 46 0 (p' : Int)) T e A nm fo v 0 (T + 12) (8 * e + A) = fo := by unfold adC; simp (disch := first | omega | decide) only [bset_q, bset_k, bset_at]
        have a13 : adC (bset (bset μ 60 (8 * e + A) (p : Int)) 46 0 (p' : Int)) T e A nm fo v 0 (T + 13) (8 * e + A) = v := by unfold adC; simp (disch := first | omega | decide) only [bset_q, bset_k, bset_at]
        have a14 : adC (bset (bset μ 60 (8 * e + A) (p : Int)) 46 0 (p' : Int)) T e A nm fo v 0 (T + 14) (8 * e + A) = 0 := by unfold adC; simp (disch := first | omega | decide) only [bset_q, bset_k, bset_at]
        have a60 : adC (bset (bset μ 60 (8 * e + A) (p : Int)) 46 0 (p' : Int)) T e A nm fo v 0 60 (8 * e + A) = (p : Int) := by unfold adC; simp (disch := first | omega | decide) only [bset_q, bset_k, bset_at]
        have v87 : bset (bset (bset ν1 76 40 (p' : Int)) 87 (3200 * b + (8 * e + A)) v) 90 b ((L : Int) + 0) 87 (3200 * b + (8 * e + A)) = v := by simp (disch := first | omega | decide) only [bset_q, bset_k, bset_at]
        unfold At0
        rw [a11, a12, a13, a14, a60, V 85 _ (by unfold sNm; omega) (by decide), V 86 _ (by unfold sNm; omega) (by decide), V 89 _ (by unfold sNm; omega) (by decide), v87, k85, k86, k89]
        refine ⟨⟨rfl, rfl, rfl⟩, hnm1, Or.inr ⟨hnr, rfl, rfl, q3, fun hr => ?_⟩⟩
        rcases q5 with ⟨_, c⟩ | c
        · exact absurd hr c
        · rw [bset_q (by decide), bset_q (by decide), bset_q (by decide), c, bset_at]
          exact ⟨rfl, by omega, by omega⟩
      · unfold adC
        simp (disch := first | omega | decide) only [bset_q, bset_k, bset_at, hL]
        omega
      · simp (disch := first | omega | decide) only [bset_q, bset_k, bset_at]
        omega
      · rw [V 91 _ (by unfold sNm; omega) (by decide)]; exact k91
    · right
      have x3 : ν' 76 3 = (b : Int) := by rw [q5 76 3 (by unfold sNm; omega)]; exact k3
      have x90 : ν' 90 b = (L : Int) := by rw [q5 90 b (by unfold sNm; omega)]; exact k90
      have x89 : ν' 89 (3200 * b + (8 * e + A)) = 0 := by rw [q5 89 _ (by unfold sNm; omega)]; exact k89
      have m := M147 hb h3 h'.2.2.2 h'.2.1 he hA' hA8 hsI hN' hAN hnm' hfo' q2 x3 x90 hL3 x89 (by omega)
      rw [q1, bXm_inr, m.1 (Or.inl (BadP_ne q3))]
      refine ⟨_, _, rfl, rfl, ?_, q4, Fr_tr fA (Fr_tr (Fr_mono q5 mono) (Fr_b (by unfold sAm; omega)))⟩
      obtain ⟨x1, x2, x3, x4, x5⟩ := q3
      exact ⟨by simp (disch := first | omega | decide) only [bset_q, bset_k, bset_at]; exact x1, by simp (disch := first | omega | decide) only [bset_q, bset_k, bset_at]; exact x2, by simp (disch := first | omega | decide) only [bset_q, bset_k, bset_at]; exact x3, x4, x5⟩
end
end FT
