/-! WHAT THE CONSTRUCTORS MAKE -/
section CA
/-- the memory behind the constructors: pointers, and 0 -/
def b0 : bM := fun q k => if (bSh q).1 < 10 ∨ (bSh q).1 = 99 then 0 else match bPf ((bSh q).1 - 10) k with
  | 3 => if q = 1 then 61 else 31
  | 4 => 47
  | n + 5 => (q : Int) + n
  | _ => 0
theorem b0_a {q k : Nat} (h : (bSh q).1 < 10 ∨ (bSh q).1 = 99) : b0 q k = 0 := by unfold b0; rw [if_pos h]
theorem bPf_out : ∀ ci, ci < 10 → (bPfs.getD ci []).length ≤ 60 := by decide +kernel
def b0chk (q k : Nat) : Bool := match bPf ((bSh q).1 - 10) k with
  | 3 => decide (bSh (b0 q k).toNat = (17, 16))
  | 4 => decide (bSh (b0 q k).toNat = (15, 2))
  | n + 5 => decide (b0 q k = (q : Int) + (n : Int))
  | _ => decide (b0 q k = 0)
theorem b0_in : ∀ q, q < 113 → (decide ((bSh q).1 < 10) || decide ((bSh q).1 = 99) || (List.range 60).all (fun k => b0chk q k)) = true := by decide +kernel
theorem b0_kinds : ∀ q, q < 113 → (bSh q).1 < 4 ∨ (bSh q).1 = 99 ∨ (10 ≤ (bSh q).1 ∧ (bSh q).1 < 20) := by decide +kernel
theorem bPf_big {ci k : Nat} (hc : ci < 10) (hk : 60 ≤ k) : bPf ci k = 0 := by
  unfold bPf
  have := bPf_out ci hc
  rw [List.getD_eq_getElem?_getD (l := bPfs.getD ci []), List.getElem?_eq_none (by omega)]
  rfl
theorem b0_ok : bOk b0 := by
  intro q k
  by_cases h99 : (bSh q).1 = 99
  · rw [b0_a (Or.inr h99)]
    unfold bIn
    rw [h99]
    show bIo q (bPf 89 k) 0
    rw [show bPf 89 k = 0 from rfl]
    show bR 0
    decide
  · have hq := bSh_lt (q := q) h99
    rcases b0_kinds q hq.2 with h | h | h
    · rw [b0_a (Or.inl (by omega))]
      unfold bIn
      have : (bSh q).1 = 0 ∨ (bSh q).1 = 1 ∨ (bSh q).1 = 2 ∨ (bSh q).1 = 3 := by omega
      rcases this with e | e | e | e <;> rw [e]
      · show (-128 : Int) ≤ 0 ∧ (0 : Int) ≤ 127; decide
      · show bR 0; decide
      · show bRL 0; decide
      · show (0 : Int) ≤ 0 ∧ (0 : Int) ≤ 1; decide
    · exact absurd h h99
    · obtain ⟨ci, hci⟩ : ∃ ci, (bSh q).1 = ci + 10 := ⟨(bSh q).1 - 10, by omega⟩
      have hsh : bSh q = (ci + 10, (bSh q).2) := by rw [← hci]
      rw [bIn_f hsh rfl]
      by_cases hk : k < 60
      · have hc := b0_in q hq.2
        rw [decide_eq_false (by omega), decide_eq_false h99, Bool.false_or, Bool.false_or] at hc
        have hc := List.all_eq_true.mp hc k (List.mem_range.mpr hk)
        unfold b0chk at hc
        rw [hci, Nat.add_sub_cancel] at hc
        unfold bIo
        generalize bPf ci k = p at hc ⊢
        match p, hc with
        | 0, hc => rw [of_decide_eq_true hc]; show bR 0; decide
        | 1, hc => rw [of_decide_eq_true hc]; show (0 : Int) ≤ 0 ∧ (0 : Int) ≤ 1; decide
        | 2, hc => rw [of_decide_eq_true hc]; show bRL 0; decide
        | 3, hc => exact of_decide_eq_true hc
        | 4, hc => exact of_decide_eq_true hc
        | n + 5, hc => exact of_decide_eq_true hc
      · have hp : bPf ci k = 0 := bPf_big (by omega) (by omega)
        have : b0 q k = 0 := by
          unfold b0
          rw [if_neg (by omega), hci, Nat.add_sub_cancel, hp]
        rw [this, hp]
        show bR 0
        decide
theorem b0_i {q n : Nat} (h : bSh q = (1, n)) : bH b0 q = .inl (1, n, .inl fun _ => 0) := by
  rw [bH_i h]
  congr 4
  funext k
  rw [b0_a (Or.inl (by rw [h]; simp))]
  rfl
theorem b0_b {q n : Nat} (h : bSh q = (0, n)) : bH b0 q = .inl (0, n, .inl fun _ => 0) := by
  rw [bH_b h]
  congr 4
  funext k
  rw [b0_a (Or.inl (by rw [h]; simp))]
  rfl
theorem b0_z {q n : Nat} (h : bSh q = (3, n)) : bH b0 q = .inl (3, n, .inl fun _ => 0) := by
  rw [bH_z h]
  congr 4
  funext k
  rw [b0_a (Or.inl (by rw [h]; simp))]
  rfl
theorem b0_l {q n : Nat} (h : bSh q = (2, n)) : bH b0 q = .inl (2, n, .inr (.inl fun _ => 0)) := by
  rw [bH_l h]
  congr 5
  funext k
  rw [b0_a (Or.inl (by rw [h]; simp))]
  rfl
theorem up_self {h : ax_H} {q : Nat} {c : ax_C} (e : h q = c) : ax_up h q c = h := by
  funext z
  unfold ax_up
  by_cases hz : z = q
  · rw [if_pos hz, hz, e]
  · rw [if_neg hz]
theorem up_up {h : ax_H} {q : Nat} {c c' : ax_C} : ax_up (ax_up h q c) q c' = ax_up h q c' := by
  funext z
  unfold ax_up
  by_cases hz : z = q
  · rw [if_pos hz, if_pos hz]
  · rw [if_neg hz, if_neg hz, if_neg hz]
theorem up_at {h : ax_H} {q : Nat} {c : ax_C} : ax_up h q c q = c := by unfold ax_up; rw [if_pos rfl]
theorem up_ne {h : ax_H} {q z : Nat} {c : ax_C} (hz : z ≠ q) : ax_up h q c z = h z := by unfold ax_up; rw [if_neg hz]
section
variable {L : Nat} {xs : Nat → Int32} {d i pc : Nat} {lv lv1 : List (Nat × Value)} {st st' : List Value} {h : ax_H} {n : Nat} {o : ax_O} {x : ax_I} {f : Bool}
theorem c_s {pc' : Nat} (hr : (ax_dt (ax_T i)).lookup pc = some x) (hs : ∀ M, ax_s L xs (ax_dl (ax_T i)) x pc lv st M = some (pc', lv1, st', M, 0, 0)) (k : bRn L xs d i pc' lv1 st' (n, h, f) o) : bRn L xs d i pc lv st (n, h, f) o := bRn.s hr (hs _) k
theorem bRn_stp {r : ax_N} (h1 : (ax_dt (ax_T i)).lookup pc = some x) {M : ax_M} (h2 : ax_s L xs (ax_dl (ax_T i)) x pc lv st M = some r) (k : bRn L xs d i r.1 r.2.1 r.2.2.1 r.2.2.2.1 o) : bRn L xs d i pc lv st M (ax_add o r.2.2.2.2.1 r.2.2.2.2.2) := fun P hP hW => hP.1 _ _ _ _ _ _ _ _ _ h1 h2 (k P hP hW)
theorem c_new {idx len ci r2 : Nat} {kc : Int} {pc' : Nat} (hr : (ax_dt (ax_T i)).lookup pc = some (.new idx, len, ci, r2, kc)) (hc : ci < 10) (hp : pc + len = pc') (k : bRn L xs d i pc' lv (.ref (n + 1) :: st) (n + 1, ax_up h (n + 1) (.inr (ci, ax_new ci)), true) o) : bRn L xs d i pc lv st (n, h, true) (ax_add o 1 (ax_cn ci)) := by
  subst hp
  have e : ax_s L xs (ax_dl (ax_T i)) (.new idx, len, ci, r2, kc) pc lv st (n, h, true) = some (pc + len, lv, .ref (n + 1) :: st, (n + 1, ax_up h (n + 1) (.inr (ci, ax_new ci)), true), 1, ax_cn ci) := by
    have e1 : ax_make (.new idx, len, ci, r2, kc) pc lv st (n, h, true) = some (pc + len, lv, .ref (n + 1) :: st, (n + 1, ax_up h (n + 1) (.inr (ci, ax_new ci)), true), 1, ax_cn ci) := by
      simp only [ax_make, hc, and_self, if_true]
    have e2 : ax_ints (.new idx, len, ci, r2, kc) pc lv st (n, h, true) = none := by unfold ax_ints; split <;> rfl
    have e3 : ax_longs (.new idx, len, ci, r2, kc) pc lv st (n, h, true) = none := by unfold ax_longs; split <;> rfl
    show (ax_ints (.new idx, len, ci, r2, kc) pc lv st (n, h, true) <|> (ax_longs (.new idx, len, ci, r2, kc) pc lv st (n, h, true) <|> (ax_make (.new idx, len, ci, r2, kc) pc lv st (n, h, true) <|> _))) = _
    rw [e1, e2, e3]
    rfl
  exact bRn_stp hr e k
theorem c_arr {t : ArrayType} {len r1 r2 : Nat} {kc : Int} {pc' m q' : Nat} {a : Nat × vp_A} (hr : (ax_dt (ax_T i)).lookup pc = some (.newarray t, len, r1, r2, kc)) (hp : pc + len = pc') (hm : m ≤ 180000) (ha : ax_arr t m = some a) (hq : n + 1 = q') (hh : h q' = .inl a)
    (k : bRn L xs d i pc' lv (.ref q' :: st) (q', h, true) o) : bRn L xs d i pc lv (bI (m : Int) :: st) (n, h, true) (ax_add o 1 m) := by
  subst hp
  subst hq
  have hr2 : bR (m : Int) := by constructor <;> omega
  have hcn : (Int32.ofInt (m : Int)).toNatClampNeg = m := by show (Int32.ofInt (m : Int)).toInt.toNat = m; rw [bi_t hr2]; rfl
  have h0 : ¬ (Int32.ofInt (m : Int) < 0) := by rw [bi_0, bi_lt hr2 bR_0]; omega
  have e : ax_s L xs (ax_dl (ax_T i)) (.newarray t, len, r1, r2, kc) pc lv (bI (m : Int) :: st) (n, h, true) = some (pc + len, lv, .ref (n + 1) :: st, (n + 1, ax_up h (n + 1) (.inl a), true), 1, m) := by
    have e1 : ax_make (.newarray t, len, r1, r2, kc) pc lv (bI (m : Int) :: st) (n, h, true) = some (pc + len, lv, .ref (n + 1) :: st, (n + 1, ax_up h (n + 1) (.inl a), true), 1, m) := by
      simp only [ax_make, hcn, h0, not_false_eq_true, show m * 8 ≤ 536870912 by omega, and_self, if_true, ha]
    have e2 : ax_ints (.newarray t, len, r1, r2, kc) pc lv (bI (m : Int) :: st) (n, h, true) = none := by unfold ax_ints; split <;> rfl
    have e3 : ax_longs (.newarray t, len, r1, r2, kc) pc lv (bI (m : Int) :: st) (n, h, true) = none := by unfold ax_longs; split <;> rfl
    show (ax_ints (.newarray t, len, r1, r2, kc) pc lv (bI (m : Int) :: st) (n, h, true) <|> (ax_longs (.newarray t, len, r1, r2, kc) pc lv (bI (m : Int) :: st) (n, h, true) <|> (ax_make (.newarray t, len, r1, r2, kc) pc lv (bI (m : Int) :: st) (n, h, true) <|> _))) = _
    rw [e1, e2, e3]
    rfl
  rw [up_self hh] at e
  exact bRn_stp hr e k
theorem c_pf {idx len ci j kq q0 : Nat} {kc : Int} {pc' q : Nat} {w : Value} {fs fs' : List Value} (hr : (ax_dt (ax_T i)).lookup pc = some (.putfield idx, len, ci, kq, kc)) (hp : pc + len = pc') (hq : q = q0 + 1) (hn : q0 < n) (hl : kq < fs.length) (hf : ax_fit (ax_ty ci kq) w = true) (hs : fs.set kq w = fs')
    (k : bRn L xs d i pc' lv st (n, ax_up h q (.inr (ci, fs')), true) o) : bRn L xs d i pc lv (w :: .ref q :: st) (n, ax_up h q (.inr (ci, fs)), true) o := by
  subst hp
  subst hq
  subst hs
  have e1 : ax_putf (.putfield idx, len, ci, kq, kc) pc lv (w :: .ref (q0 + 1) :: st) (n, ax_up h (q0 + 1) (.inr (ci, fs)), true) = some (pc + len, lv, st, (n, ax_up h (q0 + 1) (.inr (ci, fs.set kq w)), true), 0, 0) := by
    simp only [ax_putf, up_at, hn, hl, hf, and_self, if_true, up_up]
  refine bRn.s hr ?_ k
  show (ax_ints (.putfield idx, len, ci, kq, kc) pc lv (w :: .ref (q0 + 1) :: st) (n, ax_up h (q0 + 1) (.inr (ci, fs)), true) <|> (ax_longs (.putfield idx, len, ci, kq, kc) pc lv (w :: .ref (q0 + 1) :: st) (n, ax_up h (q0 + 1) (.inr (ci, fs)), true) <|> (ax_putf (.putfield idx, len, ci, kq, kc) pc lv (w :: .ref (q0 + 1) :: st) (n, ax_up h (q0 + 1) (.inr (ci, fs)), true) <|> _))) = _
  rw [bz_ints_pf, bz_longs_pf, e1]
  rfl
/-- a constructor's call -/
theorem c_call {j n' c1 s1 : Nat} {as rest : List Value} {h' : ax_H} {pc' : Nat} (h1 : (ax_dt (ax_T i)).lookup pc = some x) (h2 : ax_call x st = some (j, as, rest)) (h3 : ∀ M, ax_recv ax_T x as M) (h4 : (rest.map fun v => v.category).sum ≤ 8) (h5 : (lg_sl as).length ≤ ax_dl (ax_T j)) (hp : pc + 3 = pc')
    (k1 : bRn L xs d j 0 (lv_args 0 as) [] (n, h, true) (.inl none, (n', h', true), c1, s1)) (h8 : n' = n + c1) (k2 : bRn L xs (d + 1) i pc' lv rest (n', h', true) o) : bRn L xs (d + 1) i pc lv st (n, h, true) (ax_add o c1 s1) := by
  subst hp
  exact bRn.call h1 h2 (h3 _) h4 h5 k1 (fun _ => ⟨rfl, h8⟩) k2
end
section
variable {L : Nat} {xs : Nat → Int32} {d i pc : Nat} {lv : List (Nat × Value)} {st : List Value} {h : ax_H} {n : Nat} {x : ax_I} {r : Option Value ⊕ String} {Mf : ax_M} {c s c' s' : Nat}
theorem d_new {idx len ci r2 : Nat} {kc : Int} {pc' : Nat} (hr : (ax_dt (ax_T i)).lookup pc = some (.new idx, len, ci, r2, kc)) (hc : ci < 10) (hp : pc + len = pc') (e1 : 1 + c = c') (e2 : ax_cn ci + s = s') (k : bRn L xs d i pc' lv (.ref (n + 1) :: st) (n + 1, ax_up h (n + 1) (.inr (ci, ax_new ci)), true) (r, Mf, c, s)) : bRn L xs d i pc lv st (n, h, true) (r, Mf, c', s') := by
  subst e1
  subst e2
  exact c_new hr hc hp k
theorem d_arr {t : ArrayType} {len r1 r2 : Nat} {kc : Int} {pc' m q' : Nat} {a : Nat × vp_A} (hr : (ax_dt (ax_T i)).lookup pc = some (.newarray t, len, r1, r2, kc)) (hp : pc + len = pc') (hm : m ≤ 180000) (ha : ax_arr t m = some a) (hq : n + 1 = q') (hh : h q' = .inl a) (e1 : 1 + c = c') (e2 : m + s = s')
    (k : bRn L xs d i pc' lv (.ref q' :: st) (q', h, true) (r, Mf, c, s)) : bRn L xs d i pc lv (bI (m : Int) :: st) (n, h, true) (r, Mf, c', s') := by
  subst e1
  subst e2
  exact c_arr hr hp hm ha hq hh k
theorem d_call {j n' c1 s1 : Nat} {as rest : List Value} {h' : ax_H} {pc' : Nat} (h1 : (ax_dt (ax_T i)).lookup pc = some x) (h2 : ax_call x st = some (j, as, rest)) (h3 : ∀ M, ax_recv ax_T x as M) (h4 : (rest.map fun v => v.category).sum ≤ 8) (h5 : (lg_sl as).length ≤ ax_dl (ax_T j)) (hp : pc + 3 = pc')
    (k1 : bRn L xs d j 0 (lv_args 0 as) [] (n, h, true) (.inl none, (n', h', true), c1, s1)) (h8 : n' = n + c1) (e1 : c1 + c = c') (e2 : s1 + s = s') (k2 : bRn L xs (d + 1) i pc' lv rest (n', h', true) (r, Mf, c, s)) : bRn L xs (d + 1) i pc lv st (n, h, true) (r, Mf, c', s') := by
  subst e1
  subst e2
  exact c_call h1 h2 h3 h4 h5 hp k1 h8 k2
end
theorem c_eq {L : Nat} {xs : Nat → Int32} {d i pc : Nat} {lv : List (Nat × Value)} {st : List Value} {M M' : ax_M} {o o' : ax_O} (hM : M = M') (ho : o' = o) (k : bRn L xs d i pc lv st M' o') : bRn L xs d i pc lv st M o := by rw [hM, ← ho]; exact k
end CA
