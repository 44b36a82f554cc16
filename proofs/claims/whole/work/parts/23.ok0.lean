section
theorem k1_X0_init : (at_X0_init).all (fun q => decide (decode cX0_init q.1 = .ok (q.2.1, q.2.2.1))) = true := by decide +kernel
theorem k2_X0_init : ax_chks ax_T aD_X0_init = true := by decide +kernel
theorem k3_X0_init : ax_needs ax_T ax_n9 ax_j9 ax_m9 aD_X0_init = [168, 114, 115, 177, 170, 169, 123, 89, 124, 177, 171, 167].filterMap (fun i => ax_big[i]?) := by decide +kernel
theorem k4_X0_init : (ax_needs ax_T ax_n9 ax_j9 ax_m9 aD_X0_init).all goodWord = true := by decide +kernel
theorem ok_X0_init : ax_okM ax_Ss ax_T ax_n9 ax_j9 ax_m9 aD_X0_init := ax_okM_of (fun q h => of_decide_eq_true (List.all_eq_true.mp k1_X0_init q h)) k2_X0_init (ax_W_of _ k3_X0_init k4_X0_init) (by decide +kernel) (fun pc q h => by cases h)
theorem k1_X0_forget : (at_X0_forget).all (fun q => decide (decode cX0_forget q.1 = .ok (q.2.1, q.2.2.1))) = true := by decide +kernel
theorem k2_X0_forget : ax_chks ax_T aD_X0_forget = true := by decide +kernel
theorem k3_X0_forget : ax_needs ax_T ax_n9 ax_j9 ax_m9 aD_X0_forget = [170, 520, 106, 519, 518].filterMap (fun i => ax_big[i]?) := by decide +kernel
theorem k4_X0_forget : (ax_needs ax_T ax_n9 ax_j9 ax_m9 aD_X0_forget).all goodWord = true := by decide +kernel
theorem ok_X0_forget : ax_okM ax_Ss ax_T ax_n9 ax_j9 ax_m9 aD_X0_forget := ax_okM_of (fun q h => of_decide_eq_true (List.all_eq_true.mp k1_X0_forget q h)) k2_X0_forget (ax_W_of _ k3_X0_forget k4_X0_forget) (by decide +kernel) (fun pc q h => by cases h)
theorem k1_X0_first : (at_X0_first).all (fun q => decide (decode cX0_first q.1 = .ok (q.2.1, q.2.2.1))) = true := by decide +kernel
theorem k2_X0_first : ax_chks ax_T aD_X0_first = true := by decide +kernel
theorem k3_X0_first : ax_needs ax_T ax_n9 ax_j9 ax_m9 aD_X0_first = [170, 537, 92, 536, 535].filterMap (fun i => ax_big[i]?) := by decide +kernel
theorem k4_X0_first : (ax_needs ax_T ax_n9 ax_j9 ax_m9 aD_X0_first).all goodWord = true := by decide +kernel
theorem ok_X0_first : ax_okM ax_Ss ax_T ax_n9 ax_j9 ax_m9 aD_X0_first := ax_okM_of (fun q h => of_decide_eq_true (List.all_eq_true.mp k1_X0_first q h)) k2_X0_first (ax_W_of _ k3_X0_first k4_X0_first) (by decide +kernel) (fun pc q h => by cases h)
theorem k1_X0_after : (at_X0_after).all (fun q => decide (decode cX0_after q.1 = .ok (q.2.1, q.2.2.1))) = true := by decide +kernel
theorem k2_X0_after : ax_chks ax_T aD_X0_after = true := by decide +kernel
theorem k3_X0_after : ax_needs ax_T ax_n9 ax_j9 ax_m9 aD_X0_after = [171, 171, 545].filterMap (fun i => ax_big[i]?) := by decide +kernel
theorem k4_X0_after : (ax_needs ax_T ax_n9 ax_j9 ax_m9 aD_X0_after).all goodWord = true := by decide +kernel
theorem ok_X0_after : ax_okM ax_Ss ax_T ax_n9 ax_j9 ax_m9 aD_X0_after := ax_okM_of (fun q h => of_decide_eq_true (List.all_eq_true.mp k1_X0_after q h)) k2_X0_after (ax_W_of _ k3_X0_after k4_X0_after) (by decide +kernel) (fun pc q h => by cases h)
theorem k1_X0_add : (at_X0_add).all (fun q => decide (decode cX0_add q.1 = .ok (q.2.1, q.2.2.1))) = true := by decide +kernel
theorem k2_X0_add : ax_chks ax_T aD_X0_add = true := by decide +kernel
theorem k3_X0_add : ax_needs ax_T ax_n9 ax_j9 ax_m9 aD_X0_add = [171, 537, 92, 536, 171, 170, 170, 549].filterMap (fun i => ax_big[i]?) := by decide +kernel
theorem k4_X0_add : (ax_needs ax_T ax_n9 ax_j9 ax_m9 aD_X0_add).all goodWord = true := by decide +kernel
theorem ok_X0_add : ax_okM ax_Ss ax_T ax_n9 ax_j9 ax_m9 aD_X0_add := ax_okM_of (fun q h => of_decide_eq_true (List.all_eq_true.mp k1_X0_add q h)) k2_X0_add (ax_W_of _ k3_X0_add k4_X0_add) (by decide +kernel) (fun pc q h => by cases h)
theorem k1_X0_bucket : (at_X0_bucket).all (fun q => decide (decode cX0_bucket q.1 = .ok (q.2.1, q.2.2.1))) = true := by decide +kernel
theorem k2_X0_bucket : ax_chks ax_T aD_X0_bucket = true := by decide +kernel
theorem k3_X0_bucket : ax_needs ax_T ax_n9 ax_j9 ax_m9 aD_X0_bucket = [538].filterMap (fun i => ax_big[i]?) := by decide +kernel
theorem k4_X0_bucket : (ax_needs ax_T ax_n9 ax_j9 ax_m9 aD_X0_bucket).all goodWord = true := by decide +kernel
theorem ok_X0_bucket : ax_okM ax_Ss ax_T ax_n9 ax_j9 ax_m9 aD_X0_bucket := ax_okM_of (fun q h => of_decide_eq_true (List.all_eq_true.mp k1_X0_bucket q h)) k2_X0_bucket (ax_W_of _ k3_X0_bucket k4_X0_bucket) (by decide +kernel) (fun pc q h => by cases h)
theorem k1_X1_init : (at_X1_init).all (fun q => decide (decode cX1_init q.1 = .ok (q.2.1, q.2.2.1))) = true := by decide +kernel
theorem k2_X1_init : ax_chks ax_T aD_X1_init = true := by decide +kernel
theorem k3_X1_init : ax_needs ax_T ax_n9 ax_j9 ax_m9 aD_X1_init = [364, 114, 115, 365, 117, 88, 366, 119, 88, 379, 363].filterMap (fun i => ax_big[i]?) := by decide +kernel
theorem k4_X1_init : (ax_needs ax_T ax_n9 ax_j9 ax_m9 aD_X1_init).all goodWord = true := by decide +kernel
theorem ok_X1_init : ax_okM ax_Ss ax_T ax_n9 ax_j9 ax_m9 aD_X1_init := ax_okM_of (fun q h => of_decide_eq_true (List.all_eq_true.mp k1_X1_init q h)) k2_X1_init (ax_W_of _ k3_X1_init k4_X1_init) (by decide +kernel) (fun pc q h => by cases h)
theorem k1_X1_over : (at_X1_over).all (fun q => decide (decode cX1_over q.1 = .ok (q.2.1, q.2.2.1))) = true := by decide +kernel
theorem k2_X1_over : ax_chks ax_T aD_X1_over = true := by decide +kernel
theorem k3_X1_over : ax_needs ax_T ax_n9 ax_j9 ax_m9 aD_X1_over = [678, 679, 680, 90, 379, 378, 367, 370, 677].filterMap (fun i => ax_big[i]?) := by decide +kernel
theorem k4_X1_over : (ax_needs ax_T ax_n9 ax_j9 ax_m9 aD_X1_over).all goodWord = true := by decide +kernel
theorem ok_X1_over : ax_okM ax_Ss ax_T ax_n9 ax_j9 ax_m9 aD_X1_over := ax_okM_of (fun q h => of_decide_eq_true (List.all_eq_true.mp k1_X1_over q h)) k2_X1_over (ax_W_of _ k3_X1_over k4_X1_over) (by decide +kernel) (fun pc q h => by cases h)
theorem k1_X1_forgetFault : (at_X1_forgetFault).all (fun q => decide (decode cX1_forgetFault q.1 = .ok (q.2.1, q.2.2.1))) = true := by decide +kernel
theorem k2_X1_forgetFault : ax_chks ax_T aD_X1_forgetFault = true := by decide +kernel
theorem k3_X1_forgetFault : ax_needs ax_T ax_n9 ax_j9 ax_m9 aD_X1_forgetFault = [372, 374, 376, 671].filterMap (fun i => ax_big[i]?) := by decide +kernel
theorem k4_X1_forgetFault : (ax_needs ax_T ax_n9 ax_j9 ax_m9 aD_X1_forgetFault).all goodWord = true := by decide +kernel
theorem ok_X1_forgetFault : ax_okM ax_Ss ax_T ax_n9 ax_j9 ax_m9 aD_X1_forgetFault := ax_okM_of (fun q h => of_decide_eq_true (List.all_eq_true.mp k1_X1_forgetFault q h)) k2_X1_forgetFault (ax_W_of _ k3_X1_forgetFault k4_X1_forgetFault) (by decide +kernel) (fun pc q h => by cases h)
theorem k1_X1_refuse : (at_X1_refuse).all (fun q => decide (decode cX1_refuse q.1 = .ok (q.2.1, q.2.2.1))) = true := by decide +kernel
theorem k2_X1_refuse : ax_chks ax_T aD_X1_refuse = true := by decide +kernel
theorem k3_X1_refuse : ax_needs ax_T ax_n9 ax_j9 ax_m9 aD_X1_refuse = [372, 378, 374, 376, 685].filterMap (fun i => ax_big[i]?) := by decide +kernel
theorem k4_X1_refuse : (ax_needs ax_T ax_n9 ax_j9 ax_m9 aD_X1_refuse).all goodWord = true := by decide +kernel
theorem kx_X1_refuse_18 : ax_okx ax_Ss aD_X1_refuse 18 ("java/lang/IllegalStateException", "the sections are wrong", 45, 47, 49, false) := ⟨by decide, by decide +kernel, rfl, by decide +kernel, by decide +kernel, ⟨by decide +kernel, by decide +kernel, by decide +kernel⟩, kt_4, kn_4⟩
theorem kx_X1_refuse : ∀ pc q, (ax_dx aD_X1_refuse).lookup pc = some q → ax_okx ax_Ss aD_X1_refuse pc q := by
  intro pc q h
  have hm := ax_lookup_mem h
  simp only [ax_dx, aD_X1_refuse, List.mem_cons, List.not_mem_nil, or_false, Prod.mk.injEq] at hm
  obtain ⟨rfl, rfl⟩ := hm
  exact kx_X1_refuse_18
theorem ok_X1_refuse : ax_okM ax_Ss ax_T ax_n9 ax_j9 ax_m9 aD_X1_refuse := ax_okM_of (fun q h => of_decide_eq_true (List.all_eq_true.mp k1_X1_refuse q h)) k2_X1_refuse (ax_W_of _ k3_X1_refuse k4_X1_refuse) (by decide +kernel) kx_X1_refuse
theorem k1_X1_lowFirst : (at_X1_lowFirst).all (fun q => decide (decode cX1_lowFirst q.1 = .ok (q.2.1, q.2.2.1))) = true := by decide +kernel
theorem k2_X1_lowFirst : ax_chks ax_T aD_X1_lowFirst = true := by decide +kernel
theorem k3_X1_lowFirst : ax_needs ax_T ax_n9 ax_j9 ax_m9 aD_X1_lowFirst = [370, 367, 370, 762, 683, 684, 95, 379, 367, 763, 573, 574, 88, 367, 367, 761].filterMap (fun i => ax_big[i]?) := by decide +kernel
theorem k4_X1_lowFirst : (ax_needs ax_T ax_n9 ax_j9 ax_m9 aD_X1_lowFirst).all goodWord = true := by decide +kernel
theorem ok_X1_lowFirst : ax_okM ax_Ss ax_T ax_n9 ax_j9 ax_m9 aD_X1_lowFirst := ax_okM_of (fun q h => of_decide_eq_true (List.all_eq_true.mp k1_X1_lowFirst q h)) k2_X1_lowFirst (ax_W_of _ k3_X1_lowFirst k4_X1_lowFirst) (by decide +kernel) (fun pc q h => by cases h)
theorem k1_X1_row : (at_X1_row).all (fun q => decide (decode cX1_row q.1 = .ok (q.2.1, q.2.2.1))) = true := by decide +kernel
theorem k2_X1_row : ax_chks ax_T aD_X1_row = true := by decide +kernel
theorem k3_X1_row : ax_needs ax_T ax_n9 ax_j9 ax_m9 aD_X1_row = [367, 367, 370, 370, 762, 683, 684, 95, 379, 367, 763, 573, 574, 88, 367, 367, 762, 683, 684, 95, 779, 778].filterMap (fun i => ax_big[i]?) := by decide +kernel
theorem k4_X1_row : (ax_needs ax_T ax_n9 ax_j9 ax_m9 aD_X1_row).all goodWord = true := by decide +kernel
theorem ok_X1_row : ax_okM ax_Ss ax_T ax_n9 ax_j9 ax_m9 aD_X1_row := ax_okM_of (fun q h => of_decide_eq_true (List.all_eq_true.mp k1_X1_row q h)) k2_X1_row (ax_W_of _ k3_X1_row k4_X1_row) (by decide +kernel) (fun pc q h => by cases h)
theorem k1_X1_smallRow : (at_X1_smallRow).all (fun q => decide (decode cX1_smallRow q.1 = .ok (q.2.1, q.2.2.1))) = true := by decide +kernel
theorem k2_X1_smallRow : ax_chks ax_T aD_X1_smallRow = true := by decide +kernel
theorem k3_X1_smallRow : ax_needs ax_T ax_n9 ax_j9 ax_m9 aD_X1_smallRow = [367, 775, 776, 777, 95, 780, 762, 683, 684, 95, 774].filterMap (fun i => ax_big[i]?) := by decide +kernel
theorem k4_X1_smallRow : (ax_needs ax_T ax_n9 ax_j9 ax_m9 aD_X1_smallRow).all goodWord = true := by decide +kernel
theorem ok_X1_smallRow : ax_okM ax_Ss ax_T ax_n9 ax_j9 ax_m9 aD_X1_smallRow := ax_okM_of (fun q h => of_decide_eq_true (List.all_eq_true.mp k1_X1_smallRow q h)) k2_X1_smallRow (ax_W_of _ k3_X1_smallRow k4_X1_smallRow) (by decide +kernel) (fun pc q h => by cases h)
theorem k1_X1_textLength : (at_X1_textLength).all (fun q => decide (decode cX1_textLength q.1 = .ok (q.2.1, q.2.2.1))) = true := by decide +kernel
theorem k2_X1_textLength : ax_chks ax_T aD_X1_textLength = true := by decide +kernel
theorem k3_X1_textLength : ax_needs ax_T ax_n9 ax_j9 ax_m9 aD_X1_textLength = [367, 379, 370, 853, 854, 855, 88, 370, 762, 683, 684, 95, 367, 852].filterMap (fun i => ax_big[i]?) := by decide +kernel
theorem k4_X1_textLength : (ax_needs ax_T ax_n9 ax_j9 ax_m9 aD_X1_textLength).all goodWord = true := by decide +kernel
theorem ok_X1_textLength : ax_okM ax_Ss ax_T ax_n9 ax_j9 ax_m9 aD_X1_textLength := ax_okM_of (fun q h => of_decide_eq_true (List.all_eq_true.mp k1_X1_textLength q h)) k2_X1_textLength (ax_W_of _ k3_X1_textLength k4_X1_textLength) (by decide +kernel) (fun pc q h => by cases h)
theorem k1_X1_skip : (at_X1_skip).all (fun q => decide (decode cX1_skip q.1 = .ok (q.2.1, q.2.2.1))) = true := by decide +kernel
theorem k2_X1_skip : ax_chks ax_T aD_X1_skip = true := by decide +kernel
theorem k3_X1_skip : ax_needs ax_T ax_n9 ax_j9 ax_m9 aD_X1_skip = [370, 367, 370, 762, 683, 684, 95, 367, 367, 860].filterMap (fun i => ax_big[i]?) := by decide +kernel
theorem k4_X1_skip : (ax_needs ax_T ax_n9 ax_j9 ax_m9 aD_X1_skip).all goodWord = true := by decide +kernel
theorem ok_X1_skip : ax_okM ax_Ss ax_T ax_n9 ax_j9 ax_m9 aD_X1_skip := ax_okM_of (fun q h => of_decide_eq_true (List.all_eq_true.mp k1_X1_skip q h)) k2_X1_skip (ax_W_of _ k3_X1_skip k4_X1_skip) (by decide +kernel) (fun pc q h => by cases h)
theorem k1_X2_isText : (at_X2_isText).all (fun q => decide (decode cX2_isText q.1 = .ok (q.2.1, q.2.2.1))) = true := by decide +kernel
theorem k2_X2_isText : ax_chks ax_T aD_X2_isText = true := by decide +kernel
theorem k3_X2_isText : ax_needs ax_T ax_n9 ax_j9 ax_m9 aD_X2_isText = [816].filterMap (fun i => ax_big[i]?) := by decide +kernel
theorem k4_X2_isText : (ax_needs ax_T ax_n9 ax_j9 ax_m9 aD_X2_isText).all goodWord = true := by decide +kernel
theorem ok_X2_isText : ax_okM ax_Ss ax_T ax_n9 ax_j9 ax_m9 aD_X2_isText := ax_okM_of (fun q h => of_decide_eq_true (List.all_eq_true.mp k1_X2_isText q h)) k2_X2_isText (ax_W_of _ k3_X2_isText k4_X2_isText) (by decide +kernel) (fun pc q h => by cases h)
theorem k1_X2_isLetters : (at_X2_isLetters).all (fun q => decide (decode cX2_isLetters q.1 = .ok (q.2.1, q.2.2.1))) = true := by decide +kernel
theorem k2_X2_isLetters : ax_chks ax_T aD_X2_isLetters = true := by decide +kernel
theorem k3_X2_isLetters : ax_needs ax_T ax_n9 ax_j9 ax_m9 aD_X2_isLetters = [815, 105, 814, 813].filterMap (fun i => ax_big[i]?) := by decide +kernel
theorem k4_X2_isLetters : (ax_needs ax_T ax_n9 ax_j9 ax_m9 aD_X2_isLetters).all goodWord = true := by decide +kernel
theorem ok_X2_isLetters : ax_okM ax_Ss ax_T ax_n9 ax_j9 ax_m9 aD_X2_isLetters := ax_okM_of (fun q h => of_decide_eq_true (List.all_eq_true.mp k1_X2_isLetters q h)) k2_X2_isLetters (ax_W_of _ k3_X2_isLetters k4_X2_isLetters) (by decide +kernel) (fun pc q h => by cases h)
theorem k1_X2_isReference : (at_X2_isReference).all (fun q => decide (decode cX2_isReference q.1 = .ok (q.2.1, q.2.2.1))) = true := by decide +kernel
theorem k2_X2_isReference : ax_chks ax_T aD_X2_isReference = true := by decide +kernel
theorem k3_X2_isReference : ax_needs ax_T ax_n9 ax_j9 ax_m9 aD_X2_isReference = [819].filterMap (fun i => ax_big[i]?) := by decide +kernel
theorem k4_X2_isReference : (ax_needs ax_T ax_n9 ax_j9 ax_m9 aD_X2_isReference).all goodWord = true := by decide +kernel
theorem ok_X2_isReference : ax_okM ax_Ss ax_T ax_n9 ax_j9 ax_m9 aD_X2_isReference := ax_okM_of (fun q h => of_decide_eq_true (List.all_eq_true.mp k1_X2_isReference q h)) k2_X2_isReference (ax_W_of _ k3_X2_isReference k4_X2_isReference) (by decide +kernel) (fun pc q h => by cases h)
theorem k1_X2_isNumber : (at_X2_isNumber).all (fun q => decide (decode cX2_isNumber q.1 = .ok (q.2.1, q.2.2.1))) = true := by decide +kernel
theorem k2_X2_isNumber : ax_chks ax_T aD_X2_isNumber = true := by decide +kernel
theorem k3_X2_isNumber : ax_needs ax_T ax_n9 ax_j9 ax_m9 aD_X2_isNumber = [810].filterMap (fun i => ax_big[i]?) := by decide +kernel
theorem k4_X2_isNumber : (ax_needs ax_T ax_n9 ax_j9 ax_m9 aD_X2_isNumber).all goodWord = true := by decide +kernel
theorem ok_X2_isNumber : ax_okM ax_Ss ax_T ax_n9 ax_j9 ax_m9 aD_X2_isNumber := ax_okM_of (fun q h => of_decide_eq_true (List.all_eq_true.mp k1_X2_isNumber q h)) k2_X2_isNumber (ax_W_of _ k3_X2_isNumber k4_X2_isNumber) (by decide +kernel) (fun pc q h => by cases h)
theorem k1_X2_isForm : (at_X2_isForm).all (fun q => decide (decode cX2_isForm q.1 = .ok (q.2.1, q.2.2.1))) = true := by decide +kernel
theorem k2_X2_isForm : ax_chks ax_T aD_X2_isForm = true := by decide +kernel
theorem k3_X2_isForm : ax_needs ax_T ax_n9 ax_j9 ax_m9 aD_X2_isForm = [809, 105, 808, 812, 105, 811, 818, 105, 817, 807].filterMap (fun i => ax_big[i]?) := by decide +kernel
theorem k4_X2_isForm : (ax_needs ax_T ax_n9 ax_j9 ax_m9 aD_X2_isForm).all goodWord = true := by decide +kernel
theorem ok_X2_isForm : ax_okM ax_Ss ax_T ax_n9 ax_j9 ax_m9 aD_X2_isForm := ax_okM_of (fun q h => of_decide_eq_true (List.all_eq_true.mp k1_X2_isForm q h)) k2_X2_isForm (ax_W_of _ k3_X2_isForm k4_X2_isForm) (by decide +kernel) (fun pc q h => by cases h)
theorem k1_X2_holds : (at_X2_holds).all (fun q => decide (decode cX2_holds q.1 = .ok (q.2.1, q.2.2.1))) = true := by decide +kernel
theorem k2_X2_holds : ax_chks ax_T aD_X2_holds = true := by decide +kernel
theorem k3_X2_holds : ax_needs ax_T ax_n9 ax_j9 ax_m9 aD_X2_holds = [1028, 1029, 1030, 1027].filterMap (fun i => ax_big[i]?) := by decide +kernel
theorem k4_X2_holds : (ax_needs ax_T ax_n9 ax_j9 ax_m9 aD_X2_holds).all goodWord = true := by decide +kernel
theorem ok_X2_holds : ax_okM ax_Ss ax_T ax_n9 ax_j9 ax_m9 aD_X2_holds := ax_okM_of (fun q h => of_decide_eq_true (List.all_eq_true.mp k1_X2_holds q h)) k2_X2_holds (ax_W_of _ k3_X2_holds k4_X2_holds) (by decide +kernel) (fun pc q h => by cases h)
theorem k1_X2_width : (at_X2_width).all (fun q => decide (decode cX2_width q.1 = .ok (q.2.1, q.2.2.1))) = true := by decide +kernel
theorem k2_X2_width : ax_chks ax_T aD_X2_width = true := by decide +kernel
theorem k3_X2_width : ax_needs ax_T ax_n9 ax_j9 ax_m9 aD_X2_width = [598].filterMap (fun i => ax_big[i]?) := by decide +kernel
theorem k4_X2_width : (ax_needs ax_T ax_n9 ax_j9 ax_m9 aD_X2_width).all goodWord = true := by decide +kernel
theorem ok_X2_width : ax_okM ax_Ss ax_T ax_n9 ax_j9 ax_m9 aD_X2_width := ax_okM_of (fun q h => of_decide_eq_true (List.all_eq_true.mp k1_X2_width q h)) k2_X2_width (ax_W_of _ k3_X2_width k4_X2_width) (by decide +kernel) (fun pc q h => by cases h)
end
