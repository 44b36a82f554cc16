section
theorem k1_X7_init : (at_X7_init).all (fun q => decide (decode cX7_init q.1 = .ok (q.2.1, q.2.2.1))) = true := by decide +kernel
theorem k2_X7_init : ax_chks ax_T aD_X7_init = true := by decide +kernel
theorem k3_X7_init : ax_needs ax_T ax_n9 ax_j9 ax_m9 aD_X7_init = [400, 114, 115, 177, 403, 433, 405, 177, 407, 177, 409, 177, 411, 177, 414, 401, 164, 92, 402, 166, 92, 415, 399].filterMap (fun i => ax_big[i]?) := by decide +kernel
theorem k4_X7_init : (ax_needs ax_T ax_n9 ax_j9 ax_m9 aD_X7_init).all goodWord = true := by decide +kernel
theorem ok_X7_init : ax_okM ax_Ss ax_T ax_n9 ax_j9 ax_m9 aD_X7_init := ax_okM_of (fun q h => of_decide_eq_true (List.all_eq_true.mp k1_X7_init q h)) k2_X7_init (ax_W_of _ k3_X7_init k4_X7_init) (by decide +kernel) (fun pc q h => by cases h)
theorem k1_X7_indexOf : (at_X7_indexOf).all (fun q => decide (decode cX7_indexOf q.1 = .ok (q.2.1, q.2.2.1))) = true := by decide +kernel
theorem k2_X7_indexOf : ax_chks ax_T aD_X7_indexOf = true := by decide +kernel
theorem k3_X7_indexOf : ax_needs ax_T ax_n9 ax_j9 ax_m9 aD_X7_indexOf = [415, 785, 533, 534, 92, 413, 414, 415, 786, 543, 544, 92, 784].filterMap (fun i => ax_big[i]?) := by decide +kernel
theorem k4_X7_indexOf : (ax_needs ax_T ax_n9 ax_j9 ax_m9 aD_X7_indexOf).all goodWord = true := by decide +kernel
theorem ok_X7_indexOf : ax_okM ax_Ss ax_T ax_n9 ax_j9 ax_m9 aD_X7_indexOf := ax_okM_of (fun q h => of_decide_eq_true (List.all_eq_true.mp k1_X7_indexOf q h)) k2_X7_indexOf (ax_W_of _ k3_X7_indexOf k4_X7_indexOf) (by decide +kernel) (fun pc q h => by cases h)
theorem k1_X7_readFrom : (at_X7_readFrom).all (fun q => decide (decode cX7_readFrom q.1 = .ok (q.2.1, q.2.2.1))) = true := by decide +kernel
theorem k2_X7_readFrom : ax_chks ax_T aD_X7_readFrom = true := by decide +kernel
theorem k3_X7_readFrom : ax_needs ax_T ax_n9 ax_j9 ax_m9 aD_X7_readFrom = [413, 415, 770, 516, 517, 92, 369, 771, 772, 773, 95, 781, 782, 783, 96, 787, 683, 684, 95, 788, 790, 14, 96, 414, 415, 820, 547, 548, 92, 413, 413, 769].filterMap (fun i => ax_big[i]?) := by decide +kernel
theorem k4_X7_readFrom : (ax_needs ax_T ax_n9 ax_j9 ax_m9 aD_X7_readFrom).all goodWord = true := by decide +kernel
theorem ok_X7_readFrom : ax_okM ax_Ss ax_T ax_n9 ax_j9 ax_m9 aD_X7_readFrom := ax_okM_of (fun q h => of_decide_eq_true (List.all_eq_true.mp k1_X7_readFrom q h)) k2_X7_readFrom (ax_W_of _ k3_X7_readFrom k4_X7_readFrom) (by decide +kernel) (fun pc q h => by cases h)
theorem k1_X7_readShape : (at_X7_readShape).all (fun q => decide (decode cX7_readShape q.1 = .ok (q.2.1, q.2.2.1))) = true := by decide +kernel
theorem k2_X7_readShape : ax_chks ax_T aD_X7_readShape = true := by decide +kernel
theorem k3_X7_readShape : ax_needs ax_T ax_n9 ax_j9 ax_m9 aD_X7_readShape = [369, 403, 771, 772, 773, 95, 403, 793, 87, 787, 683, 684, 95, 369, 795, 759, 760, 95, 787, 683, 684, 95, 405, 407, 796, 798, 15, 96, 791].filterMap (fun i => ax_big[i]?) := by decide +kernel
theorem k4_X7_readShape : (ax_needs ax_T ax_n9 ax_j9 ax_m9 aD_X7_readShape).all goodWord = true := by decide +kernel
theorem ok_X7_readShape : ax_okM ax_Ss ax_T ax_n9 ax_j9 ax_m9 aD_X7_readShape := ax_okM_of (fun q h => of_decide_eq_true (List.all_eq_true.mp k1_X7_readShape q h)) k2_X7_readShape (ax_W_of _ k3_X7_readShape k4_X7_readShape) (by decide +kernel) (fun pc q h => by cases h)
theorem k1_X7_readAttribute : (at_X7_readAttribute).all (fun q => decide (decode cX7_readAttribute q.1 = .ok (q.2.1, q.2.2.1))) = true := by decide +kernel
theorem k2_X7_readAttribute : ax_chks ax_T aD_X7_readAttribute = true := by decide +kernel
theorem k3_X7_readAttribute : ax_needs ax_T ax_n9 ax_j9 ax_m9 aD_X7_readAttribute = [369, 771, 772, 773, 95, 800, 802, 16, 96, 787, 683, 684, 95, 369, 771, 772, 773, 95, 787, 683, 684, 95, 806, 105, 805, 787, 683, 684, 95, 407, 526, 94, 804, 409, 411, 407, 799].filterMap (fun i => ax_big[i]?) := by decide +kernel
theorem k4_X7_readAttribute : (ax_needs ax_T ax_n9 ax_j9 ax_m9 aD_X7_readAttribute).all goodWord = true := by decide +kernel
theorem ok_X7_readAttribute : ax_okM ax_Ss ax_T ax_n9 ax_j9 ax_m9 aD_X7_readAttribute := ax_okM_of (fun q h => of_decide_eq_true (List.all_eq_true.mp k1_X7_readAttribute q h)) k2_X7_readAttribute (ax_W_of _ k3_X7_readAttribute k4_X7_readAttribute) (by decide +kernel) (fun pc q h => by cases h)
theorem k1_X7_mayFollow : (at_X7_mayFollow).all (fun q => decide (decode cX7_mayFollow q.1 = .ok (q.2.1, q.2.2.1))) = true := by decide +kernel
theorem k2_X7_mayFollow : ax_chks ax_T aD_X7_mayFollow = true := by decide +kernel
theorem k3_X7_mayFollow : ax_needs ax_T ax_n9 ax_j9 ax_m9 aD_X7_mayFollow = [793, 87, 407, 407, 409, 526, 94, 804, 803].filterMap (fun i => ax_big[i]?) := by decide +kernel
theorem k4_X7_mayFollow : (ax_needs ax_T ax_n9 ax_j9 ax_m9 aD_X7_mayFollow).all goodWord = true := by decide +kernel
theorem ok_X7_mayFollow : ax_okM ax_Ss ax_T ax_n9 ax_j9 ax_m9 aD_X7_mayFollow := ax_okM_of (fun q h => of_decide_eq_true (List.all_eq_true.mp k1_X7_mayFollow q h)) k2_X7_mayFollow (ax_W_of _ k3_X7_mayFollow k4_X7_mayFollow) (by decide +kernel) (fun pc q h => by cases h)
theorem k1_X8_init : (at_X8_init).all (fun q => decide (decode cX8_init q.1 = .ok (q.2.1, q.2.2.1))) = true := by decide +kernel
theorem k2_X8_init : ax_chks ax_T aD_X8_init = true := by decide +kernel
theorem k3_X8_init : ax_needs ax_T ax_n9 ax_j9 ax_m9 aD_X8_init = [264, 114, 115, 177, 273, 177, 277, 177, 281, 177, 285, 177, 287, 177, 291, 177, 295, 177, 298, 177, 299, 177, 302, 177, 307, 177, 311, 358, 316, 177, 321, 263].filterMap (fun i => ax_big[i]?) := by decide +kernel
theorem k4_X8_init : (ax_needs ax_T ax_n9 ax_j9 ax_m9 aD_X8_init).all goodWord = true := by decide +kernel
theorem ok_X8_init : ax_okM ax_Ss ax_T ax_n9 ax_j9 ax_m9 aD_X8_init := ax_okM_of (fun q h => of_decide_eq_true (List.all_eq_true.mp k1_X8_init q h)) k2_X8_init (ax_W_of _ k3_X8_init k4_X8_init) (by decide +kernel) (fun pc q h => by cases h)
theorem k1_X8_slotAt : (at_X8_slotAt).all (fun q => decide (decode cX8_slotAt q.1 = .ok (q.2.1, q.2.2.1))) = true := by decide +kernel
theorem k2_X8_slotAt : ax_chks ax_T aD_X8_slotAt = true := by decide +kernel
theorem k3_X8_slotAt : ax_needs ax_T ax_n9 ax_j9 ax_m9 aD_X8_slotAt = [527].filterMap (fun i => ax_big[i]?) := by decide +kernel
theorem k4_X8_slotAt : (ax_needs ax_T ax_n9 ax_j9 ax_m9 aD_X8_slotAt).all goodWord = true := by decide +kernel
theorem ok_X8_slotAt : ax_okM ax_Ss ax_T ax_n9 ax_j9 ax_m9 aD_X8_slotAt := ax_okM_of (fun q h => of_decide_eq_true (List.all_eq_true.mp k1_X8_slotAt q h)) k2_X8_slotAt (ax_W_of _ k3_X8_slotAt k4_X8_slotAt) (by decide +kernel) (fun pc q h => by cases h)
theorem k1_X8_forget : (at_X8_forget).all (fun q => decide (decode cX8_forget q.1 = .ok (q.2.1, q.2.2.1))) = true := by decide +kernel
theorem k2_X8_forget : ax_chks ax_T aD_X8_forget = true := by decide +kernel
theorem k3_X8_forget : ax_needs ax_T ax_n9 ax_j9 ax_m9 aD_X8_forget = [266, 269, 486].filterMap (fun i => ax_big[i]?) := by decide +kernel
theorem k4_X8_forget : (ax_needs ax_T ax_n9 ax_j9 ax_m9 aD_X8_forget).all goodWord = true := by decide +kernel
theorem ok_X8_forget : ax_okM ax_Ss ax_T ax_n9 ax_j9 ax_m9 aD_X8_forget := ax_okM_of (fun q h => of_decide_eq_true (List.all_eq_true.mp k1_X8_forget q h)) k2_X8_forget (ax_W_of _ k3_X8_forget k4_X8_forget) (by decide +kernel) (fun pc q h => by cases h)
theorem k1_X8_addRoot : (at_X8_addRoot).all (fun q => decide (decode cX8_addRoot q.1 = .ok (q.2.1, q.2.2.1))) = true := by decide +kernel
theorem k2_X8_addRoot : ax_chks ax_T aD_X8_addRoot = true := by decide +kernel
theorem k3_X8_addRoot : ax_needs ax_T ax_n9 ax_j9 ax_m9 aD_X8_addRoot = [835, 837, 19, 94, 281, 285, 266, 287, 273, 266, 266, 266, 834].filterMap (fun i => ax_big[i]?) := by decide +kernel
theorem k4_X8_addRoot : (ax_needs ax_T ax_n9 ax_j9 ax_m9 aD_X8_addRoot).all goodWord = true := by decide +kernel
theorem ok_X8_addRoot : ax_okM ax_Ss ax_T ax_n9 ax_j9 ax_m9 aD_X8_addRoot := ax_okM_of (fun q h => of_decide_eq_true (List.all_eq_true.mp k1_X8_addRoot q h)) k2_X8_addRoot (ax_W_of _ k3_X8_addRoot k4_X8_addRoot) (by decide +kernel) (fun pc q h => by cases h)
theorem k1_X8_addChild : (at_X8_addChild).all (fun q => decide (decode cX8_addChild q.1 = .ok (q.2.1, q.2.2.1))) = true := by decide +kernel
theorem k2_X8_addChild : ax_chks ax_T aD_X8_addChild = true := by decide +kernel
theorem k3_X8_addChild : ax_needs ax_T ax_n9 ax_j9 ax_m9 aD_X8_addChild = [835, 837, 19, 94, 281, 285, 285, 287, 287, 291, 295, 299, 298, 298, 291, 842].filterMap (fun i => ax_big[i]?) := by decide +kernel
theorem k4_X8_addChild : (ax_needs ax_T ax_n9 ax_j9 ax_m9 aD_X8_addChild).all goodWord = true := by decide +kernel
theorem ok_X8_addChild : ax_okM ax_Ss ax_T ax_n9 ax_j9 ax_m9 aD_X8_addChild := ax_okM_of (fun q h => of_decide_eq_true (List.all_eq_true.mp k1_X8_addChild q h)) k2_X8_addChild (ax_W_of _ k3_X8_addChild k4_X8_addChild) (by decide +kernel) (fun pc q h => by cases h)
theorem k1_X8_addEntry : (at_X8_addEntry).all (fun q => decide (decode cX8_addEntry q.1 = .ok (q.2.1, q.2.2.1))) = true := by decide +kernel
theorem k2_X8_addEntry : ax_chks ax_T aD_X8_addEntry = true := by decide +kernel
theorem k3_X8_addEntry : ax_needs ax_T ax_n9 ax_j9 ax_m9 aD_X8_addEntry = [269, 269, 269, 277, 291, 295, 298, 299, 302, 838].filterMap (fun i => ax_big[i]?) := by decide +kernel
theorem k4_X8_addEntry : (ax_needs ax_T ax_n9 ax_j9 ax_m9 aD_X8_addEntry).all goodWord = true := by decide +kernel
theorem ok_X8_addEntry : ax_okM ax_Ss ax_T ax_n9 ax_j9 ax_m9 aD_X8_addEntry := ax_okM_of (fun q h => of_decide_eq_true (List.all_eq_true.mp k1_X8_addEntry q h)) k2_X8_addEntry (ax_W_of _ k3_X8_addEntry k4_X8_addEntry) (by decide +kernel) (fun pc q h => by cases h)
theorem k1_X8_addAttribute : (at_X8_addAttribute).all (fun q => decide (decode cX8_addAttribute q.1 = .ok (q.2.1, q.2.2.1))) = true := by decide +kernel
theorem k2_X8_addAttribute : ax_chks ax_T aD_X8_addAttribute = true := by decide +kernel
theorem k3_X8_addAttribute : ax_needs ax_T ax_n9 ax_j9 ax_m9 aD_X8_addAttribute = [302, 526, 94, 869, 307, 311, 316, 321, 302, 302, 868].filterMap (fun i => ax_big[i]?) := by decide +kernel
theorem k4_X8_addAttribute : (ax_needs ax_T ax_n9 ax_j9 ax_m9 aD_X8_addAttribute).all goodWord = true := by decide +kernel
theorem ok_X8_addAttribute : ax_okM ax_Ss ax_T ax_n9 ax_j9 ax_m9 aD_X8_addAttribute := ax_okM_of (fun q h => of_decide_eq_true (List.all_eq_true.mp k1_X8_addAttribute q h)) k2_X8_addAttribute (ax_W_of _ k3_X8_addAttribute k4_X8_addAttribute) (by decide +kernel) (fun pc q h => by cases h)
theorem k1_X8_slotOf : (at_X8_slotOf).all (fun q => decide (decode cX8_slotOf q.1 = .ok (q.2.1, q.2.2.1))) = true := by decide +kernel
theorem k2_X8_slotOf : ax_chks ax_T aD_X8_slotOf = true := by decide +kernel
theorem k3_X8_slotOf : ax_needs ax_T ax_n9 ax_j9 ax_m9 aD_X8_slotOf = [302, 526, 94, 869, 307, 904].filterMap (fun i => ax_big[i]?) := by decide +kernel
theorem k4_X8_slotOf : (ax_needs ax_T ax_n9 ax_j9 ax_m9 aD_X8_slotOf).all goodWord = true := by decide +kernel
theorem ok_X8_slotOf : ax_okM ax_Ss ax_T ax_n9 ax_j9 ax_m9 aD_X8_slotOf := ax_okM_of (fun q h => of_decide_eq_true (List.all_eq_true.mp k1_X8_slotOf q h)) k2_X8_slotOf (ax_W_of _ k3_X8_slotOf k4_X8_slotOf) (by decide +kernel) (fun pc q h => by cases h)
theorem k1_X8_start : (at_X8_start).all (fun q => decide (decode cX8_start q.1 = .ok (q.2.1, q.2.2.1))) = true := by decide +kernel
theorem k2_X8_start : ax_chks ax_T aD_X8_start = true := by decide +kernel
theorem k3_X8_start : ax_needs ax_T ax_n9 ax_j9 ax_m9 aD_X8_start = [316, 567].filterMap (fun i => ax_big[i]?) := by decide +kernel
theorem k4_X8_start : (ax_needs ax_T ax_n9 ax_j9 ax_m9 aD_X8_start).all goodWord = true := by decide +kernel
theorem ok_X8_start : ax_okM ax_Ss ax_T ax_n9 ax_j9 ax_m9 aD_X8_start := ax_okM_of (fun q h => of_decide_eq_true (List.all_eq_true.mp k1_X8_start q h)) k2_X8_start (ax_W_of _ k3_X8_start k4_X8_start) (by decide +kernel) (fun pc q h => by cases h)
theorem k1_X8_childAt : (at_X8_childAt).all (fun q => decide (decode cX8_childAt q.1 = .ok (q.2.1, q.2.2.1))) = true := by decide +kernel
theorem k2_X8_childAt : ax_chks ax_T aD_X8_childAt = true := by decide +kernel
theorem k3_X8_childAt : ax_needs ax_T ax_n9 ax_j9 ax_m9 aD_X8_childAt = [295, 299, 1145].filterMap (fun i => ax_big[i]?) := by decide +kernel
theorem k4_X8_childAt : (ax_needs ax_T ax_n9 ax_j9 ax_m9 aD_X8_childAt).all goodWord = true := by decide +kernel
theorem ok_X8_childAt : ax_okM ax_Ss ax_T ax_n9 ax_j9 ax_m9 aD_X8_childAt := ax_okM_of (fun q h => of_decide_eq_true (List.all_eq_true.mp k1_X8_childAt q h)) k2_X8_childAt (ax_W_of _ k3_X8_childAt k4_X8_childAt) (by decide +kernel) (fun pc q h => by cases h)
end
