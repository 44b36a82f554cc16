section
theorem k1_X7_init : (at_X7_init).all (fun q => decide (decode cX7_init q.1 = .ok (q.2.1, q.2.2.1))) = true := by decide +kernel
theorem k2_X7_init : ax_chks ax_T aD_X7_init = true := by decide +kernel
theorem k3_X7_init : ax_needs ax_T ax_n9 ax_j9 ax_m9 aD_X7_init = [401, 115, 116, 178, 404, 434, 406, 178, 408, 178, 410, 178, 412, 178, 415, 402, 165, 93, 403, 167, 93, 416, 400].filterMap (fun i => ax_big[i]?) := by decide +kernel
theorem k4_X7_init : (ax_needs ax_T ax_n9 ax_j9 ax_m9 aD_X7_init).all goodWord = true := by decide +kernel
theorem ok_X7_init : ax_okM ax_Ss ax_T ax_n9 ax_j9 ax_m9 aD_X7_init := ax_okM_of (fun q h => of_decide_eq_true (List.all_eq_true.mp k1_X7_init q h)) k2_X7_init (ax_W_of _ k3_X7_init k4_X7_init) (by decide +kernel) (fun pc q h => by cases h)
theorem k1_X7_indexOf : (at_X7_indexOf).all (fun q => decide (decode cX7_indexOf q.1 = .ok (q.2.1, q.2.2.1))) = true := by decide +kernel
theorem k2_X7_indexOf : ax_chks ax_T aD_X7_indexOf = true := by decide +kernel
theorem k3_X7_indexOf : ax_needs ax_T ax_n9 ax_j9 ax_m9 aD_X7_indexOf = [416, 790, 534, 535, 93, 414, 415, 416, 791, 544, 545, 93, 789].filterMap (fun i => ax_big[i]?) := by decide +kernel
theorem k4_X7_indexOf : (ax_needs ax_T ax_n9 ax_j9 ax_m9 aD_X7_indexOf).all goodWord = true := by decide +kernel
theorem ok_X7_indexOf : ax_okM ax_Ss ax_T ax_n9 ax_j9 ax_m9 aD_X7_indexOf := ax_okM_of (fun q h => of_decide_eq_true (List.all_eq_true.mp k1_X7_indexOf q h)) k2_X7_indexOf (ax_W_of _ k3_X7_indexOf k4_X7_indexOf) (by decide +kernel) (fun pc q h => by cases h)
theorem k1_X7_readFrom : (at_X7_readFrom).all (fun q => decide (decode cX7_readFrom q.1 = .ok (q.2.1, q.2.2.1))) = true := by decide +kernel
theorem k2_X7_readFrom : ax_chks ax_T aD_X7_readFrom = true := by decide +kernel
theorem k3_X7_readFrom : ax_needs ax_T ax_n9 ax_j9 ax_m9 aD_X7_readFrom = [414, 416, 775, 517, 518, 93, 370, 776, 777, 778, 96, 786, 787, 788, 97, 792, 684, 685, 96, 793, 795, 15, 97, 415, 416, 825, 548, 549, 93, 414, 414, 774].filterMap (fun i => ax_big[i]?) := by decide +kernel
theorem k4_X7_readFrom : (ax_needs ax_T ax_n9 ax_j9 ax_m9 aD_X7_readFrom).all goodWord = true := by decide +kernel
theorem ok_X7_readFrom : ax_okM ax_Ss ax_T ax_n9 ax_j9 ax_m9 aD_X7_readFrom := ax_okM_of (fun q h => of_decide_eq_true (List.all_eq_true.mp k1_X7_readFrom q h)) k2_X7_readFrom (ax_W_of _ k3_X7_readFrom k4_X7_readFrom) (by decide +kernel) (fun pc q h => by cases h)
theorem k1_X7_readShape : (at_X7_readShape).all (fun q => decide (decode cX7_readShape q.1 = .ok (q.2.1, q.2.2.1))) = true := by decide +kernel
theorem k2_X7_readShape : ax_chks ax_T aD_X7_readShape = true := by decide +kernel
theorem k3_X7_readShape : ax_needs ax_T ax_n9 ax_j9 ax_m9 aD_X7_readShape = [370, 404, 776, 777, 778, 96, 404, 798, 88, 792, 684, 685, 96, 370, 800, 760, 761, 96, 792, 684, 685, 96, 406, 408, 801, 803, 16, 97, 796].filterMap (fun i => ax_big[i]?) := by decide +kernel
theorem k4_X7_readShape : (ax_needs ax_T ax_n9 ax_j9 ax_m9 aD_X7_readShape).all goodWord = true := by decide +kernel
theorem ok_X7_readShape : ax_okM ax_Ss ax_T ax_n9 ax_j9 ax_m9 aD_X7_readShape := ax_okM_of (fun q h => of_decide_eq_true (List.all_eq_true.mp k1_X7_readShape q h)) k2_X7_readShape (ax_W_of _ k3_X7_readShape k4_X7_readShape) (by decide +kernel) (fun pc q h => by cases h)
theorem k1_X7_readAttribute : (at_X7_readAttribute).all (fun q => decide (decode cX7_readAttribute q.1 = .ok (q.2.1, q.2.2.1))) = true := by decide +kernel
theorem k2_X7_readAttribute : ax_chks ax_T aD_X7_readAttribute = true := by decide +kernel
theorem k3_X7_readAttribute : ax_needs ax_T ax_n9 ax_j9 ax_m9 aD_X7_readAttribute = [370, 776, 777, 778, 96, 805, 807, 17, 97, 792, 684, 685, 96, 370, 776, 777, 778, 96, 792, 684, 685, 96, 811, 106, 810, 792, 684, 685, 96, 408, 527, 95, 809, 410, 412, 408, 804].filterMap (fun i => ax_big[i]?) := by decide +kernel
theorem k4_X7_readAttribute : (ax_needs ax_T ax_n9 ax_j9 ax_m9 aD_X7_readAttribute).all goodWord = true := by decide +kernel
theorem ok_X7_readAttribute : ax_okM ax_Ss ax_T ax_n9 ax_j9 ax_m9 aD_X7_readAttribute := ax_okM_of (fun q h => of_decide_eq_true (List.all_eq_true.mp k1_X7_readAttribute q h)) k2_X7_readAttribute (ax_W_of _ k3_X7_readAttribute k4_X7_readAttribute) (by decide +kernel) (fun pc q h => by cases h)
theorem k1_X7_mayFollow : (at_X7_mayFollow).all (fun q => decide (decode cX7_mayFollow q.1 = .ok (q.2.1, q.2.2.1))) = true := by decide +kernel
theorem k2_X7_mayFollow : ax_chks ax_T aD_X7_mayFollow = true := by decide +kernel
theorem k3_X7_mayFollow : ax_needs ax_T ax_n9 ax_j9 ax_m9 aD_X7_mayFollow = [798, 88, 408, 408, 410, 527, 95, 809, 808].filterMap (fun i => ax_big[i]?) := by decide +kernel
theorem k4_X7_mayFollow : (ax_needs ax_T ax_n9 ax_j9 ax_m9 aD_X7_mayFollow).all goodWord = true := by decide +kernel
theorem ok_X7_mayFollow : ax_okM ax_Ss ax_T ax_n9 ax_j9 ax_m9 aD_X7_mayFollow := ax_okM_of (fun q h => of_decide_eq_true (List.all_eq_true.mp k1_X7_mayFollow q h)) k2_X7_mayFollow (ax_W_of _ k3_X7_mayFollow k4_X7_mayFollow) (by decide +kernel) (fun pc q h => by cases h)
theorem k1_X8_init : (at_X8_init).all (fun q => decide (decode cX8_init q.1 = .ok (q.2.1, q.2.2.1))) = true := by decide +kernel
theorem k2_X8_init : ax_chks ax_T aD_X8_init = true := by decide +kernel
theorem k3_X8_init : ax_needs ax_T ax_n9 ax_j9 ax_m9 aD_X8_init = [265, 115, 116, 178, 274, 178, 278, 178, 282, 178, 286, 178, 288, 178, 292, 178, 296, 178, 299, 178, 300, 178, 303, 178, 308, 178, 312, 359, 317, 178, 322, 264].filterMap (fun i => ax_big[i]?) := by decide +kernel
theorem k4_X8_init : (ax_needs ax_T ax_n9 ax_j9 ax_m9 aD_X8_init).all goodWord = true := by decide +kernel
theorem ok_X8_init : ax_okM ax_Ss ax_T ax_n9 ax_j9 ax_m9 aD_X8_init := ax_okM_of (fun q h => of_decide_eq_true (List.all_eq_true.mp k1_X8_init q h)) k2_X8_init (ax_W_of _ k3_X8_init k4_X8_init) (by decide +kernel) (fun pc q h => by cases h)
theorem k1_X8_slotAt : (at_X8_slotAt).all (fun q => decide (decode cX8_slotAt q.1 = .ok (q.2.1, q.2.2.1))) = true := by decide +kernel
theorem k2_X8_slotAt : ax_chks ax_T aD_X8_slotAt = true := by decide +kernel
theorem k3_X8_slotAt : ax_needs ax_T ax_n9 ax_j9 ax_m9 aD_X8_slotAt = [528].filterMap (fun i => ax_big[i]?) := by decide +kernel
theorem k4_X8_slotAt : (ax_needs ax_T ax_n9 ax_j9 ax_m9 aD_X8_slotAt).all goodWord = true := by decide +kernel
theorem ok_X8_slotAt : ax_okM ax_Ss ax_T ax_n9 ax_j9 ax_m9 aD_X8_slotAt := ax_okM_of (fun q h => of_decide_eq_true (List.all_eq_true.mp k1_X8_slotAt q h)) k2_X8_slotAt (ax_W_of _ k3_X8_slotAt k4_X8_slotAt) (by decide +kernel) (fun pc q h => by cases h)
theorem k1_X8_forget : (at_X8_forget).all (fun q => decide (decode cX8_forget q.1 = .ok (q.2.1, q.2.2.1))) = true := by decide +kernel
theorem k2_X8_forget : ax_chks ax_T aD_X8_forget = true := by decide +kernel
theorem k3_X8_forget : ax_needs ax_T ax_n9 ax_j9 ax_m9 aD_X8_forget = [267, 270, 487].filterMap (fun i => ax_big[i]?) := by decide +kernel
theorem k4_X8_forget : (ax_needs ax_T ax_n9 ax_j9 ax_m9 aD_X8_forget).all goodWord = true := by decide +kernel
theorem ok_X8_forget : ax_okM ax_Ss ax_T ax_n9 ax_j9 ax_m9 aD_X8_forget := ax_okM_of (fun q h => of_decide_eq_true (List.all_eq_true.mp k1_X8_forget q h)) k2_X8_forget (ax_W_of _ k3_X8_forget k4_X8_forget) (by decide +kernel) (fun pc q h => by cases h)
theorem k1_X8_addRoot : (at_X8_addRoot).all (fun q => decide (decode cX8_addRoot q.1 = .ok (q.2.1, q.2.2.1))) = true := by decide +kernel
theorem k2_X8_addRoot : ax_chks ax_T aD_X8_addRoot = true := by decide +kernel
theorem k3_X8_addRoot : ax_needs ax_T ax_n9 ax_j9 ax_m9 aD_X8_addRoot = [840, 842, 20, 95, 282, 286, 267, 288, 274, 267, 267, 267, 839].filterMap (fun i => ax_big[i]?) := by decide +kernel
theorem k4_X8_addRoot : (ax_needs ax_T ax_n9 ax_j9 ax_m9 aD_X8_addRoot).all goodWord = true := by decide +kernel
theorem ok_X8_addRoot : ax_okM ax_Ss ax_T ax_n9 ax_j9 ax_m9 aD_X8_addRoot := ax_okM_of (fun q h => of_decide_eq_true (List.all_eq_true.mp k1_X8_addRoot q h)) k2_X8_addRoot (ax_W_of _ k3_X8_addRoot k4_X8_addRoot) (by decide +kernel) (fun pc q h => by cases h)
theorem k1_X8_addChild : (at_X8_addChild).all (fun q => decide (decode cX8_addChild q.1 = .ok (q.2.1, q.2.2.1))) = true := by decide +kernel
theorem k2_X8_addChild : ax_chks ax_T aD_X8_addChild = true := by decide +kernel
theorem k3_X8_addChild : ax_needs ax_T ax_n9 ax_j9 ax_m9 aD_X8_addChild = [840, 842, 20, 95, 282, 286, 286, 288, 288, 292, 296, 300, 299, 299, 292, 847].filterMap (fun i => ax_big[i]?) := by decide +kernel
theorem k4_X8_addChild : (ax_needs ax_T ax_n9 ax_j9 ax_m9 aD_X8_addChild).all goodWord = true := by decide +kernel
theorem ok_X8_addChild : ax_okM ax_Ss ax_T ax_n9 ax_j9 ax_m9 aD_X8_addChild := ax_okM_of (fun q h => of_decide_eq_true (List.all_eq_true.mp k1_X8_addChild q h)) k2_X8_addChild (ax_W_of _ k3_X8_addChild k4_X8_addChild) (by decide +kernel) (fun pc q h => by cases h)
theorem k1_X8_addEntry : (at_X8_addEntry).all (fun q => decide (decode cX8_addEntry q.1 = .ok (q.2.1, q.2.2.1))) = true := by decide +kernel
theorem k2_X8_addEntry : ax_chks ax_T aD_X8_addEntry = true := by decide +kernel
theorem k3_X8_addEntry : ax_needs ax_T ax_n9 ax_j9 ax_m9 aD_X8_addEntry = [270, 270, 270, 278, 292, 296, 299, 300, 303, 843].filterMap (fun i => ax_big[i]?) := by decide +kernel
theorem k4_X8_addEntry : (ax_needs ax_T ax_n9 ax_j9 ax_m9 aD_X8_addEntry).all goodWord = true := by decide +kernel
theorem ok_X8_addEntry : ax_okM ax_Ss ax_T ax_n9 ax_j9 ax_m9 aD_X8_addEntry := ax_okM_of (fun q h => of_decide_eq_true (List.all_eq_true.mp k1_X8_addEntry q h)) k2_X8_addEntry (ax_W_of _ k3_X8_addEntry k4_X8_addEntry) (by decide +kernel) (fun pc q h => by cases h)
theorem k1_X8_addAttribute : (at_X8_addAttribute).all (fun q => decide (decode cX8_addAttribute q.1 = .ok (q.2.1, q.2.2.1))) = true := by decide +kernel
theorem k2_X8_addAttribute : ax_chks ax_T aD_X8_addAttribute = true := by decide +kernel
theorem k3_X8_addAttribute : ax_needs ax_T ax_n9 ax_j9 ax_m9 aD_X8_addAttribute = [303, 527, 95, 874, 308, 312, 317, 322, 303, 303, 873].filterMap (fun i => ax_big[i]?) := by decide +kernel
theorem k4_X8_addAttribute : (ax_needs ax_T ax_n9 ax_j9 ax_m9 aD_X8_addAttribute).all goodWord = true := by decide +kernel
theorem ok_X8_addAttribute : ax_okM ax_Ss ax_T ax_n9 ax_j9 ax_m9 aD_X8_addAttribute := ax_okM_of (fun q h => of_decide_eq_true (List.all_eq_true.mp k1_X8_addAttribute q h)) k2_X8_addAttribute (ax_W_of _ k3_X8_addAttribute k4_X8_addAttribute) (by decide +kernel) (fun pc q h => by cases h)
theorem k1_X8_slotOf : (at_X8_slotOf).all (fun q => decide (decode cX8_slotOf q.1 = .ok (q.2.1, q.2.2.1))) = true := by decide +kernel
theorem k2_X8_slotOf : ax_chks ax_T aD_X8_slotOf = true := by decide +kernel
theorem k3_X8_slotOf : ax_needs ax_T ax_n9 ax_j9 ax_m9 aD_X8_slotOf = [303, 527, 95, 874, 308, 909].filterMap (fun i => ax_big[i]?) := by decide +kernel
theorem k4_X8_slotOf : (ax_needs ax_T ax_n9 ax_j9 ax_m9 aD_X8_slotOf).all goodWord = true := by decide +kernel
theorem ok_X8_slotOf : ax_okM ax_Ss ax_T ax_n9 ax_j9 ax_m9 aD_X8_slotOf := ax_okM_of (fun q h => of_decide_eq_true (List.all_eq_true.mp k1_X8_slotOf q h)) k2_X8_slotOf (ax_W_of _ k3_X8_slotOf k4_X8_slotOf) (by decide +kernel) (fun pc q h => by cases h)
theorem k1_X8_start : (at_X8_start).all (fun q => decide (decode cX8_start q.1 = .ok (q.2.1, q.2.2.1))) = true := by decide +kernel
theorem k2_X8_start : ax_chks ax_T aD_X8_start = true := by decide +kernel
theorem k3_X8_start : ax_needs ax_T ax_n9 ax_j9 ax_m9 aD_X8_start = [317, 568].filterMap (fun i => ax_big[i]?) := by decide +kernel
theorem k4_X8_start : (ax_needs ax_T ax_n9 ax_j9 ax_m9 aD_X8_start).all goodWord = true := by decide +kernel
theorem ok_X8_start : ax_okM ax_Ss ax_T ax_n9 ax_j9 ax_m9 aD_X8_start := ax_okM_of (fun q h => of_decide_eq_true (List.all_eq_true.mp k1_X8_start q h)) k2_X8_start (ax_W_of _ k3_X8_start k4_X8_start) (by decide +kernel) (fun pc q h => by cases h)
theorem k1_X8_childAt : (at_X8_childAt).all (fun q => decide (decode cX8_childAt q.1 = .ok (q.2.1, q.2.2.1))) = true := by decide +kernel
theorem k2_X8_childAt : ax_chks ax_T aD_X8_childAt = true := by decide +kernel
theorem k3_X8_childAt : ax_needs ax_T ax_n9 ax_j9 ax_m9 aD_X8_childAt = [296, 300, 1150].filterMap (fun i => ax_big[i]?) := by decide +kernel
theorem k4_X8_childAt : (ax_needs ax_T ax_n9 ax_j9 ax_m9 aD_X8_childAt).all goodWord = true := by decide +kernel
theorem ok_X8_childAt : ax_okM ax_Ss ax_T ax_n9 ax_j9 ax_m9 aD_X8_childAt := ax_okM_of (fun q h => of_decide_eq_true (List.all_eq_true.mp k1_X8_childAt q h)) k2_X8_childAt (ax_W_of _ k3_X8_childAt k4_X8_childAt) (by decide +kernel) (fun pc q h => by cases h)
end
