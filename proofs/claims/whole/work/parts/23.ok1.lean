section
theorem k1_X3_init : (at_X3_init).all (fun q => decide (decode cX3_init q.1 = .ok (q.2.1, q.2.2.1))) = true := by decide +kernel
theorem k2_X3_init : ax_chks ax_T aD_X3_init = true := by decide +kernel
theorem k3_X3_init : ax_needs ax_T ax_n9 ax_j9 ax_m9 aD_X3_init = [163, 115, 116, 178, 193, 178, 195, 178, 197, 178, 199, 178, 201, 178, 202, 178, 205, 178, 207, 178, 209, 178, 211, 164, 165, 93, 166, 167, 93, 213, 164, 165, 93, 166, 167, 93, 214, 162].filterMap (fun i => ax_big[i]?) := by decide +kernel
theorem k4_X3_init : (ax_needs ax_T ax_n9 ax_j9 ax_m9 aD_X3_init).all goodWord = true := by decide +kernel
theorem ok_X3_init : ax_okM ax_Ss ax_T ax_n9 ax_j9 ax_m9 aD_X3_init := ax_okM_of (fun q h => of_decide_eq_true (List.all_eq_true.mp k1_X3_init q h)) k2_X3_init (ax_W_of _ k3_X3_init k4_X3_init) (by decide +kernel) (fun pc q h => by cases h)
theorem k1_X3_forget : (at_X3_forget).all (fun q => decide (decode cX3_forget q.1 = .ok (q.2.1, q.2.2.1))) = true := by decide +kernel
theorem k2_X3_forget : ax_chks ax_T aD_X3_forget = true := by decide +kernel
theorem k3_X3_forget : ax_needs ax_T ax_n9 ax_j9 ax_m9 aD_X3_forget = [192, 495].filterMap (fun i => ax_big[i]?) := by decide +kernel
theorem k4_X3_forget : (ax_needs ax_T ax_n9 ax_j9 ax_m9 aD_X3_forget).all goodWord = true := by decide +kernel
theorem ok_X3_forget : ax_okM ax_Ss ax_T ax_n9 ax_j9 ax_m9 aD_X3_forget := ax_okM_of (fun q h => of_decide_eq_true (List.all_eq_true.mp k1_X3_forget q h)) k2_X3_forget (ax_W_of _ k3_X3_forget k4_X3_forget) (by decide +kernel) (fun pc q h => by cases h)
theorem k1_X3_reckon : (at_X3_reckon).all (fun q => decide (decode cX3_reckon q.1 = .ok (q.2.1, q.2.2.1))) = true := by decide +kernel
theorem k2_X3_reckon : ax_chks ax_T aD_X3_reckon = true := by decide +kernel
theorem k3_X3_reckon : ax_needs ax_T ax_n9 ax_j9 ax_m9 aD_X3_reckon = [192, 504, 506, 1, 92, 512, 514, 3, 92, 557, 559, 5, 92, 585, 587, 8, 92, 192, 503].filterMap (fun i => ax_big[i]?) := by decide +kernel
theorem k4_X3_reckon : (ax_needs ax_T ax_n9 ax_j9 ax_m9 aD_X3_reckon).all goodWord = true := by decide +kernel
theorem ok_X3_reckon : ax_okM ax_Ss ax_T ax_n9 ax_j9 ax_m9 aD_X3_reckon := ax_okM_of (fun q h => of_decide_eq_true (List.all_eq_true.mp k1_X3_reckon q h)) k2_X3_reckon (ax_W_of _ k3_X3_reckon k4_X3_reckon) (by decide +kernel) (fun pc q h => by cases h)
theorem k1_X3_orderEntries : (at_X3_orderEntries).all (fun q => decide (decode cX3_orderEntries q.1 = .ok (q.2.1, q.2.2.1))) = true := by decide +kernel
theorem k2_X3_orderEntries : ax_chks ax_T aD_X3_orderEntries = true := by decide +kernel
theorem k3_X3_orderEntries : ax_needs ax_T ax_n9 ax_j9 ax_m9 aD_X3_orderEntries = [191, 269, 195, 191, 276, 272, 193, 191, 191, 191, 199, 293, 297, 508, 510, 2, 92, 195, 269, 191, 507].filterMap (fun i => ax_big[i]?) := by decide +kernel
theorem k4_X3_orderEntries : (ax_needs ax_T ax_n9 ax_j9 ax_m9 aD_X3_orderEntries).all goodWord = true := by decide +kernel
theorem ok_X3_orderEntries : ax_okM ax_Ss ax_T ax_n9 ax_j9 ax_m9 aD_X3_orderEntries := ax_okM_of (fun q h => of_decide_eq_true (List.all_eq_true.mp k1_X3_orderEntries q h)) k2_X3_orderEntries (ax_W_of _ k3_X3_orderEntries k4_X3_orderEntries) (by decide +kernel) (fun pc q h => by cases h)
theorem k1_X3_climb : (at_X3_climb).all (fun q => decide (decode cX3_climb q.1 = .ok (q.2.1, q.2.2.1))) = true := by decide +kernel
theorem k2_X3_climb : ax_chks ax_T aD_X3_climb = true := by decide +kernel
theorem k3_X3_climb : ax_needs ax_T ax_n9 ax_j9 ax_m9 aD_X3_climb = [289, 301, 301, 283, 199, 511].filterMap (fun i => ax_big[i]?) := by decide +kernel
theorem k4_X3_climb : (ax_needs ax_T ax_n9 ax_j9 ax_m9 aD_X3_climb).all goodWord = true := by decide +kernel
theorem ok_X3_climb : ax_okM ax_Ss ax_T ax_n9 ax_j9 ax_m9 aD_X3_climb := ax_okM_of (fun q h => of_decide_eq_true (List.all_eq_true.mp k1_X3_climb q h)) k2_X3_climb (ax_W_of _ k3_X3_climb k4_X3_climb) (by decide +kernel) (fun pc q h => by cases h)
theorem k1_X3_numberShapes : (at_X3_numberShapes).all (fun q => decide (decode cX3_numberShapes q.1 = .ok (q.2.1, q.2.2.1))) = true := by decide +kernel
theorem k2_X3_numberShapes : ax_chks ax_T aD_X3_numberShapes = true := by decide +kernel
theorem k3_X3_numberShapes : ax_needs ax_T ax_n9 ax_j9 ax_m9 aD_X3_numberShapes = [180, 187, 213, 516, 517, 518, 93, 191, 193, 524, 92, 523, 529, 531, 4, 92, 180, 207, 213, 547, 548, 549, 93, 180, 180, 187, 180, 552, 92, 551, 187, 205, 515].filterMap (fun i => ax_big[i]?) := by decide +kernel
theorem k4_X3_numberShapes : (ax_needs ax_T ax_n9 ax_j9 ax_m9 aD_X3_numberShapes).all goodWord = true := by decide +kernel
theorem ok_X3_numberShapes : ax_okM ax_Ss ax_T ax_n9 ax_j9 ax_m9 aD_X3_numberShapes := ax_okM_of (fun q h => of_decide_eq_true (List.all_eq_true.mp k1_X3_numberShapes q h)) k2_X3_numberShapes (ax_W_of _ k3_X3_numberShapes k4_X3_numberShapes) (by decide +kernel) (fun pc q h => by cases h)
theorem k1_X3_knownShape : (at_X3_knownShape).all (fun q => decide (decode cX3_knownShape q.1 = .ok (q.2.1, q.2.2.1))) = true := by decide +kernel
theorem k2_X3_knownShape : ax_chks ax_T aD_X3_knownShape = true := by decide +kernel
theorem k3_X3_knownShape : ax_needs ax_T ax_n9 ax_j9 ax_m9 aD_X3_knownShape = [213, 533, 534, 535, 93, 180, 207, 541, 92, 540, 213, 543, 544, 545, 93, 532].filterMap (fun i => ax_big[i]?) := by decide +kernel
theorem k4_X3_knownShape : (ax_needs ax_T ax_n9 ax_j9 ax_m9 aD_X3_knownShape).all goodWord = true := by decide +kernel
theorem ok_X3_knownShape : ax_okM ax_Ss ax_T ax_n9 ax_j9 ax_m9 aD_X3_knownShape := ax_okM_of (fun q h => of_decide_eq_true (List.all_eq_true.mp k1_X3_knownShape q h)) k2_X3_knownShape (ax_W_of _ k3_X3_knownShape k4_X3_knownShape) (by decide +kernel) (fun pc q h => by cases h)
theorem k1_X3_shapeHash : (at_X3_shapeHash).all (fun q => decide (decode cX3_shapeHash q.1 = .ok (q.2.1, q.2.2.1))) = true := by decide +kernel
theorem k2_X3_shapeHash : ax_chks ax_T aD_X3_shapeHash = true := by decide +kernel
theorem k3_X3_shapeHash : ax_needs ax_T ax_n9 ax_j9 ax_m9 aD_X3_shapeHash = [280, 293, 306, 527, 95, 526, 310, 314, 525].filterMap (fun i => ax_big[i]?) := by decide +kernel
theorem k4_X3_shapeHash : (ax_needs ax_T ax_n9 ax_j9 ax_m9 aD_X3_shapeHash).all goodWord = true := by decide +kernel
theorem ok_X3_shapeHash : ax_okM ax_Ss ax_T ax_n9 ax_j9 ax_m9 aD_X3_shapeHash := ax_okM_of (fun q h => of_decide_eq_true (List.all_eq_true.mp k1_X3_shapeHash q h)) k2_X3_shapeHash (ax_W_of _ k3_X3_shapeHash k4_X3_shapeHash) (by decide +kernel) (fun pc q h => by cases h)
theorem k1_X3_sameShape : (at_X3_sameShape).all (fun q => decide (decode cX3_sameShape q.1 = .ok (q.2.1, q.2.2.1))) = true := by decide +kernel
theorem k2_X3_sameShape : ax_chks ax_T aD_X3_sameShape = true := by decide +kernel
theorem k3_X3_sameShape : ax_needs ax_T ax_n9 ax_j9 ax_m9 aD_X3_sameShape = [280, 280, 306, 306, 293, 293, 306, 527, 95, 526, 527, 95, 526, 310, 310, 314, 314, 542].filterMap (fun i => ax_big[i]?) := by decide +kernel
theorem k4_X3_sameShape : (ax_needs ax_T ax_n9 ax_j9 ax_m9 aD_X3_sameShape).all goodWord = true := by decide +kernel
theorem ok_X3_sameShape : ax_okM ax_Ss ax_T ax_n9 ax_j9 ax_m9 aD_X3_sameShape := ax_okM_of (fun q h => of_decide_eq_true (List.all_eq_true.mp k1_X3_sameShape q h)) k2_X3_sameShape (ax_W_of _ k3_X3_sameShape k4_X3_sameShape) (by decide +kernel) (fun pc q h => by cases h)
theorem k1_X3_shapeSize : (at_X3_shapeSize).all (fun q => decide (decode cX3_shapeSize q.1 = .ok (q.2.1, q.2.2.1))) = true := by decide +kernel
theorem k2_X3_shapeSize : ax_chks ax_T aD_X3_shapeSize = true := by decide +kernel
theorem k3_X3_shapeSize : ax_needs ax_T ax_n9 ax_j9 ax_m9 aD_X3_shapeSize = [555, 89, 554, 280, 555, 89, 554, 306, 527, 95, 526, 310, 555, 89, 554, 314, 555, 89, 554, 553].filterMap (fun i => ax_big[i]?) := by decide +kernel
theorem k4_X3_shapeSize : (ax_needs ax_T ax_n9 ax_j9 ax_m9 aD_X3_shapeSize).all goodWord = true := by decide +kernel
theorem ok_X3_shapeSize : ax_okM ax_Ss ax_T ax_n9 ax_j9 ax_m9 aD_X3_shapeSize := ax_okM_of (fun q h => of_decide_eq_true (List.all_eq_true.mp k1_X3_shapeSize q h)) k2_X3_shapeSize (ax_W_of _ k3_X3_shapeSize k4_X3_shapeSize) (by decide +kernel) (fun pc q h => by cases h)
theorem k1_X3_placeTexts : (at_X3_placeTexts).all (fun q => decide (decode cX3_placeTexts q.1 = .ok (q.2.1, q.2.2.1))) = true := by decide +kernel
theorem k2_X3_placeTexts : ax_chks ax_T aD_X3_placeTexts = true := by decide +kernel
theorem k3_X3_placeTexts : ax_needs ax_T ax_n9 ax_j9 ax_m9 aD_X3_placeTexts = [183, 190, 214, 516, 517, 518, 93, 191, 193, 306, 527, 95, 526, 314, 561, 563, 6, 92, 560].filterMap (fun i => ax_big[i]?) := by decide +kernel
theorem k4_X3_placeTexts : (ax_needs ax_T ax_n9 ax_j9 ax_m9 aD_X3_placeTexts).all goodWord = true := by decide +kernel
theorem ok_X3_placeTexts : ax_okM ax_Ss ax_T ax_n9 ax_j9 ax_m9 aD_X3_placeTexts := ax_okM_of (fun q h => of_decide_eq_true (List.all_eq_true.mp k1_X3_placeTexts q h)) k2_X3_placeTexts (ax_W_of _ k3_X3_placeTexts k4_X3_placeTexts) (by decide +kernel) (fun pc q h => by cases h)
theorem k1_X3_placeText : (at_X3_placeText).all (fun q => decide (decode cX3_placeText q.1 = .ok (q.2.1, q.2.2.1))) = true := by decide +kernel
theorem k2_X3_placeText : ax_chks ax_T aD_X3_placeText = true := by decide +kernel
theorem k3_X3_placeText : ax_needs ax_T ax_n9 ax_j9 ax_m9 aD_X3_placeText = [565, 566, 567, 95, 324, 569, 570, 571, 89, 577, 579, 7, 92, 211, 183, 214, 183, 547, 548, 549, 93, 183, 183, 209, 190, 190, 324, 190, 209, 209, 211, 564].filterMap (fun i => ax_big[i]?) := by decide +kernel
theorem k4_X3_placeText : (ax_needs ax_T ax_n9 ax_j9 ax_m9 aD_X3_placeText).all goodWord = true := by decide +kernel
theorem ok_X3_placeText : ax_okM ax_Ss ax_T ax_n9 ax_j9 ax_m9 aD_X3_placeText := ax_okM_of (fun q h => of_decide_eq_true (List.all_eq_true.mp k1_X3_placeText q h)) k2_X3_placeText (ax_W_of _ k3_X3_placeText k4_X3_placeText) (by decide +kernel) (fun pc q h => by cases h)
theorem k1_X3_knownText : (at_X3_knownText).all (fun q => decide (decode cX3_knownText q.1 = .ok (q.2.1, q.2.2.1))) = true := by decide +kernel
theorem k2_X3_knownText : ax_chks ax_T aD_X3_knownText = true := by decide +kernel
theorem k3_X3_knownText : ax_needs ax_T ax_n9 ax_j9 ax_m9 aD_X3_knownText = [214, 533, 534, 535, 93, 183, 211, 324, 324, 565, 566, 567, 95, 565, 566, 567, 95, 324, 581, 582, 583, 89, 214, 543, 544, 545, 93, 580].filterMap (fun i => ax_big[i]?) := by decide +kernel
theorem k4_X3_knownText : (ax_needs ax_T ax_n9 ax_j9 ax_m9 aD_X3_knownText).all goodWord = true := by decide +kernel
theorem ok_X3_knownText : ax_okM ax_Ss ax_T ax_n9 ax_j9 ax_m9 aD_X3_knownText := ax_okM_of (fun q h => of_decide_eq_true (List.all_eq_true.mp k1_X3_knownText q h)) k2_X3_knownText (ax_W_of _ k3_X3_knownText k4_X3_knownText) (by decide +kernel) (fun pc q h => by cases h)
theorem k1_X3_placeEntries : (at_X3_placeEntries).all (fun q => decide (decode cX3_placeEntries q.1 = .ok (q.2.1, q.2.2.1))) = true := by decide +kernel
theorem k2_X3_placeEntries : ax_chks ax_T aD_X3_placeEntries = true := by decide +kernel
theorem k3_X3_placeEntries : ax_needs ax_T ax_n9 ax_j9 ax_m9 aD_X3_placeEntries = [191, 193, 201, 205, 555, 89, 554, 590, 92, 589, 199, 202, 186, 269, 600, 602, 9, 92, 186, 197, 186, 588].filterMap (fun i => ax_big[i]?) := by decide +kernel
theorem k4_X3_placeEntries : (ax_needs ax_T ax_n9 ax_j9 ax_m9 aD_X3_placeEntries).all goodWord = true := by decide +kernel
theorem ok_X3_placeEntries : ax_okM ax_Ss ax_T ax_n9 ax_j9 ax_m9 aD_X3_placeEntries := ax_okM_of (fun q h => of_decide_eq_true (List.all_eq_true.mp k1_X3_placeEntries q h)) k2_X3_placeEntries (ax_W_of _ k3_X3_placeEntries k4_X3_placeEntries) (by decide +kernel) (fun pc q h => by cases h)
theorem k1_X3_moveEntries : (at_X3_moveEntries).all (fun q => decide (decode cX3_moveEntries q.1 = .ok (q.2.1, q.2.2.1))) = true := by decide +kernel
theorem k2_X3_moveEntries : ax_chks ax_T aD_X3_moveEntries = true := by decide +kernel
theorem k3_X3_moveEntries : ax_needs ax_T ax_n9 ax_j9 ax_m9 aD_X3_moveEntries = [195, 195, 193, 202, 202, 201, 604, 606, 10, 92, 197, 603].filterMap (fun i => ax_big[i]?) := by decide +kernel
theorem k4_X3_moveEntries : (ax_needs ax_T ax_n9 ax_j9 ax_m9 aD_X3_moveEntries).all goodWord = true := by decide +kernel
theorem ok_X3_moveEntries : ax_okM ax_Ss ax_T ax_n9 ax_j9 ax_m9 aD_X3_moveEntries := ax_okM_of (fun q h => of_decide_eq_true (List.all_eq_true.mp k1_X3_moveEntries q h)) k2_X3_moveEntries (ax_W_of _ k3_X3_moveEntries k4_X3_moveEntries) (by decide +kernel) (fun pc q h => by cases h)
theorem k1_X3_referenceRowBytes : (at_X3_referenceRowBytes).all (fun q => decide (decode cX3_referenceRowBytes q.1 = .ok (q.2.1, q.2.2.1))) = true := by decide +kernel
theorem k2_X3_referenceRowBytes : ax_chks ax_T aD_X3_referenceRowBytes = true := by decide +kernel
theorem k3_X3_referenceRowBytes : ax_needs ax_T ax_n9 ax_j9 ax_m9 aD_X3_referenceRowBytes = [306, 527, 95, 526, 314, 202, 320, 555, 89, 554, 607].filterMap (fun i => ax_big[i]?) := by decide +kernel
theorem k4_X3_referenceRowBytes : (ax_needs ax_T ax_n9 ax_j9 ax_m9 aD_X3_referenceRowBytes).all goodWord = true := by decide +kernel
theorem ok_X3_referenceRowBytes : ax_okM ax_Ss ax_T ax_n9 ax_j9 ax_m9 aD_X3_referenceRowBytes := ax_okM_of (fun q h => of_decide_eq_true (List.all_eq_true.mp k1_X3_referenceRowBytes q h)) k2_X3_referenceRowBytes (ax_W_of _ k3_X3_referenceRowBytes k4_X3_referenceRowBytes) (by decide +kernel) (fun pc q h => by cases h)
theorem k1_X3_steadyValueBytes : (at_X3_steadyValueBytes).all (fun q => decide (decode cX3_steadyValueBytes q.1 = .ok (q.2.1, q.2.2.1))) = true := by decide +kernel
theorem k2_X3_steadyValueBytes : ax_chks ax_T aD_X3_steadyValueBytes = true := by decide +kernel
theorem k3_X3_steadyValueBytes : ax_needs ax_T ax_n9 ax_j9 ax_m9 aD_X3_steadyValueBytes = [306, 527, 95, 526, 314, 320, 593, 89, 592, 320, 555, 89, 554, 324, 314, 598, 106, 597, 591].filterMap (fun i => ax_big[i]?) := by decide +kernel
theorem k4_X3_steadyValueBytes : (ax_needs ax_T ax_n9 ax_j9 ax_m9 aD_X3_steadyValueBytes).all goodWord = true := by decide +kernel
theorem ok_X3_steadyValueBytes : ax_okM ax_Ss ax_T ax_n9 ax_j9 ax_m9 aD_X3_steadyValueBytes := ax_okM_of (fun q h => of_decide_eq_true (List.all_eq_true.mp k1_X3_steadyValueBytes q h)) k2_X3_steadyValueBytes (ax_W_of _ k3_X3_steadyValueBytes k4_X3_steadyValueBytes) (by decide +kernel) (fun pc q h => by cases h)
end
