section
theorem k1_X3_init : (at_X3_init).all (fun q => decide (decode cX3_init q.1 = .ok (q.2.1, q.2.2.1))) = true := by decide +kernel
theorem k2_X3_init : ax_chks ax_T aD_X3_init = true := by decide +kernel
theorem k3_X3_init : ax_needs ax_T ax_n9 ax_j9 ax_m9 aD_X3_init = [162, 114, 115, 177, 192, 177, 194, 177, 196, 177, 198, 177, 200, 177, 201, 177, 204, 177, 206, 177, 208, 177, 210, 163, 164, 92, 165, 166, 92, 212, 163, 164, 92, 165, 166, 92, 213, 161].filterMap (fun i => ax_big[i]?) := by decide +kernel
theorem k4_X3_init : (ax_needs ax_T ax_n9 ax_j9 ax_m9 aD_X3_init).all goodWord = true := by decide +kernel
theorem ok_X3_init : ax_okM ax_Ss ax_T ax_n9 ax_j9 ax_m9 aD_X3_init := ax_okM_of (fun q h => of_decide_eq_true (List.all_eq_true.mp k1_X3_init q h)) k2_X3_init (ax_W_of _ k3_X3_init k4_X3_init) (by decide +kernel) (fun pc q h => by cases h)
theorem k1_X3_forget : (at_X3_forget).all (fun q => decide (decode cX3_forget q.1 = .ok (q.2.1, q.2.2.1))) = true := by decide +kernel
theorem k2_X3_forget : ax_chks ax_T aD_X3_forget = true := by decide +kernel
theorem k3_X3_forget : ax_needs ax_T ax_n9 ax_j9 ax_m9 aD_X3_forget = [191, 494].filterMap (fun i => ax_big[i]?) := by decide +kernel
theorem k4_X3_forget : (ax_needs ax_T ax_n9 ax_j9 ax_m9 aD_X3_forget).all goodWord = true := by decide +kernel
theorem ok_X3_forget : ax_okM ax_Ss ax_T ax_n9 ax_j9 ax_m9 aD_X3_forget := ax_okM_of (fun q h => of_decide_eq_true (List.all_eq_true.mp k1_X3_forget q h)) k2_X3_forget (ax_W_of _ k3_X3_forget k4_X3_forget) (by decide +kernel) (fun pc q h => by cases h)
theorem k1_X3_reckon : (at_X3_reckon).all (fun q => decide (decode cX3_reckon q.1 = .ok (q.2.1, q.2.2.1))) = true := by decide +kernel
theorem k2_X3_reckon : ax_chks ax_T aD_X3_reckon = true := by decide +kernel
theorem k3_X3_reckon : ax_needs ax_T ax_n9 ax_j9 ax_m9 aD_X3_reckon = [191, 503, 505, 1, 91, 511, 513, 3, 91, 556, 558, 5, 91, 584, 586, 8, 91, 191, 502].filterMap (fun i => ax_big[i]?) := by decide +kernel
theorem k4_X3_reckon : (ax_needs ax_T ax_n9 ax_j9 ax_m9 aD_X3_reckon).all goodWord = true := by decide +kernel
theorem ok_X3_reckon : ax_okM ax_Ss ax_T ax_n9 ax_j9 ax_m9 aD_X3_reckon := ax_okM_of (fun q h => of_decide_eq_true (List.all_eq_true.mp k1_X3_reckon q h)) k2_X3_reckon (ax_W_of _ k3_X3_reckon k4_X3_reckon) (by decide +kernel) (fun pc q h => by cases h)
theorem k1_X3_orderEntries : (at_X3_orderEntries).all (fun q => decide (decode cX3_orderEntries q.1 = .ok (q.2.1, q.2.2.1))) = true := by decide +kernel
theorem k2_X3_orderEntries : ax_chks ax_T aD_X3_orderEntries = true := by decide +kernel
theorem k3_X3_orderEntries : ax_needs ax_T ax_n9 ax_j9 ax_m9 aD_X3_orderEntries = [190, 268, 194, 190, 275, 271, 192, 190, 190, 190, 198, 292, 296, 507, 509, 2, 91, 194, 268, 190, 506].filterMap (fun i => ax_big[i]?) := by decide +kernel
theorem k4_X3_orderEntries : (ax_needs ax_T ax_n9 ax_j9 ax_m9 aD_X3_orderEntries).all goodWord = true := by decide +kernel
theorem ok_X3_orderEntries : ax_okM ax_Ss ax_T ax_n9 ax_j9 ax_m9 aD_X3_orderEntries := ax_okM_of (fun q h => of_decide_eq_true (List.all_eq_true.mp k1_X3_orderEntries q h)) k2_X3_orderEntries (ax_W_of _ k3_X3_orderEntries k4_X3_orderEntries) (by decide +kernel) (fun pc q h => by cases h)
theorem k1_X3_climb : (at_X3_climb).all (fun q => decide (decode cX3_climb q.1 = .ok (q.2.1, q.2.2.1))) = true := by decide +kernel
theorem k2_X3_climb : ax_chks ax_T aD_X3_climb = true := by decide +kernel
theorem k3_X3_climb : ax_needs ax_T ax_n9 ax_j9 ax_m9 aD_X3_climb = [288, 300, 300, 283, 198, 510].filterMap (fun i => ax_big[i]?) := by decide +kernel
theorem k4_X3_climb : (ax_needs ax_T ax_n9 ax_j9 ax_m9 aD_X3_climb).all goodWord = true := by decide +kernel
theorem ok_X3_climb : ax_okM ax_Ss ax_T ax_n9 ax_j9 ax_m9 aD_X3_climb := ax_okM_of (fun q h => of_decide_eq_true (List.all_eq_true.mp k1_X3_climb q h)) k2_X3_climb (ax_W_of _ k3_X3_climb k4_X3_climb) (by decide +kernel) (fun pc q h => by cases h)
theorem k1_X3_numberShapes : (at_X3_numberShapes).all (fun q => decide (decode cX3_numberShapes q.1 = .ok (q.2.1, q.2.2.1))) = true := by decide +kernel
theorem k2_X3_numberShapes : ax_chks ax_T aD_X3_numberShapes = true := by decide +kernel
theorem k3_X3_numberShapes : ax_needs ax_T ax_n9 ax_j9 ax_m9 aD_X3_numberShapes = [179, 186, 212, 515, 516, 517, 92, 190, 192, 523, 91, 522, 528, 530, 4, 91, 179, 206, 212, 546, 547, 548, 92, 179, 179, 186, 179, 551, 91, 550, 186, 204, 514].filterMap (fun i => ax_big[i]?) := by decide +kernel
theorem k4_X3_numberShapes : (ax_needs ax_T ax_n9 ax_j9 ax_m9 aD_X3_numberShapes).all goodWord = true := by decide +kernel
theorem ok_X3_numberShapes : ax_okM ax_Ss ax_T ax_n9 ax_j9 ax_m9 aD_X3_numberShapes := ax_okM_of (fun q h => of_decide_eq_true (List.all_eq_true.mp k1_X3_numberShapes q h)) k2_X3_numberShapes (ax_W_of _ k3_X3_numberShapes k4_X3_numberShapes) (by decide +kernel) (fun pc q h => by cases h)
theorem k1_X3_knownShape : (at_X3_knownShape).all (fun q => decide (decode cX3_knownShape q.1 = .ok (q.2.1, q.2.2.1))) = true := by decide +kernel
theorem k2_X3_knownShape : ax_chks ax_T aD_X3_knownShape = true := by decide +kernel
theorem k3_X3_knownShape : ax_needs ax_T ax_n9 ax_j9 ax_m9 aD_X3_knownShape = [212, 532, 533, 534, 92, 179, 206, 540, 91, 539, 212, 542, 543, 544, 92, 531].filterMap (fun i => ax_big[i]?) := by decide +kernel
theorem k4_X3_knownShape : (ax_needs ax_T ax_n9 ax_j9 ax_m9 aD_X3_knownShape).all goodWord = true := by decide +kernel
theorem ok_X3_knownShape : ax_okM ax_Ss ax_T ax_n9 ax_j9 ax_m9 aD_X3_knownShape := ax_okM_of (fun q h => of_decide_eq_true (List.all_eq_true.mp k1_X3_knownShape q h)) k2_X3_knownShape (ax_W_of _ k3_X3_knownShape k4_X3_knownShape) (by decide +kernel) (fun pc q h => by cases h)
theorem k1_X3_shapeHash : (at_X3_shapeHash).all (fun q => decide (decode cX3_shapeHash q.1 = .ok (q.2.1, q.2.2.1))) = true := by decide +kernel
theorem k2_X3_shapeHash : ax_chks ax_T aD_X3_shapeHash = true := by decide +kernel
theorem k3_X3_shapeHash : ax_needs ax_T ax_n9 ax_j9 ax_m9 aD_X3_shapeHash = [279, 292, 305, 526, 94, 525, 309, 313, 524].filterMap (fun i => ax_big[i]?) := by decide +kernel
theorem k4_X3_shapeHash : (ax_needs ax_T ax_n9 ax_j9 ax_m9 aD_X3_shapeHash).all goodWord = true := by decide +kernel
theorem ok_X3_shapeHash : ax_okM ax_Ss ax_T ax_n9 ax_j9 ax_m9 aD_X3_shapeHash := ax_okM_of (fun q h => of_decide_eq_true (List.all_eq_true.mp k1_X3_shapeHash q h)) k2_X3_shapeHash (ax_W_of _ k3_X3_shapeHash k4_X3_shapeHash) (by decide +kernel) (fun pc q h => by cases h)
theorem k1_X3_sameShape : (at_X3_sameShape).all (fun q => decide (decode cX3_sameShape q.1 = .ok (q.2.1, q.2.2.1))) = true := by decide +kernel
theorem k2_X3_sameShape : ax_chks ax_T aD_X3_sameShape = true := by decide +kernel
theorem k3_X3_sameShape : ax_needs ax_T ax_n9 ax_j9 ax_m9 aD_X3_sameShape = [279, 279, 305, 305, 292, 292, 305, 526, 94, 525, 526, 94, 525, 309, 309, 313, 313, 541].filterMap (fun i => ax_big[i]?) := by decide +kernel
theorem k4_X3_sameShape : (ax_needs ax_T ax_n9 ax_j9 ax_m9 aD_X3_sameShape).all goodWord = true := by decide +kernel
theorem ok_X3_sameShape : ax_okM ax_Ss ax_T ax_n9 ax_j9 ax_m9 aD_X3_sameShape := ax_okM_of (fun q h => of_decide_eq_true (List.all_eq_true.mp k1_X3_sameShape q h)) k2_X3_sameShape (ax_W_of _ k3_X3_sameShape k4_X3_sameShape) (by decide +kernel) (fun pc q h => by cases h)
theorem k1_X3_shapeSize : (at_X3_shapeSize).all (fun q => decide (decode cX3_shapeSize q.1 = .ok (q.2.1, q.2.2.1))) = true := by decide +kernel
theorem k2_X3_shapeSize : ax_chks ax_T aD_X3_shapeSize = true := by decide +kernel
theorem k3_X3_shapeSize : ax_needs ax_T ax_n9 ax_j9 ax_m9 aD_X3_shapeSize = [554, 88, 553, 279, 554, 88, 553, 305, 526, 94, 525, 309, 554, 88, 553, 313, 554, 88, 553, 552].filterMap (fun i => ax_big[i]?) := by decide +kernel
theorem k4_X3_shapeSize : (ax_needs ax_T ax_n9 ax_j9 ax_m9 aD_X3_shapeSize).all goodWord = true := by decide +kernel
theorem ok_X3_shapeSize : ax_okM ax_Ss ax_T ax_n9 ax_j9 ax_m9 aD_X3_shapeSize := ax_okM_of (fun q h => of_decide_eq_true (List.all_eq_true.mp k1_X3_shapeSize q h)) k2_X3_shapeSize (ax_W_of _ k3_X3_shapeSize k4_X3_shapeSize) (by decide +kernel) (fun pc q h => by cases h)
theorem k1_X3_placeTexts : (at_X3_placeTexts).all (fun q => decide (decode cX3_placeTexts q.1 = .ok (q.2.1, q.2.2.1))) = true := by decide +kernel
theorem k2_X3_placeTexts : ax_chks ax_T aD_X3_placeTexts = true := by decide +kernel
theorem k3_X3_placeTexts : ax_needs ax_T ax_n9 ax_j9 ax_m9 aD_X3_placeTexts = [182, 189, 213, 515, 516, 517, 92, 190, 192, 305, 526, 94, 525, 313, 560, 562, 6, 91, 559].filterMap (fun i => ax_big[i]?) := by decide +kernel
theorem k4_X3_placeTexts : (ax_needs ax_T ax_n9 ax_j9 ax_m9 aD_X3_placeTexts).all goodWord = true := by decide +kernel
theorem ok_X3_placeTexts : ax_okM ax_Ss ax_T ax_n9 ax_j9 ax_m9 aD_X3_placeTexts := ax_okM_of (fun q h => of_decide_eq_true (List.all_eq_true.mp k1_X3_placeTexts q h)) k2_X3_placeTexts (ax_W_of _ k3_X3_placeTexts k4_X3_placeTexts) (by decide +kernel) (fun pc q h => by cases h)
theorem k1_X3_placeText : (at_X3_placeText).all (fun q => decide (decode cX3_placeText q.1 = .ok (q.2.1, q.2.2.1))) = true := by decide +kernel
theorem k2_X3_placeText : ax_chks ax_T aD_X3_placeText = true := by decide +kernel
theorem k3_X3_placeText : ax_needs ax_T ax_n9 ax_j9 ax_m9 aD_X3_placeText = [564, 565, 566, 94, 323, 568, 569, 570, 88, 576, 578, 7, 91, 210, 182, 213, 182, 546, 547, 548, 92, 182, 182, 208, 189, 189, 323, 189, 208, 208, 210, 563].filterMap (fun i => ax_big[i]?) := by decide +kernel
theorem k4_X3_placeText : (ax_needs ax_T ax_n9 ax_j9 ax_m9 aD_X3_placeText).all goodWord = true := by decide +kernel
theorem ok_X3_placeText : ax_okM ax_Ss ax_T ax_n9 ax_j9 ax_m9 aD_X3_placeText := ax_okM_of (fun q h => of_decide_eq_true (List.all_eq_true.mp k1_X3_placeText q h)) k2_X3_placeText (ax_W_of _ k3_X3_placeText k4_X3_placeText) (by decide +kernel) (fun pc q h => by cases h)
theorem k1_X3_knownText : (at_X3_knownText).all (fun q => decide (decode cX3_knownText q.1 = .ok (q.2.1, q.2.2.1))) = true := by decide +kernel
theorem k2_X3_knownText : ax_chks ax_T aD_X3_knownText = true := by decide +kernel
theorem k3_X3_knownText : ax_needs ax_T ax_n9 ax_j9 ax_m9 aD_X3_knownText = [213, 532, 533, 534, 92, 182, 210, 323, 323, 564, 565, 566, 94, 564, 565, 566, 94, 323, 580, 581, 582, 88, 213, 542, 543, 544, 92, 579].filterMap (fun i => ax_big[i]?) := by decide +kernel
theorem k4_X3_knownText : (ax_needs ax_T ax_n9 ax_j9 ax_m9 aD_X3_knownText).all goodWord = true := by decide +kernel
theorem ok_X3_knownText : ax_okM ax_Ss ax_T ax_n9 ax_j9 ax_m9 aD_X3_knownText := ax_okM_of (fun q h => of_decide_eq_true (List.all_eq_true.mp k1_X3_knownText q h)) k2_X3_knownText (ax_W_of _ k3_X3_knownText k4_X3_knownText) (by decide +kernel) (fun pc q h => by cases h)
theorem k1_X3_placeEntries : (at_X3_placeEntries).all (fun q => decide (decode cX3_placeEntries q.1 = .ok (q.2.1, q.2.2.1))) = true := by decide +kernel
theorem k2_X3_placeEntries : ax_chks ax_T aD_X3_placeEntries = true := by decide +kernel
theorem k3_X3_placeEntries : ax_needs ax_T ax_n9 ax_j9 ax_m9 aD_X3_placeEntries = [190, 192, 200, 204, 554, 88, 553, 589, 91, 588, 198, 201, 185, 268, 599, 601, 9, 91, 185, 196, 185, 587].filterMap (fun i => ax_big[i]?) := by decide +kernel
theorem k4_X3_placeEntries : (ax_needs ax_T ax_n9 ax_j9 ax_m9 aD_X3_placeEntries).all goodWord = true := by decide +kernel
theorem ok_X3_placeEntries : ax_okM ax_Ss ax_T ax_n9 ax_j9 ax_m9 aD_X3_placeEntries := ax_okM_of (fun q h => of_decide_eq_true (List.all_eq_true.mp k1_X3_placeEntries q h)) k2_X3_placeEntries (ax_W_of _ k3_X3_placeEntries k4_X3_placeEntries) (by decide +kernel) (fun pc q h => by cases h)
theorem k1_X3_moveEntries : (at_X3_moveEntries).all (fun q => decide (decode cX3_moveEntries q.1 = .ok (q.2.1, q.2.2.1))) = true := by decide +kernel
theorem k2_X3_moveEntries : ax_chks ax_T aD_X3_moveEntries = true := by decide +kernel
theorem k3_X3_moveEntries : ax_needs ax_T ax_n9 ax_j9 ax_m9 aD_X3_moveEntries = [194, 194, 192, 201, 201, 200, 603, 605, 10, 91, 196, 602].filterMap (fun i => ax_big[i]?) := by decide +kernel
theorem k4_X3_moveEntries : (ax_needs ax_T ax_n9 ax_j9 ax_m9 aD_X3_moveEntries).all goodWord = true := by decide +kernel
theorem ok_X3_moveEntries : ax_okM ax_Ss ax_T ax_n9 ax_j9 ax_m9 aD_X3_moveEntries := ax_okM_of (fun q h => of_decide_eq_true (List.all_eq_true.mp k1_X3_moveEntries q h)) k2_X3_moveEntries (ax_W_of _ k3_X3_moveEntries k4_X3_moveEntries) (by decide +kernel) (fun pc q h => by cases h)
theorem k1_X3_referenceRowBytes : (at_X3_referenceRowBytes).all (fun q => decide (decode cX3_referenceRowBytes q.1 = .ok (q.2.1, q.2.2.1))) = true := by decide +kernel
theorem k2_X3_referenceRowBytes : ax_chks ax_T aD_X3_referenceRowBytes = true := by decide +kernel
theorem k3_X3_referenceRowBytes : ax_needs ax_T ax_n9 ax_j9 ax_m9 aD_X3_referenceRowBytes = [305, 526, 94, 525, 313, 201, 319, 554, 88, 553, 606].filterMap (fun i => ax_big[i]?) := by decide +kernel
theorem k4_X3_referenceRowBytes : (ax_needs ax_T ax_n9 ax_j9 ax_m9 aD_X3_referenceRowBytes).all goodWord = true := by decide +kernel
theorem ok_X3_referenceRowBytes : ax_okM ax_Ss ax_T ax_n9 ax_j9 ax_m9 aD_X3_referenceRowBytes := ax_okM_of (fun q h => of_decide_eq_true (List.all_eq_true.mp k1_X3_referenceRowBytes q h)) k2_X3_referenceRowBytes (ax_W_of _ k3_X3_referenceRowBytes k4_X3_referenceRowBytes) (by decide +kernel) (fun pc q h => by cases h)
theorem k1_X3_steadyValueBytes : (at_X3_steadyValueBytes).all (fun q => decide (decode cX3_steadyValueBytes q.1 = .ok (q.2.1, q.2.2.1))) = true := by decide +kernel
theorem k2_X3_steadyValueBytes : ax_chks ax_T aD_X3_steadyValueBytes = true := by decide +kernel
theorem k3_X3_steadyValueBytes : ax_needs ax_T ax_n9 ax_j9 ax_m9 aD_X3_steadyValueBytes = [305, 526, 94, 525, 313, 319, 592, 88, 591, 319, 554, 88, 553, 323, 313, 597, 105, 596, 590].filterMap (fun i => ax_big[i]?) := by decide +kernel
theorem k4_X3_steadyValueBytes : (ax_needs ax_T ax_n9 ax_j9 ax_m9 aD_X3_steadyValueBytes).all goodWord = true := by decide +kernel
theorem ok_X3_steadyValueBytes : ax_okM ax_Ss ax_T ax_n9 ax_j9 ax_m9 aD_X3_steadyValueBytes := ax_okM_of (fun q h => of_decide_eq_true (List.all_eq_true.mp k1_X3_steadyValueBytes q h)) k2_X3_steadyValueBytes (ax_W_of _ k3_X3_steadyValueBytes k4_X3_steadyValueBytes) (by decide +kernel) (fun pc q h => by cases h)
end
