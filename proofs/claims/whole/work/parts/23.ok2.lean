section
theorem k1_X4_init : (at_X4_init).all (fun q => decide (decode cX4_init q.1 = .ok (q.2.1, q.2.2.1))) = true := by decide +kernel
theorem k2_X4_init : ax_chks ax_T aD_X4_init = true := by decide +kernel
theorem k3_X4_init : ax_needs ax_T ax_n9 ax_j9 ax_m9 aD_X4_init = [258, 114, 115, 259, 260, 94, 261, 262, 94, 434, 359, 360, 95, 361, 362, 95, 436, 395, 396, 96, 397, 398, 96, 438, 177, 441, 177, 442, 257].filterMap (fun i => ax_big[i]?) := by decide +kernel
theorem k4_X4_init : (ax_needs ax_T ax_n9 ax_j9 ax_m9 aD_X4_init).all goodWord = true := by decide +kernel
theorem ok_X4_init : ax_okM ax_Ss ax_T ax_n9 ax_j9 ax_m9 aD_X4_init := ax_okM_of (fun q h => of_decide_eq_true (List.all_eq_true.mp k1_X4_init q h)) k2_X4_init (ax_W_of _ k3_X4_init k4_X4_init) (by decide +kernel) (fun pc q h => by cases h)
theorem k1_X4_readUnits : (at_X4_readUnits).all (fun q => decide (decode cX4_readUnits q.1 = .ok (q.2.1, q.2.2.1))) = true := by decide +kernel
theorem k2_X4_readUnits : ax_chks ax_T aD_X4_readUnits = true := by decide +kernel
theorem k3_X4_readUnits : ax_needs ax_T ax_n9 ax_j9 ax_m9 aD_X4_readUnits = [436, 668, 669, 670, 95, 434, 672, 484, 485, 94, 439, 440, 142, 673, 656, 657, 88, 436, 674, 675, 676, 95, 436, 682, 683, 684, 95, 754, 756, 13, 93, 436, 371, 439, 436, 145, 673, 656, 657, 88, 674, 675, 676, 95, 438, 436, 766, 767, 768, 96, 439, 436, 674, 675, 676, 95, 821, 823, 17, 93, 436, 368, 436, 436, 368, 682, 683, 684, 95, 434, 274, 876, 878, 22, 93, 667].filterMap (fun i => ax_big[i]?) := by decide +kernel
theorem k4_X4_readUnits : (ax_needs ax_T ax_n9 ax_j9 ax_m9 aD_X4_readUnits).all goodWord = true := by decide +kernel
theorem ok_X4_readUnits : ax_okM ax_Ss ax_T ax_n9 ax_j9 ax_m9 aD_X4_readUnits := ax_okM_of (fun q h => of_decide_eq_true (List.all_eq_true.mp k1_X4_readUnits q h)) k2_X4_readUnits (ax_W_of _ k3_X4_readUnits k4_X4_readUnits) (by decide +kernel) (fun pc q h => by cases h)
theorem k1_X4_readHeader : (at_X4_readHeader).all (fun q => decide (decode cX4_readHeader q.1 = .ok (q.2.1, q.2.2.1))) = true := by decide +kernel
theorem k2_X4_readHeader : ax_chks ax_T aD_X4_readHeader = true := by decide +kernel
theorem k3_X4_readHeader : ax_needs ax_T ax_n9 ax_j9 ax_m9 aD_X4_readHeader = [436, 758, 759, 760, 95, 436, 371, 436, 368, 436, 682, 683, 684, 95, 436, 436, 368, 371, 436, 368, 436, 758, 759, 760, 95, 764, 436, 682, 683, 684, 95, 436, 368, 436, 758, 759, 760, 95, 145, 673, 656, 657, 88, 436, 682, 683, 684, 95, 436, 368, 436, 758, 759, 760, 95, 765, 436, 682, 683, 684, 95, 757].filterMap (fun i => ax_big[i]?) := by decide +kernel
theorem k4_X4_readHeader : (ax_needs ax_T ax_n9 ax_j9 ax_m9 aD_X4_readHeader).all goodWord = true := by decide +kernel
theorem ok_X4_readHeader : ax_okM ax_Ss ax_T ax_n9 ax_j9 ax_m9 aD_X4_readHeader := ax_okM_of (fun q h => of_decide_eq_true (List.all_eq_true.mp k1_X4_readHeader q h)) k2_X4_readHeader (ax_W_of _ k3_X4_readHeader k4_X4_readHeader) (by decide +kernel) (fun pc q h => by cases h)
theorem k1_X4_readEntries : (at_X4_readEntries).all (fun q => decide (decode cX4_readEntries q.1 = .ok (q.2.1, q.2.2.1))) = true := by decide +kernel
theorem k2_X4_readEntries : ax_chks ax_T aD_X4_readEntries = true := by decide +kernel
theorem k3_X4_readEntries : ax_needs ax_T ax_n9 ax_j9 ax_m9 aD_X4_readEntries = [436, 368, 436, 825, 772, 773, 95, 434, 282, 438, 826, 782, 783, 96, 436, 682, 683, 684, 95, 827, 829, 18, 93, 441, 438, 406, 824].filterMap (fun i => ax_big[i]?) := by decide +kernel
theorem k4_X4_readEntries : (ax_needs ax_T ax_n9 ax_j9 ax_m9 aD_X4_readEntries).all goodWord = true := by decide +kernel
theorem ok_X4_readEntries : ax_okM ax_Ss ax_T ax_n9 ax_j9 ax_m9 aD_X4_readEntries := ax_okM_of (fun q h => of_decide_eq_true (List.all_eq_true.mp k1_X4_readEntries q h)) k2_X4_readEntries (ax_W_of _ k3_X4_readEntries k4_X4_readEntries) (by decide +kernel) (fun pc q h => by cases h)
theorem k1_X4_readEntry : (at_X4_readEntry).all (fun q => decide (decode cX4_readEntry q.1 = .ok (q.2.1, q.2.2.1))) = true := by decide +kernel
theorem k2_X4_readEntry : ax_chks ax_T aD_X4_readEntry = true := by decide +kernel
theorem k3_X4_readEntry : ax_needs ax_T ax_n9 ax_j9 ax_m9 aD_X4_readEntry = [434, 272, 434, 289, 436, 682, 683, 684, 95, 434, 438, 404, 831, 832, 833, 94, 434, 438, 404, 839, 840, 841, 94, 438, 408, 526, 94, 843, 438, 412, 812, 105, 844, 438, 410, 438, 412, 845, 847, 20, 93, 438, 410, 438, 412, 870, 872, 21, 93, 830].filterMap (fun i => ax_big[i]?) := by decide +kernel
theorem k4_X4_readEntry : (ax_needs ax_T ax_n9 ax_j9 ax_m9 aD_X4_readEntry).all goodWord = true := by decide +kernel
theorem ok_X4_readEntry : ax_okM ax_Ss ax_T ax_n9 ax_j9 ax_m9 aD_X4_readEntry := ax_okM_of (fun q h => of_decide_eq_true (List.all_eq_true.mp k1_X4_readEntry q h)) k2_X4_readEntry (ax_W_of _ k3_X4_readEntry k4_X4_readEntry) (by decide +kernel) (fun pc q h => by cases h)
theorem k1_X4_readNumber : (at_X4_readNumber).all (fun q => decide (decode cX4_readNumber q.1 = .ok (q.2.1, q.2.2.1))) = true := by decide +kernel
theorem k2_X4_readNumber : ax_chks ax_T aD_X4_readNumber = true := by decide +kernel
theorem k3_X4_readNumber : ax_needs ax_T ax_n9 ax_j9 ax_m9 aD_X4_readNumber = [436, 368, 442, 434, 304, 526, 94, 843, 436, 874, 776, 777, 95, 436, 874, 776, 777, 95, 436, 825, 772, 773, 95, 436, 597, 105, 875, 758, 759, 760, 95, 436, 682, 683, 684, 95, 434, 865, 866, 867, 94, 873].filterMap (fun i => ax_big[i]?) := by decide +kernel
theorem k4_X4_readNumber : (ax_needs ax_T ax_n9 ax_j9 ax_m9 aD_X4_readNumber).all goodWord = true := by decide +kernel
theorem ok_X4_readNumber : ax_okM ax_Ss ax_T ax_n9 ax_j9 ax_m9 aD_X4_readNumber := ax_okM_of (fun q h => of_decide_eq_true (List.all_eq_true.mp k1_X4_readNumber q h)) k2_X4_readNumber (ax_W_of _ k3_X4_readNumber k4_X4_readNumber) (by decide +kernel) (fun pc q h => by cases h)
theorem k1_X4_readLetters : (at_X4_readLetters).all (fun q => decide (decode cX4_readLetters q.1 = .ok (q.2.1, q.2.2.1))) = true := by decide +kernel
theorem k2_X4_readLetters : ax_chks ax_T aD_X4_readLetters = true := by decide +kernel
theorem k3_X4_readLetters : ax_needs ax_T ax_n9 ax_j9 ax_m9 aD_X4_readLetters = [436, 368, 436, 849, 850, 851, 95, 436, 758, 759, 760, 95, 436, 368, 436, 857, 858, 859, 95, 436, 758, 759, 760, 95, 148, 862, 93, 861, 436, 682, 683, 684, 95, 440, 440, 440, 436, 682, 683, 684, 95, 434, 865, 866, 867, 94, 848].filterMap (fun i => ax_big[i]?) := by decide +kernel
theorem k4_X4_readLetters : (ax_needs ax_T ax_n9 ax_j9 ax_m9 aD_X4_readLetters).all goodWord = true := by decide +kernel
theorem ok_X4_readLetters : ax_okM ax_Ss ax_T ax_n9 ax_j9 ax_m9 aD_X4_readLetters := ax_okM_of (fun q h => of_decide_eq_true (List.all_eq_true.mp k1_X4_readLetters q h)) k2_X4_readLetters (ax_W_of _ k3_X4_readLetters k4_X4_readLetters) (by decide +kernel) (fun pc q h => by cases h)
theorem k1_X4_keptLength : (at_X4_keptLength).all (fun q => decide (decode cX4_keptLength q.1 = .ok (q.2.1, q.2.2.1))) = true := by decide +kernel
theorem k2_X4_keptLength : ax_chks ax_T aD_X4_keptLength = true := by decide +kernel
theorem k3_X4_keptLength : ax_needs ax_T ax_n9 ax_j9 ax_m9 aD_X4_keptLength = [673, 656, 657, 88, 673, 656, 657, 88, 864, 854, 855, 88, 863].filterMap (fun i => ax_big[i]?) := by decide +kernel
theorem k4_X4_keptLength : (ax_needs ax_T ax_n9 ax_j9 ax_m9 aD_X4_keptLength).all goodWord = true := by decide +kernel
theorem ok_X4_keptLength : ax_okM ax_Ss ax_T ax_n9 ax_j9 ax_m9 aD_X4_keptLength := ax_okM_of (fun q h => of_decide_eq_true (List.all_eq_true.mp k1_X4_keptLength q h)) k2_X4_keptLength (ax_W_of _ k3_X4_keptLength k4_X4_keptLength) (by decide +kernel) (fun pc q h => by cases h)
theorem k1_X4_resolveReferences : (at_X4_resolveReferences).all (fun q => decide (decode cX4_resolveReferences q.1 = .ok (q.2.1, q.2.2.1))) = true := by decide +kernel
theorem k2_X4_resolveReferences : ax_chks ax_T aD_X4_resolveReferences = true := by decide +kernel
theorem k3_X4_resolveReferences : ax_needs ax_T ax_n9 ax_j9 ax_m9 aD_X4_resolveReferences = [434, 272, 434, 304, 526, 94, 843, 434, 314, 818, 105, 880, 434, 318, 881, 883, 23, 93, 436, 442, 682, 683, 684, 95, 434, 318, 879].filterMap (fun i => ax_big[i]?) := by decide +kernel
theorem k4_X4_resolveReferences : (ax_needs ax_T ax_n9 ax_j9 ax_m9 aD_X4_resolveReferences).all goodWord = true := by decide +kernel
theorem ok_X4_resolveReferences : ax_okM ax_Ss ax_T ax_n9 ax_j9 ax_m9 aD_X4_resolveReferences := ax_okM_of (fun q h => of_decide_eq_true (List.all_eq_true.mp k1_X4_resolveReferences q h)) k2_X4_resolveReferences (ax_W_of _ k3_X4_resolveReferences k4_X4_resolveReferences) (by decide +kernel) (fun pc q h => by cases h)
theorem k1_X4_entryAt : (at_X4_entryAt).all (fun q => decide (decode cX4_entryAt q.1 = .ok (q.2.1, q.2.2.1))) = true := by decide +kernel
theorem k2_X4_entryAt : ax_chks ax_T aD_X4_entryAt = true := by decide +kernel
theorem k3_X4_entryAt : ax_needs ax_T ax_n9 ax_j9 ax_m9 aD_X4_entryAt = [434, 272, 441, 441, 884].filterMap (fun i => ax_big[i]?) := by decide +kernel
theorem k4_X4_entryAt : (ax_needs ax_T ax_n9 ax_j9 ax_m9 aD_X4_entryAt).all goodWord = true := by decide +kernel
theorem ok_X4_entryAt : ax_okM ax_Ss ax_T ax_n9 ax_j9 ax_m9 aD_X4_entryAt := ax_okM_of (fun q h => of_decide_eq_true (List.all_eq_true.mp k1_X4_entryAt q h)) k2_X4_entryAt (ax_W_of _ k3_X4_entryAt k4_X4_entryAt) (by decide +kernel) (fun pc q h => by cases h)
end
