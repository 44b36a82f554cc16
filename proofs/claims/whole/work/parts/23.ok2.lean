section
theorem k1_X4_init : (at_X4_init).all (fun q => decide (decode cX4_init q.1 = .ok (q.2.1, q.2.2.1))) = true := by decide +kernel
theorem k2_X4_init : ax_chks ax_T aD_X4_init = true := by decide +kernel
theorem k3_X4_init : ax_needs ax_T ax_n9 ax_j9 ax_m9 aD_X4_init = [259, 115, 116, 260, 261, 95, 262, 263, 95, 435, 360, 361, 96, 362, 363, 96, 437, 396, 397, 97, 398, 399, 97, 439, 178, 442, 178, 443, 258].filterMap (fun i => ax_big[i]?) := by decide +kernel
theorem k4_X4_init : (ax_needs ax_T ax_n9 ax_j9 ax_m9 aD_X4_init).all goodWord = true := by decide +kernel
theorem ok_X4_init : ax_okM ax_Ss ax_T ax_n9 ax_j9 ax_m9 aD_X4_init := ax_okM_of (fun q h => of_decide_eq_true (List.all_eq_true.mp k1_X4_init q h)) k2_X4_init (ax_W_of _ k3_X4_init k4_X4_init) (by decide +kernel) (fun pc q h => by cases h)
theorem k1_X4_readUnits : (at_X4_readUnits).all (fun q => decide (decode cX4_readUnits q.1 = .ok (q.2.1, q.2.2.1))) = true := by decide +kernel
theorem k2_X4_readUnits : ax_chks ax_T aD_X4_readUnits = true := by decide +kernel
theorem k3_X4_readUnits : ax_needs ax_T ax_n9 ax_j9 ax_m9 aD_X4_readUnits = [437, 669, 670, 671, 96, 435, 673, 485, 486, 95, 440, 441, 143, 674, 657, 658, 89, 437, 675, 676, 677, 96, 437, 683, 684, 685, 96, 755, 757, 13, 94, 437, 372, 767, 769, 14, 94, 437, 675, 676, 677, 96, 826, 828, 18, 94, 437, 369, 437, 437, 369, 683, 684, 685, 96, 435, 275, 881, 883, 23, 94, 668].filterMap (fun i => ax_big[i]?) := by decide +kernel
theorem k4_X4_readUnits : (ax_needs ax_T ax_n9 ax_j9 ax_m9 aD_X4_readUnits).all goodWord = true := by decide +kernel
theorem ok_X4_readUnits : ax_okM ax_Ss ax_T ax_n9 ax_j9 ax_m9 aD_X4_readUnits := ax_okM_of (fun q h => of_decide_eq_true (List.all_eq_true.mp k1_X4_readUnits q h)) k2_X4_readUnits (ax_W_of _ k3_X4_readUnits k4_X4_readUnits) (by decide +kernel) (fun pc q h => by cases h)
theorem k1_X4_readHeader : (at_X4_readHeader).all (fun q => decide (decode cX4_readHeader q.1 = .ok (q.2.1, q.2.2.1))) = true := by decide +kernel
theorem k2_X4_readHeader : ax_chks ax_T aD_X4_readHeader = true := by decide +kernel
theorem k3_X4_readHeader : ax_needs ax_T ax_n9 ax_j9 ax_m9 aD_X4_readHeader = [437, 759, 760, 761, 96, 437, 372, 437, 369, 437, 683, 684, 685, 96, 437, 437, 369, 372, 437, 369, 437, 759, 760, 761, 96, 765, 437, 683, 684, 685, 96, 437, 369, 437, 759, 760, 761, 96, 146, 674, 657, 658, 89, 437, 683, 684, 685, 96, 437, 369, 437, 759, 760, 761, 96, 766, 437, 683, 684, 685, 96, 758].filterMap (fun i => ax_big[i]?) := by decide +kernel
theorem k4_X4_readHeader : (ax_needs ax_T ax_n9 ax_j9 ax_m9 aD_X4_readHeader).all goodWord = true := by decide +kernel
theorem ok_X4_readHeader : ax_okM ax_Ss ax_T ax_n9 ax_j9 ax_m9 aD_X4_readHeader := ax_okM_of (fun q h => of_decide_eq_true (List.all_eq_true.mp k1_X4_readHeader q h)) k2_X4_readHeader (ax_W_of _ k3_X4_readHeader k4_X4_readHeader) (by decide +kernel) (fun pc q h => by cases h)
theorem k1_X4_readTable : (at_X4_readTable).all (fun q => decide (decode cX4_readTable q.1 = .ok (q.2.1, q.2.2.1))) = true := by decide +kernel
theorem k2_X4_readTable : ax_chks ax_T aD_X4_readTable = true := by decide +kernel
theorem k3_X4_readTable : ax_needs ax_T ax_n9 ax_j9 ax_m9 aD_X4_readTable = [440, 437, 146, 674, 657, 658, 89, 675, 676, 677, 96, 439, 437, 771, 772, 773, 97, 440, 770].filterMap (fun i => ax_big[i]?) := by decide +kernel
theorem k4_X4_readTable : (ax_needs ax_T ax_n9 ax_j9 ax_m9 aD_X4_readTable).all goodWord = true := by decide +kernel
theorem ok_X4_readTable : ax_okM ax_Ss ax_T ax_n9 ax_j9 ax_m9 aD_X4_readTable := ax_okM_of (fun q h => of_decide_eq_true (List.all_eq_true.mp k1_X4_readTable q h)) k2_X4_readTable (ax_W_of _ k3_X4_readTable k4_X4_readTable) (by decide +kernel) (fun pc q h => by cases h)
theorem k1_X4_readEntries : (at_X4_readEntries).all (fun q => decide (decode cX4_readEntries q.1 = .ok (q.2.1, q.2.2.1))) = true := by decide +kernel
theorem k2_X4_readEntries : ax_chks ax_T aD_X4_readEntries = true := by decide +kernel
theorem k3_X4_readEntries : ax_needs ax_T ax_n9 ax_j9 ax_m9 aD_X4_readEntries = [437, 369, 437, 830, 777, 778, 96, 435, 284, 439, 831, 787, 788, 97, 437, 683, 684, 685, 96, 832, 834, 19, 94, 442, 439, 407, 829].filterMap (fun i => ax_big[i]?) := by decide +kernel
theorem k4_X4_readEntries : (ax_needs ax_T ax_n9 ax_j9 ax_m9 aD_X4_readEntries).all goodWord = true := by decide +kernel
theorem ok_X4_readEntries : ax_okM ax_Ss ax_T ax_n9 ax_j9 ax_m9 aD_X4_readEntries := ax_okM_of (fun q h => of_decide_eq_true (List.all_eq_true.mp k1_X4_readEntries q h)) k2_X4_readEntries (ax_W_of _ k3_X4_readEntries k4_X4_readEntries) (by decide +kernel) (fun pc q h => by cases h)
theorem k1_X4_readEntry : (at_X4_readEntry).all (fun q => decide (decode cX4_readEntry q.1 = .ok (q.2.1, q.2.2.1))) = true := by decide +kernel
theorem k2_X4_readEntry : ax_chks ax_T aD_X4_readEntry = true := by decide +kernel
theorem k3_X4_readEntry : ax_needs ax_T ax_n9 ax_j9 ax_m9 aD_X4_readEntry = [435, 273, 435, 291, 437, 683, 684, 685, 96, 435, 439, 405, 836, 837, 838, 95, 435, 439, 405, 844, 845, 846, 95, 439, 409, 527, 95, 848, 439, 413, 817, 106, 849, 439, 411, 439, 413, 850, 852, 21, 94, 439, 411, 439, 413, 875, 877, 22, 94, 835].filterMap (fun i => ax_big[i]?) := by decide +kernel
theorem k4_X4_readEntry : (ax_needs ax_T ax_n9 ax_j9 ax_m9 aD_X4_readEntry).all goodWord = true := by decide +kernel
theorem ok_X4_readEntry : ax_okM ax_Ss ax_T ax_n9 ax_j9 ax_m9 aD_X4_readEntry := ax_okM_of (fun q h => of_decide_eq_true (List.all_eq_true.mp k1_X4_readEntry q h)) k2_X4_readEntry (ax_W_of _ k3_X4_readEntry k4_X4_readEntry) (by decide +kernel) (fun pc q h => by cases h)
theorem k1_X4_readNumber : (at_X4_readNumber).all (fun q => decide (decode cX4_readNumber q.1 = .ok (q.2.1, q.2.2.1))) = true := by decide +kernel
theorem k2_X4_readNumber : ax_chks ax_T aD_X4_readNumber = true := by decide +kernel
theorem k3_X4_readNumber : ax_needs ax_T ax_n9 ax_j9 ax_m9 aD_X4_readNumber = [437, 369, 443, 435, 305, 527, 95, 848, 437, 879, 781, 782, 96, 437, 879, 781, 782, 96, 437, 830, 777, 778, 96, 437, 598, 106, 880, 759, 760, 761, 96, 437, 683, 684, 685, 96, 435, 870, 871, 872, 95, 878].filterMap (fun i => ax_big[i]?) := by decide +kernel
theorem k4_X4_readNumber : (ax_needs ax_T ax_n9 ax_j9 ax_m9 aD_X4_readNumber).all goodWord = true := by decide +kernel
theorem ok_X4_readNumber : ax_okM ax_Ss ax_T ax_n9 ax_j9 ax_m9 aD_X4_readNumber := ax_okM_of (fun q h => of_decide_eq_true (List.all_eq_true.mp k1_X4_readNumber q h)) k2_X4_readNumber (ax_W_of _ k3_X4_readNumber k4_X4_readNumber) (by decide +kernel) (fun pc q h => by cases h)
theorem k1_X4_readLetters : (at_X4_readLetters).all (fun q => decide (decode cX4_readLetters q.1 = .ok (q.2.1, q.2.2.1))) = true := by decide +kernel
theorem k2_X4_readLetters : ax_chks ax_T aD_X4_readLetters = true := by decide +kernel
theorem k3_X4_readLetters : ax_needs ax_T ax_n9 ax_j9 ax_m9 aD_X4_readLetters = [437, 369, 437, 854, 855, 856, 96, 437, 759, 760, 761, 96, 437, 369, 437, 862, 863, 864, 96, 437, 759, 760, 761, 96, 149, 867, 94, 866, 437, 683, 684, 685, 96, 441, 441, 441, 437, 683, 684, 685, 96, 435, 870, 871, 872, 95, 853].filterMap (fun i => ax_big[i]?) := by decide +kernel
theorem k4_X4_readLetters : (ax_needs ax_T ax_n9 ax_j9 ax_m9 aD_X4_readLetters).all goodWord = true := by decide +kernel
theorem ok_X4_readLetters : ax_okM ax_Ss ax_T ax_n9 ax_j9 ax_m9 aD_X4_readLetters := ax_okM_of (fun q h => of_decide_eq_true (List.all_eq_true.mp k1_X4_readLetters q h)) k2_X4_readLetters (ax_W_of _ k3_X4_readLetters k4_X4_readLetters) (by decide +kernel) (fun pc q h => by cases h)
theorem k1_X4_keptLength : (at_X4_keptLength).all (fun q => decide (decode cX4_keptLength q.1 = .ok (q.2.1, q.2.2.1))) = true := by decide +kernel
theorem k2_X4_keptLength : ax_chks ax_T aD_X4_keptLength = true := by decide +kernel
theorem k3_X4_keptLength : ax_needs ax_T ax_n9 ax_j9 ax_m9 aD_X4_keptLength = [674, 657, 658, 89, 674, 657, 658, 89, 869, 859, 860, 89, 868].filterMap (fun i => ax_big[i]?) := by decide +kernel
theorem k4_X4_keptLength : (ax_needs ax_T ax_n9 ax_j9 ax_m9 aD_X4_keptLength).all goodWord = true := by decide +kernel
theorem ok_X4_keptLength : ax_okM ax_Ss ax_T ax_n9 ax_j9 ax_m9 aD_X4_keptLength := ax_okM_of (fun q h => of_decide_eq_true (List.all_eq_true.mp k1_X4_keptLength q h)) k2_X4_keptLength (ax_W_of _ k3_X4_keptLength k4_X4_keptLength) (by decide +kernel) (fun pc q h => by cases h)
theorem k1_X4_resolveReferences : (at_X4_resolveReferences).all (fun q => decide (decode cX4_resolveReferences q.1 = .ok (q.2.1, q.2.2.1))) = true := by decide +kernel
theorem k2_X4_resolveReferences : ax_chks ax_T aD_X4_resolveReferences = true := by decide +kernel
theorem k3_X4_resolveReferences : ax_needs ax_T ax_n9 ax_j9 ax_m9 aD_X4_resolveReferences = [435, 273, 435, 305, 527, 95, 848, 435, 315, 823, 106, 885, 435, 319, 886, 888, 24, 94, 437, 443, 683, 684, 685, 96, 435, 319, 884].filterMap (fun i => ax_big[i]?) := by decide +kernel
theorem k4_X4_resolveReferences : (ax_needs ax_T ax_n9 ax_j9 ax_m9 aD_X4_resolveReferences).all goodWord = true := by decide +kernel
theorem ok_X4_resolveReferences : ax_okM ax_Ss ax_T ax_n9 ax_j9 ax_m9 aD_X4_resolveReferences := ax_okM_of (fun q h => of_decide_eq_true (List.all_eq_true.mp k1_X4_resolveReferences q h)) k2_X4_resolveReferences (ax_W_of _ k3_X4_resolveReferences k4_X4_resolveReferences) (by decide +kernel) (fun pc q h => by cases h)
theorem k1_X4_entryAt : (at_X4_entryAt).all (fun q => decide (decode cX4_entryAt q.1 = .ok (q.2.1, q.2.2.1))) = true := by decide +kernel
theorem k2_X4_entryAt : ax_chks ax_T aD_X4_entryAt = true := by decide +kernel
theorem k3_X4_entryAt : ax_needs ax_T ax_n9 ax_j9 ax_m9 aD_X4_entryAt = [435, 273, 442, 442, 889].filterMap (fun i => ax_big[i]?) := by decide +kernel
theorem k4_X4_entryAt : (ax_needs ax_T ax_n9 ax_j9 ax_m9 aD_X4_entryAt).all goodWord = true := by decide +kernel
theorem ok_X4_entryAt : ax_okM ax_Ss ax_T ax_n9 ax_j9 ax_m9 aD_X4_entryAt := ax_okM_of (fun q h => of_decide_eq_true (List.all_eq_true.mp k1_X4_entryAt q h)) k2_X4_entryAt (ax_W_of _ k3_X4_entryAt k4_X4_entryAt) (by decide +kernel) (fun pc q h => by cases h)
end
