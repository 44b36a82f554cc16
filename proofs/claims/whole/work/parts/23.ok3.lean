section
theorem k1_X5_init : (at_X5_init).all (fun q => decide (decode cX5_init q.1 = .ok (q.2.1, q.2.2.1))) = true := by decide +kernel
theorem k2_X5_init : ax_chks ax_T aD_X5_init = true := by decide +kernel
theorem k3_X5_init : ax_needs ax_T ax_n9 ax_j9 ax_m9 aD_X5_init = [138, 114, 115, 139, 117, 88, 140, 119, 88, 141, 139, 117, 88, 140, 119, 88, 144, 139, 117, 88, 140, 119, 88, 147, 137].filterMap (fun i => ax_big[i]?) := by decide +kernel
theorem k4_X5_init : (ax_needs ax_T ax_n9 ax_j9 ax_m9 aD_X5_init).all goodWord = true := by decide +kernel
theorem ok_X5_init : ax_okM ax_Ss ax_T ax_n9 ax_j9 ax_m9 aD_X5_init := ax_okM_of (fun q h => of_decide_eq_true (List.all_eq_true.mp k1_X5_init q h)) k2_X5_init (ax_W_of _ k3_X5_init k4_X5_init) (by decide +kernel) (fun pc q h => by cases h)
theorem k1_X5_of : (at_X5_of).all (fun q => decide (decode cX5_of q.1 = .ok (q.2.1, q.2.2.1))) = true := by decide +kernel
theorem k2_X5_of : ax_chks ax_T aD_X5_of = true := by decide +kernel
theorem k3_X5_of : ax_needs ax_T ax_n9 ax_j9 ax_m9 aD_X5_of = [141, 144, 147, 681].filterMap (fun i => ax_big[i]?) := by decide +kernel
theorem k4_X5_of : (ax_needs ax_T ax_n9 ax_j9 ax_m9 aD_X5_of).all goodWord = true := by decide +kernel
theorem ok_X5_of : ax_okM ax_Ss ax_T ax_n9 ax_j9 ax_m9 aD_X5_of := ax_okM_of (fun q h => of_decide_eq_true (List.all_eq_true.mp k1_X5_of q h)) k2_X5_of (ax_W_of _ k3_X5_of k4_X5_of) (by decide +kernel) (fun pc q h => by cases h)
theorem k1_X6_init : (at_X6_init).all (fun q => decide (decode cX6_init q.1 = .ok (q.2.1, q.2.2.1))) = true := by decide +kernel
theorem k2_X6_init : ax_chks ax_T aD_X6_init = true := by decide +kernel
theorem k3_X6_init : ax_needs ax_T ax_n9 ax_j9 ax_m9 aD_X6_init = [121, 114, 115, 122, 123, 89, 124, 132, 125, 120].filterMap (fun i => ax_big[i]?) := by decide +kernel
theorem k4_X6_init : (ax_needs ax_T ax_n9 ax_j9 ax_m9 aD_X6_init).all goodWord = true := by decide +kernel
theorem ok_X6_init : ax_okM ax_Ss ax_T ax_n9 ax_j9 ax_m9 aD_X6_init := ax_okM_of (fun q h => of_decide_eq_true (List.all_eq_true.mp k1_X6_init q h)) k2_X6_init (ax_W_of _ k3_X6_init k4_X6_init) (by decide +kernel) (fun pc q h => by cases h)
theorem k1_X6_used : (at_X6_used).all (fun q => decide (decode cX6_used q.1 = .ok (q.2.1, q.2.2.1))) = true := by decide +kernel
theorem k2_X6_used : ax_chks ax_T aD_X6_used = true := by decide +kernel
theorem k3_X6_used : ax_needs ax_T ax_n9 ax_j9 ax_m9 aD_X6_used = [126, 658].filterMap (fun i => ax_big[i]?) := by decide +kernel
theorem k4_X6_used : (ax_needs ax_T ax_n9 ax_j9 ax_m9 aD_X6_used).all goodWord = true := by decide +kernel
theorem ok_X6_used : ax_okM ax_Ss ax_T ax_n9 ax_j9 ax_m9 aD_X6_used := ax_okM_of (fun q h => of_decide_eq_true (List.all_eq_true.mp k1_X6_used q h)) k2_X6_used (ax_W_of _ k3_X6_used k4_X6_used) (by decide +kernel) (fun pc q h => by cases h)
theorem k1_X6_most : (at_X6_most).all (fun q => decide (decode cX6_most q.1 = .ok (q.2.1, q.2.2.1))) = true := by decide +kernel
theorem k2_X6_most : ax_chks ax_T aD_X6_most = true := by decide +kernel
theorem k3_X6_most : ax_needs ax_T ax_n9 ax_j9 ax_m9 aD_X6_most = [125, 1098].filterMap (fun i => ax_big[i]?) := by decide +kernel
theorem k4_X6_most : (ax_needs ax_T ax_n9 ax_j9 ax_m9 aD_X6_most).all goodWord = true := by decide +kernel
theorem ok_X6_most : ax_okM ax_Ss ax_T ax_n9 ax_j9 ax_m9 aD_X6_most := ax_okM_of (fun q h => of_decide_eq_true (List.all_eq_true.mp k1_X6_most q h)) k2_X6_most (ax_W_of _ k3_X6_most k4_X6_most) (by decide +kernel) (fun pc q h => by cases h)
theorem k1_X6_room : (at_X6_room).all (fun q => decide (decode cX6_room q.1 = .ok (q.2.1, q.2.2.1))) = true := by decide +kernel
theorem k2_X6_room : ax_chks ax_T aD_X6_room = true := by decide +kernel
theorem k3_X6_room : ax_needs ax_T ax_n9 ax_j9 ax_m9 aD_X6_room = [125, 126, 921].filterMap (fun i => ax_big[i]?) := by decide +kernel
theorem k4_X6_room : (ax_needs ax_T ax_n9 ax_j9 ax_m9 aD_X6_room).all goodWord = true := by decide +kernel
theorem ok_X6_room : ax_okM ax_Ss ax_T ax_n9 ax_j9 ax_m9 aD_X6_room := ax_okM_of (fun q h => of_decide_eq_true (List.all_eq_true.mp k1_X6_room q h)) k2_X6_room (ax_W_of _ k3_X6_room k4_X6_room) (by decide +kernel) (fun pc q h => by cases h)
theorem k1_X6_at : (at_X6_at).all (fun q => decide (decode cX6_at q.1 = .ok (q.2.1, q.2.2.1))) = true := by decide +kernel
theorem k2_X6_at : ax_chks ax_T aD_X6_at = true := by decide +kernel
theorem k3_X6_at : ax_needs ax_T ax_n9 ax_j9 ax_m9 aD_X6_at = [126, 125, 575].filterMap (fun i => ax_big[i]?) := by decide +kernel
theorem k4_X6_at : (ax_needs ax_T ax_n9 ax_j9 ax_m9 aD_X6_at).all goodWord = true := by decide +kernel
theorem ok_X6_at : ax_okM ax_Ss ax_T ax_n9 ax_j9 ax_m9 aD_X6_at := ax_okM_of (fun q h => of_decide_eq_true (List.all_eq_true.mp k1_X6_at q h)) k2_X6_at (ax_W_of _ k3_X6_at k4_X6_at) (by decide +kernel) (fun pc q h => by cases h)
theorem k1_X6_change : (at_X6_change).all (fun q => decide (decode cX6_change q.1 = .ok (q.2.1, q.2.2.1))) = true := by decide +kernel
theorem k2_X6_change : ax_chks ax_T aD_X6_change = true := by decide +kernel
theorem k3_X6_change : ax_needs ax_T ax_n9 ax_j9 ax_m9 aD_X6_change = [126, 125, 125, 1110].filterMap (fun i => ax_big[i]?) := by decide +kernel
theorem k4_X6_change : (ax_needs ax_T ax_n9 ax_j9 ax_m9 aD_X6_change).all goodWord = true := by decide +kernel
theorem ok_X6_change : ax_okM ax_Ss ax_T ax_n9 ax_j9 ax_m9 aD_X6_change := ax_okM_of (fun q h => of_decide_eq_true (List.all_eq_true.mp k1_X6_change q h)) k2_X6_change (ax_W_of _ k3_X6_change k4_X6_change) (by decide +kernel) (fun pc q h => by cases h)
theorem k1_X6_cut : (at_X6_cut).all (fun q => decide (decode cX6_cut q.1 = .ok (q.2.1, q.2.2.1))) = true := by decide +kernel
theorem k2_X6_cut : ax_chks ax_T aD_X6_cut = true := by decide +kernel
theorem k3_X6_cut : ax_needs ax_T ax_n9 ax_j9 ax_m9 aD_X6_cut = [126, 126, 490].filterMap (fun i => ax_big[i]?) := by decide +kernel
theorem k4_X6_cut : (ax_needs ax_T ax_n9 ax_j9 ax_m9 aD_X6_cut).all goodWord = true := by decide +kernel
theorem ok_X6_cut : ax_okM ax_Ss ax_T ax_n9 ax_j9 ax_m9 aD_X6_cut := ax_okM_of (fun q h => of_decide_eq_true (List.all_eq_true.mp k1_X6_cut q h)) k2_X6_cut (ax_W_of _ k3_X6_cut k4_X6_cut) (by decide +kernel) (fun pc q h => by cases h)
theorem k1_X6_add : (at_X6_add).all (fun q => decide (decode cX6_add q.1 = .ok (q.2.1, q.2.2.1))) = true := by decide +kernel
theorem k2_X6_add : ax_chks ax_T aD_X6_add = true := by decide +kernel
theorem k3_X6_add : ax_needs ax_T ax_n9 ax_j9 ax_m9 aD_X6_add = [126, 125, 125, 126, 126, 126, 618].filterMap (fun i => ax_big[i]?) := by decide +kernel
theorem k4_X6_add : (ax_needs ax_T ax_n9 ax_j9 ax_m9 aD_X6_add).all goodWord = true := by decide +kernel
theorem ok_X6_add : ax_okM ax_Ss ax_T ax_n9 ax_j9 ax_m9 aD_X6_add := ax_okM_of (fun q h => of_decide_eq_true (List.all_eq_true.mp k1_X6_add q h)) k2_X6_add (ax_W_of _ k3_X6_add k4_X6_add) (by decide +kernel) (fun pc q h => by cases h)
theorem k1_X6_addHighFirst : (at_X6_addHighFirst).all (fun q => decide (decode cX6_addHighFirst q.1 = .ok (q.2.1, q.2.2.1))) = true := by decide +kernel
theorem k2_X6_addHighFirst : ax_chks ax_T aD_X6_addHighFirst = true := by decide +kernel
theorem k3_X6_addHighFirst : ax_needs ax_T ax_n9 ax_j9 ax_m9 aD_X6_addHighFirst = [615, 616, 617, 88, 927].filterMap (fun i => ax_big[i]?) := by decide +kernel
theorem k4_X6_addHighFirst : (ax_needs ax_T ax_n9 ax_j9 ax_m9 aD_X6_addHighFirst).all goodWord = true := by decide +kernel
theorem ok_X6_addHighFirst : ax_okM ax_Ss ax_T ax_n9 ax_j9 ax_m9 aD_X6_addHighFirst := ax_okM_of (fun q h => of_decide_eq_true (List.all_eq_true.mp k1_X6_addHighFirst q h)) k2_X6_addHighFirst (ax_W_of _ k3_X6_addHighFirst k4_X6_addHighFirst) (by decide +kernel) (fun pc q h => by cases h)
theorem k1_X6_addLowFirst : (at_X6_addLowFirst).all (fun q => decide (decode cX6_addLowFirst q.1 = .ok (q.2.1, q.2.2.1))) = true := by decide +kernel
theorem k2_X6_addLowFirst : ax_chks ax_T aD_X6_addLowFirst = true := by decide +kernel
theorem k3_X6_addLowFirst : ax_needs ax_T ax_n9 ax_j9 ax_m9 aD_X6_addLowFirst = [615, 616, 617, 88, 614].filterMap (fun i => ax_big[i]?) := by decide +kernel
theorem k4_X6_addLowFirst : (ax_needs ax_T ax_n9 ax_j9 ax_m9 aD_X6_addLowFirst).all goodWord = true := by decide +kernel
theorem ok_X6_addLowFirst : ax_okM ax_Ss ax_T ax_n9 ax_j9 ax_m9 aD_X6_addLowFirst := ax_okM_of (fun q h => of_decide_eq_true (List.all_eq_true.mp k1_X6_addLowFirst q h)) k2_X6_addLowFirst (ax_W_of _ k3_X6_addLowFirst k4_X6_addLowFirst) (by decide +kernel) (fun pc q h => by cases h)
theorem k1_X6_addRow : (at_X6_addRow).all (fun q => decide (decode cX6_addRow q.1 = .ok (q.2.1, q.2.2.1))) = true := by decide +kernel
theorem k2_X6_addRow : ax_chks ax_T aD_X6_addRow = true := by decide +kernel
theorem k3_X6_addRow : ax_needs ax_T ax_n9 ax_j9 ax_m9 aD_X6_addRow = [554, 88, 628, 629, 631, 11, 88, 627].filterMap (fun i => ax_big[i]?) := by decide +kernel
theorem k4_X6_addRow : (ax_needs ax_T ax_n9 ax_j9 ax_m9 aD_X6_addRow).all goodWord = true := by decide +kernel
theorem ok_X6_addRow : ax_okM ax_Ss ax_T ax_n9 ax_j9 ax_m9 aD_X6_addRow := ax_okM_of (fun q h => of_decide_eq_true (List.all_eq_true.mp k1_X6_addRow q h)) k2_X6_addRow (ax_W_of _ k3_X6_addRow k4_X6_addRow) (by decide +kernel) (fun pc q h => by cases h)
theorem k1_X6_addSignedRow : (at_X6_addSignedRow).all (fun q => decide (decode cX6_addSignedRow q.1 = .ok (q.2.1, q.2.2.1))) = true := by decide +kernel
theorem k2_X6_addSignedRow : ax_chks ax_T aD_X6_addSignedRow = true := by decide +kernel
theorem k3_X6_addSignedRow : ax_needs ax_T ax_n9 ax_j9 ax_m9 aD_X6_addSignedRow = [592, 88, 642, 629, 631, 11, 88, 641].filterMap (fun i => ax_big[i]?) := by decide +kernel
theorem k4_X6_addSignedRow : (ax_needs ax_T ax_n9 ax_j9 ax_m9 aD_X6_addSignedRow).all goodWord = true := by decide +kernel
theorem ok_X6_addSignedRow : ax_okM ax_Ss ax_T ax_n9 ax_j9 ax_m9 aD_X6_addSignedRow := ax_okM_of (fun q h => of_decide_eq_true (List.all_eq_true.mp k1_X6_addSignedRow q h)) k2_X6_addSignedRow (ax_W_of _ k3_X6_addSignedRow k4_X6_addSignedRow) (by decide +kernel) (fun pc q h => by cases h)
theorem k1_X6_addSevens : (at_X6_addSevens).all (fun q => decide (decode cX6_addSevens q.1 = .ok (q.2.1, q.2.2.1))) = true := by decide +kernel
theorem k2_X6_addSevens : ax_chks ax_T aD_X6_addSevens = true := by decide +kernel
theorem k3_X6_addSevens : ax_needs ax_T ax_n9 ax_j9 ax_m9 aD_X6_addSevens = [633, 615, 616, 617, 88, 632].filterMap (fun i => ax_big[i]?) := by decide +kernel
theorem k4_X6_addSevens : (ax_needs ax_T ax_n9 ax_j9 ax_m9 aD_X6_addSevens).all goodWord = true := by decide +kernel
theorem ok_X6_addSevens : ax_okM ax_Ss ax_T ax_n9 ax_j9 ax_m9 aD_X6_addSevens := ax_okM_of (fun q h => of_decide_eq_true (List.all_eq_true.mp k1_X6_addSevens q h)) k2_X6_addSevens (ax_W_of _ k3_X6_addSevens k4_X6_addSevens) (by decide +kernel) (fun pc q h => by cases h)
theorem k1_X6_addFrom : (at_X6_addFrom).all (fun q => decide (decode cX6_addFrom q.1 = .ok (q.2.1, q.2.2.1))) = true := by decide +kernel
theorem k2_X6_addFrom : ax_chks ax_T aD_X6_addFrom = true := by decide +kernel
theorem k3_X6_addFrom : ax_needs ax_T ax_n9 ax_j9 ax_m9 aD_X6_addFrom = [572, 573, 574, 88, 615, 616, 617, 88, 647].filterMap (fun i => ax_big[i]?) := by decide +kernel
theorem k4_X6_addFrom : (ax_needs ax_T ax_n9 ax_j9 ax_m9 aD_X6_addFrom).all goodWord = true := by decide +kernel
theorem ok_X6_addFrom : ax_okM ax_Ss ax_T ax_n9 ax_j9 ax_m9 aD_X6_addFrom := ax_okM_of (fun q h => of_decide_eq_true (List.all_eq_true.mp k1_X6_addFrom q h)) k2_X6_addFrom (ax_W_of _ k3_X6_addFrom k4_X6_addFrom) (by decide +kernel) (fun pc q h => by cases h)
theorem k1_X6_same : (at_X6_same).all (fun q => decide (decode cX6_same q.1 = .ok (q.2.1, q.2.2.1))) = true := by decide +kernel
theorem k2_X6_same : ax_chks ax_T aD_X6_same = true := by decide +kernel
theorem k3_X6_same : ax_needs ax_T ax_n9 ax_j9 ax_m9 aD_X6_same = [572, 573, 574, 88, 572, 573, 574, 88, 583].filterMap (fun i => ax_big[i]?) := by decide +kernel
theorem k4_X6_same : (ax_needs ax_T ax_n9 ax_j9 ax_m9 aD_X6_same).all goodWord = true := by decide +kernel
theorem ok_X6_same : ax_okM ax_Ss ax_T ax_n9 ax_j9 ax_m9 aD_X6_same := ax_okM_of (fun q h => of_decide_eq_true (List.all_eq_true.mp k1_X6_same q h)) k2_X6_same (ax_W_of _ k3_X6_same k4_X6_same) (by decide +kernel) (fun pc q h => by cases h)
theorem k1_X6_hash : (at_X6_hash).all (fun q => decide (decode cX6_hash q.1 = .ok (q.2.1, q.2.2.1))) = true := by decide +kernel
theorem k2_X6_hash : ax_chks ax_T aD_X6_hash = true := by decide +kernel
theorem k3_X6_hash : ax_needs ax_T ax_n9 ax_j9 ax_m9 aD_X6_hash = [572, 573, 574, 88, 571].filterMap (fun i => ax_big[i]?) := by decide +kernel
theorem k4_X6_hash : (ax_needs ax_T ax_n9 ax_j9 ax_m9 aD_X6_hash).all goodWord = true := by decide +kernel
theorem ok_X6_hash : ax_okM ax_Ss ax_T ax_n9 ax_j9 ax_m9 aD_X6_hash := ax_okM_of (fun q h => of_decide_eq_true (List.all_eq_true.mp k1_X6_hash q h)) k2_X6_hash (ax_W_of _ k3_X6_hash k4_X6_hash) (by decide +kernel) (fun pc q h => by cases h)
theorem k1_X6_zeroFrom : (at_X6_zeroFrom).all (fun q => decide (decode cX6_zeroFrom q.1 = .ok (q.2.1, q.2.2.1))) = true := by decide +kernel
theorem k2_X6_zeroFrom : ax_chks ax_T aD_X6_zeroFrom = true := by decide +kernel
theorem k3_X6_zeroFrom : ax_needs ax_T ax_n9 ax_j9 ax_m9 aD_X6_zeroFrom = [572, 573, 574, 88, 856].filterMap (fun i => ax_big[i]?) := by decide +kernel
theorem k4_X6_zeroFrom : (ax_needs ax_T ax_n9 ax_j9 ax_m9 aD_X6_zeroFrom).all goodWord = true := by decide +kernel
theorem ok_X6_zeroFrom : ax_okM ax_Ss ax_T ax_n9 ax_j9 ax_m9 aD_X6_zeroFrom := ax_okM_of (fun q h => of_decide_eq_true (List.all_eq_true.mp k1_X6_zeroFrom q h)) k2_X6_zeroFrom (ax_W_of _ k3_X6_zeroFrom k4_X6_zeroFrom) (by decide +kernel) (fun pc q h => by cases h)
theorem k1_X6_rowSize : (at_X6_rowSize).all (fun q => decide (decode cX6_rowSize q.1 = .ok (q.2.1, q.2.2.1))) = true := by decide +kernel
theorem k2_X6_rowSize : ax_chks ax_T aD_X6_rowSize = true := by decide +kernel
theorem k3_X6_rowSize : ax_needs ax_T ax_n9 ax_j9 ax_m9 aD_X6_rowSize = [555].filterMap (fun i => ax_big[i]?) := by decide +kernel
theorem k4_X6_rowSize : (ax_needs ax_T ax_n9 ax_j9 ax_m9 aD_X6_rowSize).all goodWord = true := by decide +kernel
theorem ok_X6_rowSize : ax_okM ax_Ss ax_T ax_n9 ax_j9 ax_m9 aD_X6_rowSize := ax_okM_of (fun q h => of_decide_eq_true (List.all_eq_true.mp k1_X6_rowSize q h)) k2_X6_rowSize (ax_W_of _ k3_X6_rowSize k4_X6_rowSize) (by decide +kernel) (fun pc q h => by cases h)
theorem k1_X6_signedRowSize : (at_X6_signedRowSize).all (fun q => decide (decode cX6_signedRowSize q.1 = .ok (q.2.1, q.2.2.1))) = true := by decide +kernel
theorem k2_X6_signedRowSize : ax_chks ax_T aD_X6_signedRowSize = true := by decide +kernel
theorem k3_X6_signedRowSize : ax_needs ax_T ax_n9 ax_j9 ax_m9 aD_X6_signedRowSize = [594, 595, 593].filterMap (fun i => ax_big[i]?) := by decide +kernel
theorem k4_X6_signedRowSize : (ax_needs ax_T ax_n9 ax_j9 ax_m9 aD_X6_signedRowSize).all goodWord = true := by decide +kernel
theorem ok_X6_signedRowSize : ax_okM ax_Ss ax_T ax_n9 ax_j9 ax_m9 aD_X6_signedRowSize := ax_okM_of (fun q h => of_decide_eq_true (List.all_eq_true.mp k1_X6_signedRowSize q h)) k2_X6_signedRowSize (ax_W_of _ k3_X6_signedRowSize k4_X6_signedRowSize) (by decide +kernel) (fun pc q h => by cases h)
end
