section
theorem k1_X9_writeUnits : (at_X9_writeUnits).all (fun q => decide (decode cX9_writeUnits q.1 = .ok (q.2.1, q.2.2.1))) = true := by decide +kernel
theorem k2_X9_writeUnits : ax_chks ax_T aD_X9_writeUnits = true := by decide +kernel
theorem k3_X9_writeUnits : ax_needs ax_T ax_n9 ax_j9 ax_m9 aD_X9_writeUnits = [611, 489, 490, 89, 266, 198, 612, 613, 614, 89, 620, 612, 613, 614, 89, 612, 613, 614, 89, 621, 617, 618, 89, 196, 196, 194, 623, 108, 622, 610].filterMap (fun i => ax_big[i]?) := by decide +kernel
theorem k4_X9_writeUnits : (ax_needs ax_T ax_n9 ax_j9 ax_m9 aD_X9_writeUnits).all goodWord = true := by decide +kernel
theorem ok_X9_writeUnits : ax_okM ax_Ss ax_T ax_n9 ax_j9 ax_m9 aD_X9_writeUnits := ax_okM_of (fun q h => of_decide_eq_true (List.all_eq_true.mp k1_X9_writeUnits q h)) k2_X9_writeUnits (ax_W_of _ k3_X9_writeUnits k4_X9_writeUnits) (by decide +kernel) (fun pc q h => by cases h)
theorem k1_X9_writeEntry : (at_X9_writeEntry).all (fun q => decide (decode cX9_writeEntry q.1 = .ok (q.2.1, q.2.2.1))) = true := by decide +kernel
theorem k2_X9_writeEntry : ax_chks ax_T aD_X9_writeEntry = true := by decide +kernel
theorem k3_X9_writeEntry : ax_needs ax_T ax_n9 ax_j9 ax_m9 aD_X9_writeEntry = [206, 625, 626, 627, 89, 304, 527, 95, 635, 637, 108, 636, 200, 612, 613, 614, 89, 624].filterMap (fun i => ax_big[i]?) := by decide +kernel
theorem k4_X9_writeEntry : (ax_needs ax_T ax_n9 ax_j9 ax_m9 aD_X9_writeEntry).all goodWord = true := by decide +kernel
theorem ok_X9_writeEntry : ax_okM ax_Ss ax_T ax_n9 ax_j9 ax_m9 aD_X9_writeEntry := ax_okM_of (fun q h => of_decide_eq_true (List.all_eq_true.mp k1_X9_writeEntry q h)) k2_X9_writeEntry (ax_W_of _ k3_X9_writeEntry k4_X9_writeEntry) (by decide +kernel) (fun pc q h => by cases h)
theorem k1_X9_writeValue : (at_X9_writeValue).all (fun q => decide (decode cX9_writeValue q.1 = .ok (q.2.1, q.2.2.1))) = true := by decide +kernel
theorem k2_X9_writeValue : ax_chks ax_T aD_X9_writeValue = true := by decide +kernel
theorem k3_X9_writeValue : ax_needs ax_T ax_n9 ax_j9 ax_m9 aD_X9_writeValue = [318, 313, 639, 640, 641, 89, 625, 626, 627, 89, 644, 566, 567, 95, 323, 645, 646, 647, 89, 621, 617, 618, 89, 323, 621, 617, 618, 89, 644, 566, 567, 95, 323, 645, 646, 647, 89, 210, 612, 613, 614, 89, 203, 612, 613, 614, 89, 203, 625, 626, 627, 89, 598, 106, 649, 612, 613, 614, 89, 638].filterMap (fun i => ax_big[i]?) := by decide +kernel
theorem k4_X9_writeValue : (ax_needs ax_T ax_n9 ax_j9 ax_m9 aD_X9_writeValue).all goodWord = true := by decide +kernel
theorem ok_X9_writeValue : ax_okM ax_Ss ax_T ax_n9 ax_j9 ax_m9 aD_X9_writeValue := ax_okM_of (fun q h => of_decide_eq_true (List.all_eq_true.mp k1_X9_writeValue q h)) k2_X9_writeValue (ax_W_of _ k3_X9_writeValue k4_X9_writeValue) (by decide +kernel) (fun pc q h => by cases h)
theorem k1_X9_writeShapes : (at_X9_writeShapes).all (fun q => decide (decode cX9_writeShapes q.1 = .ok (q.2.1, q.2.2.1))) = true := by decide +kernel
theorem k2_X9_writeShapes : ax_chks ax_T aD_X9_writeShapes = true := by decide +kernel
theorem k3_X9_writeShapes : ax_needs ax_T ax_n9 ax_j9 ax_m9 aD_X9_writeShapes = [611, 489, 490, 89, 179, 208, 625, 626, 627, 89, 279, 625, 626, 627, 89, 294, 621, 617, 618, 89, 304, 527, 95, 635, 309, 625, 626, 627, 89, 313, 625, 626, 627, 89, 612, 613, 614, 89, 621, 617, 618, 89, 652].filterMap (fun i => ax_big[i]?) := by decide +kernel
theorem k4_X9_writeShapes : (ax_needs ax_T ax_n9 ax_j9 ax_m9 aD_X9_writeShapes).all goodWord = true := by decide +kernel
theorem ok_X9_writeShapes : ax_okM ax_Ss ax_T ax_n9 ax_j9 ax_m9 aD_X9_writeShapes := ax_okM_of (fun q h => of_decide_eq_true (List.all_eq_true.mp k1_X9_writeShapes q h)) k2_X9_writeShapes (ax_W_of _ k3_X9_writeShapes k4_X9_writeShapes) (by decide +kernel) (fun pc q h => by cases h)
theorem k1_X9_writeTexts : (at_X9_writeTexts).all (fun q => decide (decode cX9_writeTexts q.1 = .ok (q.2.1, q.2.2.1))) = true := by decide +kernel
theorem k2_X9_writeTexts : ax_chks ax_T aD_X9_writeTexts = true := by decide +kernel
theorem k3_X9_writeTexts : ax_needs ax_T ax_n9 ax_j9 ax_m9 aD_X9_writeTexts = [611, 489, 490, 89, 182, 212, 644, 566, 567, 95, 323, 645, 646, 647, 89, 621, 617, 618, 89, 655].filterMap (fun i => ax_big[i]?) := by decide +kernel
theorem k4_X9_writeTexts : (ax_needs ax_T ax_n9 ax_j9 ax_m9 aD_X9_writeTexts).all goodWord = true := by decide +kernel
theorem ok_X9_writeTexts : ax_okM ax_Ss ax_T ax_n9 ax_j9 ax_m9 aD_X9_writeTexts := ax_okM_of (fun q h => of_decide_eq_true (List.all_eq_true.mp k1_X9_writeTexts q h)) k2_X9_writeTexts (ax_W_of _ k3_X9_writeTexts k4_X9_writeTexts) (by decide +kernel) (fun pc q h => by cases h)
end
