section
theorem k1_X9_writeUnits : (at_X9_writeUnits).all (fun q => decide (decode cX9_writeUnits q.1 = .ok (q.2.1, q.2.2.1))) = true := by decide +kernel
theorem k2_X9_writeUnits : ax_chks ax_T aD_X9_writeUnits = true := by decide +kernel
theorem k3_X9_writeUnits : ax_needs ax_T ax_n9 ax_j9 ax_m9 aD_X9_writeUnits = [610, 488, 489, 88, 265, 197, 611, 612, 613, 88, 619, 611, 612, 613, 88, 611, 612, 613, 88, 620, 616, 617, 88, 195, 195, 193, 622, 107, 621, 609].filterMap (fun i => ax_big[i]?) := by decide +kernel
theorem k4_X9_writeUnits : (ax_needs ax_T ax_n9 ax_j9 ax_m9 aD_X9_writeUnits).all goodWord = true := by decide +kernel
theorem ok_X9_writeUnits : ax_okM ax_Ss ax_T ax_n9 ax_j9 ax_m9 aD_X9_writeUnits := ax_okM_of (fun q h => of_decide_eq_true (List.all_eq_true.mp k1_X9_writeUnits q h)) k2_X9_writeUnits (ax_W_of _ k3_X9_writeUnits k4_X9_writeUnits) (by decide +kernel) (fun pc q h => by cases h)
theorem k1_X9_writeEntry : (at_X9_writeEntry).all (fun q => decide (decode cX9_writeEntry q.1 = .ok (q.2.1, q.2.2.1))) = true := by decide +kernel
theorem k2_X9_writeEntry : ax_chks ax_T aD_X9_writeEntry = true := by decide +kernel
theorem k3_X9_writeEntry : ax_needs ax_T ax_n9 ax_j9 ax_m9 aD_X9_writeEntry = [205, 624, 625, 626, 88, 303, 526, 94, 634, 636, 107, 635, 199, 611, 612, 613, 88, 623].filterMap (fun i => ax_big[i]?) := by decide +kernel
theorem k4_X9_writeEntry : (ax_needs ax_T ax_n9 ax_j9 ax_m9 aD_X9_writeEntry).all goodWord = true := by decide +kernel
theorem ok_X9_writeEntry : ax_okM ax_Ss ax_T ax_n9 ax_j9 ax_m9 aD_X9_writeEntry := ax_okM_of (fun q h => of_decide_eq_true (List.all_eq_true.mp k1_X9_writeEntry q h)) k2_X9_writeEntry (ax_W_of _ k3_X9_writeEntry k4_X9_writeEntry) (by decide +kernel) (fun pc q h => by cases h)
theorem k1_X9_writeValue : (at_X9_writeValue).all (fun q => decide (decode cX9_writeValue q.1 = .ok (q.2.1, q.2.2.1))) = true := by decide +kernel
theorem k2_X9_writeValue : ax_chks ax_T aD_X9_writeValue = true := by decide +kernel
theorem k3_X9_writeValue : ax_needs ax_T ax_n9 ax_j9 ax_m9 aD_X9_writeValue = [317, 312, 638, 639, 640, 88, 624, 625, 626, 88, 643, 565, 566, 94, 322, 644, 645, 646, 88, 620, 616, 617, 88, 322, 620, 616, 617, 88, 643, 565, 566, 94, 322, 644, 645, 646, 88, 209, 611, 612, 613, 88, 202, 611, 612, 613, 88, 202, 624, 625, 626, 88, 597, 105, 648, 611, 612, 613, 88, 637].filterMap (fun i => ax_big[i]?) := by decide +kernel
theorem k4_X9_writeValue : (ax_needs ax_T ax_n9 ax_j9 ax_m9 aD_X9_writeValue).all goodWord = true := by decide +kernel
theorem ok_X9_writeValue : ax_okM ax_Ss ax_T ax_n9 ax_j9 ax_m9 aD_X9_writeValue := ax_okM_of (fun q h => of_decide_eq_true (List.all_eq_true.mp k1_X9_writeValue q h)) k2_X9_writeValue (ax_W_of _ k3_X9_writeValue k4_X9_writeValue) (by decide +kernel) (fun pc q h => by cases h)
theorem k1_X9_writeShapes : (at_X9_writeShapes).all (fun q => decide (decode cX9_writeShapes q.1 = .ok (q.2.1, q.2.2.1))) = true := by decide +kernel
theorem k2_X9_writeShapes : ax_chks ax_T aD_X9_writeShapes = true := by decide +kernel
theorem k3_X9_writeShapes : ax_needs ax_T ax_n9 ax_j9 ax_m9 aD_X9_writeShapes = [610, 488, 489, 88, 178, 207, 624, 625, 626, 88, 278, 624, 625, 626, 88, 293, 620, 616, 617, 88, 303, 526, 94, 634, 308, 624, 625, 626, 88, 312, 624, 625, 626, 88, 611, 612, 613, 88, 620, 616, 617, 88, 651].filterMap (fun i => ax_big[i]?) := by decide +kernel
theorem k4_X9_writeShapes : (ax_needs ax_T ax_n9 ax_j9 ax_m9 aD_X9_writeShapes).all goodWord = true := by decide +kernel
theorem ok_X9_writeShapes : ax_okM ax_Ss ax_T ax_n9 ax_j9 ax_m9 aD_X9_writeShapes := ax_okM_of (fun q h => of_decide_eq_true (List.all_eq_true.mp k1_X9_writeShapes q h)) k2_X9_writeShapes (ax_W_of _ k3_X9_writeShapes k4_X9_writeShapes) (by decide +kernel) (fun pc q h => by cases h)
theorem k1_X9_writeTexts : (at_X9_writeTexts).all (fun q => decide (decode cX9_writeTexts q.1 = .ok (q.2.1, q.2.2.1))) = true := by decide +kernel
theorem k2_X9_writeTexts : ax_chks ax_T aD_X9_writeTexts = true := by decide +kernel
theorem k3_X9_writeTexts : ax_needs ax_T ax_n9 ax_j9 ax_m9 aD_X9_writeTexts = [610, 488, 489, 88, 181, 211, 643, 565, 566, 94, 322, 644, 645, 646, 88, 620, 616, 617, 88, 654].filterMap (fun i => ax_big[i]?) := by decide +kernel
theorem k4_X9_writeTexts : (ax_needs ax_T ax_n9 ax_j9 ax_m9 aD_X9_writeTexts).all goodWord = true := by decide +kernel
theorem ok_X9_writeTexts : ax_okM ax_Ss ax_T ax_n9 ax_j9 ax_m9 aD_X9_writeTexts := ax_okM_of (fun q h => of_decide_eq_true (List.all_eq_true.mp k1_X9_writeTexts q h)) k2_X9_writeTexts (ax_W_of _ k3_X9_writeTexts k4_X9_writeTexts) (by decide +kernel) (fun pc q h => by cases h)
end
