section
theorem k1_X10_init : (at_X10_init).all (fun q => decide (decode cX10_init q.1 = .ok (q.2.1, q.2.2.1))) = true := by decide +kernel
theorem k2_X10_init : ax_chks ax_T aD_X10_init = true := by decide +kernel
theorem k3_X10_init : ax_needs ax_T ax_n9 ax_j9 ax_m9 aD_X10_init = [114, 115, 116, 117, 118, 89, 119, 120, 89, 461, 117, 118, 89, 119, 120, 89, 462, 134, 135, 91, 136, 137, 91, 463, 158, 159, 92, 160, 161, 92, 464, 254, 255, 94, 256, 257, 94, 465, 459, 261, 95, 460, 263, 95, 466, 113].filterMap (fun i => ax_big[i]?) := by decide +kernel
theorem k4_X10_init : (ax_needs ax_T ax_n9 ax_j9 ax_m9 aD_X10_init).all goodWord = true := by decide +kernel
theorem ok_X10_init : ax_okM ax_Ss ax_T ax_n9 ax_j9 ax_m9 aD_X10_init := ax_okM_of (fun q h => of_decide_eq_true (List.all_eq_true.mp k1_X10_init q h)) k2_X10_init (ax_W_of _ k3_X10_init k4_X10_init) (by decide +kernel) (fun pc q h => by cases h)
theorem k1_X10_feed : (at_X10_feed).all (fun q => decide (decode cX10_feed q.1 = .ok (q.2.1, q.2.2.1))) = true := by decide +kernel
theorem k2_X10_feed : ax_chks ax_T aD_X10_feed = true := by decide +kernel
theorem k3_X10_feed : ax_needs ax_T ax_n9 ax_j9 ax_m9 aD_X10_feed = [461, 923, 924, 925, 89, 461, 929, 930, 931, 89, 461, 929, 930, 931, 89, 461, 929, 930, 931, 89, 461, 929, 930, 931, 89, 461, 929, 930, 931, 89, 461, 656, 657, 658, 89, 922].filterMap (fun i => ax_big[i]?) := by decide +kernel
theorem k4_X10_feed : (ax_needs ax_T ax_n9 ax_j9 ax_m9 aD_X10_feed).all goodWord = true := by decide +kernel
theorem kx_X10_feed_12 : ax_okx ax_Ss aD_X10_feed 12 ("java/lang/IllegalStateException", "the tape is full", 53, 55, 57, false) := ⟨by decide, by decide +kernel, rfl, by decide +kernel, by decide +kernel, ⟨by decide +kernel, by decide +kernel, by decide +kernel⟩, kt_0, kn_0⟩
theorem kx_X10_feed : ∀ pc q, (ax_dx aD_X10_feed).lookup pc = some q → ax_okx ax_Ss aD_X10_feed pc q := by
  intro pc q h
  have hm := ax_lookup_mem h
  simp only [ax_dx, aD_X10_feed, List.mem_cons, List.not_mem_nil, or_false, Prod.mk.injEq] at hm
  obtain ⟨rfl, rfl⟩ := hm
  exact kx_X10_feed_12
theorem ok_X10_feed : ax_okM ax_Ss ax_T ax_n9 ax_j9 ax_m9 aD_X10_feed := ax_okM_of (fun q h => of_decide_eq_true (List.all_eq_true.mp k1_X10_feed q h)) k2_X10_feed (ax_W_of _ k3_X10_feed k4_X10_feed) (by decide +kernel) kx_X10_feed
theorem k1_X10_end : (at_X10_end).all (fun q => decide (decode cX10_end q.1 = .ok (q.2.1, q.2.2.1))) = true := by decide +kernel
theorem k2_X10_end : ax_chks ax_T aD_X10_end = true := by decide +kernel
theorem k3_X10_end : ax_needs ax_T ax_n9 ax_j9 ax_m9 aD_X10_end = [461, 656, 657, 658, 89, 461, 488, 489, 490, 89, 940].filterMap (fun i => ax_big[i]?) := by decide +kernel
theorem k4_X10_end : (ax_needs ax_T ax_n9 ax_j9 ax_m9 aD_X10_end).all goodWord = true := by decide +kernel
theorem kx_X10_end_15 : ax_okx ax_Ss aD_X10_end 15 ("java/lang/IllegalArgumentException", "the tape has no such end", 66, 68, 70, false) := ⟨by decide, by decide +kernel, rfl, by decide +kernel, by decide +kernel, ⟨by decide +kernel, by decide +kernel, by decide +kernel⟩, kt_1, kn_1⟩
theorem kx_X10_end : ∀ pc q, (ax_dx aD_X10_end).lookup pc = some q → ax_okx ax_Ss aD_X10_end pc q := by
  intro pc q h
  have hm := ax_lookup_mem h
  simp only [ax_dx, aD_X10_end, List.mem_cons, List.not_mem_nil, or_false, Prod.mk.injEq] at hm
  obtain ⟨rfl, rfl⟩ := hm
  exact kx_X10_end_15
theorem ok_X10_end : ax_okM ax_Ss ax_T ax_n9 ax_j9 ax_m9 aD_X10_end := ax_okM_of (fun q h => of_decide_eq_true (List.all_eq_true.mp k1_X10_end q h)) k2_X10_end (ax_W_of _ k3_X10_end k4_X10_end) (by decide +kernel) kx_X10_end
theorem k1_X10_unit : (at_X10_unit).all (fun q => decide (decode cX10_unit q.1 = .ok (q.2.1, q.2.2.1))) = true := by decide +kernel
theorem k2_X10_unit : ax_chks ax_T aD_X10_unit = true := by decide +kernel
theorem k3_X10_unit : ax_needs ax_T ax_n9 ax_j9 ax_m9 aD_X10_unit = [965, 967, 27, 88, 466, 268, 466, 271, 464, 492, 493, 494, 92, 466, 987, 837, 838, 95, 964].filterMap (fun i => ax_big[i]?) := by decide +kernel
theorem k4_X10_unit : (ax_needs ax_T ax_n9 ax_j9 ax_m9 aD_X10_unit).all goodWord = true := by decide +kernel
theorem kx_X10_unit_30 : ax_okx ax_Ss aD_X10_unit 30 ("java/lang/UnsupportedOperationException", "no room for a unit", 84, 86, 88, false) := ⟨by decide, by decide +kernel, rfl, by decide +kernel, by decide +kernel, ⟨by decide +kernel, by decide +kernel, by decide +kernel⟩, kt_2, kn_2⟩
theorem kx_X10_unit : ∀ pc q, (ax_dx aD_X10_unit).lookup pc = some q → ax_okx ax_Ss aD_X10_unit pc q := by
  intro pc q h
  have hm := ax_lookup_mem h
  simp only [ax_dx, aD_X10_unit, List.mem_cons, List.not_mem_nil, or_false, Prod.mk.injEq] at hm
  obtain ⟨rfl, rfl⟩ := hm
  exact kx_X10_unit_30
theorem ok_X10_unit : ax_okM ax_Ss ax_T ax_n9 ax_j9 ax_m9 aD_X10_unit := ax_okM_of (fun q h => of_decide_eq_true (List.all_eq_true.mp k1_X10_unit q h)) k2_X10_unit (ax_W_of _ k3_X10_unit k4_X10_unit) (by decide +kernel) kx_X10_unit
theorem k1_X10_entry : (at_X10_entry).all (fun q => decide (decode cX10_entry q.1 = .ok (q.2.1, q.2.2.1))) = true := by decide +kernel
theorem k2_X10_entry : ax_chks ax_T aD_X10_entry = true := by decide +kernel
theorem k3_X10_entry : ax_needs ax_T ax_n9 ax_j9 ax_m9 aD_X10_entry = [996, 998, 28, 88, 965, 967, 27, 88, 466, 271, 466, 290, 464, 492, 493, 494, 92, 466, 1017, 845, 846, 95, 995].filterMap (fun i => ax_big[i]?) := by decide +kernel
theorem k4_X10_entry : (ax_needs ax_T ax_n9 ax_j9 ax_m9 aD_X10_entry).all goodWord = true := by decide +kernel
theorem kx_X10_entry_37 : ax_okx ax_Ss aD_X10_entry 37 ("java/lang/UnsupportedOperationException", "no room for an entry", 84, 103, 88, false) := ⟨by decide, by decide +kernel, rfl, by decide +kernel, by decide +kernel, ⟨by decide +kernel, by decide +kernel, by decide +kernel⟩, kt_2, kn_2⟩
theorem kx_X10_entry : ∀ pc q, (ax_dx aD_X10_entry).lookup pc = some q → ax_okx ax_Ss aD_X10_entry pc q := by
  intro pc q h
  have hm := ax_lookup_mem h
  simp only [ax_dx, aD_X10_entry, List.mem_cons, List.not_mem_nil, or_false, Prod.mk.injEq] at hm
  obtain ⟨rfl, rfl⟩ := hm
  exact kx_X10_entry_37
theorem ok_X10_entry : ax_okM ax_Ss ax_T ax_n9 ax_j9 ax_m9 aD_X10_entry := ax_okM_of (fun q h => of_decide_eq_true (List.all_eq_true.mp k1_X10_entry q h)) k2_X10_entry (ax_W_of _ k3_X10_entry k4_X10_entry) (by decide +kernel) kx_X10_entry
theorem k1_X10_number : (at_X10_number).all (fun q => decide (decode cX10_number q.1 = .ok (q.2.1, q.2.2.1))) = true := by decide +kernel
theorem k2_X10_number : ax_chks ax_T aD_X10_number = true := by decide +kernel
theorem k3_X10_number : ax_needs ax_T ax_n9 ax_j9 ax_m9 aD_X10_number = [996, 998, 28, 88, 1025, 1027, 29, 88, 814, 106, 910, 1031, 106, 1030, 1037, 1039, 30, 88, 464, 492, 493, 494, 92, 466, 1042, 871, 872, 95, 1024].filterMap (fun i => ax_big[i]?) := by decide +kernel
theorem k4_X10_number : (ax_needs ax_T ax_n9 ax_j9 ax_m9 aD_X10_number).all goodWord = true := by decide +kernel
theorem kx_X10_number_27 : ax_okx ax_Ss aD_X10_number 27 ("java/lang/IllegalArgumentException", "no such number", 66, 123, 70, false) := ⟨by decide, by decide +kernel, rfl, by decide +kernel, by decide +kernel, ⟨by decide +kernel, by decide +kernel, by decide +kernel⟩, kt_1, kn_1⟩
theorem kx_X10_number : ∀ pc q, (ax_dx aD_X10_number).lookup pc = some q → ax_okx ax_Ss aD_X10_number pc q := by
  intro pc q h
  have hm := ax_lookup_mem h
  simp only [ax_dx, aD_X10_number, List.mem_cons, List.not_mem_nil, or_false, Prod.mk.injEq] at hm
  obtain ⟨rfl, rfl⟩ := hm
  exact kx_X10_number_27
theorem ok_X10_number : ax_okM ax_Ss ax_T ax_n9 ax_j9 ax_m9 aD_X10_number := ax_okM_of (fun q h => of_decide_eq_true (List.all_eq_true.mp k1_X10_number q h)) k2_X10_number (ax_W_of _ k3_X10_number k4_X10_number) (by decide +kernel) kx_X10_number
theorem k1_X10_bytes : (at_X10_bytes).all (fun q => decide (decode cX10_bytes q.1 = .ok (q.2.1, q.2.2.1))) = true := by decide +kernel
theorem k2_X10_bytes : ax_chks ax_T aD_X10_bytes = true := by decide +kernel
theorem k3_X10_bytes : ax_needs ax_T ax_n9 ax_j9 ax_m9 aD_X10_bytes = [996, 998, 28, 88, 1025, 1027, 29, 88, 1050, 1052, 31, 88, 461, 656, 657, 658, 89, 1037, 1039, 30, 88, 462, 656, 657, 658, 89, 462, 461, 897, 646, 647, 89, 461, 488, 489, 490, 89, 464, 492, 493, 494, 92, 466, 1042, 871, 872, 95, 1049].filterMap (fun i => ax_big[i]?) := by decide +kernel
theorem k4_X10_bytes : (ax_needs ax_T ax_n9 ax_j9 ax_m9 aD_X10_bytes).all goodWord = true := by decide +kernel
theorem ok_X10_bytes : ax_okM ax_Ss ax_T ax_n9 ax_j9 ax_m9 aD_X10_bytes := ax_okM_of (fun q h => of_decide_eq_true (List.all_eq_true.mp k1_X10_bytes q h)) k2_X10_bytes (ax_W_of _ k3_X10_bytes k4_X10_bytes) (by decide +kernel) (fun pc q h => by cases h)
theorem k1_X10_reference : (at_X10_reference).all (fun q => decide (decode cX10_reference q.1 = .ok (q.2.1, q.2.2.1))) = true := by decide +kernel
theorem k2_X10_reference : ax_chks ax_T aD_X10_reference = true := by decide +kernel
theorem k3_X10_reference : ax_needs ax_T ax_n9 ax_j9 ax_m9 aD_X10_reference = [996, 998, 28, 88, 996, 998, 28, 88, 466, 287, 466, 287, 1025, 1027, 29, 88, 823, 106, 1065, 1037, 1039, 30, 88, 464, 492, 493, 494, 92, 466, 1042, 871, 872, 95, 1063].filterMap (fun i => ax_big[i]?) := by decide +kernel
theorem k4_X10_reference : (ax_needs ax_T ax_n9 ax_j9 ax_m9 aD_X10_reference).all goodWord = true := by decide +kernel
theorem kx_X10_reference_33 : ax_okx ax_Ss aD_X10_reference 33 ("java/lang/IllegalStateException", "an entry of another unit", 53, 142, 57, false) := ⟨by decide, by decide +kernel, rfl, by decide +kernel, by decide +kernel, ⟨by decide +kernel, by decide +kernel, by decide +kernel⟩, kt_0, kn_0⟩
theorem kx_X10_reference_56 : ax_okx ax_Ss aD_X10_reference 56 ("java/lang/IllegalArgumentException", "no form of a reference", 66, 147, 70, false) := ⟨by decide, by decide +kernel, rfl, by decide +kernel, by decide +kernel, ⟨by decide +kernel, by decide +kernel, by decide +kernel⟩, kt_1, kn_1⟩
theorem kx_X10_reference : ∀ pc q, (ax_dx aD_X10_reference).lookup pc = some q → ax_okx ax_Ss aD_X10_reference pc q := by
  intro pc q h
  have hm := ax_lookup_mem h
  simp only [ax_dx, aD_X10_reference, List.mem_cons, List.not_mem_nil, or_false, Prod.mk.injEq] at hm
  rcases hm with ⟨rfl, rfl⟩ | ⟨rfl, rfl⟩
  · exact kx_X10_reference_33
  · exact kx_X10_reference_56
theorem ok_X10_reference : ax_okM ax_Ss ax_T ax_n9 ax_j9 ax_m9 aD_X10_reference := ax_okM_of (fun q h => of_decide_eq_true (List.all_eq_true.mp k1_X10_reference q h)) k2_X10_reference (ax_W_of _ k3_X10_reference k4_X10_reference) (by decide +kernel) kx_X10_reference
theorem k1_X10_clear : (at_X10_clear).all (fun q => decide (decode cX10_clear q.1 = .ok (q.2.1, q.2.2.1))) = true := by decide +kernel
theorem k2_X10_clear : ax_chks ax_T aD_X10_clear = true := by decide +kernel
theorem k3_X10_clear : ax_needs ax_T ax_n9 ax_j9 ax_m9 aD_X10_clear = [466, 271, 466, 484, 485, 486, 95, 462, 488, 489, 490, 89, 464, 492, 493, 494, 92, 483].filterMap (fun i => ax_big[i]?) := by decide +kernel
theorem k4_X10_clear : (ax_needs ax_T ax_n9 ax_j9 ax_m9 aD_X10_clear).all goodWord = true := by decide +kernel
theorem ok_X10_clear : ax_okM ax_Ss ax_T ax_n9 ax_j9 ax_m9 aD_X10_clear := ax_okM_of (fun q h => of_decide_eq_true (List.all_eq_true.mp k1_X10_clear q h)) k2_X10_clear (ax_W_of _ k3_X10_clear k4_X10_clear) (by decide +kernel) (fun pc q h => by cases h)
theorem k1_X10_write : (at_X10_write).all (fun q => decide (decode cX10_write q.1 = .ok (q.2.1, q.2.2.1))) = true := by decide +kernel
theorem k2_X10_write : ax_chks ax_T aD_X10_write = true := by decide +kernel
theorem k3_X10_write : ax_needs ax_T ax_n9 ax_j9 ax_m9 aD_X10_write = [464, 466, 462, 500, 501, 502, 92, 464, 185, 464, 188, 464, 189, 466, 462, 464, 463, 144, 609, 108, 608, 466, 464, 463, 147, 651, 108, 650, 466, 462, 464, 463, 150, 654, 108, 653, 463, 144, 656, 657, 658, 89, 463, 147, 656, 657, 658, 89, 463, 150, 656, 657, 658, 89, 499].filterMap (fun i => ax_big[i]?) := by decide +kernel
theorem k4_X10_write : (ax_needs ax_T ax_n9 ax_j9 ax_m9 aD_X10_write).all goodWord = true := by decide +kernel
theorem ok_X10_write : ax_okM ax_Ss ax_T ax_n9 ax_j9 ax_m9 aD_X10_write := ax_okM_of (fun q h => of_decide_eq_true (List.all_eq_true.mp k1_X10_write q h)) k2_X10_write (ax_W_of _ k3_X10_write k4_X10_write) (by decide +kernel) (fun pc q h => by cases h)
theorem k1_X10_size : (at_X10_size).all (fun q => decide (decode cX10_size q.1 = .ok (q.2.1, q.2.2.1))) = true := by decide +kernel
theorem k2_X10_size : ax_chks ax_T aD_X10_size = true := by decide +kernel
theorem k3_X10_size : ax_needs ax_T ax_n9 ax_j9 ax_m9 aD_X10_size = [1074, 1076, 32, 88, 463, 1079, 680, 681, 91, 656, 657, 658, 89, 1073].filterMap (fun i => ax_big[i]?) := by decide +kernel
theorem k4_X10_size : (ax_needs ax_T ax_n9 ax_j9 ax_m9 aD_X10_size).all goodWord = true := by decide +kernel
theorem ok_X10_size : ax_okM ax_Ss ax_T ax_n9 ax_j9 ax_m9 aD_X10_size := ax_okM_of (fun q h => of_decide_eq_true (List.all_eq_true.mp k1_X10_size q h)) k2_X10_size (ax_W_of _ k3_X10_size k4_X10_size) (by decide +kernel) (fun pc q h => by cases h)
theorem k1_X10_octet : (at_X10_octet).all (fun q => decide (decode cX10_octet q.1 = .ok (q.2.1, q.2.2.1))) = true := by decide +kernel
theorem k2_X10_octet : ax_chks ax_T aD_X10_octet = true := by decide +kernel
theorem k3_X10_octet : ax_needs ax_T ax_n9 ax_j9 ax_m9 aD_X10_octet = [1087, 1089, 33, 88, 463, 1079, 680, 681, 91, 1092, 574, 575, 89, 1086].filterMap (fun i => ax_big[i]?) := by decide +kernel
theorem k4_X10_octet : (ax_needs ax_T ax_n9 ax_j9 ax_m9 aD_X10_octet).all goodWord = true := by decide +kernel
theorem ok_X10_octet : ax_okM ax_Ss ax_T ax_n9 ax_j9 ax_m9 aD_X10_octet := ax_okM_of (fun q h => of_decide_eq_true (List.all_eq_true.mp k1_X10_octet q h)) k2_X10_octet (ax_W_of _ k3_X10_octet k4_X10_octet) (by decide +kernel) (fun pc q h => by cases h)
theorem k1_X10_load : (at_X10_load).all (fun q => decide (decode cX10_load q.1 = .ok (q.2.1, q.2.2.1))) = true := by decide +kernel
theorem k2_X10_load : ax_chks ax_T aD_X10_load = true := by decide +kernel
theorem k3_X10_load : ax_needs ax_T ax_n9 ax_j9 ax_m9 aD_X10_load = [1074, 1076, 32, 88, 463, 1079, 680, 681, 91, 461, 656, 657, 658, 89, 1100, 1101, 1102, 89, 488, 489, 490, 89, 461, 897, 646, 647, 89, 461, 488, 489, 490, 89, 1099].filterMap (fun i => ax_big[i]?) := by decide +kernel
theorem k4_X10_load : (ax_needs ax_T ax_n9 ax_j9 ax_m9 aD_X10_load).all goodWord = true := by decide +kernel
theorem kx_X10_load_30 : ax_okx ax_Ss aD_X10_load 30 ("java/lang/UnsupportedOperationException", "too many bytes for the section", 84, 200, 88, false) := ⟨by decide, by decide +kernel, rfl, by decide +kernel, by decide +kernel, ⟨by decide +kernel, by decide +kernel, by decide +kernel⟩, kt_2, kn_2⟩
theorem kx_X10_load : ∀ pc q, (ax_dx aD_X10_load).lookup pc = some q → ax_okx ax_Ss aD_X10_load pc q := by
  intro pc q h
  have hm := ax_lookup_mem h
  simp only [ax_dx, aD_X10_load, List.mem_cons, List.not_mem_nil, or_false, Prod.mk.injEq] at hm
  obtain ⟨rfl, rfl⟩ := hm
  exact kx_X10_load_30
theorem ok_X10_load : ax_okM ax_Ss ax_T ax_n9 ax_j9 ax_m9 aD_X10_load := ax_okM_of (fun q h => of_decide_eq_true (List.all_eq_true.mp k1_X10_load q h)) k2_X10_load (ax_W_of _ k3_X10_load k4_X10_load) (by decide +kernel) kx_X10_load
theorem k1_X10_alter : (at_X10_alter).all (fun q => decide (decode cX10_alter q.1 = .ok (q.2.1, q.2.2.1))) = true := by decide +kernel
theorem k2_X10_alter : ax_chks ax_T aD_X10_alter = true := by decide +kernel
theorem k3_X10_alter : ax_needs ax_T ax_n9 ax_j9 ax_m9 aD_X10_alter = [1087, 1089, 33, 88, 463, 1079, 680, 681, 91, 1112, 1113, 1114, 89, 1092, 574, 575, 89, 1111].filterMap (fun i => ax_big[i]?) := by decide +kernel
theorem k4_X10_alter : (ax_needs ax_T ax_n9 ax_j9 ax_m9 aD_X10_alter).all goodWord = true := by decide +kernel
theorem ok_X10_alter : ax_okM ax_Ss ax_T ax_n9 ax_j9 ax_m9 aD_X10_alter := ax_okM_of (fun q h => of_decide_eq_true (List.all_eq_true.mp k1_X10_alter q h)) k2_X10_alter (ax_W_of _ k3_X10_alter k4_X10_alter) (by decide +kernel) (fun pc q h => by cases h)
theorem k1_X10_read : (at_X10_read).all (fun q => decide (decode cX10_read q.1 = .ok (q.2.1, q.2.2.1))) = true := by decide +kernel
theorem k2_X10_read : ax_chks ax_T aD_X10_read = true := by decide +kernel
theorem k3_X10_read : ax_needs ax_T ax_n9 ax_j9 ax_m9 aD_X10_read = [465, 463, 665, 666, 667, 94, 465, 438, 378, 466, 465, 436, 466, 465, 436, 890, 892, 25, 88, 464, 492, 493, 494, 92, 466, 271, 664, 663].filterMap (fun i => ax_big[i]?) := by decide +kernel
theorem k4_X10_read : (ax_needs ax_T ax_n9 ax_j9 ax_m9 aD_X10_read).all goodWord = true := by decide +kernel
theorem ok_X10_read : ax_okM ax_Ss ax_T ax_n9 ax_j9 ax_m9 aD_X10_read := ax_okM_of (fun q h => of_decide_eq_true (List.all_eq_true.mp k1_X10_read q h)) k2_X10_read (ax_W_of _ k3_X10_read k4_X10_read) (by decide +kernel) (fun pc q h => by cases h)
theorem k1_X10_fault : (at_X10_fault).all (fun q => decide (decode cX10_fault q.1 = .ok (q.2.1, q.2.2.1))) = true := by decide +kernel
theorem k2_X10_fault : ax_chks ax_T aD_X10_fault = true := by decide +kernel
theorem k3_X10_fault : ax_needs ax_T ax_n9 ax_j9 ax_m9 aD_X10_fault = [465, 438, 374, 465, 438, 376, 1122].filterMap (fun i => ax_big[i]?) := by decide +kernel
theorem k4_X10_fault : (ax_needs ax_T ax_n9 ax_j9 ax_m9 aD_X10_fault).all goodWord = true := by decide +kernel
theorem kx_X10_fault_9 : ax_okx ax_Ss aD_X10_fault 9 ("java/lang/IndexOutOfBoundsException", "no such part of a fault", 222, 224, 226, false) := ⟨by decide, by decide +kernel, rfl, by decide +kernel, by decide +kernel, ⟨by decide +kernel, by decide +kernel, by decide +kernel⟩, kt_3, kn_3⟩
theorem kx_X10_fault : ∀ pc q, (ax_dx aD_X10_fault).lookup pc = some q → ax_okx ax_Ss aD_X10_fault pc q := by
  intro pc q h
  have hm := ax_lookup_mem h
  simp only [ax_dx, aD_X10_fault, List.mem_cons, List.not_mem_nil, or_false, Prod.mk.injEq] at hm
  obtain ⟨rfl, rfl⟩ := hm
  exact kx_X10_fault_9
theorem ok_X10_fault : ax_okM ax_Ss ax_T ax_n9 ax_j9 ax_m9 aD_X10_fault := ax_okM_of (fun q h => of_decide_eq_true (List.all_eq_true.mp k1_X10_fault q h)) k2_X10_fault (ax_W_of _ k3_X10_fault k4_X10_fault) (by decide +kernel) kx_X10_fault
theorem k1_X10_count : (at_X10_count).all (fun q => decide (decode cX10_count q.1 = .ok (q.2.1, q.2.2.1))) = true := by decide +kernel
theorem k2_X10_count : ax_chks ax_T aD_X10_count = true := by decide +kernel
theorem k3_X10_count : ax_needs ax_T ax_n9 ax_j9 ax_m9 aD_X10_count = [466, 271, 466, 268, 464, 466, 462, 500, 501, 502, 92, 464, 181, 464, 466, 462, 500, 501, 502, 92, 464, 184, 1130].filterMap (fun i => ax_big[i]?) := by decide +kernel
theorem k4_X10_count : (ax_needs ax_T ax_n9 ax_j9 ax_m9 aD_X10_count).all goodWord = true := by decide +kernel
theorem kx_X10_count_94 : ax_okx ax_Ss aD_X10_count 94 ("java/lang/IndexOutOfBoundsException", "no such count", 222, 237, 226, false) := ⟨by decide, by decide +kernel, rfl, by decide +kernel, by decide +kernel, ⟨by decide +kernel, by decide +kernel, by decide +kernel⟩, kt_3, kn_3⟩
theorem kx_X10_count : ∀ pc q, (ax_dx aD_X10_count).lookup pc = some q → ax_okx ax_Ss aD_X10_count pc q := by
  intro pc q h
  have hm := ax_lookup_mem h
  simp only [ax_dx, aD_X10_count, List.mem_cons, List.not_mem_nil, or_false, Prod.mk.injEq] at hm
  obtain ⟨rfl, rfl⟩ := hm
  exact kx_X10_count_94
theorem ok_X10_count : ax_okM ax_Ss ax_T ax_n9 ax_j9 ax_m9 aD_X10_count := ax_okM_of (fun q h => of_decide_eq_true (List.all_eq_true.mp k1_X10_count q h)) k2_X10_count (ax_W_of _ k3_X10_count k4_X10_count) (by decide +kernel) kx_X10_count
theorem k1_X10_about : (at_X10_about).all (fun q => decide (decode cX10_about q.1 = .ok (q.2.1, q.2.2.1))) = true := by decide +kernel
theorem k2_X10_about : ax_chks ax_T aD_X10_about = true := by decide +kernel
theorem k3_X10_about : ax_needs ax_T ax_n9 ax_j9 ax_m9 aD_X10_about = [996, 998, 28, 88, 466, 281, 466, 285, 466, 287, 466, 295, 466, 307, 464, 466, 462, 500, 501, 502, 92, 464, 204, 1138].filterMap (fun i => ax_big[i]?) := by decide +kernel
theorem k4_X10_about : (ax_needs ax_T ax_n9 ax_j9 ax_m9 aD_X10_about).all goodWord = true := by decide +kernel
theorem kx_X10_about_119 : ax_okx ax_Ss aD_X10_about 119 ("java/lang/IndexOutOfBoundsException", "nothing such about an entry", 222, 254, 226, false) := ⟨by decide, by decide +kernel, rfl, by decide +kernel, by decide +kernel, ⟨by decide +kernel, by decide +kernel, by decide +kernel⟩, kt_3, kn_3⟩
theorem kx_X10_about : ∀ pc q, (ax_dx aD_X10_about).lookup pc = some q → ax_okx ax_Ss aD_X10_about pc q := by
  intro pc q h
  have hm := ax_lookup_mem h
  simp only [ax_dx, aD_X10_about, List.mem_cons, List.not_mem_nil, or_false, Prod.mk.injEq] at hm
  obtain ⟨rfl, rfl⟩ := hm
  exact kx_X10_about_119
theorem ok_X10_about : ax_okM ax_Ss ax_T ax_n9 ax_j9 ax_m9 aD_X10_about := ax_okM_of (fun q h => of_decide_eq_true (List.all_eq_true.mp k1_X10_about q h)) k2_X10_about (ax_W_of _ k3_X10_about k4_X10_about) (by decide +kernel) kx_X10_about
theorem k1_X10_child : (at_X10_child).all (fun q => decide (decode cX10_child q.1 = .ok (q.2.1, q.2.2.1))) = true := by decide +kernel
theorem k2_X10_child : ax_chks ax_T aD_X10_child = true := by decide +kernel
theorem k3_X10_child : ax_needs ax_T ax_n9 ax_j9 ax_m9 aD_X10_child = [996, 998, 28, 88, 466, 295, 466, 1147, 1148, 1149, 95, 1146].filterMap (fun i => ax_big[i]?) := by decide +kernel
theorem k4_X10_child : (ax_needs ax_T ax_n9 ax_j9 ax_m9 aD_X10_child).all goodWord = true := by decide +kernel
theorem ok_X10_child : ax_okM ax_Ss ax_T ax_n9 ax_j9 ax_m9 aD_X10_child := ax_okM_of (fun q h => of_decide_eq_true (List.all_eq_true.mp k1_X10_child q h)) k2_X10_child (ax_W_of _ k3_X10_child k4_X10_child) (by decide +kernel) (fun pc q h => by cases h)
theorem k1_X10_root : (at_X10_root).all (fun q => decide (decode cX10_root q.1 = .ok (q.2.1, q.2.2.1))) = true := by decide +kernel
theorem k2_X10_root : ax_chks ax_T aD_X10_root = true := by decide +kernel
theorem k3_X10_root : ax_needs ax_T ax_n9 ax_j9 ax_m9 aD_X10_root = [466, 268, 466, 277, 1157].filterMap (fun i => ax_big[i]?) := by decide +kernel
theorem k4_X10_root : (ax_needs ax_T ax_n9 ax_j9 ax_m9 aD_X10_root).all goodWord = true := by decide +kernel
theorem kx_X10_root_15 : ax_okx ax_Ss aD_X10_root 15 ("java/lang/IndexOutOfBoundsException", "no such unit", 222, 259, 226, true) := ⟨by decide, by decide +kernel, rfl, by decide +kernel, by decide +kernel, ⟨by decide +kernel, by decide +kernel, by decide +kernel⟩, kt_3, kn_3⟩
theorem kx_X10_root : ∀ pc q, (ax_dx aD_X10_root).lookup pc = some q → ax_okx ax_Ss aD_X10_root pc q := by
  intro pc q h
  have hm := ax_lookup_mem h
  simp only [ax_dx, aD_X10_root, List.mem_cons, List.not_mem_nil, or_false, Prod.mk.injEq] at hm
  obtain ⟨rfl, rfl⟩ := hm
  exact kx_X10_root_15
theorem ok_X10_root : ax_okM ax_Ss ax_T ax_n9 ax_j9 ax_m9 aD_X10_root := ax_okM_of (fun q h => of_decide_eq_true (List.all_eq_true.mp k1_X10_root q h)) k2_X10_root (ax_W_of _ k3_X10_root k4_X10_root) (by decide +kernel) kx_X10_root
theorem k1_X10_attribute : (at_X10_attribute).all (fun q => decide (decode cX10_attribute q.1 = .ok (q.2.1, q.2.2.1))) = true := by decide +kernel
theorem k2_X10_attribute : ax_chks ax_T aD_X10_attribute = true := by decide +kernel
theorem k3_X10_attribute : ax_needs ax_T ax_n9 ax_j9 ax_m9 aD_X10_attribute = [1166, 1168, 34, 88, 466, 311, 466, 316, 466, 325, 1165].filterMap (fun i => ax_big[i]?) := by decide +kernel
theorem k4_X10_attribute : (ax_needs ax_T ax_n9 ax_j9 ax_m9 aD_X10_attribute).all goodWord = true := by decide +kernel
theorem kx_X10_attribute_69 : ax_okx ax_Ss aD_X10_attribute 69 ("java/lang/IndexOutOfBoundsException", "nothing such of an attribute", 222, 276, 226, true) := ⟨by decide, by decide +kernel, rfl, by decide +kernel, by decide +kernel, ⟨by decide +kernel, by decide +kernel, by decide +kernel⟩, kt_3, kn_3⟩
theorem kx_X10_attribute : ∀ pc q, (ax_dx aD_X10_attribute).lookup pc = some q → ax_okx ax_Ss aD_X10_attribute pc q := by
  intro pc q h
  have hm := ax_lookup_mem h
  simp only [ax_dx, aD_X10_attribute, List.mem_cons, List.not_mem_nil, or_false, Prod.mk.injEq] at hm
  obtain ⟨rfl, rfl⟩ := hm
  exact kx_X10_attribute_69
theorem ok_X10_attribute : ax_okM ax_Ss ax_T ax_n9 ax_j9 ax_m9 aD_X10_attribute := ax_okM_of (fun q h => of_decide_eq_true (List.all_eq_true.mp k1_X10_attribute q h)) k2_X10_attribute (ax_W_of _ k3_X10_attribute k4_X10_attribute) (by decide +kernel) kx_X10_attribute
theorem k1_X10_value : (at_X10_value).all (fun q => decide (decode cX10_value q.1 = .ok (q.2.1, q.2.2.1))) = true := by decide +kernel
theorem k2_X10_value : ax_chks ax_T aD_X10_value = true := by decide +kernel
theorem k3_X10_value : ax_needs ax_T ax_n9 ax_j9 ax_m9 aD_X10_value = [1166, 1168, 34, 88, 466, 316, 817, 106, 895, 466, 321, 1178].filterMap (fun i => ax_big[i]?) := by decide +kernel
theorem k4_X10_value : (ax_needs ax_T ax_n9 ax_j9 ax_m9 aD_X10_value).all goodWord = true := by decide +kernel
theorem ok_X10_value : ax_okM ax_Ss ax_T ax_n9 ax_j9 ax_m9 aD_X10_value := ax_okM_of (fun q h => of_decide_eq_true (List.all_eq_true.mp k1_X10_value q h)) k2_X10_value (ax_W_of _ k3_X10_value k4_X10_value) (by decide +kernel) (fun pc q h => by cases h)
theorem k1_X10_letter : (at_X10_letter).all (fun q => decide (decode cX10_letter q.1 = .ok (q.2.1, q.2.2.1))) = true := by decide +kernel
theorem k2_X10_letter : ax_chks ax_T aD_X10_letter = true := by decide +kernel
theorem k3_X10_letter : ax_needs ax_T ax_n9 ax_j9 ax_m9 aD_X10_letter = [1166, 1168, 34, 88, 466, 325, 462, 466, 896, 566, 567, 95, 1092, 574, 575, 89, 1185].filterMap (fun i => ax_big[i]?) := by decide +kernel
theorem k4_X10_letter : (ax_needs ax_T ax_n9 ax_j9 ax_m9 aD_X10_letter).all goodWord = true := by decide +kernel
theorem kx_X10_letter_26 : ax_okx ax_Ss aD_X10_letter 26 ("java/lang/IndexOutOfBoundsException", "no such byte of a text or block", 222, 285, 226, true) := ⟨by decide, by decide +kernel, rfl, by decide +kernel, by decide +kernel, ⟨by decide +kernel, by decide +kernel, by decide +kernel⟩, kt_3, kn_3⟩
theorem kx_X10_letter : ∀ pc q, (ax_dx aD_X10_letter).lookup pc = some q → ax_okx ax_Ss aD_X10_letter pc q := by
  intro pc q h
  have hm := ax_lookup_mem h
  simp only [ax_dx, aD_X10_letter, List.mem_cons, List.not_mem_nil, or_false, Prod.mk.injEq] at hm
  obtain ⟨rfl, rfl⟩ := hm
  exact kx_X10_letter_26
theorem ok_X10_letter : ax_okM ax_Ss ax_T ax_n9 ax_j9 ax_m9 aD_X10_letter := ax_okM_of (fun q h => of_decide_eq_true (List.all_eq_true.mp k1_X10_letter q h)) k2_X10_letter (ax_W_of _ k3_X10_letter k4_X10_letter) (by decide +kernel) kx_X10_letter
theorem k1_X10_find : (at_X10_find).all (fun q => decide (decode cX10_find q.1 = .ok (q.2.1, q.2.2.1))) = true := by decide +kernel
theorem k2_X10_find : ax_chks ax_T aD_X10_find = true := by decide +kernel
theorem k3_X10_find : ax_needs ax_T ax_n9 ax_j9 ax_m9 aD_X10_find = [996, 998, 28, 88, 1194, 1196, 35, 88, 1203, 1205, 37, 88, 461, 488, 489, 490, 89, 1193].filterMap (fun i => ax_big[i]?) := by decide +kernel
theorem k4_X10_find : (ax_needs ax_T ax_n9 ax_j9 ax_m9 aD_X10_find).all goodWord = true := by decide +kernel
theorem ok_X10_find : ax_okM ax_Ss ax_T ax_n9 ax_j9 ax_m9 aD_X10_find := ax_okM_of (fun q h => of_decide_eq_true (List.all_eq_true.mp k1_X10_find q h)) k2_X10_find (ax_W_of _ k3_X10_find k4_X10_find) (by decide +kernel) (fun pc q h => by cases h)
theorem k1_X10_covers : (at_X10_covers).all (fun q => decide (decode cX10_covers q.1 = .ok (q.2.1, q.2.2.1))) = true := by decide +kernel
theorem k2_X10_covers : ax_chks ax_T aD_X10_covers = true := by decide +kernel
theorem k3_X10_covers : ax_needs ax_T ax_n9 ax_j9 ax_m9 aD_X10_covers = [466, 271, 466, 290, 466, 290, 902, 904, 26, 88, 901].filterMap (fun i => ax_big[i]?) := by decide +kernel
theorem k4_X10_covers : (ax_needs ax_T ax_n9 ax_j9 ax_m9 aD_X10_covers).all goodWord = true := by decide +kernel
theorem ok_X10_covers : ax_okM ax_Ss ax_T ax_n9 ax_j9 ax_m9 aD_X10_covers := ax_okM_of (fun q h => of_decide_eq_true (List.all_eq_true.mp k1_X10_covers q h)) k2_X10_covers (ax_W_of _ k3_X10_covers k4_X10_covers) (by decide +kernel) (fun pc q h => by cases h)
theorem k1_X10_needEntry : (at_X10_needEntry).all (fun q => decide (decode cX10_needEntry q.1 = .ok (q.2.1, q.2.2.1))) = true := by decide +kernel
theorem k2_X10_needEntry : ax_chks ax_T aD_X10_needEntry = true := by decide +kernel
theorem k3_X10_needEntry : ax_needs ax_T ax_n9 ax_j9 ax_m9 aD_X10_needEntry = [466, 271, 999].filterMap (fun i => ax_big[i]?) := by decide +kernel
theorem k4_X10_needEntry : (ax_needs ax_T ax_n9 ax_j9 ax_m9 aD_X10_needEntry).all goodWord = true := by decide +kernel
theorem kx_X10_needEntry_15 : ax_okx ax_Ss aD_X10_needEntry 15 ("java/lang/IndexOutOfBoundsException", "no such entry", 222, 299, 226, true) := ⟨by decide, by decide +kernel, rfl, by decide +kernel, by decide +kernel, ⟨by decide +kernel, by decide +kernel, by decide +kernel⟩, kt_3, kn_3⟩
theorem kx_X10_needEntry : ∀ pc q, (ax_dx aD_X10_needEntry).lookup pc = some q → ax_okx ax_Ss aD_X10_needEntry pc q := by
  intro pc q h
  have hm := ax_lookup_mem h
  simp only [ax_dx, aD_X10_needEntry, List.mem_cons, List.not_mem_nil, or_false, Prod.mk.injEq] at hm
  obtain ⟨rfl, rfl⟩ := hm
  exact kx_X10_needEntry_15
theorem ok_X10_needEntry : ax_okM ax_Ss ax_T ax_n9 ax_j9 ax_m9 aD_X10_needEntry := ax_okM_of (fun q h => of_decide_eq_true (List.all_eq_true.mp k1_X10_needEntry q h)) k2_X10_needEntry (ax_W_of _ k3_X10_needEntry k4_X10_needEntry) (by decide +kernel) kx_X10_needEntry
theorem k1_X10_needCode : (at_X10_needCode).all (fun q => decide (decode cX10_needCode q.1 = .ok (q.2.1, q.2.2.1))) = true := by decide +kernel
theorem k2_X10_needCode : ax_chks ax_T aD_X10_needCode = true := by decide +kernel
theorem k3_X10_needCode : ax_needs ax_T ax_n9 ax_j9 ax_m9 aD_X10_needCode = [798, 88, 969, 968].filterMap (fun i => ax_big[i]?) := by decide +kernel
theorem k4_X10_needCode : (ax_needs ax_T ax_n9 ax_j9 ax_m9 aD_X10_needCode).all goodWord = true := by decide +kernel
theorem kx_X10_needCode_7 : ax_okx ax_Ss aD_X10_needCode 7 ("java/lang/IllegalArgumentException", "no tag or name", 66, 304, 70, true) := ⟨by decide, by decide +kernel, rfl, by decide +kernel, by decide +kernel, ⟨by decide +kernel, by decide +kernel, by decide +kernel⟩, kt_1, kn_1⟩
theorem kx_X10_needCode : ∀ pc q, (ax_dx aD_X10_needCode).lookup pc = some q → ax_okx ax_Ss aD_X10_needCode pc q := by
  intro pc q h
  have hm := ax_lookup_mem h
  simp only [ax_dx, aD_X10_needCode, List.mem_cons, List.not_mem_nil, or_false, Prod.mk.injEq] at hm
  obtain ⟨rfl, rfl⟩ := hm
  exact kx_X10_needCode_7
theorem ok_X10_needCode : ax_okM ax_Ss ax_T ax_n9 ax_j9 ax_m9 aD_X10_needCode := ax_okM_of (fun q h => of_decide_eq_true (List.all_eq_true.mp k1_X10_needCode q h)) k2_X10_needCode (ax_W_of _ k3_X10_needCode k4_X10_needCode) (by decide +kernel) kx_X10_needCode
theorem k1_X10_needNewName : (at_X10_needNewName).all (fun q => decide (decode cX10_needNewName q.1 = .ok (q.2.1, q.2.2.1))) = true := by decide +kernel
theorem k2_X10_needNewName : ax_chks ax_T aD_X10_needNewName = true := by decide +kernel
theorem k3_X10_needNewName : ax_needs ax_T ax_n9 ax_j9 ax_m9 aD_X10_needNewName = [965, 967, 27, 88, 466, 906, 907, 908, 95, 1028].filterMap (fun i => ax_big[i]?) := by decide +kernel
theorem k4_X10_needNewName : (ax_needs ax_T ax_n9 ax_j9 ax_m9 aD_X10_needNewName).all goodWord = true := by decide +kernel
theorem kx_X10_needNewName_18 : ax_okx ax_Ss aD_X10_needNewName 18 ("java/lang/IllegalArgumentException", "the name is told", 66, 309, 70, true) := ⟨by decide, by decide +kernel, rfl, by decide +kernel, by decide +kernel, ⟨by decide +kernel, by decide +kernel, by decide +kernel⟩, kt_1, kn_1⟩
theorem kx_X10_needNewName : ∀ pc q, (ax_dx aD_X10_needNewName).lookup pc = some q → ax_okx ax_Ss aD_X10_needNewName pc q := by
  intro pc q h
  have hm := ax_lookup_mem h
  simp only [ax_dx, aD_X10_needNewName, List.mem_cons, List.not_mem_nil, or_false, Prod.mk.injEq] at hm
  obtain ⟨rfl, rfl⟩ := hm
  exact kx_X10_needNewName_18
theorem ok_X10_needNewName : ax_okM ax_Ss ax_T ax_n9 ax_j9 ax_m9 aD_X10_needNewName := ax_okM_of (fun q h => of_decide_eq_true (List.all_eq_true.mp k1_X10_needNewName q h)) k2_X10_needNewName (ax_W_of _ k3_X10_needNewName k4_X10_needNewName) (by decide +kernel) kx_X10_needNewName
theorem k1_X10_needLetters : (at_X10_needLetters).all (fun q => decide (decode cX10_needLetters q.1 = .ok (q.2.1, q.2.2.1))) = true := by decide +kernel
theorem k2_X10_needLetters : ax_chks ax_T aD_X10_needLetters = true := by decide +kernel
theorem k3_X10_needLetters : ax_needs ax_T ax_n9 ax_j9 ax_m9 aD_X10_needLetters = [817, 106, 895, 461, 656, 657, 658, 89, 820, 106, 1054, 461, 461, 656, 657, 658, 89, 1055, 859, 860, 89, 1053].filterMap (fun i => ax_big[i]?) := by decide +kernel
theorem k4_X10_needLetters : (ax_needs ax_T ax_n9 ax_j9 ax_m9 aD_X10_needLetters).all goodWord = true := by decide +kernel
theorem kx_X10_needLetters_56 : ax_okx ax_Ss aD_X10_needLetters 56 ("java/lang/IllegalArgumentException", "no such text or block", 66, 317, 70, true) := ⟨by decide, by decide +kernel, rfl, by decide +kernel, by decide +kernel, ⟨by decide +kernel, by decide +kernel, by decide +kernel⟩, kt_1, kn_1⟩
theorem kx_X10_needLetters : ∀ pc q, (ax_dx aD_X10_needLetters).lookup pc = some q → ax_okx ax_Ss aD_X10_needLetters pc q := by
  intro pc q h
  have hm := ax_lookup_mem h
  simp only [ax_dx, aD_X10_needLetters, List.mem_cons, List.not_mem_nil, or_false, Prod.mk.injEq] at hm
  obtain ⟨rfl, rfl⟩ := hm
  exact kx_X10_needLetters_56
theorem ok_X10_needLetters : ax_okM ax_Ss ax_T ax_n9 ax_j9 ax_m9 aD_X10_needLetters := ax_okM_of (fun q h => of_decide_eq_true (List.all_eq_true.mp k1_X10_needLetters q h)) k2_X10_needLetters (ax_W_of _ k3_X10_needLetters k4_X10_needLetters) (by decide +kernel) kx_X10_needLetters
theorem k1_X10_needRoom : (at_X10_needRoom).all (fun q => decide (decode cX10_needRoom q.1 = .ok (q.2.1, q.2.2.1))) = true := by decide +kernel
theorem k2_X10_needRoom : ax_chks ax_T aD_X10_needRoom = true := by decide +kernel
theorem k3_X10_needRoom : ax_needs ax_T ax_n9 ax_j9 ax_m9 aD_X10_needRoom = [466, 307, 462, 923, 924, 925, 89, 1040].filterMap (fun i => ax_big[i]?) := by decide +kernel
theorem k4_X10_needRoom : (ax_needs ax_T ax_n9 ax_j9 ax_m9 aD_X10_needRoom).all goodWord = true := by decide +kernel
theorem kx_X10_needRoom_25 : ax_okx ax_Ss aD_X10_needRoom 25 ("java/lang/UnsupportedOperationException", "no room for an attribute", 84, 319, 88, true) := ⟨by decide, by decide +kernel, rfl, by decide +kernel, by decide +kernel, ⟨by decide +kernel, by decide +kernel, by decide +kernel⟩, kt_2, kn_2⟩
theorem kx_X10_needRoom : ∀ pc q, (ax_dx aD_X10_needRoom).lookup pc = some q → ax_okx ax_Ss aD_X10_needRoom pc q := by
  intro pc q h
  have hm := ax_lookup_mem h
  simp only [ax_dx, aD_X10_needRoom, List.mem_cons, List.not_mem_nil, or_false, Prod.mk.injEq] at hm
  obtain ⟨rfl, rfl⟩ := hm
  exact kx_X10_needRoom_25
theorem ok_X10_needRoom : ax_okM ax_Ss ax_T ax_n9 ax_j9 ax_m9 aD_X10_needRoom := ax_okM_of (fun q h => of_decide_eq_true (List.all_eq_true.mp k1_X10_needRoom q h)) k2_X10_needRoom (ax_W_of _ k3_X10_needRoom k4_X10_needRoom) (by decide +kernel) kx_X10_needRoom
theorem k1_X10_needSection : (at_X10_needSection).all (fun q => decide (decode cX10_needSection q.1 = .ok (q.2.1, q.2.2.1))) = true := by decide +kernel
theorem k2_X10_needSection : ax_chks ax_T aD_X10_needSection = true := by decide +kernel
theorem k3_X10_needSection : ax_needs ax_T ax_n9 ax_j9 ax_m9 aD_X10_needSection = [1077].filterMap (fun i => ax_big[i]?) := by decide +kernel
theorem k4_X10_needSection : (ax_needs ax_T ax_n9 ax_j9 ax_m9 aD_X10_needSection).all goodWord = true := by decide +kernel
theorem kx_X10_needSection_9 : ax_okx ax_Ss aD_X10_needSection 9 ("java/lang/IndexOutOfBoundsException", "no such section", 222, 321, 226, true) := ⟨by decide, by decide +kernel, rfl, by decide +kernel, by decide +kernel, ⟨by decide +kernel, by decide +kernel, by decide +kernel⟩, kt_3, kn_3⟩
theorem kx_X10_needSection : ∀ pc q, (ax_dx aD_X10_needSection).lookup pc = some q → ax_okx ax_Ss aD_X10_needSection pc q := by
  intro pc q h
  have hm := ax_lookup_mem h
  simp only [ax_dx, aD_X10_needSection, List.mem_cons, List.not_mem_nil, or_false, Prod.mk.injEq] at hm
  obtain ⟨rfl, rfl⟩ := hm
  exact kx_X10_needSection_9
theorem ok_X10_needSection : ax_okM ax_Ss ax_T ax_n9 ax_j9 ax_m9 aD_X10_needSection := ax_okM_of (fun q h => of_decide_eq_true (List.all_eq_true.mp k1_X10_needSection q h)) k2_X10_needSection (ax_W_of _ k3_X10_needSection k4_X10_needSection) (by decide +kernel) kx_X10_needSection
theorem k1_X10_needByte : (at_X10_needByte).all (fun q => decide (decode cX10_needByte q.1 = .ok (q.2.1, q.2.2.1))) = true := by decide +kernel
theorem k2_X10_needByte : ax_chks ax_T aD_X10_needByte = true := by decide +kernel
theorem k3_X10_needByte : ax_needs ax_T ax_n9 ax_j9 ax_m9 aD_X10_needByte = [1074, 1076, 32, 88, 463, 1079, 680, 681, 91, 656, 657, 658, 89, 1090].filterMap (fun i => ax_big[i]?) := by decide +kernel
theorem k4_X10_needByte : (ax_needs ax_T ax_n9 ax_j9 ax_m9 aD_X10_needByte).all goodWord = true := by decide +kernel
theorem kx_X10_needByte_24 : ax_okx ax_Ss aD_X10_needByte 24 ("java/lang/IndexOutOfBoundsException", "no such byte of a section", 222, 323, 226, true) := ⟨by decide, by decide +kernel, rfl, by decide +kernel, by decide +kernel, ⟨by decide +kernel, by decide +kernel, by decide +kernel⟩, kt_3, kn_3⟩
theorem kx_X10_needByte : ∀ pc q, (ax_dx aD_X10_needByte).lookup pc = some q → ax_okx ax_Ss aD_X10_needByte pc q := by
  intro pc q h
  have hm := ax_lookup_mem h
  simp only [ax_dx, aD_X10_needByte, List.mem_cons, List.not_mem_nil, or_false, Prod.mk.injEq] at hm
  obtain ⟨rfl, rfl⟩ := hm
  exact kx_X10_needByte_24
theorem ok_X10_needByte : ax_okM ax_Ss ax_T ax_n9 ax_j9 ax_m9 aD_X10_needByte := ax_okM_of (fun q h => of_decide_eq_true (List.all_eq_true.mp k1_X10_needByte q h)) k2_X10_needByte (ax_W_of _ k3_X10_needByte k4_X10_needByte) (by decide +kernel) kx_X10_needByte
theorem k1_X10_neededSlot : (at_X10_neededSlot).all (fun q => decide (decode cX10_neededSlot q.1 = .ok (q.2.1, q.2.2.1))) = true := by decide +kernel
theorem k2_X10_neededSlot : ax_chks ax_T aD_X10_neededSlot = true := by decide +kernel
theorem k3_X10_neededSlot : ax_needs ax_T ax_n9 ax_j9 ax_m9 aD_X10_neededSlot = [996, 998, 28, 88, 466, 307, 527, 95, 894, 1169].filterMap (fun i => ax_big[i]?) := by decide +kernel
theorem k4_X10_neededSlot : (ax_needs ax_T ax_n9 ax_j9 ax_m9 aD_X10_neededSlot).all goodWord = true := by decide +kernel
theorem kx_X10_neededSlot_22 : ax_okx ax_Ss aD_X10_neededSlot 22 ("java/lang/IndexOutOfBoundsException", "no such attribute", 222, 325, 226, true) := ⟨by decide, by decide +kernel, rfl, by decide +kernel, by decide +kernel, ⟨by decide +kernel, by decide +kernel, by decide +kernel⟩, kt_3, kn_3⟩
theorem kx_X10_neededSlot : ∀ pc q, (ax_dx aD_X10_neededSlot).lookup pc = some q → ax_okx ax_Ss aD_X10_neededSlot pc q := by
  intro pc q h
  have hm := ax_lookup_mem h
  simp only [ax_dx, aD_X10_neededSlot, List.mem_cons, List.not_mem_nil, or_false, Prod.mk.injEq] at hm
  obtain ⟨rfl, rfl⟩ := hm
  exact kx_X10_neededSlot_22
theorem ok_X10_neededSlot : ax_okM ax_Ss ax_T ax_n9 ax_j9 ax_m9 aD_X10_neededSlot := ax_okM_of (fun q h => of_decide_eq_true (List.all_eq_true.mp k1_X10_neededSlot q h)) k2_X10_neededSlot (ax_W_of _ k3_X10_neededSlot k4_X10_neededSlot) (by decide +kernel) kx_X10_neededSlot
theorem k1_X10_keepLetters : (at_X10_keepLetters).all (fun q => decide (decode cX10_keepLetters q.1 = .ok (q.2.1, q.2.2.1))) = true := by decide +kernel
theorem k2_X10_keepLetters : ax_chks ax_T aD_X10_keepLetters = true := by decide +kernel
theorem k3_X10_keepLetters : ax_needs ax_T ax_n9 ax_j9 ax_m9 aD_X10_keepLetters = [462, 488, 489, 490, 89, 466, 271, 466, 307, 527, 95, 894, 466, 316, 817, 106, 895, 466, 316, 463, 150, 463, 144, 462, 656, 657, 658, 89, 462, 466, 896, 566, 567, 95, 466, 325, 897, 646, 647, 89, 466, 321, 893].filterMap (fun i => ax_big[i]?) := by decide +kernel
theorem k4_X10_keepLetters : (ax_needs ax_T ax_n9 ax_j9 ax_m9 aD_X10_keepLetters).all goodWord = true := by decide +kernel
theorem ok_X10_keepLetters : ax_okM ax_Ss ax_T ax_n9 ax_j9 ax_m9 aD_X10_keepLetters := ax_okM_of (fun q h => of_decide_eq_true (List.all_eq_true.mp k1_X10_keepLetters q h)) k2_X10_keepLetters (ax_W_of _ k3_X10_keepLetters k4_X10_keepLetters) (by decide +kernel) (fun pc q h => by cases h)
theorem k1_X10_rootNamedByTape : (at_X10_rootNamedByTape).all (fun q => decide (decode cX10_rootNamedByTape q.1 = .ok (q.2.1, q.2.2.1))) = true := by decide +kernel
theorem k2_X10_rootNamedByTape : ax_chks ax_T aD_X10_rootNamedByTape = true := by decide +kernel
theorem k3_X10_rootNamedByTape : ax_needs ax_T ax_n9 ax_j9 ax_m9 aD_X10_rootNamedByTape = [466, 268, 466, 277, 1198, 1200, 36, 88, 466, 277, 1197].filterMap (fun i => ax_big[i]?) := by decide +kernel
theorem k4_X10_rootNamedByTape : (ax_needs ax_T ax_n9 ax_j9 ax_m9 aD_X10_rootNamedByTape).all goodWord = true := by decide +kernel
theorem ok_X10_rootNamedByTape : ax_okM ax_Ss ax_T ax_n9 ax_j9 ax_m9 aD_X10_rootNamedByTape := ax_okM_of (fun q h => of_decide_eq_true (List.all_eq_true.mp k1_X10_rootNamedByTape q h)) k2_X10_rootNamedByTape (ax_W_of _ k3_X10_rootNamedByTape k4_X10_rootNamedByTape) (by decide +kernel) (fun pc q h => by cases h)
theorem k1_X10_childNamedByTape : (at_X10_childNamedByTape).all (fun q => decide (decode cX10_childNamedByTape q.1 = .ok (q.2.1, q.2.2.1))) = true := by decide +kernel
theorem k2_X10_childNamedByTape : ax_chks ax_T aD_X10_childNamedByTape = true := by decide +kernel
theorem k3_X10_childNamedByTape : ax_needs ax_T ax_n9 ax_j9 ax_m9 aD_X10_childNamedByTape = [466, 298, 466, 295, 1198, 1200, 36, 88, 466, 302, 1206].filterMap (fun i => ax_big[i]?) := by decide +kernel
theorem k4_X10_childNamedByTape : (ax_needs ax_T ax_n9 ax_j9 ax_m9 aD_X10_childNamedByTape).all goodWord = true := by decide +kernel
theorem ok_X10_childNamedByTape : ax_okM ax_Ss ax_T ax_n9 ax_j9 ax_m9 aD_X10_childNamedByTape := ax_okM_of (fun q h => of_decide_eq_true (List.all_eq_true.mp k1_X10_childNamedByTape q h)) k2_X10_childNamedByTape (ax_W_of _ k3_X10_childNamedByTape k4_X10_childNamedByTape) (by decide +kernel) (fun pc q h => by cases h)
theorem k1_X10_isNamedByTape : (at_X10_isNamedByTape).all (fun q => decide (decode cX10_isNamedByTape q.1 = .ok (q.2.1, q.2.2.1))) = true := by decide +kernel
theorem k2_X10_isNamedByTape : ax_chks ax_T aD_X10_isNamedByTape = true := by decide +kernel
theorem k3_X10_isNamedByTape : ax_needs ax_T ax_n9 ax_j9 ax_m9 aD_X10_isNamedByTape = [466, 906, 907, 908, 95, 466, 316, 820, 106, 1054, 466, 325, 461, 656, 657, 658, 89, 462, 466, 896, 566, 567, 95, 461, 461, 656, 657, 658, 89, 1202, 582, 583, 89, 1201].filterMap (fun i => ax_big[i]?) := by decide +kernel
theorem k4_X10_isNamedByTape : (ax_needs ax_T ax_n9 ax_j9 ax_m9 aD_X10_isNamedByTape).all goodWord = true := by decide +kernel
theorem ok_X10_isNamedByTape : ax_okM ax_Ss ax_T ax_n9 ax_j9 ax_m9 aD_X10_isNamedByTape := ax_okM_of (fun q h => of_decide_eq_true (List.all_eq_true.mp k1_X10_isNamedByTape q h)) k2_X10_isNamedByTape (ax_W_of _ k3_X10_isNamedByTape k4_X10_isNamedByTape) (by decide +kernel) (fun pc q h => by cases h)
theorem k1_X10_coversAddress : (at_X10_coversAddress).all (fun q => decide (decode cX10_coversAddress q.1 = .ok (q.2.1, q.2.2.1))) = true := by decide +kernel
theorem k2_X10_coversAddress : ax_chks ax_T aD_X10_coversAddress = true := by decide +kernel
theorem k3_X10_coversAddress : ax_needs ax_T ax_n9 ax_j9 ax_m9 aD_X10_coversAddress = [466, 906, 907, 908, 95, 466, 906, 907, 908, 95, 466, 316, 814, 106, 910, 466, 316, 814, 106, 910, 466, 321, 912, 88, 911, 466, 321, 912, 88, 911, 905].filterMap (fun i => ax_big[i]?) := by decide +kernel
theorem k4_X10_coversAddress : (ax_needs ax_T ax_n9 ax_j9 ax_m9 aD_X10_coversAddress).all goodWord = true := by decide +kernel
theorem ok_X10_coversAddress : ax_okM ax_Ss ax_T ax_n9 ax_j9 ax_m9 aD_X10_coversAddress := ax_okM_of (fun q h => of_decide_eq_true (List.all_eq_true.mp k1_X10_coversAddress q h)) k2_X10_coversAddress (ax_W_of _ k3_X10_coversAddress k4_X10_coversAddress) (by decide +kernel) (fun pc q h => by cases h)
theorem k1_X10_isBelow : (at_X10_isBelow).all (fun q => decide (decode cX10_isBelow q.1 = .ok (q.2.1, q.2.2.1))) = true := by decide +kernel
theorem k2_X10_isBelow : ax_chks ax_T aD_X10_isBelow = true := by decide +kernel
theorem k3_X10_isBelow : ax_needs ax_T ax_n9 ax_j9 ax_m9 aD_X10_isBelow = [914, 914, 913].filterMap (fun i => ax_big[i]?) := by decide +kernel
theorem k4_X10_isBelow : (ax_needs ax_T ax_n9 ax_j9 ax_m9 aD_X10_isBelow).all goodWord = true := by decide +kernel
theorem ok_X10_isBelow : ax_okM ax_Ss ax_T ax_n9 ax_j9 ax_m9 aD_X10_isBelow := ax_okM_of (fun q h => of_decide_eq_true (List.all_eq_true.mp k1_X10_isBelow q h)) k2_X10_isBelow (ax_W_of _ k3_X10_isBelow k4_X10_isBelow) (by decide +kernel) (fun pc q h => by cases h)
theorem k1_X10_isCode : (at_X10_isCode).all (fun q => decide (decode cX10_isCode q.1 = .ok (q.2.1, q.2.2.1))) = true := by decide +kernel
theorem k2_X10_isCode : ax_chks ax_T aD_X10_isCode = true := by decide +kernel
theorem k3_X10_isCode : ax_needs ax_T ax_n9 ax_j9 ax_m9 aD_X10_isCode = [799].filterMap (fun i => ax_big[i]?) := by decide +kernel
theorem k4_X10_isCode : (ax_needs ax_T ax_n9 ax_j9 ax_m9 aD_X10_isCode).all goodWord = true := by decide +kernel
theorem ok_X10_isCode : ax_okM ax_Ss ax_T ax_n9 ax_j9 ax_m9 aD_X10_isCode := ax_okM_of (fun q h => of_decide_eq_true (List.all_eq_true.mp k1_X10_isCode q h)) k2_X10_isCode (ax_W_of _ k3_X10_isCode k4_X10_isCode) (by decide +kernel) (fun pc q h => by cases h)
end
