section
theorem k1_X10_init : (at_X10_init).all (fun q => decide (decode cX10_init q.1 = .ok (q.2.1, q.2.2.1))) = true := by decide +kernel
theorem k2_X10_init : ax_chks ax_T aD_X10_init = true := by decide +kernel
theorem k3_X10_init : ax_needs ax_T ax_n9 ax_j9 ax_m9 aD_X10_init = [113, 114, 115, 116, 117, 88, 118, 119, 88, 460, 116, 117, 88, 118, 119, 88, 461, 133, 134, 90, 135, 136, 90, 462, 157, 158, 91, 159, 160, 91, 463, 253, 254, 93, 255, 256, 93, 464, 458, 260, 94, 459, 262, 94, 465, 112].filterMap (fun i => ax_big[i]?) := by decide +kernel
theorem k4_X10_init : (ax_needs ax_T ax_n9 ax_j9 ax_m9 aD_X10_init).all goodWord = true := by decide +kernel
theorem ok_X10_init : ax_okM ax_Ss ax_T ax_n9 ax_j9 ax_m9 aD_X10_init := ax_okM_of (fun q h => of_decide_eq_true (List.all_eq_true.mp k1_X10_init q h)) k2_X10_init (ax_W_of _ k3_X10_init k4_X10_init) (by decide +kernel) (fun pc q h => by cases h)
theorem k1_X10_feed : (at_X10_feed).all (fun q => decide (decode cX10_feed q.1 = .ok (q.2.1, q.2.2.1))) = true := by decide +kernel
theorem k2_X10_feed : ax_chks ax_T aD_X10_feed = true := by decide +kernel
theorem k3_X10_feed : ax_needs ax_T ax_n9 ax_j9 ax_m9 aD_X10_feed = [460, 918, 919, 920, 88, 460, 924, 925, 926, 88, 460, 924, 925, 926, 88, 460, 924, 925, 926, 88, 460, 924, 925, 926, 88, 460, 924, 925, 926, 88, 460, 655, 656, 657, 88, 917].filterMap (fun i => ax_big[i]?) := by decide +kernel
theorem k4_X10_feed : (ax_needs ax_T ax_n9 ax_j9 ax_m9 aD_X10_feed).all goodWord = true := by decide +kernel
theorem kx_X10_feed_12 : ax_okx ax_Ss aD_X10_feed 12 ("java/lang/IllegalStateException", "the tape is full", 53, 55, 57, false) := ⟨by decide, by decide +kernel, rfl, by decide +kernel, by decide +kernel, ⟨by decide +kernel, by decide +kernel, by decide +kernel⟩, kt_0, kn_0⟩
theorem kx_X10_feed : ∀ pc q, (ax_dx aD_X10_feed).lookup pc = some q → ax_okx ax_Ss aD_X10_feed pc q := by
  intro pc q h
  have hm := ax_lookup_mem h
  simp only [ax_dx, aD_X10_feed, List.mem_cons, List.not_mem_nil, or_false, Prod.mk.injEq] at hm
  obtain ⟨rfl, rfl⟩ := hm
  exact kx_X10_feed_12
theorem ok_X10_feed : ax_okM ax_Ss ax_T ax_n9 ax_j9 ax_m9 aD_X10_feed := ax_okM_of (fun q h => of_decide_eq_true (List.all_eq_true.mp k1_X10_feed q h)) k2_X10_feed (ax_W_of _ k3_X10_feed k4_X10_feed) (by decide +kernel) kx_X10_feed
theorem k1_X10_end : (at_X10_end).all (fun q => decide (decode cX10_end q.1 = .ok (q.2.1, q.2.2.1))) = true := by decide +kernel
theorem k2_X10_end : ax_chks ax_T aD_X10_end = true := by decide +kernel
theorem k3_X10_end : ax_needs ax_T ax_n9 ax_j9 ax_m9 aD_X10_end = [460, 655, 656, 657, 88, 460, 487, 488, 489, 88, 935].filterMap (fun i => ax_big[i]?) := by decide +kernel
theorem k4_X10_end : (ax_needs ax_T ax_n9 ax_j9 ax_m9 aD_X10_end).all goodWord = true := by decide +kernel
theorem kx_X10_end_15 : ax_okx ax_Ss aD_X10_end 15 ("java/lang/IllegalArgumentException", "the tape has no such end", 66, 68, 70, false) := ⟨by decide, by decide +kernel, rfl, by decide +kernel, by decide +kernel, ⟨by decide +kernel, by decide +kernel, by decide +kernel⟩, kt_1, kn_1⟩
theorem kx_X10_end : ∀ pc q, (ax_dx aD_X10_end).lookup pc = some q → ax_okx ax_Ss aD_X10_end pc q := by
  intro pc q h
  have hm := ax_lookup_mem h
  simp only [ax_dx, aD_X10_end, List.mem_cons, List.not_mem_nil, or_false, Prod.mk.injEq] at hm
  obtain ⟨rfl, rfl⟩ := hm
  exact kx_X10_end_15
theorem ok_X10_end : ax_okM ax_Ss ax_T ax_n9 ax_j9 ax_m9 aD_X10_end := ax_okM_of (fun q h => of_decide_eq_true (List.all_eq_true.mp k1_X10_end q h)) k2_X10_end (ax_W_of _ k3_X10_end k4_X10_end) (by decide +kernel) kx_X10_end
theorem k1_X10_unit : (at_X10_unit).all (fun q => decide (decode cX10_unit q.1 = .ok (q.2.1, q.2.2.1))) = true := by decide +kernel
theorem k2_X10_unit : ax_chks ax_T aD_X10_unit = true := by decide +kernel
theorem k3_X10_unit : ax_needs ax_T ax_n9 ax_j9 ax_m9 aD_X10_unit = [960, 962, 26, 87, 465, 267, 465, 270, 463, 491, 492, 493, 91, 465, 982, 832, 833, 94, 959].filterMap (fun i => ax_big[i]?) := by decide +kernel
theorem k4_X10_unit : (ax_needs ax_T ax_n9 ax_j9 ax_m9 aD_X10_unit).all goodWord = true := by decide +kernel
theorem kx_X10_unit_30 : ax_okx ax_Ss aD_X10_unit 30 ("java/lang/UnsupportedOperationException", "no room for a unit", 84, 86, 88, false) := ⟨by decide, by decide +kernel, rfl, by decide +kernel, by decide +kernel, ⟨by decide +kernel, by decide +kernel, by decide +kernel⟩, kt_2, kn_2⟩
theorem kx_X10_unit : ∀ pc q, (ax_dx aD_X10_unit).lookup pc = some q → ax_okx ax_Ss aD_X10_unit pc q := by
  intro pc q h
  have hm := ax_lookup_mem h
  simp only [ax_dx, aD_X10_unit, List.mem_cons, List.not_mem_nil, or_false, Prod.mk.injEq] at hm
  obtain ⟨rfl, rfl⟩ := hm
  exact kx_X10_unit_30
theorem ok_X10_unit : ax_okM ax_Ss ax_T ax_n9 ax_j9 ax_m9 aD_X10_unit := ax_okM_of (fun q h => of_decide_eq_true (List.all_eq_true.mp k1_X10_unit q h)) k2_X10_unit (ax_W_of _ k3_X10_unit k4_X10_unit) (by decide +kernel) kx_X10_unit
theorem k1_X10_entry : (at_X10_entry).all (fun q => decide (decode cX10_entry q.1 = .ok (q.2.1, q.2.2.1))) = true := by decide +kernel
theorem k2_X10_entry : ax_chks ax_T aD_X10_entry = true := by decide +kernel
theorem k3_X10_entry : ax_needs ax_T ax_n9 ax_j9 ax_m9 aD_X10_entry = [991, 993, 27, 87, 960, 962, 26, 87, 465, 270, 465, 290, 463, 491, 492, 493, 91, 465, 1012, 840, 841, 94, 990].filterMap (fun i => ax_big[i]?) := by decide +kernel
theorem k4_X10_entry : (ax_needs ax_T ax_n9 ax_j9 ax_m9 aD_X10_entry).all goodWord = true := by decide +kernel
theorem kx_X10_entry_37 : ax_okx ax_Ss aD_X10_entry 37 ("java/lang/UnsupportedOperationException", "no room for an entry", 84, 103, 88, false) := ⟨by decide, by decide +kernel, rfl, by decide +kernel, by decide +kernel, ⟨by decide +kernel, by decide +kernel, by decide +kernel⟩, kt_2, kn_2⟩
theorem kx_X10_entry : ∀ pc q, (ax_dx aD_X10_entry).lookup pc = some q → ax_okx ax_Ss aD_X10_entry pc q := by
  intro pc q h
  have hm := ax_lookup_mem h
  simp only [ax_dx, aD_X10_entry, List.mem_cons, List.not_mem_nil, or_false, Prod.mk.injEq] at hm
  obtain ⟨rfl, rfl⟩ := hm
  exact kx_X10_entry_37
theorem ok_X10_entry : ax_okM ax_Ss ax_T ax_n9 ax_j9 ax_m9 aD_X10_entry := ax_okM_of (fun q h => of_decide_eq_true (List.all_eq_true.mp k1_X10_entry q h)) k2_X10_entry (ax_W_of _ k3_X10_entry k4_X10_entry) (by decide +kernel) kx_X10_entry
theorem k1_X10_number : (at_X10_number).all (fun q => decide (decode cX10_number q.1 = .ok (q.2.1, q.2.2.1))) = true := by decide +kernel
theorem k2_X10_number : ax_chks ax_T aD_X10_number = true := by decide +kernel
theorem k3_X10_number : ax_needs ax_T ax_n9 ax_j9 ax_m9 aD_X10_number = [991, 993, 27, 87, 1020, 1022, 28, 87, 809, 105, 905, 1026, 105, 1025, 1032, 1034, 29, 87, 463, 491, 492, 493, 91, 465, 1037, 866, 867, 94, 1019].filterMap (fun i => ax_big[i]?) := by decide +kernel
theorem k4_X10_number : (ax_needs ax_T ax_n9 ax_j9 ax_m9 aD_X10_number).all goodWord = true := by decide +kernel
theorem kx_X10_number_27 : ax_okx ax_Ss aD_X10_number 27 ("java/lang/IllegalArgumentException", "no such number", 66, 123, 70, false) := ⟨by decide, by decide +kernel, rfl, by decide +kernel, by decide +kernel, ⟨by decide +kernel, by decide +kernel, by decide +kernel⟩, kt_1, kn_1⟩
theorem kx_X10_number : ∀ pc q, (ax_dx aD_X10_number).lookup pc = some q → ax_okx ax_Ss aD_X10_number pc q := by
  intro pc q h
  have hm := ax_lookup_mem h
  simp only [ax_dx, aD_X10_number, List.mem_cons, List.not_mem_nil, or_false, Prod.mk.injEq] at hm
  obtain ⟨rfl, rfl⟩ := hm
  exact kx_X10_number_27
theorem ok_X10_number : ax_okM ax_Ss ax_T ax_n9 ax_j9 ax_m9 aD_X10_number := ax_okM_of (fun q h => of_decide_eq_true (List.all_eq_true.mp k1_X10_number q h)) k2_X10_number (ax_W_of _ k3_X10_number k4_X10_number) (by decide +kernel) kx_X10_number
theorem k1_X10_bytes : (at_X10_bytes).all (fun q => decide (decode cX10_bytes q.1 = .ok (q.2.1, q.2.2.1))) = true := by decide +kernel
theorem k2_X10_bytes : ax_chks ax_T aD_X10_bytes = true := by decide +kernel
theorem k3_X10_bytes : ax_needs ax_T ax_n9 ax_j9 ax_m9 aD_X10_bytes = [991, 993, 27, 87, 1020, 1022, 28, 87, 1045, 1047, 30, 87, 460, 655, 656, 657, 88, 1032, 1034, 29, 87, 461, 655, 656, 657, 88, 461, 460, 892, 645, 646, 88, 460, 487, 488, 489, 88, 463, 491, 492, 493, 91, 465, 1037, 866, 867, 94, 1044].filterMap (fun i => ax_big[i]?) := by decide +kernel
theorem k4_X10_bytes : (ax_needs ax_T ax_n9 ax_j9 ax_m9 aD_X10_bytes).all goodWord = true := by decide +kernel
theorem ok_X10_bytes : ax_okM ax_Ss ax_T ax_n9 ax_j9 ax_m9 aD_X10_bytes := ax_okM_of (fun q h => of_decide_eq_true (List.all_eq_true.mp k1_X10_bytes q h)) k2_X10_bytes (ax_W_of _ k3_X10_bytes k4_X10_bytes) (by decide +kernel) (fun pc q h => by cases h)
theorem k1_X10_reference : (at_X10_reference).all (fun q => decide (decode cX10_reference q.1 = .ok (q.2.1, q.2.2.1))) = true := by decide +kernel
theorem k2_X10_reference : ax_chks ax_T aD_X10_reference = true := by decide +kernel
theorem k3_X10_reference : ax_needs ax_T ax_n9 ax_j9 ax_m9 aD_X10_reference = [991, 993, 27, 87, 991, 993, 27, 87, 465, 286, 465, 286, 1020, 1022, 28, 87, 818, 105, 1060, 1032, 1034, 29, 87, 463, 491, 492, 493, 91, 465, 1037, 866, 867, 94, 1058].filterMap (fun i => ax_big[i]?) := by decide +kernel
theorem k4_X10_reference : (ax_needs ax_T ax_n9 ax_j9 ax_m9 aD_X10_reference).all goodWord = true := by decide +kernel
theorem kx_X10_reference_33 : ax_okx ax_Ss aD_X10_reference 33 ("java/lang/IllegalStateException", "an entry of another unit", 53, 142, 57, false) := ⟨by decide, by decide +kernel, rfl, by decide +kernel, by decide +kernel, ⟨by decide +kernel, by decide +kernel, by decide +kernel⟩, kt_0, kn_0⟩
theorem kx_X10_reference_56 : ax_okx ax_Ss aD_X10_reference 56 ("java/lang/IllegalArgumentException", "no form of a reference", 66, 147, 70, false) := ⟨by decide, by decide +kernel, rfl, by decide +kernel, by decide +kernel, ⟨by decide +kernel, by decide +kernel, by decide +kernel⟩, kt_1, kn_1⟩
theorem kx_X10_reference : ∀ pc q, (ax_dx aD_X10_reference).lookup pc = some q → ax_okx ax_Ss aD_X10_reference pc q := by
  intro pc q h
  have hm := ax_lookup_mem h
  simp only [ax_dx, aD_X10_reference, List.mem_cons, List.not_mem_nil, or_false, Prod.mk.injEq] at hm
  rcases hm with ⟨rfl, rfl⟩ | ⟨rfl, rfl⟩
  · exact kx_X10_reference_33
  · exact kx_X10_reference_56
theorem ok_X10_reference : ax_okM ax_Ss ax_T ax_n9 ax_j9 ax_m9 aD_X10_reference := ax_okM_of (fun q h => of_decide_eq_true (List.all_eq_true.mp k1_X10_reference q h)) k2_X10_reference (ax_W_of _ k3_X10_reference k4_X10_reference) (by decide +kernel) kx_X10_reference
theorem k1_X10_clear : (at_X10_clear).all (fun q => decide (decode cX10_clear q.1 = .ok (q.2.1, q.2.2.1))) = true := by decide +kernel
theorem k2_X10_clear : ax_chks ax_T aD_X10_clear = true := by decide +kernel
theorem k3_X10_clear : ax_needs ax_T ax_n9 ax_j9 ax_m9 aD_X10_clear = [465, 270, 465, 483, 484, 485, 94, 461, 487, 488, 489, 88, 463, 491, 492, 493, 91, 482].filterMap (fun i => ax_big[i]?) := by decide +kernel
theorem k4_X10_clear : (ax_needs ax_T ax_n9 ax_j9 ax_m9 aD_X10_clear).all goodWord = true := by decide +kernel
theorem ok_X10_clear : ax_okM ax_Ss ax_T ax_n9 ax_j9 ax_m9 aD_X10_clear := ax_okM_of (fun q h => of_decide_eq_true (List.all_eq_true.mp k1_X10_clear q h)) k2_X10_clear (ax_W_of _ k3_X10_clear k4_X10_clear) (by decide +kernel) (fun pc q h => by cases h)
theorem k1_X10_write : (at_X10_write).all (fun q => decide (decode cX10_write q.1 = .ok (q.2.1, q.2.2.1))) = true := by decide +kernel
theorem k2_X10_write : ax_chks ax_T aD_X10_write = true := by decide +kernel
theorem k3_X10_write : ax_needs ax_T ax_n9 ax_j9 ax_m9 aD_X10_write = [463, 465, 461, 499, 500, 501, 91, 463, 184, 463, 187, 463, 188, 465, 461, 463, 462, 143, 608, 107, 607, 465, 463, 462, 146, 650, 107, 649, 465, 461, 463, 462, 149, 653, 107, 652, 462, 143, 655, 656, 657, 88, 462, 146, 655, 656, 657, 88, 462, 149, 655, 656, 657, 88, 498].filterMap (fun i => ax_big[i]?) := by decide +kernel
theorem k4_X10_write : (ax_needs ax_T ax_n9 ax_j9 ax_m9 aD_X10_write).all goodWord = true := by decide +kernel
theorem ok_X10_write : ax_okM ax_Ss ax_T ax_n9 ax_j9 ax_m9 aD_X10_write := ax_okM_of (fun q h => of_decide_eq_true (List.all_eq_true.mp k1_X10_write q h)) k2_X10_write (ax_W_of _ k3_X10_write k4_X10_write) (by decide +kernel) (fun pc q h => by cases h)
theorem k1_X10_size : (at_X10_size).all (fun q => decide (decode cX10_size q.1 = .ok (q.2.1, q.2.2.1))) = true := by decide +kernel
theorem k2_X10_size : ax_chks ax_T aD_X10_size = true := by decide +kernel
theorem k3_X10_size : ax_needs ax_T ax_n9 ax_j9 ax_m9 aD_X10_size = [1069, 1071, 31, 87, 462, 1074, 679, 680, 90, 655, 656, 657, 88, 1068].filterMap (fun i => ax_big[i]?) := by decide +kernel
theorem k4_X10_size : (ax_needs ax_T ax_n9 ax_j9 ax_m9 aD_X10_size).all goodWord = true := by decide +kernel
theorem ok_X10_size : ax_okM ax_Ss ax_T ax_n9 ax_j9 ax_m9 aD_X10_size := ax_okM_of (fun q h => of_decide_eq_true (List.all_eq_true.mp k1_X10_size q h)) k2_X10_size (ax_W_of _ k3_X10_size k4_X10_size) (by decide +kernel) (fun pc q h => by cases h)
theorem k1_X10_octet : (at_X10_octet).all (fun q => decide (decode cX10_octet q.1 = .ok (q.2.1, q.2.2.1))) = true := by decide +kernel
theorem k2_X10_octet : ax_chks ax_T aD_X10_octet = true := by decide +kernel
theorem k3_X10_octet : ax_needs ax_T ax_n9 ax_j9 ax_m9 aD_X10_octet = [1082, 1084, 32, 87, 462, 1074, 679, 680, 90, 1087, 573, 574, 88, 1081].filterMap (fun i => ax_big[i]?) := by decide +kernel
theorem k4_X10_octet : (ax_needs ax_T ax_n9 ax_j9 ax_m9 aD_X10_octet).all goodWord = true := by decide +kernel
theorem ok_X10_octet : ax_okM ax_Ss ax_T ax_n9 ax_j9 ax_m9 aD_X10_octet := ax_okM_of (fun q h => of_decide_eq_true (List.all_eq_true.mp k1_X10_octet q h)) k2_X10_octet (ax_W_of _ k3_X10_octet k4_X10_octet) (by decide +kernel) (fun pc q h => by cases h)
theorem k1_X10_load : (at_X10_load).all (fun q => decide (decode cX10_load q.1 = .ok (q.2.1, q.2.2.1))) = true := by decide +kernel
theorem k2_X10_load : ax_chks ax_T aD_X10_load = true := by decide +kernel
theorem k3_X10_load : ax_needs ax_T ax_n9 ax_j9 ax_m9 aD_X10_load = [1069, 1071, 31, 87, 462, 1074, 679, 680, 90, 460, 655, 656, 657, 88, 1095, 1096, 1097, 88, 487, 488, 489, 88, 460, 892, 645, 646, 88, 460, 487, 488, 489, 88, 1094].filterMap (fun i => ax_big[i]?) := by decide +kernel
theorem k4_X10_load : (ax_needs ax_T ax_n9 ax_j9 ax_m9 aD_X10_load).all goodWord = true := by decide +kernel
theorem kx_X10_load_30 : ax_okx ax_Ss aD_X10_load 30 ("java/lang/UnsupportedOperationException", "too many bytes for the section", 84, 200, 88, false) := ⟨by decide, by decide +kernel, rfl, by decide +kernel, by decide +kernel, ⟨by decide +kernel, by decide +kernel, by decide +kernel⟩, kt_2, kn_2⟩
theorem kx_X10_load : ∀ pc q, (ax_dx aD_X10_load).lookup pc = some q → ax_okx ax_Ss aD_X10_load pc q := by
  intro pc q h
  have hm := ax_lookup_mem h
  simp only [ax_dx, aD_X10_load, List.mem_cons, List.not_mem_nil, or_false, Prod.mk.injEq] at hm
  obtain ⟨rfl, rfl⟩ := hm
  exact kx_X10_load_30
theorem ok_X10_load : ax_okM ax_Ss ax_T ax_n9 ax_j9 ax_m9 aD_X10_load := ax_okM_of (fun q h => of_decide_eq_true (List.all_eq_true.mp k1_X10_load q h)) k2_X10_load (ax_W_of _ k3_X10_load k4_X10_load) (by decide +kernel) kx_X10_load
theorem k1_X10_alter : (at_X10_alter).all (fun q => decide (decode cX10_alter q.1 = .ok (q.2.1, q.2.2.1))) = true := by decide +kernel
theorem k2_X10_alter : ax_chks ax_T aD_X10_alter = true := by decide +kernel
theorem k3_X10_alter : ax_needs ax_T ax_n9 ax_j9 ax_m9 aD_X10_alter = [1082, 1084, 32, 87, 462, 1074, 679, 680, 90, 1107, 1108, 1109, 88, 1087, 573, 574, 88, 1106].filterMap (fun i => ax_big[i]?) := by decide +kernel
theorem k4_X10_alter : (ax_needs ax_T ax_n9 ax_j9 ax_m9 aD_X10_alter).all goodWord = true := by decide +kernel
theorem ok_X10_alter : ax_okM ax_Ss ax_T ax_n9 ax_j9 ax_m9 aD_X10_alter := ax_okM_of (fun q h => of_decide_eq_true (List.all_eq_true.mp k1_X10_alter q h)) k2_X10_alter (ax_W_of _ k3_X10_alter k4_X10_alter) (by decide +kernel) (fun pc q h => by cases h)
theorem k1_X10_read : (at_X10_read).all (fun q => decide (decode cX10_read q.1 = .ok (q.2.1, q.2.2.1))) = true := by decide +kernel
theorem k2_X10_read : ax_chks ax_T aD_X10_read = true := by decide +kernel
theorem k3_X10_read : ax_needs ax_T ax_n9 ax_j9 ax_m9 aD_X10_read = [464, 462, 664, 665, 666, 93, 464, 437, 377, 465, 464, 435, 465, 464, 435, 885, 887, 24, 87, 463, 491, 492, 493, 91, 465, 270, 663, 662].filterMap (fun i => ax_big[i]?) := by decide +kernel
theorem k4_X10_read : (ax_needs ax_T ax_n9 ax_j9 ax_m9 aD_X10_read).all goodWord = true := by decide +kernel
theorem ok_X10_read : ax_okM ax_Ss ax_T ax_n9 ax_j9 ax_m9 aD_X10_read := ax_okM_of (fun q h => of_decide_eq_true (List.all_eq_true.mp k1_X10_read q h)) k2_X10_read (ax_W_of _ k3_X10_read k4_X10_read) (by decide +kernel) (fun pc q h => by cases h)
theorem k1_X10_fault : (at_X10_fault).all (fun q => decide (decode cX10_fault q.1 = .ok (q.2.1, q.2.2.1))) = true := by decide +kernel
theorem k2_X10_fault : ax_chks ax_T aD_X10_fault = true := by decide +kernel
theorem k3_X10_fault : ax_needs ax_T ax_n9 ax_j9 ax_m9 aD_X10_fault = [464, 437, 373, 464, 437, 375, 1117].filterMap (fun i => ax_big[i]?) := by decide +kernel
theorem k4_X10_fault : (ax_needs ax_T ax_n9 ax_j9 ax_m9 aD_X10_fault).all goodWord = true := by decide +kernel
theorem kx_X10_fault_9 : ax_okx ax_Ss aD_X10_fault 9 ("java/lang/IndexOutOfBoundsException", "no such part of a fault", 222, 224, 226, false) := ⟨by decide, by decide +kernel, rfl, by decide +kernel, by decide +kernel, ⟨by decide +kernel, by decide +kernel, by decide +kernel⟩, kt_3, kn_3⟩
theorem kx_X10_fault : ∀ pc q, (ax_dx aD_X10_fault).lookup pc = some q → ax_okx ax_Ss aD_X10_fault pc q := by
  intro pc q h
  have hm := ax_lookup_mem h
  simp only [ax_dx, aD_X10_fault, List.mem_cons, List.not_mem_nil, or_false, Prod.mk.injEq] at hm
  obtain ⟨rfl, rfl⟩ := hm
  exact kx_X10_fault_9
theorem ok_X10_fault : ax_okM ax_Ss ax_T ax_n9 ax_j9 ax_m9 aD_X10_fault := ax_okM_of (fun q h => of_decide_eq_true (List.all_eq_true.mp k1_X10_fault q h)) k2_X10_fault (ax_W_of _ k3_X10_fault k4_X10_fault) (by decide +kernel) kx_X10_fault
theorem k1_X10_count : (at_X10_count).all (fun q => decide (decode cX10_count q.1 = .ok (q.2.1, q.2.2.1))) = true := by decide +kernel
theorem k2_X10_count : ax_chks ax_T aD_X10_count = true := by decide +kernel
theorem k3_X10_count : ax_needs ax_T ax_n9 ax_j9 ax_m9 aD_X10_count = [465, 270, 465, 267, 463, 465, 461, 499, 500, 501, 91, 463, 180, 463, 465, 461, 499, 500, 501, 91, 463, 183, 1125].filterMap (fun i => ax_big[i]?) := by decide +kernel
theorem k4_X10_count : (ax_needs ax_T ax_n9 ax_j9 ax_m9 aD_X10_count).all goodWord = true := by decide +kernel
theorem kx_X10_count_94 : ax_okx ax_Ss aD_X10_count 94 ("java/lang/IndexOutOfBoundsException", "no such count", 222, 237, 226, false) := ⟨by decide, by decide +kernel, rfl, by decide +kernel, by decide +kernel, ⟨by decide +kernel, by decide +kernel, by decide +kernel⟩, kt_3, kn_3⟩
theorem kx_X10_count : ∀ pc q, (ax_dx aD_X10_count).lookup pc = some q → ax_okx ax_Ss aD_X10_count pc q := by
  intro pc q h
  have hm := ax_lookup_mem h
  simp only [ax_dx, aD_X10_count, List.mem_cons, List.not_mem_nil, or_false, Prod.mk.injEq] at hm
  obtain ⟨rfl, rfl⟩ := hm
  exact kx_X10_count_94
theorem ok_X10_count : ax_okM ax_Ss ax_T ax_n9 ax_j9 ax_m9 aD_X10_count := ax_okM_of (fun q h => of_decide_eq_true (List.all_eq_true.mp k1_X10_count q h)) k2_X10_count (ax_W_of _ k3_X10_count k4_X10_count) (by decide +kernel) kx_X10_count
theorem k1_X10_about : (at_X10_about).all (fun q => decide (decode cX10_about q.1 = .ok (q.2.1, q.2.2.1))) = true := by decide +kernel
theorem k2_X10_about : ax_chks ax_T aD_X10_about = true := by decide +kernel
theorem k3_X10_about : ax_needs ax_T ax_n9 ax_j9 ax_m9 aD_X10_about = [991, 993, 27, 87, 465, 280, 465, 284, 465, 286, 465, 294, 465, 306, 463, 465, 461, 499, 500, 501, 91, 463, 203, 1133].filterMap (fun i => ax_big[i]?) := by decide +kernel
theorem k4_X10_about : (ax_needs ax_T ax_n9 ax_j9 ax_m9 aD_X10_about).all goodWord = true := by decide +kernel
theorem kx_X10_about_119 : ax_okx ax_Ss aD_X10_about 119 ("java/lang/IndexOutOfBoundsException", "nothing such about an entry", 222, 254, 226, false) := ⟨by decide, by decide +kernel, rfl, by decide +kernel, by decide +kernel, ⟨by decide +kernel, by decide +kernel, by decide +kernel⟩, kt_3, kn_3⟩
theorem kx_X10_about : ∀ pc q, (ax_dx aD_X10_about).lookup pc = some q → ax_okx ax_Ss aD_X10_about pc q := by
  intro pc q h
  have hm := ax_lookup_mem h
  simp only [ax_dx, aD_X10_about, List.mem_cons, List.not_mem_nil, or_false, Prod.mk.injEq] at hm
  obtain ⟨rfl, rfl⟩ := hm
  exact kx_X10_about_119
theorem ok_X10_about : ax_okM ax_Ss ax_T ax_n9 ax_j9 ax_m9 aD_X10_about := ax_okM_of (fun q h => of_decide_eq_true (List.all_eq_true.mp k1_X10_about q h)) k2_X10_about (ax_W_of _ k3_X10_about k4_X10_about) (by decide +kernel) kx_X10_about
theorem k1_X10_child : (at_X10_child).all (fun q => decide (decode cX10_child q.1 = .ok (q.2.1, q.2.2.1))) = true := by decide +kernel
theorem k2_X10_child : ax_chks ax_T aD_X10_child = true := by decide +kernel
theorem k3_X10_child : ax_needs ax_T ax_n9 ax_j9 ax_m9 aD_X10_child = [991, 993, 27, 87, 465, 294, 465, 1142, 1143, 1144, 94, 1141].filterMap (fun i => ax_big[i]?) := by decide +kernel
theorem k4_X10_child : (ax_needs ax_T ax_n9 ax_j9 ax_m9 aD_X10_child).all goodWord = true := by decide +kernel
theorem ok_X10_child : ax_okM ax_Ss ax_T ax_n9 ax_j9 ax_m9 aD_X10_child := ax_okM_of (fun q h => of_decide_eq_true (List.all_eq_true.mp k1_X10_child q h)) k2_X10_child (ax_W_of _ k3_X10_child k4_X10_child) (by decide +kernel) (fun pc q h => by cases h)
theorem k1_X10_root : (at_X10_root).all (fun q => decide (decode cX10_root q.1 = .ok (q.2.1, q.2.2.1))) = true := by decide +kernel
theorem k2_X10_root : ax_chks ax_T aD_X10_root = true := by decide +kernel
theorem k3_X10_root : ax_needs ax_T ax_n9 ax_j9 ax_m9 aD_X10_root = [465, 267, 465, 276, 1152].filterMap (fun i => ax_big[i]?) := by decide +kernel
theorem k4_X10_root : (ax_needs ax_T ax_n9 ax_j9 ax_m9 aD_X10_root).all goodWord = true := by decide +kernel
theorem kx_X10_root_15 : ax_okx ax_Ss aD_X10_root 15 ("java/lang/IndexOutOfBoundsException", "no such unit", 222, 259, 226, true) := ⟨by decide, by decide +kernel, rfl, by decide +kernel, by decide +kernel, ⟨by decide +kernel, by decide +kernel, by decide +kernel⟩, kt_3, kn_3⟩
theorem kx_X10_root : ∀ pc q, (ax_dx aD_X10_root).lookup pc = some q → ax_okx ax_Ss aD_X10_root pc q := by
  intro pc q h
  have hm := ax_lookup_mem h
  simp only [ax_dx, aD_X10_root, List.mem_cons, List.not_mem_nil, or_false, Prod.mk.injEq] at hm
  obtain ⟨rfl, rfl⟩ := hm
  exact kx_X10_root_15
theorem ok_X10_root : ax_okM ax_Ss ax_T ax_n9 ax_j9 ax_m9 aD_X10_root := ax_okM_of (fun q h => of_decide_eq_true (List.all_eq_true.mp k1_X10_root q h)) k2_X10_root (ax_W_of _ k3_X10_root k4_X10_root) (by decide +kernel) kx_X10_root
theorem k1_X10_attribute : (at_X10_attribute).all (fun q => decide (decode cX10_attribute q.1 = .ok (q.2.1, q.2.2.1))) = true := by decide +kernel
theorem k2_X10_attribute : ax_chks ax_T aD_X10_attribute = true := by decide +kernel
theorem k3_X10_attribute : ax_needs ax_T ax_n9 ax_j9 ax_m9 aD_X10_attribute = [1161, 1163, 33, 87, 465, 310, 465, 315, 465, 324, 1160].filterMap (fun i => ax_big[i]?) := by decide +kernel
theorem k4_X10_attribute : (ax_needs ax_T ax_n9 ax_j9 ax_m9 aD_X10_attribute).all goodWord = true := by decide +kernel
theorem kx_X10_attribute_69 : ax_okx ax_Ss aD_X10_attribute 69 ("java/lang/IndexOutOfBoundsException", "nothing such of an attribute", 222, 276, 226, true) := ⟨by decide, by decide +kernel, rfl, by decide +kernel, by decide +kernel, ⟨by decide +kernel, by decide +kernel, by decide +kernel⟩, kt_3, kn_3⟩
theorem kx_X10_attribute : ∀ pc q, (ax_dx aD_X10_attribute).lookup pc = some q → ax_okx ax_Ss aD_X10_attribute pc q := by
  intro pc q h
  have hm := ax_lookup_mem h
  simp only [ax_dx, aD_X10_attribute, List.mem_cons, List.not_mem_nil, or_false, Prod.mk.injEq] at hm
  obtain ⟨rfl, rfl⟩ := hm
  exact kx_X10_attribute_69
theorem ok_X10_attribute : ax_okM ax_Ss ax_T ax_n9 ax_j9 ax_m9 aD_X10_attribute := ax_okM_of (fun q h => of_decide_eq_true (List.all_eq_true.mp k1_X10_attribute q h)) k2_X10_attribute (ax_W_of _ k3_X10_attribute k4_X10_attribute) (by decide +kernel) kx_X10_attribute
theorem k1_X10_value : (at_X10_value).all (fun q => decide (decode cX10_value q.1 = .ok (q.2.1, q.2.2.1))) = true := by decide +kernel
theorem k2_X10_value : ax_chks ax_T aD_X10_value = true := by decide +kernel
theorem k3_X10_value : ax_needs ax_T ax_n9 ax_j9 ax_m9 aD_X10_value = [1161, 1163, 33, 87, 465, 315, 812, 105, 890, 465, 320, 1173].filterMap (fun i => ax_big[i]?) := by decide +kernel
theorem k4_X10_value : (ax_needs ax_T ax_n9 ax_j9 ax_m9 aD_X10_value).all goodWord = true := by decide +kernel
theorem ok_X10_value : ax_okM ax_Ss ax_T ax_n9 ax_j9 ax_m9 aD_X10_value := ax_okM_of (fun q h => of_decide_eq_true (List.all_eq_true.mp k1_X10_value q h)) k2_X10_value (ax_W_of _ k3_X10_value k4_X10_value) (by decide +kernel) (fun pc q h => by cases h)
theorem k1_X10_letter : (at_X10_letter).all (fun q => decide (decode cX10_letter q.1 = .ok (q.2.1, q.2.2.1))) = true := by decide +kernel
theorem k2_X10_letter : ax_chks ax_T aD_X10_letter = true := by decide +kernel
theorem k3_X10_letter : ax_needs ax_T ax_n9 ax_j9 ax_m9 aD_X10_letter = [1161, 1163, 33, 87, 465, 324, 461, 465, 891, 565, 566, 94, 1087, 573, 574, 88, 1180].filterMap (fun i => ax_big[i]?) := by decide +kernel
theorem k4_X10_letter : (ax_needs ax_T ax_n9 ax_j9 ax_m9 aD_X10_letter).all goodWord = true := by decide +kernel
theorem kx_X10_letter_26 : ax_okx ax_Ss aD_X10_letter 26 ("java/lang/IndexOutOfBoundsException", "no such byte of a text or block", 222, 285, 226, true) := ⟨by decide, by decide +kernel, rfl, by decide +kernel, by decide +kernel, ⟨by decide +kernel, by decide +kernel, by decide +kernel⟩, kt_3, kn_3⟩
theorem kx_X10_letter : ∀ pc q, (ax_dx aD_X10_letter).lookup pc = some q → ax_okx ax_Ss aD_X10_letter pc q := by
  intro pc q h
  have hm := ax_lookup_mem h
  simp only [ax_dx, aD_X10_letter, List.mem_cons, List.not_mem_nil, or_false, Prod.mk.injEq] at hm
  obtain ⟨rfl, rfl⟩ := hm
  exact kx_X10_letter_26
theorem ok_X10_letter : ax_okM ax_Ss ax_T ax_n9 ax_j9 ax_m9 aD_X10_letter := ax_okM_of (fun q h => of_decide_eq_true (List.all_eq_true.mp k1_X10_letter q h)) k2_X10_letter (ax_W_of _ k3_X10_letter k4_X10_letter) (by decide +kernel) kx_X10_letter
theorem k1_X10_find : (at_X10_find).all (fun q => decide (decode cX10_find q.1 = .ok (q.2.1, q.2.2.1))) = true := by decide +kernel
theorem k2_X10_find : ax_chks ax_T aD_X10_find = true := by decide +kernel
theorem k3_X10_find : ax_needs ax_T ax_n9 ax_j9 ax_m9 aD_X10_find = [991, 993, 27, 87, 1189, 1191, 34, 87, 1198, 1200, 36, 87, 460, 487, 488, 489, 88, 1188].filterMap (fun i => ax_big[i]?) := by decide +kernel
theorem k4_X10_find : (ax_needs ax_T ax_n9 ax_j9 ax_m9 aD_X10_find).all goodWord = true := by decide +kernel
theorem ok_X10_find : ax_okM ax_Ss ax_T ax_n9 ax_j9 ax_m9 aD_X10_find := ax_okM_of (fun q h => of_decide_eq_true (List.all_eq_true.mp k1_X10_find q h)) k2_X10_find (ax_W_of _ k3_X10_find k4_X10_find) (by decide +kernel) (fun pc q h => by cases h)
theorem k1_X10_covers : (at_X10_covers).all (fun q => decide (decode cX10_covers q.1 = .ok (q.2.1, q.2.2.1))) = true := by decide +kernel
theorem k2_X10_covers : ax_chks ax_T aD_X10_covers = true := by decide +kernel
theorem k3_X10_covers : ax_needs ax_T ax_n9 ax_j9 ax_m9 aD_X10_covers = [465, 270, 465, 290, 465, 290, 897, 899, 25, 87, 896].filterMap (fun i => ax_big[i]?) := by decide +kernel
theorem k4_X10_covers : (ax_needs ax_T ax_n9 ax_j9 ax_m9 aD_X10_covers).all goodWord = true := by decide +kernel
theorem ok_X10_covers : ax_okM ax_Ss ax_T ax_n9 ax_j9 ax_m9 aD_X10_covers := ax_okM_of (fun q h => of_decide_eq_true (List.all_eq_true.mp k1_X10_covers q h)) k2_X10_covers (ax_W_of _ k3_X10_covers k4_X10_covers) (by decide +kernel) (fun pc q h => by cases h)
theorem k1_X10_needEntry : (at_X10_needEntry).all (fun q => decide (decode cX10_needEntry q.1 = .ok (q.2.1, q.2.2.1))) = true := by decide +kernel
theorem k2_X10_needEntry : ax_chks ax_T aD_X10_needEntry = true := by decide +kernel
theorem k3_X10_needEntry : ax_needs ax_T ax_n9 ax_j9 ax_m9 aD_X10_needEntry = [465, 270, 994].filterMap (fun i => ax_big[i]?) := by decide +kernel
theorem k4_X10_needEntry : (ax_needs ax_T ax_n9 ax_j9 ax_m9 aD_X10_needEntry).all goodWord = true := by decide +kernel
theorem kx_X10_needEntry_15 : ax_okx ax_Ss aD_X10_needEntry 15 ("java/lang/IndexOutOfBoundsException", "no such entry", 222, 299, 226, true) := ⟨by decide, by decide +kernel, rfl, by decide +kernel, by decide +kernel, ⟨by decide +kernel, by decide +kernel, by decide +kernel⟩, kt_3, kn_3⟩
theorem kx_X10_needEntry : ∀ pc q, (ax_dx aD_X10_needEntry).lookup pc = some q → ax_okx ax_Ss aD_X10_needEntry pc q := by
  intro pc q h
  have hm := ax_lookup_mem h
  simp only [ax_dx, aD_X10_needEntry, List.mem_cons, List.not_mem_nil, or_false, Prod.mk.injEq] at hm
  obtain ⟨rfl, rfl⟩ := hm
  exact kx_X10_needEntry_15
theorem ok_X10_needEntry : ax_okM ax_Ss ax_T ax_n9 ax_j9 ax_m9 aD_X10_needEntry := ax_okM_of (fun q h => of_decide_eq_true (List.all_eq_true.mp k1_X10_needEntry q h)) k2_X10_needEntry (ax_W_of _ k3_X10_needEntry k4_X10_needEntry) (by decide +kernel) kx_X10_needEntry
theorem k1_X10_needCode : (at_X10_needCode).all (fun q => decide (decode cX10_needCode q.1 = .ok (q.2.1, q.2.2.1))) = true := by decide +kernel
theorem k2_X10_needCode : ax_chks ax_T aD_X10_needCode = true := by decide +kernel
theorem k3_X10_needCode : ax_needs ax_T ax_n9 ax_j9 ax_m9 aD_X10_needCode = [793, 87, 964, 963].filterMap (fun i => ax_big[i]?) := by decide +kernel
theorem k4_X10_needCode : (ax_needs ax_T ax_n9 ax_j9 ax_m9 aD_X10_needCode).all goodWord = true := by decide +kernel
theorem kx_X10_needCode_7 : ax_okx ax_Ss aD_X10_needCode 7 ("java/lang/IllegalArgumentException", "no tag or name", 66, 304, 70, true) := ⟨by decide, by decide +kernel, rfl, by decide +kernel, by decide +kernel, ⟨by decide +kernel, by decide +kernel, by decide +kernel⟩, kt_1, kn_1⟩
theorem kx_X10_needCode : ∀ pc q, (ax_dx aD_X10_needCode).lookup pc = some q → ax_okx ax_Ss aD_X10_needCode pc q := by
  intro pc q h
  have hm := ax_lookup_mem h
  simp only [ax_dx, aD_X10_needCode, List.mem_cons, List.not_mem_nil, or_false, Prod.mk.injEq] at hm
  obtain ⟨rfl, rfl⟩ := hm
  exact kx_X10_needCode_7
theorem ok_X10_needCode : ax_okM ax_Ss ax_T ax_n9 ax_j9 ax_m9 aD_X10_needCode := ax_okM_of (fun q h => of_decide_eq_true (List.all_eq_true.mp k1_X10_needCode q h)) k2_X10_needCode (ax_W_of _ k3_X10_needCode k4_X10_needCode) (by decide +kernel) kx_X10_needCode
theorem k1_X10_needNewName : (at_X10_needNewName).all (fun q => decide (decode cX10_needNewName q.1 = .ok (q.2.1, q.2.2.1))) = true := by decide +kernel
theorem k2_X10_needNewName : ax_chks ax_T aD_X10_needNewName = true := by decide +kernel
theorem k3_X10_needNewName : ax_needs ax_T ax_n9 ax_j9 ax_m9 aD_X10_needNewName = [960, 962, 26, 87, 465, 901, 902, 903, 94, 1023].filterMap (fun i => ax_big[i]?) := by decide +kernel
theorem k4_X10_needNewName : (ax_needs ax_T ax_n9 ax_j9 ax_m9 aD_X10_needNewName).all goodWord = true := by decide +kernel
theorem kx_X10_needNewName_18 : ax_okx ax_Ss aD_X10_needNewName 18 ("java/lang/IllegalArgumentException", "the name is told", 66, 309, 70, true) := ⟨by decide, by decide +kernel, rfl, by decide +kernel, by decide +kernel, ⟨by decide +kernel, by decide +kernel, by decide +kernel⟩, kt_1, kn_1⟩
theorem kx_X10_needNewName : ∀ pc q, (ax_dx aD_X10_needNewName).lookup pc = some q → ax_okx ax_Ss aD_X10_needNewName pc q := by
  intro pc q h
  have hm := ax_lookup_mem h
  simp only [ax_dx, aD_X10_needNewName, List.mem_cons, List.not_mem_nil, or_false, Prod.mk.injEq] at hm
  obtain ⟨rfl, rfl⟩ := hm
  exact kx_X10_needNewName_18
theorem ok_X10_needNewName : ax_okM ax_Ss ax_T ax_n9 ax_j9 ax_m9 aD_X10_needNewName := ax_okM_of (fun q h => of_decide_eq_true (List.all_eq_true.mp k1_X10_needNewName q h)) k2_X10_needNewName (ax_W_of _ k3_X10_needNewName k4_X10_needNewName) (by decide +kernel) kx_X10_needNewName
theorem k1_X10_needLetters : (at_X10_needLetters).all (fun q => decide (decode cX10_needLetters q.1 = .ok (q.2.1, q.2.2.1))) = true := by decide +kernel
theorem k2_X10_needLetters : ax_chks ax_T aD_X10_needLetters = true := by decide +kernel
theorem k3_X10_needLetters : ax_needs ax_T ax_n9 ax_j9 ax_m9 aD_X10_needLetters = [812, 105, 890, 460, 655, 656, 657, 88, 815, 105, 1049, 460, 460, 655, 656, 657, 88, 1050, 854, 855, 88, 1048].filterMap (fun i => ax_big[i]?) := by decide +kernel
theorem k4_X10_needLetters : (ax_needs ax_T ax_n9 ax_j9 ax_m9 aD_X10_needLetters).all goodWord = true := by decide +kernel
theorem kx_X10_needLetters_56 : ax_okx ax_Ss aD_X10_needLetters 56 ("java/lang/IllegalArgumentException", "no such text or block", 66, 317, 70, true) := ⟨by decide, by decide +kernel, rfl, by decide +kernel, by decide +kernel, ⟨by decide +kernel, by decide +kernel, by decide +kernel⟩, kt_1, kn_1⟩
theorem kx_X10_needLetters : ∀ pc q, (ax_dx aD_X10_needLetters).lookup pc = some q → ax_okx ax_Ss aD_X10_needLetters pc q := by
  intro pc q h
  have hm := ax_lookup_mem h
  simp only [ax_dx, aD_X10_needLetters, List.mem_cons, List.not_mem_nil, or_false, Prod.mk.injEq] at hm
  obtain ⟨rfl, rfl⟩ := hm
  exact kx_X10_needLetters_56
theorem ok_X10_needLetters : ax_okM ax_Ss ax_T ax_n9 ax_j9 ax_m9 aD_X10_needLetters := ax_okM_of (fun q h => of_decide_eq_true (List.all_eq_true.mp k1_X10_needLetters q h)) k2_X10_needLetters (ax_W_of _ k3_X10_needLetters k4_X10_needLetters) (by decide +kernel) kx_X10_needLetters
theorem k1_X10_needRoom : (at_X10_needRoom).all (fun q => decide (decode cX10_needRoom q.1 = .ok (q.2.1, q.2.2.1))) = true := by decide +kernel
theorem k2_X10_needRoom : ax_chks ax_T aD_X10_needRoom = true := by decide +kernel
theorem k3_X10_needRoom : ax_needs ax_T ax_n9 ax_j9 ax_m9 aD_X10_needRoom = [465, 306, 461, 918, 919, 920, 88, 1035].filterMap (fun i => ax_big[i]?) := by decide +kernel
theorem k4_X10_needRoom : (ax_needs ax_T ax_n9 ax_j9 ax_m9 aD_X10_needRoom).all goodWord = true := by decide +kernel
theorem kx_X10_needRoom_25 : ax_okx ax_Ss aD_X10_needRoom 25 ("java/lang/UnsupportedOperationException", "no room for an attribute", 84, 319, 88, true) := ⟨by decide, by decide +kernel, rfl, by decide +kernel, by decide +kernel, ⟨by decide +kernel, by decide +kernel, by decide +kernel⟩, kt_2, kn_2⟩
theorem kx_X10_needRoom : ∀ pc q, (ax_dx aD_X10_needRoom).lookup pc = some q → ax_okx ax_Ss aD_X10_needRoom pc q := by
  intro pc q h
  have hm := ax_lookup_mem h
  simp only [ax_dx, aD_X10_needRoom, List.mem_cons, List.not_mem_nil, or_false, Prod.mk.injEq] at hm
  obtain ⟨rfl, rfl⟩ := hm
  exact kx_X10_needRoom_25
theorem ok_X10_needRoom : ax_okM ax_Ss ax_T ax_n9 ax_j9 ax_m9 aD_X10_needRoom := ax_okM_of (fun q h => of_decide_eq_true (List.all_eq_true.mp k1_X10_needRoom q h)) k2_X10_needRoom (ax_W_of _ k3_X10_needRoom k4_X10_needRoom) (by decide +kernel) kx_X10_needRoom
theorem k1_X10_needSection : (at_X10_needSection).all (fun q => decide (decode cX10_needSection q.1 = .ok (q.2.1, q.2.2.1))) = true := by decide +kernel
theorem k2_X10_needSection : ax_chks ax_T aD_X10_needSection = true := by decide +kernel
theorem k3_X10_needSection : ax_needs ax_T ax_n9 ax_j9 ax_m9 aD_X10_needSection = [1072].filterMap (fun i => ax_big[i]?) := by decide +kernel
theorem k4_X10_needSection : (ax_needs ax_T ax_n9 ax_j9 ax_m9 aD_X10_needSection).all goodWord = true := by decide +kernel
theorem kx_X10_needSection_9 : ax_okx ax_Ss aD_X10_needSection 9 ("java/lang/IndexOutOfBoundsException", "no such section", 222, 321, 226, true) := ⟨by decide, by decide +kernel, rfl, by decide +kernel, by decide +kernel, ⟨by decide +kernel, by decide +kernel, by decide +kernel⟩, kt_3, kn_3⟩
theorem kx_X10_needSection : ∀ pc q, (ax_dx aD_X10_needSection).lookup pc = some q → ax_okx ax_Ss aD_X10_needSection pc q := by
  intro pc q h
  have hm := ax_lookup_mem h
  simp only [ax_dx, aD_X10_needSection, List.mem_cons, List.not_mem_nil, or_false, Prod.mk.injEq] at hm
  obtain ⟨rfl, rfl⟩ := hm
  exact kx_X10_needSection_9
theorem ok_X10_needSection : ax_okM ax_Ss ax_T ax_n9 ax_j9 ax_m9 aD_X10_needSection := ax_okM_of (fun q h => of_decide_eq_true (List.all_eq_true.mp k1_X10_needSection q h)) k2_X10_needSection (ax_W_of _ k3_X10_needSection k4_X10_needSection) (by decide +kernel) kx_X10_needSection
theorem k1_X10_needByte : (at_X10_needByte).all (fun q => decide (decode cX10_needByte q.1 = .ok (q.2.1, q.2.2.1))) = true := by decide +kernel
theorem k2_X10_needByte : ax_chks ax_T aD_X10_needByte = true := by decide +kernel
theorem k3_X10_needByte : ax_needs ax_T ax_n9 ax_j9 ax_m9 aD_X10_needByte = [1069, 1071, 31, 87, 462, 1074, 679, 680, 90, 655, 656, 657, 88, 1085].filterMap (fun i => ax_big[i]?) := by decide +kernel
theorem k4_X10_needByte : (ax_needs ax_T ax_n9 ax_j9 ax_m9 aD_X10_needByte).all goodWord = true := by decide +kernel
theorem kx_X10_needByte_24 : ax_okx ax_Ss aD_X10_needByte 24 ("java/lang/IndexOutOfBoundsException", "no such byte of a section", 222, 323, 226, true) := ⟨by decide, by decide +kernel, rfl, by decide +kernel, by decide +kernel, ⟨by decide +kernel, by decide +kernel, by decide +kernel⟩, kt_3, kn_3⟩
theorem kx_X10_needByte : ∀ pc q, (ax_dx aD_X10_needByte).lookup pc = some q → ax_okx ax_Ss aD_X10_needByte pc q := by
  intro pc q h
  have hm := ax_lookup_mem h
  simp only [ax_dx, aD_X10_needByte, List.mem_cons, List.not_mem_nil, or_false, Prod.mk.injEq] at hm
  obtain ⟨rfl, rfl⟩ := hm
  exact kx_X10_needByte_24
theorem ok_X10_needByte : ax_okM ax_Ss ax_T ax_n9 ax_j9 ax_m9 aD_X10_needByte := ax_okM_of (fun q h => of_decide_eq_true (List.all_eq_true.mp k1_X10_needByte q h)) k2_X10_needByte (ax_W_of _ k3_X10_needByte k4_X10_needByte) (by decide +kernel) kx_X10_needByte
theorem k1_X10_neededSlot : (at_X10_neededSlot).all (fun q => decide (decode cX10_neededSlot q.1 = .ok (q.2.1, q.2.2.1))) = true := by decide +kernel
theorem k2_X10_neededSlot : ax_chks ax_T aD_X10_neededSlot = true := by decide +kernel
theorem k3_X10_neededSlot : ax_needs ax_T ax_n9 ax_j9 ax_m9 aD_X10_neededSlot = [991, 993, 27, 87, 465, 306, 526, 94, 889, 1164].filterMap (fun i => ax_big[i]?) := by decide +kernel
theorem k4_X10_neededSlot : (ax_needs ax_T ax_n9 ax_j9 ax_m9 aD_X10_neededSlot).all goodWord = true := by decide +kernel
theorem kx_X10_neededSlot_22 : ax_okx ax_Ss aD_X10_neededSlot 22 ("java/lang/IndexOutOfBoundsException", "no such attribute", 222, 325, 226, true) := ⟨by decide, by decide +kernel, rfl, by decide +kernel, by decide +kernel, ⟨by decide +kernel, by decide +kernel, by decide +kernel⟩, kt_3, kn_3⟩
theorem kx_X10_neededSlot : ∀ pc q, (ax_dx aD_X10_neededSlot).lookup pc = some q → ax_okx ax_Ss aD_X10_neededSlot pc q := by
  intro pc q h
  have hm := ax_lookup_mem h
  simp only [ax_dx, aD_X10_neededSlot, List.mem_cons, List.not_mem_nil, or_false, Prod.mk.injEq] at hm
  obtain ⟨rfl, rfl⟩ := hm
  exact kx_X10_neededSlot_22
theorem ok_X10_neededSlot : ax_okM ax_Ss ax_T ax_n9 ax_j9 ax_m9 aD_X10_neededSlot := ax_okM_of (fun q h => of_decide_eq_true (List.all_eq_true.mp k1_X10_neededSlot q h)) k2_X10_neededSlot (ax_W_of _ k3_X10_neededSlot k4_X10_neededSlot) (by decide +kernel) kx_X10_neededSlot
theorem k1_X10_keepLetters : (at_X10_keepLetters).all (fun q => decide (decode cX10_keepLetters q.1 = .ok (q.2.1, q.2.2.1))) = true := by decide +kernel
theorem k2_X10_keepLetters : ax_chks ax_T aD_X10_keepLetters = true := by decide +kernel
theorem k3_X10_keepLetters : ax_needs ax_T ax_n9 ax_j9 ax_m9 aD_X10_keepLetters = [461, 487, 488, 489, 88, 465, 270, 465, 306, 526, 94, 889, 465, 315, 812, 105, 890, 465, 315, 462, 149, 462, 143, 461, 655, 656, 657, 88, 461, 465, 891, 565, 566, 94, 465, 324, 892, 645, 646, 88, 465, 320, 888].filterMap (fun i => ax_big[i]?) := by decide +kernel
theorem k4_X10_keepLetters : (ax_needs ax_T ax_n9 ax_j9 ax_m9 aD_X10_keepLetters).all goodWord = true := by decide +kernel
theorem ok_X10_keepLetters : ax_okM ax_Ss ax_T ax_n9 ax_j9 ax_m9 aD_X10_keepLetters := ax_okM_of (fun q h => of_decide_eq_true (List.all_eq_true.mp k1_X10_keepLetters q h)) k2_X10_keepLetters (ax_W_of _ k3_X10_keepLetters k4_X10_keepLetters) (by decide +kernel) (fun pc q h => by cases h)
theorem k1_X10_rootNamedByTape : (at_X10_rootNamedByTape).all (fun q => decide (decode cX10_rootNamedByTape q.1 = .ok (q.2.1, q.2.2.1))) = true := by decide +kernel
theorem k2_X10_rootNamedByTape : ax_chks ax_T aD_X10_rootNamedByTape = true := by decide +kernel
theorem k3_X10_rootNamedByTape : ax_needs ax_T ax_n9 ax_j9 ax_m9 aD_X10_rootNamedByTape = [465, 267, 465, 276, 1193, 1195, 35, 87, 465, 276, 1192].filterMap (fun i => ax_big[i]?) := by decide +kernel
theorem k4_X10_rootNamedByTape : (ax_needs ax_T ax_n9 ax_j9 ax_m9 aD_X10_rootNamedByTape).all goodWord = true := by decide +kernel
theorem ok_X10_rootNamedByTape : ax_okM ax_Ss ax_T ax_n9 ax_j9 ax_m9 aD_X10_rootNamedByTape := ax_okM_of (fun q h => of_decide_eq_true (List.all_eq_true.mp k1_X10_rootNamedByTape q h)) k2_X10_rootNamedByTape (ax_W_of _ k3_X10_rootNamedByTape k4_X10_rootNamedByTape) (by decide +kernel) (fun pc q h => by cases h)
theorem k1_X10_childNamedByTape : (at_X10_childNamedByTape).all (fun q => decide (decode cX10_childNamedByTape q.1 = .ok (q.2.1, q.2.2.1))) = true := by decide +kernel
theorem k2_X10_childNamedByTape : ax_chks ax_T aD_X10_childNamedByTape = true := by decide +kernel
theorem k3_X10_childNamedByTape : ax_needs ax_T ax_n9 ax_j9 ax_m9 aD_X10_childNamedByTape = [465, 297, 465, 294, 1193, 1195, 35, 87, 465, 301, 1201].filterMap (fun i => ax_big[i]?) := by decide +kernel
theorem k4_X10_childNamedByTape : (ax_needs ax_T ax_n9 ax_j9 ax_m9 aD_X10_childNamedByTape).all goodWord = true := by decide +kernel
theorem ok_X10_childNamedByTape : ax_okM ax_Ss ax_T ax_n9 ax_j9 ax_m9 aD_X10_childNamedByTape := ax_okM_of (fun q h => of_decide_eq_true (List.all_eq_true.mp k1_X10_childNamedByTape q h)) k2_X10_childNamedByTape (ax_W_of _ k3_X10_childNamedByTape k4_X10_childNamedByTape) (by decide +kernel) (fun pc q h => by cases h)
theorem k1_X10_isNamedByTape : (at_X10_isNamedByTape).all (fun q => decide (decode cX10_isNamedByTape q.1 = .ok (q.2.1, q.2.2.1))) = true := by decide +kernel
theorem k2_X10_isNamedByTape : ax_chks ax_T aD_X10_isNamedByTape = true := by decide +kernel
theorem k3_X10_isNamedByTape : ax_needs ax_T ax_n9 ax_j9 ax_m9 aD_X10_isNamedByTape = [465, 901, 902, 903, 94, 465, 315, 815, 105, 1049, 465, 324, 460, 655, 656, 657, 88, 461, 465, 891, 565, 566, 94, 460, 460, 655, 656, 657, 88, 1197, 581, 582, 88, 1196].filterMap (fun i => ax_big[i]?) := by decide +kernel
theorem k4_X10_isNamedByTape : (ax_needs ax_T ax_n9 ax_j9 ax_m9 aD_X10_isNamedByTape).all goodWord = true := by decide +kernel
theorem ok_X10_isNamedByTape : ax_okM ax_Ss ax_T ax_n9 ax_j9 ax_m9 aD_X10_isNamedByTape := ax_okM_of (fun q h => of_decide_eq_true (List.all_eq_true.mp k1_X10_isNamedByTape q h)) k2_X10_isNamedByTape (ax_W_of _ k3_X10_isNamedByTape k4_X10_isNamedByTape) (by decide +kernel) (fun pc q h => by cases h)
theorem k1_X10_coversAddress : (at_X10_coversAddress).all (fun q => decide (decode cX10_coversAddress q.1 = .ok (q.2.1, q.2.2.1))) = true := by decide +kernel
theorem k2_X10_coversAddress : ax_chks ax_T aD_X10_coversAddress = true := by decide +kernel
theorem k3_X10_coversAddress : ax_needs ax_T ax_n9 ax_j9 ax_m9 aD_X10_coversAddress = [465, 901, 902, 903, 94, 465, 901, 902, 903, 94, 465, 315, 809, 105, 905, 465, 315, 809, 105, 905, 465, 320, 907, 87, 906, 465, 320, 907, 87, 906, 900].filterMap (fun i => ax_big[i]?) := by decide +kernel
theorem k4_X10_coversAddress : (ax_needs ax_T ax_n9 ax_j9 ax_m9 aD_X10_coversAddress).all goodWord = true := by decide +kernel
theorem ok_X10_coversAddress : ax_okM ax_Ss ax_T ax_n9 ax_j9 ax_m9 aD_X10_coversAddress := ax_okM_of (fun q h => of_decide_eq_true (List.all_eq_true.mp k1_X10_coversAddress q h)) k2_X10_coversAddress (ax_W_of _ k3_X10_coversAddress k4_X10_coversAddress) (by decide +kernel) (fun pc q h => by cases h)
theorem k1_X10_isBelow : (at_X10_isBelow).all (fun q => decide (decode cX10_isBelow q.1 = .ok (q.2.1, q.2.2.1))) = true := by decide +kernel
theorem k2_X10_isBelow : ax_chks ax_T aD_X10_isBelow = true := by decide +kernel
theorem k3_X10_isBelow : ax_needs ax_T ax_n9 ax_j9 ax_m9 aD_X10_isBelow = [909, 909, 908].filterMap (fun i => ax_big[i]?) := by decide +kernel
theorem k4_X10_isBelow : (ax_needs ax_T ax_n9 ax_j9 ax_m9 aD_X10_isBelow).all goodWord = true := by decide +kernel
theorem ok_X10_isBelow : ax_okM ax_Ss ax_T ax_n9 ax_j9 ax_m9 aD_X10_isBelow := ax_okM_of (fun q h => of_decide_eq_true (List.all_eq_true.mp k1_X10_isBelow q h)) k2_X10_isBelow (ax_W_of _ k3_X10_isBelow k4_X10_isBelow) (by decide +kernel) (fun pc q h => by cases h)
theorem k1_X10_isCode : (at_X10_isCode).all (fun q => decide (decode cX10_isCode q.1 = .ok (q.2.1, q.2.2.1))) = true := by decide +kernel
theorem k2_X10_isCode : ax_chks ax_T aD_X10_isCode = true := by decide +kernel
theorem k3_X10_isCode : ax_needs ax_T ax_n9 ax_j9 ax_m9 aD_X10_isCode = [794].filterMap (fun i => ax_big[i]?) := by decide +kernel
theorem k4_X10_isCode : (ax_needs ax_T ax_n9 ax_j9 ax_m9 aD_X10_isCode).all goodWord = true := by decide +kernel
theorem ok_X10_isCode : ax_okM ax_Ss ax_T ax_n9 ax_j9 ax_m9 aD_X10_isCode := ax_okM_of (fun q h => of_decide_eq_true (List.all_eq_true.mp k1_X10_isCode q h)) k2_X10_isCode (ax_W_of _ k3_X10_isCode k4_X10_isCode) (by decide +kernel) (fun pc q h => by cases h)
end
