section
theorem k1_J7_fill_53178 : (at_J7_fill_53178).all (fun q => decide (decode cJ7_fill_53178 q.1 = .ok (q.2.1, q.2.2.1))) = true := by decide +kernel
theorem k2_J7_fill_53178 : ax_chks ax_T aD_J7_fill_53178 = true := by decide +kernel
theorem k3_J7_fill_53178 : ax_needs ax_T ax_n9 ax_j9 ax_m9 aD_J7_fill_53178 = [521].filterMap (fun i => ax_big[i]?) := by decide +kernel
theorem k4_J7_fill_53178 : (ax_needs ax_T ax_n9 ax_j9 ax_m9 aD_J7_fill_53178).all goodWord = true := by decide +kernel
theorem ok_J7_fill_53178 : ax_okM ax_Ss ax_T ax_n9 ax_j9 ax_m9 aD_J7_fill_53178 := ax_okM_of (fun q h => of_decide_eq_true (List.all_eq_true.mp k1_J7_fill_53178 q h)) k2_J7_fill_53178 (ax_W_of _ k3_J7_fill_53178 k4_J7_fill_53178) (by decide +kernel) (fun pc q h => by cases h)
theorem k1_L_feed : (at_L_feed).all (fun q => decide (decode cL_feed q.1 = .ok (q.2.1, q.2.2.1))) = true := by decide +kernel
theorem k2_L_feed : ax_chks ax_T aD_L_feed = true := by decide +kernel
theorem k3_L_feed : ax_needs ax_T ax_n9 ax_j9 ax_m9 aD_L_feed = [914, 915, 916, 87, 913, 912].filterMap (fun i => ax_big[i]?) := by decide +kernel
theorem k4_L_feed : (ax_needs ax_T ax_n9 ax_j9 ax_m9 aD_L_feed).all goodWord = true := by decide +kernel
theorem ok_L_feed : ax_okM ax_Ss ax_T ax_n9 ax_j9 ax_m9 aD_L_feed := ax_okM_of (fun q h => of_decide_eq_true (List.all_eq_true.mp k1_L_feed q h)) k2_L_feed (ax_W_of _ k3_L_feed k4_L_feed) (by decide +kernel) (fun pc q h => by cases h)
theorem k1_L_end : (at_L_end).all (fun q => decide (decode cL_end q.1 = .ok (q.2.1, q.2.2.1))) = true := by decide +kernel
theorem k2_L_end : ax_chks ax_T aD_L_end = true := by decide +kernel
theorem k3_L_end : ax_needs ax_T ax_n9 ax_j9 ax_m9 aD_L_end = [932, 933, 934, 87, 931, 930].filterMap (fun i => ax_big[i]?) := by decide +kernel
theorem k4_L_end : (ax_needs ax_T ax_n9 ax_j9 ax_m9 aD_L_end).all goodWord = true := by decide +kernel
theorem ok_L_end : ax_okM ax_Ss ax_T ax_n9 ax_j9 ax_m9 aD_L_end := ax_okM_of (fun q h => of_decide_eq_true (List.all_eq_true.mp k1_L_end q h)) k2_L_end (ax_W_of _ k3_L_end k4_L_end) (by decide +kernel) (fun pc q h => by cases h)
theorem k1_L_unit : (at_L_unit).all (fun q => decide (decode cL_unit q.1 = .ok (q.2.1, q.2.2.1))) = true := by decide +kernel
theorem k2_L_unit : ax_chks ax_T aD_L_unit = true := by decide +kernel
theorem k3_L_unit : ax_needs ax_T ax_n9 ax_j9 ax_m9 aD_L_unit = [956, 957, 958, 87, 931, 955, 954].filterMap (fun i => ax_big[i]?) := by decide +kernel
theorem k4_L_unit : (ax_needs ax_T ax_n9 ax_j9 ax_m9 aD_L_unit).all goodWord = true := by decide +kernel
theorem ok_L_unit : ax_okM ax_Ss ax_T ax_n9 ax_j9 ax_m9 aD_L_unit := ax_okM_of (fun q h => of_decide_eq_true (List.all_eq_true.mp k1_L_unit q h)) k2_L_unit (ax_W_of _ k3_L_unit k4_L_unit) (by decide +kernel) (fun pc q h => by cases h)
theorem k1_L_entry : (at_L_entry).all (fun q => decide (decode cL_entry q.1 = .ok (q.2.1, q.2.2.1))) = true := by decide +kernel
theorem k2_L_entry : ax_chks ax_T aD_L_entry = true := by decide +kernel
theorem k3_L_entry : ax_needs ax_T ax_n9 ax_j9 ax_m9 aD_L_entry = [987, 988, 989, 87, 986, 931, 955, 985].filterMap (fun i => ax_big[i]?) := by decide +kernel
theorem k4_L_entry : (ax_needs ax_T ax_n9 ax_j9 ax_m9 aD_L_entry).all goodWord = true := by decide +kernel
theorem ok_L_entry : ax_okM ax_Ss ax_T ax_n9 ax_j9 ax_m9 aD_L_entry := ax_okM_of (fun q h => of_decide_eq_true (List.all_eq_true.mp k1_L_entry q h)) k2_L_entry (ax_W_of _ k3_L_entry k4_L_entry) (by decide +kernel) (fun pc q h => by cases h)
theorem k1_L_number : (at_L_number).all (fun q => decide (decode cL_number q.1 = .ok (q.2.1, q.2.2.1))) = true := by decide +kernel
theorem k2_L_number : ax_chks ax_T aD_L_number = true := by decide +kernel
theorem k3_L_number : ax_needs ax_T ax_n9 ax_j9 ax_m9 aD_L_number = [1016, 1017, 1018, 87, 986, 931, 955, 1015].filterMap (fun i => ax_big[i]?) := by decide +kernel
theorem k4_L_number : (ax_needs ax_T ax_n9 ax_j9 ax_m9 aD_L_number).all goodWord = true := by decide +kernel
theorem ok_L_number : ax_okM ax_Ss ax_T ax_n9 ax_j9 ax_m9 aD_L_number := ax_okM_of (fun q h => of_decide_eq_true (List.all_eq_true.mp k1_L_number q h)) k2_L_number (ax_W_of _ k3_L_number k4_L_number) (by decide +kernel) (fun pc q h => by cases h)
theorem k1_L_bytes : (at_L_bytes).all (fun q => decide (decode cL_bytes q.1 = .ok (q.2.1, q.2.2.1))) = true := by decide +kernel
theorem k2_L_bytes : ax_chks ax_T aD_L_bytes = true := by decide +kernel
theorem k3_L_bytes : ax_needs ax_T ax_n9 ax_j9 ax_m9 aD_L_bytes = [1041, 1042, 1043, 87, 986, 931, 955, 1040].filterMap (fun i => ax_big[i]?) := by decide +kernel
theorem k4_L_bytes : (ax_needs ax_T ax_n9 ax_j9 ax_m9 aD_L_bytes).all goodWord = true := by decide +kernel
theorem ok_L_bytes : ax_okM ax_Ss ax_T ax_n9 ax_j9 ax_m9 aD_L_bytes := ax_okM_of (fun q h => of_decide_eq_true (List.all_eq_true.mp k1_L_bytes q h)) k2_L_bytes (ax_W_of _ k3_L_bytes k4_L_bytes) (by decide +kernel) (fun pc q h => by cases h)
theorem k1_L_reference : (at_L_reference).all (fun q => decide (decode cL_reference q.1 = .ok (q.2.1, q.2.2.1))) = true := by decide +kernel
theorem k2_L_reference : ax_chks ax_T aD_L_reference = true := by decide +kernel
theorem k3_L_reference : ax_needs ax_T ax_n9 ax_j9 ax_m9 aD_L_reference = [1055, 1056, 1057, 87, 986, 913, 931, 955, 1054].filterMap (fun i => ax_big[i]?) := by decide +kernel
theorem k4_L_reference : (ax_needs ax_T ax_n9 ax_j9 ax_m9 aD_L_reference).all goodWord = true := by decide +kernel
theorem ok_L_reference : ax_okM ax_Ss ax_T ax_n9 ax_j9 ax_m9 aD_L_reference := ax_okM_of (fun q h => of_decide_eq_true (List.all_eq_true.mp k1_L_reference q h)) k2_L_reference (ax_W_of _ k3_L_reference k4_L_reference) (by decide +kernel) (fun pc q h => by cases h)
theorem k1_L_size : (at_L_size).all (fun q => decide (decode cL_size q.1 = .ok (q.2.1, q.2.2.1))) = true := by decide +kernel
theorem k2_L_size : ax_chks ax_T aD_L_size = true := by decide +kernel
theorem k3_L_size : ax_needs ax_T ax_n9 ax_j9 ax_m9 aD_L_size = [1065, 1066, 1067, 87, 986, 1064].filterMap (fun i => ax_big[i]?) := by decide +kernel
theorem k4_L_size : (ax_needs ax_T ax_n9 ax_j9 ax_m9 aD_L_size).all goodWord = true := by decide +kernel
theorem ok_L_size : ax_okM ax_Ss ax_T ax_n9 ax_j9 ax_m9 aD_L_size := ax_okM_of (fun q h => of_decide_eq_true (List.all_eq_true.mp k1_L_size q h)) k2_L_size (ax_W_of _ k3_L_size k4_L_size) (by decide +kernel) (fun pc q h => by cases h)
theorem k1_L_octet : (at_L_octet).all (fun q => decide (decode cL_octet q.1 = .ok (q.2.1, q.2.2.1))) = true := by decide +kernel
theorem k2_L_octet : ax_chks ax_T aD_L_octet = true := by decide +kernel
theorem k3_L_octet : ax_needs ax_T ax_n9 ax_j9 ax_m9 aD_L_octet = [1078, 1079, 1080, 87, 986, 1077].filterMap (fun i => ax_big[i]?) := by decide +kernel
theorem k4_L_octet : (ax_needs ax_T ax_n9 ax_j9 ax_m9 aD_L_octet).all goodWord = true := by decide +kernel
theorem ok_L_octet : ax_okM ax_Ss ax_T ax_n9 ax_j9 ax_m9 aD_L_octet := ax_okM_of (fun q h => of_decide_eq_true (List.all_eq_true.mp k1_L_octet q h)) k2_L_octet (ax_W_of _ k3_L_octet k4_L_octet) (by decide +kernel) (fun pc q h => by cases h)
theorem k1_L_load : (at_L_load).all (fun q => decide (decode cL_load q.1 = .ok (q.2.1, q.2.2.1))) = true := by decide +kernel
theorem k2_L_load : ax_chks ax_T aD_L_load = true := by decide +kernel
theorem k3_L_load : ax_needs ax_T ax_n9 ax_j9 ax_m9 aD_L_load = [1091, 1092, 1093, 87, 986, 955, 1090].filterMap (fun i => ax_big[i]?) := by decide +kernel
theorem k4_L_load : (ax_needs ax_T ax_n9 ax_j9 ax_m9 aD_L_load).all goodWord = true := by decide +kernel
theorem ok_L_load : ax_okM ax_Ss ax_T ax_n9 ax_j9 ax_m9 aD_L_load := ax_okM_of (fun q h => of_decide_eq_true (List.all_eq_true.mp k1_L_load q h)) k2_L_load (ax_W_of _ k3_L_load k4_L_load) (by decide +kernel) (fun pc q h => by cases h)
theorem k1_L_alter : (at_L_alter).all (fun q => decide (decode cL_alter q.1 = .ok (q.2.1, q.2.2.1))) = true := by decide +kernel
theorem k2_L_alter : ax_chks ax_T aD_L_alter = true := by decide +kernel
theorem k3_L_alter : ax_needs ax_T ax_n9 ax_j9 ax_m9 aD_L_alter = [1103, 1104, 1105, 87, 986, 1102].filterMap (fun i => ax_big[i]?) := by decide +kernel
theorem k4_L_alter : (ax_needs ax_T ax_n9 ax_j9 ax_m9 aD_L_alter).all goodWord = true := by decide +kernel
theorem ok_L_alter : ax_okM ax_Ss ax_T ax_n9 ax_j9 ax_m9 aD_L_alter := ax_okM_of (fun q h => of_decide_eq_true (List.all_eq_true.mp k1_L_alter q h)) k2_L_alter (ax_W_of _ k3_L_alter k4_L_alter) (by decide +kernel) (fun pc q h => by cases h)
theorem k1_L_fault : (at_L_fault).all (fun q => decide (decode cL_fault q.1 = .ok (q.2.1, q.2.2.1))) = true := by decide +kernel
theorem k2_L_fault : ax_chks ax_T aD_L_fault = true := by decide +kernel
theorem k3_L_fault : ax_needs ax_T ax_n9 ax_j9 ax_m9 aD_L_fault = [1114, 1115, 1116, 87, 986, 1113].filterMap (fun i => ax_big[i]?) := by decide +kernel
theorem k4_L_fault : (ax_needs ax_T ax_n9 ax_j9 ax_m9 aD_L_fault).all goodWord = true := by decide +kernel
theorem ok_L_fault : ax_okM ax_Ss ax_T ax_n9 ax_j9 ax_m9 aD_L_fault := ax_okM_of (fun q h => of_decide_eq_true (List.all_eq_true.mp k1_L_fault q h)) k2_L_fault (ax_W_of _ k3_L_fault k4_L_fault) (by decide +kernel) (fun pc q h => by cases h)
theorem k1_L_count : (at_L_count).all (fun q => decide (decode cL_count q.1 = .ok (q.2.1, q.2.2.1))) = true := by decide +kernel
theorem k2_L_count : ax_chks ax_T aD_L_count = true := by decide +kernel
theorem k3_L_count : ax_needs ax_T ax_n9 ax_j9 ax_m9 aD_L_count = [1122, 1123, 1124, 87, 986, 1121].filterMap (fun i => ax_big[i]?) := by decide +kernel
theorem k4_L_count : (ax_needs ax_T ax_n9 ax_j9 ax_m9 aD_L_count).all goodWord = true := by decide +kernel
theorem ok_L_count : ax_okM ax_Ss ax_T ax_n9 ax_j9 ax_m9 aD_L_count := ax_okM_of (fun q h => of_decide_eq_true (List.all_eq_true.mp k1_L_count q h)) k2_L_count (ax_W_of _ k3_L_count k4_L_count) (by decide +kernel) (fun pc q h => by cases h)
theorem k1_L_about : (at_L_about).all (fun q => decide (decode cL_about q.1 = .ok (q.2.1, q.2.2.1))) = true := by decide +kernel
theorem k2_L_about : ax_chks ax_T aD_L_about = true := by decide +kernel
theorem k3_L_about : ax_needs ax_T ax_n9 ax_j9 ax_m9 aD_L_about = [1130, 1131, 1132, 87, 986, 1129].filterMap (fun i => ax_big[i]?) := by decide +kernel
theorem k4_L_about : (ax_needs ax_T ax_n9 ax_j9 ax_m9 aD_L_about).all goodWord = true := by decide +kernel
theorem ok_L_about : ax_okM ax_Ss ax_T ax_n9 ax_j9 ax_m9 aD_L_about := ax_okM_of (fun q h => of_decide_eq_true (List.all_eq_true.mp k1_L_about q h)) k2_L_about (ax_W_of _ k3_L_about k4_L_about) (by decide +kernel) (fun pc q h => by cases h)
theorem k1_L_child : (at_L_child).all (fun q => decide (decode cL_child q.1 = .ok (q.2.1, q.2.2.1))) = true := by decide +kernel
theorem k2_L_child : ax_chks ax_T aD_L_child = true := by decide +kernel
theorem k3_L_child : ax_needs ax_T ax_n9 ax_j9 ax_m9 aD_L_child = [1138, 1139, 1140, 87, 986, 1137].filterMap (fun i => ax_big[i]?) := by decide +kernel
theorem k4_L_child : (ax_needs ax_T ax_n9 ax_j9 ax_m9 aD_L_child).all goodWord = true := by decide +kernel
theorem ok_L_child : ax_okM ax_Ss ax_T ax_n9 ax_j9 ax_m9 aD_L_child := ax_okM_of (fun q h => of_decide_eq_true (List.all_eq_true.mp k1_L_child q h)) k2_L_child (ax_W_of _ k3_L_child k4_L_child) (by decide +kernel) (fun pc q h => by cases h)
theorem k1_L_root : (at_L_root).all (fun q => decide (decode cL_root q.1 = .ok (q.2.1, q.2.2.1))) = true := by decide +kernel
theorem k2_L_root : ax_chks ax_T aD_L_root = true := by decide +kernel
theorem k3_L_root : ax_needs ax_T ax_n9 ax_j9 ax_m9 aD_L_root = [1149, 1150, 1151, 87, 986, 1148].filterMap (fun i => ax_big[i]?) := by decide +kernel
theorem k4_L_root : (ax_needs ax_T ax_n9 ax_j9 ax_m9 aD_L_root).all goodWord = true := by decide +kernel
theorem ok_L_root : ax_okM ax_Ss ax_T ax_n9 ax_j9 ax_m9 aD_L_root := ax_okM_of (fun q h => of_decide_eq_true (List.all_eq_true.mp k1_L_root q h)) k2_L_root (ax_W_of _ k3_L_root k4_L_root) (by decide +kernel) (fun pc q h => by cases h)
theorem k1_L_attribute : (at_L_attribute).all (fun q => decide (decode cL_attribute q.1 = .ok (q.2.1, q.2.2.1))) = true := by decide +kernel
theorem k2_L_attribute : ax_chks ax_T aD_L_attribute = true := by decide +kernel
theorem k3_L_attribute : ax_needs ax_T ax_n9 ax_j9 ax_m9 aD_L_attribute = [1157, 1158, 1159, 87, 986, 1156].filterMap (fun i => ax_big[i]?) := by decide +kernel
theorem k4_L_attribute : (ax_needs ax_T ax_n9 ax_j9 ax_m9 aD_L_attribute).all goodWord = true := by decide +kernel
theorem ok_L_attribute : ax_okM ax_Ss ax_T ax_n9 ax_j9 ax_m9 aD_L_attribute := ax_okM_of (fun q h => of_decide_eq_true (List.all_eq_true.mp k1_L_attribute q h)) k2_L_attribute (ax_W_of _ k3_L_attribute k4_L_attribute) (by decide +kernel) (fun pc q h => by cases h)
theorem k1_L_value : (at_L_value).all (fun q => decide (decode cL_value q.1 = .ok (q.2.1, q.2.2.1))) = true := by decide +kernel
theorem k2_L_value : ax_chks ax_T aD_L_value = true := by decide +kernel
theorem k3_L_value : ax_needs ax_T ax_n9 ax_j9 ax_m9 aD_L_value = [1170, 1171, 1172, 87, 986, 1169].filterMap (fun i => ax_big[i]?) := by decide +kernel
theorem k4_L_value : (ax_needs ax_T ax_n9 ax_j9 ax_m9 aD_L_value).all goodWord = true := by decide +kernel
theorem ok_L_value : ax_okM ax_Ss ax_T ax_n9 ax_j9 ax_m9 aD_L_value := ax_okM_of (fun q h => of_decide_eq_true (List.all_eq_true.mp k1_L_value q h)) k2_L_value (ax_W_of _ k3_L_value k4_L_value) (by decide +kernel) (fun pc q h => by cases h)
theorem k1_L_letter : (at_L_letter).all (fun q => decide (decode cL_letter q.1 = .ok (q.2.1, q.2.2.1))) = true := by decide +kernel
theorem k2_L_letter : ax_chks ax_T aD_L_letter = true := by decide +kernel
theorem k3_L_letter : ax_needs ax_T ax_n9 ax_j9 ax_m9 aD_L_letter = [1177, 1178, 1179, 87, 986, 1176].filterMap (fun i => ax_big[i]?) := by decide +kernel
theorem k4_L_letter : (ax_needs ax_T ax_n9 ax_j9 ax_m9 aD_L_letter).all goodWord = true := by decide +kernel
theorem ok_L_letter : ax_okM ax_Ss ax_T ax_n9 ax_j9 ax_m9 aD_L_letter := ax_okM_of (fun q h => of_decide_eq_true (List.all_eq_true.mp k1_L_letter q h)) k2_L_letter (ax_W_of _ k3_L_letter k4_L_letter) (by decide +kernel) (fun pc q h => by cases h)
theorem k1_L_find : (at_L_find).all (fun q => decide (decode cL_find q.1 = .ok (q.2.1, q.2.2.1))) = true := by decide +kernel
theorem k2_L_find : ax_chks ax_T aD_L_find = true := by decide +kernel
theorem k3_L_find : ax_needs ax_T ax_n9 ax_j9 ax_m9 aD_L_find = [1185, 1186, 1187, 87, 986, 1184].filterMap (fun i => ax_big[i]?) := by decide +kernel
theorem k4_L_find : (ax_needs ax_T ax_n9 ax_j9 ax_m9 aD_L_find).all goodWord = true := by decide +kernel
theorem ok_L_find : ax_okM ax_Ss ax_T ax_n9 ax_j9 ax_m9 aD_L_find := ax_okM_of (fun q h => of_decide_eq_true (List.all_eq_true.mp k1_L_find q h)) k2_L_find (ax_W_of _ k3_L_find k4_L_find) (by decide +kernel) (fun pc q h => by cases h)
end
