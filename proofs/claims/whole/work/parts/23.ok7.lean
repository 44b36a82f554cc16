section
theorem ax_alln {α : Type} {l : List α} {f : α → Bool} (m : Nat) (h : ∀ i, i < m → ((l.drop (100 * i)).take 100).all f = true) (hl : l.length ≤ 100 * m) : l.all f = true := by
  have g : ∀ m, (∀ i, i < m → ((l.drop (100 * i)).take 100).all f = true) → (l.take (100 * m)).all f = true := by
    intro m
    induction m with
    | zero => intro _; rfl
    | succ n ih =>
      intro h
      rw [show 100 * (n + 1) = 100 * n + 100 by omega, List.take_add, List.all_append, ih (fun i hi => h i (by omega)), h n (by omega)]
      rfl
  have := g m h
  rwa [List.take_of_length_le hl] at this
theorem k1_X11_init_0 : (((at_X11_init).drop 0).take 100).all (fun q => decide (decode cX11_init q.1 = .ok (q.2.1, q.2.2.1))) = true := by decide +kernel
theorem k1_X11_init_1 : (((at_X11_init).drop 100).take 100).all (fun q => decide (decode cX11_init q.1 = .ok (q.2.1, q.2.2.1))) = true := by decide +kernel
theorem k1_X11_init : (at_X11_init).all (fun q => decide (decode cX11_init q.1 = .ok (q.2.1, q.2.2.1))) = true := ax_alln 2 (fun i hi => match i, hi with | 0, _ => k1_X11_init_0 | 1, _ => k1_X11_init_1 | n + 2, h => absurd h (by omega)) (by decide +kernel)
theorem k2_X11_init : ax_chks ax_T aD_X11_init = true := by decide +kernel
theorem k3_X11_init : ax_needs ax_T ax_n9 ax_j9 ax_m9 aD_X11_init = [1207, 114, 115, 132, 1211, 177, 1214, 177, 1215, 177, 1216, 177, 1217, 177, 1218, 177, 1219, 177, 1220, 177, 1221, 177, 1222, 358, 1223, 177, 1224, 177, 1225, 177, 1226, 177, 1227, 1208, 132, 1228, 1209, 132, 1229, 177, 1230, 177, 1234, 177, 1235, 177, 1237, 177, 1238, 177, 1240, 177, 1241, 177, 1243, 177, 1244, 177, 1245, 177, 1254, 177, 1255, 433, 1256, 177, 1257, 177, 1258, 177, 1259, 177, 1260, 177, 1261, 1206].filterMap (fun i => ax_big[i]?) := by decide +kernel
theorem k4_X11_init : (ax_needs ax_T ax_n9 ax_j9 ax_m9 aD_X11_init).all goodWord = true := by decide +kernel
theorem ok_X11_init : ax_okM ax_Ss ax_T ax_n9 ax_j9 ax_m9 aD_X11_init := ax_okM_of (fun q h => of_decide_eq_true (List.all_eq_true.mp k1_X11_init q h)) k2_X11_init (ax_W_of _ k3_X11_init k4_X11_init) (by decide +kernel) (fun pc q h => by cases h)
theorem k1_X11_thrown : (at_X11_thrown).all (fun q => decide (decode cX11_thrown q.1 = .ok (q.2.1, q.2.2.1))) = true := by decide +kernel
theorem k2_X11_thrown : ax_chks ax_T aD_X11_thrown = true := by decide +kernel
theorem k3_X11_thrown : ax_needs ax_T ax_n9 ax_j9 ax_m9 aD_X11_thrown = [1210, 1379].filterMap (fun i => ax_big[i]?) := by decide +kernel
theorem k4_X11_thrown : (ax_needs ax_T ax_n9 ax_j9 ax_m9 aD_X11_thrown).all goodWord = true := by decide +kernel
theorem ok_X11_thrown : ax_okM ax_Ss ax_T ax_n9 ax_j9 ax_m9 aD_X11_thrown := ax_okM_of (fun q h => of_decide_eq_true (List.all_eq_true.mp k1_X11_thrown q h)) k2_X11_thrown (ax_W_of _ k3_X11_thrown k4_X11_thrown) (by decide +kernel) (fun pc q h => by cases h)
theorem k1_X11_in : (at_X11_in).all (fun q => decide (decode cX11_in q.1 = .ok (q.2.1, q.2.2.1))) = true := by decide +kernel
theorem k2_X11_in : ax_chks ax_T aD_X11_in = true := by decide +kernel
theorem k3_X11_in : ax_needs ax_T ax_n9 ax_j9 ax_m9 aD_X11_in = [1394].filterMap (fun i => ax_big[i]?) := by decide +kernel
theorem k4_X11_in : (ax_needs ax_T ax_n9 ax_j9 ax_m9 aD_X11_in).all goodWord = true := by decide +kernel
theorem ok_X11_in : ax_okM ax_Ss ax_T ax_n9 ax_j9 ax_m9 aD_X11_in := ax_okM_of (fun q h => of_decide_eq_true (List.all_eq_true.mp k1_X11_in q h)) k2_X11_in (ax_W_of _ k3_X11_in k4_X11_in) (by decide +kernel) (fun pc q h => by cases h)
theorem k1_X11_goes : (at_X11_goes).all (fun q => decide (decode cX11_goes q.1 = .ok (q.2.1, q.2.2.1))) = true := by decide +kernel
theorem k2_X11_goes : ax_chks ax_T aD_X11_goes = true := by decide +kernel
theorem k3_X11_goes : ax_needs ax_T ax_n9 ax_j9 ax_m9 aD_X11_goes = [1210, 1387].filterMap (fun i => ax_big[i]?) := by decide +kernel
theorem k4_X11_goes : (ax_needs ax_T ax_n9 ax_j9 ax_m9 aD_X11_goes).all goodWord = true := by decide +kernel
theorem ok_X11_goes : ax_okM ax_Ss ax_T ax_n9 ax_j9 ax_m9 aD_X11_goes := ax_okM_of (fun q h => of_decide_eq_true (List.all_eq_true.mp k1_X11_goes q h)) k2_X11_goes (ax_W_of _ k3_X11_goes k4_X11_goes) (by decide +kernel) (fun pc q h => by cases h)
theorem k1_X11_from : (at_X11_from).all (fun q => decide (decode cX11_from q.1 = .ok (q.2.1, q.2.2.1))) = true := by decide +kernel
theorem k2_X11_from : ax_chks ax_T aD_X11_from = true := by decide +kernel
theorem k3_X11_from : ax_needs ax_T ax_n9 ax_j9 ax_m9 aD_X11_from = [1538].filterMap (fun i => ax_big[i]?) := by decide +kernel
theorem k4_X11_from : (ax_needs ax_T ax_n9 ax_j9 ax_m9 aD_X11_from).all goodWord = true := by decide +kernel
theorem ok_X11_from : ax_okM ax_Ss ax_T ax_n9 ax_j9 ax_m9 aD_X11_from := ax_okM_of (fun q h => of_decide_eq_true (List.all_eq_true.mp k1_X11_from q h)) k2_X11_from (ax_W_of _ k3_X11_from k4_X11_from) (by decide +kernel) (fun pc q h => by cases h)
theorem k1_X11_most : (at_X11_most).all (fun q => decide (decode cX11_most q.1 = .ok (q.2.1, q.2.2.1))) = true := by decide +kernel
theorem k2_X11_most : ax_chks ax_T aD_X11_most = true := by decide +kernel
theorem k3_X11_most : ax_needs ax_T ax_n9 ax_j9 ax_m9 aD_X11_most = [1535].filterMap (fun i => ax_big[i]?) := by decide +kernel
theorem k4_X11_most : (ax_needs ax_T ax_n9 ax_j9 ax_m9 aD_X11_most).all goodWord = true := by decide +kernel
theorem ok_X11_most : ax_okM ax_Ss ax_T ax_n9 ax_j9 ax_m9 aD_X11_most := ax_okM_of (fun q h => of_decide_eq_true (List.all_eq_true.mp k1_X11_most q h)) k2_X11_most (ax_W_of _ k3_X11_most k4_X11_most) (by decide +kernel) (fun pc q h => by cases h)
theorem k1_X11_feed : (at_X11_feed).all (fun q => decide (decode cX11_feed q.1 = .ok (q.2.1, q.2.2.1))) = true := by decide +kernel
theorem k2_X11_feed : ax_chks ax_T aD_X11_feed = true := by decide +kernel
theorem k3_X11_feed : ax_needs ax_T ax_n9 ax_j9 ax_m9 aD_X11_feed = [1212, 1384, 1386, 37, 97, 1211, 1212, 1212, 1212, 1212, 1383].filterMap (fun i => ax_big[i]?) := by decide +kernel
theorem k4_X11_feed : (ax_needs ax_T ax_n9 ax_j9 ax_m9 aD_X11_feed).all goodWord = true := by decide +kernel
theorem ok_X11_feed : ax_okM ax_Ss ax_T ax_n9 ax_j9 ax_m9 aD_X11_feed := ax_okM_of (fun q h => of_decide_eq_true (List.all_eq_true.mp k1_X11_feed q h)) k2_X11_feed (ax_W_of _ k3_X11_feed k4_X11_feed) (by decide +kernel) (fun pc q h => by cases h)
theorem k1_X11_end : (at_X11_end).all (fun q => decide (decode cX11_end q.1 = .ok (q.2.1, q.2.2.1))) = true := by decide +kernel
theorem k2_X11_end : ax_chks ax_T aD_X11_end = true := by decide +kernel
theorem k3_X11_end : ax_needs ax_T ax_n9 ax_j9 ax_m9 aD_X11_end = [1212, 1393, 97, 1392, 1384, 1386, 37, 97, 1212, 1212, 1391].filterMap (fun i => ax_big[i]?) := by decide +kernel
theorem k4_X11_end : (ax_needs ax_T ax_n9 ax_j9 ax_m9 aD_X11_end).all goodWord = true := by decide +kernel
theorem ok_X11_end : ax_okM ax_Ss ax_T ax_n9 ax_j9 ax_m9 aD_X11_end := ax_okM_of (fun q h => of_decide_eq_true (List.all_eq_true.mp k1_X11_end q h)) k2_X11_end (ax_W_of _ k3_X11_end k4_X11_end) (by decide +kernel) (fun pc q h => by cases h)
theorem k1_X11_isName : (at_X11_isName).all (fun q => decide (decode cX11_isName q.1 = .ok (q.2.1, q.2.2.1))) = true := by decide +kernel
theorem k2_X11_isName : ax_chks ax_T aD_X11_isName = true := by decide +kernel
theorem k3_X11_isName : ax_needs ax_T ax_n9 ax_j9 ax_m9 aD_X11_isName = [1402, 1393, 97, 1392, 1401].filterMap (fun i => ax_big[i]?) := by decide +kernel
theorem k4_X11_isName : (ax_needs ax_T ax_n9 ax_j9 ax_m9 aD_X11_isName).all goodWord = true := by decide +kernel
theorem ok_X11_isName : ax_okM ax_Ss ax_T ax_n9 ax_j9 ax_m9 aD_X11_isName := ax_okM_of (fun q h => of_decide_eq_true (List.all_eq_true.mp k1_X11_isName q h)) k2_X11_isName (ax_W_of _ k3_X11_isName k4_X11_isName) (by decide +kernel) (fun pc q h => by cases h)
theorem k1_X11_at : (at_X11_at).all (fun q => decide (decode cX11_at q.1 = .ok (q.2.1, q.2.2.1))) = true := by decide +kernel
theorem k2_X11_at : ax_chks ax_T aD_X11_at = true := by decide +kernel
theorem k3_X11_at : ax_needs ax_T ax_n9 ax_j9 ax_m9 aD_X11_at = [1213, 1410].filterMap (fun i => ax_big[i]?) := by decide +kernel
theorem k4_X11_at : (ax_needs ax_T ax_n9 ax_j9 ax_m9 aD_X11_at).all goodWord = true := by decide +kernel
theorem ok_X11_at : ax_okM ax_Ss ax_T ax_n9 ax_j9 ax_m9 aD_X11_at := ax_okM_of (fun q h => of_decide_eq_true (List.all_eq_true.mp k1_X11_at q h)) k2_X11_at (ax_W_of _ k3_X11_at k4_X11_at) (by decide +kernel) (fun pc q h => by cases h)
theorem k1_X11_isEntry : (at_X11_isEntry).all (fun q => decide (decode cX11_isEntry q.1 = .ok (q.2.1, q.2.2.1))) = true := by decide +kernel
theorem k2_X11_isEntry : ax_chks ax_T aD_X11_isEntry = true := by decide +kernel
theorem k3_X11_isEntry : ax_needs ax_T ax_n9 ax_j9 ax_m9 aD_X11_isEntry = [1214, 1213, 1393, 97, 1392, 1418].filterMap (fun i => ax_big[i]?) := by decide +kernel
theorem k4_X11_isEntry : (ax_needs ax_T ax_n9 ax_j9 ax_m9 aD_X11_isEntry).all goodWord = true := by decide +kernel
theorem ok_X11_isEntry : ax_okM ax_Ss ax_T ax_n9 ax_j9 ax_m9 aD_X11_isEntry := ax_okM_of (fun q h => of_decide_eq_true (List.all_eq_true.mp k1_X11_isEntry q h)) k2_X11_isEntry (ax_W_of _ k3_X11_isEntry k4_X11_isEntry) (by decide +kernel) (fun pc q h => by cases h)
theorem k1_X11_make : (at_X11_make).all (fun q => decide (decode cX11_make q.1 = .ok (q.2.1, q.2.2.1))) = true := by decide +kernel
theorem k2_X11_make : ax_chks ax_T aD_X11_make = true := by decide +kernel
theorem k3_X11_make : ax_needs ax_T ax_n9 ax_j9 ax_m9 aD_X11_make = [1214, 1213, 1214, 1213, 1407, 1409, 39, 97, 1217, 1218, 1219, 1220, 1406].filterMap (fun i => ax_big[i]?) := by decide +kernel
theorem k4_X11_make : (ax_needs ax_T ax_n9 ax_j9 ax_m9 aD_X11_make).all goodWord = true := by decide +kernel
theorem ok_X11_make : ax_okM ax_Ss ax_T ax_n9 ax_j9 ax_m9 aD_X11_make := ax_okM_of (fun q h => of_decide_eq_true (List.all_eq_true.mp k1_X11_make q h)) k2_X11_make (ax_W_of _ k3_X11_make k4_X11_make) (by decide +kernel) (fun pc q h => by cases h)
theorem k1_X11_unit : (at_X11_unit).all (fun q => decide (decode cX11_unit q.1 = .ok (q.2.1, q.2.2.1))) = true := by decide +kernel
theorem k2_X11_unit : ax_chks ax_T aD_X11_unit = true := by decide +kernel
theorem k3_X11_unit : ax_needs ax_T ax_n9 ax_j9 ax_m9 aD_X11_unit = [1400, 97, 1399, 1215, 1213, 1214, 1213, 1210, 1210, 1215, 1213, 1403, 1405, 38, 97, 1216, 1213, 1215, 1213, 1215, 1213, 1398].filterMap (fun i => ax_big[i]?) := by decide +kernel
theorem k4_X11_unit : (ax_needs ax_T ax_n9 ax_j9 ax_m9 aD_X11_unit).all goodWord = true := by decide +kernel
theorem ok_X11_unit : ax_okM ax_Ss ax_T ax_n9 ax_j9 ax_m9 aD_X11_unit := ax_okM_of (fun q h => of_decide_eq_true (List.all_eq_true.mp k1_X11_unit q h)) k2_X11_unit (ax_W_of _ k3_X11_unit k4_X11_unit) (by decide +kernel) (fun pc q h => by cases h)
theorem k1_X11_depth : (at_X11_depth).all (fun q => decide (decode cX11_depth q.1 = .ok (q.2.1, q.2.2.1))) = true := by decide +kernel
theorem k2_X11_depth : ax_chks ax_T aD_X11_depth = true := by decide +kernel
theorem k3_X11_depth : ax_needs ax_T ax_n9 ax_j9 ax_m9 aD_X11_depth = [1218, 1407, 1409, 39, 97, 1218, 1407, 1409, 39, 97, 1422].filterMap (fun i => ax_big[i]?) := by decide +kernel
theorem k4_X11_depth : (ax_needs ax_T ax_n9 ax_j9 ax_m9 aD_X11_depth).all goodWord = true := by decide +kernel
theorem ok_X11_depth : ax_okM ax_Ss ax_T ax_n9 ax_j9 ax_m9 aD_X11_depth := ax_okM_of (fun q h => of_decide_eq_true (List.all_eq_true.mp k1_X11_depth q h)) k2_X11_depth (ax_W_of _ k3_X11_depth k4_X11_depth) (by decide +kernel) (fun pc q h => by cases h)
theorem k1_X11_entry : (at_X11_entry).all (fun q => decide (decode cX11_entry q.1 = .ok (q.2.1, q.2.2.1))) = true := by decide +kernel
theorem k2_X11_entry : ax_chks ax_T aD_X11_entry = true := by decide +kernel
theorem k3_X11_entry : ax_needs ax_T ax_n9 ax_j9 ax_m9 aD_X11_entry = [1415, 1417, 40, 97, 1400, 97, 1399, 1214, 1213, 1419, 1421, 41, 97, 1210, 1210, 1219, 1407, 1409, 39, 97, 1403, 1405, 38, 97, 1414].filterMap (fun i => ax_big[i]?) := by decide +kernel
theorem k4_X11_entry : (ax_needs ax_T ax_n9 ax_j9 ax_m9 aD_X11_entry).all goodWord = true := by decide +kernel
theorem ok_X11_entry : ax_okM ax_Ss ax_T ax_n9 ax_j9 ax_m9 aD_X11_entry := ax_okM_of (fun q h => of_decide_eq_true (List.all_eq_true.mp k1_X11_entry q h)) k2_X11_entry (ax_W_of _ k3_X11_entry k4_X11_entry) (by decide +kernel) (fun pc q h => by cases h)
theorem k1_X11_isNumber : (at_X11_isNumber).all (fun q => decide (decode cX11_isNumber q.1 = .ok (q.2.1, q.2.2.1))) = true := by decide +kernel
theorem k2_X11_isNumber : ax_chks ax_T aD_X11_isNumber = true := by decide +kernel
theorem k3_X11_isNumber : ax_needs ax_T ax_n9 ax_j9 ax_m9 aD_X11_isNumber = [1429].filterMap (fun i => ax_big[i]?) := by decide +kernel
theorem k4_X11_isNumber : (ax_needs ax_T ax_n9 ax_j9 ax_m9 aD_X11_isNumber).all goodWord = true := by decide +kernel
theorem ok_X11_isNumber : ax_okM ax_Ss ax_T ax_n9 ax_j9 ax_m9 aD_X11_isNumber := ax_okM_of (fun q h => of_decide_eq_true (List.all_eq_true.mp k1_X11_isNumber q h)) k2_X11_isNumber (ax_W_of _ k3_X11_isNumber k4_X11_isNumber) (by decide +kernel) (fun pc q h => by cases h)
theorem k1_X11_isText : (at_X11_isText).all (fun q => decide (decode cX11_isText q.1 = .ok (q.2.1, q.2.2.1))) = true := by decide +kernel
theorem k2_X11_isText : ax_chks ax_T aD_X11_isText = true := by decide +kernel
theorem k3_X11_isText : ax_needs ax_T ax_n9 ax_j9 ax_m9 aD_X11_isText = [1454].filterMap (fun i => ax_big[i]?) := by decide +kernel
theorem k4_X11_isText : (ax_needs ax_T ax_n9 ax_j9 ax_m9 aD_X11_isText).all goodWord = true := by decide +kernel
theorem ok_X11_isText : ax_okM ax_Ss ax_T ax_n9 ax_j9 ax_m9 aD_X11_isText := ax_okM_of (fun q h => of_decide_eq_true (List.all_eq_true.mp k1_X11_isText q h)) k2_X11_isText (ax_W_of _ k3_X11_isText k4_X11_isText) (by decide +kernel) (fun pc q h => by cases h)
theorem k1_X11_isReference : (at_X11_isReference).all (fun q => decide (decode cX11_isReference q.1 = .ok (q.2.1, q.2.2.1))) = true := by decide +kernel
theorem k2_X11_isReference : ax_chks ax_T aD_X11_isReference = true := by decide +kernel
theorem k3_X11_isReference : ax_needs ax_T ax_n9 ax_j9 ax_m9 aD_X11_isReference = [1466].filterMap (fun i => ax_big[i]?) := by decide +kernel
theorem k4_X11_isReference : (ax_needs ax_T ax_n9 ax_j9 ax_m9 aD_X11_isReference).all goodWord = true := by decide +kernel
theorem ok_X11_isReference : ax_okM ax_Ss ax_T ax_n9 ax_j9 ax_m9 aD_X11_isReference := ax_okM_of (fun q h => of_decide_eq_true (List.all_eq_true.mp k1_X11_isReference q h)) k2_X11_isReference (ax_W_of _ k3_X11_isReference k4_X11_isReference) (by decide +kernel) (fun pc q h => by cases h)
theorem k1_X11_isForm : (at_X11_isForm).all (fun q => decide (decode cX11_isForm q.1 = .ok (q.2.1, q.2.2.1))) = true := by decide +kernel
theorem k2_X11_isForm : ax_chks ax_T aD_X11_isForm = true := by decide +kernel
theorem k3_X11_isForm : ax_needs ax_T ax_n9 ax_j9 ax_m9 aD_X11_isForm = [1638, 1393, 97, 1392, 1428, 97, 1427, 1453, 97, 1452, 1639, 1465, 97, 1464, 1637].filterMap (fun i => ax_big[i]?) := by decide +kernel
theorem k4_X11_isForm : (ax_needs ax_T ax_n9 ax_j9 ax_m9 aD_X11_isForm).all goodWord = true := by decide +kernel
theorem ok_X11_isForm : ax_okM ax_Ss ax_T ax_n9 ax_j9 ax_m9 aD_X11_isForm := ax_okM_of (fun q h => of_decide_eq_true (List.all_eq_true.mp k1_X11_isForm q h)) k2_X11_isForm (ax_W_of _ k3_X11_isForm k4_X11_isForm) (by decide +kernel) (fun pc q h => by cases h)
theorem k1_X11_fits : (at_X11_fits).all (fun q => decide (decode cX11_fits q.1 = .ok (q.2.1, q.2.2.1))) = true := by decide +kernel
theorem k2_X11_fits : ax_chks ax_T aD_X11_fits = true := by decide +kernel
theorem k3_X11_fits : ax_needs ax_T ax_n9 ax_j9 ax_m9 aD_X11_fits = [1433, 1393, 97, 1392, 1434, 1393, 97, 1392, 1435, 1393, 97, 1392, 1393, 97, 1392, 1432].filterMap (fun i => ax_big[i]?) := by decide +kernel
theorem k4_X11_fits : (ax_needs ax_T ax_n9 ax_j9 ax_m9 aD_X11_fits).all goodWord = true := by decide +kernel
theorem ok_X11_fits : ax_okM ax_Ss ax_T ax_n9 ax_j9 ax_m9 aD_X11_fits := ax_okM_of (fun q h => of_decide_eq_true (List.all_eq_true.mp k1_X11_fits q h)) k2_X11_fits (ax_W_of _ k3_X11_fits k4_X11_fits) (by decide +kernel) (fun pc q h => by cases h)
theorem k1_X11_isTold : (at_X11_isTold).all (fun q => decide (decode cX11_isTold q.1 = .ok (q.2.1, q.2.2.1))) = true := by decide +kernel
theorem k2_X11_isTold : ax_chks ax_T aD_X11_isTold = true := by decide +kernel
theorem k3_X11_isTold : ax_needs ax_T ax_n9 ax_j9 ax_m9 aD_X11_isTold = [1407, 1409, 39, 97, 1220, 1221, 1439].filterMap (fun i => ax_big[i]?) := by decide +kernel
theorem k4_X11_isTold : (ax_needs ax_T ax_n9 ax_j9 ax_m9 aD_X11_isTold).all goodWord = true := by decide +kernel
theorem ok_X11_isTold : ax_okM ax_Ss ax_T ax_n9 ax_j9 ax_m9 aD_X11_isTold := ax_okM_of (fun q h => of_decide_eq_true (List.all_eq_true.mp k1_X11_isTold q h)) k2_X11_isTold (ax_W_of _ k3_X11_isTold k4_X11_isTold) (by decide +kernel) (fun pc q h => by cases h)
theorem k1_X11_add : (at_X11_add).all (fun q => decide (decode cX11_add q.1 = .ok (q.2.1, q.2.2.1))) = true := by decide +kernel
theorem k2_X11_add : ax_chks ax_T aD_X11_add = true := by decide +kernel
theorem k3_X11_add : ax_needs ax_T ax_n9 ax_j9 ax_m9 aD_X11_add = [1407, 1409, 39, 97, 1220, 1221, 1222, 1223, 1224, 1225, 1220, 1220, 1447].filterMap (fun i => ax_big[i]?) := by decide +kernel
theorem k4_X11_add : (ax_needs ax_T ax_n9 ax_j9 ax_m9 aD_X11_add).all goodWord = true := by decide +kernel
theorem ok_X11_add : ax_okM ax_Ss ax_T ax_n9 ax_j9 ax_m9 aD_X11_add := ax_okM_of (fun q h => of_decide_eq_true (List.all_eq_true.mp k1_X11_add q h)) k2_X11_add (ax_W_of _ k3_X11_add k4_X11_add) (by decide +kernel) (fun pc q h => by cases h)
theorem k1_X11_isFull : (at_X11_isFull).all (fun q => decide (decode cX11_isFull q.1 = .ok (q.2.1, q.2.2.1))) = true := by decide +kernel
theorem k2_X11_isFull : ax_chks ax_T aD_X11_isFull = true := by decide +kernel
theorem k3_X11_isFull : ax_needs ax_T ax_n9 ax_j9 ax_m9 aD_X11_isFull = [1220, 1407, 1409, 39, 97, 1443].filterMap (fun i => ax_big[i]?) := by decide +kernel
theorem k4_X11_isFull : (ax_needs ax_T ax_n9 ax_j9 ax_m9 aD_X11_isFull).all goodWord = true := by decide +kernel
theorem ok_X11_isFull : ax_okM ax_Ss ax_T ax_n9 ax_j9 ax_m9 aD_X11_isFull := ax_okM_of (fun q h => of_decide_eq_true (List.all_eq_true.mp k1_X11_isFull q h)) k2_X11_isFull (ax_W_of _ k3_X11_isFull k4_X11_isFull) (by decide +kernel) (fun pc q h => by cases h)
theorem k1_X11_number : (at_X11_number).all (fun q => decide (decode cX11_number q.1 = .ok (q.2.1, q.2.2.1))) = true := by decide +kernel
theorem k2_X11_number : ax_chks ax_T aD_X11_number = true := by decide +kernel
theorem k3_X11_number : ax_needs ax_T ax_n9 ax_j9 ax_m9 aD_X11_number = [1415, 1417, 40, 97, 1400, 97, 1399, 1428, 97, 1427, 1431, 97, 1430, 1436, 1438, 42, 97, 1440, 1442, 43, 97, 1210, 1210, 1444, 1446, 44, 97, 1426].filterMap (fun i => ax_big[i]?) := by decide +kernel
theorem k4_X11_number : (ax_needs ax_T ax_n9 ax_j9 ax_m9 aD_X11_number).all goodWord = true := by decide +kernel
theorem ok_X11_number : ax_okM ax_Ss ax_T ax_n9 ax_j9 ax_m9 aD_X11_number := ax_okM_of (fun q h => of_decide_eq_true (List.all_eq_true.mp k1_X11_number q h)) k2_X11_number (ax_W_of _ k3_X11_number k4_X11_number) (by decide +kernel) (fun pc q h => by cases h)
theorem k1_X11_areBytes : (at_X11_areBytes).all (fun q => decide (decode cX11_areBytes q.1 = .ok (q.2.1, q.2.2.1))) = true := by decide +kernel
theorem k2_X11_areBytes : ax_chks ax_T aD_X11_areBytes = true := by decide +kernel
theorem k3_X11_areBytes : ax_needs ax_T ax_n9 ax_j9 ax_m9 aD_X11_areBytes = [1212, 1212, 1211, 1458].filterMap (fun i => ax_big[i]?) := by decide +kernel
theorem k4_X11_areBytes : (ax_needs ax_T ax_n9 ax_j9 ax_m9 aD_X11_areBytes).all goodWord = true := by decide +kernel
theorem ok_X11_areBytes : ax_okM ax_Ss ax_T ax_n9 ax_j9 ax_m9 aD_X11_areBytes := ax_okM_of (fun q h => of_decide_eq_true (List.all_eq_true.mp k1_X11_areBytes q h)) k2_X11_areBytes (ax_W_of _ k3_X11_areBytes k4_X11_areBytes) (by decide +kernel) (fun pc q h => by cases h)
theorem k1_X11_bytes_0 : (((at_X11_bytes).drop 0).take 100).all (fun q => decide (decode cX11_bytes q.1 = .ok (q.2.1, q.2.2.1))) = true := by decide +kernel
theorem k1_X11_bytes_1 : (((at_X11_bytes).drop 100).take 100).all (fun q => decide (decode cX11_bytes q.1 = .ok (q.2.1, q.2.2.1))) = true := by decide +kernel
theorem k1_X11_bytes : (at_X11_bytes).all (fun q => decide (decode cX11_bytes q.1 = .ok (q.2.1, q.2.2.1))) = true := ax_alln 2 (fun i hi => match i, hi with | 0, _ => k1_X11_bytes_0 | 1, _ => k1_X11_bytes_1 | n + 2, h => absurd h (by omega)) (by decide +kernel)
theorem k2_X11_bytes : ax_chks ax_T aD_X11_bytes = true := by decide +kernel
theorem k3_X11_bytes : ax_needs ax_T ax_n9 ax_j9 ax_m9 aD_X11_bytes = [1415, 1417, 40, 97, 1400, 97, 1399, 1453, 97, 1452, 1455, 1457, 45, 97, 1436, 1438, 42, 97, 1440, 1442, 43, 97, 1226, 1213, 1212, 1210, 1210, 1444, 1446, 44, 97, 1407, 1409, 39, 97, 1224, 1459, 1213, 1227, 1213, 1225, 1212, 1226, 1213, 1226, 1213, 1212, 1212, 1228, 1224, 1211, 1227, 1213, 1227, 1213, 1212, 1212, 1451].filterMap (fun i => ax_big[i]?) := by decide +kernel
theorem k4_X11_bytes : (ax_needs ax_T ax_n9 ax_j9 ax_m9 aD_X11_bytes).all goodWord = true := by decide +kernel
theorem ok_X11_bytes : ax_okM ax_Ss ax_T ax_n9 ax_j9 ax_m9 aD_X11_bytes := ax_okM_of (fun q h => of_decide_eq_true (List.all_eq_true.mp k1_X11_bytes q h)) k2_X11_bytes (ax_W_of _ k3_X11_bytes k4_X11_bytes) (by decide +kernel) (fun pc q h => by cases h)
theorem k1_X11_reference : (at_X11_reference).all (fun q => decide (decode cX11_reference q.1 = .ok (q.2.1, q.2.2.1))) = true := by decide +kernel
theorem k2_X11_reference : ax_chks ax_T aD_X11_reference = true := by decide +kernel
theorem k3_X11_reference : ax_needs ax_T ax_n9 ax_j9 ax_m9 aD_X11_reference = [1415, 1417, 40, 97, 1415, 1417, 40, 97, 1219, 1407, 1409, 39, 97, 1219, 1407, 1409, 39, 97, 1400, 97, 1399, 1465, 97, 1464, 1436, 1438, 42, 97, 1440, 1442, 43, 97, 1210, 1210, 1444, 1446, 44, 97, 1463].filterMap (fun i => ax_big[i]?) := by decide +kernel
theorem k4_X11_reference : (ax_needs ax_T ax_n9 ax_j9 ax_m9 aD_X11_reference).all goodWord = true := by decide +kernel
theorem ok_X11_reference : ax_okM ax_Ss ax_T ax_n9 ax_j9 ax_m9 aD_X11_reference := ax_okM_of (fun q h => of_decide_eq_true (List.all_eq_true.mp k1_X11_reference q h)) k2_X11_reference (ax_W_of _ k3_X11_reference k4_X11_reference) (by decide +kernel) (fun pc q h => by cases h)
theorem k1_X11_clear : (at_X11_clear).all (fun q => decide (decode cX11_clear q.1 = .ok (q.2.1, q.2.2.1))) = true := by decide +kernel
theorem k2_X11_clear : ax_chks ax_T aD_X11_clear = true := by decide +kernel
theorem k3_X11_clear : ax_needs ax_T ax_n9 ax_j9 ax_m9 aD_X11_clear = [1210, 1214, 1213, 1214, 1213, 1215, 1213, 1227, 1213, 1226, 1213, 1470].filterMap (fun i => ax_big[i]?) := by decide +kernel
theorem k4_X11_clear : (ax_needs ax_T ax_n9 ax_j9 ax_m9 aD_X11_clear).all goodWord = true := by decide +kernel
theorem ok_X11_clear : ax_okM ax_Ss ax_T ax_n9 ax_j9 ax_m9 aD_X11_clear := ax_okM_of (fun q h => of_decide_eq_true (List.all_eq_true.mp k1_X11_clear q h)) k2_X11_clear (ax_W_of _ k3_X11_clear k4_X11_clear) (by decide +kernel) (fun pc q h => by cases h)
theorem k1_X11_firstChild : (at_X11_firstChild).all (fun q => decide (decode cX11_firstChild q.1 = .ok (q.2.1, q.2.2.1))) = true := by decide +kernel
theorem k2_X11_firstChild : ax_chks ax_T aD_X11_firstChild = true := by decide +kernel
theorem k3_X11_firstChild : ax_needs ax_T ax_n9 ax_j9 ax_m9 aD_X11_firstChild = [1214, 1213, 1218, 1407, 1409, 39, 97, 1486].filterMap (fun i => ax_big[i]?) := by decide +kernel
theorem k4_X11_firstChild : (ax_needs ax_T ax_n9 ax_j9 ax_m9 aD_X11_firstChild).all goodWord = true := by decide +kernel
theorem ok_X11_firstChild : ax_okM ax_Ss ax_T ax_n9 ax_j9 ax_m9 aD_X11_firstChild := ax_okM_of (fun q h => of_decide_eq_true (List.all_eq_true.mp k1_X11_firstChild q h)) k2_X11_firstChild (ax_W_of _ k3_X11_firstChild k4_X11_firstChild) (by decide +kernel) (fun pc q h => by cases h)
theorem k1_X11_nextChild : (at_X11_nextChild).all (fun q => decide (decode cX11_nextChild q.1 = .ok (q.2.1, q.2.2.1))) = true := by decide +kernel
theorem k2_X11_nextChild : ax_chks ax_T aD_X11_nextChild = true := by decide +kernel
theorem k3_X11_nextChild : ax_needs ax_T ax_n9 ax_j9 ax_m9 aD_X11_nextChild = [1214, 1213, 1218, 1407, 1409, 39, 97, 1218, 1407, 1409, 39, 97, 1490].filterMap (fun i => ax_big[i]?) := by decide +kernel
theorem k4_X11_nextChild : (ax_needs ax_T ax_n9 ax_j9 ax_m9 aD_X11_nextChild).all goodWord = true := by decide +kernel
theorem ok_X11_nextChild : ax_okM ax_Ss ax_T ax_n9 ax_j9 ax_m9 aD_X11_nextChild := ax_okM_of (fun q h => of_decide_eq_true (List.all_eq_true.mp k1_X11_nextChild q h)) k2_X11_nextChild (ax_W_of _ k3_X11_nextChild k4_X11_nextChild) (by decide +kernel) (fun pc q h => by cases h)
theorem k1_X11_goThrough : (at_X11_goThrough).all (fun q => decide (decode cX11_goThrough q.1 = .ok (q.2.1, q.2.2.1))) = true := by decide +kernel
theorem k2_X11_goThrough : ax_chks ax_T aD_X11_goThrough = true := by decide +kernel
theorem k3_X11_goThrough : ax_needs ax_T ax_n9 ax_j9 ax_m9 aD_X11_goThrough = [1233, 1215, 1213, 1216, 1213, 1234, 1233, 1235, 1233, 1233, 1233, 1483, 1485, 48, 97, 1218, 1407, 1409, 39, 97, 1487, 1489, 49, 97, 1235, 1233, 1218, 1407, 1409, 39, 97, 1482].filterMap (fun i => ax_big[i]?) := by decide +kernel
theorem k4_X11_goThrough : (ax_needs ax_T ax_n9 ax_j9 ax_m9 aD_X11_goThrough).all goodWord = true := by decide +kernel
theorem ok_X11_goThrough : ax_okM ax_Ss ax_T ax_n9 ax_j9 ax_m9 aD_X11_goThrough := ax_okM_of (fun q h => of_decide_eq_true (List.all_eq_true.mp k1_X11_goThrough q h)) k2_X11_goThrough (ax_W_of _ k3_X11_goThrough k4_X11_goThrough) (by decide +kernel) (fun pc q h => by cases h)
theorem k1_X11_sameShape : (at_X11_sameShape).all (fun q => decide (decode cX11_sameShape q.1 = .ok (q.2.1, q.2.2.1))) = true := by decide +kernel
theorem k2_X11_sameShape : ax_chks ax_T aD_X11_sameShape = true := by decide +kernel
theorem k3_X11_sameShape : ax_needs ax_T ax_n9 ax_j9 ax_m9 aD_X11_sameShape = [1407, 1409, 39, 97, 1407, 1409, 39, 97, 1217, 1217, 1220, 1220, 1483, 1485, 48, 97, 1483, 1485, 48, 97, 1220, 1221, 1221, 1222, 1222, 1498].filterMap (fun i => ax_big[i]?) := by decide +kernel
theorem k4_X11_sameShape : (ax_needs ax_T ax_n9 ax_j9 ax_m9 aD_X11_sameShape).all goodWord = true := by decide +kernel
theorem ok_X11_sameShape : ax_okM ax_Ss ax_T ax_n9 ax_j9 ax_m9 aD_X11_sameShape := ax_okM_of (fun q h => of_decide_eq_true (List.all_eq_true.mp k1_X11_sameShape q h)) k2_X11_sameShape (ax_W_of _ k3_X11_sameShape k4_X11_sameShape) (by decide +kernel) (fun pc q h => by cases h)
theorem k1_X11_findShapes : (at_X11_findShapes).all (fun q => decide (decode cX11_findShapes q.1 = .ok (q.2.1, q.2.2.1))) = true := by decide +kernel
theorem k2_X11_findShapes : ax_chks ax_T aD_X11_findShapes = true := by decide +kernel
theorem k3_X11_findShapes : ax_needs ax_T ax_n9 ax_j9 ax_m9 aD_X11_findShapes = [1236, 1233, 1234, 1236, 1238, 1495, 1497, 51, 97, 1238, 1236, 1236, 1236, 1236, 1237, 1494].filterMap (fun i => ax_big[i]?) := by decide +kernel
theorem k4_X11_findShapes : (ax_needs ax_T ax_n9 ax_j9 ax_m9 aD_X11_findShapes).all goodWord = true := by decide +kernel
theorem ok_X11_findShapes : ax_okM ax_Ss ax_T ax_n9 ax_j9 ax_m9 aD_X11_findShapes := ax_okM_of (fun q h => of_decide_eq_true (List.all_eq_true.mp k1_X11_findShapes q h)) k2_X11_findShapes (ax_W_of _ k3_X11_findShapes k4_X11_findShapes) (by decide +kernel) (fun pc q h => by cases h)
theorem k1_X11_sameText : (at_X11_sameText).all (fun q => decide (decode cX11_sameText q.1 = .ok (q.2.1, q.2.2.1))) = true := by decide +kernel
theorem k2_X11_sameText : ax_chks ax_T aD_X11_sameText = true := by decide +kernel
theorem k3_X11_sameText : ax_needs ax_T ax_n9 ax_j9 ax_m9 aD_X11_sameText = [1225, 1225, 1225, 1228, 1224, 1228, 1224, 1510].filterMap (fun i => ax_big[i]?) := by decide +kernel
theorem k4_X11_sameText : (ax_needs ax_T ax_n9 ax_j9 ax_m9 aD_X11_sameText).all goodWord = true := by decide +kernel
theorem ok_X11_sameText : ax_okM ax_Ss ax_T ax_n9 ax_j9 ax_m9 aD_X11_sameText := ax_okM_of (fun q h => of_decide_eq_true (List.all_eq_true.mp k1_X11_sameText q h)) k2_X11_sameText (ax_W_of _ k3_X11_sameText k4_X11_sameText) (by decide +kernel) (fun pc q h => by cases h)
theorem k1_X11_textOf : (at_X11_textOf).all (fun q => decide (decode cX11_textOf q.1 = .ok (q.2.1, q.2.2.1))) = true := by decide +kernel
theorem k2_X11_textOf : ax_chks ax_T aD_X11_textOf = true := by decide +kernel
theorem k3_X11_textOf : ax_needs ax_T ax_n9 ax_j9 ax_m9 aD_X11_textOf = [1239, 1240, 1507, 1509, 54, 97, 1506].filterMap (fun i => ax_big[i]?) := by decide +kernel
theorem k4_X11_textOf : (ax_needs ax_T ax_n9 ax_j9 ax_m9 aD_X11_textOf).all goodWord = true := by decide +kernel
theorem ok_X11_textOf : ax_okM ax_Ss ax_T ax_n9 ax_j9 ax_m9 aD_X11_textOf := ax_okM_of (fun q h => of_decide_eq_true (List.all_eq_true.mp k1_X11_textOf q h)) k2_X11_textOf (ax_W_of _ k3_X11_textOf k4_X11_textOf) (by decide +kernel) (fun pc q h => by cases h)
theorem k1_X11_findTexts : (at_X11_findTexts).all (fun q => decide (decode cX11_findTexts q.1 = .ok (q.2.1, q.2.2.1))) = true := by decide +kernel
theorem k2_X11_findTexts : ax_chks ax_T aD_X11_findTexts = true := by decide +kernel
theorem k3_X11_findTexts : ax_needs ax_T ax_n9 ax_j9 ax_m9 aD_X11_findTexts = [1239, 1242, 1233, 1234, 1407, 1409, 39, 97, 1220, 1222, 1503, 1505, 53, 97, 1240, 1239, 1241, 1239, 1242, 1242, 1225, 1242, 1239, 1239, 1502].filterMap (fun i => ax_big[i]?) := by decide +kernel
theorem k4_X11_findTexts : (ax_needs ax_T ax_n9 ax_j9 ax_m9 aD_X11_findTexts).all goodWord = true := by decide +kernel
theorem ok_X11_findTexts : ax_okM ax_Ss ax_T ax_n9 ax_j9 ax_m9 aD_X11_findTexts := ax_okM_of (fun q h => of_decide_eq_true (List.all_eq_true.mp k1_X11_findTexts q h)) k2_X11_findTexts (ax_W_of _ k3_X11_findTexts k4_X11_findTexts) (by decide +kernel) (fun pc q h => by cases h)
theorem k1_X11_rowBytes : (at_X11_rowBytes).all (fun q => decide (decode cX11_rowBytes q.1 = .ok (q.2.1, q.2.2.1))) = true := by decide +kernel
theorem k2_X11_rowBytes : ax_chks ax_T aD_X11_rowBytes = true := by decide +kernel
theorem k3_X11_rowBytes : ax_needs ax_T ax_n9 ax_j9 ax_m9 aD_X11_rowBytes = [1518, 1519, 1517].filterMap (fun i => ax_big[i]?) := by decide +kernel
theorem k4_X11_rowBytes : (ax_needs ax_T ax_n9 ax_j9 ax_m9 aD_X11_rowBytes).all goodWord = true := by decide +kernel
theorem ok_X11_rowBytes : ax_okM ax_Ss ax_T ax_n9 ax_j9 ax_m9 aD_X11_rowBytes := ax_okM_of (fun q h => of_decide_eq_true (List.all_eq_true.mp k1_X11_rowBytes q h)) k2_X11_rowBytes (ax_W_of _ k3_X11_rowBytes k4_X11_rowBytes) (by decide +kernel) (fun pc q h => by cases h)
theorem k1_X11_signedBytes : (at_X11_signedBytes).all (fun q => decide (decode cX11_signedBytes q.1 = .ok (q.2.1, q.2.2.1))) = true := by decide +kernel
theorem k2_X11_signedBytes : ax_chks ax_T aD_X11_signedBytes = true := by decide +kernel
theorem k3_X11_signedBytes : ax_needs ax_T ax_n9 ax_j9 ax_m9 aD_X11_signedBytes = [1527, 1528, 1526].filterMap (fun i => ax_big[i]?) := by decide +kernel
theorem k4_X11_signedBytes : (ax_needs ax_T ax_n9 ax_j9 ax_m9 aD_X11_signedBytes).all goodWord = true := by decide +kernel
theorem ok_X11_signedBytes : ax_okM ax_Ss ax_T ax_n9 ax_j9 ax_m9 aD_X11_signedBytes := ax_okM_of (fun q h => of_decide_eq_true (List.all_eq_true.mp k1_X11_signedBytes q h)) k2_X11_signedBytes (ax_W_of _ k3_X11_signedBytes k4_X11_signedBytes) (by decide +kernel) (fun pc q h => by cases h)
theorem k1_X11_sizeOf : (at_X11_sizeOf).all (fun q => decide (decode cX11_sizeOf q.1 = .ok (q.2.1, q.2.2.1))) = true := by decide +kernel
theorem k2_X11_sizeOf : ax_chks ax_T aD_X11_sizeOf = true := by decide +kernel
theorem k3_X11_sizeOf : ax_needs ax_T ax_n9 ax_j9 ax_m9 aD_X11_sizeOf = [1222, 1223, 1525, 97, 1524, 1223, 1516, 97, 1515, 1225, 1244, 1213, 1523].filterMap (fun i => ax_big[i]?) := by decide +kernel
theorem k4_X11_sizeOf : (ax_needs ax_T ax_n9 ax_j9 ax_m9 aD_X11_sizeOf).all goodWord = true := by decide +kernel
theorem ok_X11_sizeOf : ax_okM ax_Ss ax_T ax_n9 ax_j9 ax_m9 aD_X11_sizeOf := ax_okM_of (fun q h => of_decide_eq_true (List.all_eq_true.mp k1_X11_sizeOf q h)) k2_X11_sizeOf (ax_W_of _ k3_X11_sizeOf k4_X11_sizeOf) (by decide +kernel) (fun pc q h => by cases h)
theorem k1_X11_reckon : (at_X11_reckon).all (fun q => decide (decode cX11_reckon q.1 = .ok (q.2.1, q.2.2.1))) = true := by decide +kernel
theorem k2_X11_reckon : ax_chks ax_T aD_X11_reckon = true := by decide +kernel
theorem k3_X11_reckon : ax_needs ax_T ax_n9 ax_j9 ax_m9 aD_X11_reckon = [1233, 1234, 1407, 1409, 39, 97, 1218, 1243, 1237, 1516, 97, 1515, 1220, 1520, 1522, 56, 97, 1235, 1245, 1219, 1514].filterMap (fun i => ax_big[i]?) := by decide +kernel
theorem k4_X11_reckon : (ax_needs ax_T ax_n9 ax_j9 ax_m9 aD_X11_reckon).all goodWord = true := by decide +kernel
theorem ok_X11_reckon : ax_okM ax_Ss ax_T ax_n9 ax_j9 ax_m9 aD_X11_reckon := ax_okM_of (fun q h => of_decide_eq_true (List.all_eq_true.mp k1_X11_reckon q h)) k2_X11_reckon (ax_W_of _ k3_X11_reckon k4_X11_reckon) (by decide +kernel) (fun pc q h => by cases h)
theorem k1_X11_layOut : (at_X11_layOut).all (fun q => decide (decode cX11_layOut q.1 = .ok (q.2.1, q.2.2.1))) = true := by decide +kernel
theorem k2_X11_layOut : ax_chks ax_T aD_X11_layOut = true := by decide +kernel
theorem k3_X11_layOut : ax_needs ax_T ax_n9 ax_j9 ax_m9 aD_X11_layOut = [1479, 1481, 47, 97, 1491, 1493, 50, 97, 1499, 1501, 52, 97, 1244, 1511, 1513, 55, 97, 1214, 1213, 1407, 1409, 39, 97, 1220, 1222, 1243, 1223, 1516, 97, 1515, 1213, 1244, 1244, 1244, 1244, 1478].filterMap (fun i => ax_big[i]?) := by decide +kernel
theorem k4_X11_layOut : (ax_needs ax_T ax_n9 ax_j9 ax_m9 aD_X11_layOut).all goodWord = true := by decide +kernel
theorem ok_X11_layOut : ax_okM ax_Ss ax_T ax_n9 ax_j9 ax_m9 aD_X11_layOut := ax_okM_of (fun q h => of_decide_eq_true (List.all_eq_true.mp k1_X11_layOut q h)) k2_X11_layOut (ax_W_of _ k3_X11_layOut k4_X11_layOut) (by decide +kernel) (fun pc q h => by cases h)
theorem k1_X11_put : (at_X11_put).all (fun q => decide (decode cX11_put q.1 = .ok (q.2.1, q.2.2.1))) = true := by decide +kernel
theorem k2_X11_put : ax_chks ax_T aD_X11_put = true := by decide +kernel
theorem k3_X11_put : ax_needs ax_T ax_n9 ax_j9 ax_m9 aD_X11_put = [1229, 1246, 1246, 1246, 1546].filterMap (fun i => ax_big[i]?) := by decide +kernel
theorem k4_X11_put : (ax_needs ax_T ax_n9 ax_j9 ax_m9 aD_X11_put).all goodWord = true := by decide +kernel
theorem ok_X11_put : ax_okM ax_Ss ax_T ax_n9 ax_j9 ax_m9 aD_X11_put := ax_okM_of (fun q h => of_decide_eq_true (List.all_eq_true.mp k1_X11_put q h)) k2_X11_put (ax_W_of _ k3_X11_put k4_X11_put) (by decide +kernel) (fun pc q h => by cases h)
theorem k1_X11_putRow : (at_X11_putRow).all (fun q => decide (decode cX11_putRow q.1 = .ok (q.2.1, q.2.2.1))) = true := by decide +kernel
theorem k2_X11_putRow : ax_chks ax_T aD_X11_putRow = true := by decide +kernel
theorem k3_X11_putRow : ax_needs ax_T ax_n9 ax_j9 ax_m9 aD_X11_putRow = [1518, 1519, 1543, 1545, 59, 97, 1519, 1543, 1545, 59, 97, 1550].filterMap (fun i => ax_big[i]?) := by decide +kernel
theorem k4_X11_putRow : (ax_needs ax_T ax_n9 ax_j9 ax_m9 aD_X11_putRow).all goodWord = true := by decide +kernel
theorem ok_X11_putRow : ax_okM ax_Ss ax_T ax_n9 ax_j9 ax_m9 aD_X11_putRow := ax_okM_of (fun q h => of_decide_eq_true (List.all_eq_true.mp k1_X11_putRow q h)) k2_X11_putRow (ax_W_of _ k3_X11_putRow k4_X11_putRow) (by decide +kernel) (fun pc q h => by cases h)
theorem k1_X11_putSigned : (at_X11_putSigned).all (fun q => decide (decode cX11_putSigned q.1 = .ok (q.2.1, q.2.2.1))) = true := by decide +kernel
theorem k2_X11_putSigned : ax_chks ax_T aD_X11_putSigned = true := by decide +kernel
theorem k3_X11_putSigned : ax_needs ax_T ax_n9 ax_j9 ax_m9 aD_X11_putSigned = [1527, 1528, 1518, 1543, 1545, 59, 97, 1518, 1543, 1545, 59, 97, 1563].filterMap (fun i => ax_big[i]?) := by decide +kernel
theorem k4_X11_putSigned : (ax_needs ax_T ax_n9 ax_j9 ax_m9 aD_X11_putSigned).all goodWord = true := by decide +kernel
theorem ok_X11_putSigned : ax_okM ax_Ss ax_T ax_n9 ax_j9 ax_m9 aD_X11_putSigned := ax_okM_of (fun q h => of_decide_eq_true (List.all_eq_true.mp k1_X11_putSigned q h)) k2_X11_putSigned (ax_W_of _ k3_X11_putSigned k4_X11_putSigned) (by decide +kernel) (fun pc q h => by cases h)
theorem k1_X11_putNumber : (at_X11_putNumber).all (fun q => decide (decode cX11_putNumber q.1 = .ok (q.2.1, q.2.2.1))) = true := by decide +kernel
theorem k2_X11_putNumber : ax_chks ax_T aD_X11_putNumber = true := by decide +kernel
theorem k3_X11_putNumber : ax_needs ax_T ax_n9 ax_j9 ax_m9 aD_X11_putNumber = [1543, 1545, 59, 97, 1554].filterMap (fun i => ax_big[i]?) := by decide +kernel
theorem k4_X11_putNumber : (ax_needs ax_T ax_n9 ax_j9 ax_m9 aD_X11_putNumber).all goodWord = true := by decide +kernel
theorem ok_X11_putNumber : ax_okM ax_Ss ax_T ax_n9 ax_j9 ax_m9 aD_X11_putNumber := ax_okM_of (fun q h => of_decide_eq_true (List.all_eq_true.mp k1_X11_putNumber q h)) k2_X11_putNumber (ax_W_of _ k3_X11_putNumber k4_X11_putNumber) (by decide +kernel) (fun pc q h => by cases h)
theorem k1_X11_putText : (at_X11_putText).all (fun q => decide (decode cX11_putText q.1 = .ok (q.2.1, q.2.2.1))) = true := by decide +kernel
theorem k2_X11_putText : ax_chks ax_T aD_X11_putText = true := by decide +kernel
theorem k3_X11_putText : ax_needs ax_T ax_n9 ax_j9 ax_m9 aD_X11_putText = [1225, 1228, 1224, 1543, 1545, 59, 97, 1542].filterMap (fun i => ax_big[i]?) := by decide +kernel
theorem k4_X11_putText : (ax_needs ax_T ax_n9 ax_j9 ax_m9 aD_X11_putText).all goodWord = true := by decide +kernel
theorem ok_X11_putText : ax_okM ax_Ss ax_T ax_n9 ax_j9 ax_m9 aD_X11_putText := ax_okM_of (fun q h => of_decide_eq_true (List.all_eq_true.mp k1_X11_putText q h)) k2_X11_putText (ax_W_of _ k3_X11_putText k4_X11_putText) (by decide +kernel) (fun pc q h => by cases h)
theorem k1_X11_putValue : (at_X11_putValue).all (fun q => decide (decode cX11_putValue q.1 = .ok (q.2.1, q.2.2.1))) = true := by decide +kernel
theorem k2_X11_putValue : ax_chks ax_T aD_X11_putValue = true := by decide +kernel
theorem k3_X11_putValue : ax_needs ax_T ax_n9 ax_j9 ax_m9 aD_X11_putValue = [1222, 1223, 1560, 1562, 63, 97, 1223, 1547, 1549, 60, 97, 1539, 1541, 58, 97, 1543, 1545, 59, 97, 1241, 1503, 1505, 53, 97, 1551, 1553, 61, 97, 1225, 1543, 1545, 59, 97, 1539, 1541, 58, 97, 1243, 1223, 1551, 1553, 61, 97, 1243, 1223, 1547, 1549, 60, 97, 1223, 1520, 1522, 56, 97, 1551, 1553, 61, 97, 1559].filterMap (fun i => ax_big[i]?) := by decide +kernel
theorem k4_X11_putValue : (ax_needs ax_T ax_n9 ax_j9 ax_m9 aD_X11_putValue).all goodWord = true := by decide +kernel
theorem ok_X11_putValue : ax_okM ax_Ss ax_T ax_n9 ax_j9 ax_m9 aD_X11_putValue := ax_okM_of (fun q h => of_decide_eq_true (List.all_eq_true.mp k1_X11_putValue q h)) k2_X11_putValue (ax_W_of _ k3_X11_putValue k4_X11_putValue) (by decide +kernel) (fun pc q h => by cases h)
theorem k1_X11_shapeBytes : (at_X11_shapeBytes).all (fun q => decide (decode cX11_shapeBytes q.1 = .ok (q.2.1, q.2.2.1))) = true := by decide +kernel
theorem k2_X11_shapeBytes : ax_chks ax_T aD_X11_shapeBytes = true := by decide +kernel
theorem k3_X11_shapeBytes : ax_needs ax_T ax_n9 ax_j9 ax_m9 aD_X11_shapeBytes = [1236, 1238, 1407, 1409, 39, 97, 1516, 97, 1515, 1217, 1516, 97, 1515, 1220, 1221, 1516, 97, 1515, 1222, 1516, 97, 1515, 1532].filterMap (fun i => ax_big[i]?) := by decide +kernel
theorem k4_X11_shapeBytes : (ax_needs ax_T ax_n9 ax_j9 ax_m9 aD_X11_shapeBytes).all goodWord = true := by decide +kernel
theorem ok_X11_shapeBytes : ax_okM ax_Ss ax_T ax_n9 ax_j9 ax_m9 aD_X11_shapeBytes := ax_okM_of (fun q h => of_decide_eq_true (List.all_eq_true.mp k1_X11_shapeBytes q h)) k2_X11_shapeBytes (ax_W_of _ k3_X11_shapeBytes k4_X11_shapeBytes) (by decide +kernel) (fun pc q h => by cases h)
theorem k1_X11_isSection : (at_X11_isSection).all (fun q => decide (decode cX11_isSection q.1 = .ok (q.2.1, q.2.2.1))) = true := by decide +kernel
theorem k2_X11_isSection : ax_chks ax_T aD_X11_isSection = true := by decide +kernel
theorem k3_X11_isSection : ax_needs ax_T ax_n9 ax_j9 ax_m9 aD_X11_isSection = [1571, 1393, 97, 1392, 1570].filterMap (fun i => ax_big[i]?) := by decide +kernel
theorem k4_X11_isSection : (ax_needs ax_T ax_n9 ax_j9 ax_m9 aD_X11_isSection).all goodWord = true := by decide +kernel
theorem ok_X11_isSection : ax_okM ax_Ss ax_T ax_n9 ax_j9 ax_m9 aD_X11_isSection := ax_okM_of (fun q h => of_decide_eq_true (List.all_eq_true.mp k1_X11_isSection q h)) k2_X11_isSection (ax_W_of _ k3_X11_isSection k4_X11_isSection) (by decide +kernel) (fun pc q h => by cases h)
theorem k1_X11_size : (at_X11_size).all (fun q => decide (decode cX11_size q.1 = .ok (q.2.1, q.2.2.1))) = true := by decide +kernel
theorem k2_X11_size : ax_chks ax_T aD_X11_size = true := by decide +kernel
theorem k3_X11_size : ax_needs ax_T ax_n9 ax_j9 ax_m9 aD_X11_size = [1569, 97, 1568, 1384, 1386, 37, 97, 1230, 1567].filterMap (fun i => ax_big[i]?) := by decide +kernel
theorem k4_X11_size : (ax_needs ax_T ax_n9 ax_j9 ax_m9 aD_X11_size).all goodWord = true := by decide +kernel
theorem ok_X11_size : ax_okM ax_Ss ax_T ax_n9 ax_j9 ax_m9 aD_X11_size := ax_okM_of (fun q h => of_decide_eq_true (List.all_eq_true.mp k1_X11_size q h)) k2_X11_size (ax_W_of _ k3_X11_size k4_X11_size) (by decide +kernel) (fun pc q h => by cases h)
theorem k1_X11_isOctet : (at_X11_isOctet).all (fun q => decide (decode cX11_isOctet q.1 = .ok (q.2.1, q.2.2.1))) = true := by decide +kernel
theorem k2_X11_isOctet : ax_chks ax_T aD_X11_isOctet = true := by decide +kernel
theorem k3_X11_isOctet : ax_needs ax_T ax_n9 ax_j9 ax_m9 aD_X11_isOctet = [1569, 97, 1568, 1230, 1393, 97, 1392, 1579].filterMap (fun i => ax_big[i]?) := by decide +kernel
theorem k4_X11_isOctet : (ax_needs ax_T ax_n9 ax_j9 ax_m9 aD_X11_isOctet).all goodWord = true := by decide +kernel
theorem ok_X11_isOctet : ax_okM ax_Ss ax_T ax_n9 ax_j9 ax_m9 aD_X11_isOctet := ax_okM_of (fun q h => of_decide_eq_true (List.all_eq_true.mp k1_X11_isOctet q h)) k2_X11_isOctet (ax_W_of _ k3_X11_isOctet k4_X11_isOctet) (by decide +kernel) (fun pc q h => by cases h)
theorem k1_X11_octet : (at_X11_octet).all (fun q => decide (decode cX11_octet q.1 = .ok (q.2.1, q.2.2.1))) = true := by decide +kernel
theorem k2_X11_octet : ax_chks ax_T aD_X11_octet = true := by decide +kernel
theorem k3_X11_octet : ax_needs ax_T ax_n9 ax_j9 ax_m9 aD_X11_octet = [1576, 1578, 64, 97, 1384, 1386, 37, 97, 1229, 1537, 97, 1536, 1575].filterMap (fun i => ax_big[i]?) := by decide +kernel
theorem k4_X11_octet : (ax_needs ax_T ax_n9 ax_j9 ax_m9 aD_X11_octet).all goodWord = true := by decide +kernel
theorem ok_X11_octet : ax_okM ax_Ss ax_T ax_n9 ax_j9 ax_m9 aD_X11_octet := ax_okM_of (fun q h => of_decide_eq_true (List.all_eq_true.mp k1_X11_octet q h)) k2_X11_octet (ax_W_of _ k3_X11_octet k4_X11_octet) (by decide +kernel) (fun pc q h => by cases h)
theorem k1_X11_load : (at_X11_load).all (fun q => decide (decode cX11_load q.1 = .ok (q.2.1, q.2.2.1))) = true := by decide +kernel
theorem k2_X11_load : ax_chks ax_T aD_X11_load = true := by decide +kernel
theorem k3_X11_load : ax_needs ax_T ax_n9 ax_j9 ax_m9 aD_X11_load = [1569, 97, 1568, 1212, 1534, 97, 1533, 1210, 1210, 1212, 1229, 1537, 97, 1536, 1211, 1230, 1212, 1212, 1230, 1583].filterMap (fun i => ax_big[i]?) := by decide +kernel
theorem k4_X11_load : (ax_needs ax_T ax_n9 ax_j9 ax_m9 aD_X11_load).all goodWord = true := by decide +kernel
theorem ok_X11_load : ax_okM ax_Ss ax_T ax_n9 ax_j9 ax_m9 aD_X11_load := ax_okM_of (fun q h => of_decide_eq_true (List.all_eq_true.mp k1_X11_load q h)) k2_X11_load (ax_W_of _ k3_X11_load k4_X11_load) (by decide +kernel) (fun pc q h => by cases h)
theorem k1_X11_alter : (at_X11_alter).all (fun q => decide (decode cX11_alter q.1 = .ok (q.2.1, q.2.2.1))) = true := by decide +kernel
theorem k2_X11_alter : ax_chks ax_T aD_X11_alter = true := by decide +kernel
theorem k3_X11_alter : ax_needs ax_T ax_n9 ax_j9 ax_m9 aD_X11_alter = [1576, 1578, 64, 97, 1384, 1386, 37, 97, 1537, 97, 1536, 1229, 1229, 1229, 1587].filterMap (fun i => ax_big[i]?) := by decide +kernel
theorem k4_X11_alter : (ax_needs ax_T ax_n9 ax_j9 ax_m9 aD_X11_alter).all goodWord = true := by decide +kernel
theorem ok_X11_alter : ax_okM ax_Ss ax_T ax_n9 ax_j9 ax_m9 aD_X11_alter := ax_okM_of (fun q h => of_decide_eq_true (List.all_eq_true.mp k1_X11_alter q h)) k2_X11_alter (ax_W_of _ k3_X11_alter k4_X11_alter) (by decide +kernel) (fun pc q h => by cases h)
theorem k1_X11_bad : (at_X11_bad).all (fun q => decide (decode cX11_bad q.1 = .ok (q.2.1, q.2.2.1))) = true := by decide +kernel
theorem k2_X11_bad : ax_chks ax_T aD_X11_bad = true := by decide +kernel
theorem k3_X11_bad : ax_needs ax_T ax_n9 ax_j9 ax_m9 aD_X11_bad = [1247, 1247, 1248, 1249, 1603].filterMap (fun i => ax_big[i]?) := by decide +kernel
theorem k4_X11_bad : (ax_needs ax_T ax_n9 ax_j9 ax_m9 aD_X11_bad).all goodWord = true := by decide +kernel
theorem ok_X11_bad : ax_okM ax_Ss ax_T ax_n9 ax_j9 ax_m9 aD_X11_bad := ax_okM_of (fun q h => of_decide_eq_true (List.all_eq_true.mp k1_X11_bad q h)) k2_X11_bad (ax_W_of _ k3_X11_bad k4_X11_bad) (by decide +kernel) (fun pc q h => by cases h)
theorem k1_X11_byteAt : (at_X11_byteAt).all (fun q => decide (decode cX11_byteAt q.1 = .ok (q.2.1, q.2.2.1))) = true := by decide +kernel
theorem k2_X11_byteAt : ax_chks ax_T aD_X11_byteAt = true := by decide +kernel
theorem k3_X11_byteAt : ax_needs ax_T ax_n9 ax_j9 ax_m9 aD_X11_byteAt = [1229, 1252, 1537, 97, 1536, 1615].filterMap (fun i => ax_big[i]?) := by decide +kernel
theorem k4_X11_byteAt : (ax_needs ax_T ax_n9 ax_j9 ax_m9 aD_X11_byteAt).all goodWord = true := by decide +kernel
theorem ok_X11_byteAt : ax_okM ax_Ss ax_T ax_n9 ax_j9 ax_m9 aD_X11_byteAt := ax_okM_of (fun q h => of_decide_eq_true (List.all_eq_true.mp k1_X11_byteAt q h)) k2_X11_byteAt (ax_W_of _ k3_X11_byteAt k4_X11_byteAt) (by decide +kernel) (fun pc q h => by cases h)
theorem k1_X11_has : (at_X11_has).all (fun q => decide (decode cX11_has q.1 = .ok (q.2.1, q.2.2.1))) = true := by decide +kernel
theorem k2_X11_has : ax_chks ax_T aD_X11_has = true := by decide +kernel
theorem k3_X11_has : ax_needs ax_T ax_n9 ax_j9 ax_m9 aD_X11_has = [1247, 1250, 1251, 1252, 1251, 1600, 1602, 67, 97, 1247, 1611].filterMap (fun i => ax_big[i]?) := by decide +kernel
theorem k4_X11_has : (ax_needs ax_T ax_n9 ax_j9 ax_m9 aD_X11_has).all goodWord = true := by decide +kernel
theorem ok_X11_has : ax_okM ax_Ss ax_T ax_n9 ax_j9 ax_m9 aD_X11_has := ax_okM_of (fun q h => of_decide_eq_true (List.all_eq_true.mp k1_X11_has q h)) k2_X11_has (ax_W_of _ k3_X11_has k4_X11_has) (by decide +kernel) (fun pc q h => by cases h)
theorem k1_X11_fixed : (at_X11_fixed).all (fun q => decide (decode cX11_fixed q.1 = .ok (q.2.1, q.2.2.1))) = true := by decide +kernel
theorem k2_X11_fixed : ax_chks ax_T aD_X11_fixed = true := by decide +kernel
theorem k3_X11_fixed : ax_needs ax_T ax_n9 ax_j9 ax_m9 aD_X11_fixed = [1608, 1610, 69, 97, 1250, 1612, 1614, 70, 97, 1250, 1250, 1607].filterMap (fun i => ax_big[i]?) := by decide +kernel
theorem k4_X11_fixed : (ax_needs ax_T ax_n9 ax_j9 ax_m9 aD_X11_fixed).all goodWord = true := by decide +kernel
theorem ok_X11_fixed : ax_okM ax_Ss ax_T ax_n9 ax_j9 ax_m9 aD_X11_fixed := ax_okM_of (fun q h => of_decide_eq_true (List.all_eq_true.mp k1_X11_fixed q h)) k2_X11_fixed (ax_W_of _ k3_X11_fixed k4_X11_fixed) (by decide +kernel) (fun pc q h => by cases h)
theorem k1_X11_row : (at_X11_row).all (fun q => decide (decode cX11_row q.1 = .ok (q.2.1, q.2.2.1))) = true := by decide +kernel
theorem k2_X11_row : ax_chks ax_T aD_X11_row = true := by decide +kernel
theorem k3_X11_row : ax_needs ax_T ax_n9 ax_j9 ax_m9 aD_X11_row = [1250, 1608, 1610, 69, 97, 1250, 1612, 1614, 70, 97, 1250, 1250, 1252, 1600, 1602, 67, 97, 1518, 1630, 1252, 1600, 1602, 67, 97, 1252, 1600, 1602, 67, 97, 1629].filterMap (fun i => ax_big[i]?) := by decide +kernel
theorem k4_X11_row : (ax_needs ax_T ax_n9 ax_j9 ax_m9 aD_X11_row).all goodWord = true := by decide +kernel
theorem ok_X11_row : ax_okM ax_Ss ax_T ax_n9 ax_j9 ax_m9 aD_X11_row := ax_okM_of (fun q h => of_decide_eq_true (List.all_eq_true.mp k1_X11_row q h)) k2_X11_row (ax_W_of _ k3_X11_row k4_X11_row) (by decide +kernel) (fun pc q h => by cases h)
theorem k1_X11_shapeNumbered : (at_X11_shapeNumbered).all (fun q => decide (decode cX11_shapeNumbered q.1 = .ok (q.2.1, q.2.2.1))) = true := by decide +kernel
theorem k2_X11_shapeNumbered : ax_chks ax_T aD_X11_shapeNumbered = true := by decide +kernel
theorem k3_X11_shapeNumbered : ax_needs ax_T ax_n9 ax_j9 ax_m9 aD_X11_shapeNumbered = [1253, 1254, 1651].filterMap (fun i => ax_big[i]?) := by decide +kernel
theorem k4_X11_shapeNumbered : (ax_needs ax_T ax_n9 ax_j9 ax_m9 aD_X11_shapeNumbered).all goodWord = true := by decide +kernel
theorem ok_X11_shapeNumbered : ax_okM ax_Ss ax_T ax_n9 ax_j9 ax_m9 aD_X11_shapeNumbered := ax_okM_of (fun q h => of_decide_eq_true (List.all_eq_true.mp k1_X11_shapeNumbered q h)) k2_X11_shapeNumbered (ax_W_of _ k3_X11_shapeNumbered k4_X11_shapeNumbered) (by decide +kernel) (fun pc q h => by cases h)
theorem k1_X11_textIs : (at_X11_textIs).all (fun q => decide (decode cX11_textIs q.1 = .ok (q.2.1, q.2.2.1))) = true := by decide +kernel
theorem k2_X11_textIs : ax_chks ax_T aD_X11_textIs = true := by decide +kernel
theorem k3_X11_textIs : ax_needs ax_T ax_n9 ax_j9 ax_m9 aD_X11_textIs = [1224, 1225, 1664].filterMap (fun i => ax_big[i]?) := by decide +kernel
theorem k4_X11_textIs : (ax_needs ax_T ax_n9 ax_j9 ax_m9 aD_X11_textIs).all goodWord = true := by decide +kernel
theorem ok_X11_textIs : ax_okM ax_Ss ax_T ax_n9 ax_j9 ax_m9 aD_X11_textIs := ax_okM_of (fun q h => of_decide_eq_true (List.all_eq_true.mp k1_X11_textIs q h)) k2_X11_textIs (ax_W_of _ k3_X11_textIs k4_X11_textIs) (by decide +kernel) (fun pc q h => by cases h)
theorem k1_X11_keep : (at_X11_keep).all (fun q => decide (decode cX11_keep q.1 = .ok (q.2.1, q.2.2.1))) = true := by decide +kernel
theorem k2_X11_keep : ax_chks ax_T aD_X11_keep = true := by decide +kernel
theorem k3_X11_keep : ax_needs ax_T ax_n9 ax_j9 ax_m9 aD_X11_keep = [1459, 1213, 1227, 1213, 1228, 1229, 1227, 1213, 1227, 1213, 1595].filterMap (fun i => ax_big[i]?) := by decide +kernel
theorem k4_X11_keep : (ax_needs ax_T ax_n9 ax_j9 ax_m9 aD_X11_keep).all goodWord = true := by decide +kernel
theorem ok_X11_keep : ax_okM ax_Ss ax_T ax_n9 ax_j9 ax_m9 aD_X11_keep := ax_okM_of (fun q h => of_decide_eq_true (List.all_eq_true.mp k1_X11_keep q h)) k2_X11_keep (ax_W_of _ k3_X11_keep k4_X11_keep) (by decide +kernel) (fun pc q h => by cases h)
theorem k1_X11_resolve : (at_X11_resolve).all (fun q => decide (decode cX11_resolve q.1 = .ok (q.2.1, q.2.2.1))) = true := by decide +kernel
theorem k2_X11_resolve : ax_chks ax_T aD_X11_resolve = true := by decide +kernel
theorem k3_X11_resolve : ax_needs ax_T ax_n9 ax_j9 ax_m9 aD_X11_resolve = [1407, 1409, 39, 97, 1220, 1222, 1465, 97, 1464, 1214, 1213, 1260, 1223, 1261, 1213, 1600, 1602, 67, 97, 1223, 1672].filterMap (fun i => ax_big[i]?) := by decide +kernel
theorem k4_X11_resolve : (ax_needs ax_T ax_n9 ax_j9 ax_m9 aD_X11_resolve).all goodWord = true := by decide +kernel
theorem ok_X11_resolve : ax_okM ax_Ss ax_T ax_n9 ax_j9 ax_m9 aD_X11_resolve := ax_okM_of (fun q h => of_decide_eq_true (List.all_eq_true.mp k1_X11_resolve q h)) k2_X11_resolve (ax_W_of _ k3_X11_resolve k4_X11_resolve) (by decide +kernel) (fun pc q h => by cases h)
theorem k1_X11_fault : (at_X11_fault).all (fun q => decide (decode cX11_fault q.1 = .ok (q.2.1, q.2.2.1))) = true := by decide +kernel
theorem k2_X11_fault : ax_chks ax_T aD_X11_fault = true := by decide +kernel
theorem k3_X11_fault : ax_needs ax_T ax_n9 ax_j9 ax_m9 aD_X11_fault = [1393, 97, 1392, 1384, 1386, 37, 97, 1231, 1232, 1676].filterMap (fun i => ax_big[i]?) := by decide +kernel
theorem k4_X11_fault : (ax_needs ax_T ax_n9 ax_j9 ax_m9 aD_X11_fault).all goodWord = true := by decide +kernel
theorem ok_X11_fault : ax_okM ax_Ss ax_T ax_n9 ax_j9 ax_m9 aD_X11_fault := ax_okM_of (fun q h => of_decide_eq_true (List.all_eq_true.mp k1_X11_fault q h)) k2_X11_fault (ax_W_of _ k3_X11_fault k4_X11_fault) (by decide +kernel) (fun pc q h => by cases h)
theorem k1_X11_count : (at_X11_count).all (fun q => decide (decode cX11_count q.1 = .ok (q.2.1, q.2.2.1))) = true := by decide +kernel
theorem k2_X11_count : ax_chks ax_T aD_X11_count = true := by decide +kernel
theorem k3_X11_count : ax_needs ax_T ax_n9 ax_j9 ax_m9 aD_X11_count = [1681, 1393, 97, 1392, 1384, 1386, 37, 97, 1214, 1213, 1215, 1213, 1475, 1477, 46, 97, 1236, 1239, 1680].filterMap (fun i => ax_big[i]?) := by decide +kernel
theorem k4_X11_count : (ax_needs ax_T ax_n9 ax_j9 ax_m9 aD_X11_count).all goodWord = true := by decide +kernel
theorem ok_X11_count : ax_okM ax_Ss ax_T ax_n9 ax_j9 ax_m9 aD_X11_count := ax_okM_of (fun q h => of_decide_eq_true (List.all_eq_true.mp k1_X11_count q h)) k2_X11_count (ax_W_of _ k3_X11_count k4_X11_count) (by decide +kernel) (fun pc q h => by cases h)
theorem k1_X11_about : (at_X11_about).all (fun q => decide (decode cX11_about q.1 = .ok (q.2.1, q.2.2.1))) = true := by decide +kernel
theorem k2_X11_about : ax_chks ax_T aD_X11_about = true := by decide +kernel
theorem k3_X11_about : ax_needs ax_T ax_n9 ax_j9 ax_m9 aD_X11_about = [1415, 1417, 40, 97, 1686, 1393, 97, 1392, 1384, 1386, 37, 97, 1407, 1409, 39, 97, 1217, 1218, 1219, 1214, 1213, 1218, 1407, 1409, 39, 97, 1220, 1475, 1477, 46, 97, 1243, 1685].filterMap (fun i => ax_big[i]?) := by decide +kernel
theorem k4_X11_about : (ax_needs ax_T ax_n9 ax_j9 ax_m9 aD_X11_about).all goodWord = true := by decide +kernel
theorem ok_X11_about : ax_okM ax_Ss ax_T ax_n9 ax_j9 ax_m9 aD_X11_about := ax_okM_of (fun q h => of_decide_eq_true (List.all_eq_true.mp k1_X11_about q h)) k2_X11_about (ax_W_of _ k3_X11_about k4_X11_about) (by decide +kernel) (fun pc q h => by cases h)
theorem k1_X11_child : (at_X11_child).all (fun q => decide (decode cX11_child q.1 = .ok (q.2.1, q.2.2.1))) = true := by decide +kernel
theorem k2_X11_child : ax_chks ax_T aD_X11_child = true := by decide +kernel
theorem k3_X11_child : ax_needs ax_T ax_n9 ax_j9 ax_m9 aD_X11_child = [1415, 1417, 40, 97, 1384, 1386, 37, 97, 1214, 1213, 1218, 1407, 1409, 39, 97, 1690].filterMap (fun i => ax_big[i]?) := by decide +kernel
theorem k4_X11_child : (ax_needs ax_T ax_n9 ax_j9 ax_m9 aD_X11_child).all goodWord = true := by decide +kernel
theorem ok_X11_child : ax_okM ax_Ss ax_T ax_n9 ax_j9 ax_m9 aD_X11_child := ax_okM_of (fun q h => of_decide_eq_true (List.all_eq_true.mp k1_X11_child q h)) k2_X11_child (ax_W_of _ k3_X11_child k4_X11_child) (by decide +kernel) (fun pc q h => by cases h)
theorem k1_X11_root : (at_X11_root).all (fun q => decide (decode cX11_root q.1 = .ok (q.2.1, q.2.2.1))) = true := by decide +kernel
theorem k2_X11_root : ax_chks ax_T aD_X11_root = true := by decide +kernel
theorem k3_X11_root : ax_needs ax_T ax_n9 ax_j9 ax_m9 aD_X11_root = [1215, 1213, 1393, 97, 1392, 1384, 1386, 37, 97, 1216, 1213, 1694].filterMap (fun i => ax_big[i]?) := by decide +kernel
theorem k4_X11_root : (ax_needs ax_T ax_n9 ax_j9 ax_m9 aD_X11_root).all goodWord = true := by decide +kernel
theorem ok_X11_root : ax_okM ax_Ss ax_T ax_n9 ax_j9 ax_m9 aD_X11_root := ax_okM_of (fun q h => of_decide_eq_true (List.all_eq_true.mp k1_X11_root q h)) k2_X11_root (ax_W_of _ k3_X11_root k4_X11_root) (by decide +kernel) (fun pc q h => by cases h)
theorem k1_X11_isAttribute : (at_X11_isAttribute).all (fun q => decide (decode cX11_isAttribute q.1 = .ok (q.2.1, q.2.2.1))) = true := by decide +kernel
theorem k2_X11_isAttribute : ax_chks ax_T aD_X11_isAttribute = true := by decide +kernel
theorem k3_X11_isAttribute : ax_needs ax_T ax_n9 ax_j9 ax_m9 aD_X11_isAttribute = [1415, 1417, 40, 97, 1220, 1407, 1409, 39, 97, 1393, 97, 1392, 1702].filterMap (fun i => ax_big[i]?) := by decide +kernel
theorem k4_X11_isAttribute : (ax_needs ax_T ax_n9 ax_j9 ax_m9 aD_X11_isAttribute).all goodWord = true := by decide +kernel
theorem ok_X11_isAttribute : ax_okM ax_Ss ax_T ax_n9 ax_j9 ax_m9 aD_X11_isAttribute := ax_okM_of (fun q h => of_decide_eq_true (List.all_eq_true.mp k1_X11_isAttribute q h)) k2_X11_isAttribute (ax_W_of _ k3_X11_isAttribute k4_X11_isAttribute) (by decide +kernel) (fun pc q h => by cases h)
theorem k1_X11_attribute : (at_X11_attribute).all (fun q => decide (decode cX11_attribute q.1 = .ok (q.2.1, q.2.2.1))) = true := by decide +kernel
theorem k2_X11_attribute : ax_chks ax_T aD_X11_attribute = true := by decide +kernel
theorem k3_X11_attribute : ax_needs ax_T ax_n9 ax_j9 ax_m9 aD_X11_attribute = [1699, 1701, 83, 97, 1571, 1393, 97, 1392, 1384, 1386, 37, 97, 1407, 1409, 39, 97, 1221, 1222, 1225, 1698].filterMap (fun i => ax_big[i]?) := by decide +kernel
theorem k4_X11_attribute : (ax_needs ax_T ax_n9 ax_j9 ax_m9 aD_X11_attribute).all goodWord = true := by decide +kernel
theorem ok_X11_attribute : ax_okM ax_Ss ax_T ax_n9 ax_j9 ax_m9 aD_X11_attribute := ax_okM_of (fun q h => of_decide_eq_true (List.all_eq_true.mp k1_X11_attribute q h)) k2_X11_attribute (ax_W_of _ k3_X11_attribute k4_X11_attribute) (by decide +kernel) (fun pc q h => by cases h)
theorem k1_X11_value : (at_X11_value).all (fun q => decide (decode cX11_value q.1 = .ok (q.2.1, q.2.2.1))) = true := by decide +kernel
theorem k2_X11_value : ax_chks ax_T aD_X11_value = true := by decide +kernel
theorem k3_X11_value : ax_needs ax_T ax_n9 ax_j9 ax_m9 aD_X11_value = [1699, 1701, 83, 97, 1384, 1386, 37, 97, 1407, 1409, 39, 97, 1222, 1453, 97, 1452, 1222, 1223, 1706].filterMap (fun i => ax_big[i]?) := by decide +kernel
theorem k4_X11_value : (ax_needs ax_T ax_n9 ax_j9 ax_m9 aD_X11_value).all goodWord = true := by decide +kernel
theorem ok_X11_value : ax_okM ax_Ss ax_T ax_n9 ax_j9 ax_m9 aD_X11_value := ax_okM_of (fun q h => of_decide_eq_true (List.all_eq_true.mp k1_X11_value q h)) k2_X11_value (ax_W_of _ k3_X11_value k4_X11_value) (by decide +kernel) (fun pc q h => by cases h)
theorem k1_X11_letter : (at_X11_letter).all (fun q => decide (decode cX11_letter q.1 = .ok (q.2.1, q.2.2.1))) = true := by decide +kernel
theorem k2_X11_letter : ax_chks ax_T aD_X11_letter = true := by decide +kernel
theorem k3_X11_letter : ax_needs ax_T ax_n9 ax_j9 ax_m9 aD_X11_letter = [1699, 1701, 83, 97, 1225, 1407, 1409, 39, 97, 1393, 97, 1392, 1384, 1386, 37, 97, 1228, 1224, 1407, 1409, 39, 97, 1710].filterMap (fun i => ax_big[i]?) := by decide +kernel
theorem k4_X11_letter : (ax_needs ax_T ax_n9 ax_j9 ax_m9 aD_X11_letter).all goodWord = true := by decide +kernel
theorem ok_X11_letter : ax_okM ax_Ss ax_T ax_n9 ax_j9 ax_m9 aD_X11_letter := ax_okM_of (fun q h => of_decide_eq_true (List.all_eq_true.mp k1_X11_letter q h)) k2_X11_letter (ax_W_of _ k3_X11_letter k4_X11_letter) (by decide +kernel) (fun pc q h => by cases h)
theorem k1_X11_isNamed : (at_X11_isNamed).all (fun q => decide (decode cX11_isNamed q.1 = .ok (q.2.1, q.2.2.1))) = true := by decide +kernel
theorem k2_X11_isNamed : ax_chks ax_T aD_X11_isNamed = true := by decide +kernel
theorem k3_X11_isNamed : ax_needs ax_T ax_n9 ax_j9 ax_m9 aD_X11_isNamed = [1407, 1409, 39, 97, 1220, 1221, 1222, 1453, 97, 1452, 1225, 1228, 1224, 1211, 1718].filterMap (fun i => ax_big[i]?) := by decide +kernel
theorem k4_X11_isNamed : (ax_needs ax_T ax_n9 ax_j9 ax_m9 aD_X11_isNamed).all goodWord = true := by decide +kernel
theorem ok_X11_isNamed : ax_okM ax_Ss ax_T ax_n9 ax_j9 ax_m9 aD_X11_isNamed := ax_okM_of (fun q h => of_decide_eq_true (List.all_eq_true.mp k1_X11_isNamed q h)) k2_X11_isNamed (ax_W_of _ k3_X11_isNamed k4_X11_isNamed) (by decide +kernel) (fun pc q h => by cases h)
theorem k1_X11_find : (at_X11_find).all (fun q => decide (decode cX11_find q.1 = .ok (q.2.1, q.2.2.1))) = true := by decide +kernel
theorem k2_X11_find : ax_chks ax_T aD_X11_find = true := by decide +kernel
theorem k3_X11_find : ax_needs ax_T ax_n9 ax_j9 ax_m9 aD_X11_find = [1415, 1417, 40, 97, 1384, 1386, 37, 97, 1212, 1212, 1214, 1213, 1218, 1407, 1409, 39, 97, 1715, 1717, 84, 97, 1714].filterMap (fun i => ax_big[i]?) := by decide +kernel
theorem k4_X11_find : (ax_needs ax_T ax_n9 ax_j9 ax_m9 aD_X11_find).all goodWord = true := by decide +kernel
theorem ok_X11_find : ax_okM ax_Ss ax_T ax_n9 ax_j9 ax_m9 aD_X11_find := ax_okM_of (fun q h => of_decide_eq_true (List.all_eq_true.mp k1_X11_find q h)) k2_X11_find (ax_W_of _ k3_X11_find k4_X11_find) (by decide +kernel) (fun pc q h => by cases h)
theorem k1_X11_numberNamed : (at_X11_numberNamed).all (fun q => decide (decode cX11_numberNamed q.1 = .ok (q.2.1, q.2.2.1))) = true := by decide +kernel
theorem k2_X11_numberNamed : ax_chks ax_T aD_X11_numberNamed = true := by decide +kernel
theorem k3_X11_numberNamed : ax_needs ax_T ax_n9 ax_j9 ax_m9 aD_X11_numberNamed = [1407, 1409, 39, 97, 1220, 1221, 1222, 1428, 97, 1427, 1726].filterMap (fun i => ax_big[i]?) := by decide +kernel
theorem k4_X11_numberNamed : (ax_needs ax_T ax_n9 ax_j9 ax_m9 aD_X11_numberNamed).all goodWord = true := by decide +kernel
theorem ok_X11_numberNamed : ax_okM ax_Ss ax_T ax_n9 ax_j9 ax_m9 aD_X11_numberNamed := ax_okM_of (fun q h => of_decide_eq_true (List.all_eq_true.mp k1_X11_numberNamed q h)) k2_X11_numberNamed (ax_W_of _ k3_X11_numberNamed k4_X11_numberNamed) (by decide +kernel) (fun pc q h => by cases h)
theorem k1_X11_isBelow : (at_X11_isBelow).all (fun q => decide (decode cX11_isBelow q.1 = .ok (q.2.1, q.2.2.1))) = true := by decide +kernel
theorem k2_X11_isBelow : ax_chks ax_T aD_X11_isBelow = true := by decide +kernel
theorem k3_X11_isBelow : ax_needs ax_T ax_n9 ax_j9 ax_m9 aD_X11_isBelow = [1730, 1730, 1729].filterMap (fun i => ax_big[i]?) := by decide +kernel
theorem k4_X11_isBelow : (ax_needs ax_T ax_n9 ax_j9 ax_m9 aD_X11_isBelow).all goodWord = true := by decide +kernel
theorem ok_X11_isBelow : ax_okM ax_Ss ax_T ax_n9 ax_j9 ax_m9 aD_X11_isBelow := ax_okM_of (fun q h => of_decide_eq_true (List.all_eq_true.mp k1_X11_isBelow q h)) k2_X11_isBelow (ax_W_of _ k3_X11_isBelow k4_X11_isBelow) (by decide +kernel) (fun pc q h => by cases h)
theorem k1_X11_covers : (at_X11_covers).all (fun q => decide (decode cX11_covers q.1 = .ok (q.2.1, q.2.2.1))) = true := by decide +kernel
theorem k2_X11_covers : ax_chks ax_T aD_X11_covers = true := by decide +kernel
theorem k3_X11_covers : ax_needs ax_T ax_n9 ax_j9 ax_m9 aD_X11_covers = [1210, 1214, 1213, 1723, 1725, 85, 97, 1723, 1725, 85, 97, 1223, 1728, 97, 1727, 1223, 1728, 97, 1727, 1419, 1421, 41, 97, 1419, 1421, 41, 97, 1722].filterMap (fun i => ax_big[i]?) := by decide +kernel
theorem k4_X11_covers : (ax_needs ax_T ax_n9 ax_j9 ax_m9 aD_X11_covers).all goodWord = true := by decide +kernel
theorem ok_X11_covers : ax_okM ax_Ss ax_T ax_n9 ax_j9 ax_m9 aD_X11_covers := ax_okM_of (fun q h => of_decide_eq_true (List.all_eq_true.mp k1_X11_covers q h)) k2_X11_covers (ax_W_of _ k3_X11_covers k4_X11_covers) (by decide +kernel) (fun pc q h => by cases h)
end
