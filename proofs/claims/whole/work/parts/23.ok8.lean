section
theorem k1_X11_write_0 : (((at_X11_write).drop 0).take 100).all (fun q => decide (decode cX11_write q.1 = .ok (q.2.1, q.2.2.1))) = true := by decide +kernel
theorem k1_X11_write_1 : (((at_X11_write).drop 100).take 100).all (fun q => decide (decode cX11_write q.1 = .ok (q.2.1, q.2.2.1))) = true := by decide +kernel
theorem k1_X11_write_2 : (((at_X11_write).drop 200).take 100).all (fun q => decide (decode cX11_write q.1 = .ok (q.2.1, q.2.2.1))) = true := by decide +kernel
theorem k1_X11_write : (at_X11_write).all (fun q => decide (decode cX11_write q.1 = .ok (q.2.1, q.2.2.1))) = true := by
  have e : at_X11_write = ((at_X11_write).drop 0).take 100 ++ ((at_X11_write).drop 100).take 100 ++ ((at_X11_write).drop 200).take 100 := by rfl
  rw [e]
  simp only [List.all_append, Bool.and_eq_true]
  exact ⟨⟨k1_X11_write_0, k1_X11_write_1⟩, k1_X11_write_2⟩
theorem k2_X11_write : ax_chks ax_T aD_X11_write = true := by decide +kernel
theorem k3_X11_write : ax_needs ax_T ax_n9 ax_j9 ax_m9 aD_X11_write = [1215, 1480, 1482, 47, 98, 1220, 1218, 1250, 1534, 1536, 58, 98, 1539, 98, 1538, 1539, 98, 1538, 1247, 1539, 98, 1538, 1235, 1235, 1235, 1247, 1542, 98, 1541, 1251, 1244, 1245, 1544, 1546, 59, 98, 1548, 1550, 60, 98, 1542, 98, 1541, 1251, 1241, 1243, 1412, 1414, 40, 98, 1552, 1554, 61, 98, 1222, 1552, 1554, 61, 98, 1243, 1488, 1490, 49, 98, 1548, 1550, 60, 98, 1225, 1226, 1552, 1554, 61, 98, 1227, 1552, 1554, 61, 98, 1548, 1550, 60, 98, 1548, 1550, 60, 98, 1548, 1550, 60, 98, 1251, 1238, 1239, 1412, 1414, 40, 98, 1223, 1250, 1224, 1556, 1558, 62, 98, 1560, 1556, 1558, 62, 98, 1556, 1558, 62, 98, 1548, 1550, 60, 98, 1242, 1552, 1554, 61, 98, 1225, 1561, 1563, 63, 98, 1240, 1548, 1550, 60, 98, 1235, 1235, 1235, 1479].filterMap (fun i => ax_big[i]?) := by decide +kernel
theorem k4_X11_write : (ax_needs ax_T ax_n9 ax_j9 ax_m9 aD_X11_write).all goodWord = true := by decide +kernel
theorem ok_X11_write : ax_okM ax_Ss ax_T ax_n9 ax_j9 ax_m9 aD_X11_write := ax_okM_of (fun q h => of_decide_eq_true (List.all_eq_true.mp k1_X11_write q h)) k2_X11_write (ax_W_of _ k3_X11_write k4_X11_write) (by decide +kernel) (fun pc q h => by cases h)
theorem k1_X11_readTable : (at_X11_readTable).all (fun q => decide (decode cX11_readTable q.1 = .ok (q.2.1, q.2.2.1))) = true := by decide +kernel
theorem k2_X11_readTable : ax_chks ax_T aD_X11_readTable = true := by decide +kernel
theorem k3_X11_readTable : ax_needs ax_T ax_n9 ax_j9 ax_m9 aD_X11_readTable = [1257, 1255, 1235, 1256, 1258, 1252, 1626, 1628, 73, 98, 1625].filterMap (fun i => ax_big[i]?) := by decide +kernel
theorem k4_X11_readTable : (ax_needs ax_T ax_n9 ax_j9 ax_m9 aD_X11_readTable).all goodWord = true := by decide +kernel
theorem ok_X11_readTable : ax_okM ax_Ss ax_T ax_n9 ax_j9 ax_m9 aD_X11_readTable := ax_okM_of (fun q h => of_decide_eq_true (List.all_eq_true.mp k1_X11_readTable q h)) k2_X11_readTable (ax_W_of _ k3_X11_readTable k4_X11_readTable) (by decide +kernel) (fun pc q h => by cases h)
theorem k1_X11_readShape_0 : (((at_X11_readShape).drop 0).take 100).all (fun q => decide (decode cX11_readShape q.1 = .ok (q.2.1, q.2.2.1))) = true := by decide +kernel
theorem k1_X11_readShape_1 : (((at_X11_readShape).drop 100).take 100).all (fun q => decide (decode cX11_readShape q.1 = .ok (q.2.1, q.2.2.1))) = true := by decide +kernel
theorem k1_X11_readShape : (at_X11_readShape).all (fun q => decide (decode cX11_readShape q.1 = .ok (q.2.1, q.2.2.1))) = true := by
  have e : at_X11_readShape = ((at_X11_readShape).drop 0).take 100 ++ ((at_X11_readShape).drop 100).take 100 := by rfl
  rw [e]
  simp only [List.all_append, Bool.and_eq_true]
  exact ⟨k1_X11_readShape_0, k1_X11_readShape_1⟩
theorem k2_X11_readShape : ax_chks ax_T aD_X11_readShape = true := by decide +kernel
theorem k3_X11_readShape : ax_needs ax_T ax_n9 ax_j9 ax_m9 aD_X11_readShape = [1255, 1630, 1631, 1633, 74, 98, 1252, 1258, 1259, 1605, 1607, 68, 98, 1258, 1605, 1607, 68, 98, 1252, 1259, 1258, 1255, 1630, 1631, 1633, 74, 98, 1252, 1405, 98, 1404, 1605, 1607, 68, 98, 1260, 1258, 1255, 1609, 1611, 69, 98, 1252, 1605, 1607, 68, 98, 1261, 1258, 1262, 1258, 1252, 1636, 1638, 75, 98, 1258, 1258, 1629].filterMap (fun i => ax_big[i]?) := by decide +kernel
theorem k4_X11_readShape : (ax_needs ax_T ax_n9 ax_j9 ax_m9 aD_X11_readShape).all goodWord = true := by decide +kernel
theorem ok_X11_readShape : ax_okM ax_Ss ax_T ax_n9 ax_j9 ax_m9 aD_X11_readShape := ax_okM_of (fun q h => of_decide_eq_true (List.all_eq_true.mp k1_X11_readShape q h)) k2_X11_readShape (ax_W_of _ k3_X11_readShape k4_X11_readShape) (by decide +kernel) (fun pc q h => by cases h)
theorem k1_X11_readPair_0 : (((at_X11_readPair).drop 0).take 100).all (fun q => decide (decode cX11_readPair q.1 = .ok (q.2.1, q.2.2.1))) = true := by decide +kernel
theorem k1_X11_readPair_1 : (((at_X11_readPair).drop 100).take 100).all (fun q => decide (decode cX11_readPair q.1 = .ok (q.2.1, q.2.2.1))) = true := by decide +kernel
theorem k1_X11_readPair : (at_X11_readPair).all (fun q => decide (decode cX11_readPair q.1 = .ok (q.2.1, q.2.2.1))) = true := by
  have e : at_X11_readPair = ((at_X11_readPair).drop 0).take 100 ++ ((at_X11_readPair).drop 100).take 100 := by rfl
  rw [e]
  simp only [List.all_append, Bool.and_eq_true]
  exact ⟨k1_X11_readPair_0, k1_X11_readPair_1⟩
theorem k2_X11_readPair : ax_chks ax_T aD_X11_readPair = true := by decide +kernel
theorem k3_X11_readPair : ax_needs ax_T ax_n9 ax_j9 ax_m9 aD_X11_readPair = [1255, 1630, 1631, 1633, 74, 98, 1252, 1262, 1258, 1263, 1258, 1605, 1607, 68, 98, 1605, 1607, 68, 98, 1252, 1255, 1630, 1631, 1633, 74, 98, 1252, 1605, 1607, 68, 98, 1641, 98, 1640, 1605, 1607, 68, 98, 1252, 1263, 1258, 1264, 1258, 1262, 1258, 1639].filterMap (fun i => ax_big[i]?) := by decide +kernel
theorem k4_X11_readPair : (ax_needs ax_T ax_n9 ax_j9 ax_m9 aD_X11_readPair).all goodWord = true := by decide +kernel
theorem ok_X11_readPair : ax_okM ax_Ss ax_T ax_n9 ax_j9 ax_m9 aD_X11_readPair := ax_okM_of (fun q h => of_decide_eq_true (List.all_eq_true.mp k1_X11_readPair q h)) k2_X11_readPair (ax_W_of _ k3_X11_readPair k4_X11_readPair) (by decide +kernel) (fun pc q h => by cases h)
theorem k1_X11_readText8 : (at_X11_readText8).all (fun q => decide (decode cX11_readText8 q.1 = .ok (q.2.1, q.2.2.1))) = true := by decide +kernel
theorem k2_X11_readText8 : ax_chks ax_T aD_X11_readText8 = true := by decide +kernel
theorem k3_X11_readText8 : ax_needs ax_T ax_n9 ax_j9 ax_m9 aD_X11_readText8 = [1255, 1252, 1613, 1615, 70, 98, 1255, 1617, 1619, 71, 98, 1605, 1607, 68, 98, 1542, 98, 1541, 1597, 1599, 66, 98, 1666, 1668, 81, 98, 1255, 1255, 1255, 1255, 1665].filterMap (fun i => ax_big[i]?) := by decide +kernel
theorem k4_X11_readText8 : (ax_needs ax_T ax_n9 ax_j9 ax_m9 aD_X11_readText8).all goodWord = true := by decide +kernel
theorem ok_X11_readText8 : ax_okM ax_Ss ax_T ax_n9 ax_j9 ax_m9 aD_X11_readText8 := ax_okM_of (fun q h => of_decide_eq_true (List.all_eq_true.mp k1_X11_readText8 q h)) k2_X11_readText8 (ax_W_of _ k3_X11_readText8 k4_X11_readText8) (by decide +kernel) (fun pc q h => by cases h)
theorem k1_X11_readText14 : (at_X11_readText14).all (fun q => decide (decode cX11_readText14 q.1 = .ok (q.2.1, q.2.2.1))) = true := by decide +kernel
theorem k2_X11_readText14 : ax_chks ax_T aD_X11_readText14 = true := by decide +kernel
theorem k3_X11_readText14 : ax_needs ax_T ax_n9 ax_j9 ax_m9 aD_X11_readText14 = [1255, 1609, 1611, 69, 98, 1252, 1235, 1234, 1542, 98, 1541, 1235, 1605, 1607, 68, 98, 1464, 1218, 1666, 1668, 81, 98, 1673].filterMap (fun i => ax_big[i]?) := by decide +kernel
theorem k4_X11_readText14 : (ax_needs ax_T ax_n9 ax_j9 ax_m9 aD_X11_readText14).all goodWord = true := by decide +kernel
theorem ok_X11_readText14 : ax_okM ax_Ss ax_T ax_n9 ax_j9 ax_m9 aD_X11_readText14 := ax_okM_of (fun q h => of_decide_eq_true (List.all_eq_true.mp k1_X11_readText14 q h)) k2_X11_readText14 (ax_W_of _ k3_X11_readText14 k4_X11_readText14) (by decide +kernel) (fun pc q h => by cases h)
theorem k1_X11_readValue_0 : (((at_X11_readValue).drop 0).take 100).all (fun q => decide (decode cX11_readValue q.1 = .ok (q.2.1, q.2.2.1))) = true := by decide +kernel
theorem k1_X11_readValue_1 : (((at_X11_readValue).drop 100).take 100).all (fun q => decide (decode cX11_readValue q.1 = .ok (q.2.1, q.2.2.1))) = true := by decide +kernel
theorem k1_X11_readValue : (at_X11_readValue).all (fun q => decide (decode cX11_readValue q.1 = .ok (q.2.1, q.2.2.1))) = true := by
  have e : at_X11_readValue = ((at_X11_readValue).drop 0).take 100 ++ ((at_X11_readValue).drop 100).take 100 := by rfl
  rw [e]
  simp only [List.all_append, Bool.and_eq_true]
  exact ⟨k1_X11_readValue_0, k1_X11_readValue_1⟩
theorem k2_X11_readValue : ax_chks ax_T aD_X11_readValue = true := by decide +kernel
theorem k3_X11_readValue : ax_needs ax_T ax_n9 ax_j9 ax_m9 aD_X11_readValue = [1255, 1227, 1228, 1609, 1611, 69, 98, 1228, 1609, 1611, 69, 98, 1228, 1609, 1611, 69, 98, 1228, 1609, 1611, 69, 98, 1228, 1609, 1611, 69, 98, 1228, 1605, 1607, 68, 98, 1228, 1631, 1633, 74, 98, 1228, 1661, 1631, 1633, 74, 98, 1228, 1662, 1664, 80, 98, 1670, 1672, 82, 98, 1609, 1611, 69, 98, 1613, 1615, 70, 98, 1542, 98, 1541, 1255, 1597, 1599, 66, 98, 1666, 1668, 81, 98, 1255, 1255, 1266, 1218, 1255, 1228, 1227, 1609, 1611, 69, 98, 1630, 1631, 1633, 74, 98, 1660].filterMap (fun i => ax_big[i]?) := by decide +kernel
theorem k4_X11_readValue : (ax_needs ax_T ax_n9 ax_j9 ax_m9 aD_X11_readValue).all goodWord = true := by decide +kernel
theorem ok_X11_readValue : ax_okM ax_Ss ax_T ax_n9 ax_j9 ax_m9 aD_X11_readValue := ax_okM_of (fun q h => of_decide_eq_true (List.all_eq_true.mp k1_X11_readValue q h)) k2_X11_readValue (ax_W_of _ k3_X11_readValue k4_X11_readValue) (by decide +kernel) (fun pc q h => by cases h)
theorem k1_X11_readEntry_0 : (((at_X11_readEntry).drop 0).take 100).all (fun q => decide (decode cX11_readEntry q.1 = .ok (q.2.1, q.2.2.1))) = true := by decide +kernel
theorem k1_X11_readEntry_1 : (((at_X11_readEntry).drop 100).take 100).all (fun q => decide (decode cX11_readEntry q.1 = .ok (q.2.1, q.2.2.1))) = true := by decide +kernel
theorem k1_X11_readEntry : (at_X11_readEntry).all (fun q => decide (decode cX11_readEntry q.1 = .ok (q.2.1, q.2.2.1))) = true := by
  have e : at_X11_readEntry = ((at_X11_readEntry).drop 0).take 100 ++ ((at_X11_readEntry).drop 100).take 100 := by rfl
  rw [e]
  simp only [List.all_append, Bool.and_eq_true]
  exact ⟨k1_X11_readEntry_0, k1_X11_readEntry_1⟩
theorem k2_X11_readEntry : ax_chks ax_T aD_X11_readEntry = true := by decide +kernel
theorem k3_X11_readEntry : ax_needs ax_T ax_n9 ax_j9 ax_m9 aD_X11_readEntry = [1255, 1630, 1631, 1633, 74, 98, 1252, 1605, 1607, 68, 98, 1653, 1655, 78, 98, 1605, 1607, 68, 98, 1219, 1218, 1605, 1607, 68, 98, 1252, 1260, 1220, 1218, 1408, 1410, 39, 98, 1265, 1267, 1262, 1252, 1263, 1264, 1449, 1451, 45, 98, 1412, 1414, 40, 98, 1255, 1657, 1659, 79, 98, 1231, 1218, 1231, 1218, 1230, 1252, 1231, 1218, 1605, 1607, 68, 98, 1261, 1268, 1652].filterMap (fun i => ax_big[i]?) := by decide +kernel
theorem k4_X11_readEntry : (ax_needs ax_T ax_n9 ax_j9 ax_m9 aD_X11_readEntry).all goodWord = true := by decide +kernel
theorem ok_X11_readEntry : ax_okM ax_Ss ax_T ax_n9 ax_j9 ax_m9 aD_X11_readEntry := ax_okM_of (fun q h => of_decide_eq_true (List.all_eq_true.mp k1_X11_readEntry q h)) k2_X11_readEntry (ax_W_of _ k3_X11_readEntry k4_X11_readEntry) (by decide +kernel) (fun pc q h => by cases h)
theorem k1_X11_readEntries : (at_X11_readEntries).all (fun q => decide (decode cX11_readEntries q.1 = .ok (q.2.1, q.2.2.1))) = true := by decide +kernel
theorem k2_X11_readEntries : ax_chks ax_T aD_X11_readEntries = true := by decide +kernel
theorem k3_X11_readEntries : ax_needs ax_T ax_n9 ax_j9 ax_m9 aD_X11_readEntries = [1219, 1218, 1252, 1649, 1651, 77, 98, 1252, 1223, 1412, 1414, 40, 98, 1223, 1412, 1414, 40, 98, 1221, 1218, 1220, 1218, 1268, 1252, 1255, 1256, 1255, 1605, 1607, 68, 98, 1219, 1218, 1252, 1674, 1676, 83, 98, 1648].filterMap (fun i => ax_big[i]?) := by decide +kernel
theorem k4_X11_readEntries : (ax_needs ax_T ax_n9 ax_j9 ax_m9 aD_X11_readEntries).all goodWord = true := by decide +kernel
theorem ok_X11_readEntries : ax_okM ax_Ss ax_T ax_n9 ax_j9 ax_m9 aD_X11_readEntries := ax_okM_of (fun q h => of_decide_eq_true (List.all_eq_true.mp k1_X11_readEntries q h)) k2_X11_readEntries (ax_W_of _ k3_X11_readEntries k4_X11_readEntries) (by decide +kernel) (fun pc q h => by cases h)
theorem k1_X11_readUnit_0 : (((at_X11_readUnit).drop 0).take 100).all (fun q => decide (decode cX11_readUnit q.1 = .ok (q.2.1, q.2.2.1))) = true := by decide +kernel
theorem k1_X11_readUnit_1 : (((at_X11_readUnit).drop 100).take 100).all (fun q => decide (decode cX11_readUnit q.1 = .ok (q.2.1, q.2.2.1))) = true := by decide +kernel
theorem k1_X11_readUnit : (at_X11_readUnit).all (fun q => decide (decode cX11_readUnit q.1 = .ok (q.2.1, q.2.2.1))) = true := by
  have e : at_X11_readUnit = ((at_X11_readUnit).drop 0).take 100 ++ ((at_X11_readUnit).drop 100).take 100 := by rfl
  rw [e]
  simp only [List.all_append, Bool.and_eq_true]
  exact ⟨k1_X11_readUnit_0, k1_X11_readUnit_1⟩
theorem k2_X11_readUnit : ax_chks ax_T aD_X11_readUnit = true := by decide +kernel
theorem k3_X11_readUnit : ax_needs ax_T ax_n9 ax_j9 ax_m9 aD_X11_readUnit = [1267, 1257, 1235, 1256, 1255, 1220, 1218, 1605, 1607, 68, 98, 1609, 1611, 69, 98, 1252, 1560, 1235, 1605, 1607, 68, 98, 1252, 1256, 1609, 1611, 69, 98, 1560, 1605, 1607, 68, 98, 1609, 1611, 69, 98, 1252, 1235, 1605, 1607, 68, 98, 1609, 1611, 69, 98, 1621, 1605, 1607, 68, 98, 1252, 1220, 1218, 1269, 1622, 1624, 72, 98, 1269, 1252, 1220, 1218, 1257, 1255, 1256, 1645, 1647, 76, 98, 1255, 1604].filterMap (fun i => ax_big[i]?) := by decide +kernel
theorem k4_X11_readUnit : (ax_needs ax_T ax_n9 ax_j9 ax_m9 aD_X11_readUnit).all goodWord = true := by decide +kernel
theorem ok_X11_readUnit : ax_okM ax_Ss ax_T ax_n9 ax_j9 ax_m9 aD_X11_readUnit := ax_okM_of (fun q h => of_decide_eq_true (List.all_eq_true.mp k1_X11_readUnit q h)) k2_X11_readUnit (ax_W_of _ k3_X11_readUnit k4_X11_readUnit) (by decide +kernel) (fun pc q h => by cases h)
theorem k1_X11_read : (at_X11_read).all (fun q => decide (decode cX11_read q.1 = .ok (q.2.1, q.2.2.1))) = true := by decide +kernel
theorem k2_X11_read : ax_chks ax_T aD_X11_read = true := by decide +kernel
theorem k3_X11_read : ax_needs ax_T ax_n9 ax_j9 ax_m9 aD_X11_read = [1215, 1218, 1218, 1219, 1218, 1220, 1218, 1232, 1218, 1231, 1218, 1252, 1542, 98, 1541, 1235, 1597, 1599, 66, 98, 1252, 1235, 1601, 1603, 67, 98, 1255, 1252, 1218, 1218, 1253, 1236, 1254, 1237, 1252, 1236, 1237, 1219, 1218, 1596].filterMap (fun i => ax_big[i]?) := by decide +kernel
theorem k4_X11_read : (ax_needs ax_T ax_n9 ax_j9 ax_m9 aD_X11_read).all goodWord = true := by decide +kernel
theorem ok_X11_read : ax_okM ax_Ss ax_T ax_n9 ax_j9 ax_m9 aD_X11_read := ax_okM_of (fun q h => of_decide_eq_true (List.all_eq_true.mp k1_X11_read q h)) k2_X11_read (ax_W_of _ k3_X11_read k4_X11_read) (by decide +kernel) (fun pc q h => by cases h)
end
