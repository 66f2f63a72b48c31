/-! The law's turn. -/
section QC
variable {L : Nat} {xs : Nat → Int32} {d : Nat}
theorem k16 {M : qxM} {B i : Nat} {a b : Option Value} (hR : qREL M) (hT : qTab B M) (hB : B < 90000) (h6 : i + 6 ≤ L) (hL : L ≤ 3072) : qTurn L xs d 1183 i a b B M := by
  obtain ⟨b1, c1, b2, c2, b3, c3, b4, c4, b5, c5⟩ := qJ_of h6 hL
  have k1 := qx_m400.1
  have hq : qPair L xs (d + 40) 110 [some (.ref 10), some (.int (xs (i + 1)))] 264 [some (.ref 400), some (.int (xs (i + 1)))] ke0 M := j110 (L := L) (xs := xs) (d := d) (M := M) hR (xs (i + 1))
  obtain ⟨k, x1, M1, M2, v, g0, g1, g2, g3, g4, g5, g6, g7⟩ := h347 (qPairG_ok hT hq)
  refine ⟨M2, some (.int (nI k)), some (.int v), x1, g1, g6, g7, fun x => ?_⟩
  by_cases hk : k = 0
  · subst hk
    have g8 := g5 rfl
    unfold qoI at g8
    simp only [s394_1183, s394_1184, s394_1185, s394_1187, s394_1188, s394_1189s, s394_1190, s394_1191, s394_1194i, s394_1196, s394_1197, s394_1198, s394_1200, s394_1201, s394_1202s, s394_1203, s394_1206i, s394_1208, s394_1209, s394_1212, s394_1214, s394_1219, s394_1221, s394_1224, s394_1225, s394_1226, s394_1227, s394_1229, s394_1230, s394_1231, s394_1236, s394_3746r, s394_3749, g2, g3, g4, g8, lgz, nI_add, b1, c1, b2, c2, b3, c3, b4, c4, b5, c5, qx_m10, qx_m2, k1, s177_0, s177_1, s177_4, qi_z0, eq_self, List.length_cons, List.length_nil, Nat.zero_le, Nat.reduceAdd, Nat.reduceLeDiff, Option.bind_some, qx_kn_v, qx_kn_n, Nat.add_zero, Bool.false_eq_true, ↓reduceIte]
  · have hk2 : (nI k = 0) = False := eq_false (nI_ne0 (by omega) (by omega))
    simp only [s394_1183, s394_1184, s394_1185, s394_1187, s394_1188, s394_1189s, s394_1190, s394_1191, s394_1194i, s394_1196, s394_1197, s394_1198, s394_1200, s394_1201, s394_1202s, s394_1203, s394_1206i, s394_1208, s394_1209, s394_1212, s394_1214, s394_1219, s394_1221, s394_1224, s394_1225, s394_1226, s394_1227, s394_1229, s394_1230, s394_1231, s394_1236, s394_3746r, s394_3749, g2, g3, g4, hk2, nI_add, b1, c1, b2, c2, b3, c3, b4, c4, b5, c5, qx_m10, qx_m2, k1, s177_0, s177_1, s177_4, qi_z0, eq_self, List.length_cons, List.length_nil, Nat.zero_le, Nat.reduceAdd, Nat.reduceLeDiff, Option.bind_some, qx_kn_v, qx_kn_n, Nat.add_zero, Bool.false_eq_true, ↓reduceIte]
theorem k17 {M : qxM} {B i : Nat} {a b : Option Value} (hR : qREL M) (hT : qTab B M) (hB : B < 90000) (h6 : i + 6 ≤ L) (hL : L ≤ 3072) : qTurn L xs d 1239 i a b B M := by
  obtain ⟨b1, c1, b2, c2, b3, c3, b4, c4, b5, c5⟩ := qJ_of h6 hL
  have k1 := qx_m400.1
  have hq : qPair L xs (d + 40) 111 [some (.ref 10), none] 265 [some (.ref 400), none] ke0 M := j111 (L := L) (xs := xs) (d := d) (M := M) hR 
  obtain ⟨k, x1, M1, M2, v, g0, g1, g2, g3, g4, g5, g6, g7⟩ := h348 (qPairG_ok hT hq)
  refine ⟨M2, some (.int (nI k)), some (.int v), x1, g1, g6, g7, fun x => ?_⟩
  by_cases hk : k = 0
  · subst hk
    have g8 := g5 rfl
    unfold qoI at g8
    simp only [s394_1239, s394_1240, s394_1241, s394_1244i, s394_1246, s394_1247, s394_1250i, s394_1252, s394_1253, s394_1256, s394_1258, s394_1263, s394_1265, s394_1268, s394_1269, s394_1270, s394_1271, s394_1273, s394_1274, s394_1275, s394_1280, s394_3746r, s394_3749, g2, g3, g4, g8, lgz, nI_add, b1, c1, b2, c2, b3, c3, b4, c4, b5, c5, qx_m10, qx_m2, k1, s177_0, s177_1, s177_4, qi_z0, eq_self, List.length_cons, List.length_nil, Nat.zero_le, Nat.reduceAdd, Nat.reduceLeDiff, Option.bind_some, qx_kn_v, qx_kn_n, Nat.add_zero, Bool.false_eq_true, ↓reduceIte]
  · have hk2 : (nI k = 0) = False := eq_false (nI_ne0 (by omega) (by omega))
    simp only [s394_1239, s394_1240, s394_1241, s394_1244i, s394_1246, s394_1247, s394_1250i, s394_1252, s394_1253, s394_1256, s394_1258, s394_1263, s394_1265, s394_1268, s394_1269, s394_1270, s394_1271, s394_1273, s394_1274, s394_1275, s394_1280, s394_3746r, s394_3749, g2, g3, g4, hk2, nI_add, b1, c1, b2, c2, b3, c3, b4, c4, b5, c5, qx_m10, qx_m2, k1, s177_0, s177_1, s177_4, qi_z0, eq_self, List.length_cons, List.length_nil, Nat.zero_le, Nat.reduceAdd, Nat.reduceLeDiff, Option.bind_some, qx_kn_v, qx_kn_n, Nat.add_zero, Bool.false_eq_true, ↓reduceIte]
theorem k18 {M : qxM} {B i : Nat} {a b : Option Value} (hR : qREL M) (hT : qTab B M) (hB : B < 90000) (h6 : i + 6 ≤ L) (hL : L ≤ 3072) : qTurn L xs d 1283 i a b B M := by
  obtain ⟨b1, c1, b2, c2, b3, c3, b4, c4, b5, c5⟩ := qJ_of h6 hL
  have k1 := qx_m400.1
  have hq : qPair L xs (d + 40) 112 [some (.ref 10), some (.int (xs (i + 1)))] 267 [some (.ref 400), some (.int (xs (i + 1)))] ke02 M := j112 (L := L) (xs := xs) (d := d) (M := M) hR (xs (i + 1))
  obtain ⟨k, x1, M1, M2, v, g0, g1, g2, g3, g4, g5, g6, g7⟩ := h349 (qPairG_ok hT hq)
  refine ⟨M2, some (.int (nI k)), some (.int v), x1, g1, g6, g7, fun x => ?_⟩
  by_cases hk : k = 0
  · subst hk
    have g8 := g5 rfl
    unfold qoI at g8
    simp only [s394_1283, s394_1284, s394_1285, s394_1287, s394_1288, s394_1289s, s394_1290, s394_1291, s394_1294i, s394_1296, s394_1297, s394_1298, s394_1300, s394_1301, s394_1302s, s394_1303, s394_1306i, s394_1308, s394_1309, s394_1312, s394_1314, s394_1319, s394_1321, s394_1324, s394_1325, s394_1326, s394_1327, s394_1329, s394_1330, s394_1331, s394_1336, s394_3746r, s394_3749, g2, g3, g4, g8, lgz, nI_add, b1, c1, b2, c2, b3, c3, b4, c4, b5, c5, qx_m10, qx_m2, k1, s177_0, s177_1, s177_4, qi_z0, eq_self, List.length_cons, List.length_nil, Nat.zero_le, Nat.reduceAdd, Nat.reduceLeDiff, Option.bind_some, qx_kn_v, qx_kn_n, Nat.add_zero, Bool.false_eq_true, ↓reduceIte]
  · have hk2 : (nI k = 0) = False := eq_false (nI_ne0 (by omega) (by omega))
    simp only [s394_1283, s394_1284, s394_1285, s394_1287, s394_1288, s394_1289s, s394_1290, s394_1291, s394_1294i, s394_1296, s394_1297, s394_1298, s394_1300, s394_1301, s394_1302s, s394_1303, s394_1306i, s394_1308, s394_1309, s394_1312, s394_1314, s394_1319, s394_1321, s394_1324, s394_1325, s394_1326, s394_1327, s394_1329, s394_1330, s394_1331, s394_1336, s394_3746r, s394_3749, g2, g3, g4, hk2, nI_add, b1, c1, b2, c2, b3, c3, b4, c4, b5, c5, qx_m10, qx_m2, k1, s177_0, s177_1, s177_4, qi_z0, eq_self, List.length_cons, List.length_nil, Nat.zero_le, Nat.reduceAdd, Nat.reduceLeDiff, Option.bind_some, qx_kn_v, qx_kn_n, Nat.add_zero, Bool.false_eq_true, ↓reduceIte]
theorem k19 {M : qxM} {B i : Nat} {a b : Option Value} (hR : qREL M) (hT : qTab B M) (hB : B < 90000) (h6 : i + 6 ≤ L) (hL : L ≤ 3072) : qTurn L xs d 1339 i a b B M := by
  obtain ⟨b1, c1, b2, c2, b3, c3, b4, c4, b5, c5⟩ := qJ_of h6 hL
  have k1 := qx_m400.1
  have hq : qPair L xs (d + 40) 113 [some (.ref 10), some (.int (xs (i + 1))), some (.int (xs (i + 2)))] 268 [some (.ref 400), some (.int (xs (i + 1))), some (.int (xs (i + 2)))] ke02 M := j113 (L := L) (xs := xs) (d := d) (M := M) hR (xs (i + 1)) (xs (i + 2))
  obtain ⟨k, x1, M1, M2, v, g0, g1, g2, g3, g4, g5, g6, g7⟩ := h350 (qPairG_ok hT hq)
  refine ⟨M2, some (.int (nI k)), some (.int v), x1, g1, g6, g7, fun x => ?_⟩
  by_cases hk : k = 0
  · subst hk
    have g8 := g5 rfl
    unfold qoI at g8
    simp only [s394_1339, s394_1340, s394_1341, s394_1343, s394_1344, s394_1345s, s394_1346, s394_1347, s394_1349, s394_1350, s394_1351s, s394_1352, s394_1353, s394_1356i, s394_1358, s394_1359, s394_1360, s394_1362, s394_1363, s394_1364s, s394_1365, s394_1366, s394_1368, s394_1369, s394_1370s, s394_1371, s394_1374i, s394_1376, s394_1377, s394_1380, s394_1382, s394_1387, s394_1389, s394_1392, s394_1393, s394_1394, s394_1395, s394_1397, s394_1398, s394_1399, s394_1404, s394_3746r, s394_3749, g2, g3, g4, g8, lgz, nI_add, b1, c1, b2, c2, b3, c3, b4, c4, b5, c5, qx_m10, qx_m2, k1, s177_0, s177_1, s177_4, qi_z0, eq_self, List.length_cons, List.length_nil, Nat.zero_le, Nat.reduceAdd, Nat.reduceLeDiff, Option.bind_some, qx_kn_v, qx_kn_n, Nat.add_zero, Bool.false_eq_true, ↓reduceIte]
  · have hk2 : (nI k = 0) = False := eq_false (nI_ne0 (by omega) (by omega))
    simp only [s394_1339, s394_1340, s394_1341, s394_1343, s394_1344, s394_1345s, s394_1346, s394_1347, s394_1349, s394_1350, s394_1351s, s394_1352, s394_1353, s394_1356i, s394_1358, s394_1359, s394_1360, s394_1362, s394_1363, s394_1364s, s394_1365, s394_1366, s394_1368, s394_1369, s394_1370s, s394_1371, s394_1374i, s394_1376, s394_1377, s394_1380, s394_1382, s394_1387, s394_1389, s394_1392, s394_1393, s394_1394, s394_1395, s394_1397, s394_1398, s394_1399, s394_1404, s394_3746r, s394_3749, g2, g3, g4, hk2, nI_add, b1, c1, b2, c2, b3, c3, b4, c4, b5, c5, qx_m10, qx_m2, k1, s177_0, s177_1, s177_4, qi_z0, eq_self, List.length_cons, List.length_nil, Nat.zero_le, Nat.reduceAdd, Nat.reduceLeDiff, Option.bind_some, qx_kn_v, qx_kn_n, Nat.add_zero, Bool.false_eq_true, ↓reduceIte]
theorem k20 {M : qxM} {B i : Nat} {a b : Option Value} (hR : qREL M) (hT : qTab B M) (hB : B < 90000) (h6 : i + 6 ≤ L) (hL : L ≤ 3072) : qTurn L xs d 1407 i a b B M := by
  obtain ⟨b1, c1, b2, c2, b3, c3, b4, c4, b5, c5⟩ := qJ_of h6 hL
  have k1 := qx_m400.1
  have hq : qPair L xs (d + 40) 114 [some (.ref 10)] 269 [some (.ref 400)] ke0 M := j114 (L := L) (xs := xs) (d := d) (M := M) hR 
  obtain ⟨k, x1, M1, M2, v, g0, g1, g2, g3, g4, g5, g6, g7⟩ := h351 (qPairG_ok hT hq)
  refine ⟨M2, some (.int (nI k)), some (.int v), x1, g1, g6, g7, fun x => ?_⟩
  by_cases hk : k = 0
  · subst hk
    have g8 := g5 rfl
    unfold qoI at g8
    simp only [s394_1407, s394_1408, s394_1409, s394_1412i, s394_1414, s394_1415, s394_1418i, s394_1420, s394_1421, s394_1424, s394_1426, s394_1431, s394_1433, s394_1436, s394_1437, s394_1438, s394_1439, s394_1441, s394_1442, s394_1443, s394_1448, s394_3746r, s394_3749, g2, g3, g4, g8, lgz, nI_add, b1, c1, b2, c2, b3, c3, b4, c4, b5, c5, qx_m10, qx_m2, k1, s177_0, s177_1, s177_4, qi_z0, eq_self, List.length_cons, List.length_nil, Nat.zero_le, Nat.reduceAdd, Nat.reduceLeDiff, Option.bind_some, qx_kn_v, qx_kn_n, Nat.add_zero, Bool.false_eq_true, ↓reduceIte]
  · have hk2 : (nI k = 0) = False := eq_false (nI_ne0 (by omega) (by omega))
    simp only [s394_1407, s394_1408, s394_1409, s394_1412i, s394_1414, s394_1415, s394_1418i, s394_1420, s394_1421, s394_1424, s394_1426, s394_1431, s394_1433, s394_1436, s394_1437, s394_1438, s394_1439, s394_1441, s394_1442, s394_1443, s394_1448, s394_3746r, s394_3749, g2, g3, g4, hk2, nI_add, b1, c1, b2, c2, b3, c3, b4, c4, b5, c5, qx_m10, qx_m2, k1, s177_0, s177_1, s177_4, qi_z0, eq_self, List.length_cons, List.length_nil, Nat.zero_le, Nat.reduceAdd, Nat.reduceLeDiff, Option.bind_some, qx_kn_v, qx_kn_n, Nat.add_zero, Bool.false_eq_true, ↓reduceIte]
theorem k21 {M : qxM} {B i : Nat} {a b : Option Value} (hR : qREL M) (hT : qTab B M) (hB : B < 90000) (h6 : i + 6 ≤ L) (hL : L ≤ 3072) : qTurn L xs d 1451 i a b B M := by
  obtain ⟨b1, c1, b2, c2, b3, c3, b4, c4, b5, c5⟩ := qJ_of h6 hL
  have k1 := qx_m400.1
  have hq : qPairG Value.int B L xs (d + 40) 116 [some (.ref 10)] 278 [some (.ref 400)] ke0 M := j116 (L := L) (xs := xs) (d := d) (M := M) hR hT hB 
  obtain ⟨k, x1, M1, M2, v, g0, g1, g2, g3, g4, g5, g6, g7⟩ := h352 hq
  refine ⟨M2, some (.int (nI k)), some (.int v), x1, g1, g6, g7, fun x => ?_⟩
  by_cases hk : k = 0
  · subst hk
    have g8 := g5 rfl
    unfold qoI at g8
    simp only [s394_1451, s394_1452, s394_1453, s394_1456i, s394_1458, s394_1459, s394_1462i, s394_1464, s394_1465, s394_1468, s394_1470, s394_1475, s394_1477, s394_1480, s394_1481, s394_1482, s394_1483, s394_1485, s394_1486, s394_1487, s394_1492, s394_3746r, s394_3749, g2, g3, g4, g8, lgz, nI_add, b1, c1, b2, c2, b3, c3, b4, c4, b5, c5, qx_m10, qx_m2, k1, s177_0, s177_1, s177_4, qi_z0, eq_self, List.length_cons, List.length_nil, Nat.zero_le, Nat.reduceAdd, Nat.reduceLeDiff, Option.bind_some, qx_kn_v, qx_kn_n, Nat.add_zero, Bool.false_eq_true, ↓reduceIte]
  · have hk2 : (nI k = 0) = False := eq_false (nI_ne0 (by omega) (by omega))
    simp only [s394_1451, s394_1452, s394_1453, s394_1456i, s394_1458, s394_1459, s394_1462i, s394_1464, s394_1465, s394_1468, s394_1470, s394_1475, s394_1477, s394_1480, s394_1481, s394_1482, s394_1483, s394_1485, s394_1486, s394_1487, s394_1492, s394_3746r, s394_3749, g2, g3, g4, hk2, nI_add, b1, c1, b2, c2, b3, c3, b4, c4, b5, c5, qx_m10, qx_m2, k1, s177_0, s177_1, s177_4, qi_z0, eq_self, List.length_cons, List.length_nil, Nat.zero_le, Nat.reduceAdd, Nat.reduceLeDiff, Option.bind_some, qx_kn_v, qx_kn_n, Nat.add_zero, Bool.false_eq_true, ↓reduceIte]
theorem k22 {M : qxM} {B i : Nat} {a b : Option Value} (hR : qREL M) (hT : qTab B M) (hB : B < 90000) (h6 : i + 6 ≤ L) (hL : L ≤ 3072) : qTurn L xs d 1495 i a b B M := by
  obtain ⟨b1, c1, b2, c2, b3, c3, b4, c4, b5, c5⟩ := qJ_of h6 hL
  have k1 := qx_m400.1
  have hq : qPairG Value.int B L xs (d + 40) 117 [some (.ref 10)] 279 [some (.ref 400)] ke0 M := j117 (L := L) (xs := xs) (d := d) (M := M) hR hT hB 
  obtain ⟨k, x1, M1, M2, v, g0, g1, g2, g3, g4, g5, g6, g7⟩ := h353 hq
  refine ⟨M2, some (.int (nI k)), some (.int v), x1, g1, g6, g7, fun x => ?_⟩
  by_cases hk : k = 0
  · subst hk
    have g8 := g5 rfl
    unfold qoB at g8
    by_cases hv : v = 0
    · have hz : (v = 0) = True := eq_true hv
      rw [if_pos hv] at g8
      simp only [s394_1495, s394_1496, s394_1497, s394_1500i, s394_1502, s394_1503, s394_1506i, s394_1508, s394_1509, s394_1512, s394_1514, s394_1519, s394_1521, s394_1524, s394_1525, s394_1526, s394_1527, s394_1529, s394_1532, s394_1533, s394_1536, s394_1537, s394_1538, s394_1543, s394_3746r, s394_3749, g2, g3, g4, g8, hz, lgz, nI_add, b1, c1, b2, c2, b3, c3, b4, c4, b5, c5, qx_m10, qx_m2, k1, s177_0, s177_1, s177_4, qi_z0, eq_self, List.length_cons, List.length_nil, Nat.zero_le, Nat.reduceAdd, Nat.reduceLeDiff, Option.bind_some, qx_kn_v, qx_kn_n, Nat.add_zero, Bool.false_eq_true, ↓reduceIte]
    · have hz : (v = 0) = False := eq_false hv
      rw [if_neg hv] at g8
      simp only [s394_1495, s394_1496, s394_1497, s394_1500i, s394_1502, s394_1503, s394_1506i, s394_1508, s394_1509, s394_1512, s394_1514, s394_1519, s394_1521, s394_1524, s394_1525, s394_1526, s394_1527, s394_1529, s394_1532, s394_1533, s394_1536, s394_1537, s394_1538, s394_1543, s394_3746r, s394_3749, g2, g3, g4, g8, hz, lgz, nI_add, b1, c1, b2, c2, b3, c3, b4, c4, b5, c5, qx_m10, qx_m2, k1, s177_0, s177_1, s177_4, qi_z0, eq_self, List.length_cons, List.length_nil, Nat.zero_le, Nat.reduceAdd, Nat.reduceLeDiff, Option.bind_some, qx_kn_v, qx_kn_n, Nat.add_zero, Bool.false_eq_true, ↓reduceIte]
  · have hk2 : (nI k = 0) = False := eq_false (nI_ne0 (by omega) (by omega))
    simp only [s394_1495, s394_1496, s394_1497, s394_1500i, s394_1502, s394_1503, s394_1506i, s394_1508, s394_1509, s394_1512, s394_1514, s394_1519, s394_1521, s394_1524, s394_1525, s394_1526, s394_1527, s394_1529, s394_1532, s394_1533, s394_1536, s394_1537, s394_1538, s394_1543, s394_3746r, s394_3749, g2, g3, g4, hk2, nI_add, b1, c1, b2, c2, b3, c3, b4, c4, b5, c5, qx_m10, qx_m2, k1, s177_0, s177_1, s177_4, qi_z0, eq_self, List.length_cons, List.length_nil, Nat.zero_le, Nat.reduceAdd, Nat.reduceLeDiff, Option.bind_some, qx_kn_v, qx_kn_n, Nat.add_zero, Bool.false_eq_true, ↓reduceIte]
theorem k23 {M : qxM} {B i : Nat} {a b : Option Value} (hR : qREL M) (hT : qTab B M) (hB : B < 90000) (h6 : i + 6 ≤ L) (hL : L ≤ 3072) : qTurn L xs d 1546 i a b B M := by
  obtain ⟨b1, c1, b2, c2, b3, c3, b4, c4, b5, c5⟩ := qJ_of h6 hL
  have k1 := qx_m400.1
  have hq : qPairG Value.int B L xs (d + 40) 118 [some (.ref 10)] 280 [some (.ref 400)] ke0 M := j118 (L := L) (xs := xs) (d := d) (M := M) hR hT hB 
  obtain ⟨k, x1, M1, M2, v, g0, g1, g2, g3, g4, g5, g6, g7⟩ := h354 hq
  refine ⟨M2, some (.int (nI k)), some (.int v), x1, g1, g6, g7, fun x => ?_⟩
  by_cases hk : k = 0
  · subst hk
    have g8 := g5 rfl
    unfold qoI at g8
    simp only [s394_1546, s394_1547, s394_1548, s394_1551i, s394_1553, s394_1554, s394_1557i, s394_1559, s394_1560, s394_1563, s394_1565, s394_1570, s394_1572, s394_1575, s394_1576, s394_1577, s394_1578, s394_1580, s394_1581, s394_1582, s394_1587, s394_3746r, s394_3749, g2, g3, g4, g8, lgz, nI_add, b1, c1, b2, c2, b3, c3, b4, c4, b5, c5, qx_m10, qx_m2, k1, s177_0, s177_1, s177_4, qi_z0, eq_self, List.length_cons, List.length_nil, Nat.zero_le, Nat.reduceAdd, Nat.reduceLeDiff, Option.bind_some, qx_kn_v, qx_kn_n, Nat.add_zero, Bool.false_eq_true, ↓reduceIte]
  · have hk2 : (nI k = 0) = False := eq_false (nI_ne0 (by omega) (by omega))
    simp only [s394_1546, s394_1547, s394_1548, s394_1551i, s394_1553, s394_1554, s394_1557i, s394_1559, s394_1560, s394_1563, s394_1565, s394_1570, s394_1572, s394_1575, s394_1576, s394_1577, s394_1578, s394_1580, s394_1581, s394_1582, s394_1587, s394_3746r, s394_3749, g2, g3, g4, hk2, nI_add, b1, c1, b2, c2, b3, c3, b4, c4, b5, c5, qx_m10, qx_m2, k1, s177_0, s177_1, s177_4, qi_z0, eq_self, List.length_cons, List.length_nil, Nat.zero_le, Nat.reduceAdd, Nat.reduceLeDiff, Option.bind_some, qx_kn_v, qx_kn_n, Nat.add_zero, Bool.false_eq_true, ↓reduceIte]
theorem k24 {M : qxM} {B i : Nat} {a b : Option Value} (hR : qREL M) (hT : qTab B M) (hB : B < 90000) (h6 : i + 6 ≤ L) (hL : L ≤ 3072) : qTurn L xs d 1590 i a b B M := by
  obtain ⟨b1, c1, b2, c2, b3, c3, b4, c4, b5, c5⟩ := qJ_of h6 hL
  have k1 := qx_m400.1
  have hq : qPairG Value.int B L xs (d + 40) 119 [some (.ref 10)] 281 [some (.ref 400)] ke0 M := j119 (L := L) (xs := xs) (d := d) (M := M) hR hT hB 
  obtain ⟨k, x1, M1, M2, v, g0, g1, g2, g3, g4, g5, g6, g7⟩ := h355 hq
  refine ⟨M2, some (.int (nI k)), some (.int v), x1, g1, g6, g7, fun x => ?_⟩
  by_cases hk : k = 0
  · subst hk
    have g8 := g5 rfl
    unfold qoI at g8
    simp only [s394_1590, s394_1591, s394_1592, s394_1595i, s394_1597, s394_1598, s394_1601i, s394_1603, s394_1604, s394_1607, s394_1609, s394_1614, s394_1616, s394_1619, s394_1620, s394_1621, s394_1622, s394_1624, s394_1625, s394_1626, s394_1631, s394_3746r, s394_3749, g2, g3, g4, g8, lgz, nI_add, b1, c1, b2, c2, b3, c3, b4, c4, b5, c5, qx_m10, qx_m2, k1, s177_0, s177_1, s177_4, qi_z0, eq_self, List.length_cons, List.length_nil, Nat.zero_le, Nat.reduceAdd, Nat.reduceLeDiff, Option.bind_some, qx_kn_v, qx_kn_n, Nat.add_zero, Bool.false_eq_true, ↓reduceIte]
  · have hk2 : (nI k = 0) = False := eq_false (nI_ne0 (by omega) (by omega))
    simp only [s394_1590, s394_1591, s394_1592, s394_1595i, s394_1597, s394_1598, s394_1601i, s394_1603, s394_1604, s394_1607, s394_1609, s394_1614, s394_1616, s394_1619, s394_1620, s394_1621, s394_1622, s394_1624, s394_1625, s394_1626, s394_1631, s394_3746r, s394_3749, g2, g3, g4, hk2, nI_add, b1, c1, b2, c2, b3, c3, b4, c4, b5, c5, qx_m10, qx_m2, k1, s177_0, s177_1, s177_4, qi_z0, eq_self, List.length_cons, List.length_nil, Nat.zero_le, Nat.reduceAdd, Nat.reduceLeDiff, Option.bind_some, qx_kn_v, qx_kn_n, Nat.add_zero, Bool.false_eq_true, ↓reduceIte]
theorem k25 {M : qxM} {B i : Nat} {a b : Option Value} (hR : qREL M) (hT : qTab B M) (hB : B < 90000) (h6 : i + 6 ≤ L) (hL : L ≤ 3072) : qTurn L xs d 1634 i a b B M := by
  obtain ⟨b1, c1, b2, c2, b3, c3, b4, c4, b5, c5⟩ := qJ_of h6 hL
  have k1 := qx_m400.1
  have hq : qPairG Value.int B L xs (d + 40) 120 [some (.ref 10), none] 282 [some (.ref 400)] ke0 M := j120 (L := L) (xs := xs) (d := d) (M := M) hR hT hB 
  obtain ⟨k, x1, M1, M2, v, g0, g1, g2, g3, g4, g5, g6, g7⟩ := h356 hq
  refine ⟨M2, some (.int (nI k)), some (.int v), x1, g1, g6, g7, fun x => ?_⟩
  by_cases hk : k = 0
  · subst hk
    have g8 := g5 rfl
    unfold qoI at g8
    simp only [s394_1634, s394_1635, s394_1636, s394_1639i, s394_1641, s394_1642, s394_1645i, s394_1647, s394_1648, s394_1651, s394_1653, s394_1658, s394_1660, s394_1663, s394_1664, s394_1665, s394_1666, s394_1668, s394_1669, s394_1670, s394_1675, s394_3746r, s394_3749, g2, g3, g4, g8, lgz, nI_add, b1, c1, b2, c2, b3, c3, b4, c4, b5, c5, qx_m10, qx_m2, k1, s177_0, s177_1, s177_4, qi_z0, eq_self, List.length_cons, List.length_nil, Nat.zero_le, Nat.reduceAdd, Nat.reduceLeDiff, Option.bind_some, qx_kn_v, qx_kn_n, Nat.add_zero, Bool.false_eq_true, ↓reduceIte]
  · have hk2 : (nI k = 0) = False := eq_false (nI_ne0 (by omega) (by omega))
    simp only [s394_1634, s394_1635, s394_1636, s394_1639i, s394_1641, s394_1642, s394_1645i, s394_1647, s394_1648, s394_1651, s394_1653, s394_1658, s394_1660, s394_1663, s394_1664, s394_1665, s394_1666, s394_1668, s394_1669, s394_1670, s394_1675, s394_3746r, s394_3749, g2, g3, g4, hk2, nI_add, b1, c1, b2, c2, b3, c3, b4, c4, b5, c5, qx_m10, qx_m2, k1, s177_0, s177_1, s177_4, qi_z0, eq_self, List.length_cons, List.length_nil, Nat.zero_le, Nat.reduceAdd, Nat.reduceLeDiff, Option.bind_some, qx_kn_v, qx_kn_n, Nat.add_zero, Bool.false_eq_true, ↓reduceIte]
theorem k26 {M : qxM} {B i : Nat} {a b : Option Value} (hR : qREL M) (hT : qTab B M) (hB : B < 90000) (h6 : i + 6 ≤ L) (hL : L ≤ 3072) : qTurn L xs d 1678 i a b B M := by
  obtain ⟨b1, c1, b2, c2, b3, c3, b4, c4, b5, c5⟩ := qJ_of h6 hL
  have k1 := qx_m400.1
  have hq : qPairG Value.int B L xs (d + 40) 121 [some (.ref 10), none, none] 283 [some (.ref 400), none] ke0 M := j121 (L := L) (xs := xs) (d := d) (M := M) hR hT hB 
  obtain ⟨k, x1, M1, M2, v, g0, g1, g2, g3, g4, g5, g6, g7⟩ := h357 hq
  refine ⟨M2, some (.int (nI k)), some (.int v), x1, g1, g6, g7, fun x => ?_⟩
  by_cases hk : k = 0
  · subst hk
    have g8 := g5 rfl
    unfold qoI at g8
    simp only [s394_1678, s394_1679, s394_1680, s394_1683i, s394_1685, s394_1686, s394_1689i, s394_1691, s394_1692, s394_1695, s394_1697, s394_1702, s394_1704, s394_1707, s394_1708, s394_1709, s394_1710, s394_1712, s394_1713, s394_1714, s394_1719, s394_3746r, s394_3749, g2, g3, g4, g8, lgz, nI_add, b1, c1, b2, c2, b3, c3, b4, c4, b5, c5, qx_m10, qx_m2, k1, s177_0, s177_1, s177_4, qi_z0, eq_self, List.length_cons, List.length_nil, Nat.zero_le, Nat.reduceAdd, Nat.reduceLeDiff, Option.bind_some, qx_kn_v, qx_kn_n, Nat.add_zero, Bool.false_eq_true, ↓reduceIte]
  · have hk2 : (nI k = 0) = False := eq_false (nI_ne0 (by omega) (by omega))
    simp only [s394_1678, s394_1679, s394_1680, s394_1683i, s394_1685, s394_1686, s394_1689i, s394_1691, s394_1692, s394_1695, s394_1697, s394_1702, s394_1704, s394_1707, s394_1708, s394_1709, s394_1710, s394_1712, s394_1713, s394_1714, s394_1719, s394_3746r, s394_3749, g2, g3, g4, hk2, nI_add, b1, c1, b2, c2, b3, c3, b4, c4, b5, c5, qx_m10, qx_m2, k1, s177_0, s177_1, s177_4, qi_z0, eq_self, List.length_cons, List.length_nil, Nat.zero_le, Nat.reduceAdd, Nat.reduceLeDiff, Option.bind_some, qx_kn_v, qx_kn_n, Nat.add_zero, Bool.false_eq_true, ↓reduceIte]
theorem k27 {M : qxM} {B i : Nat} {a b : Option Value} (hR : qREL M) (hT : qTab B M) (hB : B < 90000) (h6 : i + 6 ≤ L) (hL : L ≤ 3072) : qTurn L xs d 1722 i a b B M := by
  obtain ⟨b1, c1, b2, c2, b3, c3, b4, c4, b5, c5⟩ := qJ_of h6 hL
  have k1 := qx_m400.1
  have hq : qPairG Value.int B L xs (d + 40) 122 [some (.ref 10), none] 284 [some (.ref 400)] ke0 M := j122 (L := L) (xs := xs) (d := d) (M := M) hR hT hB 
  obtain ⟨k, x1, M1, M2, v, g0, g1, g2, g3, g4, g5, g6, g7⟩ := h358 hq
  refine ⟨M2, some (.int (nI k)), some (.int v), x1, g1, g6, g7, fun x => ?_⟩
  by_cases hk : k = 0
  · subst hk
    have g8 := g5 rfl
    unfold qoI at g8
    simp only [s394_1722, s394_1723, s394_1724, s394_1727i, s394_1729, s394_1730, s394_1733i, s394_1735, s394_1736, s394_1739, s394_1741, s394_1746, s394_1748, s394_1751, s394_1752, s394_1753, s394_1754, s394_1756, s394_1757, s394_1758, s394_1763, s394_3746r, s394_3749, g2, g3, g4, g8, lgz, nI_add, b1, c1, b2, c2, b3, c3, b4, c4, b5, c5, qx_m10, qx_m2, k1, s177_0, s177_1, s177_4, qi_z0, eq_self, List.length_cons, List.length_nil, Nat.zero_le, Nat.reduceAdd, Nat.reduceLeDiff, Option.bind_some, qx_kn_v, qx_kn_n, Nat.add_zero, Bool.false_eq_true, ↓reduceIte]
  · have hk2 : (nI k = 0) = False := eq_false (nI_ne0 (by omega) (by omega))
    simp only [s394_1722, s394_1723, s394_1724, s394_1727i, s394_1729, s394_1730, s394_1733i, s394_1735, s394_1736, s394_1739, s394_1741, s394_1746, s394_1748, s394_1751, s394_1752, s394_1753, s394_1754, s394_1756, s394_1757, s394_1758, s394_1763, s394_3746r, s394_3749, g2, g3, g4, hk2, nI_add, b1, c1, b2, c2, b3, c3, b4, c4, b5, c5, qx_m10, qx_m2, k1, s177_0, s177_1, s177_4, qi_z0, eq_self, List.length_cons, List.length_nil, Nat.zero_le, Nat.reduceAdd, Nat.reduceLeDiff, Option.bind_some, qx_kn_v, qx_kn_n, Nat.add_zero, Bool.false_eq_true, ↓reduceIte]
theorem k28 {M : qxM} {B i : Nat} {a b : Option Value} (hR : qREL M) (hT : qTab B M) (hB : B < 90000) (h6 : i + 6 ≤ L) (hL : L ≤ 3072) : qTurn L xs d 1766 i a b B M := by
  obtain ⟨b1, c1, b2, c2, b3, c3, b4, c4, b5, c5⟩ := qJ_of h6 hL
  have k1 := qx_m400.1
  have hq : qPairG Value.int B L xs (d + 40) 123 [some (.ref 10), some (.int (xs (i + 1))), none, none, none, none] 285 [some (.ref 400), some (.int (xs (i + 1)))] ke0 M := j123 (L := L) (xs := xs) (d := d) (M := M) hR hT hB (xs (i + 1))
  obtain ⟨k, x1, M1, M2, v, g0, g1, g2, g3, g4, g5, g6, g7⟩ := h359 hq
  refine ⟨M2, some (.int (nI k)), some (.int v), x1, g1, g6, g7, fun x => ?_⟩
  by_cases hk : k = 0
  · subst hk
    have g8 := g5 rfl
    unfold qoI at g8
    simp only [s394_1766, s394_1767, s394_1768, s394_1770, s394_1771, s394_1772s, s394_1773, s394_1774, s394_1777i, s394_1779, s394_1780, s394_1781, s394_1783, s394_1784, s394_1785s, s394_1786, s394_1789i, s394_1791, s394_1792, s394_1795, s394_1797, s394_1802, s394_1804, s394_1807, s394_1808, s394_1809, s394_1810, s394_1812, s394_1813, s394_1814, s394_1819, s394_3746r, s394_3749, g2, g3, g4, g8, lgz, nI_add, b1, c1, b2, c2, b3, c3, b4, c4, b5, c5, qx_m10, qx_m2, k1, s177_0, s177_1, s177_4, qi_z0, eq_self, List.length_cons, List.length_nil, Nat.zero_le, Nat.reduceAdd, Nat.reduceLeDiff, Option.bind_some, qx_kn_v, qx_kn_n, Nat.add_zero, Bool.false_eq_true, ↓reduceIte]
  · have hk2 : (nI k = 0) = False := eq_false (nI_ne0 (by omega) (by omega))
    simp only [s394_1766, s394_1767, s394_1768, s394_1770, s394_1771, s394_1772s, s394_1773, s394_1774, s394_1777i, s394_1779, s394_1780, s394_1781, s394_1783, s394_1784, s394_1785s, s394_1786, s394_1789i, s394_1791, s394_1792, s394_1795, s394_1797, s394_1802, s394_1804, s394_1807, s394_1808, s394_1809, s394_1810, s394_1812, s394_1813, s394_1814, s394_1819, s394_3746r, s394_3749, g2, g3, g4, hk2, nI_add, b1, c1, b2, c2, b3, c3, b4, c4, b5, c5, qx_m10, qx_m2, k1, s177_0, s177_1, s177_4, qi_z0, eq_self, List.length_cons, List.length_nil, Nat.zero_le, Nat.reduceAdd, Nat.reduceLeDiff, Option.bind_some, qx_kn_v, qx_kn_n, Nat.add_zero, Bool.false_eq_true, ↓reduceIte]
theorem k29 {M : qxM} {B i : Nat} {a b : Option Value} (hR : qREL M) (hT : qTab B M) (hB : B < 90000) (h6 : i + 6 ≤ L) (hL : L ≤ 3072) : qTurn L xs d 1822 i a b B M := by
  obtain ⟨b1, c1, b2, c2, b3, c3, b4, c4, b5, c5⟩ := qJ_of h6 hL
  have k1 := qx_m400.1
  have hq : qPairG Value.int B L xs (d + 40) 124 [some (.ref 10), none, none, none] 286 [some (.ref 400), none] ke0 M := j124 (L := L) (xs := xs) (d := d) (M := M) hR hT hB 
  obtain ⟨k, x1, M1, M2, v, g0, g1, g2, g3, g4, g5, g6, g7⟩ := h360 hq
  refine ⟨M2, some (.int (nI k)), some (.int v), x1, g1, g6, g7, fun x => ?_⟩
  by_cases hk : k = 0
  · subst hk
    have g8 := g5 rfl
    unfold qoI at g8
    simp only [s394_1822, s394_1823, s394_1824, s394_1827i, s394_1829, s394_1830, s394_1833i, s394_1835, s394_1836, s394_1839, s394_1841, s394_1846, s394_1848, s394_1851, s394_1852, s394_1853, s394_1854, s394_1856, s394_1857, s394_1858, s394_1863, s394_3746r, s394_3749, g2, g3, g4, g8, lgz, nI_add, b1, c1, b2, c2, b3, c3, b4, c4, b5, c5, qx_m10, qx_m2, k1, s177_0, s177_1, s177_4, qi_z0, eq_self, List.length_cons, List.length_nil, Nat.zero_le, Nat.reduceAdd, Nat.reduceLeDiff, Option.bind_some, qx_kn_v, qx_kn_n, Nat.add_zero, Bool.false_eq_true, ↓reduceIte]
  · have hk2 : (nI k = 0) = False := eq_false (nI_ne0 (by omega) (by omega))
    simp only [s394_1822, s394_1823, s394_1824, s394_1827i, s394_1829, s394_1830, s394_1833i, s394_1835, s394_1836, s394_1839, s394_1841, s394_1846, s394_1848, s394_1851, s394_1852, s394_1853, s394_1854, s394_1856, s394_1857, s394_1858, s394_1863, s394_3746r, s394_3749, g2, g3, g4, hk2, nI_add, b1, c1, b2, c2, b3, c3, b4, c4, b5, c5, qx_m10, qx_m2, k1, s177_0, s177_1, s177_4, qi_z0, eq_self, List.length_cons, List.length_nil, Nat.zero_le, Nat.reduceAdd, Nat.reduceLeDiff, Option.bind_some, qx_kn_v, qx_kn_n, Nat.add_zero, Bool.false_eq_true, ↓reduceIte]
theorem k30 {M : qxM} {B i : Nat} {a b : Option Value} (hR : qREL M) (hT : qTab B M) (hB : B < 90000) (h6 : i + 6 ≤ L) (hL : L ≤ 3072) : qTurn L xs d 1866 i a b B M := by
  obtain ⟨b1, c1, b2, c2, b3, c3, b4, c4, b5, c5⟩ := qJ_of h6 hL
  have k1 := qx_m400.1
  have hq : qPairG Value.int B L xs (d + 40) 125 [some (.ref 10), some (.int (xs (i + 1)))] 290 [some (.ref 400), some (.int (xs (i + 1))), none] ke01 M := j125 (L := L) (xs := xs) (d := d) (M := M) hR hT hB (xs (i + 1))
  obtain ⟨k, x1, M1, M2, v, g0, g1, g2, g3, g4, g5, g6, g7⟩ := h361 hq
  refine ⟨M2, some (.int (nI k)), some (.int v), x1, g1, g6, g7, fun x => ?_⟩
  by_cases hk : k = 0
  · subst hk
    have g8 := g5 rfl
    unfold qoI at g8
    simp only [s394_1866, s394_1867, s394_1868, s394_1870, s394_1871, s394_1872s, s394_1873, s394_1874, s394_1877i, s394_1879, s394_1880, s394_1881, s394_1883, s394_1884, s394_1885s, s394_1886, s394_1889i, s394_1891, s394_1892, s394_1895, s394_1897, s394_1902, s394_1904, s394_1907, s394_1908, s394_1909, s394_1910, s394_1912, s394_1913, s394_1914, s394_1919, s394_3746r, s394_3749, g2, g3, g4, g8, lgz, nI_add, b1, c1, b2, c2, b3, c3, b4, c4, b5, c5, qx_m10, qx_m2, k1, s177_0, s177_1, s177_4, qi_z0, eq_self, List.length_cons, List.length_nil, Nat.zero_le, Nat.reduceAdd, Nat.reduceLeDiff, Option.bind_some, qx_kn_v, qx_kn_n, Nat.add_zero, Bool.false_eq_true, ↓reduceIte]
  · have hk2 : (nI k = 0) = False := eq_false (nI_ne0 (by omega) (by omega))
    simp only [s394_1866, s394_1867, s394_1868, s394_1870, s394_1871, s394_1872s, s394_1873, s394_1874, s394_1877i, s394_1879, s394_1880, s394_1881, s394_1883, s394_1884, s394_1885s, s394_1886, s394_1889i, s394_1891, s394_1892, s394_1895, s394_1897, s394_1902, s394_1904, s394_1907, s394_1908, s394_1909, s394_1910, s394_1912, s394_1913, s394_1914, s394_1919, s394_3746r, s394_3749, g2, g3, g4, hk2, nI_add, b1, c1, b2, c2, b3, c3, b4, c4, b5, c5, qx_m10, qx_m2, k1, s177_0, s177_1, s177_4, qi_z0, eq_self, List.length_cons, List.length_nil, Nat.zero_le, Nat.reduceAdd, Nat.reduceLeDiff, Option.bind_some, qx_kn_v, qx_kn_n, Nat.add_zero, Bool.false_eq_true, ↓reduceIte]
theorem k31 {M : qxM} {B i : Nat} {a b : Option Value} (hR : qREL M) (hT : qTab B M) (hB : B < 90000) (h6 : i + 6 ≤ L) (hL : L ≤ 3072) : qTurn L xs d 1922 i a b B M := by
  obtain ⟨b1, c1, b2, c2, b3, c3, b4, c4, b5, c5⟩ := qJ_of h6 hL
  have k1 := qx_m400.1
  have hq : qPairG Value.int B L xs (d + 40) 126 [some (.ref 10), some (.int (xs (i + 1))), none] 291 [some (.ref 400), some (.int (xs (i + 1))), none] ke01 M := j126 (L := L) (xs := xs) (d := d) (M := M) hR hT hB (xs (i + 1))
  obtain ⟨k, x1, M1, M2, v, g0, g1, g2, g3, g4, g5, g6, g7⟩ := h362 hq
  refine ⟨M2, some (.int (nI k)), some (.int v), x1, g1, g6, g7, fun x => ?_⟩
  by_cases hk : k = 0
  · subst hk
    have g8 := g5 rfl
    unfold qoB at g8
    by_cases hv : v = 0
    · have hz : (v = 0) = True := eq_true hv
      rw [if_pos hv] at g8
      simp only [s394_1922, s394_1923, s394_1924, s394_1926, s394_1927, s394_1928s, s394_1929, s394_1930, s394_1933i, s394_1935, s394_1936, s394_1937, s394_1939, s394_1940, s394_1941s, s394_1942, s394_1945i, s394_1947, s394_1948, s394_1951, s394_1953, s394_1958, s394_1960, s394_1963, s394_1964, s394_1965, s394_1966, s394_1968, s394_1971, s394_1972, s394_1975, s394_1976, s394_1977, s394_1982, s394_3746r, s394_3749, g2, g3, g4, g8, hz, lgz, nI_add, b1, c1, b2, c2, b3, c3, b4, c4, b5, c5, qx_m10, qx_m2, k1, s177_0, s177_1, s177_4, qi_z0, eq_self, List.length_cons, List.length_nil, Nat.zero_le, Nat.reduceAdd, Nat.reduceLeDiff, Option.bind_some, qx_kn_v, qx_kn_n, Nat.add_zero, Bool.false_eq_true, ↓reduceIte]
    · have hz : (v = 0) = False := eq_false hv
      rw [if_neg hv] at g8
      simp only [s394_1922, s394_1923, s394_1924, s394_1926, s394_1927, s394_1928s, s394_1929, s394_1930, s394_1933i, s394_1935, s394_1936, s394_1937, s394_1939, s394_1940, s394_1941s, s394_1942, s394_1945i, s394_1947, s394_1948, s394_1951, s394_1953, s394_1958, s394_1960, s394_1963, s394_1964, s394_1965, s394_1966, s394_1968, s394_1971, s394_1972, s394_1975, s394_1976, s394_1977, s394_1982, s394_3746r, s394_3749, g2, g3, g4, g8, hz, lgz, nI_add, b1, c1, b2, c2, b3, c3, b4, c4, b5, c5, qx_m10, qx_m2, k1, s177_0, s177_1, s177_4, qi_z0, eq_self, List.length_cons, List.length_nil, Nat.zero_le, Nat.reduceAdd, Nat.reduceLeDiff, Option.bind_some, qx_kn_v, qx_kn_n, Nat.add_zero, Bool.false_eq_true, ↓reduceIte]
  · have hk2 : (nI k = 0) = False := eq_false (nI_ne0 (by omega) (by omega))
    simp only [s394_1922, s394_1923, s394_1924, s394_1926, s394_1927, s394_1928s, s394_1929, s394_1930, s394_1933i, s394_1935, s394_1936, s394_1937, s394_1939, s394_1940, s394_1941s, s394_1942, s394_1945i, s394_1947, s394_1948, s394_1951, s394_1953, s394_1958, s394_1960, s394_1963, s394_1964, s394_1965, s394_1966, s394_1968, s394_1971, s394_1972, s394_1975, s394_1976, s394_1977, s394_1982, s394_3746r, s394_3749, g2, g3, g4, hk2, nI_add, b1, c1, b2, c2, b3, c3, b4, c4, b5, c5, qx_m10, qx_m2, k1, s177_0, s177_1, s177_4, qi_z0, eq_self, List.length_cons, List.length_nil, Nat.zero_le, Nat.reduceAdd, Nat.reduceLeDiff, Option.bind_some, qx_kn_v, qx_kn_n, Nat.add_zero, Bool.false_eq_true, ↓reduceIte]
end QC
