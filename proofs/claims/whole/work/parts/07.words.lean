/-! ===== what the tables say, by the places of the words (printed by wip/gen/out7.py) ===== -/
theorem mem_at {α : Type} {l : List α} {i : Nat} {x : α} (h : l[i]? = some x) : x ∈ l := List.mem_of_getElem? h
def tFp : List (Nat × Nat × Nat × Nat × Nat) := [(0, 12, 0, 0, 497), (0, 16, 0, 1, 498), (0, 24, 0, 3, 500), (0, 28, 0, 4, 501), (0, 32, 0, 7, 504), (0, 39, 0, 9, 506), (0, 46, 0, 10, 507), (0, 50, 0, 12, 509), (1, 14, 1, 0, 406), (1, 23, 1, 1, 408), (1, 30, 1, 2, 410), (1, 34, 1, 3, 412), (1, 40, 1, 4, 414), (1, 44, 1, 6, 418), (6, 9, 6, 1, 169), (6, 15, 6, 2, 172), (6, 18, 6, 3, 176), (6, 21, 6, 4, 180), (6, 24, 6, 5, 183), (6, 27, 6, 6, 187), (6, 30, 6, 7, 191), (6, 33, 6, 8, 195), (6, 36, 6, 0, 167), (2, 9, 2, 0, 256), (2, 15, 2, 1, 257), (2, 18, 2, 2, 259), (2, 21, 2, 3, 261), (2, 24, 2, 4, 263), (2, 27, 2, 7, 270), (2, 30, 2, 8, 271), (3, 11, 3, 0, 297), (3, 17, 3, 1, 299), (3, 20, 3, 2, 301), (3, 23, 3, 3, 304), (3, 26, 3, 4, 307), (3, 29, 3, 5, 310), (4, 9, 4, 0, 374), (4, 20, 4, 1, 376), (4, 24, 4, 2, 378), (4, 27, 4, 3, 380), (4, 30, 4, 4, 382), (4, 36, 4, 5, 384), (5, 15, 5, 0, 346), (5, 21, 5, 1, 348), (5, 25, 5, 2, 349), (7, 13, 7, 0, 370), (8, 12, 8, 0, 474), (8, 21, 8, 1, 476), (8, 25, 8, 2, 478), (9, 11, 9, 0, 450), (9, 15, 9, 1, 451), (0, 54, 1, 0, 407), (0, 57, 6, 13, 213), (0, 326, 0, 5, 502), (0, 71, 6, 9, 200), (0, 74, 6, 4, 181), (0, 78, 6, 5, 184), (0, 81, 6, 6, 188), (0, 84, 6, 7, 192), (0, 87, 6, 8, 196), (0, 94, 6, 10, 204), (0, 329, 0, 6, 503), (6, 46, 6, 9, 198), (6, 50, 6, 10, 202), (6, 53, 6, 11, 206), (6, 56, 6, 12, 209), (6, 59, 6, 13, 214), (6, 62, 6, 14, 215), (1, 131, 6, 5, 186), (1, 71, 6, 0, 168), (2, 43, 2, 5, 265), (2, 61, 6, 4, 182), (2, 66, 6, 6, 189), (2, 69, 6, 1, 170), (2, 72, 6, 2, 173), (2, 75, 6, 3, 177), (2, 78, 6, 7, 193), (2, 81, 6, 10, 205), (2, 92, 6, 12, 211), (2, 33, 2, 6, 268), (1, 153, 6, 8, 197), (1, 156, 6, 3, 178), (1, 159, 6, 2, 174), (1, 103, 6, 11, 207), (1, 162, 6, 7, 194), (1, 97, 6, 10, 203), (1, 75, 6, 14, 216), (1, 78, 6, 12, 210), (0, 107, 6, 12, 212), (1, 81, 3, 6, 313), (1, 84, 3, 0, 298), (1, 87, 3, 1, 300), (1, 90, 6, 9, 201), (1, 100, 3, 3, 305), (1, 106, 3, 4, 308), (1, 113, 3, 2, 302), (1, 119, 6, 6, 190), (0, 114, 0, 8, 505), (0, 121, 0, 11, 508), (0, 124, 8, 0, 475), (0, 144, 9, 4, 455), (0, 147, 9, 5, 457), (9, 18, 9, 2, 452), (9, 22, 9, 3, 453), (9, 25, 9, 4, 454), (9, 28, 9, 5, 456), (14, 9, 50, 0, 2048), (14, 15, 50, 1, 2049), (8, 29, 2, 5, 266), (8, 33, 2, 6, 269), (8, 60, 2, 1, 258), (8, 63, 2, 2, 260), (8, 69, 2, 3, 262), (8, 75, 2, 4, 264), (8, 94, 8, 3, 479), (8, 97, 8, 4, 480), (8, 100, 8, 5, 481), (3, 38, 3, 6, 312), (0, 339, 1, 1, 409), (0, 359, 8, 1, 477), (0, 343, 2, 5, 267), (0, 348, 1, 2, 411), (0, 355, 1, 3, 413), (0, 351, 3, 6, 315), (0, 352, 1, 5, 417), (6, 83, 3, 6, 314), (6, 88, 3, 4, 309), (6, 91, 3, 3, 306), (6, 94, 3, 2, 303), (6, 97, 3, 5, 311), (0, 154, 6, 1, 171), (0, 157, 6, 2, 175), (0, 160, 6, 3, 179), (0, 173, 6, 14, 217), (0, 176, 1, 6, 419), (0, 187, 6, 11, 208), (12, 15, 6, 9, 199), (12, 27, 6, 5, 185), (0, 205, 1, 4, 415), (0, 209, 4, 0, 375), (0, 220, 4, 1, 377), (5, 28, 5, 3, 350), (11, 26, 5, 3, 351), (11, 50, 5, 0, 347), (0, 238, 4, 5, 385), (0, 263, 4, 2, 379), (0, 276, 5, 3, 352), (0, 282, 4, 3, 381), (4, 53, 4, 6, 386), (4, 57, 4, 7, 387), (0, 296, 4, 7, 388), (0, 311, 4, 4, 383), (0, 335, 0, 2, 499), (1, 61, 1, 5, 416), (10, 7, 10, 1, 1292), (10, 13, 10, 2, 1293), (10, 16, 10, 4, 1295), (10, 19, 10, 7, 1298), (10, 22, 10, 8, 1299), (10, 25, 10, 9, 1300), (10, 28, 10, 15, 1306), (10, 31, 10, 16, 1307), (10, 34, 10, 17, 1308), (10, 37, 10, 18, 1309), (10, 40, 10, 19, 1310), (10, 43, 10, 20, 1311), (10, 46, 10, 21, 1312), (10, 49, 10, 22, 1313), (10, 52, 10, 26, 1317), (10, 55, 10, 31, 1322), (10, 59, 10, 33, 1324), (10, 62, 10, 35, 1326), (10, 65, 10, 36, 1327), (10, 68, 10, 38, 1329), (10, 71, 10, 39, 1330), (10, 74, 10, 40, 1331), (10, 77, 10, 41, 1332), (10, 80, 10, 42, 1333), (10, 83, 10, 43, 1334), (10, 86, 10, 44, 1335), (10, 89, 10, 45, 1336), (10, 92, 10, 47, 1338), (10, 95, 10, 48, 1339), (10, 98, 10, 49, 1340), (10, 101, 10, 50, 1341), (10, 104, 10, 51, 1342), (10, 107, 10, 52, 1343), (10, 110, 10, 53, 1344), (10, 113, 10, 55, 1346), (10, 116, 10, 57, 1348), (10, 119, 10, 58, 1349), (10, 122, 10, 60, 1351), (10, 125, 10, 62, 1353), (10, 128, 10, 63, 1354), (10, 131, 10, 64, 1355), (10, 134, 10, 68, 1359), (10, 137, 10, 0, 1291), (10, 144, 10, 3, 1294), (10, 153, 10, 6, 1297), (10, 168, 10, 10, 1301), (10, 312, 10, 30, 1321), (10, 175, 10, 11, 1302), (10, 209, 10, 24, 1315), (10, 241, 10, 25, 1316), (10, 203, 10, 28, 1319), (10, 206, 10, 29, 1320), (10, 263, 10, 23, 1314), (10, 181, 10, 12, 1303), (10, 184, 10, 13, 1304), (10, 187, 10, 14, 1305), (10, 238, 10, 27, 1318), (10, 303, 10, 32, 1323), (10, 309, 10, 37, 1328), (10, 300, 10, 34, 1325), (10, 147, 10, 5, 1296), (10, 432, 10, 46, 1337), (10, 459, 10, 54, 1345), (10, 471, 10, 56, 1347), (10, 477, 10, 59, 1350), (10, 486, 10, 61, 1352), (10, 511, 10, 66, 1357), (10, 505, 10, 65, 1356), (10, 502, 10, 67, 1358)]
set_option maxRecDepth 100000 in
theorem tFp_ok : ∀ e ∈ tFp, lw_tbl[e.2.2.2.2]? = some (Cond.fieldLink (on e.1) e.2.1 (fT e.2.2.1 e.2.2.2.1).1 (fT e.2.2.1 e.2.2.2.1).2.1 (fT e.2.2.1 e.2.2.2.1).2.2.1) := by decide +kernel
set_option maxRecDepth 100000 in
theorem tFp_all : ∀ e ∈ tF, ((e.2.2.1 < 11 ∧ e.2.2.2 < cN e.2.2.1) ∨ (e.2.2.1 = 50 ∧ e.2.2.2 < 2)) ∧ e.2.2.2 < 128 ∧ ∃ q ∈ tFp, (q.1, q.2.1, (q.2.2.1, q.2.2.2.1)) = e := by decide +kernel
def tSp : List (Nat × Nat × Nat) := [(6, 65, 592), (6, 68, 594), (14, 38, 696), (14, 1053, 712)]
set_option maxRecDepth 100000 in
theorem tSp_ok : ∀ e ∈ tS, ∃ q ∈ tSp, q.1 = e.1 ∧ q.2.1 = e.2.1 ∧ lw_tbl[q.2.2]? = some (Cond.fieldLink (on e.1) e.2.1 e.2.2.1 e.2.2.2.1 e.2.2.2.2.1) := by decide +kernel
def tCp : List (Nat × Nat × Nat) := [(13, 7, 147), (13, 10, 1285), (0, 9, 155), (0, 19, 435), (0, 36, 438), (0, 43, 495), (1, 9, 161), (1, 20, 250), (1, 27, 291), (1, 37, 331), (4, 15, 337), (4, 33, 362), (7, 11, 368), (8, 1, 444), (8, 18, 472)]
set_option maxRecDepth 100000 in
theorem tCp_ok : ∀ e ∈ tC, ∃ q ∈ tCp, q.1 = e.1 ∧ q.2.1 = e.2.1 ∧ lw_tbl[q.2.2]? = some (Cond.classLink (on e.1) e.2.1 (if e.2.2 = 105 then "[[I" else on e.2.2)) := by decide +kernel
def tKp : List (Nat × Nat × Nat) := [(6, 75, 628), (6, 76, 629), (17, 265, 1235), (17, 266, 1236), (17, 267, 1237), (0, 358, 1284), (10, 151, 1755), (10, 152, 1756), (10, 416, 1861), (10, 492, 2010), (10, 520, 2047)]
set_option maxRecDepth 100000 in
theorem tKp_ok : ∀ e ∈ tK, ∃ q ∈ tKp, q.1 = e.1 ∧ q.2.1 = e.2.1 ∧ lw_tbl[q.2.2]? = some (Cond.constant (on e.1) e.2.1 (Int32.ofInt e.2.2)) := by decide +kernel
def tLp : List (Nat × Nat × Nat) := [(12, 41, 1003), (12, 47, 1008), (18, 314, 1000), (18, 316, 1001), (18, 318, 1002), (12, 49, 1007), (11, 19, 1020)]
set_option maxRecDepth 100000 in
theorem tLp_ok : ∀ e ∈ tL, ∃ q ∈ tLp, q.1 = e.1 ∧ q.2.1 = e.2.1 ∧ lw_tbl[q.2.2]? = some (Cond.constantLong (on e.1) e.2.1 (Int64.ofInt e.2.2)) := by decide +kernel
def tIp : List (Nat × Nat) := [(148, 125), (156, 126), (251, 128), (292, 129), (332, 130), (338, 131), (162, 127), (363, 133), (439, 134), (445, 135), (1286, 136)]
set_option maxRecDepth 100000 in
theorem tIp_ok : ∀ t, t < 11 → lw_tbl[(tIp.getD t (0, 0)).1]? = some (Cond.instantiable (on t) (cN t)) ∧ lw_tbl[(tIp.getD t (0, 0)).2]? = some (Cond.initialized (on t)) := by decide +kernel
def tYp : List (List Nat) := [[510, 512, 514, 516, 518, 520, 522, 524, 526, 528, 530, 532, 534], [420, 422, 424, 426, 428, 430, 432], [272, 274, 276, 278, 280, 282, 284, 286, 288], [316, 318, 320, 322, 324, 326, 328], [389, 391, 393, 395, 397, 399, 401, 403], [353, 355, 357, 359], [218, 220, 222, 224, 226, 228, 230, 232, 234, 236, 238, 240, 242, 244, 246], [371], [482, 484, 486, 488, 490, 492], [458, 460, 462, 464, 466, 468], [1360, 1362, 1364, 1366, 1368, 1370, 1372, 1374, 1376, 1378, 1380, 1382, 1384, 1386, 1388, 1390, 1392, 1394, 1396, 1398, 1400, 1402, 1404, 1406, 1408, 1410, 1412, 1414, 1416, 1418, 1420, 1422, 1424, 1426, 1428, 1430, 1432, 1434, 1436, 1438, 1440, 1442, 1444, 1446, 1448, 1450, 1452, 1454, 1456, 1458, 1460, 1462, 1464, 1466, 1468, 1470, 1472, 1474, 1476, 1478, 1480, 1482, 1484, 1486, 1488, 1490, 1492, 1494, 1496]]
set_option maxRecDepth 100000 in
theorem tYp_0 : ∀ k, k < 13 → lw_tbl[(tYp.getD 0 []).getD k 0]? = some (u_lay (on 0) (fT 0) k) := by decide +kernel
theorem lay_0 : ∀ w ∈ u_ws (on 0) (fT 0) 13, w ∈ lw_tbl := fun w hw => by
  obtain ⟨k, hk, rfl⟩ := List.mem_map.mp hw
  exact mem_at (tYp_0 k (List.mem_range.mp hk))
set_option maxRecDepth 100000 in
theorem nam_0 : ∀ a, a < 13 → ∀ b, b < 13 → a ≠ b → (fT 0 a).2.1 ≠ (fT 0 b).2.1 := by decide +kernel
set_option maxRecDepth 100000 in
theorem typ_0 : ∀ k, k < 13 → parseFieldDescriptor (fT 0 k).2.2.1 = some (fy 0 k) := by decide +kernel
set_option maxRecDepth 100000 in
theorem tYp_1 : ∀ k, k < 7 → lw_tbl[(tYp.getD 1 []).getD k 0]? = some (u_lay (on 1) (fT 1) k) := by decide +kernel
theorem lay_1 : ∀ w ∈ u_ws (on 1) (fT 1) 7, w ∈ lw_tbl := fun w hw => by
  obtain ⟨k, hk, rfl⟩ := List.mem_map.mp hw
  exact mem_at (tYp_1 k (List.mem_range.mp hk))
set_option maxRecDepth 100000 in
theorem nam_1 : ∀ a, a < 7 → ∀ b, b < 7 → a ≠ b → (fT 1 a).2.1 ≠ (fT 1 b).2.1 := by decide +kernel
set_option maxRecDepth 100000 in
theorem typ_1 : ∀ k, k < 7 → parseFieldDescriptor (fT 1 k).2.2.1 = some (fy 1 k) := by decide +kernel
set_option maxRecDepth 100000 in
theorem tYp_2 : ∀ k, k < 9 → lw_tbl[(tYp.getD 2 []).getD k 0]? = some (u_lay (on 2) (fT 2) k) := by decide +kernel
theorem lay_2 : ∀ w ∈ u_ws (on 2) (fT 2) 9, w ∈ lw_tbl := fun w hw => by
  obtain ⟨k, hk, rfl⟩ := List.mem_map.mp hw
  exact mem_at (tYp_2 k (List.mem_range.mp hk))
set_option maxRecDepth 100000 in
theorem nam_2 : ∀ a, a < 9 → ∀ b, b < 9 → a ≠ b → (fT 2 a).2.1 ≠ (fT 2 b).2.1 := by decide +kernel
set_option maxRecDepth 100000 in
theorem typ_2 : ∀ k, k < 9 → parseFieldDescriptor (fT 2 k).2.2.1 = some (fy 2 k) := by decide +kernel
set_option maxRecDepth 100000 in
theorem tYp_3 : ∀ k, k < 7 → lw_tbl[(tYp.getD 3 []).getD k 0]? = some (u_lay (on 3) (fT 3) k) := by decide +kernel
theorem lay_3 : ∀ w ∈ u_ws (on 3) (fT 3) 7, w ∈ lw_tbl := fun w hw => by
  obtain ⟨k, hk, rfl⟩ := List.mem_map.mp hw
  exact mem_at (tYp_3 k (List.mem_range.mp hk))
set_option maxRecDepth 100000 in
theorem nam_3 : ∀ a, a < 7 → ∀ b, b < 7 → a ≠ b → (fT 3 a).2.1 ≠ (fT 3 b).2.1 := by decide +kernel
set_option maxRecDepth 100000 in
theorem typ_3 : ∀ k, k < 7 → parseFieldDescriptor (fT 3 k).2.2.1 = some (fy 3 k) := by decide +kernel
set_option maxRecDepth 100000 in
theorem tYp_4 : ∀ k, k < 8 → lw_tbl[(tYp.getD 4 []).getD k 0]? = some (u_lay (on 4) (fT 4) k) := by decide +kernel
theorem lay_4 : ∀ w ∈ u_ws (on 4) (fT 4) 8, w ∈ lw_tbl := fun w hw => by
  obtain ⟨k, hk, rfl⟩ := List.mem_map.mp hw
  exact mem_at (tYp_4 k (List.mem_range.mp hk))
set_option maxRecDepth 100000 in
theorem nam_4 : ∀ a, a < 8 → ∀ b, b < 8 → a ≠ b → (fT 4 a).2.1 ≠ (fT 4 b).2.1 := by decide +kernel
set_option maxRecDepth 100000 in
theorem typ_4 : ∀ k, k < 8 → parseFieldDescriptor (fT 4 k).2.2.1 = some (fy 4 k) := by decide +kernel
set_option maxRecDepth 100000 in
theorem tYp_5 : ∀ k, k < 4 → lw_tbl[(tYp.getD 5 []).getD k 0]? = some (u_lay (on 5) (fT 5) k) := by decide +kernel
theorem lay_5 : ∀ w ∈ u_ws (on 5) (fT 5) 4, w ∈ lw_tbl := fun w hw => by
  obtain ⟨k, hk, rfl⟩ := List.mem_map.mp hw
  exact mem_at (tYp_5 k (List.mem_range.mp hk))
set_option maxRecDepth 100000 in
theorem nam_5 : ∀ a, a < 4 → ∀ b, b < 4 → a ≠ b → (fT 5 a).2.1 ≠ (fT 5 b).2.1 := by decide +kernel
set_option maxRecDepth 100000 in
theorem typ_5 : ∀ k, k < 4 → parseFieldDescriptor (fT 5 k).2.2.1 = some (fy 5 k) := by decide +kernel
set_option maxRecDepth 100000 in
theorem tYp_6 : ∀ k, k < 15 → lw_tbl[(tYp.getD 6 []).getD k 0]? = some (u_lay (on 6) (fT 6) k) := by decide +kernel
theorem lay_6 : ∀ w ∈ u_ws (on 6) (fT 6) 15, w ∈ lw_tbl := fun w hw => by
  obtain ⟨k, hk, rfl⟩ := List.mem_map.mp hw
  exact mem_at (tYp_6 k (List.mem_range.mp hk))
set_option maxRecDepth 100000 in
theorem nam_6 : ∀ a, a < 15 → ∀ b, b < 15 → a ≠ b → (fT 6 a).2.1 ≠ (fT 6 b).2.1 := by decide +kernel
set_option maxRecDepth 100000 in
theorem typ_6 : ∀ k, k < 15 → parseFieldDescriptor (fT 6 k).2.2.1 = some (fy 6 k) := by decide +kernel
set_option maxRecDepth 100000 in
theorem tYp_7 : ∀ k, k < 1 → lw_tbl[(tYp.getD 7 []).getD k 0]? = some (u_lay (on 7) (fT 7) k) := by decide +kernel
theorem lay_7 : ∀ w ∈ u_ws (on 7) (fT 7) 1, w ∈ lw_tbl := fun w hw => by
  obtain ⟨k, hk, rfl⟩ := List.mem_map.mp hw
  exact mem_at (tYp_7 k (List.mem_range.mp hk))
set_option maxRecDepth 100000 in
theorem nam_7 : ∀ a, a < 1 → ∀ b, b < 1 → a ≠ b → (fT 7 a).2.1 ≠ (fT 7 b).2.1 := by decide +kernel
set_option maxRecDepth 100000 in
theorem typ_7 : ∀ k, k < 1 → parseFieldDescriptor (fT 7 k).2.2.1 = some (fy 7 k) := by decide +kernel
set_option maxRecDepth 100000 in
theorem tYp_8 : ∀ k, k < 6 → lw_tbl[(tYp.getD 8 []).getD k 0]? = some (u_lay (on 8) (fT 8) k) := by decide +kernel
theorem lay_8 : ∀ w ∈ u_ws (on 8) (fT 8) 6, w ∈ lw_tbl := fun w hw => by
  obtain ⟨k, hk, rfl⟩ := List.mem_map.mp hw
  exact mem_at (tYp_8 k (List.mem_range.mp hk))
set_option maxRecDepth 100000 in
theorem nam_8 : ∀ a, a < 6 → ∀ b, b < 6 → a ≠ b → (fT 8 a).2.1 ≠ (fT 8 b).2.1 := by decide +kernel
set_option maxRecDepth 100000 in
theorem typ_8 : ∀ k, k < 6 → parseFieldDescriptor (fT 8 k).2.2.1 = some (fy 8 k) := by decide +kernel
set_option maxRecDepth 100000 in
theorem tYp_9 : ∀ k, k < 6 → lw_tbl[(tYp.getD 9 []).getD k 0]? = some (u_lay (on 9) (fT 9) k) := by decide +kernel
theorem lay_9 : ∀ w ∈ u_ws (on 9) (fT 9) 6, w ∈ lw_tbl := fun w hw => by
  obtain ⟨k, hk, rfl⟩ := List.mem_map.mp hw
  exact mem_at (tYp_9 k (List.mem_range.mp hk))
set_option maxRecDepth 100000 in
theorem nam_9 : ∀ a, a < 6 → ∀ b, b < 6 → a ≠ b → (fT 9 a).2.1 ≠ (fT 9 b).2.1 := by decide +kernel
set_option maxRecDepth 100000 in
theorem typ_9 : ∀ k, k < 6 → parseFieldDescriptor (fT 9 k).2.2.1 = some (fy 9 k) := by decide +kernel
set_option maxRecDepth 100000 in
theorem tYp_10 : ∀ k, k < 69 → lw_tbl[(tYp.getD 10 []).getD k 0]? = some (u_lay (on 10) (fT 10) k) := by decide +kernel
theorem lay_10 : ∀ w ∈ u_ws (on 10) (fT 10) 69, w ∈ lw_tbl := fun w hw => by
  obtain ⟨k, hk, rfl⟩ := List.mem_map.mp hw
  exact mem_at (tYp_10 k (List.mem_range.mp hk))
set_option maxRecDepth 100000 in
theorem nam_10 : ∀ a, a < 69 → ∀ b, b < 69 → a ≠ b → (fT 10 a).2.1 ≠ (fT 10 b).2.1 := by decide +kernel
set_option maxRecDepth 100000 in
theorem typ_10 : ∀ k, k < 69 → parseFieldDescriptor (fT 10 k).2.2.1 = some (fy 10 k) := by decide +kernel
theorem lay_t : ∀ t, t < 11 → ∀ w ∈ u_ws (on t) (fT t) (cN t), w ∈ lw_tbl := by
  intro t ht
  match t, ht with
  | 0, _ => exact lay_0
  | 1, _ => exact lay_1
  | 2, _ => exact lay_2
  | 3, _ => exact lay_3
  | 4, _ => exact lay_4
  | 5, _ => exact lay_5
  | 6, _ => exact lay_6
  | 7, _ => exact lay_7
  | 8, _ => exact lay_8
  | 9, _ => exact lay_9
  | 10, _ => exact lay_10
  | n + 11, h => exact absurd h (by omega)
theorem nam_t : ∀ t, t < 11 → ∀ a, a < cN t → ∀ b, b < cN t → a ≠ b → (fT t a).2.1 ≠ (fT t b).2.1 := by
  intro t ht
  match t, ht with
  | 0, _ => exact nam_0
  | 1, _ => exact nam_1
  | 2, _ => exact nam_2
  | 3, _ => exact nam_3
  | 4, _ => exact nam_4
  | 5, _ => exact nam_5
  | 6, _ => exact nam_6
  | 7, _ => exact nam_7
  | 8, _ => exact nam_8
  | 9, _ => exact nam_9
  | 10, _ => exact nam_10
  | n + 11, h => exact absurd h (by omega)
theorem typ_t : ∀ t, t < 11 → ∀ k, k < cN t → parseFieldDescriptor (fT t k).2.2.1 = some (fy t k) := by
  intro t ht
  match t, ht with
  | 0, _ => exact typ_0
  | 1, _ => exact typ_1
  | 2, _ => exact typ_2
  | 3, _ => exact typ_3
  | 4, _ => exact typ_4
  | 5, _ => exact typ_5
  | 6, _ => exact typ_6
  | 7, _ => exact typ_7
  | 8, _ => exact typ_8
  | 9, _ => exact typ_9
  | 10, _ => exact typ_10
  | n + 11, h => exact absurd h (by omega)
theorem cls_t : ∀ t, t < 11 → clsL[t]? = some (on t, fT t, cN t) := by
  intro t ht
  match t, ht with
  | 0, _ => rfl
  | 1, _ => rfl
  | 2, _ => rfl
  | 3, _ => rfl
  | 4, _ => rfl
  | 5, _ => rfl
  | 6, _ => rfl
  | 7, _ => rfl
  | 8, _ => rfl
  | 9, _ => rfl
  | 10, _ => rfl
  | n + 11, h => exact absurd h (by omega)
