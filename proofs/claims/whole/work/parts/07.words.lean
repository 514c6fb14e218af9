/-! ===== what the tables say, by the places of the words (printed by wip/gen/out7.py) ===== -/
theorem mem_at {α : Type} {l : List α} {i : Nat} {x : α} (h : l[i]? = some x) : x ∈ l := List.mem_of_getElem? h
/-- the words, by a thousand times the list's number and the place in it; list 0: selects of private methods -/
def wd (p : Nat) : Option Cond := match p / 1000 with
  | 0 => (lw_privs[p % 1000]?).map fun q => Cond.selects q.1.cls q.1 q.1
  | 1 => tables_1_1[p % 1000]?
  | 2 => tables_1_2[p % 1000]?
  | 3 => tables_1_3[p % 1000]?
  | 4 => tables_1_4[p % 1000]?
  | 5 => tables_1_5[p % 1000]?
  | 6 => tables_1_6[p % 1000]?
  | 7 => tables_1_7[p % 1000]?
  | 8 => tables_1_8[p % 1000]?
  | 9 => tables_1_9[p % 1000]?
  | _ => none
theorem wd_mem {p : Nat} {w : Cond} (h : wd p = some w) : w ∈ lw_tbl := by
  unfold wd at h
  unfold lw_tbl tables_1
  split at h
  · obtain ⟨q, hq, rfl⟩ := Option.map_eq_some_iff.mp h
    exact List.mem_append_left _ (List.mem_map.mpr ⟨q, List.mem_of_getElem? hq, rfl⟩)
  all_goals first
    | exact absurd h (by simp)
    | (have := List.mem_of_getElem? h; simp only [List.mem_append]; simp [this])
def tFp : List (Nat × Nat × Nat × Nat × Nat) := [(0, 12, 0, 0, 2133), (0, 16, 0, 1, 2134), (0, 24, 0, 3, 2136), (0, 28, 0, 4, 2137), (0, 32, 0, 7, 2140), (0, 39, 0, 9, 2142), (0, 46, 0, 10, 2143), (0, 50, 0, 12, 2145), (1, 14, 1, 0, 2042), (1, 23, 1, 1, 2044), (1, 30, 1, 2, 2046), (1, 34, 1, 3, 2048), (1, 40, 1, 4, 2050), (1, 44, 1, 6, 2054), (6, 9, 6, 1, 1045), (6, 15, 6, 2, 1048), (6, 18, 6, 3, 1052), (6, 21, 6, 4, 1056), (6, 24, 6, 5, 1059), (6, 27, 6, 6, 1063), (6, 30, 6, 7, 1067), (6, 33, 6, 8, 1071), (6, 36, 6, 0, 1043), (2, 9, 2, 0, 1132), (2, 15, 2, 1, 1133), (2, 18, 2, 2, 1135), (2, 21, 2, 3, 1137), (2, 24, 2, 4, 1139), (2, 27, 2, 7, 1146), (2, 30, 2, 8, 1147), (3, 11, 3, 0, 1173), (3, 17, 3, 1, 1175), (3, 20, 3, 2, 1177), (3, 23, 3, 3, 1180), (3, 26, 3, 4, 1183), (3, 29, 3, 5, 1186), (4, 9, 4, 0, 2010), (4, 20, 4, 1, 2012), (4, 24, 4, 2, 2014), (4, 27, 4, 3, 2016), (4, 30, 4, 4, 2018), (4, 36, 4, 5, 2020), (5, 15, 5, 0, 1222), (5, 21, 5, 1, 1224), (5, 25, 5, 2, 1225), (7, 13, 7, 0, 2006), (8, 12, 8, 0, 2110), (8, 21, 8, 1, 2112), (8, 25, 8, 2, 2114), (9, 11, 9, 0, 2086), (9, 15, 9, 1, 2087), (0, 54, 1, 0, 2043), (0, 57, 6, 13, 1089), (0, 326, 0, 5, 2138), (0, 71, 6, 9, 1076), (0, 74, 6, 4, 1057), (0, 78, 6, 5, 1060), (0, 81, 6, 6, 1064), (0, 84, 6, 7, 1068), (0, 87, 6, 8, 1072), (0, 94, 6, 10, 1080), (0, 329, 0, 6, 2139), (6, 46, 6, 9, 1074), (6, 50, 6, 10, 1078), (6, 53, 6, 11, 1082), (6, 56, 6, 12, 1085), (6, 59, 6, 13, 1090), (6, 62, 6, 14, 1091), (1, 131, 6, 5, 1062), (1, 71, 6, 0, 1044), (2, 43, 2, 5, 1141), (2, 61, 6, 4, 1058), (2, 66, 6, 6, 1065), (2, 69, 6, 1, 1046), (2, 72, 6, 2, 1049), (2, 75, 6, 3, 1053), (2, 78, 6, 7, 1069), (2, 81, 6, 10, 1081), (2, 92, 6, 12, 1087), (2, 33, 2, 6, 1144), (1, 153, 6, 8, 1073), (1, 156, 6, 3, 1054), (1, 159, 6, 2, 1050), (1, 103, 6, 11, 1083), (1, 162, 6, 7, 1070), (1, 97, 6, 10, 1079), (1, 75, 6, 14, 1092), (1, 78, 6, 12, 1086), (0, 107, 6, 12, 1088), (1, 81, 3, 6, 1189), (1, 84, 3, 0, 1174), (1, 87, 3, 1, 1176), (1, 90, 6, 9, 1077), (1, 100, 3, 3, 1181), (1, 106, 3, 4, 1184), (1, 113, 3, 2, 1178), (1, 119, 6, 6, 1066), (0, 114, 0, 8, 2141), (0, 121, 0, 11, 2144), (0, 124, 8, 0, 2111), (0, 144, 9, 4, 2091), (0, 147, 9, 5, 2093), (9, 18, 9, 2, 2088), (9, 22, 9, 3, 2089), (9, 25, 9, 4, 2090), (9, 28, 9, 5, 2092), (14, 9, 50, 0, 9005), (14, 15, 50, 1, 9006), (8, 29, 2, 5, 1142), (8, 33, 2, 6, 1145), (8, 60, 2, 1, 1134), (8, 63, 2, 2, 1136), (8, 69, 2, 3, 1138), (8, 75, 2, 4, 1140), (8, 94, 8, 3, 2115), (8, 97, 8, 4, 2116), (8, 100, 8, 5, 2117), (3, 38, 3, 6, 1188), (0, 339, 1, 1, 2045), (0, 359, 8, 1, 2113), (0, 343, 2, 5, 1143), (0, 348, 1, 2, 2047), (0, 355, 1, 3, 2049), (0, 351, 3, 6, 1191), (0, 352, 1, 5, 2053), (6, 83, 3, 6, 1190), (6, 88, 3, 4, 1185), (6, 91, 3, 3, 1182), (6, 94, 3, 2, 1179), (6, 97, 3, 5, 1187), (0, 154, 6, 1, 1047), (0, 157, 6, 2, 1051), (0, 160, 6, 3, 1055), (0, 173, 6, 14, 1093), (0, 176, 1, 6, 2055), (0, 187, 6, 11, 1084), (12, 15, 6, 9, 1075), (12, 27, 6, 5, 1061), (0, 205, 1, 4, 2051), (0, 209, 4, 0, 2011), (0, 220, 4, 1, 2013), (5, 28, 5, 3, 1226), (11, 26, 5, 3, 1227), (11, 50, 5, 0, 1223), (0, 238, 4, 5, 2021), (0, 263, 4, 2, 2015), (0, 276, 5, 3, 1228), (0, 282, 4, 3, 2017), (4, 53, 4, 6, 2022), (4, 57, 4, 7, 2023), (0, 296, 4, 7, 2024), (0, 311, 4, 4, 2019), (0, 335, 0, 2, 2135), (1, 61, 1, 5, 2052), (10, 7, 10, 1, 5209), (10, 13, 10, 2, 5210), (10, 16, 10, 4, 5212), (10, 19, 10, 7, 5215), (10, 22, 10, 8, 5216), (10, 25, 10, 9, 5217), (10, 28, 10, 15, 5223), (10, 31, 10, 16, 5224), (10, 34, 10, 17, 5225), (10, 37, 10, 18, 5226), (10, 40, 10, 19, 5227), (10, 43, 10, 20, 5228), (10, 46, 10, 21, 5229), (10, 49, 10, 22, 5230), (10, 52, 10, 26, 5234), (10, 55, 10, 31, 5239), (10, 59, 10, 33, 6001), (10, 62, 10, 35, 6003), (10, 65, 10, 36, 6004), (10, 68, 10, 38, 6006), (10, 71, 10, 39, 6007), (10, 74, 10, 40, 6008), (10, 77, 10, 41, 6009), (10, 80, 10, 42, 6010), (10, 83, 10, 43, 6011), (10, 86, 10, 44, 6012), (10, 89, 10, 45, 6013), (10, 92, 10, 47, 6015), (10, 95, 10, 48, 6016), (10, 98, 10, 49, 6017), (10, 101, 10, 50, 6018), (10, 104, 10, 51, 6019), (10, 107, 10, 52, 6020), (10, 110, 10, 53, 6021), (10, 113, 10, 55, 6023), (10, 116, 10, 57, 6025), (10, 119, 10, 58, 6026), (10, 122, 10, 60, 6028), (10, 125, 10, 62, 6030), (10, 128, 10, 63, 6031), (10, 131, 10, 64, 6032), (10, 134, 10, 68, 6036), (10, 137, 10, 0, 5208), (10, 144, 10, 3, 5211), (10, 153, 10, 6, 5214), (10, 168, 10, 10, 5218), (10, 312, 10, 30, 5238), (10, 175, 10, 11, 5219), (10, 209, 10, 24, 5232), (10, 241, 10, 25, 5233), (10, 203, 10, 28, 5236), (10, 206, 10, 29, 5237), (10, 263, 10, 23, 5231), (10, 181, 10, 12, 5220), (10, 184, 10, 13, 5221), (10, 187, 10, 14, 5222), (10, 238, 10, 27, 5235), (10, 303, 10, 32, 6000), (10, 309, 10, 37, 6005), (10, 300, 10, 34, 6002), (10, 147, 10, 5, 5213), (10, 432, 10, 46, 6014), (10, 459, 10, 54, 6022), (10, 471, 10, 56, 6024), (10, 477, 10, 59, 6027), (10, 486, 10, 61, 6029), (10, 511, 10, 66, 6034), (10, 505, 10, 65, 6033), (10, 502, 10, 67, 6035)]
set_option maxRecDepth 100000 in
theorem tFp_ok : ∀ e ∈ tFp, wd e.2.2.2.2 = some (Cond.fieldLink (on e.1) e.2.1 (fT e.2.2.1 e.2.2.2.1).1 (fT e.2.2.1 e.2.2.2.1).2.1 (fT e.2.2.1 e.2.2.2.1).2.2.1) := by decide +kernel
set_option maxRecDepth 100000 in
theorem tFp_all : ∀ e ∈ tF, ((e.2.2.1 < 11 ∧ e.2.2.2 < cN e.2.2.1) ∨ (e.2.2.1 = 50 ∧ e.2.2.2 < 2)) ∧ e.2.2.2 < 128 ∧ ∃ q ∈ tFp, (q.1, q.2.1, (q.2.2.1, q.2.2.2.1)) = e := by decide +kernel
def tSp : List (Nat × Nat × Nat) := [(6, 65, 2228), (6, 68, 2230), (14, 38, 3092), (14, 1053, 3108)]
set_option maxRecDepth 100000 in
theorem tSp_ok : ∀ e ∈ tS, ∃ q ∈ tSp, q.1 = e.1 ∧ q.2.1 = e.2.1 ∧ wd q.2.2 = some (Cond.fieldLink (on e.1) e.2.1 e.2.2.1 e.2.2.2.1 e.2.2.2.2.1) := by decide +kernel
def tCp : List (Nat × Nat × Nat) := [(13, 7, 1023), (13, 10, 5202), (0, 9, 1031), (0, 19, 2071), (0, 36, 2074), (0, 43, 2131), (1, 9, 1037), (1, 20, 1126), (1, 27, 1167), (1, 37, 1207), (4, 15, 1213), (4, 33, 1238), (7, 11, 2004), (8, 1, 2080), (8, 18, 2108)]
set_option maxRecDepth 100000 in
theorem tCp_ok : ∀ e ∈ tC, ∃ q ∈ tCp, q.1 = e.1 ∧ q.2.1 = e.2.1 ∧ wd q.2.2 = some (Cond.classLink (on e.1) e.2.1 (if e.2.2 = 105 then "[[I" else on e.2.2)) := by decide +kernel
def tKp : List (Nat × Nat × Nat) := [(6, 75, 3024), (6, 76, 3025), (17, 265, 5152), (17, 266, 5153), (17, 267, 5154), (0, 358, 5201), (10, 151, 7192), (10, 152, 7193), (10, 416, 8058), (10, 492, 8207), (10, 520, 9004)]
set_option maxRecDepth 100000 in
theorem tKp_ok : ∀ e ∈ tK, ∃ q ∈ tKp, q.1 = e.1 ∧ q.2.1 = e.2.1 ∧ wd q.2.2 = some (Cond.constant (on e.1) e.2.1 (Int32.ofInt e.2.2)) := by decide +kernel
def tLp : List (Nat × Nat × Nat) := [(12, 41, 4160), (12, 47, 4165), (18, 314, 4157), (18, 316, 4158), (18, 318, 4159), (12, 49, 4164), (11, 19, 4177)]
set_option maxRecDepth 100000 in
theorem tLp_ok : ∀ e ∈ tL, ∃ q ∈ tLp, q.1 = e.1 ∧ q.2.1 = e.2.1 ∧ wd q.2.2 = some (Cond.constantLong (on e.1) e.2.1 (Int64.ofInt e.2.2)) := by decide +kernel
def tIp : List (Nat × Nat) := [(1024, 1001), (1032, 1002), (1127, 1004), (1168, 1005), (1208, 1006), (1214, 1007), (1038, 1003), (1239, 1009), (2075, 1010), (2081, 1011), (5203, 1012)]
set_option maxRecDepth 100000 in
theorem tIp_ok : ∀ t, t < 11 → wd (tIp.getD t (0, 0)).1 = some (Cond.instantiable (on t) (cN t)) ∧ wd (tIp.getD t (0, 0)).2 = some (Cond.initialized (on t)) := by decide +kernel
def tYp : List (List Nat) := [[2146, 2148, 2150, 2152, 2154, 2156, 2158, 2160, 2162, 2164, 2166, 2168, 2170], [2056, 2058, 2060, 2062, 2064, 2066, 2068], [1148, 1150, 1152, 1154, 1156, 1158, 1160, 1162, 1164], [1192, 1194, 1196, 1198, 1200, 1202, 1204], [2025, 2027, 2029, 2031, 2033, 2035, 2037, 2039], [1229, 1231, 1233, 1235], [1094, 1096, 1098, 1100, 1102, 1104, 1106, 1108, 1110, 1112, 1114, 1116, 1118, 1120, 1122], [2007], [2118, 2120, 2122, 2124, 2126, 2128], [2094, 2096, 2098, 2100, 2102, 2104], [6037, 6039, 6041, 6043, 6045, 6047, 6049, 6051, 6053, 6055, 6057, 6059, 6061, 6063, 6065, 6067, 6069, 6071, 6073, 6075, 6077, 6079, 6081, 6083, 6085, 6087, 6089, 6091, 6093, 6095, 6097, 6099, 6101, 6103, 6105, 6107, 6109, 6111, 6113, 6115, 6117, 6119, 6121, 6123, 6125, 6127, 6129, 6131, 6133, 6135, 6137, 6139, 6141, 6143, 6145, 6147, 6149, 6151, 6153, 6155, 6157, 6159, 6161, 6163, 6165, 6167, 6169, 6171, 6173]]
set_option maxRecDepth 100000 in
theorem tYp_0 : ∀ k, k < 13 → wd ((tYp.getD 0 []).getD k 0) = some (u_lay (on 0) (fT 0) k) := by decide +kernel
theorem lay_0 : ∀ w ∈ u_ws (on 0) (fT 0) 13, w ∈ lw_tbl := fun w hw => by
  obtain ⟨k, hk, rfl⟩ := List.mem_map.mp hw
  exact wd_mem (tYp_0 k (List.mem_range.mp hk))
set_option maxRecDepth 100000 in
theorem nam_0 : ∀ a, a < 13 → ∀ b, b < 13 → a ≠ b → (fT 0 a).2.1 ≠ (fT 0 b).2.1 := by decide +kernel
set_option maxRecDepth 100000 in
theorem typ_0 : ∀ k, k < 13 → parseFieldDescriptor (fT 0 k).2.2.1 = some (fy 0 k) := by decide +kernel
set_option maxRecDepth 100000 in
theorem tYp_1 : ∀ k, k < 7 → wd ((tYp.getD 1 []).getD k 0) = some (u_lay (on 1) (fT 1) k) := by decide +kernel
theorem lay_1 : ∀ w ∈ u_ws (on 1) (fT 1) 7, w ∈ lw_tbl := fun w hw => by
  obtain ⟨k, hk, rfl⟩ := List.mem_map.mp hw
  exact wd_mem (tYp_1 k (List.mem_range.mp hk))
set_option maxRecDepth 100000 in
theorem nam_1 : ∀ a, a < 7 → ∀ b, b < 7 → a ≠ b → (fT 1 a).2.1 ≠ (fT 1 b).2.1 := by decide +kernel
set_option maxRecDepth 100000 in
theorem typ_1 : ∀ k, k < 7 → parseFieldDescriptor (fT 1 k).2.2.1 = some (fy 1 k) := by decide +kernel
set_option maxRecDepth 100000 in
theorem tYp_2 : ∀ k, k < 9 → wd ((tYp.getD 2 []).getD k 0) = some (u_lay (on 2) (fT 2) k) := by decide +kernel
theorem lay_2 : ∀ w ∈ u_ws (on 2) (fT 2) 9, w ∈ lw_tbl := fun w hw => by
  obtain ⟨k, hk, rfl⟩ := List.mem_map.mp hw
  exact wd_mem (tYp_2 k (List.mem_range.mp hk))
set_option maxRecDepth 100000 in
theorem nam_2 : ∀ a, a < 9 → ∀ b, b < 9 → a ≠ b → (fT 2 a).2.1 ≠ (fT 2 b).2.1 := by decide +kernel
set_option maxRecDepth 100000 in
theorem typ_2 : ∀ k, k < 9 → parseFieldDescriptor (fT 2 k).2.2.1 = some (fy 2 k) := by decide +kernel
set_option maxRecDepth 100000 in
theorem tYp_3 : ∀ k, k < 7 → wd ((tYp.getD 3 []).getD k 0) = some (u_lay (on 3) (fT 3) k) := by decide +kernel
theorem lay_3 : ∀ w ∈ u_ws (on 3) (fT 3) 7, w ∈ lw_tbl := fun w hw => by
  obtain ⟨k, hk, rfl⟩ := List.mem_map.mp hw
  exact wd_mem (tYp_3 k (List.mem_range.mp hk))
set_option maxRecDepth 100000 in
theorem nam_3 : ∀ a, a < 7 → ∀ b, b < 7 → a ≠ b → (fT 3 a).2.1 ≠ (fT 3 b).2.1 := by decide +kernel
set_option maxRecDepth 100000 in
theorem typ_3 : ∀ k, k < 7 → parseFieldDescriptor (fT 3 k).2.2.1 = some (fy 3 k) := by decide +kernel
set_option maxRecDepth 100000 in
theorem tYp_4 : ∀ k, k < 8 → wd ((tYp.getD 4 []).getD k 0) = some (u_lay (on 4) (fT 4) k) := by decide +kernel
theorem lay_4 : ∀ w ∈ u_ws (on 4) (fT 4) 8, w ∈ lw_tbl := fun w hw => by
  obtain ⟨k, hk, rfl⟩ := List.mem_map.mp hw
  exact wd_mem (tYp_4 k (List.mem_range.mp hk))
set_option maxRecDepth 100000 in
theorem nam_4 : ∀ a, a < 8 → ∀ b, b < 8 → a ≠ b → (fT 4 a).2.1 ≠ (fT 4 b).2.1 := by decide +kernel
set_option maxRecDepth 100000 in
theorem typ_4 : ∀ k, k < 8 → parseFieldDescriptor (fT 4 k).2.2.1 = some (fy 4 k) := by decide +kernel
set_option maxRecDepth 100000 in
theorem tYp_5 : ∀ k, k < 4 → wd ((tYp.getD 5 []).getD k 0) = some (u_lay (on 5) (fT 5) k) := by decide +kernel
theorem lay_5 : ∀ w ∈ u_ws (on 5) (fT 5) 4, w ∈ lw_tbl := fun w hw => by
  obtain ⟨k, hk, rfl⟩ := List.mem_map.mp hw
  exact wd_mem (tYp_5 k (List.mem_range.mp hk))
set_option maxRecDepth 100000 in
theorem nam_5 : ∀ a, a < 4 → ∀ b, b < 4 → a ≠ b → (fT 5 a).2.1 ≠ (fT 5 b).2.1 := by decide +kernel
set_option maxRecDepth 100000 in
theorem typ_5 : ∀ k, k < 4 → parseFieldDescriptor (fT 5 k).2.2.1 = some (fy 5 k) := by decide +kernel
set_option maxRecDepth 100000 in
theorem tYp_6 : ∀ k, k < 15 → wd ((tYp.getD 6 []).getD k 0) = some (u_lay (on 6) (fT 6) k) := by decide +kernel
theorem lay_6 : ∀ w ∈ u_ws (on 6) (fT 6) 15, w ∈ lw_tbl := fun w hw => by
  obtain ⟨k, hk, rfl⟩ := List.mem_map.mp hw
  exact wd_mem (tYp_6 k (List.mem_range.mp hk))
set_option maxRecDepth 100000 in
theorem nam_6 : ∀ a, a < 15 → ∀ b, b < 15 → a ≠ b → (fT 6 a).2.1 ≠ (fT 6 b).2.1 := by decide +kernel
set_option maxRecDepth 100000 in
theorem typ_6 : ∀ k, k < 15 → parseFieldDescriptor (fT 6 k).2.2.1 = some (fy 6 k) := by decide +kernel
set_option maxRecDepth 100000 in
theorem tYp_7 : ∀ k, k < 1 → wd ((tYp.getD 7 []).getD k 0) = some (u_lay (on 7) (fT 7) k) := by decide +kernel
theorem lay_7 : ∀ w ∈ u_ws (on 7) (fT 7) 1, w ∈ lw_tbl := fun w hw => by
  obtain ⟨k, hk, rfl⟩ := List.mem_map.mp hw
  exact wd_mem (tYp_7 k (List.mem_range.mp hk))
set_option maxRecDepth 100000 in
theorem nam_7 : ∀ a, a < 1 → ∀ b, b < 1 → a ≠ b → (fT 7 a).2.1 ≠ (fT 7 b).2.1 := by decide +kernel
set_option maxRecDepth 100000 in
theorem typ_7 : ∀ k, k < 1 → parseFieldDescriptor (fT 7 k).2.2.1 = some (fy 7 k) := by decide +kernel
set_option maxRecDepth 100000 in
theorem tYp_8 : ∀ k, k < 6 → wd ((tYp.getD 8 []).getD k 0) = some (u_lay (on 8) (fT 8) k) := by decide +kernel
theorem lay_8 : ∀ w ∈ u_ws (on 8) (fT 8) 6, w ∈ lw_tbl := fun w hw => by
  obtain ⟨k, hk, rfl⟩ := List.mem_map.mp hw
  exact wd_mem (tYp_8 k (List.mem_range.mp hk))
set_option maxRecDepth 100000 in
theorem nam_8 : ∀ a, a < 6 → ∀ b, b < 6 → a ≠ b → (fT 8 a).2.1 ≠ (fT 8 b).2.1 := by decide +kernel
set_option maxRecDepth 100000 in
theorem typ_8 : ∀ k, k < 6 → parseFieldDescriptor (fT 8 k).2.2.1 = some (fy 8 k) := by decide +kernel
set_option maxRecDepth 100000 in
theorem tYp_9 : ∀ k, k < 6 → wd ((tYp.getD 9 []).getD k 0) = some (u_lay (on 9) (fT 9) k) := by decide +kernel
theorem lay_9 : ∀ w ∈ u_ws (on 9) (fT 9) 6, w ∈ lw_tbl := fun w hw => by
  obtain ⟨k, hk, rfl⟩ := List.mem_map.mp hw
  exact wd_mem (tYp_9 k (List.mem_range.mp hk))
set_option maxRecDepth 100000 in
theorem nam_9 : ∀ a, a < 6 → ∀ b, b < 6 → a ≠ b → (fT 9 a).2.1 ≠ (fT 9 b).2.1 := by decide +kernel
set_option maxRecDepth 100000 in
theorem typ_9 : ∀ k, k < 6 → parseFieldDescriptor (fT 9 k).2.2.1 = some (fy 9 k) := by decide +kernel
set_option maxRecDepth 100000 in
theorem tYp_10 : ∀ k, k < 69 → wd ((tYp.getD 10 []).getD k 0) = some (u_lay (on 10) (fT 10) k) := by decide +kernel
theorem lay_10 : ∀ w ∈ u_ws (on 10) (fT 10) 69, w ∈ lw_tbl := fun w hw => by
  obtain ⟨k, hk, rfl⟩ := List.mem_map.mp hw
  exact wd_mem (tYp_10 k (List.mem_range.mp hk))
set_option maxRecDepth 100000 in
theorem nam_10 : ∀ a, a < 69 → ∀ b, b < 69 → a ≠ b → (fT 10 a).2.1 ≠ (fT 10 b).2.1 := by decide +kernel
set_option maxRecDepth 100000 in
theorem typ_10 : ∀ k, k < 69 → parseFieldDescriptor (fT 10 k).2.2.1 = some (fy 10 k) := by decide +kernel
theorem lay_t : ∀ t, t < 11 → ∀ w ∈ u_ws (on t) (fT t) (cN t), w ∈ lw_tbl := by
  intro t ht
  match t, ht with
  | 0, _ => exact lay_0
  | 1, _ => exact lay_1
  | 2, _ => exact lay_2
  | 3, _ => exact lay_3
  | 4, _ => exact lay_4
  | 5, _ => exact lay_5
  | 6, _ => exact lay_6
  | 7, _ => exact lay_7
  | 8, _ => exact lay_8
  | 9, _ => exact lay_9
  | 10, _ => exact lay_10
  | n + 11, h => exact absurd h (by omega)
theorem nam_t : ∀ t, t < 11 → ∀ a, a < cN t → ∀ b, b < cN t → a ≠ b → (fT t a).2.1 ≠ (fT t b).2.1 := by
  intro t ht
  match t, ht with
  | 0, _ => exact nam_0
  | 1, _ => exact nam_1
  | 2, _ => exact nam_2
  | 3, _ => exact nam_3
  | 4, _ => exact nam_4
  | 5, _ => exact nam_5
  | 6, _ => exact nam_6
  | 7, _ => exact nam_7
  | 8, _ => exact nam_8
  | 9, _ => exact nam_9
  | 10, _ => exact nam_10
  | n + 11, h => exact absurd h (by omega)
theorem typ_t : ∀ t, t < 11 → ∀ k, k < cN t → parseFieldDescriptor (fT t k).2.2.1 = some (fy t k) := by
  intro t ht
  match t, ht with
  | 0, _ => exact typ_0
  | 1, _ => exact typ_1
  | 2, _ => exact typ_2
  | 3, _ => exact typ_3
  | 4, _ => exact typ_4
  | 5, _ => exact typ_5
  | 6, _ => exact typ_6
  | 7, _ => exact typ_7
  | 8, _ => exact typ_8
  | 9, _ => exact typ_9
  | 10, _ => exact typ_10
  | n + 11, h => exact absurd h (by omega)
theorem cls_t : ∀ t, t < 11 → clsL[t]? = some (on t, fT t, cN t) := by
  intro t ht
  match t, ht with
  | 0, _ => rfl
  | 1, _ => rfl
  | 2, _ => rfl
  | 3, _ => rfl
  | 4, _ => rfl
  | 5, _ => rfl
  | 6, _ => rfl
  | 7, _ => rfl
  | 8, _ => rfl
  | 9, _ => rfl
  | 10, _ => rfl
  | n + 11, h => exact absurd h (by omega)
