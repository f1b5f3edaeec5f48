def lw_good : List Cond := lw_tbl.filter goodWord
theorem all_app {α : Type} {a b : List α} {f : α → Bool} (ha : a.all f = true) (hb : b.all f = true) : (a ++ b).all f = true := by
  rw [List.all_append, ha, hb]
  rfl
theorem lw_good_of {w : Cond} {i : Nat} (h : tables_1[i]? = some w) (hg : goodWord w = true) : w ∈ lw_good :=
  List.mem_filter.mpr ⟨List.mem_append_right _ (List.mem_of_getElem? h), hg⟩
theorem lw_good_of2 {w : Cond} {i : Nat} (h : lw_tbl[i]? = some w) (hg : goodWord w = true) : w ∈ lw_good :=
  List.mem_filter.mpr ⟨List.mem_of_getElem? h, hg⟩
def zNN (ci : Nat) : Nat := [6, 4, 6, 7, 11, 15, 16, 34, 2].getD ci 0
def zcnm (oc : Nat) : String := zcn.getD oc ""
def zhh (mi : Nat) : List (Nat × Nat × Nat × Nat) := (zhnT.filter (fun q => q.1 == mi)).map (fun q => (q.2.2.2.2.2.1, q.2.2.2.2.2.2.1, q.2.2.1, q.2.2.2.2.2.2.2))
def zcw (cm : Nat) : Cond := if zhh cm = [] then .code (zyn cm) (zcod cm) (zmx cm) (zrt cm) else .codeWith (zyn cm) (zcod cm) (zmx cm) (zrt cm) (zhh cm)
def ckW (i : Nat) (w : Cond) : Bool := decide (tables_1[i]? = some w) && goodWord w
def ckF (r : Nat × Nat × Nat × Nat × Nat) : Bool := ckW r.1 (.fieldLink (zcnm r.2.1) r.2.2.1 (zTT r.2.2.2.1 r.2.2.2.2).1 (zTT r.2.2.2.1 r.2.2.2.2).2.1 (zTT r.2.2.2.1 r.2.2.2.2).2.2.1) && decide (r.2.2.2.1 < 9) && decide (r.2.2.2.2 < zNN r.2.2.2.1)
def ckM (r : Nat × Nat × Nat × Nat × Nat × Nat) : Bool := ckW r.1 (.methodLink (zcnm r.2.1) r.2.2.1 (zyn r.2.2.2.1)) && decide ((parseMethodDescriptor (zyn r.2.2.2.1).desc).map (fun d => d.parameters.length) = some r.2.2.2.2.1)
def ckN (r : Nat × Nat × Nat × Nat × Nat × Nat × Nat) : Bool := ckW r.1 (.classLink (zcnm r.2.1) r.2.2.1 (zcnm r.2.2.2.1)) && ckW r.2.2.2.2.2.1 (.instantiable (zcnm r.2.2.2.1) r.2.2.2.2.1) && ckW r.2.2.2.2.2.2 (.initialized (zcnm r.2.2.2.1)) && decide (r.2.2.2.1 < 8) && decide (zNN r.2.2.2.1 = r.2.2.2.2.1)
def ckQ (r : Nat × Nat × Nat × Nat × Nat × Nat) : Bool := ckW r.2.2.2.2.2 (.initialized (zyn r.1).cls) && decide ((zyn r.1).cls = zcnm (zoc r.1)) && plainName (zyn r.1).cls &&
  (if r.2.2.1 = 0 then ckW r.2.2.2.1 (.instanceMethod (zyn r.1)) && (decide (lw_tbl[r.2.2.2.2.1]? = some (.selects (zyn r.1).cls (zyn r.1) (zyn r.1))) && goodWord (.selects (zyn r.1).cls (zyn r.1) (zyn r.1)))
   else if r.2.2.1 = 1 then ckW r.2.2.2.1 (.static (zyn r.1)) else ckW r.2.2.2.1 (.instanceMethod (zyn r.1)) && decide ((zyn r.1).name = "<init>") && decide (zrt r.1 = none) && decide (zhh r.1 = [])) && (decide (zhh r.1 = []) || decide (r.2.2.1 = 1))

def zfl_0 : List (Nat × Nat × Nat × Nat × Nat) := [(262, 0, 11, 0, 0), (263, 0, 16, 0, 1), (264, 0, 20, 0, 2), (265, 0, 23, 0, 3), (266, 0, 26, 0, 4), (267, 0, 29, 0, 5), (210, 0, 32, 2, 2), (142, 1, 9, 1, 0), (143, 1, 13, 1, 1), (144, 1, 16, 1, 2), (145, 1, 19, 1, 3), (49, 1, 31, 5, 0), (53, 1, 37, 5, 1), (57, 1, 40, 5, 2), (206, 2, 9, 2, 0), (208, 2, 17, 2, 1), (209, 2, 20, 2, 2), (80, 2, 24, 5, 10), (212, 2, 29, 2, 3), (84, 2, 30, 5, 11), (213, 2, 33, 2, 4), (88, 2, 34, 5, 12), (214, 2, 38, 2, 5), (78, 2, 39, 5, 9), (66, 2, 42, 5, 5), (48, 2, 49, 5, 0), (229, 3, 12, 3, 0), (231, 3, 20, 3, 1), (233, 3, 23, 3, 2), (234, 3, 27, 3, 3), (235, 3, 31, 3, 4), (236, 3, 35, 3, 5), (238, 3, 39, 3, 6), (211, 3, 42, 2, 2), (207, 3, 64, 2, 0), (157, 4, 9, 4, 0), (159, 4, 18, 4, 1), (160, 4, 22, 4, 2), (161, 4, 25, 4, 3), (162, 4, 28, 4, 4), (163, 4, 32, 4, 5), (165, 4, 35, 4, 7), (166, 4, 38, 4, 8), (167, 4, 41, 4, 9), (146, 4, 44, 1, 3), (69, 4, 61, 5, 6), (61, 4, 72, 5, 3), (75, 4, 76, 5, 8), (169, 4, 87, 4, 10), (90, 4, 124, 5, 12), (164, 4, 132, 4, 6), (72, 4, 147, 5, 7), (50, 4, 153, 5, 0), (54, 4, 157, 5, 1), (58, 4, 160, 5, 2), (83, 4, 163, 5, 10), (87, 4, 165, 5, 11), (97, 4, 172, 5, 14), (94, 4, 175, 5, 13), (47, 5, 11, 5, 0)]
def zfl_1 : List (Nat × Nat × Nat × Nat × Nat) := [(52, 5, 16, 5, 1), (56, 5, 20, 5, 2), (60, 5, 23, 5, 3), (63, 5, 26, 5, 4), (65, 5, 29, 5, 5), (68, 5, 41, 5, 6), (71, 5, 45, 5, 7), (74, 5, 48, 5, 8), (77, 5, 51, 5, 9), (81, 5, 54, 5, 10), (85, 5, 57, 5, 11), (89, 5, 60, 5, 12), (92, 5, 64, 5, 13), (95, 5, 67, 5, 14), (284, 6, 11, 6, 2), (286, 6, 16, 6, 4), (288, 6, 20, 6, 6), (292, 6, 27, 6, 10), (158, 6, 31, 4, 0), (282, 6, 35, 6, 0), (294, 6, 41, 6, 12), (230, 6, 45, 3, 0), (293, 6, 49, 6, 11), (296, 6, 53, 6, 14), (283, 6, 57, 6, 1), (290, 6, 64, 6, 8), (168, 6, 82, 4, 10), (79, 6, 95, 5, 9), (291, 6, 105, 6, 9), (64, 6, 116, 5, 4), (96, 6, 120, 5, 14), (93, 6, 126, 5, 13), (82, 6, 137, 5, 10), (86, 6, 140, 5, 11), (91, 6, 143, 5, 12), (287, 6, 149, 6, 5), (285, 6, 152, 6, 3), (70, 6, 158, 5, 6), (73, 6, 161, 5, 7), (76, 6, 164, 5, 8), (289, 6, 176, 6, 7), (51, 6, 184, 5, 0), (55, 6, 188, 5, 1), (59, 6, 191, 5, 2), (62, 6, 194, 5, 3), (232, 6, 227, 3, 1), (237, 6, 258, 3, 5), (297, 6, 270, 6, 15), (268, 6, 277, 0, 5), (67, 6, 282, 5, 5), (295, 6, 296, 6, 13), (997, 7, 1, 7, 0), (998, 7, 7, 7, 1), (999, 7, 17, 7, 2), (1000, 7, 20, 7, 3), (1001, 7, 23, 7, 4), (1003, 7, 26, 7, 6), (1004, 7, 30, 7, 7), (1011, 7, 33, 7, 14), (1014, 7, 36, 7, 17)]
def zfl_2 : List (Nat × Nat × Nat × Nat × Nat) := [(1015, 7, 39, 7, 18), (1016, 7, 42, 7, 19), (1019, 7, 45, 7, 22), (1021, 7, 48, 7, 24), (1022, 7, 51, 7, 25), (1023, 7, 54, 7, 26), (1026, 7, 57, 7, 29), (1027, 7, 60, 7, 30), (1028, 7, 63, 7, 31), (1029, 7, 67, 7, 32), (1030, 7, 70, 7, 33), (1002, 7, 77, 7, 5), (1005, 7, 80, 7, 8), (1009, 7, 87, 7, 12), (1010, 7, 90, 7, 13), (1007, 7, 93, 7, 10), (1006, 7, 96, 7, 9), (1008, 7, 127, 7, 11), (1017, 7, 144, 7, 20), (1012, 7, 173, 7, 15), (1013, 7, 198, 7, 16), (1020, 7, 205, 7, 23), (1018, 7, 240, 7, 21), (1024, 7, 269, 7, 27), (1025, 7, 272, 7, 28), (1475, 8, 9, 8, 0), (1476, 8, 15, 8, 1)]
def zfl : List (Nat × Nat × Nat × Nat × Nat) := zfl_0 ++ (zfl_1 ++ (zfl_2))
def zml_0 : List (Nat × Nat × Nat × Nat × Nat × Nat) := [(955, 0, 38, 191, 1, 1), (956, 0, 44, 14, 2, 0), (957, 0, 48, 2, 3, 1), (960, 0, 52, 3, 4, 1), (966, 0, 56, 4, 3, 0), (971, 0, 66, 198, 2, 1), (972, 0, 72, 17, 1, 0), (675, 1, 23, 9, 3, 0), (679, 1, 27, 10, 3, 1), (363, 2, 45, 61, 1, 0), (201, 3, 11, 11, 0, 2), (371, 3, 45, 191, 1, 1), (377, 3, 51, 14, 2, 0), (381, 3, 55, 20, 2, 0), (385, 3, 59, 15, 0, 0), (886, 3, 67, 16, 2, 0), (402, 3, 70, 25, 0, 0), (406, 3, 73, 26, 1, 0), (138, 4, 17, 5, 0, 2), (502, 4, 45, 54, 0, 0), (503, 4, 50, 49, 0, 0), (507, 4, 53, 32, 1, 0), (651, 4, 57, 48, 1, 0), (568, 4, 64, 31, 2, 0), (667, 4, 68, 30, 3, 0), (671, 4, 79, 8, 2, 0), (682, 4, 83, 7, 0, 0), (512, 4, 92, 52, 1, 0), (564, 4, 96, 34, 2, 0), (588, 4, 101, 35, 2, 0), (593, 4, 106, 33, 2, 0), (597, 4, 109, 37, 1, 0), (602, 4, 114, 38, 1, 0), (607, 4, 119, 40, 1, 0), (617, 4, 129, 41, 0, 0), (621, 4, 135, 42, 2, 0), (659, 4, 141, 39, 0, 0), (572, 4, 144, 36, 2, 0), (576, 4, 150, 47, 2, 0), (611, 4, 168, 51, 0, 0), (625, 4, 178, 43, 2, 0), (647, 4, 183, 6, 3, 0), (629, 4, 187, 44, 2, 0), (580, 4, 194, 50, 1, 0), (634, 4, 197, 45, 1, 0), (638, 4, 201, 46, 0, 0), (516, 4, 220, 192, 0, 0), (526, 4, 224, 193, 1, 0), (40, 5, 32, 54, 0, 0), (44, 5, 35, 198, 2, 1), (690, 5, 76, 58, 2, 0), (694, 5, 80, 59, 1, 0), (739, 5, 84, 61, 1, 0), (744, 5, 89, 63, 1, 0), (740, 5, 93, 64, 1, 0), (34, 6, 15, 53, 0, 2), (132, 6, 26, 27, 0, 2), (195, 6, 40, 18, 0, 2), (257, 6, 52, 0, 0, 2), (335, 6, 60, 98, 1, 0)]
def zml_1 : List (Nat × Nat × Nat × Nat × Nat × Nat) := [(494, 6, 74, 99, 0, 0), (498, 6, 78, 28, 2, 0), (663, 6, 85, 29, 1, 0), (686, 6, 89, 57, 0, 0), (698, 6, 92, 101, 0, 0), (711, 6, 98, 95, 1, 0), (735, 6, 101, 65, 1, 0), (765, 6, 113, 100, 0, 0), (776, 6, 123, 66, 0, 0), (795, 6, 131, 97, 2, 1), (347, 6, 155, 102, 1, 0), (814, 6, 167, 62, 0, 0), (826, 6, 173, 56, 0, 0), (715, 6, 197, 60, 1, 0), (831, 6, 201, 64, 1, 0), (842, 6, 209, 63, 1, 0), (850, 6, 212, 96, 1, 0), (862, 6, 215, 94, 1, 0), (355, 6, 218, 103, 0, 0), (867, 6, 221, 14, 2, 0), (389, 6, 230, 21, 2, 0), (882, 6, 233, 23, 2, 0), (898, 6, 238, 13, 1, 0), (902, 6, 241, 22, 2, 0), (398, 6, 244, 24, 0, 0), (913, 6, 247, 104, 4, 0), (931, 6, 251, 61, 1, 0), (949, 6, 263, 191, 1, 1), (951, 6, 273, 1, 3, 0), (769, 6, 293, 55, 1, 0), (359, 6, 299, 12, 2, 0), (367, 6, 303, 19, 2, 0), (994, 7, 73, 110, 1, 1), (1108, 7, 83, 114, 1, 0), (1123, 7, 99, 116, 0, 0), (1136, 7, 103, 192, 0, 0), (1137, 7, 108, 117, 1, 0), (1141, 7, 112, 193, 1, 0), (1132, 7, 116, 119, 1, 0), (1154, 7, 120, 121, 1, 0), (1146, 7, 123, 115, 2, 0), (1158, 7, 130, 118, 1, 0), (1116, 7, 140, 107, 3, 1), (1193, 7, 157, 127, 0, 0), (1226, 7, 162, 120, 1, 0), (1206, 7, 165, 124, 1, 0), (1197, 7, 168, 129, 0, 0), (1202, 7, 178, 128, 1, 0), (1189, 7, 181, 126, 0, 0), (1210, 7, 184, 122, 1, 0), (1214, 7, 187, 130, 0, 0), (1218, 7, 190, 125, 1, 1), (1150, 7, 194, 123, 3, 0), (1174, 7, 201, 108, 2, 1), (1185, 7, 208, 131, 1, 0), (1142, 7, 213, 133, 4, 0), (1165, 7, 219, 134, 0, 0), (1170, 7, 223, 132, 2, 0), (1179, 7, 231, 135, 0, 0), (1234, 7, 244, 136, 0, 0)]
def zml_2 : List (Nat × Nat × Nat × Nat × Nat × Nat) := [(1119, 7, 247, 106, 3, 0), (1127, 7, 251, 137, 0, 0), (1238, 7, 254, 142, 0, 0), (1254, 7, 257, 111, 0, 0), (1246, 7, 260, 140, 2, 0), (1242, 7, 263, 141, 2, 0), (1250, 7, 266, 143, 1, 0), (1290, 7, 275, 147, 2, 0), (1286, 7, 278, 148, 2, 0), (1357, 7, 281, 146, 2, 0), (1336, 7, 284, 149, 2, 0), (1373, 7, 287, 154, 2, 0), (1353, 7, 290, 150, 2, 0), (1282, 7, 293, 151, 2, 0), (1377, 7, 296, 153, 3, 0), (1274, 7, 300, 144, 0, 0), (1369, 7, 303, 152, 0, 0), (1270, 7, 306, 156, 1, 0), (1278, 7, 310, 145, 0, 0), (1266, 7, 313, 157, 1, 0), (1294, 7, 316, 158, 0, 0), (1319, 7, 330, 163, 0, 0), (1323, 7, 333, 164, 0, 0), (1349, 7, 339, 169, 2, 0), (1365, 7, 342, 155, 0, 0), (1385, 7, 345, 172, 1, 0), (1417, 7, 348, 180, 2, 0), (1438, 7, 351, 183, 1, 1), (1426, 7, 354, 182, 1, 0), (1430, 7, 359, 187, 4, 0), (1434, 7, 362, 184, 3, 0), (1442, 7, 366, 185, 1, 0), (520, 8, 335, 194, 0, 0), (530, 8, 492, 195, 0, 0), (534, 8, 495, 197, 2, 1), (542, 8, 1059, 199, 3, 1), (423, 9, 7, 69, 1, 0), (707, 9, 15, 71, 1, 0), (783, 9, 22, 72, 0, 0), (791, 9, 26, 73, 2, 0), (802, 9, 30, 74, 2, 0), (810, 9, 33, 76, 1, 0), (822, 9, 36, 77, 2, 0), (836, 9, 39, 78, 2, 0), (846, 9, 43, 79, 1, 0), (858, 9, 46, 80, 1, 0), (871, 9, 49, 81, 1, 0), (878, 9, 52, 83, 1, 0), (893, 9, 55, 84, 1, 0), (909, 9, 58, 86, 2, 0), (920, 9, 61, 87, 2, 0), (927, 9, 64, 88, 2, 0), (936, 9, 67, 89, 2, 0), (944, 9, 70, 90, 1, 0), (979, 9, 73, 91, 2, 0), (25, 9, 76, 67, 0, 2), (990, 9, 79, 109, 0, 2), (331, 9, 80, 68, 5, 0), (1104, 9, 84, 113, 5, 0), (419, 9, 85, 200, 3, 1)]
def zml_3 : List (Nat × Nat × Nat × Nat × Nat × Nat) := [(1112, 9, 90, 138, 1, 0), (984, 9, 91, 105, 0, 0), (339, 9, 94, 70, 0, 0), (1258, 9, 97, 139, 0, 0), (702, 9, 98, 201, 3, 1), (1262, 9, 100, 159, 1, 0), (780, 9, 101, 202, 2, 1), (1298, 9, 104, 160, 0, 0), (788, 9, 105, 203, 4, 1), (1302, 9, 108, 161, 2, 0), (799, 9, 109, 204, 4, 1), (1308, 9, 111, 162, 2, 0), (343, 9, 112, 75, 0, 0), (1100, 9, 115, 112, 0, 0), (807, 9, 116, 205, 3, 1), (1314, 9, 118, 165, 1, 0), (819, 9, 119, 206, 4, 1), (1327, 9, 121, 166, 2, 0), (833, 9, 122, 207, 4, 1), (1332, 9, 125, 167, 2, 0), (843, 9, 126, 208, 3, 1), (1341, 9, 128, 168, 1, 0), (855, 9, 129, 209, 3, 1), (1345, 9, 131, 170, 1, 0), (868, 9, 132, 210, 3, 1), (1361, 9, 134, 171, 1, 0), (351, 9, 135, 82, 0, 0), (1381, 9, 138, 173, 0, 0), (875, 9, 139, 211, 3, 1), (1389, 9, 141, 174, 1, 0), (890, 9, 142, 212, 3, 1), (1393, 9, 144, 175, 1, 0), (394, 9, 145, 85, 0, 0), (1397, 9, 148, 176, 0, 0), (906, 9, 149, 213, 4, 1), (1401, 9, 151, 177, 2, 0), (917, 9, 152, 214, 4, 1), (1405, 9, 154, 178, 2, 0), (924, 9, 155, 215, 4, 1), (1409, 9, 157, 179, 2, 0), (933, 9, 158, 216, 4, 1), (1413, 9, 160, 181, 2, 0), (941, 9, 161, 217, 3, 1), (1421, 9, 163, 186, 1, 0), (976, 9, 164, 218, 4, 1), (1446, 9, 166, 188, 2, 0), (410, 9, 167, 92, 0, 0), (1451, 9, 171, 189, 0, 0), (415, 9, 172, 93, 1, 0), (1456, 9, 175, 190, 1, 0), (537, 12, 9, 196, 2, 1)]
def zml : List (Nat × Nat × Nat × Nat × Nat × Nat) := zml_0 ++ (zml_1 ++ (zml_2 ++ (zml_3)))
def znl_0 : List (Nat × Nat × Nat × Nat × Nat × Nat × Nat) := [(199, 3, 9, 2, 6, 200, 7), (136, 4, 15, 1, 4, 137, 5), (31, 6, 9, 5, 15, 33, 2), (130, 6, 24, 4, 11, 131, 4), (193, 6, 38, 3, 7, 194, 6), (255, 6, 50, 0, 6, 256, 8), (23, 9, 8, 6, 16, 24, 1), (988, 9, 77, 7, 34, 989, 9)]
def znl : List (Nat × Nat × Nat × Nat × Nat × Nat × Nat) := znl_0
def zmf_0 : List (Nat × Nat × Nat × Nat × Nat × Nat) := [(0, 259, 2, 258, 0, 8), (1, 954, 0, 952, 1017, 8), (2, 959, 1, 958, 0, 8), (3, 962, 1, 961, 0, 8), (4, 969, 0, 967, 1032, 8), (5, 140, 2, 139, 0, 5), (6, 650, 0, 648, 713, 5), (7, 685, 0, 683, 748, 5), (8, 674, 0, 672, 737, 5), (9, 678, 0, 676, 741, 5), (10, 681, 1, 680, 0, 5), (11, 203, 2, 202, 0, 7)]
def zmf_1 : List (Nat × Nat × Nat × Nat × Nat × Nat) := [(12, 362, 0, 360, 425, 7), (13, 901, 0, 899, 964, 7), (14, 380, 0, 378, 443, 7), (15, 388, 0, 386, 451, 7), (16, 889, 0, 887, 952, 7), (17, 975, 0, 973, 1038, 7), (18, 197, 2, 196, 0, 6), (19, 370, 0, 368, 433, 6), (20, 384, 0, 382, 447, 6), (21, 392, 0, 390, 455, 6), (22, 905, 0, 903, 968, 6), (23, 885, 0, 883, 948, 6)]
def zmf_2 : List (Nat × Nat × Nat × Nat × Nat × Nat) := [(24, 401, 0, 399, 464, 6), (25, 405, 0, 403, 468, 6), (26, 409, 0, 407, 472, 6), (27, 134, 2, 133, 0, 4), (28, 501, 0, 499, 564, 4), (29, 666, 0, 664, 729, 4), (30, 670, 0, 668, 733, 4), (31, 571, 0, 569, 634, 4), (32, 510, 0, 508, 573, 4), (33, 596, 0, 594, 659, 4), (34, 567, 0, 565, 630, 4), (35, 591, 0, 589, 654, 4)]
def zmf_3 : List (Nat × Nat × Nat × Nat × Nat × Nat) := [(36, 575, 0, 573, 638, 4), (37, 600, 0, 598, 663, 4), (38, 605, 0, 603, 668, 4), (39, 662, 0, 660, 725, 4), (40, 610, 0, 608, 673, 4), (41, 620, 0, 618, 683, 4), (42, 624, 0, 622, 687, 4), (43, 628, 0, 626, 691, 4), (44, 632, 0, 630, 695, 4), (45, 637, 0, 635, 700, 4), (46, 641, 0, 639, 704, 4), (47, 579, 0, 577, 642, 4)]
def zmf_4 : List (Nat × Nat × Nat × Nat × Nat × Nat) := [(48, 654, 0, 652, 717, 4), (49, 506, 0, 504, 569, 4), (50, 583, 0, 581, 646, 4), (51, 614, 0, 612, 677, 4), (52, 515, 0, 513, 578, 4), (53, 36, 2, 35, 0, 2), (54, 43, 0, 41, 106, 2), (55, 772, 0, 770, 835, 2), (56, 829, 0, 827, 892, 2), (57, 689, 0, 687, 752, 2), (58, 693, 0, 691, 756, 2), (59, 697, 0, 695, 760, 2)]
def zmf_5 : List (Nat × Nat × Nat × Nat × Nat × Nat) := [(60, 718, 0, 716, 781, 2), (61, 366, 0, 364, 429, 2), (62, 817, 0, 815, 880, 2), (63, 747, 0, 745, 810, 2), (64, 743, 0, 741, 806, 2), (65, 738, 0, 736, 801, 2), (66, 779, 0, 777, 842, 2), (67, 27, 2, 26, 0, 1), (68, 334, 0, 332, 397, 1), (69, 426, 0, 424, 489, 1), (70, 342, 0, 340, 405, 1), (71, 710, 0, 708, 773, 1)]
def zmf_6 : List (Nat × Nat × Nat × Nat × Nat × Nat) := [(72, 786, 0, 784, 849, 1), (73, 794, 0, 792, 857, 1), (74, 805, 0, 803, 868, 1), (75, 346, 0, 344, 409, 1), (76, 813, 0, 811, 876, 1), (77, 825, 0, 823, 888, 1), (78, 839, 0, 837, 902, 1), (79, 849, 0, 847, 912, 1), (80, 861, 0, 859, 924, 1), (81, 874, 0, 872, 937, 1), (82, 354, 0, 352, 417, 1), (83, 881, 0, 879, 944, 1)]
def zmf_7 : List (Nat × Nat × Nat × Nat × Nat × Nat) := [(84, 896, 0, 894, 959, 1), (85, 397, 0, 395, 460, 1), (86, 912, 0, 910, 975, 1), (87, 923, 0, 921, 986, 1), (88, 930, 0, 928, 993, 1), (89, 939, 0, 937, 1002, 1), (90, 947, 0, 945, 1010, 1), (91, 982, 0, 980, 1045, 1), (92, 413, 0, 411, 476, 1), (93, 418, 0, 416, 481, 1), (94, 865, 0, 864, 9, 1), (95, 714, 0, 713, 6, 1)]
def zmf_8 : List (Nat × Nat × Nat × Nat × Nat × Nat) := [(96, 853, 0, 852, 8, 1), (97, 797, 1, 796, 0, 1), (98, 338, 0, 337, 0, 1), (99, 497, 0, 496, 4, 1), (100, 768, 0, 767, 7, 1), (101, 701, 0, 700, 5, 1), (102, 350, 0, 349, 1, 1), (103, 358, 0, 357, 2, 1), (104, 916, 0, 915, 10, 1), (105, 987, 0, 985, 1050, 9), (106, 1122, 0, 1121, 12, 9), (107, 1118, 1, 1117, 0, 9)]
def zmf_9 : List (Nat × Nat × Nat × Nat × Nat × Nat) := [(108, 1176, 1, 1175, 0, 9), (109, 992, 2, 991, 0, 9), (110, 996, 1, 995, 0, 9), (111, 1257, 0, 1256, 39, 9), (112, 1103, 0, 1101, 1166, 9), (113, 1107, 0, 1105, 1170, 9), (114, 1111, 0, 1110, 11, 9), (115, 1149, 0, 1148, 18, 9), (116, 1126, 0, 1125, 13, 9), (117, 1140, 0, 1139, 16, 9), (118, 1161, 0, 1160, 21, 9), (119, 1135, 0, 1134, 15, 9)]
def zmf_10 : List (Nat × Nat × Nat × Nat × Nat × Nat) := [(120, 1229, 0, 1228, 33, 9), (121, 1157, 0, 1156, 20, 9), (122, 1213, 0, 1212, 31, 9), (123, 1153, 0, 1152, 19, 9), (124, 1209, 0, 1208, 30, 9), (125, 1220, 1, 1219, 0, 9), (126, 1192, 0, 1191, 26, 9), (127, 1196, 0, 1195, 27, 9), (128, 1205, 0, 1204, 29, 9), (129, 1200, 0, 1199, 28, 9), (130, 1217, 0, 1216, 32, 9), (131, 1188, 0, 1187, 25, 9)]
def zmf_11 : List (Nat × Nat × Nat × Nat × Nat × Nat) := [(132, 1173, 0, 1172, 23, 9), (133, 1145, 0, 1144, 17, 9), (134, 1168, 0, 1167, 22, 9), (135, 1182, 0, 1181, 24, 9), (136, 1237, 0, 1236, 34, 9), (137, 1130, 0, 1129, 14, 9), (138, 1115, 0, 1113, 1178, 9), (139, 1261, 0, 1259, 1324, 9), (140, 1249, 0, 1248, 37, 9), (141, 1245, 0, 1244, 36, 9), (142, 1241, 0, 1240, 35, 9), (143, 1253, 0, 1252, 38, 9)]
def zmf_12 : List (Nat × Nat × Nat × Nat × Nat × Nat) := [(144, 1277, 0, 1276, 42, 9), (145, 1281, 0, 1280, 43, 9), (146, 1360, 0, 1359, 53, 9), (147, 1293, 0, 1292, 46, 9), (148, 1289, 0, 1288, 45, 9), (149, 1339, 0, 1338, 50, 9), (150, 1356, 0, 1355, 52, 9), (151, 1285, 0, 1284, 44, 9), (152, 1372, 0, 1371, 55, 9), (153, 1380, 0, 1379, 57, 9), (154, 1376, 0, 1375, 56, 9), (155, 1368, 0, 1367, 54, 9)]
def zmf_13 : List (Nat × Nat × Nat × Nat × Nat × Nat) := [(156, 1273, 0, 1272, 41, 9), (157, 1269, 0, 1268, 40, 9), (158, 1297, 0, 1296, 47, 9), (159, 1265, 0, 1263, 1328, 9), (160, 1301, 0, 1299, 1364, 9), (161, 1305, 0, 1303, 1368, 9), (162, 1311, 0, 1309, 1374, 9), (163, 1322, 0, 1321, 48, 9), (164, 1326, 0, 1325, 49, 9), (165, 1317, 0, 1315, 1380, 9), (166, 1330, 0, 1328, 1393, 9), (167, 1335, 0, 1333, 1398, 9)]
def zmf_14 : List (Nat × Nat × Nat × Nat × Nat × Nat) := [(168, 1344, 0, 1342, 1407, 9), (169, 1352, 0, 1351, 51, 9), (170, 1348, 0, 1346, 1411, 9), (171, 1364, 0, 1362, 1427, 9), (172, 1388, 0, 1387, 58, 9), (173, 1384, 0, 1382, 1447, 9), (174, 1392, 0, 1390, 1455, 9), (175, 1396, 0, 1394, 1459, 9), (176, 1400, 0, 1398, 1463, 9), (177, 1404, 0, 1402, 1467, 9), (178, 1408, 0, 1406, 1471, 9), (179, 1412, 0, 1410, 1475, 9)]
def zmf_15 : List (Nat × Nat × Nat × Nat × Nat × Nat) := [(180, 1420, 0, 1419, 59, 9), (181, 1416, 0, 1414, 1479, 9), (182, 1429, 0, 1428, 60, 9), (183, 1440, 1, 1439, 0, 9), (184, 1437, 0, 1436, 62, 9), (185, 1445, 0, 1444, 63, 9), (186, 1424, 0, 1422, 1487, 9), (187, 1433, 0, 1432, 61, 9), (188, 1449, 0, 1447, 1512, 9), (189, 1454, 0, 1452, 1517, 9), (190, 1459, 0, 1457, 1522, 9), (191, 373, 1, 372, 0, 22)]
def zmf_16 : List (Nat × Nat × Nat × Nat × Nat × Nat) := [(192, 519, 0, 517, 582, 14), (193, 529, 0, 527, 592, 14), (194, 523, 0, 521, 586, 14), (195, 533, 0, 531, 596, 14), (196, 539, 1, 538, 0, 14), (197, 536, 1, 535, 0, 15), (198, 46, 1, 45, 0, 3), (199, 544, 1, 543, 0, 16), (200, 421, 1, 420, 0, 0), (201, 704, 1, 703, 0, 0), (202, 782, 1, 781, 0, 0), (203, 790, 1, 789, 0, 0)]
def zmf_17 : List (Nat × Nat × Nat × Nat × Nat × Nat) := [(204, 801, 1, 800, 0, 0), (205, 809, 1, 808, 0, 0), (206, 821, 1, 820, 0, 0), (207, 835, 1, 834, 0, 0), (208, 845, 1, 844, 0, 0), (209, 857, 1, 856, 0, 0), (210, 870, 1, 869, 0, 0), (211, 877, 1, 876, 0, 0), (212, 892, 1, 891, 0, 0), (213, 908, 1, 907, 0, 0), (214, 919, 1, 918, 0, 0), (215, 926, 1, 925, 0, 0)]
def zmf_18 : List (Nat × Nat × Nat × Nat × Nat × Nat) := [(216, 935, 1, 934, 0, 0), (217, 943, 1, 942, 0, 0), (218, 978, 1, 977, 0, 0)]
def zmf : List (Nat × Nat × Nat × Nat × Nat × Nat) := zmf_0 ++ (zmf_1 ++ (zmf_2 ++ (zmf_3 ++ (zmf_4 ++ (zmf_5 ++ (zmf_6 ++ (zmf_7 ++ (zmf_8 ++ (zmf_9 ++ (zmf_10 ++ (zmf_11 ++ (zmf_12 ++ (zmf_13 ++ (zmf_14 ++ (zmf_15 ++ (zmf_16 ++ (zmf_17 ++ (zmf_18))))))))))))))))))
def zsl_0 : List (Nat × Nat × Nat × Nat) := [(511, 4, 90, 0), (587, 4, 99, 1), (592, 4, 104, 2), (601, 4, 112, 3), (606, 4, 117, 4), (615, 4, 122, 5), (616, 4, 127, 6), (657, 4, 139, 7), (658, 4, 140, 8), (656, 4, 181, 9), (655, 4, 190, 10), (633, 4, 192, 11), (642, 4, 204, 12), (643, 4, 206, 13), (644, 4, 208, 14), (645, 4, 210, 15), (646, 4, 212, 16), (1221, 7, 147, 12), (1222, 7, 149, 13), (1223, 7, 151, 14), (1224, 7, 153, 15), (1225, 7, 155, 16), (1231, 7, 160, 9), (1230, 7, 171, 10), (1201, 7, 176, 11), (1131, 7, 211, 0), (1164, 7, 217, 1), (1169, 7, 221, 2), (1177, 7, 227, 3), (1178, 7, 229, 4), (1183, 7, 234, 5), (1184, 7, 236, 7), (1232, 7, 238, 8), (1233, 7, 242, 6)]
def zsl : List (Nat × Nat × Nat × Nat) := zsl_0
theorem zfl_0_ok : zfl_0.all ckF = true := by decide +kernel
theorem zfl_1_ok : zfl_1.all ckF = true := by decide +kernel
theorem zfl_2_ok : zfl_2.all ckF = true := by decide +kernel
theorem zfl_ok : zfl.all ckF = true := all_app zfl_0_ok (all_app zfl_1_ok (zfl_2_ok))
theorem zml_0_ok : zml_0.all ckM = true := by decide +kernel
theorem zml_1_ok : zml_1.all ckM = true := by decide +kernel
theorem zml_2_ok : zml_2.all ckM = true := by decide +kernel
theorem zml_3_ok : zml_3.all ckM = true := by decide +kernel
theorem zml_ok : zml.all ckM = true := all_app zml_0_ok (all_app zml_1_ok (all_app zml_2_ok (zml_3_ok)))
theorem znl_0_ok : znl_0.all ckN = true := by decide +kernel
theorem znl_ok : znl.all ckN = true := znl_0_ok
theorem zmf_0_ok : zmf_0.all ckQ = true := by decide +kernel
theorem zmf_1_ok : zmf_1.all ckQ = true := by decide +kernel
theorem zmf_2_ok : zmf_2.all ckQ = true := by decide +kernel
theorem zmf_3_ok : zmf_3.all ckQ = true := by decide +kernel
theorem zmf_4_ok : zmf_4.all ckQ = true := by decide +kernel
theorem zmf_5_ok : zmf_5.all ckQ = true := by decide +kernel
theorem zmf_6_ok : zmf_6.all ckQ = true := by decide +kernel
theorem zmf_7_ok : zmf_7.all ckQ = true := by decide +kernel
theorem zmf_8_ok : zmf_8.all ckQ = true := by decide +kernel
theorem zmf_9_ok : zmf_9.all ckQ = true := by decide +kernel
theorem zmf_10_ok : zmf_10.all ckQ = true := by decide +kernel
theorem zmf_11_ok : zmf_11.all ckQ = true := by decide +kernel
theorem zmf_12_ok : zmf_12.all ckQ = true := by decide +kernel
theorem zmf_13_ok : zmf_13.all ckQ = true := by decide +kernel
theorem zmf_14_ok : zmf_14.all ckQ = true := by decide +kernel
theorem zmf_15_ok : zmf_15.all ckQ = true := by decide +kernel
theorem zmf_16_ok : zmf_16.all ckQ = true := by decide +kernel
theorem zmf_17_ok : zmf_17.all ckQ = true := by decide +kernel
theorem zmf_18_ok : zmf_18.all ckQ = true := by decide +kernel
theorem zmf_ok : zmf.all ckQ = true := all_app zmf_0_ok (all_app zmf_1_ok (all_app zmf_2_ok (all_app zmf_3_ok (all_app zmf_4_ok (all_app zmf_5_ok (all_app zmf_6_ok (all_app zmf_7_ok (all_app zmf_8_ok (all_app zmf_9_ok (all_app zmf_10_ok (all_app zmf_11_ok (all_app zmf_12_ok (all_app zmf_13_ok (all_app zmf_14_ok (all_app zmf_15_ok (all_app zmf_16_ok (all_app zmf_17_ok (zmf_18_ok))))))))))))))))))
theorem zp_cov : (List.range 15).all (fun oc => (zpool.getD oc []).all (fun q => (!(q.2.1 == 1) || zfl.any (fun r => r.2 == (oc, q.1, q.2.2.1, q.2.2.2))) && (!(q.2.1 == 2) || zml.any (fun r => r.2 == (oc, q.1, q.2.2.1, q.2.2.2, 0))) && (!(q.2.1 == 16) || zml.any (fun r => r.2 == (oc, q.1, q.2.2.1, q.2.2.2, 2))) && (!(q.2.1 == 17) || zml.any (fun r => r.2 == (oc, q.1, q.2.2.1, q.2.2.2, 1))) && (!(q.2.1 == 3) || znl.any (fun r => r.2.1 == oc && r.2.2.1 == q.1 && r.2.2.2.1 == q.2.2.1 && r.2.2.2.2.1 == q.2.2.2)) && (!(q.2.1 == 8) || zsl.any (fun r => r.2 == (oc, q.1, q.2.2.1))))) = true := by decide +kernel
theorem zmf_cov : zml.all (fun r => zmf.any (fun q => q.1 == r.2.2.2.1 && q.2.2.1 == r.2.2.2.2.2)) = true := by decide +kernel
set_option maxRecDepth 50000 in
theorem cw_0 : zcw 0 ∈ lw_good := lw_good_of (i := 259) (show tables_1[259]? = some (Cond.code yX0_init cX0_init 1 none) from rfl) rfl
set_option maxRecDepth 50000 in
theorem cw_1 : zcw 1 ∈ lw_good := lw_good_of (i := 954) (show tables_1[954]? = some (Cond.code yX0_seek cX0_seek 7 none) from rfl) rfl
set_option maxRecDepth 50000 in
theorem cw_2 : zcw 2 ∈ lw_good := lw_good_of (i := 959) (show tables_1[959]? = some (Cond.code yX0_listSets cX0_listSets 5 (some .int)) from rfl) rfl
set_option maxRecDepth 50000 in
theorem cw_3 : zcw 3 ∈ lw_good := lw_good_of (i := 962) (show tables_1[962]? = some (Cond.code yX0_mostWith cX0_mostWith 6 (some .int)) from rfl) rfl
set_option maxRecDepth 50000 in
theorem cw_4 : zcw 4 ∈ lw_good := lw_good_of (i := 969) (show tables_1[969]? = some (Cond.code yX0_gatherRests cX0_gatherRests 7 none) from rfl) rfl
set_option maxRecDepth 50000 in
theorem cw_5 : zcw 5 ∈ lw_good := lw_good_of (i := 140) (show tables_1[140]? = some (Cond.code yX1_init cX1_init 1 none) from rfl) rfl
set_option maxRecDepth 50000 in
theorem cw_6 : zcw 6 ∈ lw_good := lw_good_of (i := 650) (show tables_1[650]? = some (Cond.code yX1_add cX1_add 4 none) from rfl) rfl
set_option maxRecDepth 50000 in
theorem cw_7 : zcw 7 ∈ lw_good := lw_good_of (i := 685) (show tables_1[685]? = some (Cond.code yX1_isTold cX1_isTold 1 (some .boolean)) from rfl) rfl
set_option maxRecDepth 50000 in
theorem cw_8 : zcw 8 ∈ lw_good := lw_good_of (i := 674) (show tables_1[674]? = some (Cond.code yX1_holds cX1_holds 6 (some .boolean)) from rfl) rfl
set_option maxRecDepth 50000 in
theorem cw_9 : zcw 9 ∈ lw_good := lw_good_of (i := 678) (show tables_1[678]? = some (Cond.code yX1_compares cX1_compares 6 (some .boolean)) from rfl) rfl
set_option maxRecDepth 50000 in
theorem cw_10 : zcw 10 ∈ lw_good := lw_good_of (i := 681) (show tables_1[681]? = some (Cond.code yX1_numberOf cX1_numberOf 3 (some .int)) from rfl) rfl
set_option maxRecDepth 50000 in
theorem cw_11 : zcw 11 ∈ lw_good := lw_good_of (i := 203) (show tables_1[203]? = some (Cond.code yX2_init cX2_init 1 none) from rfl) rfl
set_option maxRecDepth 50000 in
theorem cw_12 : zcw 12 ∈ lw_good := lw_good_of (i := 362) (show tables_1[362]? = some (Cond.code yX2_take cX2_take 5 none) from rfl) rfl
set_option maxRecDepth 50000 in
theorem cw_13 : zcw 13 ∈ lw_good := lw_good_of (i := 901) (show tables_1[901]? = some (Cond.code yX2_placeOf cX2_placeOf 3 (some .int)) from rfl) rfl
set_option maxRecDepth 50000 in
theorem cw_14 : zcw 14 ∈ lw_good := lw_good_of (i := 380) (show tables_1[380]? = some (Cond.code yX2_endWorth cX2_endWorth 7 (some .int)) from rfl) rfl
set_option maxRecDepth 50000 in
theorem cw_15 : zcw 15 ∈ lw_good := lw_good_of (i := 388) (show tables_1[388]? = some (Cond.code yX2_strikable cX2_strikable 1 (some .int)) from rfl) rfl
set_option maxRecDepth 50000 in
theorem cw_16 : zcw 16 ∈ lw_good := lw_good_of (i := 889) (show tables_1[889]? = some (Cond.code yX2_plainAct cX2_plainAct 8 (some .int)) from rfl) rfl
set_option maxRecDepth 50000 in
theorem cw_17 : zcw 17 ∈ lw_good := lw_good_of (i := 975) (show tables_1[975]? = some (Cond.code yX2_numbersOf cX2_numbersOf 4 (some .int)) from rfl) rfl
set_option maxRecDepth 50000 in
theorem cw_18 : zcw 18 ∈ lw_good := lw_good_of (i := 197) (show tables_1[197]? = some (Cond.code yX3_init cX3_init 1 none) from rfl) rfl
set_option maxRecDepth 50000 in
theorem cw_19 : zcw 19 ∈ lw_good := lw_good_of (i := 370) (show tables_1[370]? = some (Cond.code yX3_lookBack cX3_lookBack 6 none) from rfl) rfl
set_option maxRecDepth 50000 in
theorem cw_20 : zcw 20 ∈ lw_good := lw_good_of (i := 384) (show tables_1[384]? = some (Cond.code yX3_choose cX3_choose 11 none) from rfl) rfl
set_option maxRecDepth 50000 in
theorem cw_21 : zcw 21 ∈ lw_good := lw_good_of (i := 392) (show tables_1[392]? = some (Cond.code yX3_whom cX3_whom 4 (some .int)) from rfl) rfl
set_option maxRecDepth 50000 in
theorem cw_22 : zcw 22 ∈ lw_good := lw_good_of (i := 905) (show tables_1[905]? = some (Cond.code yX3_valueBehind cX3_valueBehind 3 (some .int)) from rfl) rfl
set_option maxRecDepth 50000 in
theorem cw_23 : zcw 23 ∈ lw_good := lw_good_of (i := 885) (show tables_1[885]? = some (Cond.code yX3_struckAfter cX3_struckAfter 8 (some .int)) from rfl) rfl
set_option maxRecDepth 50000 in
theorem cw_24 : zcw 24 ∈ lw_good := lw_good_of (i := 401) (show tables_1[401]? = some (Cond.code yX3_howManyStates cX3_howManyStates 3 (some .int)) from rfl) rfl
set_option maxRecDepth 50000 in
theorem cw_25 : zcw 25 ∈ lw_good := lw_good_of (i := 405) (show tables_1[405]? = some (Cond.code yX3_reachOn cX3_reachOn 3 (some .int)) from rfl) rfl
set_option maxRecDepth 50000 in
theorem cw_26 : zcw 26 ∈ lw_good := lw_good_of (i := 409) (show tables_1[409]? = some (Cond.code yX3_reachFrom cX3_reachFrom 4 none) from rfl) rfl
set_option maxRecDepth 50000 in
theorem cw_27 : zcw 27 ∈ lw_good := lw_good_of (i := 134) (show tables_1[134]? = some (Cond.code yX4_init cX4_init 1 none) from rfl) rfl
set_option maxRecDepth 50000 in
theorem cw_28 : zcw 28 ∈ lw_good := lw_good_of (i := 501) (show tables_1[501]? = some (Cond.code yX4_read cX4_read 4 (some .int)) from rfl) rfl
set_option maxRecDepth 50000 in
theorem cw_29 : zcw 29 ∈ lw_good := lw_good_of (i := 666) (show tables_1[666]? = some (Cond.code yX4_hear cX4_hear 5 none) from rfl) rfl
set_option maxRecDepth 50000 in
theorem cw_30 : zcw 30 ∈ lw_good := lw_good_of (i := 670) (show tables_1[670]? = some (Cond.code yX4_isCause cX4_isCause 4 (some .boolean)) from rfl) rfl
set_option maxRecDepth 50000 in
theorem cw_31 : zcw 31 ∈ lw_good := lw_good_of (i := 571) (show tables_1[571]? = some (Cond.code yX4_fail cX4_fail 3 (some .boolean)) from rfl) rfl
set_option maxRecDepth 50000 in
theorem cw_32 : zcw 32 ∈ lw_good := lw_good_of (i := 510) (show tables_1[510]? = some (Cond.code yX4_readLine cX4_readLine 3 (some .boolean)) from rfl) rfl
set_option maxRecDepth 50000 in
theorem cw_33 : zcw 33 ∈ lw_good := lw_good_of (i := 596) (show tables_1[596]? = some (Cond.code yX4_isFirst cX4_isFirst 3 (some .boolean)) from rfl) rfl
set_option maxRecDepth 50000 in
theorem cw_34 : zcw 34 ∈ lw_good := lw_good_of (i := 567) (show tables_1[567]? = some (Cond.code yX4_readJuror cX4_readJuror 4 (some .boolean)) from rfl) rfl
set_option maxRecDepth 50000 in
theorem cw_35 : zcw 35 ∈ lw_good := lw_good_of (i := 591) (show tables_1[591]? = some (Cond.code yX4_readTales cX4_readTales 4 (some .boolean)) from rfl) rfl
set_option maxRecDepth 50000 in
theorem cw_36 : zcw 36 ∈ lw_good := lw_good_of (i := 575) (show tables_1[575]? = some (Cond.code yX4_readPerson cX4_readPerson 3 (some .boolean)) from rfl) rfl
set_option maxRecDepth 50000 in
theorem cw_37 : zcw 37 ∈ lw_good := lw_good_of (i := 600) (show tables_1[600]? = some (Cond.code yX4_readSeats cX4_readSeats 3 (some .boolean)) from rfl) rfl
set_option maxRecDepth 50000 in
theorem cw_38 : zcw 38 ∈ lw_good := lw_good_of (i := 605) (show tables_1[605]? = some (Cond.code yX4_readSpare cX4_readSpare 3 (some .boolean)) from rfl) rfl
set_option maxRecDepth 50000 in
theorem cw_39 : zcw 39 ∈ lw_good := lw_good_of (i := 662) (show tables_1[662]? = some (Cond.code yX4_readGrant cX4_readGrant 2 (some .boolean)) from rfl) rfl
set_option maxRecDepth 50000 in
theorem cw_40 : zcw 40 ∈ lw_good := lw_good_of (i := 610) (show tables_1[610]? = some (Cond.code yX4_readTurns cX4_readTurns 4 (some .boolean)) from rfl) rfl
set_option maxRecDepth 50000 in
theorem cw_41 : zcw 41 ∈ lw_good := lw_good_of (i := 620) (show tables_1[620]? = some (Cond.code yX4_readSideOfCause cX4_readSideOfCause 2 (some .boolean)) from rfl) rfl
set_option maxRecDepth 50000 in
theorem cw_42 : zcw 42 ∈ lw_good := lw_good_of (i := 624) (show tables_1[624]? = some (Cond.code yX4_readAny cX4_readAny 4 (some .boolean)) from rfl) rfl
set_option maxRecDepth 50000 in
theorem cw_43 : zcw 43 ∈ lw_good := lw_good_of (i := 628) (show tables_1[628]? = some (Cond.code yX4_readEach cX4_readEach 4 (some .boolean)) from rfl) rfl
set_option maxRecDepth 50000 in
theorem cw_44 : zcw 44 ∈ lw_good := lw_good_of (i := 632) (show tables_1[632]? = some (Cond.code yX4_readOne cX4_readOne 6 (some .boolean)) from rfl) rfl
set_option maxRecDepth 50000 in
theorem cw_45 : zcw 45 ∈ lw_good := lw_good_of (i := 637) (show tables_1[637]? = some (Cond.code yX4_readComparison cX4_readComparison 4 (some .boolean)) from rfl) rfl
set_option maxRecDepth 50000 in
theorem cw_46 : zcw 46 ∈ lw_good := lw_good_of (i := 641) (show tables_1[641]? = some (Cond.code yX4_readOperand cX4_readOperand 1 (some .boolean)) from rfl) rfl
set_option maxRecDepth 50000 in
theorem cw_47 : zcw 47 ∈ lw_good := lw_good_of (i := 579) (show tables_1[579]? = some (Cond.code yX4_readNumber cX4_readNumber 8 (some .boolean)) from rfl) rfl
set_option maxRecDepth 50000 in
theorem cw_48 : zcw 48 ∈ lw_good := lw_good_of (i := 654) (show tables_1[654]? = some (Cond.code yX4_readSign cX4_readSign 2 (some .boolean)) from rfl) rfl
set_option maxRecDepth 50000 in
theorem cw_49 : zcw 49 ∈ lw_good := lw_good_of (i := 506) (show tables_1[506]? = some (Cond.code yX4_skipBlanks cX4_skipBlanks 2 none) from rfl) rfl
set_option maxRecDepth 50000 in
theorem cw_50 : zcw 50 ∈ lw_good := lw_good_of (i := 583) (show tables_1[583]? = some (Cond.code yX4_isHere cX4_isHere 2 (some .boolean)) from rfl) rfl
set_option maxRecDepth 50000 in
theorem cw_51 : zcw 51 ∈ lw_good := lw_good_of (i := 614) (show tables_1[614]? = some (Cond.code yX4_sideHere cX4_sideHere 1 (some .int)) from rfl) rfl
set_option maxRecDepth 50000 in
theorem cw_52 : zcw 52 ∈ lw_good := lw_good_of (i := 515) (show tables_1[515]? = some (Cond.code yX4_takeWord cX4_takeWord 4 (some .boolean)) from rfl) rfl
set_option maxRecDepth 50000 in
theorem cw_53 : zcw 53 ∈ lw_good := lw_good_of (i := 36) (show tables_1[36]? = some (Cond.code yX5_init cX5_init 1 none) from rfl) rfl
set_option maxRecDepth 50000 in
theorem cw_54 : zcw 54 ∈ lw_good := lw_good_of (i := 43) (show tables_1[43]? = some (Cond.code yX5_clear cX5_clear 1 none) from rfl) rfl
set_option maxRecDepth 50000 in
theorem cw_55 : zcw 55 ∈ lw_good := lw_good_of (i := 772) (show tables_1[772]? = some (Cond.code yX5_copyFrom cX5_copyFrom 2 none) from rfl) rfl
set_option maxRecDepth 50000 in
theorem cw_56 : zcw 56 ∈ lw_good := lw_good_of (i := 829) (show tables_1[829]? = some (Cond.code yX5_people cX5_people 1 (some .int)) from rfl) rfl
set_option maxRecDepth 50000 in
theorem cw_57 : zcw 57 ∈ lw_good := lw_good_of (i := 689) (show tables_1[689]? = some (Cond.code yX5_fillRow cX5_fillRow 2 none) from rfl) rfl
set_option maxRecDepth 50000 in
theorem cw_58 : zcw 58 ∈ lw_good := lw_good_of (i := 693) (show tables_1[693]? = some (Cond.code yX5_movePerson cX5_movePerson 3 none) from rfl) rfl
set_option maxRecDepth 50000 in
theorem cw_59 : zcw 59 ∈ lw_good := lw_good_of (i := 697) (show tables_1[697]? = some (Cond.code yX5_addToRow cX5_addToRow 2 none) from rfl) rfl
set_option maxRecDepth 50000 in
theorem cw_60 : zcw 60 ∈ lw_good := lw_good_of (i := 718) (show tables_1[718]? = some (Cond.code yX5_placeInRow cX5_placeInRow 3 (some .int)) from rfl) rfl
set_option maxRecDepth 50000 in
theorem cw_61 : zcw 61 ∈ lw_good := lw_good_of (i := 366) (show tables_1[366]? = some (Cond.code yX5_isStruck cX5_isStruck 2 (some .boolean)) from rfl) rfl
set_option maxRecDepth 50000 in
theorem cw_62 : zcw 62 ∈ lw_good := lw_good_of (i := 817) (show tables_1[817]? = some (Cond.code yX5_howManyStruck cX5_howManyStruck 3 (some .int)) from rfl) rfl
set_option maxRecDepth 50000 in
theorem cw_63 : zcw 63 ∈ lw_good := lw_good_of (i := 747) (show tables_1[747]? = some (Cond.code yX5_unstruck cX5_unstruck 4 (some .int)) from rfl) rfl
set_option maxRecDepth 50000 in
theorem cw_64 : zcw 64 ∈ lw_good := lw_good_of (i := 743) (show tables_1[743]? = some (Cond.code yX5_isInBox cX5_isInBox 3 (some .boolean)) from rfl) rfl
set_option maxRecDepth 50000 in
theorem cw_65 : zcw 65 ∈ lw_good := lw_good_of (i := 738) (show tables_1[738]? = some (Cond.code yX5_mayStrike cX5_mayStrike 2 (some .boolean)) from rfl) rfl
set_option maxRecDepth 50000 in
theorem cw_66 : zcw 66 ∈ lw_good := lw_good_of (i := 779) (show tables_1[779]? = some (Cond.code yX5_endTurn cX5_endTurn 1 none) from rfl) rfl
set_option maxRecDepth 50000 in
theorem cw_67 : zcw 67 ∈ lw_good := lw_good_of (i := 27) (show tables_1[27]? = some (Cond.code yX6_init cX6_init 2 none) from rfl) rfl
set_option maxRecDepth 50000 in
theorem cw_68 : zcw 68 ∈ lw_good := lw_good_of (i := 334) (show tables_1[334]? = some (Cond.code yX6_feed cX6_feed 6 (some .int)) from rfl) rfl
set_option maxRecDepth 50000 in
theorem cw_69 : zcw 69 ∈ lw_good := lw_good_of (i := 426) (show tables_1[426]? = some (Cond.code yX6_text cX6_text 4 (some .int)) from rfl) rfl
set_option maxRecDepth 50000 in
theorem cw_70 : zcw 70 ∈ lw_good := lw_good_of (i := 342) (show tables_1[342]? = some (Cond.code yX6_fault cX6_fault 1 (some .int)) from rfl) rfl
set_option maxRecDepth 50000 in
theorem cw_71 : zcw 71 ∈ lw_good := lw_good_of (i := 710) (show tables_1[710]? = some (Cond.code yX6_strike cX6_strike 3 (some .int)) from rfl) rfl
set_option maxRecDepth 50000 in
theorem cw_72 : zcw 72 ∈ lw_good := lw_good_of (i := 786) (show tables_1[786]? = some (Cond.code yX6_pass cX6_pass 1 (some .int)) from rfl) rfl
set_option maxRecDepth 50000 in
theorem cw_73 : zcw 73 ∈ lw_good := lw_good_of (i := 794) (show tables_1[794]? = some (Cond.code yX6_rule cX6_rule 5 (some .int)) from rfl) rfl
set_option maxRecDepth 50000 in
theorem cw_74 : zcw 74 ∈ lw_good := lw_good_of (i := 805) (show tables_1[805]? = some (Cond.code yX6_order cX6_order 5 (some .int)) from rfl) rfl
set_option maxRecDepth 50000 in
theorem cw_75 : zcw 75 ∈ lw_good := lw_good_of (i := 346) (show tables_1[346]? = some (Cond.code yX6_undo cX6_undo 1 (some .int)) from rfl) rfl
set_option maxRecDepth 50000 in
theorem cw_76 : zcw 76 ∈ lw_good := lw_good_of (i := 813) (show tables_1[813]? = some (Cond.code yX6_told cX6_told 2 (some .int)) from rfl) rfl
set_option maxRecDepth 50000 in
theorem cw_77 : zcw 77 ∈ lw_good := lw_good_of (i := 825) (show tables_1[825]? = some (Cond.code yX6_juror cX6_juror 3 (some .int)) from rfl) rfl
set_option maxRecDepth 50000 in
theorem cw_78 : zcw 78 ∈ lw_good := lw_good_of (i := 839) (show tables_1[839]? = some (Cond.code yX6_seat cX6_seat 3 (some .int)) from rfl) rfl
set_option maxRecDepth 50000 in
theorem cw_79 : zcw 79 ∈ lw_good := lw_good_of (i := 849) (show tables_1[849]? = some (Cond.code yX6_turn cX6_turn 2 (some .int)) from rfl) rfl
set_option maxRecDepth 50000 in
theorem cw_80 : zcw 80 ∈ lw_good := lw_good_of (i := 861) (show tables_1[861]? = some (Cond.code yX6_worth cX6_worth 2 (some .int)) from rfl) rfl
set_option maxRecDepth 50000 in
theorem cw_81 : zcw 81 ∈ lw_good := lw_good_of (i := 874) (show tables_1[874]? = some (Cond.code yX6_value cX6_value 2 (some .int)) from rfl) rfl
set_option maxRecDepth 50000 in
theorem cw_82 : zcw 82 ∈ lw_good := lw_good_of (i := 354) (show tables_1[354]? = some (Cond.code yX6_best cX6_best 1 (some .int)) from rfl) rfl
set_option maxRecDepth 50000 in
theorem cw_83 : zcw 83 ∈ lw_good := lw_good_of (i := 881) (show tables_1[881]? = some (Cond.code yX6_line cX6_line 2 (some .int)) from rfl) rfl
set_option maxRecDepth 50000 in
theorem cw_84 : zcw 84 ∈ lw_good := lw_good_of (i := 896) (show tables_1[896]? = some (Cond.code yX6_cost cX6_cost 3 (some .int)) from rfl) rfl
set_option maxRecDepth 50000 in
theorem cw_85 : zcw 85 ∈ lw_good := lw_good_of (i := 397) (show tables_1[397]? = some (Cond.code yX6_states cX6_states 1 (some .int)) from rfl) rfl
set_option maxRecDepth 50000 in
theorem cw_86 : zcw 86 ∈ lw_good := lw_good_of (i := 912) (show tables_1[912]? = some (Cond.code yX6_more cX6_more 4 (some .int)) from rfl) rfl
set_option maxRecDepth 50000 in
theorem cw_87 : zcw 87 ∈ lw_good := lw_good_of (i := 923) (show tables_1[923]? = some (Cond.code yX6_other cX6_other 3 (some .int)) from rfl) rfl
set_option maxRecDepth 50000 in
theorem cw_88 : zcw 88 ∈ lw_good := lw_good_of (i := 930) (show tables_1[930]? = some (Cond.code yX6_without cX6_without 3 (some .int)) from rfl) rfl
set_option maxRecDepth 50000 in
theorem cw_89 : zcw 89 ∈ lw_good := lw_good_of (i := 939) (show tables_1[939]? = some (Cond.code yX6_plain cX6_plain 3 (some .int)) from rfl) rfl
set_option maxRecDepth 50000 in
theorem cw_90 : zcw 90 ∈ lw_good := lw_good_of (i := 947) (show tables_1[947]? = some (Cond.code yX6_once cX6_once 4 (some .int)) from rfl) rfl
set_option maxRecDepth 50000 in
theorem cw_91 : zcw 91 ∈ lw_good := lw_good_of (i := 982) (show tables_1[982]? = some (Cond.code yX6_count cX6_count 8 (some .int)) from rfl) rfl
set_option maxRecDepth 50000 in
theorem cw_92 : zcw 92 ∈ lw_good := lw_good_of (i := 413) (show tables_1[413]? = some (Cond.code yX6_print cX6_print 4 (some .long)) from rfl) rfl
set_option maxRecDepth 50000 in
theorem cw_93 : zcw 93 ∈ lw_good := lw_good_of (i := 418) (show tables_1[418]? = some (Cond.code yX6_status cX6_status 2 (some .int)) from rfl) rfl
set_option maxRecDepth 50000 in
theorem cw_94 : zcw 94 ∈ lw_good := lw_good_of (i := 865) (show tables_1[865]? = some (Cond.code yX6_needSide cX6_needSide 2 none) from rfl) rfl
set_option maxRecDepth 50000 in
theorem cw_95 : zcw 95 ∈ lw_good := lw_good_of (i := 714) (show tables_1[714]? = some (Cond.code yX6_needInRow cX6_needInRow 2 none) from rfl) rfl
set_option maxRecDepth 50000 in
theorem cw_96 : zcw 96 ∈ lw_good := lw_good_of (i := 853) (show tables_1[853]? = some (Cond.code yX6_needTurn cX6_needTurn 2 none) from rfl) rfl
set_option maxRecDepth 50000 in
theorem cw_97 : zcw 97 ∈ lw_good := lw_good_of (i := 797) (show tables_1[797]? = some (Cond.code yX6_isRule cX6_isRule 2 (some .boolean)) from rfl) rfl
set_option maxRecDepth 50000 in
theorem cw_98 : zcw 98 ∈ lw_good := lw_good_of (i := 338) (show tables_1[338]? = some (Cond.code yX6_putNumber cX6_putNumber 3 none) from rfl) rfl
set_option maxRecDepth 50000 in
theorem cw_99 : zcw 99 ∈ lw_good := lw_good_of (i := 497) (show tables_1[497]? = some (Cond.code yX6_freeTable cX6_freeTable 1 (some (.object "StrikeBench$Table"))) from rfl) rfl
set_option maxRecDepth 50000 in
theorem cw_100 : zcw 100 ∈ lw_good := lw_good_of (i := 768) (show tables_1[768]? = some (Cond.code yX6_copyOfNow cX6_copyOfNow 2 (some (.object "StrikeBench$Table"))) from rfl) rfl
set_option maxRecDepth 50000 in
theorem cw_101 : zcw 101 ∈ lw_good := lw_good_of (i := 701) (show tables_1[701]? = some (Cond.code yX6_keepAct cX6_keepAct 1 none) from rfl) rfl
set_option maxRecDepth 50000 in
theorem cw_102 : zcw 102 ∈ lw_good := lw_good_of (i := 350) (show tables_1[350]? = some (Cond.code yX6_moveTo cX6_moveTo 2 none) from rfl) rfl
set_option maxRecDepth 50000 in
theorem cw_103 : zcw 103 ∈ lw_good := lw_good_of (i := 358) (show tables_1[358]? = some (Cond.code yX6_lookAhead cX6_lookAhead 1 none) from rfl) rfl
set_option maxRecDepth 50000 in
theorem cw_104 : zcw 104 ∈ lw_good := lw_good_of (i := 916) (show tables_1[916]? = some (Cond.code yX6_valueIf cX6_valueIf 5 (some .int)) from rfl) rfl
set_option maxRecDepth 50000 in
theorem cw_105 : zcw 105 ∈ lw_good := lw_good_of (i := 987) (show tables_1[987]? = some (Cond.code yX7_thrown cX7_thrown 1 (some .int)) from rfl) rfl
set_option maxRecDepth 50000 in
theorem cw_106 : zcw 106 ∈ lw_good := lw_good_of (i := 1122) (show tables_1[1122]? = some (Cond.code yX7_isFine cX7_isFine 4 (some .boolean)) from rfl) rfl
set_option maxRecDepth 50000 in
theorem cw_107 : zcw 107 ∈ lw_good := lw_good_of (i := 1118) (show tables_1[1118]? = some (Cond.code yX7_lies cX7_lies 6 (some .boolean)) from rfl) rfl
set_option maxRecDepth 50000 in
theorem cw_108 : zcw 108 ∈ lw_good := lw_good_of (i := 1176) (show tables_1[1176]? = some (Cond.code yX7_has cX7_has 2 (some .boolean)) from rfl) rfl
set_option maxRecDepth 50000 in
theorem cw_109 : zcw 109 ∈ lw_good := lw_good_of (i := 992) (show tables_1[992]? = some (Cond.code yX7_init cX7_init 1 none) from rfl) rfl
set_option maxRecDepth 50000 in
theorem cw_110 : zcw 110 ∈ lw_good := lw_good_of (i := 996) (show tables_1[996]? = some (Cond.code yX7_begins cX7_begins 2 none) from rfl) rfl
set_option maxRecDepth 50000 in
theorem cw_111 : zcw 111 ∈ lw_good := lw_good_of (i := 1257) (show tables_1[1257]? = some (Cond.code yX7_keeps cX7_keeps 2 none) from rfl) rfl
set_option maxRecDepth 50000 in
theorem cw_112 : zcw 112 ∈ lw_good := lw_good_of (i := 1103) (show tables_1[1103]? = some (Cond.code yX7_undo cX7_undo 2 (some .int)) from rfl) rfl
set_option maxRecDepth 50000 in
theorem cw_113 : zcw 113 ∈ lw_good := lw_good_of (i := 1107) (show tables_1[1107]? = some (Cond.code yX7_feed cX7_feed 6 (some .int)) from rfl) rfl
set_option maxRecDepth 50000 in
theorem cw_114 : zcw 114 ∈ lw_good := lw_good_of (i := 1111) (show tables_1[1111]? = some (Cond.code yX7_puts cX7_puts 3 none) from rfl) rfl
set_option maxRecDepth 50000 in
theorem cw_115 : zcw 115 ∈ lw_good := lw_good_of (i := 1149) (show tables_1[1149]? = some (Cond.code yX7_wrong cX7_wrong 3 none) from rfl) rfl
set_option maxRecDepth 50000 in
theorem cw_116 : zcw 116 ∈ lw_good := lw_good_of (i := 1126) (show tables_1[1126]? = some (Cond.code yX7_sign cX7_sign 1 (some .int)) from rfl) rfl
set_option maxRecDepth 50000 in
theorem cw_117 : zcw 117 ∈ lw_good := lw_good_of (i := 1140) (show tables_1[1140]? = some (Cond.code yX7_isSmall cX7_isSmall 2 (some .boolean)) from rfl) rfl
set_option maxRecDepth 50000 in
theorem cw_118 : zcw 118 ∈ lw_good := lw_good_of (i := 1161) (show tables_1[1161]? = some (Cond.code yX7_isFigure cX7_isFigure 2 (some .boolean)) from rfl) rfl
set_option maxRecDepth 50000 in
theorem cw_119 : zcw 119 ∈ lw_good := lw_good_of (i := 1135) (show tables_1[1135]? = some (Cond.code yX7_isHere cX7_isHere 3 (some .boolean)) from rfl) rfl
set_option maxRecDepth 50000 in
theorem cw_120 : zcw 120 ∈ lw_good := lw_good_of (i := 1229) (show tables_1[1229]? = some (Cond.code yX7_passesWord cX7_passesWord 2 (some .boolean)) from rfl) rfl
set_option maxRecDepth 50000 in
theorem cw_121 : zcw 121 ∈ lw_good := lw_good_of (i := 1157) (show tables_1[1157]? = some (Cond.code yX7_passes cX7_passes 2 (some .boolean)) from rfl) rfl
set_option maxRecDepth 50000 in
theorem cw_122 : zcw 122 ∈ lw_good := lw_good_of (i := 1213) (show tables_1[1213]? = some (Cond.code yX7_needs cX7_needs 2 none) from rfl) rfl
set_option maxRecDepth 50000 in
theorem cw_123 : zcw 123 ∈ lw_good := lw_good_of (i := 1153) (show tables_1[1153]? = some (Cond.code yX7_number cX7_number 6 (some .int)) from rfl) rfl
set_option maxRecDepth 50000 in
theorem cw_124 : zcw 124 ∈ lw_good := lw_good_of (i := 1209) (show tables_1[1209]? = some (Cond.code yX7_adds cX7_adds 2 none) from rfl) rfl
set_option maxRecDepth 50000 in
theorem cw_125 : zcw 125 ∈ lw_good := lw_good_of (i := 1220) (show tables_1[1220]? = some (Cond.code yX7_field cX7_field 1 (some (.object "java/lang/String"))) from rfl) rfl
set_option maxRecDepth 50000 in
theorem cw_126 : zcw 126 ∈ lw_good := lw_good_of (i := 1192) (show tables_1[1192]? = some (Cond.code yX7_either cX7_either 1 none) from rfl) rfl
set_option maxRecDepth 50000 in
theorem cw_127 : zcw 127 ∈ lw_good := lw_good_of (i := 1196) (show tables_1[1196]? = some (Cond.code yX7_both cX7_both 1 none) from rfl) rfl
set_option maxRecDepth 50000 in
theorem cw_128 : zcw 128 ∈ lw_good := lw_good_of (i := 1205) (show tables_1[1205]? = some (Cond.code yX7_opens cX7_opens 2 (some .boolean)) from rfl) rfl
set_option maxRecDepth 50000 in
theorem cw_129 : zcw 129 ∈ lw_good := lw_good_of (i := 1200) (show tables_1[1200]? = some (Cond.code yX7_part cX7_part 2 none) from rfl) rfl
set_option maxRecDepth 50000 in
theorem cw_130 : zcw 130 ∈ lw_good := lw_good_of (i := 1217) (show tables_1[1217]? = some (Cond.code yX7_quantity cX7_quantity 2 none) from rfl) rfl
set_option maxRecDepth 50000 in
theorem cw_131 : zcw 131 ∈ lw_good := lw_good_of (i := 1188) (show tables_1[1188]? = some (Cond.code yX7_condition cX7_condition 2 none) from rfl) rfl
set_option maxRecDepth 50000 in
theorem cw_132 : zcw 132 ∈ lw_good := lw_good_of (i := 1173) (show tables_1[1173]? = some (Cond.code yX7_isOnce cX7_isOnce 3 (some .boolean)) from rfl) rfl
set_option maxRecDepth 50000 in
theorem cw_133 : zcw 133 ∈ lw_good := lw_good_of (i := 1145) (show tables_1[1145]? = some (Cond.code yX7_person cX7_person 6 none) from rfl) rfl
set_option maxRecDepth 50000 in
theorem cw_134 : zcw 134 ∈ lw_good := lw_good_of (i := 1168) (show tables_1[1168]? = some (Cond.code yX7_tales cX7_tales 2 none) from rfl) rfl
set_option maxRecDepth 50000 in
theorem cw_135 : zcw 135 ∈ lw_good := lw_good_of (i := 1182) (show tables_1[1182]? = some (Cond.code yX7_turnsRead cX7_turnsRead 3 none) from rfl) rfl
set_option maxRecDepth 50000 in
theorem cw_136 : zcw 136 ∈ lw_good := lw_good_of (i := 1237) (show tables_1[1237]? = some (Cond.code yX7_causeRead cX7_causeRead 3 none) from rfl) rfl
set_option maxRecDepth 50000 in
theorem cw_137 : zcw 137 ∈ lw_good := lw_good_of (i := 1130) (show tables_1[1130]? = some (Cond.code yX7_lineRead cX7_lineRead 1 none) from rfl) rfl
set_option maxRecDepth 50000 in
theorem cw_138 : zcw 138 ∈ lw_good := lw_good_of (i := 1115) (show tables_1[1115]? = some (Cond.code yX7_text cX7_text 3 (some .int)) from rfl) rfl
set_option maxRecDepth 50000 in
theorem cw_139 : zcw 139 ∈ lw_good := lw_good_of (i := 1261) (show tables_1[1261]? = some (Cond.code yX7_fault cX7_fault 1 (some .int)) from rfl) rfl
set_option maxRecDepth 50000 in
theorem cw_140 : zcw 140 ∈ lw_good := lw_good_of (i := 1249) (show tables_1[1249]? = some (Cond.code yX7_fieldOf cX7_fieldOf 3 (some .int)) from rfl) rfl
set_option maxRecDepth 50000 in
theorem cw_141 : zcw 141 ∈ lw_good := lw_good_of (i := 1245) (show tables_1[1245]? = some (Cond.code yX7_holds cX7_holds 9 (some .boolean)) from rfl) rfl
set_option maxRecDepth 50000 in
theorem cw_142 : zcw 142 ∈ lw_good := lw_good_of (i := 1241) (show tables_1[1241]? = some (Cond.code yX7_lays cX7_lays 7 none) from rfl) rfl
set_option maxRecDepth 50000 in
theorem cw_143 : zcw 143 ∈ lw_good := lw_good_of (i := 1253) (show tables_1[1253]? = some (Cond.code yX7_joins cX7_joins 2 none) from rfl) rfl
set_option maxRecDepth 50000 in
theorem cw_144 : zcw 144 ∈ lw_good := lw_good_of (i := 1277) (show tables_1[1277]? = some (Cond.code yX7_laysGame cX7_laysGame 2 none) from rfl) rfl
set_option maxRecDepth 50000 in
theorem cw_145 : zcw 145 ∈ lw_good := lw_good_of (i := 1281) (show tables_1[1281]? = some (Cond.code yX7_struckNow cX7_struckNow 3 (some .int)) from rfl) rfl
set_option maxRecDepth 50000 in
theorem cw_146 : zcw 146 ∈ lw_good := lw_good_of (i := 1360) (show tables_1[1360]? = some (Cond.code yX7_worthTo cX7_worthTo 3 (some .int)) from rfl) rfl
set_option maxRecDepth 50000 in
theorem cw_147 : zcw 147 ∈ lw_good := lw_good_of (i := 1293) (show tables_1[1293]? = some (Cond.code yX7_aheadOf cX7_aheadOf 5 (some .int)) from rfl) rfl
set_option maxRecDepth 50000 in
theorem cw_148 : zcw 148 ∈ lw_good := lw_good_of (i := 1289) (show tables_1[1289]? = some (Cond.code yX7_isBoxed cX7_isBoxed 3 (some .boolean)) from rfl) rfl
set_option maxRecDepth 50000 in
theorem cw_149 : zcw 149 ∈ lw_good := lw_good_of (i := 1339) (show tables_1[1339]? = some (Cond.code yX7_isSpare cX7_isSpare 3 (some .boolean)) from rfl) rfl
set_option maxRecDepth 50000 in
theorem cw_150 : zcw 150 ∈ lw_good := lw_good_of (i := 1356) (show tables_1[1356]? = some (Cond.code yX7_endWorth cX7_endWorth 5 (some .int)) from rfl) rfl
set_option maxRecDepth 50000 in
theorem cw_151 : zcw 151 ∈ lw_good := lw_good_of (i := 1285) (show tables_1[1285]? = some (Cond.code yX7_canStrike cX7_canStrike 3 (some .boolean)) from rfl) rfl
set_option maxRecDepth 50000 in
theorem cw_152 : zcw 152 ∈ lw_good := lw_good_of (i := 1372) (show tables_1[1372]? = some (Cond.code yX7_works cX7_works 3 none) from rfl) rfl
set_option maxRecDepth 50000 in
theorem cw_153 : zcw 153 ∈ lw_good := lw_good_of (i := 1380) (show tables_1[1380]? = some (Cond.code yX7_valueAt cX7_valueAt 4 (some .int)) from rfl) rfl
set_option maxRecDepth 50000 in
theorem cw_154 : zcw 154 ∈ lw_good := lw_good_of (i := 1376) (show tables_1[1376]? = some (Cond.code yX7_look cX7_look 11 none) from rfl) rfl
set_option maxRecDepth 50000 in
theorem cw_155 : zcw 155 ∈ lw_good := lw_good_of (i := 1368) (show tables_1[1368]? = some (Cond.code yX7_worksNow cX7_worksNow 1 none) from rfl) rfl
set_option maxRecDepth 50000 in
theorem cw_156 : zcw 156 ∈ lw_good := lw_good_of (i := 1273) (show tables_1[1273]? = some (Cond.code yX7_placeOf cX7_placeOf 3 (some .int)) from rfl) rfl
set_option maxRecDepth 50000 in
theorem cw_157 : zcw 157 ∈ lw_good := lw_good_of (i := 1269) (show tables_1[1269]? = some (Cond.code yX7_isAct cX7_isAct 2 (some .boolean)) from rfl) rfl
set_option maxRecDepth 50000 in
theorem cw_158 : zcw 158 ∈ lw_good := lw_good_of (i := 1297) (show tables_1[1297]? = some (Cond.code yX7_goesOn cX7_goesOn 1 none) from rfl) rfl
set_option maxRecDepth 50000 in
theorem cw_159 : zcw 159 ∈ lw_good := lw_good_of (i := 1265) (show tables_1[1265]? = some (Cond.code yX7_strike cX7_strike 2 (some .int)) from rfl) rfl
set_option maxRecDepth 50000 in
theorem cw_160 : zcw 160 ∈ lw_good := lw_good_of (i := 1301) (show tables_1[1301]? = some (Cond.code yX7_pass cX7_pass 1 (some .int)) from rfl) rfl
set_option maxRecDepth 50000 in
theorem cw_161 : zcw 161 ∈ lw_good := lw_good_of (i := 1305) (show tables_1[1305]? = some (Cond.code yX7_rule cX7_rule 5 (some .int)) from rfl) rfl
set_option maxRecDepth 50000 in
theorem cw_162 : zcw 162 ∈ lw_good := lw_good_of (i := 1311) (show tables_1[1311]? = some (Cond.code yX7_order cX7_order 4 (some .int)) from rfl) rfl
set_option maxRecDepth 50000 in
theorem cw_163 : zcw 163 ∈ lw_good := lw_good_of (i := 1322) (show tables_1[1322]? = some (Cond.code yX7_excused cX7_excused 3 (some .int)) from rfl) rfl
set_option maxRecDepth 50000 in
theorem cw_164 : zcw 164 ∈ lw_good := lw_good_of (i := 1326) (show tables_1[1326]? = some (Cond.code yX7_struckMany cX7_struckMany 3 (some .int)) from rfl) rfl
set_option maxRecDepth 50000 in
theorem cw_165 : zcw 165 ∈ lw_good := lw_good_of (i := 1317) (show tables_1[1317]? = some (Cond.code yX7_told cX7_told 2 (some .int)) from rfl) rfl
set_option maxRecDepth 50000 in
theorem cw_166 : zcw 166 ∈ lw_good := lw_good_of (i := 1330) (show tables_1[1330]? = some (Cond.code yX7_juror cX7_juror 4 (some .int)) from rfl) rfl
set_option maxRecDepth 50000 in
theorem cw_167 : zcw 167 ∈ lw_good := lw_good_of (i := 1335) (show tables_1[1335]? = some (Cond.code yX7_seat cX7_seat 6 (some .int)) from rfl) rfl
set_option maxRecDepth 50000 in
theorem cw_168 : zcw 168 ∈ lw_good := lw_good_of (i := 1344) (show tables_1[1344]? = some (Cond.code yX7_turn cX7_turn 2 (some .int)) from rfl) rfl
set_option maxRecDepth 50000 in
theorem cw_169 : zcw 169 ∈ lw_good := lw_good_of (i := 1352) (show tables_1[1352]? = some (Cond.code yX7_isSide cX7_isSide 3 (some .boolean)) from rfl) rfl
set_option maxRecDepth 50000 in
theorem cw_170 : zcw 170 ∈ lw_good := lw_good_of (i := 1348) (show tables_1[1348]? = some (Cond.code yX7_worth cX7_worth 2 (some .int)) from rfl) rfl
set_option maxRecDepth 50000 in
theorem cw_171 : zcw 171 ∈ lw_good := lw_good_of (i := 1364) (show tables_1[1364]? = some (Cond.code yX7_value cX7_value 2 (some .int)) from rfl) rfl
set_option maxRecDepth 50000 in
theorem cw_172 : zcw 172 ∈ lw_good := lw_good_of (i := 1388) (show tables_1[1388]? = some (Cond.code yX7_lineAt cX7_lineAt 5 (some .int)) from rfl) rfl
set_option maxRecDepth 50000 in
theorem cw_173 : zcw 173 ∈ lw_good := lw_good_of (i := 1384) (show tables_1[1384]? = some (Cond.code yX7_best cX7_best 1 (some .int)) from rfl) rfl
set_option maxRecDepth 50000 in
theorem cw_174 : zcw 174 ∈ lw_good := lw_good_of (i := 1392) (show tables_1[1392]? = some (Cond.code yX7_line cX7_line 2 (some .int)) from rfl) rfl
set_option maxRecDepth 50000 in
theorem cw_175 : zcw 175 ∈ lw_good := lw_good_of (i := 1396) (show tables_1[1396]? = some (Cond.code yX7_cost cX7_cost 4 (some .int)) from rfl) rfl
set_option maxRecDepth 50000 in
theorem cw_176 : zcw 176 ∈ lw_good := lw_good_of (i := 1400) (show tables_1[1400]? = some (Cond.code yX7_states cX7_states 5 (some .int)) from rfl) rfl
set_option maxRecDepth 50000 in
theorem cw_177 : zcw 177 ∈ lw_good := lw_good_of (i := 1404) (show tables_1[1404]? = some (Cond.code yX7_more cX7_more 4 (some .int)) from rfl) rfl
set_option maxRecDepth 50000 in
theorem cw_178 : zcw 178 ∈ lw_good := lw_good_of (i := 1408) (show tables_1[1408]? = some (Cond.code yX7_other cX7_other 3 (some .int)) from rfl) rfl
set_option maxRecDepth 50000 in
theorem cw_179 : zcw 179 ∈ lw_good := lw_good_of (i := 1412) (show tables_1[1412]? = some (Cond.code yX7_without cX7_without 5 (some .int)) from rfl) rfl
set_option maxRecDepth 50000 in
theorem cw_180 : zcw 180 ∈ lw_good := lw_good_of (i := 1420) (show tables_1[1420]? = some (Cond.code yX7_plainAct cX7_plainAct 7 (some .int)) from rfl) rfl
set_option maxRecDepth 50000 in
theorem cw_181 : zcw 181 ∈ lw_good := lw_good_of (i := 1416) (show tables_1[1416]? = some (Cond.code yX7_plain cX7_plain 6 (some .int)) from rfl) rfl
set_option maxRecDepth 50000 in
theorem cw_182 : zcw 182 ∈ lw_good := lw_good_of (i := 1429) (show tables_1[1429]? = some (Cond.code yX7_leftOf cX7_leftOf 4 (some .int)) from rfl) rfl
set_option maxRecDepth 50000 in
theorem cw_183 : zcw 183 ∈ lw_good := lw_good_of (i := 1440) (show tables_1[1440]? = some (Cond.code yX7_bits cX7_bits 3 (some .int)) from rfl) rfl
set_option maxRecDepth 50000 in
theorem cw_184 : zcw 184 ∈ lw_good := lw_good_of (i := 1437) (show tables_1[1437]? = some (Cond.code yX7_canName cX7_canName 4 (some .boolean)) from rfl) rfl
set_option maxRecDepth 50000 in
theorem cw_185 : zcw 185 ∈ lw_good := lw_good_of (i := 1445) (show tables_1[1445]? = some (Cond.code yX7_numbers cX7_numbers 4 (some .int)) from rfl) rfl
set_option maxRecDepth 50000 in
theorem cw_186 : zcw 186 ∈ lw_good := lw_good_of (i := 1424) (show tables_1[1424]? = some (Cond.code yX7_once cX7_once 11 (some .int)) from rfl) rfl
set_option maxRecDepth 50000 in
theorem cw_187 : zcw 187 ∈ lw_good := lw_good_of (i := 1433) (show tables_1[1433]? = some (Cond.code yX7_laysBest cX7_laysBest 7 none) from rfl) rfl
set_option maxRecDepth 50000 in
theorem cw_188 : zcw 188 ∈ lw_good := lw_good_of (i := 1449) (show tables_1[1449]? = some (Cond.code yX7_count cX7_count 7 (some .int)) from rfl) rfl
set_option maxRecDepth 50000 in
theorem cw_189 : zcw 189 ∈ lw_good := lw_good_of (i := 1454) (show tables_1[1454]? = some (Cond.code yX7_print cX7_print 4 (some .long)) from rfl) rfl
set_option maxRecDepth 50000 in
theorem cw_190 : zcw 190 ∈ lw_good := lw_good_of (i := 1459) (show tables_1[1459]? = some (Cond.code yX7_status cX7_status 2 (some .int)) from rfl) rfl
set_option maxRecDepth 50000 in
theorem cw_191 : zcw 191 ∈ lw_good := lw_good_of (i := 373) (show tables_1[373]? = some (Cond.code yJ6_bitCount_0f7a4 cJ6_bitCount_0f7a4 1 (some .int)) from rfl) rfl
set_option maxRecDepth 50000 in
theorem cw_192 : zcw 192 ∈ lw_good := lw_good_of (i := 519) (show tables_1[519]? = some (Cond.code yJ0_length_8abf5 cJ0_length_8abf5 1 (some .int)) from rfl) rfl
set_option maxRecDepth 50000 in
theorem cw_193 : zcw 193 ∈ lw_good := lw_good_of (i := 529) (show tables_1[529]? = some (Cond.code yJ0_charAt_5068e cJ0_charAt_5068e 2 (some .char)) from rfl) rfl
set_option maxRecDepth 50000 in
theorem cw_194 : zcw 194 ∈ lw_good := lw_good_of (i := 523) (show tables_1[523]? = some (Cond.code yJ0_coder_7d493 cJ0_coder_7d493 1 (some .byte)) from rfl) rfl
set_option maxRecDepth 50000 in
theorem cw_195 : zcw 195 ∈ lw_good := lw_good_of (i := 533) (show tables_1[533]? = some (Cond.code yJ0_isLatin1_aae02 cJ0_isLatin1_aae02 1 (some .boolean)) from rfl) rfl
set_option maxRecDepth 50000 in
theorem cw_196 : zcw 196 ∈ lw_good := lw_good_of (i := 539) (show tables_1[539]? = some (Cond.code yJ0_checkIndex_df160 cJ0_checkIndex_df160 2 none) from rfl) rfl
set_option maxRecDepth 50000 in
theorem cw_197 : zcw 197 ∈ lw_good := lw_good_of (i := 536) (show tables_1[536]? = some (Cond.code yJ1_charAt_3b067 cJ1_charAt_3b067 2 (some .char)) from rfl) rfl
set_option maxRecDepth 50000 in
theorem cw_198 : zcw 198 ∈ lw_good := lw_good_of (i := 46) (show tables_1[46]? = some (Cond.code yJ7_fill_53178 cJ7_fill_53178 4 none) from rfl) rfl
set_option maxRecDepth 50000 in
theorem cw_199 : zcw 199 ∈ lw_good := lw_good_of (i := 544) (show tables_1[544]? = some (Cond.code yJ3_checkIndex_8e157 cJ3_checkIndex_8e157 3 (some .int)) from rfl) rfl
set_option maxRecDepth 50000 in
theorem cw_200 : zcw 200 ∈ lw_good := lw_good_of (i := 421) (show tables_1[421]? = some (Cond.codeWith yL_text cL_text 4 (some .int) [(0, 9, 12, 13)]) from rfl) rfl
set_option maxRecDepth 50000 in
theorem cw_201 : zcw 201 ∈ lw_good := lw_good_of (i := 704) (show tables_1[704]? = some (Cond.codeWith yL_strike cL_strike 4 (some .int) [(0, 9, 12, 18), (0, 9, 15, 20)]) from rfl) rfl
set_option maxRecDepth 50000 in
theorem cw_202 : zcw 202 ∈ lw_good := lw_good_of (i := 782) (show tables_1[782]? = some (Cond.codeWith yL_pass cL_pass 3 (some .int) [(0, 8, 11, 20)]) from rfl) rfl
set_option maxRecDepth 50000 in
theorem cw_203 : zcw 203 ∈ lw_good := lw_good_of (i := 790) (show tables_1[790]? = some (Cond.codeWith yL_rule cL_rule 5 (some .int) [(0, 10, 13, 13)]) from rfl) rfl
set_option maxRecDepth 50000 in
theorem cw_204 : zcw 204 ∈ lw_good := lw_good_of (i := 801) (show tables_1[801]? = some (Cond.codeWith yL_order cL_order 5 (some .int) [(0, 10, 13, 13)]) from rfl) rfl
set_option maxRecDepth 50000 in
theorem cw_205 : zcw 205 ∈ lw_good := lw_good_of (i := 809) (show tables_1[809]? = some (Cond.codeWith yL_told cL_told 4 (some .int) [(0, 9, 12, 13)]) from rfl) rfl
set_option maxRecDepth 50000 in
theorem cw_206 : zcw 206 ∈ lw_good := lw_good_of (i := 821) (show tables_1[821]? = some (Cond.codeWith yL_juror cL_juror 5 (some .int) [(0, 10, 13, 18), (0, 10, 17, 13)]) from rfl) rfl
set_option maxRecDepth 50000 in
theorem cw_207 : zcw 207 ∈ lw_good := lw_good_of (i := 835) (show tables_1[835]? = some (Cond.codeWith yL_seat cL_seat 5 (some .int) [(0, 10, 13, 13)]) from rfl) rfl
set_option maxRecDepth 50000 in
theorem cw_208 : zcw 208 ∈ lw_good := lw_good_of (i := 845) (show tables_1[845]? = some (Cond.codeWith yL_turn cL_turn 4 (some .int) [(0, 9, 12, 18)]) from rfl) rfl
set_option maxRecDepth 50000 in
theorem cw_209 : zcw 209 ∈ lw_good := lw_good_of (i := 857) (show tables_1[857]? = some (Cond.codeWith yL_worth cL_worth 4 (some .int) [(0, 9, 12, 13)]) from rfl) rfl
set_option maxRecDepth 50000 in
theorem cw_210 : zcw 210 ∈ lw_good := lw_good_of (i := 870) (show tables_1[870]? = some (Cond.codeWith yL_value cL_value 4 (some .int) [(0, 9, 12, 13)]) from rfl) rfl
set_option maxRecDepth 50000 in
theorem cw_211 : zcw 211 ∈ lw_good := lw_good_of (i := 877) (show tables_1[877]? = some (Cond.codeWith yL_line cL_line 4 (some .int) [(0, 9, 12, 13)]) from rfl) rfl
set_option maxRecDepth 50000 in
theorem cw_212 : zcw 212 ∈ lw_good := lw_good_of (i := 892) (show tables_1[892]? = some (Cond.codeWith yL_cost cL_cost 4 (some .int) [(0, 9, 12, 18), (0, 9, 15, 20)]) from rfl) rfl
set_option maxRecDepth 50000 in
theorem cw_213 : zcw 213 ∈ lw_good := lw_good_of (i := 908) (show tables_1[908]? = some (Cond.codeWith yL_more cL_more 5 (some .int) [(0, 10, 13, 13)]) from rfl) rfl
set_option maxRecDepth 50000 in
theorem cw_214 : zcw 214 ∈ lw_good := lw_good_of (i := 919) (show tables_1[919]? = some (Cond.codeWith yL_other cL_other 5 (some .int) [(0, 10, 13, 18), (0, 10, 17, 13)]) from rfl) rfl
set_option maxRecDepth 50000 in
theorem cw_215 : zcw 215 ∈ lw_good := lw_good_of (i := 926) (show tables_1[926]? = some (Cond.codeWith yL_without cL_without 5 (some .int) [(0, 10, 13, 18), (0, 10, 17, 13), (0, 10, 21, 20)]) from rfl) rfl
set_option maxRecDepth 50000 in
theorem cw_216 : zcw 216 ∈ lw_good := lw_good_of (i := 935) (show tables_1[935]? = some (Cond.codeWith yL_plain cL_plain 5 (some .int) [(0, 10, 13, 13)]) from rfl) rfl
set_option maxRecDepth 50000 in
theorem cw_217 : zcw 217 ∈ lw_good := lw_good_of (i := 943) (show tables_1[943]? = some (Cond.codeWith yL_once cL_once 4 (some .int) [(0, 9, 12, 13), (0, 9, 15, 20)]) from rfl) rfl
set_option maxRecDepth 50000 in
theorem cw_218 : zcw 218 ∈ lw_good := lw_good_of (i := 978) (show tables_1[978]? = some (Cond.codeWith yL_count cL_count 5 (some .int) [(0, 10, 13, 13)]) from rfl) rfl
theorem cwU_20 : ∀ a, a < 20 → zcw a ∈ lw_good := lt_s (lt_s (lt_s (lt_s (lt_s (lt_s (lt_s (lt_s (lt_s (lt_s (lt_s (lt_s (lt_s (lt_s (lt_s (lt_s (lt_s (lt_s (lt_s (lt_s (lt_0) cw_0) cw_1) cw_2) cw_3) cw_4) cw_5) cw_6) cw_7) cw_8) cw_9) cw_10) cw_11) cw_12) cw_13) cw_14) cw_15) cw_16) cw_17) cw_18) cw_19
theorem cwU_40 : ∀ a, a < 40 → zcw a ∈ lw_good := lt_s (lt_s (lt_s (lt_s (lt_s (lt_s (lt_s (lt_s (lt_s (lt_s (lt_s (lt_s (lt_s (lt_s (lt_s (lt_s (lt_s (lt_s (lt_s (lt_s (cwU_20) cw_20) cw_21) cw_22) cw_23) cw_24) cw_25) cw_26) cw_27) cw_28) cw_29) cw_30) cw_31) cw_32) cw_33) cw_34) cw_35) cw_36) cw_37) cw_38) cw_39
theorem cwU_60 : ∀ a, a < 60 → zcw a ∈ lw_good := lt_s (lt_s (lt_s (lt_s (lt_s (lt_s (lt_s (lt_s (lt_s (lt_s (lt_s (lt_s (lt_s (lt_s (lt_s (lt_s (lt_s (lt_s (lt_s (lt_s (cwU_40) cw_40) cw_41) cw_42) cw_43) cw_44) cw_45) cw_46) cw_47) cw_48) cw_49) cw_50) cw_51) cw_52) cw_53) cw_54) cw_55) cw_56) cw_57) cw_58) cw_59
theorem cwU_80 : ∀ a, a < 80 → zcw a ∈ lw_good := lt_s (lt_s (lt_s (lt_s (lt_s (lt_s (lt_s (lt_s (lt_s (lt_s (lt_s (lt_s (lt_s (lt_s (lt_s (lt_s (lt_s (lt_s (lt_s (lt_s (cwU_60) cw_60) cw_61) cw_62) cw_63) cw_64) cw_65) cw_66) cw_67) cw_68) cw_69) cw_70) cw_71) cw_72) cw_73) cw_74) cw_75) cw_76) cw_77) cw_78) cw_79
theorem cwU_100 : ∀ a, a < 100 → zcw a ∈ lw_good := lt_s (lt_s (lt_s (lt_s (lt_s (lt_s (lt_s (lt_s (lt_s (lt_s (lt_s (lt_s (lt_s (lt_s (lt_s (lt_s (lt_s (lt_s (lt_s (lt_s (cwU_80) cw_80) cw_81) cw_82) cw_83) cw_84) cw_85) cw_86) cw_87) cw_88) cw_89) cw_90) cw_91) cw_92) cw_93) cw_94) cw_95) cw_96) cw_97) cw_98) cw_99
theorem cwU_120 : ∀ a, a < 120 → zcw a ∈ lw_good := lt_s (lt_s (lt_s (lt_s (lt_s (lt_s (lt_s (lt_s (lt_s (lt_s (lt_s (lt_s (lt_s (lt_s (lt_s (lt_s (lt_s (lt_s (lt_s (lt_s (cwU_100) cw_100) cw_101) cw_102) cw_103) cw_104) cw_105) cw_106) cw_107) cw_108) cw_109) cw_110) cw_111) cw_112) cw_113) cw_114) cw_115) cw_116) cw_117) cw_118) cw_119
theorem cwU_140 : ∀ a, a < 140 → zcw a ∈ lw_good := lt_s (lt_s (lt_s (lt_s (lt_s (lt_s (lt_s (lt_s (lt_s (lt_s (lt_s (lt_s (lt_s (lt_s (lt_s (lt_s (lt_s (lt_s (lt_s (lt_s (cwU_120) cw_120) cw_121) cw_122) cw_123) cw_124) cw_125) cw_126) cw_127) cw_128) cw_129) cw_130) cw_131) cw_132) cw_133) cw_134) cw_135) cw_136) cw_137) cw_138) cw_139
theorem cwU_160 : ∀ a, a < 160 → zcw a ∈ lw_good := lt_s (lt_s (lt_s (lt_s (lt_s (lt_s (lt_s (lt_s (lt_s (lt_s (lt_s (lt_s (lt_s (lt_s (lt_s (lt_s (lt_s (lt_s (lt_s (lt_s (cwU_140) cw_140) cw_141) cw_142) cw_143) cw_144) cw_145) cw_146) cw_147) cw_148) cw_149) cw_150) cw_151) cw_152) cw_153) cw_154) cw_155) cw_156) cw_157) cw_158) cw_159
theorem cwU_180 : ∀ a, a < 180 → zcw a ∈ lw_good := lt_s (lt_s (lt_s (lt_s (lt_s (lt_s (lt_s (lt_s (lt_s (lt_s (lt_s (lt_s (lt_s (lt_s (lt_s (lt_s (lt_s (lt_s (lt_s (lt_s (cwU_160) cw_160) cw_161) cw_162) cw_163) cw_164) cw_165) cw_166) cw_167) cw_168) cw_169) cw_170) cw_171) cw_172) cw_173) cw_174) cw_175) cw_176) cw_177) cw_178) cw_179
theorem cwU_200 : ∀ a, a < 200 → zcw a ∈ lw_good := lt_s (lt_s (lt_s (lt_s (lt_s (lt_s (lt_s (lt_s (lt_s (lt_s (lt_s (lt_s (lt_s (lt_s (lt_s (lt_s (lt_s (lt_s (lt_s (lt_s (cwU_180) cw_180) cw_181) cw_182) cw_183) cw_184) cw_185) cw_186) cw_187) cw_188) cw_189) cw_190) cw_191) cw_192) cw_193) cw_194) cw_195) cw_196) cw_197) cw_198) cw_199
theorem cwU_219 : ∀ a, a < 219 → zcw a ∈ lw_good := lt_s (lt_s (lt_s (lt_s (lt_s (lt_s (lt_s (lt_s (lt_s (lt_s (lt_s (lt_s (lt_s (lt_s (lt_s (lt_s (lt_s (lt_s (lt_s (cwU_200) cw_200) cw_201) cw_202) cw_203) cw_204) cw_205) cw_206) cw_207) cw_208) cw_209) cw_210) cw_211) cw_212) cw_213) cw_214) cw_215) cw_216) cw_217) cw_218
-- end of the facts by program

