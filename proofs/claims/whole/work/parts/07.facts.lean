def lw_good : List Cond := lw_tbl.filter goodWord
theorem all_app {α : Type} {a b : List α} {f : α → Bool} (ha : a.all f = true) (hb : b.all f = true) : (a ++ b).all f = true := by
  rw [List.all_append, ha, hb]
  rfl
theorem lw_good_of {w : Cond} {i : Nat} (h : tables_1[i]? = some w) (hg : goodWord w = true) : w ∈ lw_good :=
  List.mem_filter.mpr ⟨List.mem_append_right _ (List.mem_of_getElem? h), hg⟩
theorem lw_good_of2 {w : Cond} {i : Nat} (h : lw_tbl[i]? = some w) (hg : goodWord w = true) : w ∈ lw_good :=
  List.mem_filter.mpr ⟨List.mem_of_getElem? h, hg⟩
def zNN (ci : Nat) : Nat := [6, 4, 6, 7, 11, 15, 16, 34, 2].getD ci 0
def zcnm (oc : Nat) : String := zcn.getD oc ""
def zhh (mi : Nat) : List (Nat × Nat × Nat × Nat) := (zhnT.filter (fun q => q.1 == mi)).map (fun q => (q.2.2.2.2.2.1, q.2.2.2.2.2.2.1, q.2.2.1, q.2.2.2.2.2.2.2))
def zcw (cm : Nat) : Cond := if zhh cm = [] then .code (zyn cm) (zcod cm) (zmx cm) (zrt cm) else .codeWith (zyn cm) (zcod cm) (zmx cm) (zrt cm) (zhh cm)
def ckW (i : Nat) (w : Cond) : Bool := decide (tables_1[i]? = some w) && goodWord w
def ckF (r : Nat × Nat × Nat × Nat × Nat) : Bool := ckW r.1 (.fieldLink (zcnm r.2.1) r.2.2.1 (zTT r.2.2.2.1 r.2.2.2.2).1 (zTT r.2.2.2.1 r.2.2.2.2).2.1 (zTT r.2.2.2.1 r.2.2.2.2).2.2.1) && decide (r.2.2.2.1 < 9) && decide (r.2.2.2.2 < zNN r.2.2.2.1)
def ckM (r : Nat × Nat × Nat × Nat × Nat × Nat) : Bool := ckW r.1 (.methodLink (zcnm r.2.1) r.2.2.1 (zyn r.2.2.2.1)) && decide ((parseMethodDescriptor (zyn r.2.2.2.1).desc).map (fun d => d.parameters.length) = some r.2.2.2.2.1)
def ckN (r : Nat × Nat × Nat × Nat × Nat × Nat × Nat) : Bool := ckW r.1 (.classLink (zcnm r.2.1) r.2.2.1 (zcnm r.2.2.2.1)) && ckW r.2.2.2.2.2.1 (.instantiable (zcnm r.2.2.2.1) r.2.2.2.2.1) && ckW r.2.2.2.2.2.2 (.initialized (zcnm r.2.2.2.1)) && decide (r.2.2.2.1 < 8) && decide (zNN r.2.2.2.1 = r.2.2.2.2.1)
def ckQ (r : Nat × Nat × Nat × Nat × Nat × Nat) : Bool := ckW r.2.2.2.2.2 (.initialized (zyn r.1).cls) && decide ((zyn r.1).cls = zcnm (zoc r.1)) && plainName (zyn r.1).cls &&
  (if r.2.2.1 = 0 then ckW r.2.2.2.1 (.instanceMethod (zyn r.1)) && (decide (lw_tbl[r.2.2.2.2.1]? = some (.selects (zyn r.1).cls (zyn r.1) (zyn r.1))) && goodWord (.selects (zyn r.1).cls (zyn r.1) (zyn r.1)))
   else if r.2.2.1 = 1 then ckW r.2.2.2.1 (.static (zyn r.1)) else ckW r.2.2.2.1 (.instanceMethod (zyn r.1)) && decide ((zyn r.1).name = "<init>") && decide (zrt r.1 = none) && decide (zhh r.1 = [])) && (decide (zhh r.1 = []) || decide (r.2.2.1 = 1))

def zfl_0 : List (Nat × Nat × Nat × Nat × Nat) := [(263, 0, 11, 0, 0), (264, 0, 16, 0, 1), (265, 0, 20, 0, 2), (266, 0, 23, 0, 3), (267, 0, 26, 0, 4), (268, 0, 29, 0, 5), (210, 0, 32, 2, 2), (142, 1, 9, 1, 0), (143, 1, 13, 1, 1), (144, 1, 16, 1, 2), (145, 1, 19, 1, 3), (49, 1, 31, 5, 0), (53, 1, 37, 5, 1), (57, 1, 40, 5, 2), (206, 2, 9, 2, 0), (208, 2, 17, 2, 1), (209, 2, 20, 2, 2), (80, 2, 24, 5, 10), (212, 2, 29, 2, 3), (84, 2, 30, 5, 11), (213, 2, 33, 2, 4), (88, 2, 34, 5, 12), (214, 2, 38, 2, 5), (78, 2, 39, 5, 9), (66, 2, 42, 5, 5), (48, 2, 49, 5, 0), (229, 3, 12, 3, 0), (231, 3, 20, 3, 1), (233, 3, 23, 3, 2), (234, 3, 27, 3, 3), (235, 3, 31, 3, 4), (236, 3, 35, 3, 5), (238, 3, 39, 3, 6), (211, 3, 42, 2, 2), (207, 3, 69, 2, 0), (157, 4, 9, 4, 0), (159, 4, 18, 4, 1), (160, 4, 22, 4, 2), (161, 4, 25, 4, 3), (162, 4, 28, 4, 4), (163, 4, 32, 4, 5), (165, 4, 35, 4, 7), (166, 4, 38, 4, 8), (167, 4, 41, 4, 9), (146, 4, 44, 1, 3), (69, 4, 61, 5, 6), (61, 4, 72, 5, 3), (75, 4, 76, 5, 8), (169, 4, 87, 4, 10), (90, 4, 124, 5, 12), (164, 4, 132, 4, 6), (72, 4, 147, 5, 7), (50, 4, 153, 5, 0), (54, 4, 157, 5, 1), (58, 4, 160, 5, 2), (83, 4, 163, 5, 10), (87, 4, 165, 5, 11), (97, 4, 172, 5, 14), (94, 4, 175, 5, 13), (47, 5, 11, 5, 0)]
def zfl_1 : List (Nat × Nat × Nat × Nat × Nat) := [(52, 5, 16, 5, 1), (56, 5, 20, 5, 2), (60, 5, 23, 5, 3), (63, 5, 26, 5, 4), (65, 5, 29, 5, 5), (68, 5, 41, 5, 6), (71, 5, 45, 5, 7), (74, 5, 48, 5, 8), (77, 5, 51, 5, 9), (81, 5, 54, 5, 10), (85, 5, 57, 5, 11), (89, 5, 60, 5, 12), (92, 5, 64, 5, 13), (95, 5, 67, 5, 14), (285, 6, 11, 6, 2), (287, 6, 16, 6, 4), (289, 6, 20, 6, 6), (293, 6, 27, 6, 10), (158, 6, 31, 4, 0), (283, 6, 35, 6, 0), (295, 6, 41, 6, 12), (230, 6, 45, 3, 0), (294, 6, 49, 6, 11), (297, 6, 53, 6, 14), (284, 6, 57, 6, 1), (291, 6, 64, 6, 8), (168, 6, 82, 4, 10), (79, 6, 95, 5, 9), (292, 6, 105, 6, 9), (64, 6, 116, 5, 4), (96, 6, 120, 5, 14), (93, 6, 126, 5, 13), (82, 6, 137, 5, 10), (86, 6, 140, 5, 11), (91, 6, 143, 5, 12), (288, 6, 149, 6, 5), (286, 6, 152, 6, 3), (70, 6, 158, 5, 6), (73, 6, 161, 5, 7), (76, 6, 164, 5, 8), (290, 6, 176, 6, 7), (51, 6, 184, 5, 0), (55, 6, 188, 5, 1), (59, 6, 191, 5, 2), (62, 6, 194, 5, 3), (232, 6, 230, 3, 1), (237, 6, 261, 3, 5), (298, 6, 273, 6, 15), (269, 6, 280, 0, 5), (67, 6, 285, 5, 5), (296, 6, 299, 6, 13), (1007, 7, 1, 7, 0), (1008, 7, 7, 7, 1), (1009, 7, 17, 7, 2), (1010, 7, 20, 7, 3), (1011, 7, 23, 7, 4), (1013, 7, 26, 7, 6), (1014, 7, 30, 7, 7), (1021, 7, 33, 7, 14), (1024, 7, 36, 7, 17)]
def zfl_2 : List (Nat × Nat × Nat × Nat × Nat) := [(1025, 7, 39, 7, 18), (1026, 7, 42, 7, 19), (1029, 7, 45, 7, 22), (1031, 7, 48, 7, 24), (1032, 7, 51, 7, 25), (1033, 7, 54, 7, 26), (1036, 7, 57, 7, 29), (1037, 7, 60, 7, 30), (1038, 7, 63, 7, 31), (1039, 7, 67, 7, 32), (1040, 7, 70, 7, 33), (1012, 7, 77, 7, 5), (1015, 7, 80, 7, 8), (1019, 7, 87, 7, 12), (1020, 7, 90, 7, 13), (1017, 7, 93, 7, 10), (1016, 7, 96, 7, 9), (1018, 7, 127, 7, 11), (1027, 7, 144, 7, 20), (1022, 7, 173, 7, 15), (1023, 7, 198, 7, 16), (1030, 7, 205, 7, 23), (1028, 7, 240, 7, 21), (1034, 7, 269, 7, 27), (1035, 7, 272, 7, 28), (1484, 8, 9, 8, 0), (1485, 8, 15, 8, 1)]
def zfl : List (Nat × Nat × Nat × Nat × Nat) := zfl_0 ++ (zfl_1 ++ (zfl_2))
def zml_0 : List (Nat × Nat × Nat × Nat × Nat × Nat) := [(965, 0, 38, 191, 1, 1), (966, 0, 44, 14, 2, 0), (967, 0, 48, 2, 3, 1), (970, 0, 52, 3, 4, 1), (976, 0, 56, 4, 3, 0), (981, 0, 66, 198, 2, 1), (982, 0, 72, 17, 1, 0), (685, 1, 23, 9, 3, 0), (689, 1, 27, 10, 3, 1), (368, 2, 45, 61, 1, 0), (201, 3, 11, 11, 0, 2), (376, 3, 45, 191, 1, 1), (382, 3, 51, 14, 2, 0), (386, 3, 55, 20, 2, 0), (390, 3, 59, 15, 0, 0), (399, 3, 66, 220, 2, 0), (896, 3, 72, 16, 2, 0), (412, 3, 75, 25, 0, 0), (416, 3, 78, 26, 1, 0), (138, 4, 17, 5, 0, 2), (512, 4, 45, 54, 0, 0), (513, 4, 50, 49, 0, 0), (517, 4, 53, 32, 1, 0), (661, 4, 57, 48, 1, 0), (578, 4, 64, 31, 2, 0), (677, 4, 68, 30, 3, 0), (681, 4, 79, 8, 2, 0), (692, 4, 83, 7, 0, 0), (522, 4, 92, 52, 1, 0), (574, 4, 96, 34, 2, 0), (598, 4, 101, 35, 2, 0), (603, 4, 106, 33, 2, 0), (607, 4, 109, 37, 1, 0), (612, 4, 114, 38, 1, 0), (617, 4, 119, 40, 1, 0), (627, 4, 129, 41, 0, 0), (631, 4, 135, 42, 2, 0), (669, 4, 141, 39, 0, 0), (582, 4, 144, 36, 2, 0), (586, 4, 150, 47, 2, 0), (621, 4, 168, 51, 0, 0), (635, 4, 178, 43, 2, 0), (657, 4, 183, 6, 3, 0), (639, 4, 187, 44, 2, 0), (590, 4, 194, 50, 1, 0), (644, 4, 197, 45, 1, 0), (648, 4, 201, 46, 0, 0), (526, 4, 220, 192, 0, 0), (536, 4, 224, 193, 1, 0), (40, 5, 32, 54, 0, 0), (44, 5, 35, 198, 2, 1), (700, 5, 76, 58, 2, 0), (704, 5, 80, 59, 1, 0), (749, 5, 84, 61, 1, 0), (754, 5, 89, 63, 1, 0), (750, 5, 93, 64, 1, 0), (34, 6, 15, 53, 0, 2), (132, 6, 26, 27, 0, 2), (195, 6, 40, 18, 0, 2), (258, 6, 52, 0, 0, 2)]
def zml_1 : List (Nat × Nat × Nat × Nat × Nat × Nat) := [(336, 6, 60, 98, 1, 0), (504, 6, 74, 99, 0, 0), (508, 6, 78, 28, 2, 0), (673, 6, 85, 29, 1, 0), (696, 6, 89, 57, 0, 0), (708, 6, 92, 101, 0, 0), (721, 6, 98, 95, 1, 0), (745, 6, 101, 65, 1, 0), (775, 6, 113, 100, 0, 0), (786, 6, 123, 66, 0, 0), (805, 6, 131, 97, 2, 1), (348, 6, 155, 102, 1, 0), (824, 6, 167, 62, 0, 0), (836, 6, 173, 56, 0, 0), (725, 6, 197, 60, 1, 0), (841, 6, 201, 64, 1, 0), (852, 6, 209, 63, 1, 0), (860, 6, 212, 96, 1, 0), (872, 6, 215, 94, 1, 0), (360, 6, 218, 221, 0, 0), (877, 6, 221, 14, 2, 0), (356, 6, 227, 103, 0, 0), (394, 6, 233, 21, 2, 0), (892, 6, 236, 23, 2, 0), (908, 6, 241, 13, 1, 0), (912, 6, 244, 22, 2, 0), (408, 6, 247, 24, 1, 0), (923, 6, 250, 104, 4, 0), (941, 6, 254, 61, 1, 0), (959, 6, 266, 191, 1, 1), (961, 6, 276, 1, 3, 0), (779, 6, 296, 55, 1, 0), (364, 6, 302, 12, 2, 0), (372, 6, 306, 19, 2, 0), (1004, 7, 73, 110, 1, 1), (1118, 7, 83, 114, 1, 0), (1133, 7, 99, 116, 0, 0), (1146, 7, 103, 192, 0, 0), (1147, 7, 108, 117, 1, 0), (1151, 7, 112, 193, 1, 0), (1142, 7, 116, 119, 1, 0), (1164, 7, 120, 121, 1, 0), (1156, 7, 123, 115, 2, 0), (1168, 7, 130, 118, 1, 0), (1126, 7, 140, 107, 3, 1), (1203, 7, 157, 127, 0, 0), (1236, 7, 162, 120, 1, 0), (1216, 7, 165, 124, 1, 0), (1207, 7, 168, 129, 0, 0), (1212, 7, 178, 128, 1, 0), (1199, 7, 181, 126, 0, 0), (1220, 7, 184, 122, 1, 0), (1224, 7, 187, 130, 0, 0), (1228, 7, 190, 125, 1, 1), (1160, 7, 194, 123, 3, 0), (1184, 7, 201, 108, 2, 1), (1195, 7, 208, 131, 1, 0), (1152, 7, 213, 133, 4, 0), (1175, 7, 219, 134, 0, 0), (1180, 7, 223, 132, 2, 0)]
def zml_2 : List (Nat × Nat × Nat × Nat × Nat × Nat) := [(1189, 7, 231, 135, 0, 0), (1244, 7, 244, 136, 0, 0), (1129, 7, 247, 106, 3, 0), (1137, 7, 251, 137, 0, 0), (1248, 7, 254, 142, 0, 0), (1264, 7, 257, 111, 0, 0), (1256, 7, 260, 140, 2, 0), (1252, 7, 263, 141, 2, 0), (1260, 7, 266, 143, 1, 0), (1300, 7, 275, 147, 2, 0), (1296, 7, 278, 148, 2, 0), (1367, 7, 281, 146, 2, 0), (1346, 7, 284, 149, 2, 0), (1383, 7, 287, 154, 2, 0), (1363, 7, 290, 150, 2, 0), (1292, 7, 293, 151, 2, 0), (1387, 7, 296, 153, 3, 0), (1284, 7, 300, 144, 0, 0), (1379, 7, 303, 152, 0, 0), (1280, 7, 306, 156, 1, 0), (1288, 7, 310, 145, 0, 0), (1276, 7, 313, 157, 1, 0), (1304, 7, 316, 158, 0, 0), (1329, 7, 330, 163, 0, 0), (1333, 7, 333, 164, 0, 0), (1359, 7, 339, 169, 2, 0), (1375, 7, 342, 155, 0, 0), (1395, 7, 345, 172, 1, 0), (1427, 7, 348, 180, 2, 0), (1448, 7, 351, 183, 1, 1), (1436, 7, 354, 182, 1, 0), (1440, 7, 359, 187, 4, 0), (1444, 7, 362, 184, 3, 0), (1452, 7, 366, 185, 1, 0), (530, 8, 335, 194, 0, 0), (540, 8, 492, 195, 0, 0), (544, 8, 495, 197, 2, 1), (552, 8, 1059, 199, 3, 1), (433, 9, 7, 69, 1, 0), (717, 9, 15, 71, 1, 0), (793, 9, 22, 72, 0, 0), (801, 9, 26, 73, 2, 0), (812, 9, 30, 74, 2, 0), (820, 9, 33, 76, 1, 0), (832, 9, 36, 77, 2, 0), (846, 9, 39, 78, 2, 0), (856, 9, 43, 79, 1, 0), (868, 9, 46, 80, 1, 0), (881, 9, 49, 81, 1, 0), (888, 9, 52, 83, 1, 0), (903, 9, 55, 84, 1, 0), (919, 9, 58, 86, 2, 0), (930, 9, 61, 87, 2, 0), (937, 9, 64, 88, 2, 0), (946, 9, 67, 89, 2, 0), (954, 9, 70, 90, 1, 0), (989, 9, 73, 91, 2, 0), (25, 9, 76, 67, 0, 2), (1000, 9, 79, 109, 0, 2), (332, 9, 80, 68, 5, 0)]
def zml_3 : List (Nat × Nat × Nat × Nat × Nat × Nat) := [(1114, 9, 84, 113, 5, 0), (429, 9, 85, 200, 3, 1), (1122, 9, 90, 138, 1, 0), (994, 9, 91, 105, 0, 0), (340, 9, 94, 70, 0, 0), (1268, 9, 97, 139, 0, 0), (712, 9, 98, 201, 3, 1), (1272, 9, 100, 159, 1, 0), (790, 9, 101, 202, 2, 1), (1308, 9, 104, 160, 0, 0), (798, 9, 105, 203, 4, 1), (1312, 9, 108, 161, 2, 0), (809, 9, 109, 204, 4, 1), (1318, 9, 111, 162, 2, 0), (344, 9, 112, 75, 0, 0), (1110, 9, 115, 112, 0, 0), (817, 9, 116, 205, 3, 1), (1324, 9, 118, 165, 1, 0), (829, 9, 119, 206, 4, 1), (1337, 9, 121, 166, 2, 0), (843, 9, 122, 207, 4, 1), (1342, 9, 125, 167, 2, 0), (853, 9, 126, 208, 3, 1), (1351, 9, 128, 168, 1, 0), (865, 9, 129, 209, 3, 1), (1355, 9, 131, 170, 1, 0), (878, 9, 132, 210, 3, 1), (1371, 9, 134, 171, 1, 0), (352, 9, 135, 82, 0, 0), (1391, 9, 138, 173, 0, 0), (885, 9, 139, 211, 3, 1), (1399, 9, 141, 174, 1, 0), (900, 9, 142, 212, 3, 1), (1403, 9, 144, 175, 1, 0), (404, 9, 145, 85, 0, 0), (1407, 9, 148, 176, 0, 0), (916, 9, 149, 213, 4, 1), (1411, 9, 151, 177, 2, 0), (927, 9, 152, 214, 4, 1), (1415, 9, 154, 178, 2, 0), (934, 9, 155, 215, 4, 1), (1419, 9, 157, 179, 2, 0), (943, 9, 158, 216, 4, 1), (1423, 9, 160, 181, 2, 0), (951, 9, 161, 217, 3, 1), (1431, 9, 163, 186, 1, 0), (986, 9, 164, 218, 4, 1), (1456, 9, 166, 188, 2, 0), (420, 9, 167, 92, 0, 0), (1461, 9, 171, 189, 0, 0), (425, 9, 172, 93, 1, 0), (1466, 9, 175, 190, 1, 0), (547, 12, 9, 196, 2, 1)]
def zml : List (Nat × Nat × Nat × Nat × Nat × Nat) := zml_0 ++ (zml_1 ++ (zml_2 ++ (zml_3)))
def znl_0 : List (Nat × Nat × Nat × Nat × Nat × Nat × Nat) := [(199, 3, 9, 2, 6, 200, 7), (136, 4, 15, 1, 4, 137, 5), (31, 6, 9, 5, 15, 33, 2), (130, 6, 24, 4, 11, 131, 4), (193, 6, 38, 3, 7, 194, 6), (256, 6, 50, 0, 6, 257, 8), (23, 9, 8, 6, 16, 24, 1), (998, 9, 77, 7, 34, 999, 9)]
def znl : List (Nat × Nat × Nat × Nat × Nat × Nat × Nat) := znl_0
def zmf_0 : List (Nat × Nat × Nat × Nat × Nat × Nat) := [(0, 260, 2, 259, 0, 8), (1, 964, 0, 962, 1031, 8), (2, 969, 1, 968, 0, 8), (3, 972, 1, 971, 0, 8), (4, 979, 0, 977, 1046, 8), (5, 140, 2, 139, 0, 5), (6, 660, 0, 658, 727, 5), (7, 695, 0, 693, 762, 5), (8, 684, 0, 682, 751, 5), (9, 688, 0, 686, 755, 5), (10, 691, 1, 690, 0, 5), (11, 203, 2, 202, 0, 7)]
def zmf_1 : List (Nat × Nat × Nat × Nat × Nat × Nat) := [(12, 367, 0, 365, 434, 7), (13, 911, 0, 909, 978, 7), (14, 385, 0, 383, 452, 7), (15, 393, 0, 391, 460, 7), (16, 899, 0, 897, 966, 7), (17, 985, 0, 983, 1052, 7), (18, 197, 2, 196, 0, 6), (19, 375, 0, 373, 442, 6), (20, 389, 0, 387, 456, 6), (21, 397, 0, 395, 464, 6), (22, 915, 0, 913, 982, 6), (23, 895, 0, 893, 962, 6)]
def zmf_2 : List (Nat × Nat × Nat × Nat × Nat × Nat) := [(24, 411, 0, 409, 478, 6), (25, 415, 0, 413, 482, 6), (26, 419, 0, 417, 486, 6), (27, 134, 2, 133, 0, 4), (28, 511, 0, 509, 578, 4), (29, 676, 0, 674, 743, 4), (30, 680, 0, 678, 747, 4), (31, 581, 0, 579, 648, 4), (32, 520, 0, 518, 587, 4), (33, 606, 0, 604, 673, 4), (34, 577, 0, 575, 644, 4), (35, 601, 0, 599, 668, 4)]
def zmf_3 : List (Nat × Nat × Nat × Nat × Nat × Nat) := [(36, 585, 0, 583, 652, 4), (37, 610, 0, 608, 677, 4), (38, 615, 0, 613, 682, 4), (39, 672, 0, 670, 739, 4), (40, 620, 0, 618, 687, 4), (41, 630, 0, 628, 697, 4), (42, 634, 0, 633, 6, 4), (43, 638, 0, 637, 7, 4), (44, 642, 0, 641, 8, 4), (45, 647, 0, 645, 714, 4), (46, 651, 0, 649, 718, 4), (47, 589, 0, 587, 656, 4)]
def zmf_4 : List (Nat × Nat × Nat × Nat × Nat × Nat) := [(48, 664, 0, 662, 731, 4), (49, 516, 0, 514, 583, 4), (50, 593, 0, 591, 660, 4), (51, 624, 0, 622, 691, 4), (52, 525, 0, 523, 592, 4), (53, 36, 2, 35, 0, 2), (54, 43, 0, 41, 110, 2), (55, 782, 0, 780, 849, 2), (56, 839, 0, 837, 906, 2), (57, 699, 0, 697, 766, 2), (58, 703, 0, 701, 770, 2), (59, 707, 0, 705, 774, 2)]
def zmf_5 : List (Nat × Nat × Nat × Nat × Nat × Nat) := [(60, 728, 0, 726, 795, 2), (61, 371, 0, 369, 438, 2), (62, 827, 0, 825, 894, 2), (63, 757, 0, 755, 824, 2), (64, 753, 0, 751, 820, 2), (65, 748, 0, 746, 815, 2), (66, 789, 0, 787, 856, 2), (67, 27, 2, 26, 0, 1), (68, 335, 0, 333, 402, 1), (69, 436, 0, 434, 503, 1), (70, 343, 0, 341, 410, 1), (71, 720, 0, 718, 787, 1)]
def zmf_6 : List (Nat × Nat × Nat × Nat × Nat × Nat) := [(72, 796, 0, 794, 863, 1), (73, 804, 0, 802, 871, 1), (74, 815, 0, 813, 882, 1), (75, 347, 0, 345, 414, 1), (76, 823, 0, 821, 890, 1), (77, 835, 0, 833, 902, 1), (78, 849, 0, 847, 916, 1), (79, 859, 0, 857, 926, 1), (80, 871, 0, 869, 938, 1), (81, 884, 0, 882, 951, 1), (82, 355, 0, 353, 422, 1), (83, 891, 0, 889, 958, 1)]
def zmf_7 : List (Nat × Nat × Nat × Nat × Nat × Nat) := [(84, 906, 0, 904, 973, 1), (85, 407, 0, 405, 474, 1), (86, 922, 0, 920, 989, 1), (87, 933, 0, 931, 1000, 1), (88, 940, 0, 938, 1007, 1), (89, 949, 0, 947, 1016, 1), (90, 957, 0, 955, 1024, 1), (91, 992, 0, 990, 1059, 1), (92, 423, 0, 421, 490, 1), (93, 428, 0, 426, 495, 1), (94, 875, 0, 874, 13, 1), (95, 724, 0, 723, 10, 1)]
def zmf_8 : List (Nat × Nat × Nat × Nat × Nat × Nat) := [(96, 863, 0, 862, 12, 1), (97, 807, 1, 806, 0, 1), (98, 339, 0, 338, 0, 1), (99, 507, 0, 506, 5, 1), (100, 778, 0, 777, 11, 1), (101, 711, 0, 710, 9, 1), (102, 351, 0, 350, 1, 1), (103, 359, 0, 358, 2, 1), (104, 926, 0, 925, 14, 1), (105, 997, 0, 995, 1064, 9), (106, 1132, 0, 1131, 16, 9), (107, 1128, 1, 1127, 0, 9)]
def zmf_9 : List (Nat × Nat × Nat × Nat × Nat × Nat) := [(108, 1186, 1, 1185, 0, 9), (109, 1002, 2, 1001, 0, 9), (110, 1006, 1, 1005, 0, 9), (111, 1267, 0, 1266, 43, 9), (112, 1113, 0, 1111, 1180, 9), (113, 1117, 0, 1115, 1184, 9), (114, 1121, 0, 1120, 15, 9), (115, 1159, 0, 1158, 22, 9), (116, 1136, 0, 1135, 17, 9), (117, 1150, 0, 1149, 20, 9), (118, 1171, 0, 1170, 25, 9), (119, 1145, 0, 1144, 19, 9)]
def zmf_10 : List (Nat × Nat × Nat × Nat × Nat × Nat) := [(120, 1239, 0, 1238, 37, 9), (121, 1167, 0, 1166, 24, 9), (122, 1223, 0, 1222, 35, 9), (123, 1163, 0, 1162, 23, 9), (124, 1219, 0, 1218, 34, 9), (125, 1230, 1, 1229, 0, 9), (126, 1202, 0, 1201, 30, 9), (127, 1206, 0, 1205, 31, 9), (128, 1215, 0, 1214, 33, 9), (129, 1210, 0, 1209, 32, 9), (130, 1227, 0, 1226, 36, 9), (131, 1198, 0, 1197, 29, 9)]
def zmf_11 : List (Nat × Nat × Nat × Nat × Nat × Nat) := [(132, 1183, 0, 1182, 27, 9), (133, 1155, 0, 1154, 21, 9), (134, 1178, 0, 1177, 26, 9), (135, 1192, 0, 1191, 28, 9), (136, 1247, 0, 1246, 38, 9), (137, 1140, 0, 1139, 18, 9), (138, 1125, 0, 1123, 1192, 9), (139, 1271, 0, 1269, 1338, 9), (140, 1259, 0, 1258, 41, 9), (141, 1255, 0, 1254, 40, 9), (142, 1251, 0, 1250, 39, 9), (143, 1263, 0, 1262, 42, 9)]
def zmf_12 : List (Nat × Nat × Nat × Nat × Nat × Nat) := [(144, 1287, 0, 1286, 46, 9), (145, 1291, 0, 1290, 47, 9), (146, 1370, 0, 1369, 57, 9), (147, 1303, 0, 1302, 50, 9), (148, 1299, 0, 1298, 49, 9), (149, 1349, 0, 1348, 54, 9), (150, 1366, 0, 1365, 56, 9), (151, 1295, 0, 1294, 48, 9), (152, 1382, 0, 1381, 59, 9), (153, 1390, 0, 1389, 61, 9), (154, 1386, 0, 1385, 60, 9), (155, 1378, 0, 1377, 58, 9)]
def zmf_13 : List (Nat × Nat × Nat × Nat × Nat × Nat) := [(156, 1283, 0, 1282, 45, 9), (157, 1279, 0, 1278, 44, 9), (158, 1307, 0, 1306, 51, 9), (159, 1275, 0, 1273, 1342, 9), (160, 1311, 0, 1309, 1378, 9), (161, 1315, 0, 1313, 1382, 9), (162, 1321, 0, 1319, 1388, 9), (163, 1332, 0, 1331, 52, 9), (164, 1336, 0, 1335, 53, 9), (165, 1327, 0, 1325, 1394, 9), (166, 1340, 0, 1338, 1407, 9), (167, 1345, 0, 1343, 1412, 9)]
def zmf_14 : List (Nat × Nat × Nat × Nat × Nat × Nat) := [(168, 1354, 0, 1352, 1421, 9), (169, 1362, 0, 1361, 55, 9), (170, 1358, 0, 1356, 1425, 9), (171, 1374, 0, 1372, 1441, 9), (172, 1398, 0, 1397, 62, 9), (173, 1394, 0, 1392, 1461, 9), (174, 1402, 0, 1400, 1469, 9), (175, 1406, 0, 1404, 1473, 9), (176, 1410, 0, 1408, 1477, 9), (177, 1414, 0, 1412, 1481, 9), (178, 1418, 0, 1416, 1485, 9), (179, 1422, 0, 1420, 1489, 9)]
def zmf_15 : List (Nat × Nat × Nat × Nat × Nat × Nat) := [(180, 1430, 0, 1429, 63, 9), (181, 1426, 0, 1424, 1493, 9), (182, 1439, 0, 1438, 64, 9), (183, 1450, 1, 1449, 0, 9), (184, 1447, 0, 1446, 66, 9), (185, 1455, 0, 1454, 67, 9), (186, 1434, 0, 1432, 1501, 9), (187, 1443, 0, 1442, 65, 9), (188, 1459, 0, 1457, 1526, 9), (189, 1464, 0, 1462, 1531, 9), (190, 1469, 0, 1467, 1536, 9), (191, 378, 1, 377, 0, 22)]
def zmf_16 : List (Nat × Nat × Nat × Nat × Nat × Nat) := [(192, 529, 0, 527, 596, 14), (193, 539, 0, 537, 606, 14), (194, 533, 0, 531, 600, 14), (195, 543, 0, 541, 610, 14), (196, 549, 1, 548, 0, 14), (197, 546, 1, 545, 0, 15), (198, 46, 1, 45, 0, 3), (199, 554, 1, 553, 0, 16), (200, 431, 1, 430, 0, 0), (201, 714, 1, 713, 0, 0), (202, 792, 1, 791, 0, 0), (203, 800, 1, 799, 0, 0)]
def zmf_17 : List (Nat × Nat × Nat × Nat × Nat × Nat) := [(204, 811, 1, 810, 0, 0), (205, 819, 1, 818, 0, 0), (206, 831, 1, 830, 0, 0), (207, 845, 1, 844, 0, 0), (208, 855, 1, 854, 0, 0), (209, 867, 1, 866, 0, 0), (210, 880, 1, 879, 0, 0), (211, 887, 1, 886, 0, 0), (212, 902, 1, 901, 0, 0), (213, 918, 1, 917, 0, 0), (214, 929, 1, 928, 0, 0), (215, 936, 1, 935, 0, 0)]
def zmf_18 : List (Nat × Nat × Nat × Nat × Nat × Nat) := [(216, 945, 1, 944, 0, 0), (217, 953, 1, 952, 0, 0), (218, 988, 1, 987, 0, 0), (220, 402, 0, 400, 469, 6), (221, 363, 0, 362, 3, 1)]
def zmf : List (Nat × Nat × Nat × Nat × Nat × Nat) := zmf_0 ++ (zmf_1 ++ (zmf_2 ++ (zmf_3 ++ (zmf_4 ++ (zmf_5 ++ (zmf_6 ++ (zmf_7 ++ (zmf_8 ++ (zmf_9 ++ (zmf_10 ++ (zmf_11 ++ (zmf_12 ++ (zmf_13 ++ (zmf_14 ++ (zmf_15 ++ (zmf_16 ++ (zmf_17 ++ (zmf_18))))))))))))))))))
def zsl_0 : List (Nat × Nat × Nat × Nat) := [(521, 4, 90, 0), (597, 4, 99, 1), (602, 4, 104, 2), (611, 4, 112, 3), (616, 4, 117, 4), (625, 4, 122, 5), (626, 4, 127, 6), (667, 4, 139, 7), (668, 4, 140, 8), (666, 4, 181, 9), (665, 4, 190, 10), (643, 4, 192, 11), (652, 4, 204, 12), (653, 4, 206, 13), (654, 4, 208, 14), (655, 4, 210, 15), (656, 4, 212, 16), (1231, 7, 147, 12), (1232, 7, 149, 13), (1233, 7, 151, 14), (1234, 7, 153, 15), (1235, 7, 155, 16), (1241, 7, 160, 9), (1240, 7, 171, 10), (1211, 7, 176, 11), (1141, 7, 211, 0), (1174, 7, 217, 1), (1179, 7, 221, 2), (1187, 7, 227, 3), (1188, 7, 229, 4), (1193, 7, 234, 5), (1194, 7, 236, 7), (1242, 7, 238, 8), (1243, 7, 242, 6)]
def zsl : List (Nat × Nat × Nat × Nat) := zsl_0
theorem zfl_0_ok : zfl_0.all ckF = true := by decide +kernel
theorem zfl_1_ok : zfl_1.all ckF = true := by decide +kernel
theorem zfl_2_ok : zfl_2.all ckF = true := by decide +kernel
theorem zfl_ok : zfl.all ckF = true := all_app zfl_0_ok (all_app zfl_1_ok (zfl_2_ok))
theorem zml_0_ok : zml_0.all ckM = true := by decide +kernel
theorem zml_1_ok : zml_1.all ckM = true := by decide +kernel
theorem zml_2_ok : zml_2.all ckM = true := by decide +kernel
theorem zml_3_ok : zml_3.all ckM = true := by decide +kernel
theorem zml_ok : zml.all ckM = true := all_app zml_0_ok (all_app zml_1_ok (all_app zml_2_ok (zml_3_ok)))
theorem znl_0_ok : znl_0.all ckN = true := by decide +kernel
theorem znl_ok : znl.all ckN = true := znl_0_ok
theorem zmf_0_ok : zmf_0.all ckQ = true := by decide +kernel
theorem zmf_1_ok : zmf_1.all ckQ = true := by decide +kernel
theorem zmf_2_ok : zmf_2.all ckQ = true := by decide +kernel
theorem zmf_3_ok : zmf_3.all ckQ = true := by decide +kernel
theorem zmf_4_ok : zmf_4.all ckQ = true := by decide +kernel
theorem zmf_5_ok : zmf_5.all ckQ = true := by decide +kernel
theorem zmf_6_ok : zmf_6.all ckQ = true := by decide +kernel
theorem zmf_7_ok : zmf_7.all ckQ = true := by decide +kernel
theorem zmf_8_ok : zmf_8.all ckQ = true := by decide +kernel
theorem zmf_9_ok : zmf_9.all ckQ = true := by decide +kernel
theorem zmf_10_ok : zmf_10.all ckQ = true := by decide +kernel
theorem zmf_11_ok : zmf_11.all ckQ = true := by decide +kernel
theorem zmf_12_ok : zmf_12.all ckQ = true := by decide +kernel
theorem zmf_13_ok : zmf_13.all ckQ = true := by decide +kernel
theorem zmf_14_ok : zmf_14.all ckQ = true := by decide +kernel
theorem zmf_15_ok : zmf_15.all ckQ = true := by decide +kernel
theorem zmf_16_ok : zmf_16.all ckQ = true := by decide +kernel
theorem zmf_17_ok : zmf_17.all ckQ = true := by decide +kernel
theorem zmf_18_ok : zmf_18.all ckQ = true := by decide +kernel
theorem zmf_ok : zmf.all ckQ = true := all_app zmf_0_ok (all_app zmf_1_ok (all_app zmf_2_ok (all_app zmf_3_ok (all_app zmf_4_ok (all_app zmf_5_ok (all_app zmf_6_ok (all_app zmf_7_ok (all_app zmf_8_ok (all_app zmf_9_ok (all_app zmf_10_ok (all_app zmf_11_ok (all_app zmf_12_ok (all_app zmf_13_ok (all_app zmf_14_ok (all_app zmf_15_ok (all_app zmf_16_ok (all_app zmf_17_ok (zmf_18_ok))))))))))))))))))
theorem zp_cov : (List.range 15).all (fun oc => (zpool.getD oc []).all (fun q => (!(q.2.1 == 1) || zfl.any (fun r => r.2 == (oc, q.1, q.2.2.1, q.2.2.2))) && (!(q.2.1 == 2) || zml.any (fun r => r.2 == (oc, q.1, q.2.2.1, q.2.2.2, 0))) && (!(q.2.1 == 16) || zml.any (fun r => r.2 == (oc, q.1, q.2.2.1, q.2.2.2, 2))) && (!(q.2.1 == 17) || zml.any (fun r => r.2 == (oc, q.1, q.2.2.1, q.2.2.2, 1))) && (!(q.2.1 == 3) || znl.any (fun r => r.2.1 == oc && r.2.2.1 == q.1 && r.2.2.2.1 == q.2.2.1 && r.2.2.2.2.1 == q.2.2.2)) && (!(q.2.1 == 8) || zsl.any (fun r => r.2 == (oc, q.1, q.2.2.1))))) = true := by decide +kernel
theorem zmf_cov : zml.all (fun r => zmf.any (fun q => q.1 == r.2.2.2.1 && q.2.2.1 == r.2.2.2.2.2)) = true := by decide +kernel
set_option maxRecDepth 50000 in
theorem cw_0 : zcw 0 ∈ lw_good := lw_good_of (i := 260) (show tables_1[260]? = some (Cond.code yX0_init cX0_init 1 none) from rfl) rfl
set_option maxRecDepth 50000 in
theorem cw_1 : zcw 1 ∈ lw_good := lw_good_of (i := 964) (show tables_1[964]? = some (Cond.code yX0_seek cX0_seek 7 none) from rfl) rfl
set_option maxRecDepth 50000 in
theorem cw_2 : zcw 2 ∈ lw_good := lw_good_of (i := 969) (show tables_1[969]? = some (Cond.code yX0_listSets cX0_listSets 5 (some .int)) from rfl) rfl
set_option maxRecDepth 50000 in
theorem cw_3 : zcw 3 ∈ lw_good := lw_good_of (i := 972) (show tables_1[972]? = some (Cond.code yX0_mostWith cX0_mostWith 6 (some .int)) from rfl) rfl
set_option maxRecDepth 50000 in
theorem cw_4 : zcw 4 ∈ lw_good := lw_good_of (i := 979) (show tables_1[979]? = some (Cond.code yX0_gatherRests cX0_gatherRests 7 none) from rfl) rfl
set_option maxRecDepth 50000 in
theorem cw_5 : zcw 5 ∈ lw_good := lw_good_of (i := 140) (show tables_1[140]? = some (Cond.code yX1_init cX1_init 1 none) from rfl) rfl
set_option maxRecDepth 50000 in
theorem cw_6 : zcw 6 ∈ lw_good := lw_good_of (i := 660) (show tables_1[660]? = some (Cond.code yX1_add cX1_add 4 none) from rfl) rfl
set_option maxRecDepth 50000 in
theorem cw_7 : zcw 7 ∈ lw_good := lw_good_of (i := 695) (show tables_1[695]? = some (Cond.code yX1_isTold cX1_isTold 1 (some .boolean)) from rfl) rfl
set_option maxRecDepth 50000 in
theorem cw_8 : zcw 8 ∈ lw_good := lw_good_of (i := 684) (show tables_1[684]? = some (Cond.code yX1_holds cX1_holds 6 (some .boolean)) from rfl) rfl
set_option maxRecDepth 50000 in
theorem cw_9 : zcw 9 ∈ lw_good := lw_good_of (i := 688) (show tables_1[688]? = some (Cond.code yX1_compares cX1_compares 6 (some .boolean)) from rfl) rfl
set_option maxRecDepth 50000 in
theorem cw_10 : zcw 10 ∈ lw_good := lw_good_of (i := 691) (show tables_1[691]? = some (Cond.code yX1_numberOf cX1_numberOf 3 (some .int)) from rfl) rfl
set_option maxRecDepth 50000 in
theorem cw_11 : zcw 11 ∈ lw_good := lw_good_of (i := 203) (show tables_1[203]? = some (Cond.code yX2_init cX2_init 1 none) from rfl) rfl
set_option maxRecDepth 50000 in
theorem cw_12 : zcw 12 ∈ lw_good := lw_good_of (i := 367) (show tables_1[367]? = some (Cond.code yX2_take cX2_take 5 none) from rfl) rfl
set_option maxRecDepth 50000 in
theorem cw_13 : zcw 13 ∈ lw_good := lw_good_of (i := 911) (show tables_1[911]? = some (Cond.code yX2_placeOf cX2_placeOf 3 (some .int)) from rfl) rfl
set_option maxRecDepth 50000 in
theorem cw_14 : zcw 14 ∈ lw_good := lw_good_of (i := 385) (show tables_1[385]? = some (Cond.code yX2_endWorth cX2_endWorth 7 (some .int)) from rfl) rfl
set_option maxRecDepth 50000 in
theorem cw_15 : zcw 15 ∈ lw_good := lw_good_of (i := 393) (show tables_1[393]? = some (Cond.code yX2_strikable cX2_strikable 1 (some .int)) from rfl) rfl
set_option maxRecDepth 50000 in
theorem cw_16 : zcw 16 ∈ lw_good := lw_good_of (i := 899) (show tables_1[899]? = some (Cond.code yX2_plainAct cX2_plainAct 8 (some .int)) from rfl) rfl
set_option maxRecDepth 50000 in
theorem cw_17 : zcw 17 ∈ lw_good := lw_good_of (i := 985) (show tables_1[985]? = some (Cond.code yX2_numbersOf cX2_numbersOf 4 (some .int)) from rfl) rfl
set_option maxRecDepth 50000 in
theorem cw_18 : zcw 18 ∈ lw_good := lw_good_of (i := 197) (show tables_1[197]? = some (Cond.code yX3_init cX3_init 1 none) from rfl) rfl
set_option maxRecDepth 50000 in
theorem cw_19 : zcw 19 ∈ lw_good := lw_good_of (i := 375) (show tables_1[375]? = some (Cond.code yX3_lookBack cX3_lookBack 6 none) from rfl) rfl
set_option maxRecDepth 50000 in
theorem cw_20 : zcw 20 ∈ lw_good := lw_good_of (i := 389) (show tables_1[389]? = some (Cond.code yX3_choose cX3_choose 11 none) from rfl) rfl
set_option maxRecDepth 50000 in
theorem cw_21 : zcw 21 ∈ lw_good := lw_good_of (i := 397) (show tables_1[397]? = some (Cond.code yX3_whom cX3_whom 4 (some .int)) from rfl) rfl
set_option maxRecDepth 50000 in
theorem cw_22 : zcw 22 ∈ lw_good := lw_good_of (i := 915) (show tables_1[915]? = some (Cond.code yX3_valueBehind cX3_valueBehind 3 (some .int)) from rfl) rfl
set_option maxRecDepth 50000 in
theorem cw_23 : zcw 23 ∈ lw_good := lw_good_of (i := 895) (show tables_1[895]? = some (Cond.code yX3_struckAfter cX3_struckAfter 8 (some .int)) from rfl) rfl
set_option maxRecDepth 50000 in
theorem cw_24 : zcw 24 ∈ lw_good := lw_good_of (i := 411) (show tables_1[411]? = some (Cond.code yX3_howManyStates cX3_howManyStates 4 (some .int)) from rfl) rfl
set_option maxRecDepth 50000 in
theorem cw_25 : zcw 25 ∈ lw_good := lw_good_of (i := 415) (show tables_1[415]? = some (Cond.code yX3_reachOn cX3_reachOn 3 (some .int)) from rfl) rfl
set_option maxRecDepth 50000 in
theorem cw_26 : zcw 26 ∈ lw_good := lw_good_of (i := 419) (show tables_1[419]? = some (Cond.code yX3_reachFrom cX3_reachFrom 4 none) from rfl) rfl
set_option maxRecDepth 50000 in
theorem cw_27 : zcw 27 ∈ lw_good := lw_good_of (i := 134) (show tables_1[134]? = some (Cond.code yX4_init cX4_init 1 none) from rfl) rfl
set_option maxRecDepth 50000 in
theorem cw_28 : zcw 28 ∈ lw_good := lw_good_of (i := 511) (show tables_1[511]? = some (Cond.code yX4_read cX4_read 4 (some .int)) from rfl) rfl
set_option maxRecDepth 50000 in
theorem cw_29 : zcw 29 ∈ lw_good := lw_good_of (i := 676) (show tables_1[676]? = some (Cond.code yX4_hear cX4_hear 5 none) from rfl) rfl
set_option maxRecDepth 50000 in
theorem cw_30 : zcw 30 ∈ lw_good := lw_good_of (i := 680) (show tables_1[680]? = some (Cond.code yX4_isCause cX4_isCause 4 (some .boolean)) from rfl) rfl
set_option maxRecDepth 50000 in
theorem cw_31 : zcw 31 ∈ lw_good := lw_good_of (i := 581) (show tables_1[581]? = some (Cond.code yX4_fail cX4_fail 3 (some .boolean)) from rfl) rfl
set_option maxRecDepth 50000 in
theorem cw_32 : zcw 32 ∈ lw_good := lw_good_of (i := 520) (show tables_1[520]? = some (Cond.code yX4_readLine cX4_readLine 3 (some .boolean)) from rfl) rfl
set_option maxRecDepth 50000 in
theorem cw_33 : zcw 33 ∈ lw_good := lw_good_of (i := 606) (show tables_1[606]? = some (Cond.code yX4_isFirst cX4_isFirst 3 (some .boolean)) from rfl) rfl
set_option maxRecDepth 50000 in
theorem cw_34 : zcw 34 ∈ lw_good := lw_good_of (i := 577) (show tables_1[577]? = some (Cond.code yX4_readJuror cX4_readJuror 4 (some .boolean)) from rfl) rfl
set_option maxRecDepth 50000 in
theorem cw_35 : zcw 35 ∈ lw_good := lw_good_of (i := 601) (show tables_1[601]? = some (Cond.code yX4_readTales cX4_readTales 4 (some .boolean)) from rfl) rfl
set_option maxRecDepth 50000 in
theorem cw_36 : zcw 36 ∈ lw_good := lw_good_of (i := 585) (show tables_1[585]? = some (Cond.code yX4_readPerson cX4_readPerson 3 (some .boolean)) from rfl) rfl
set_option maxRecDepth 50000 in
theorem cw_37 : zcw 37 ∈ lw_good := lw_good_of (i := 610) (show tables_1[610]? = some (Cond.code yX4_readSeats cX4_readSeats 3 (some .boolean)) from rfl) rfl
set_option maxRecDepth 50000 in
theorem cw_38 : zcw 38 ∈ lw_good := lw_good_of (i := 615) (show tables_1[615]? = some (Cond.code yX4_readSpare cX4_readSpare 3 (some .boolean)) from rfl) rfl
set_option maxRecDepth 50000 in
theorem cw_39 : zcw 39 ∈ lw_good := lw_good_of (i := 672) (show tables_1[672]? = some (Cond.code yX4_readGrant cX4_readGrant 2 (some .boolean)) from rfl) rfl
set_option maxRecDepth 50000 in
theorem cw_40 : zcw 40 ∈ lw_good := lw_good_of (i := 620) (show tables_1[620]? = some (Cond.code yX4_readTurns cX4_readTurns 4 (some .boolean)) from rfl) rfl
set_option maxRecDepth 50000 in
theorem cw_41 : zcw 41 ∈ lw_good := lw_good_of (i := 630) (show tables_1[630]? = some (Cond.code yX4_readSideOfCause cX4_readSideOfCause 2 (some .boolean)) from rfl) rfl
set_option maxRecDepth 50000 in
theorem cw_42 : zcw 42 ∈ lw_good := lw_good_of (i := 634) (show tables_1[634]? = some (Cond.code yX4_readAny cX4_readAny 4 (some .boolean)) from rfl) rfl
set_option maxRecDepth 50000 in
theorem cw_43 : zcw 43 ∈ lw_good := lw_good_of (i := 638) (show tables_1[638]? = some (Cond.code yX4_readEach cX4_readEach 4 (some .boolean)) from rfl) rfl
set_option maxRecDepth 50000 in
theorem cw_44 : zcw 44 ∈ lw_good := lw_good_of (i := 642) (show tables_1[642]? = some (Cond.code yX4_readOne cX4_readOne 6 (some .boolean)) from rfl) rfl
set_option maxRecDepth 50000 in
theorem cw_45 : zcw 45 ∈ lw_good := lw_good_of (i := 647) (show tables_1[647]? = some (Cond.code yX4_readComparison cX4_readComparison 4 (some .boolean)) from rfl) rfl
set_option maxRecDepth 50000 in
theorem cw_46 : zcw 46 ∈ lw_good := lw_good_of (i := 651) (show tables_1[651]? = some (Cond.code yX4_readOperand cX4_readOperand 1 (some .boolean)) from rfl) rfl
set_option maxRecDepth 50000 in
theorem cw_47 : zcw 47 ∈ lw_good := lw_good_of (i := 589) (show tables_1[589]? = some (Cond.code yX4_readNumber cX4_readNumber 8 (some .boolean)) from rfl) rfl
set_option maxRecDepth 50000 in
theorem cw_48 : zcw 48 ∈ lw_good := lw_good_of (i := 664) (show tables_1[664]? = some (Cond.code yX4_readSign cX4_readSign 2 (some .boolean)) from rfl) rfl
set_option maxRecDepth 50000 in
theorem cw_49 : zcw 49 ∈ lw_good := lw_good_of (i := 516) (show tables_1[516]? = some (Cond.code yX4_skipBlanks cX4_skipBlanks 2 none) from rfl) rfl
set_option maxRecDepth 50000 in
theorem cw_50 : zcw 50 ∈ lw_good := lw_good_of (i := 593) (show tables_1[593]? = some (Cond.code yX4_isHere cX4_isHere 2 (some .boolean)) from rfl) rfl
set_option maxRecDepth 50000 in
theorem cw_51 : zcw 51 ∈ lw_good := lw_good_of (i := 624) (show tables_1[624]? = some (Cond.code yX4_sideHere cX4_sideHere 1 (some .int)) from rfl) rfl
set_option maxRecDepth 50000 in
theorem cw_52 : zcw 52 ∈ lw_good := lw_good_of (i := 525) (show tables_1[525]? = some (Cond.code yX4_takeWord cX4_takeWord 4 (some .boolean)) from rfl) rfl
set_option maxRecDepth 50000 in
theorem cw_53 : zcw 53 ∈ lw_good := lw_good_of (i := 36) (show tables_1[36]? = some (Cond.code yX5_init cX5_init 1 none) from rfl) rfl
set_option maxRecDepth 50000 in
theorem cw_54 : zcw 54 ∈ lw_good := lw_good_of (i := 43) (show tables_1[43]? = some (Cond.code yX5_clear cX5_clear 1 none) from rfl) rfl
set_option maxRecDepth 50000 in
theorem cw_55 : zcw 55 ∈ lw_good := lw_good_of (i := 782) (show tables_1[782]? = some (Cond.code yX5_copyFrom cX5_copyFrom 2 none) from rfl) rfl
set_option maxRecDepth 50000 in
theorem cw_56 : zcw 56 ∈ lw_good := lw_good_of (i := 839) (show tables_1[839]? = some (Cond.code yX5_people cX5_people 1 (some .int)) from rfl) rfl
set_option maxRecDepth 50000 in
theorem cw_57 : zcw 57 ∈ lw_good := lw_good_of (i := 699) (show tables_1[699]? = some (Cond.code yX5_fillRow cX5_fillRow 2 none) from rfl) rfl
set_option maxRecDepth 50000 in
theorem cw_58 : zcw 58 ∈ lw_good := lw_good_of (i := 703) (show tables_1[703]? = some (Cond.code yX5_movePerson cX5_movePerson 3 none) from rfl) rfl
set_option maxRecDepth 50000 in
theorem cw_59 : zcw 59 ∈ lw_good := lw_good_of (i := 707) (show tables_1[707]? = some (Cond.code yX5_addToRow cX5_addToRow 2 none) from rfl) rfl
set_option maxRecDepth 50000 in
theorem cw_60 : zcw 60 ∈ lw_good := lw_good_of (i := 728) (show tables_1[728]? = some (Cond.code yX5_placeInRow cX5_placeInRow 3 (some .int)) from rfl) rfl
set_option maxRecDepth 50000 in
theorem cw_61 : zcw 61 ∈ lw_good := lw_good_of (i := 371) (show tables_1[371]? = some (Cond.code yX5_isStruck cX5_isStruck 2 (some .boolean)) from rfl) rfl
set_option maxRecDepth 50000 in
theorem cw_62 : zcw 62 ∈ lw_good := lw_good_of (i := 827) (show tables_1[827]? = some (Cond.code yX5_howManyStruck cX5_howManyStruck 3 (some .int)) from rfl) rfl
set_option maxRecDepth 50000 in
theorem cw_63 : zcw 63 ∈ lw_good := lw_good_of (i := 757) (show tables_1[757]? = some (Cond.code yX5_unstruck cX5_unstruck 4 (some .int)) from rfl) rfl
set_option maxRecDepth 50000 in
theorem cw_64 : zcw 64 ∈ lw_good := lw_good_of (i := 753) (show tables_1[753]? = some (Cond.code yX5_isInBox cX5_isInBox 3 (some .boolean)) from rfl) rfl
set_option maxRecDepth 50000 in
theorem cw_65 : zcw 65 ∈ lw_good := lw_good_of (i := 748) (show tables_1[748]? = some (Cond.code yX5_mayStrike cX5_mayStrike 2 (some .boolean)) from rfl) rfl
set_option maxRecDepth 50000 in
theorem cw_66 : zcw 66 ∈ lw_good := lw_good_of (i := 789) (show tables_1[789]? = some (Cond.code yX5_endTurn cX5_endTurn 1 none) from rfl) rfl
set_option maxRecDepth 50000 in
theorem cw_67 : zcw 67 ∈ lw_good := lw_good_of (i := 27) (show tables_1[27]? = some (Cond.code yX6_init cX6_init 2 none) from rfl) rfl
set_option maxRecDepth 50000 in
theorem cw_68 : zcw 68 ∈ lw_good := lw_good_of (i := 335) (show tables_1[335]? = some (Cond.code yX6_feed cX6_feed 6 (some .int)) from rfl) rfl
set_option maxRecDepth 50000 in
theorem cw_69 : zcw 69 ∈ lw_good := lw_good_of (i := 436) (show tables_1[436]? = some (Cond.code yX6_text cX6_text 4 (some .int)) from rfl) rfl
set_option maxRecDepth 50000 in
theorem cw_70 : zcw 70 ∈ lw_good := lw_good_of (i := 343) (show tables_1[343]? = some (Cond.code yX6_fault cX6_fault 1 (some .int)) from rfl) rfl
set_option maxRecDepth 50000 in
theorem cw_71 : zcw 71 ∈ lw_good := lw_good_of (i := 720) (show tables_1[720]? = some (Cond.code yX6_strike cX6_strike 3 (some .int)) from rfl) rfl
set_option maxRecDepth 50000 in
theorem cw_72 : zcw 72 ∈ lw_good := lw_good_of (i := 796) (show tables_1[796]? = some (Cond.code yX6_pass cX6_pass 1 (some .int)) from rfl) rfl
set_option maxRecDepth 50000 in
theorem cw_73 : zcw 73 ∈ lw_good := lw_good_of (i := 804) (show tables_1[804]? = some (Cond.code yX6_rule cX6_rule 5 (some .int)) from rfl) rfl
set_option maxRecDepth 50000 in
theorem cw_74 : zcw 74 ∈ lw_good := lw_good_of (i := 815) (show tables_1[815]? = some (Cond.code yX6_order cX6_order 5 (some .int)) from rfl) rfl
set_option maxRecDepth 50000 in
theorem cw_75 : zcw 75 ∈ lw_good := lw_good_of (i := 347) (show tables_1[347]? = some (Cond.code yX6_undo cX6_undo 1 (some .int)) from rfl) rfl
set_option maxRecDepth 50000 in
theorem cw_76 : zcw 76 ∈ lw_good := lw_good_of (i := 823) (show tables_1[823]? = some (Cond.code yX6_told cX6_told 2 (some .int)) from rfl) rfl
set_option maxRecDepth 50000 in
theorem cw_77 : zcw 77 ∈ lw_good := lw_good_of (i := 835) (show tables_1[835]? = some (Cond.code yX6_juror cX6_juror 3 (some .int)) from rfl) rfl
set_option maxRecDepth 50000 in
theorem cw_78 : zcw 78 ∈ lw_good := lw_good_of (i := 849) (show tables_1[849]? = some (Cond.code yX6_seat cX6_seat 3 (some .int)) from rfl) rfl
set_option maxRecDepth 50000 in
theorem cw_79 : zcw 79 ∈ lw_good := lw_good_of (i := 859) (show tables_1[859]? = some (Cond.code yX6_turn cX6_turn 2 (some .int)) from rfl) rfl
set_option maxRecDepth 50000 in
theorem cw_80 : zcw 80 ∈ lw_good := lw_good_of (i := 871) (show tables_1[871]? = some (Cond.code yX6_worth cX6_worth 2 (some .int)) from rfl) rfl
set_option maxRecDepth 50000 in
theorem cw_81 : zcw 81 ∈ lw_good := lw_good_of (i := 884) (show tables_1[884]? = some (Cond.code yX6_value cX6_value 2 (some .int)) from rfl) rfl
set_option maxRecDepth 50000 in
theorem cw_82 : zcw 82 ∈ lw_good := lw_good_of (i := 355) (show tables_1[355]? = some (Cond.code yX6_best cX6_best 1 (some .int)) from rfl) rfl
set_option maxRecDepth 50000 in
theorem cw_83 : zcw 83 ∈ lw_good := lw_good_of (i := 891) (show tables_1[891]? = some (Cond.code yX6_line cX6_line 2 (some .int)) from rfl) rfl
set_option maxRecDepth 50000 in
theorem cw_84 : zcw 84 ∈ lw_good := lw_good_of (i := 906) (show tables_1[906]? = some (Cond.code yX6_cost cX6_cost 3 (some .int)) from rfl) rfl
set_option maxRecDepth 50000 in
theorem cw_85 : zcw 85 ∈ lw_good := lw_good_of (i := 407) (show tables_1[407]? = some (Cond.code yX6_states cX6_states 1 (some .int)) from rfl) rfl
set_option maxRecDepth 50000 in
theorem cw_86 : zcw 86 ∈ lw_good := lw_good_of (i := 922) (show tables_1[922]? = some (Cond.code yX6_more cX6_more 4 (some .int)) from rfl) rfl
set_option maxRecDepth 50000 in
theorem cw_87 : zcw 87 ∈ lw_good := lw_good_of (i := 933) (show tables_1[933]? = some (Cond.code yX6_other cX6_other 3 (some .int)) from rfl) rfl
set_option maxRecDepth 50000 in
theorem cw_88 : zcw 88 ∈ lw_good := lw_good_of (i := 940) (show tables_1[940]? = some (Cond.code yX6_without cX6_without 3 (some .int)) from rfl) rfl
set_option maxRecDepth 50000 in
theorem cw_89 : zcw 89 ∈ lw_good := lw_good_of (i := 949) (show tables_1[949]? = some (Cond.code yX6_plain cX6_plain 3 (some .int)) from rfl) rfl
set_option maxRecDepth 50000 in
theorem cw_90 : zcw 90 ∈ lw_good := lw_good_of (i := 957) (show tables_1[957]? = some (Cond.code yX6_once cX6_once 4 (some .int)) from rfl) rfl
set_option maxRecDepth 50000 in
theorem cw_91 : zcw 91 ∈ lw_good := lw_good_of (i := 992) (show tables_1[992]? = some (Cond.code yX6_count cX6_count 8 (some .int)) from rfl) rfl
set_option maxRecDepth 50000 in
theorem cw_92 : zcw 92 ∈ lw_good := lw_good_of (i := 423) (show tables_1[423]? = some (Cond.code yX6_print cX6_print 4 (some .long)) from rfl) rfl
set_option maxRecDepth 50000 in
theorem cw_93 : zcw 93 ∈ lw_good := lw_good_of (i := 428) (show tables_1[428]? = some (Cond.code yX6_status cX6_status 2 (some .int)) from rfl) rfl
set_option maxRecDepth 50000 in
theorem cw_94 : zcw 94 ∈ lw_good := lw_good_of (i := 875) (show tables_1[875]? = some (Cond.code yX6_needSide cX6_needSide 2 none) from rfl) rfl
set_option maxRecDepth 50000 in
theorem cw_95 : zcw 95 ∈ lw_good := lw_good_of (i := 724) (show tables_1[724]? = some (Cond.code yX6_needInRow cX6_needInRow 2 none) from rfl) rfl
set_option maxRecDepth 50000 in
theorem cw_96 : zcw 96 ∈ lw_good := lw_good_of (i := 863) (show tables_1[863]? = some (Cond.code yX6_needTurn cX6_needTurn 2 none) from rfl) rfl
set_option maxRecDepth 50000 in
theorem cw_97 : zcw 97 ∈ lw_good := lw_good_of (i := 807) (show tables_1[807]? = some (Cond.code yX6_isRule cX6_isRule 2 (some .boolean)) from rfl) rfl
set_option maxRecDepth 50000 in
theorem cw_98 : zcw 98 ∈ lw_good := lw_good_of (i := 339) (show tables_1[339]? = some (Cond.code yX6_putNumber cX6_putNumber 3 none) from rfl) rfl
set_option maxRecDepth 50000 in
theorem cw_99 : zcw 99 ∈ lw_good := lw_good_of (i := 507) (show tables_1[507]? = some (Cond.code yX6_freeTable cX6_freeTable 1 (some (.object "StrikeBench$Table"))) from rfl) rfl
set_option maxRecDepth 50000 in
theorem cw_100 : zcw 100 ∈ lw_good := lw_good_of (i := 778) (show tables_1[778]? = some (Cond.code yX6_copyOfNow cX6_copyOfNow 2 (some (.object "StrikeBench$Table"))) from rfl) rfl
set_option maxRecDepth 50000 in
theorem cw_101 : zcw 101 ∈ lw_good := lw_good_of (i := 711) (show tables_1[711]? = some (Cond.code yX6_keepAct cX6_keepAct 1 none) from rfl) rfl
set_option maxRecDepth 50000 in
theorem cw_102 : zcw 102 ∈ lw_good := lw_good_of (i := 351) (show tables_1[351]? = some (Cond.code yX6_moveTo cX6_moveTo 2 none) from rfl) rfl
set_option maxRecDepth 50000 in
theorem cw_103 : zcw 103 ∈ lw_good := lw_good_of (i := 359) (show tables_1[359]? = some (Cond.code yX6_lookAhead cX6_lookAhead 1 none) from rfl) rfl
set_option maxRecDepth 50000 in
theorem cw_104 : zcw 104 ∈ lw_good := lw_good_of (i := 926) (show tables_1[926]? = some (Cond.code yX6_valueIf cX6_valueIf 5 (some .int)) from rfl) rfl
set_option maxRecDepth 50000 in
theorem cw_105 : zcw 105 ∈ lw_good := lw_good_of (i := 997) (show tables_1[997]? = some (Cond.code yX7_thrown cX7_thrown 1 (some .int)) from rfl) rfl
set_option maxRecDepth 50000 in
theorem cw_106 : zcw 106 ∈ lw_good := lw_good_of (i := 1132) (show tables_1[1132]? = some (Cond.code yX7_isFine cX7_isFine 4 (some .boolean)) from rfl) rfl
set_option maxRecDepth 50000 in
theorem cw_107 : zcw 107 ∈ lw_good := lw_good_of (i := 1128) (show tables_1[1128]? = some (Cond.code yX7_lies cX7_lies 6 (some .boolean)) from rfl) rfl
set_option maxRecDepth 50000 in
theorem cw_108 : zcw 108 ∈ lw_good := lw_good_of (i := 1186) (show tables_1[1186]? = some (Cond.code yX7_has cX7_has 2 (some .boolean)) from rfl) rfl
set_option maxRecDepth 50000 in
theorem cw_109 : zcw 109 ∈ lw_good := lw_good_of (i := 1002) (show tables_1[1002]? = some (Cond.code yX7_init cX7_init 1 none) from rfl) rfl
set_option maxRecDepth 50000 in
theorem cw_110 : zcw 110 ∈ lw_good := lw_good_of (i := 1006) (show tables_1[1006]? = some (Cond.code yX7_begins cX7_begins 2 none) from rfl) rfl
set_option maxRecDepth 50000 in
theorem cw_111 : zcw 111 ∈ lw_good := lw_good_of (i := 1267) (show tables_1[1267]? = some (Cond.code yX7_keeps cX7_keeps 2 none) from rfl) rfl
set_option maxRecDepth 50000 in
theorem cw_112 : zcw 112 ∈ lw_good := lw_good_of (i := 1113) (show tables_1[1113]? = some (Cond.code yX7_undo cX7_undo 2 (some .int)) from rfl) rfl
set_option maxRecDepth 50000 in
theorem cw_113 : zcw 113 ∈ lw_good := lw_good_of (i := 1117) (show tables_1[1117]? = some (Cond.code yX7_feed cX7_feed 6 (some .int)) from rfl) rfl
set_option maxRecDepth 50000 in
theorem cw_114 : zcw 114 ∈ lw_good := lw_good_of (i := 1121) (show tables_1[1121]? = some (Cond.code yX7_puts cX7_puts 3 none) from rfl) rfl
set_option maxRecDepth 50000 in
theorem cw_115 : zcw 115 ∈ lw_good := lw_good_of (i := 1159) (show tables_1[1159]? = some (Cond.code yX7_wrong cX7_wrong 3 none) from rfl) rfl
set_option maxRecDepth 50000 in
theorem cw_116 : zcw 116 ∈ lw_good := lw_good_of (i := 1136) (show tables_1[1136]? = some (Cond.code yX7_sign cX7_sign 1 (some .int)) from rfl) rfl
set_option maxRecDepth 50000 in
theorem cw_117 : zcw 117 ∈ lw_good := lw_good_of (i := 1150) (show tables_1[1150]? = some (Cond.code yX7_isSmall cX7_isSmall 2 (some .boolean)) from rfl) rfl
set_option maxRecDepth 50000 in
theorem cw_118 : zcw 118 ∈ lw_good := lw_good_of (i := 1171) (show tables_1[1171]? = some (Cond.code yX7_isFigure cX7_isFigure 2 (some .boolean)) from rfl) rfl
set_option maxRecDepth 50000 in
theorem cw_119 : zcw 119 ∈ lw_good := lw_good_of (i := 1145) (show tables_1[1145]? = some (Cond.code yX7_isHere cX7_isHere 3 (some .boolean)) from rfl) rfl
set_option maxRecDepth 50000 in
theorem cw_120 : zcw 120 ∈ lw_good := lw_good_of (i := 1239) (show tables_1[1239]? = some (Cond.code yX7_passesWord cX7_passesWord 2 (some .boolean)) from rfl) rfl
set_option maxRecDepth 50000 in
theorem cw_121 : zcw 121 ∈ lw_good := lw_good_of (i := 1167) (show tables_1[1167]? = some (Cond.code yX7_passes cX7_passes 2 (some .boolean)) from rfl) rfl
set_option maxRecDepth 50000 in
theorem cw_122 : zcw 122 ∈ lw_good := lw_good_of (i := 1223) (show tables_1[1223]? = some (Cond.code yX7_needs cX7_needs 2 none) from rfl) rfl
set_option maxRecDepth 50000 in
theorem cw_123 : zcw 123 ∈ lw_good := lw_good_of (i := 1163) (show tables_1[1163]? = some (Cond.code yX7_number cX7_number 6 (some .int)) from rfl) rfl
set_option maxRecDepth 50000 in
theorem cw_124 : zcw 124 ∈ lw_good := lw_good_of (i := 1219) (show tables_1[1219]? = some (Cond.code yX7_adds cX7_adds 2 none) from rfl) rfl
set_option maxRecDepth 50000 in
theorem cw_125 : zcw 125 ∈ lw_good := lw_good_of (i := 1230) (show tables_1[1230]? = some (Cond.code yX7_field cX7_field 1 (some (.object "java/lang/String"))) from rfl) rfl
set_option maxRecDepth 50000 in
theorem cw_126 : zcw 126 ∈ lw_good := lw_good_of (i := 1202) (show tables_1[1202]? = some (Cond.code yX7_either cX7_either 1 none) from rfl) rfl
set_option maxRecDepth 50000 in
theorem cw_127 : zcw 127 ∈ lw_good := lw_good_of (i := 1206) (show tables_1[1206]? = some (Cond.code yX7_both cX7_both 1 none) from rfl) rfl
set_option maxRecDepth 50000 in
theorem cw_128 : zcw 128 ∈ lw_good := lw_good_of (i := 1215) (show tables_1[1215]? = some (Cond.code yX7_opens cX7_opens 2 (some .boolean)) from rfl) rfl
set_option maxRecDepth 50000 in
theorem cw_129 : zcw 129 ∈ lw_good := lw_good_of (i := 1210) (show tables_1[1210]? = some (Cond.code yX7_part cX7_part 2 none) from rfl) rfl
set_option maxRecDepth 50000 in
theorem cw_130 : zcw 130 ∈ lw_good := lw_good_of (i := 1227) (show tables_1[1227]? = some (Cond.code yX7_quantity cX7_quantity 2 none) from rfl) rfl
set_option maxRecDepth 50000 in
theorem cw_131 : zcw 131 ∈ lw_good := lw_good_of (i := 1198) (show tables_1[1198]? = some (Cond.code yX7_condition cX7_condition 2 none) from rfl) rfl
set_option maxRecDepth 50000 in
theorem cw_132 : zcw 132 ∈ lw_good := lw_good_of (i := 1183) (show tables_1[1183]? = some (Cond.code yX7_isOnce cX7_isOnce 3 (some .boolean)) from rfl) rfl
set_option maxRecDepth 50000 in
theorem cw_133 : zcw 133 ∈ lw_good := lw_good_of (i := 1155) (show tables_1[1155]? = some (Cond.code yX7_person cX7_person 6 none) from rfl) rfl
set_option maxRecDepth 50000 in
theorem cw_134 : zcw 134 ∈ lw_good := lw_good_of (i := 1178) (show tables_1[1178]? = some (Cond.code yX7_tales cX7_tales 2 none) from rfl) rfl
set_option maxRecDepth 50000 in
theorem cw_135 : zcw 135 ∈ lw_good := lw_good_of (i := 1192) (show tables_1[1192]? = some (Cond.code yX7_turnsRead cX7_turnsRead 3 none) from rfl) rfl
set_option maxRecDepth 50000 in
theorem cw_136 : zcw 136 ∈ lw_good := lw_good_of (i := 1247) (show tables_1[1247]? = some (Cond.code yX7_causeRead cX7_causeRead 3 none) from rfl) rfl
set_option maxRecDepth 50000 in
theorem cw_137 : zcw 137 ∈ lw_good := lw_good_of (i := 1140) (show tables_1[1140]? = some (Cond.code yX7_lineRead cX7_lineRead 1 none) from rfl) rfl
set_option maxRecDepth 50000 in
theorem cw_138 : zcw 138 ∈ lw_good := lw_good_of (i := 1125) (show tables_1[1125]? = some (Cond.code yX7_text cX7_text 3 (some .int)) from rfl) rfl
set_option maxRecDepth 50000 in
theorem cw_139 : zcw 139 ∈ lw_good := lw_good_of (i := 1271) (show tables_1[1271]? = some (Cond.code yX7_fault cX7_fault 1 (some .int)) from rfl) rfl
set_option maxRecDepth 50000 in
theorem cw_140 : zcw 140 ∈ lw_good := lw_good_of (i := 1259) (show tables_1[1259]? = some (Cond.code yX7_fieldOf cX7_fieldOf 3 (some .int)) from rfl) rfl
set_option maxRecDepth 50000 in
theorem cw_141 : zcw 141 ∈ lw_good := lw_good_of (i := 1255) (show tables_1[1255]? = some (Cond.code yX7_holds cX7_holds 9 (some .boolean)) from rfl) rfl
set_option maxRecDepth 50000 in
theorem cw_142 : zcw 142 ∈ lw_good := lw_good_of (i := 1251) (show tables_1[1251]? = some (Cond.code yX7_lays cX7_lays 7 none) from rfl) rfl
set_option maxRecDepth 50000 in
theorem cw_143 : zcw 143 ∈ lw_good := lw_good_of (i := 1263) (show tables_1[1263]? = some (Cond.code yX7_joins cX7_joins 2 none) from rfl) rfl
set_option maxRecDepth 50000 in
theorem cw_144 : zcw 144 ∈ lw_good := lw_good_of (i := 1287) (show tables_1[1287]? = some (Cond.code yX7_laysGame cX7_laysGame 2 none) from rfl) rfl
set_option maxRecDepth 50000 in
theorem cw_145 : zcw 145 ∈ lw_good := lw_good_of (i := 1291) (show tables_1[1291]? = some (Cond.code yX7_struckNow cX7_struckNow 3 (some .int)) from rfl) rfl
set_option maxRecDepth 50000 in
theorem cw_146 : zcw 146 ∈ lw_good := lw_good_of (i := 1370) (show tables_1[1370]? = some (Cond.code yX7_worthTo cX7_worthTo 3 (some .int)) from rfl) rfl
set_option maxRecDepth 50000 in
theorem cw_147 : zcw 147 ∈ lw_good := lw_good_of (i := 1303) (show tables_1[1303]? = some (Cond.code yX7_aheadOf cX7_aheadOf 5 (some .int)) from rfl) rfl
set_option maxRecDepth 50000 in
theorem cw_148 : zcw 148 ∈ lw_good := lw_good_of (i := 1299) (show tables_1[1299]? = some (Cond.code yX7_isBoxed cX7_isBoxed 3 (some .boolean)) from rfl) rfl
set_option maxRecDepth 50000 in
theorem cw_149 : zcw 149 ∈ lw_good := lw_good_of (i := 1349) (show tables_1[1349]? = some (Cond.code yX7_isSpare cX7_isSpare 3 (some .boolean)) from rfl) rfl
set_option maxRecDepth 50000 in
theorem cw_150 : zcw 150 ∈ lw_good := lw_good_of (i := 1366) (show tables_1[1366]? = some (Cond.code yX7_endWorth cX7_endWorth 5 (some .int)) from rfl) rfl
set_option maxRecDepth 50000 in
theorem cw_151 : zcw 151 ∈ lw_good := lw_good_of (i := 1295) (show tables_1[1295]? = some (Cond.code yX7_canStrike cX7_canStrike 3 (some .boolean)) from rfl) rfl
set_option maxRecDepth 50000 in
theorem cw_152 : zcw 152 ∈ lw_good := lw_good_of (i := 1382) (show tables_1[1382]? = some (Cond.code yX7_works cX7_works 3 none) from rfl) rfl
set_option maxRecDepth 50000 in
theorem cw_153 : zcw 153 ∈ lw_good := lw_good_of (i := 1390) (show tables_1[1390]? = some (Cond.code yX7_valueAt cX7_valueAt 4 (some .int)) from rfl) rfl
set_option maxRecDepth 50000 in
theorem cw_154 : zcw 154 ∈ lw_good := lw_good_of (i := 1386) (show tables_1[1386]? = some (Cond.code yX7_look cX7_look 11 none) from rfl) rfl
set_option maxRecDepth 50000 in
theorem cw_155 : zcw 155 ∈ lw_good := lw_good_of (i := 1378) (show tables_1[1378]? = some (Cond.code yX7_worksNow cX7_worksNow 1 none) from rfl) rfl
set_option maxRecDepth 50000 in
theorem cw_156 : zcw 156 ∈ lw_good := lw_good_of (i := 1283) (show tables_1[1283]? = some (Cond.code yX7_placeOf cX7_placeOf 3 (some .int)) from rfl) rfl
set_option maxRecDepth 50000 in
theorem cw_157 : zcw 157 ∈ lw_good := lw_good_of (i := 1279) (show tables_1[1279]? = some (Cond.code yX7_isAct cX7_isAct 2 (some .boolean)) from rfl) rfl
set_option maxRecDepth 50000 in
theorem cw_158 : zcw 158 ∈ lw_good := lw_good_of (i := 1307) (show tables_1[1307]? = some (Cond.code yX7_goesOn cX7_goesOn 1 none) from rfl) rfl
set_option maxRecDepth 50000 in
theorem cw_159 : zcw 159 ∈ lw_good := lw_good_of (i := 1275) (show tables_1[1275]? = some (Cond.code yX7_strike cX7_strike 2 (some .int)) from rfl) rfl
set_option maxRecDepth 50000 in
theorem cw_160 : zcw 160 ∈ lw_good := lw_good_of (i := 1311) (show tables_1[1311]? = some (Cond.code yX7_pass cX7_pass 1 (some .int)) from rfl) rfl
set_option maxRecDepth 50000 in
theorem cw_161 : zcw 161 ∈ lw_good := lw_good_of (i := 1315) (show tables_1[1315]? = some (Cond.code yX7_rule cX7_rule 5 (some .int)) from rfl) rfl
set_option maxRecDepth 50000 in
theorem cw_162 : zcw 162 ∈ lw_good := lw_good_of (i := 1321) (show tables_1[1321]? = some (Cond.code yX7_order cX7_order 4 (some .int)) from rfl) rfl
set_option maxRecDepth 50000 in
theorem cw_163 : zcw 163 ∈ lw_good := lw_good_of (i := 1332) (show tables_1[1332]? = some (Cond.code yX7_excused cX7_excused 3 (some .int)) from rfl) rfl
set_option maxRecDepth 50000 in
theorem cw_164 : zcw 164 ∈ lw_good := lw_good_of (i := 1336) (show tables_1[1336]? = some (Cond.code yX7_struckMany cX7_struckMany 3 (some .int)) from rfl) rfl
set_option maxRecDepth 50000 in
theorem cw_165 : zcw 165 ∈ lw_good := lw_good_of (i := 1327) (show tables_1[1327]? = some (Cond.code yX7_told cX7_told 2 (some .int)) from rfl) rfl
set_option maxRecDepth 50000 in
theorem cw_166 : zcw 166 ∈ lw_good := lw_good_of (i := 1340) (show tables_1[1340]? = some (Cond.code yX7_juror cX7_juror 4 (some .int)) from rfl) rfl
set_option maxRecDepth 50000 in
theorem cw_167 : zcw 167 ∈ lw_good := lw_good_of (i := 1345) (show tables_1[1345]? = some (Cond.code yX7_seat cX7_seat 6 (some .int)) from rfl) rfl
set_option maxRecDepth 50000 in
theorem cw_168 : zcw 168 ∈ lw_good := lw_good_of (i := 1354) (show tables_1[1354]? = some (Cond.code yX7_turn cX7_turn 2 (some .int)) from rfl) rfl
set_option maxRecDepth 50000 in
theorem cw_169 : zcw 169 ∈ lw_good := lw_good_of (i := 1362) (show tables_1[1362]? = some (Cond.code yX7_isSide cX7_isSide 3 (some .boolean)) from rfl) rfl
set_option maxRecDepth 50000 in
theorem cw_170 : zcw 170 ∈ lw_good := lw_good_of (i := 1358) (show tables_1[1358]? = some (Cond.code yX7_worth cX7_worth 2 (some .int)) from rfl) rfl
set_option maxRecDepth 50000 in
theorem cw_171 : zcw 171 ∈ lw_good := lw_good_of (i := 1374) (show tables_1[1374]? = some (Cond.code yX7_value cX7_value 2 (some .int)) from rfl) rfl
set_option maxRecDepth 50000 in
theorem cw_172 : zcw 172 ∈ lw_good := lw_good_of (i := 1398) (show tables_1[1398]? = some (Cond.code yX7_lineAt cX7_lineAt 5 (some .int)) from rfl) rfl
set_option maxRecDepth 50000 in
theorem cw_173 : zcw 173 ∈ lw_good := lw_good_of (i := 1394) (show tables_1[1394]? = some (Cond.code yX7_best cX7_best 1 (some .int)) from rfl) rfl
set_option maxRecDepth 50000 in
theorem cw_174 : zcw 174 ∈ lw_good := lw_good_of (i := 1402) (show tables_1[1402]? = some (Cond.code yX7_line cX7_line 2 (some .int)) from rfl) rfl
set_option maxRecDepth 50000 in
theorem cw_175 : zcw 175 ∈ lw_good := lw_good_of (i := 1406) (show tables_1[1406]? = some (Cond.code yX7_cost cX7_cost 4 (some .int)) from rfl) rfl
set_option maxRecDepth 50000 in
theorem cw_176 : zcw 176 ∈ lw_good := lw_good_of (i := 1410) (show tables_1[1410]? = some (Cond.code yX7_states cX7_states 5 (some .int)) from rfl) rfl
set_option maxRecDepth 50000 in
theorem cw_177 : zcw 177 ∈ lw_good := lw_good_of (i := 1414) (show tables_1[1414]? = some (Cond.code yX7_more cX7_more 4 (some .int)) from rfl) rfl
set_option maxRecDepth 50000 in
theorem cw_178 : zcw 178 ∈ lw_good := lw_good_of (i := 1418) (show tables_1[1418]? = some (Cond.code yX7_other cX7_other 3 (some .int)) from rfl) rfl
set_option maxRecDepth 50000 in
theorem cw_179 : zcw 179 ∈ lw_good := lw_good_of (i := 1422) (show tables_1[1422]? = some (Cond.code yX7_without cX7_without 5 (some .int)) from rfl) rfl
set_option maxRecDepth 50000 in
theorem cw_180 : zcw 180 ∈ lw_good := lw_good_of (i := 1430) (show tables_1[1430]? = some (Cond.code yX7_plainAct cX7_plainAct 7 (some .int)) from rfl) rfl
set_option maxRecDepth 50000 in
theorem cw_181 : zcw 181 ∈ lw_good := lw_good_of (i := 1426) (show tables_1[1426]? = some (Cond.code yX7_plain cX7_plain 6 (some .int)) from rfl) rfl
set_option maxRecDepth 50000 in
theorem cw_182 : zcw 182 ∈ lw_good := lw_good_of (i := 1439) (show tables_1[1439]? = some (Cond.code yX7_leftOf cX7_leftOf 4 (some .int)) from rfl) rfl
set_option maxRecDepth 50000 in
theorem cw_183 : zcw 183 ∈ lw_good := lw_good_of (i := 1450) (show tables_1[1450]? = some (Cond.code yX7_bits cX7_bits 3 (some .int)) from rfl) rfl
set_option maxRecDepth 50000 in
theorem cw_184 : zcw 184 ∈ lw_good := lw_good_of (i := 1447) (show tables_1[1447]? = some (Cond.code yX7_canName cX7_canName 4 (some .boolean)) from rfl) rfl
set_option maxRecDepth 50000 in
theorem cw_185 : zcw 185 ∈ lw_good := lw_good_of (i := 1455) (show tables_1[1455]? = some (Cond.code yX7_numbers cX7_numbers 4 (some .int)) from rfl) rfl
set_option maxRecDepth 50000 in
theorem cw_186 : zcw 186 ∈ lw_good := lw_good_of (i := 1434) (show tables_1[1434]? = some (Cond.code yX7_once cX7_once 11 (some .int)) from rfl) rfl
set_option maxRecDepth 50000 in
theorem cw_187 : zcw 187 ∈ lw_good := lw_good_of (i := 1443) (show tables_1[1443]? = some (Cond.code yX7_laysBest cX7_laysBest 7 none) from rfl) rfl
set_option maxRecDepth 50000 in
theorem cw_188 : zcw 188 ∈ lw_good := lw_good_of (i := 1459) (show tables_1[1459]? = some (Cond.code yX7_count cX7_count 7 (some .int)) from rfl) rfl
set_option maxRecDepth 50000 in
theorem cw_189 : zcw 189 ∈ lw_good := lw_good_of (i := 1464) (show tables_1[1464]? = some (Cond.code yX7_print cX7_print 4 (some .long)) from rfl) rfl
set_option maxRecDepth 50000 in
theorem cw_190 : zcw 190 ∈ lw_good := lw_good_of (i := 1469) (show tables_1[1469]? = some (Cond.code yX7_status cX7_status 2 (some .int)) from rfl) rfl
set_option maxRecDepth 50000 in
theorem cw_191 : zcw 191 ∈ lw_good := lw_good_of (i := 378) (show tables_1[378]? = some (Cond.code yJ6_bitCount_0f7a4 cJ6_bitCount_0f7a4 1 (some .int)) from rfl) rfl
set_option maxRecDepth 50000 in
theorem cw_192 : zcw 192 ∈ lw_good := lw_good_of (i := 529) (show tables_1[529]? = some (Cond.code yJ0_length_8abf5 cJ0_length_8abf5 1 (some .int)) from rfl) rfl
set_option maxRecDepth 50000 in
theorem cw_193 : zcw 193 ∈ lw_good := lw_good_of (i := 539) (show tables_1[539]? = some (Cond.code yJ0_charAt_5068e cJ0_charAt_5068e 2 (some .char)) from rfl) rfl
set_option maxRecDepth 50000 in
theorem cw_194 : zcw 194 ∈ lw_good := lw_good_of (i := 533) (show tables_1[533]? = some (Cond.code yJ0_coder_7d493 cJ0_coder_7d493 1 (some .byte)) from rfl) rfl
set_option maxRecDepth 50000 in
theorem cw_195 : zcw 195 ∈ lw_good := lw_good_of (i := 543) (show tables_1[543]? = some (Cond.code yJ0_isLatin1_aae02 cJ0_isLatin1_aae02 1 (some .boolean)) from rfl) rfl
set_option maxRecDepth 50000 in
theorem cw_196 : zcw 196 ∈ lw_good := lw_good_of (i := 549) (show tables_1[549]? = some (Cond.code yJ0_checkIndex_df160 cJ0_checkIndex_df160 2 none) from rfl) rfl
set_option maxRecDepth 50000 in
theorem cw_197 : zcw 197 ∈ lw_good := lw_good_of (i := 546) (show tables_1[546]? = some (Cond.code yJ1_charAt_3b067 cJ1_charAt_3b067 2 (some .char)) from rfl) rfl
set_option maxRecDepth 50000 in
theorem cw_198 : zcw 198 ∈ lw_good := lw_good_of (i := 46) (show tables_1[46]? = some (Cond.code yJ7_fill_53178 cJ7_fill_53178 4 none) from rfl) rfl
set_option maxRecDepth 50000 in
theorem cw_199 : zcw 199 ∈ lw_good := lw_good_of (i := 554) (show tables_1[554]? = some (Cond.code yJ3_checkIndex_8e157 cJ3_checkIndex_8e157 3 (some .int)) from rfl) rfl
set_option maxRecDepth 50000 in
theorem cw_200 : zcw 200 ∈ lw_good := lw_good_of (i := 431) (show tables_1[431]? = some (Cond.codeWith yL_text cL_text 4 (some .int) [(0, 9, 12, 13)]) from rfl) rfl
set_option maxRecDepth 50000 in
theorem cw_201 : zcw 201 ∈ lw_good := lw_good_of (i := 714) (show tables_1[714]? = some (Cond.codeWith yL_strike cL_strike 4 (some .int) [(0, 9, 12, 18), (0, 9, 15, 20)]) from rfl) rfl
set_option maxRecDepth 50000 in
theorem cw_202 : zcw 202 ∈ lw_good := lw_good_of (i := 792) (show tables_1[792]? = some (Cond.codeWith yL_pass cL_pass 3 (some .int) [(0, 8, 11, 20)]) from rfl) rfl
set_option maxRecDepth 50000 in
theorem cw_203 : zcw 203 ∈ lw_good := lw_good_of (i := 800) (show tables_1[800]? = some (Cond.codeWith yL_rule cL_rule 5 (some .int) [(0, 10, 13, 13)]) from rfl) rfl
set_option maxRecDepth 50000 in
theorem cw_204 : zcw 204 ∈ lw_good := lw_good_of (i := 811) (show tables_1[811]? = some (Cond.codeWith yL_order cL_order 5 (some .int) [(0, 10, 13, 13)]) from rfl) rfl
set_option maxRecDepth 50000 in
theorem cw_205 : zcw 205 ∈ lw_good := lw_good_of (i := 819) (show tables_1[819]? = some (Cond.codeWith yL_told cL_told 4 (some .int) [(0, 9, 12, 13)]) from rfl) rfl
set_option maxRecDepth 50000 in
theorem cw_206 : zcw 206 ∈ lw_good := lw_good_of (i := 831) (show tables_1[831]? = some (Cond.codeWith yL_juror cL_juror 5 (some .int) [(0, 10, 13, 18), (0, 10, 17, 13)]) from rfl) rfl
set_option maxRecDepth 50000 in
theorem cw_207 : zcw 207 ∈ lw_good := lw_good_of (i := 845) (show tables_1[845]? = some (Cond.codeWith yL_seat cL_seat 5 (some .int) [(0, 10, 13, 13)]) from rfl) rfl
set_option maxRecDepth 50000 in
theorem cw_208 : zcw 208 ∈ lw_good := lw_good_of (i := 855) (show tables_1[855]? = some (Cond.codeWith yL_turn cL_turn 4 (some .int) [(0, 9, 12, 18)]) from rfl) rfl
set_option maxRecDepth 50000 in
theorem cw_209 : zcw 209 ∈ lw_good := lw_good_of (i := 867) (show tables_1[867]? = some (Cond.codeWith yL_worth cL_worth 4 (some .int) [(0, 9, 12, 13)]) from rfl) rfl
set_option maxRecDepth 50000 in
theorem cw_210 : zcw 210 ∈ lw_good := lw_good_of (i := 880) (show tables_1[880]? = some (Cond.codeWith yL_value cL_value 4 (some .int) [(0, 9, 12, 13)]) from rfl) rfl
set_option maxRecDepth 50000 in
theorem cw_211 : zcw 211 ∈ lw_good := lw_good_of (i := 887) (show tables_1[887]? = some (Cond.codeWith yL_line cL_line 4 (some .int) [(0, 9, 12, 13)]) from rfl) rfl
set_option maxRecDepth 50000 in
theorem cw_212 : zcw 212 ∈ lw_good := lw_good_of (i := 902) (show tables_1[902]? = some (Cond.codeWith yL_cost cL_cost 4 (some .int) [(0, 9, 12, 18), (0, 9, 15, 20)]) from rfl) rfl
set_option maxRecDepth 50000 in
theorem cw_213 : zcw 213 ∈ lw_good := lw_good_of (i := 918) (show tables_1[918]? = some (Cond.codeWith yL_more cL_more 5 (some .int) [(0, 10, 13, 13)]) from rfl) rfl
set_option maxRecDepth 50000 in
theorem cw_214 : zcw 214 ∈ lw_good := lw_good_of (i := 929) (show tables_1[929]? = some (Cond.codeWith yL_other cL_other 5 (some .int) [(0, 10, 13, 18), (0, 10, 17, 13)]) from rfl) rfl
set_option maxRecDepth 50000 in
theorem cw_215 : zcw 215 ∈ lw_good := lw_good_of (i := 936) (show tables_1[936]? = some (Cond.codeWith yL_without cL_without 5 (some .int) [(0, 10, 13, 18), (0, 10, 17, 13), (0, 10, 21, 20)]) from rfl) rfl
set_option maxRecDepth 50000 in
theorem cw_216 : zcw 216 ∈ lw_good := lw_good_of (i := 945) (show tables_1[945]? = some (Cond.codeWith yL_plain cL_plain 5 (some .int) [(0, 10, 13, 13)]) from rfl) rfl
set_option maxRecDepth 50000 in
theorem cw_217 : zcw 217 ∈ lw_good := lw_good_of (i := 953) (show tables_1[953]? = some (Cond.codeWith yL_once cL_once 4 (some .int) [(0, 9, 12, 13), (0, 9, 15, 20)]) from rfl) rfl
set_option maxRecDepth 50000 in
theorem cw_218 : zcw 218 ∈ lw_good := lw_good_of (i := 988) (show tables_1[988]? = some (Cond.codeWith yL_count cL_count 5 (some .int) [(0, 10, 13, 13)]) from rfl) rfl
set_option maxRecDepth 50000 in
theorem cw_220 : zcw 220 ∈ lw_good := lw_good_of (i := 402) (show tables_1[402]? = some (Cond.code yX3_actOf cX3_actOf 3 (some .int)) from rfl) rfl
set_option maxRecDepth 50000 in
theorem cw_221 : zcw 221 ∈ lw_good := lw_good_of (i := 363) (show tables_1[363]? = some (Cond.code yX6_seeField cX6_seeField 1 none) from rfl) rfl
theorem cwU_20 : ∀ a, a < 20 → zcw a ∈ lw_good := lt_s (lt_s (lt_s (lt_s (lt_s (lt_s (lt_s (lt_s (lt_s (lt_s (lt_s (lt_s (lt_s (lt_s (lt_s (lt_s (lt_s (lt_s (lt_s (lt_s (lt_0) cw_0) cw_1) cw_2) cw_3) cw_4) cw_5) cw_6) cw_7) cw_8) cw_9) cw_10) cw_11) cw_12) cw_13) cw_14) cw_15) cw_16) cw_17) cw_18) cw_19
theorem cwU_40 : ∀ a, a < 40 → zcw a ∈ lw_good := lt_s (lt_s (lt_s (lt_s (lt_s (lt_s (lt_s (lt_s (lt_s (lt_s (lt_s (lt_s (lt_s (lt_s (lt_s (lt_s (lt_s (lt_s (lt_s (lt_s (cwU_20) cw_20) cw_21) cw_22) cw_23) cw_24) cw_25) cw_26) cw_27) cw_28) cw_29) cw_30) cw_31) cw_32) cw_33) cw_34) cw_35) cw_36) cw_37) cw_38) cw_39
theorem cwU_60 : ∀ a, a < 60 → zcw a ∈ lw_good := lt_s (lt_s (lt_s (lt_s (lt_s (lt_s (lt_s (lt_s (lt_s (lt_s (lt_s (lt_s (lt_s (lt_s (lt_s (lt_s (lt_s (lt_s (lt_s (lt_s (cwU_40) cw_40) cw_41) cw_42) cw_43) cw_44) cw_45) cw_46) cw_47) cw_48) cw_49) cw_50) cw_51) cw_52) cw_53) cw_54) cw_55) cw_56) cw_57) cw_58) cw_59
theorem cwU_80 : ∀ a, a < 80 → zcw a ∈ lw_good := lt_s (lt_s (lt_s (lt_s (lt_s (lt_s (lt_s (lt_s (lt_s (lt_s (lt_s (lt_s (lt_s (lt_s (lt_s (lt_s (lt_s (lt_s (lt_s (lt_s (cwU_60) cw_60) cw_61) cw_62) cw_63) cw_64) cw_65) cw_66) cw_67) cw_68) cw_69) cw_70) cw_71) cw_72) cw_73) cw_74) cw_75) cw_76) cw_77) cw_78) cw_79
theorem cwU_100 : ∀ a, a < 100 → zcw a ∈ lw_good := lt_s (lt_s (lt_s (lt_s (lt_s (lt_s (lt_s (lt_s (lt_s (lt_s (lt_s (lt_s (lt_s (lt_s (lt_s (lt_s (lt_s (lt_s (lt_s (lt_s (cwU_80) cw_80) cw_81) cw_82) cw_83) cw_84) cw_85) cw_86) cw_87) cw_88) cw_89) cw_90) cw_91) cw_92) cw_93) cw_94) cw_95) cw_96) cw_97) cw_98) cw_99
theorem cwU_120 : ∀ a, a < 120 → zcw a ∈ lw_good := lt_s (lt_s (lt_s (lt_s (lt_s (lt_s (lt_s (lt_s (lt_s (lt_s (lt_s (lt_s (lt_s (lt_s (lt_s (lt_s (lt_s (lt_s (lt_s (lt_s (cwU_100) cw_100) cw_101) cw_102) cw_103) cw_104) cw_105) cw_106) cw_107) cw_108) cw_109) cw_110) cw_111) cw_112) cw_113) cw_114) cw_115) cw_116) cw_117) cw_118) cw_119
theorem cwU_140 : ∀ a, a < 140 → zcw a ∈ lw_good := lt_s (lt_s (lt_s (lt_s (lt_s (lt_s (lt_s (lt_s (lt_s (lt_s (lt_s (lt_s (lt_s (lt_s (lt_s (lt_s (lt_s (lt_s (lt_s (lt_s (cwU_120) cw_120) cw_121) cw_122) cw_123) cw_124) cw_125) cw_126) cw_127) cw_128) cw_129) cw_130) cw_131) cw_132) cw_133) cw_134) cw_135) cw_136) cw_137) cw_138) cw_139
theorem cwU_160 : ∀ a, a < 160 → zcw a ∈ lw_good := lt_s (lt_s (lt_s (lt_s (lt_s (lt_s (lt_s (lt_s (lt_s (lt_s (lt_s (lt_s (lt_s (lt_s (lt_s (lt_s (lt_s (lt_s (lt_s (lt_s (cwU_140) cw_140) cw_141) cw_142) cw_143) cw_144) cw_145) cw_146) cw_147) cw_148) cw_149) cw_150) cw_151) cw_152) cw_153) cw_154) cw_155) cw_156) cw_157) cw_158) cw_159
theorem cwU_180 : ∀ a, a < 180 → zcw a ∈ lw_good := lt_s (lt_s (lt_s (lt_s (lt_s (lt_s (lt_s (lt_s (lt_s (lt_s (lt_s (lt_s (lt_s (lt_s (lt_s (lt_s (lt_s (lt_s (lt_s (lt_s (cwU_160) cw_160) cw_161) cw_162) cw_163) cw_164) cw_165) cw_166) cw_167) cw_168) cw_169) cw_170) cw_171) cw_172) cw_173) cw_174) cw_175) cw_176) cw_177) cw_178) cw_179
theorem cwU_200 : ∀ a, a < 200 → zcw a ∈ lw_good := lt_s (lt_s (lt_s (lt_s (lt_s (lt_s (lt_s (lt_s (lt_s (lt_s (lt_s (lt_s (lt_s (lt_s (lt_s (lt_s (lt_s (lt_s (lt_s (lt_s (cwU_180) cw_180) cw_181) cw_182) cw_183) cw_184) cw_185) cw_186) cw_187) cw_188) cw_189) cw_190) cw_191) cw_192) cw_193) cw_194) cw_195) cw_196) cw_197) cw_198) cw_199
theorem cwU_219 : ∀ a, a < 219 → zcw a ∈ lw_good := lt_s (lt_s (lt_s (lt_s (lt_s (lt_s (lt_s (lt_s (lt_s (lt_s (lt_s (lt_s (lt_s (lt_s (lt_s (lt_s (lt_s (lt_s (lt_s (cwU_200) cw_200) cw_201) cw_202) cw_203) cw_204) cw_205) cw_206) cw_207) cw_208) cw_209) cw_210) cw_211) cw_212) cw_213) cw_214) cw_215) cw_216) cw_217) cw_218
-- end of the facts by program

