theorem lay_0 : (List.range (zNN 0)).map (fun k => tables_1[([270, 272, 274, 276, 278, 280] : List Nat).getD k 0]?) = (u_ws (zcnm 0) (zTT 0) (zNN 0)).map some := by decide +kernel
theorem layg_0 : (u_ws (zcnm 0) (zTT 0) (zNN 0)).all goodWord = true := by decide +kernel
theorem lay_1 : (List.range (zNN 1)).map (fun k => tables_1[([147, 149, 151, 153] : List Nat).getD k 0]?) = (u_ws (zcnm 1) (zTT 1) (zNN 1)).map some := by decide +kernel
theorem layg_1 : (u_ws (zcnm 1) (zTT 1) (zNN 1)).all goodWord = true := by decide +kernel
theorem lay_2 : (List.range (zNN 2)).map (fun k => tables_1[([215, 217, 219, 221, 223, 225] : List Nat).getD k 0]?) = (u_ws (zcnm 2) (zTT 2) (zNN 2)).map some := by decide +kernel
theorem layg_2 : (u_ws (zcnm 2) (zTT 2) (zNN 2)).all goodWord = true := by decide +kernel
theorem lay_3 : (List.range (zNN 3)).map (fun k => tables_1[([239, 241, 243, 245, 247, 249, 251] : List Nat).getD k 0]?) = (u_ws (zcnm 3) (zTT 3) (zNN 3)).map some := by decide +kernel
theorem layg_3 : (u_ws (zcnm 3) (zTT 3) (zNN 3)).all goodWord = true := by decide +kernel
theorem lay_4 : (List.range (zNN 4)).map (fun k => tables_1[([170, 172, 174, 176, 178, 180, 182, 184, 186, 188, 190] : List Nat).getD k 0]?) = (u_ws (zcnm 4) (zTT 4) (zNN 4)).map some := by decide +kernel
theorem layg_4 : (u_ws (zcnm 4) (zTT 4) (zNN 4)).all goodWord = true := by decide +kernel
theorem lay_5 : (List.range (zNN 5)).map (fun k => tables_1[([98, 100, 102, 104, 106, 108, 110, 112, 114, 116, 118, 120, 122, 124, 126] : List Nat).getD k 0]?) = (u_ws (zcnm 5) (zTT 5) (zNN 5)).map some := by decide +kernel
theorem layg_5 : (u_ws (zcnm 5) (zTT 5) (zNN 5)).all goodWord = true := by decide +kernel
theorem lay_6 : (List.range (zNN 6)).map (fun k => tables_1[([299, 301, 303, 305, 307, 309, 311, 313, 315, 317, 319, 321, 323, 325, 327, 329] : List Nat).getD k 0]?) = (u_ws (zcnm 6) (zTT 6) (zNN 6)).map some := by decide +kernel
theorem layg_6 : (u_ws (zcnm 6) (zTT 6) (zNN 6)).all goodWord = true := by decide +kernel
theorem lay_7 : (List.range (zNN 7)).map (fun k => tables_1[([1041, 1043, 1045, 1047, 1049, 1051, 1053, 1055, 1057, 1059, 1061, 1063, 1065, 1067, 1069, 1071, 1073, 1075, 1077, 1079, 1081, 1083, 1085, 1087, 1089, 1091, 1093, 1095, 1097, 1099, 1101, 1103, 1105, 1107] : List Nat).getD k 0]?) = (u_ws (zcnm 7) (zTT 7) (zNN 7)).map some := by decide +kernel
theorem layg_7 : (u_ws (zcnm 7) (zTT 7) (zNN 7)).all goodWord = true := by decide +kernel
