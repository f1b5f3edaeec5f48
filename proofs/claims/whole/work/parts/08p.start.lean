-- THE START: what the Statement gives at the law's entry, as the small machine wants it
def zFL : List Cond := flatC (.and given_1 narrow_1)
def zstE : List (Nat × Nat) := [(90, 211), (99, 217), (104, 221), (112, 227), (117, 229), (122, 234), (127, 242), (139, 236), (140, 238), (181, 160), (190, 171), (192, 176), (204, 147), (206, 149), (208, 151), (210, 153), (212, 155)]
def zstT : List String := ["juror", "tales", "seats", "spare", "turns", "box", "cause", "bench", "grant", "or", "and", "not", "first", "second", "age", "kin", "gap"]
def zstL : List Nat := [5, 5, 5, 5, 5, 3, 5, 5, 5, 2, 3, 3, 5, 6, 3, 3, 3]
def zstB : List (List Int32) := [[106, 117, 114, 111, 114], [116, 97, 108, 101, 115], [115, 101, 97, 116, 115], [115, 112, 97, 114, 101], [116, 117, 114, 110, 115], [98, 111, 120], [99, 97, 117, 115, 101], [98, 101, 110, 99, 104], [103, 114, 97, 110, 116], [111, 114], [97, 110, 100], [110, 111, 116], [102, 105, 114, 115, 116], [115, 101, 99, 111, 110, 100], [97, 103, 101], [107, 105, 110], [103, 97, 112]]
def ztA (j : Nat) : Term := .string "StrikeBench$Parser" (zstE.getD j (0, 0)).1
def ztB (j : Nat) : Term := .string "StrikeBenchModel" (zstE.getD j (0, 0)).2
def zstb (j k : Nat) : Int32 := (zstB.getD j []).getD k 0
def zwA (j : Nat) : List Cond := [.exactly (ztA j) "java/lang/String", .eq (.field (ztA j) "java/lang/String" "coder" "B") (.int 0), .arrayOf (.field (ztA j) "java/lang/String" "value" "[B") .byte, .eq (.length (.field (ztA j) "java/lang/String" "value" "[B")) (.int (Int32.ofNat (zstL.getD j 0))), .eq (ztA j) (ztB j)] ++ (List.range (zstL.getD j 0)).map (fun k => .eq (.elem (.field (ztA j) "java/lang/String" "value" "[B") (.int (Int32.ofNat k))) (.int (zstb j k)))
theorem zwA_0 : (zwA 0).map some = ([75, 76, 77, 78, 606, 79, 80, 81, 82, 83] : List Nat).map (fun i => zFL[i]?) := by decide +kernel
theorem zwA_1 : (zwA 1).map some = ([84, 85, 86, 87, 616, 88, 89, 90, 91, 92] : List Nat).map (fun i => zFL[i]?) := by decide +kernel
theorem zwA_2 : (zwA 2).map some = ([93, 94, 95, 96, 626, 97, 98, 99, 100, 101] : List Nat).map (fun i => zFL[i]?) := by decide +kernel
theorem zwA_3 : (zwA 3).map some = ([102, 103, 104, 105, 636, 106, 107, 108, 109, 110] : List Nat).map (fun i => zFL[i]?) := by decide +kernel
theorem zwA_4 : (zwA 4).map some = ([111, 112, 113, 114, 646, 115, 116, 117, 118, 119] : List Nat).map (fun i => zFL[i]?) := by decide +kernel
theorem zwA_5 : (zwA 5).map some = ([120, 121, 122, 123, 654, 124, 125, 126] : List Nat).map (fun i => zFL[i]?) := by decide +kernel
theorem zwA_6 : (zwA 6).map some = ([127, 128, 129, 130, 752, 131, 132, 133, 134, 135] : List Nat).map (fun i => zFL[i]?) := by decide +kernel
theorem zwA_7 : (zwA 7).map some = ([196, 197, 198, 199, 664, 200, 201, 202, 203, 204] : List Nat).map (fun i => zFL[i]?) := by decide +kernel
theorem zwA_8 : (zwA 8).map some = ([205, 206, 207, 208, 742, 209, 210, 211, 212, 213] : List Nat).map (fun i => zFL[i]?) := by decide +kernel
theorem zwA_9 : (zwA 9).map some = ([190, 191, 192, 193, 732, 194, 195] : List Nat).map (fun i => zFL[i]?) := by decide +kernel
theorem zwA_10 : (zwA 10).map some = ([183, 184, 185, 186, 725, 187, 188, 189] : List Nat).map (fun i => zFL[i]?) := by decide +kernel
theorem zwA_11 : (zwA 11).map some = ([136, 137, 138, 139, 672, 140, 141, 142] : List Nat).map (fun i => zFL[i]?) := by decide +kernel
theorem zwA_12 : (zwA 12).map some = ([143, 144, 145, 146, 682, 147, 148, 149, 150, 151] : List Nat).map (fun i => zFL[i]?) := by decide +kernel
theorem zwA_13 : (zwA 13).map some = ([152, 153, 154, 155, 693, 156, 157, 158, 159, 160, 161] : List Nat).map (fun i => zFL[i]?) := by decide +kernel
theorem zwA_14 : (zwA 14).map some = ([162, 163, 164, 165, 701, 166, 167, 168] : List Nat).map (fun i => zFL[i]?) := by decide +kernel
theorem zwA_15 : (zwA 15).map some = ([169, 170, 171, 172, 709, 173, 174, 175] : List Nat).map (fun i => zFL[i]?) := by decide +kernel
theorem zwA_16 : (zwA 16).map some = ([176, 177, 178, 179, 717, 180, 181, 182] : List Nat).map (fun i => zFL[i]?) := by decide +kernel
theorem mem_of_idx {α : Type} {l m : List α} {is : List Nat} (h : l.map some = is.map (fun i => m[i]?)) : ∀ w ∈ l, w ∈ m := by
  intro w hw
  have : some w ∈ is.map (fun i => m[i]?) := by rw [← h]; exact List.mem_map.mpr ⟨w, hw, rfl⟩
  obtain ⟨i, -, hi⟩ := List.mem_map.mp this
  exact List.mem_of_getElem? hi
theorem zwA_in : ∀ j, j < 17 → ∀ w ∈ zwA j, w ∈ zFL := by
  intro j hj
  match j, hj with
  | 0, _ => exact mem_of_idx zwA_0
  | 1, _ => exact mem_of_idx zwA_1
  | 2, _ => exact mem_of_idx zwA_2
  | 3, _ => exact mem_of_idx zwA_3
  | 4, _ => exact mem_of_idx zwA_4
  | 5, _ => exact mem_of_idx zwA_5
  | 6, _ => exact mem_of_idx zwA_6
  | 7, _ => exact mem_of_idx zwA_7
  | 8, _ => exact mem_of_idx zwA_8
  | 9, _ => exact mem_of_idx zwA_9
  | 10, _ => exact mem_of_idx zwA_10
  | 11, _ => exact mem_of_idx zwA_11
  | 12, _ => exact mem_of_idx zwA_12
  | 13, _ => exact mem_of_idx zwA_13
  | 14, _ => exact mem_of_idx zwA_14
  | 15, _ => exact mem_of_idx zwA_15
  | 16, _ => exact mem_of_idx zwA_16
  | n + 17, h => omega
def zslT : List (Nat × Cond) := zsl.map (fun r => (r.1, .stringRef (zcnm r.2.1) r.2.2.1 (zstT.getD r.2.2.2 "")))
theorem zslT_ok : zslT.all (fun q => decide (tables_1[q.1]? = some q.2)) = true := by decide +kernel
theorem zsl_ent : zsl.all (fun r => decide (r.2.2.2 < 17) && ((r.2.1 == 4 && r.2.2.1 == (zstE.getD r.2.2.2 (0, 0)).1) || (r.2.1 == 7 && r.2.2.1 == (zstE.getD r.2.2.2 (0, 0)).2))) = true := by decide +kernel
def zthS : List (Nat × Nat × Nat × String) := [(69, 478, 41, "the tape has not so many bytes"), (292, 738, 214, "no such one in the row"), (110, 768, 240, "he can't be struck now"), (129, 797, 266, "no turn is left"), (135, 808, 285, "no such rule"), (147, 816, 301, "no such order"), (171, 828, 318, "nothing such is told"), (181, 840, 342, "no such number"), (204, 842, 360, "nothing such of a juror"), (206, 850, 387, "below 0"), (294, 864, 398, "not so many turns are left"), (290, 876, 428, "no such side"), (239, 907, 444, "it can't be done now"), (257, 942, 468, "he is struck"), (259, 950, 484, "no such sides"), (264, 958, 501, "nothing such of strikes at once"), (271, 960, 536, "a side has too many turns left"), (283, 993, 570, "nothing such is counted")]
theorem zthS_1 : zthS.all (fun q => decide (tables_1[q.2.1]? = some (.stringRef RX6 q.1 q.2.2.2))) = true := by decide +kernel
theorem zthS_2 : zthS.all (fun q => decide (zFL[q.2.2.1]? = some (.exactly (.string RX6 q.1) "java/lang/String"))) = true := by decide +kernel
theorem zthS_3 : zthT.all (fun r => zthS.any (fun q => q.1 == r.2.2.2.1)) = true := by decide +kernel
theorem w_cs0 : Cond.castable (zE 0) (zE 0) ∈ lw_tbl := (List.mem_append_right _ (List.mem_of_getElem? (i := 731) (by decide +kernel)))
theorem w_nc01 : Cond.not (.castable (zE 0) (zE 1)) ∈ zFL := (List.mem_of_getElem? (i := 19) (by decide +kernel))
theorem w_nc02 : Cond.not (.castable (zE 0) (zE 2)) ∈ zFL := (List.mem_of_getElem? (i := 40) (by decide +kernel))
theorem w_cs1 : Cond.castable (zE 1) (zE 1) ∈ lw_tbl := (List.mem_append_right _ (List.mem_of_getElem? (i := 439) (by decide +kernel)))
theorem w_nc10 : Cond.not (.castable (zE 1) (zE 0)) ∈ zFL := (List.mem_of_getElem? (i := 29) (by decide +kernel))
theorem w_nc12 : Cond.not (.castable (zE 1) (zE 2)) ∈ zFL := (List.mem_of_getElem? (i := 39) (by decide +kernel))
theorem w_cs2 : Cond.castable (zE 2) (zE 2) ∈ lw_tbl := (List.mem_append_right _ (List.mem_of_getElem? (i := 761) (by decide +kernel)))
theorem w_nc20 : Cond.not (.castable (zE 2) (zE 0)) ∈ zFL := (List.mem_of_getElem? (i := 30) (by decide +kernel))
theorem w_nc21 : Cond.not (.castable (zE 2) (zE 1)) ∈ zFL := (List.mem_of_getElem? (i := 20) (by decide +kernel))
theorem w_de0 : Cond.declares ⟨"java/lang/RuntimeException", "<init>", "(Ljava/lang/String;)V"⟩ ∈ lw_tbl := (List.mem_append_right _ (List.mem_of_getElem? (i := 441) (by decide +kernel)))
theorem w_de1 : Cond.declares ⟨"java/lang/Exception", "<init>", "(Ljava/lang/String;)V"⟩ ∈ lw_tbl := (List.mem_append_right _ (List.mem_of_getElem? (i := 443) (by decide +kernel)))
theorem w_de2 : Cond.declares ⟨"java/lang/Throwable", "<init>", "(Ljava/lang/String;)V"⟩ ∈ lw_tbl := (List.mem_append_right _ (List.mem_of_getElem? (i := 445) (by decide +kernel)))
theorem w_ls_cs : Cond.laysStatic "java/lang/String" "COMPACT_STRINGS" "Z" ∈ lw_tbl := (List.mem_append_right _ (List.mem_of_getElem? (i := 535) (by decide +kernel)))
theorem w_in_cs : Cond.initialized "java/lang/String" ∈ lw_tbl := (List.mem_append_right _ (List.mem_of_getElem? (i := 14) (by decide +kernel)))
theorem w_nv_cs : Cond.eq (.static "java/lang/String" "COMPACT_STRINGS" "Z") (.int 1) ∈ zFL := (List.mem_of_getElem? (i := 6) (by decide +kernel))
theorem w_ls_sf : Cond.laysStatic "jdk/internal/util/Preconditions" "SIOOBE_FORMATTER" "Ljava/util/function/BiFunction;" ∈ lw_tbl := (List.mem_append_right _ (List.mem_of_getElem? (i := 551) (by decide +kernel)))
theorem w_in_sf : Cond.initialized "jdk/internal/util/Preconditions" ∈ lw_tbl := (List.mem_append_right _ (List.mem_of_getElem? (i := 16) (by decide +kernel)))
theorem w_nv_sf : Cond.isRef (.static "jdk/internal/util/Preconditions" "SIOOBE_FORMATTER" "Ljava/util/function/BiFunction;") ∈ zFL := (List.mem_of_getElem? (i := 7) (by decide +kernel))
theorem w_ls_us : Cond.laysStatic "java/lang/Throwable" "UNASSIGNED_STACK" "[Ljava/lang/StackTraceElement;" ∈ lw_tbl := (List.mem_append_right _ (List.mem_of_getElem? (i := 464) (by decide +kernel)))
theorem w_in_us : Cond.initialized "java/lang/Throwable" ∈ lw_tbl := (List.mem_append_right _ (List.mem_of_getElem? (i := 10) (by decide +kernel)))
theorem w_nv_us : Cond.isRef (.static "java/lang/Throwable" "UNASSIGNED_STACK" "[Ljava/lang/StackTraceElement;") ∈ zFL := (List.mem_of_getElem? (i := 4) (by decide +kernel))
theorem w_ls_ss : Cond.laysStatic "java/lang/Throwable" "SUPPRESSED_SENTINEL" "Ljava/util/List;" ∈ lw_tbl := (List.mem_append_right _ (List.mem_of_getElem? (i := 466) (by decide +kernel)))
theorem w_in_ss : Cond.initialized "java/lang/Throwable" ∈ lw_tbl := (List.mem_append_right _ (List.mem_of_getElem? (i := 10) (by decide +kernel)))
theorem w_nv_ss : Cond.isRef (.static "java/lang/Throwable" "SUPPRESSED_SENTINEL" "Ljava/util/List;") ∈ zFL := (List.mem_of_getElem? (i := 5) (by decide +kernel))
theorem w_ao : Cond.arrayOver (.object "StrikeBench$Table") ∈ lw_tbl := (List.mem_append_right _ (List.mem_of_getElem? (i := 32) (by decide +kernel)))
theorem w_aoa : Cond.arrayOver (.array .int) ∈ lw_tbl := (List.mem_append_right _ (List.mem_of_getElem? (i := 39) (by decide +kernel)))
theorem w_it0 : Cond.instantiable (zcnm 0) (zNN 0) ∈ lw_tbl := (List.mem_append_right _ (List.mem_of_getElem? (i := 257) (by decide +kernel)))
theorem w_it1 : Cond.instantiable (zcnm 1) (zNN 1) ∈ lw_tbl := (List.mem_append_right _ (List.mem_of_getElem? (i := 137) (by decide +kernel)))
theorem w_it2 : Cond.instantiable (zcnm 2) (zNN 2) ∈ lw_tbl := (List.mem_append_right _ (List.mem_of_getElem? (i := 200) (by decide +kernel)))
theorem w_it3 : Cond.instantiable (zcnm 3) (zNN 3) ∈ lw_tbl := (List.mem_append_right _ (List.mem_of_getElem? (i := 194) (by decide +kernel)))
theorem w_it4 : Cond.instantiable (zcnm 4) (zNN 4) ∈ lw_tbl := (List.mem_append_right _ (List.mem_of_getElem? (i := 131) (by decide +kernel)))
theorem w_it5 : Cond.instantiable (zcnm 5) (zNN 5) ∈ lw_tbl := (List.mem_append_right _ (List.mem_of_getElem? (i := 33) (by decide +kernel)))
theorem w_it6 : Cond.instantiable (zcnm 6) (zNN 6) ∈ lw_tbl := (List.mem_append_right _ (List.mem_of_getElem? (i := 24) (by decide +kernel)))
theorem w_it7 : Cond.instantiable (zcnm 7) (zNN 7) ∈ lw_tbl := (List.mem_append_right _ (List.mem_of_getElem? (i := 999) (by decide +kernel)))
theorem w_it : ∀ ci, ci < 8 → Cond.instantiable (zcnm ci) (zNN ci) ∈ lw_tbl := by
  intro ci h
  match ci, h with
  | 0, _ => exact w_it0
  | 1, _ => exact w_it1
  | 2, _ => exact w_it2
  | 3, _ => exact w_it3
  | 4, _ => exact w_it4
  | 5, _ => exact w_it5
  | 6, _ => exact w_it6
  | 7, _ => exact w_it7
  | n + 8, h => omega
theorem good_tbl {w : Cond} (h : w ∈ lw_good) : w ∈ lw_tbl := (List.mem_filter.mp h).1
-- what was there before: the script, the words of the small language
def FM0 (xs : Nat → Int32) : ZM := fun a k => if a = 1000000 then xs k else if 1000101 ≤ a ∧ a < 1000118 then zstb (a - 1000101) k else 0
def FS0 (L : Nat) : ZH := (fun a k => if (1000001 ≤ a ∧ a < 1000018) ∧ k = 0 then some (a + 100) else none, fun _ _ => 0, fun a => if a = 1000000 then (11, L) else if 1000001 ≤ a ∧ a < 1000018 then (9, 2) else if 1000101 ≤ a ∧ a < 1000118 then (12, zstL.getD (a - 1000101) 0) else (0, 0), 0, 0, 0)
theorem zstL_lt : ∀ j, j < 17 → zstL.getD j 0 < 2 ^ 31 := by decide +kernel
theorem FS0_ok {L : Nat} {xs : Nat → Int32} (hL : L ≤ 3072) : zFSok (FM0 xs) (FS0 L) := by
  refine ⟨fun a ha => ?_, fun a k b h => ?_, fun j hj => ?_, ?_, fun j hj => ?_⟩
  · show (if a = 1000000 then (11, L) else if 1000001 ≤ a ∧ a < 1000018 then (9, 2) else if 1000101 ≤ a ∧ a < 1000118 then (12, zstL.getD (a - 1000101) 0) else (0, 0) : Nat × Nat).1 = 0 ∨ _
    by_cases h1 : a = 1000000
    · exact Or.inr (Or.inl ⟨by show (if a = 1000000 then (11, L) else if 1000001 ≤ a ∧ a < 1000018 then (9, 2) else if 1000101 ≤ a ∧ a < 1000118 then (12, zstL.getD (a - 1000101) 0) else (0, 0) : Nat × Nat).1 = 11; rw [if_pos h1], h1⟩)
    · by_cases h2 : 1000001 ≤ a ∧ a < 1000018
      · exact Or.inr (Or.inr (Or.inl ⟨by show (if a = 1000000 then (11, L) else if 1000001 ≤ a ∧ a < 1000018 then (9, 2) else if 1000101 ≤ a ∧ a < 1000118 then (12, zstL.getD (a - 1000101) 0) else (0, 0) : Nat × Nat).1 = 9; rw [if_neg h1, if_pos h2], a - 1000001, by omega, by omega⟩))
      · by_cases h3 : 1000101 ≤ a ∧ a < 1000118
        · exact Or.inr (Or.inr (Or.inr ⟨by show (if a = 1000000 then (11, L) else if 1000001 ≤ a ∧ a < 1000018 then (9, 2) else if 1000101 ≤ a ∧ a < 1000118 then (12, zstL.getD (a - 1000101) 0) else (0, 0) : Nat × Nat).1 = 12; rw [if_neg h1, if_neg h2, if_pos h3], a - 1000101, by omega, by omega⟩))
        · exact Or.inl (by rw [if_neg h1, if_neg h2, if_neg h3])
  · have h' : (if (1000001 ≤ a ∧ a < 1000018) ∧ k = 0 then some (a + 100) else none) = some b := h
    split at h'
    · rename_i hc
      cases h'
      exact ⟨a - 1000001, by omega, by omega, hc.2, by omega⟩
    · cases h'
  · show (if 1000001 + j = 1000000 then xs 1 else if 1000101 ≤ 1000001 + j ∧ 1000001 + j < 1000118 then zstb (1000001 + j - 1000101) 1 else 0) = 0
    rw [if_neg (by omega), if_neg (by omega)]
  · show (if 1000000 = 1000000 then (11, L) else _ : Nat × Nat).2 < 2 ^ 31
    rw [if_pos rfl]
    show L < 2 ^ 31
    omega
  · show (if 1000101 + j = 1000000 then (11, L) else if 1000001 ≤ 1000101 + j ∧ 1000101 + j < 1000018 then (9, 2) else if 1000101 ≤ 1000101 + j ∧ 1000101 + j < 1000118 then (12, zstL.getD (1000101 + j - 1000101) 0) else (0, 0) : Nat × Nat).2 < 2 ^ 31
    rw [if_neg (by omega), if_neg (by omega), if_pos ⟨by omega, by omega⟩, Nat.add_sub_cancel_left]
    exact zstL_lt j hj
theorem FS0_Ln0 {L : Nat} : zLn (FS0 L) 1000000 = L := by
  show (if 1000000 = 1000000 then (11, L) else _ : Nat × Nat).2 = L
  rw [if_pos rfl]
theorem FM0_0 {xs : Nat → Int32} : FM0 xs 1000000 = xs := by
  funext k
  exact if_pos rfl
theorem FS0_Lnb {L j : Nat} (hj : j < 17) : zLn (FS0 L) (1000101 + j) = zstL.getD j 0 := by
  show (if 1000101 + j = 1000000 then (11, L) else if 1000001 ≤ 1000101 + j ∧ 1000101 + j < 1000018 then (9, 2) else if 1000101 ≤ 1000101 + j ∧ 1000101 + j < 1000118 then (12, zstL.getD (1000101 + j - 1000101) 0) else (0, 0) : Nat × Nat).2 = _
  rw [if_neg (by omega), if_neg (by omega), if_pos ⟨by omega, by omega⟩, Nat.add_sub_cancel_left]
theorem FM0_b {xs : Nat → Int32} {j k : Nat} (hj : j < 17) : FM0 xs (1000101 + j) k = zstb j k := by
  show (if 1000101 + j = 1000000 then xs k else if 1000101 ≤ 1000101 + j ∧ 1000101 + j < 1000118 then zstb (1000101 + j - 1000101) k else 0) = _
  rw [if_neg (by omega), if_pos ⟨by omega, by omega⟩, Nat.add_sub_cancel_left]
theorem FS0_K {L a : Nat} (h : a < 1000000) : zK (FS0 L) a = 0 := by
  show (if a = 1000000 then (11, L) else if 1000001 ≤ a ∧ a < 1000018 then (9, 2) else if 1000101 ≤ a ∧ a < 1000118 then (12, zstL.getD (a - 1000101) 0) else (0, 0) : Nat × Nat).1 = 0
  rw [if_neg (by omega), if_neg (by omega), if_neg (by omega)]
/-- the machine's own addresses of them -/
theorem zFor_start {s : State} {b L : Nat} {xs : Nat → Int32} (hts : ∀ w ∈ lw_tbl, w.before #[Value.ref b] s = true) (hX : va_X b L xs s s.heap) (hbl : b < s.heap.size) (hgv : (Jvm.Cond.and given_1 narrow_1).before #[Value.ref b] s = true) : ∃ (fa : Nat → Nat) (fx : Value), fa 1000000 = b ∧ zFor s.heap.size fa fx (FM0 xs) (FS0 L) s := by
  have hn : ∀ w ∈ zFL, w.before #[Value.ref b] s = true := flat_of_before _ hgv
  have hA : ∀ a : Nat, a < s.heap.size → ¬ zA s.heap.size a := fun a h => Nat.not_le.mpr h
  have h0 : ∀ j : Nat, ∃ q : Nat × Nat, j < 17 → (ztA j).eval #[Value.ref b] s none [] s = some (.ref q.1) ∧ (ztB j).eval #[Value.ref b] s none [] s = some (.ref q.1) ∧ va_O "java/lang/String" q.1 (zA s.heap.size) s s.heap ∧ va_OF "java/lang/String" "coder" "B" (.int 0) q.1 (zA s.heap.size) s s.heap ∧ va_OF "java/lang/String" "value" "[B" (.ref q.2) q.1 (zA s.heap.size) s s.heap ∧ va_T .byte q.2 (zstL.getD j 0) (fun k => .int (zstb j k)) (zA s.heap.size) s s.heap := by
    intro j
    by_cases hj : j < 17
    · have hw := fun w h => hn w (zwA_in j hj w h)
      have hex := hw (.exactly (ztA j) "java/lang/String") (by simp [zwA])
      obtain ⟨a, c, cA, kA, q1, q2, q3, q4, q5, q6, -⟩ := Cond.exactly_spec (args := #[Value.ref b]) (first := s) (o := none) (s := s) (idx := []) (t := ztA j) (cls := "java/lang/String") hex
      obtain ⟨t, ht, hT⟩ := va_Tof (f := fun k => .int (zstb j k)) (A := zA s.heap.size) (zstL_lt j hj) (hw (.arrayOf (.field (ztA j) "java/lang/String" "value" "[B") .byte) (by simp [zwA])) (va_eqt (hw (.eq (.length (.field (ztA j) "java/lang/String" "value" "[B")) (.int (Int32.ofNat (zstL.getD j 0)))) (by simp [zwA]))) (fun k hk => va_eqt (hw _ (List.mem_append_right _ (List.mem_map.mpr ⟨k, List.mem_range.mpr hk, rfl⟩)))) hA
      exact ⟨(a, t), fun _ => ⟨q1, va_eqR (hw (.eq (ztA j) (ztB j)) (by simp [zwA])) q1, va_Oof hex q1 hA, vk_OFof q1 (va_eqt (hw (.eq (.field (ztA j) "java/lang/String" "coder" "B") (.int 0)) (by simp [zwA]))) hA, vk_OFof q1 ht hA, hT⟩⟩
    · exact ⟨(0, 0), fun h => absurd h hj⟩
  obtain ⟨ad, had⟩ := Classical.axiomOfChoice h0
  have hfx : ∃ fx : Value, va_Z "jdk/internal/util/Preconditions" "SIOOBE_FORMATTER" "Ljava/util/function/BiFunction;" fx (zA s.heap.size) s s.heap ∧ (fx = .null ∨ ∃ a, fx = .ref a) := by
    rcases va_Zqof (hts _ w_ls_sf) (hts _ w_in_sf) (hn _ w_nv_sf) hA with h | ⟨t, h⟩
    · exact ⟨_, h, Or.inl rfl⟩
    · exact ⟨_, h, Or.inr ⟨t, rfl⟩⟩
  obtain ⟨fx, hfx1, hfx2⟩ := hfx
  have hcat : fx.category = 1 := by
    rcases hfx2 with rfl | ⟨a, rfl⟩ <;> rfl
  refine ⟨fun n => if n = 1000000 then b else if n < 1000018 then (ad (n - 1000001)).1 else (ad (n - 1000101)).2, fx, if_pos rfl, ⟨?_, ?_⟩, fun j hj => ?_, fun r hr => ?_, fun r hr => ?_, ⟨va_Zof (hts _ w_ls_cs) (hts _ w_in_cs) (va_eqi (hn _ w_nv_cs)) hA, hfx1⟩, ⟨vx_Zqof (hts _ w_ls_us) (hts _ w_in_us) (hn _ w_nv_us) hA, vx_Zqof (hts _ w_ls_ss) (hts _ w_in_ss) (hn _ w_nv_ss) hA⟩, ⟨va_AO.of (hts _ w_ao), va_AOA.of (hts _ w_aoa)⟩, ⟨fun e => ?_, fun e e' hne => ?_, fun Y hY => ?_⟩, Nat.le_refl _, hcat, hfx2⟩
  · rw [FS0_Ln0, FM0_0]
    exact hX
  · exact hbl
  · have h1 : (if 1000001 + j = 1000000 then b else if 1000001 + j < 1000018 then (ad (1000001 + j - 1000001)).1 else (ad (1000001 + j - 1000101)).2) = (ad j).1 := by
      rw [if_neg (by omega), if_pos (by omega), Nat.add_sub_cancel_left]
    have h2 : (if 1000101 + j = 1000000 then b else if 1000101 + j < 1000018 then (ad (1000101 + j - 1000001)).1 else (ad (1000101 + j - 1000101)).2) = (ad j).2 := by
      rw [if_neg (by omega), if_neg (by omega), Nat.add_sub_cancel_left]
    obtain ⟨-, -, g1, g2, g3, g4⟩ := had j hj
    simp only [h1, h2]
    refine ⟨g1, g2, g3, ?_⟩
    rw [FS0_Lnb hj]
    have e : (fun k => Value.int (FM0 xs (1000101 + j) k)) = fun k => Value.int (zstb j k) := funext fun k => by rw [FM0_b hj]
    rw [e]
    exact g4
  · have hen := List.all_eq_true.mp zsl_ent r hr
    simp only [Bool.and_eq_true, decide_eq_true_eq, Bool.or_eq_true, beq_iff_eq] at hen
    obtain ⟨hj, hc⟩ := hen
    have h1 : (if 1000001 + r.2.2.2 = 1000000 then b else if 1000001 + r.2.2.2 < 1000018 then (ad (1000001 + r.2.2.2 - 1000001)).1 else (ad (1000001 + r.2.2.2 - 1000101)).2) = (ad r.2.2.2).1 := by
      rw [if_neg (by omega), if_pos (by omega), Nat.add_sub_cancel_left]
    have hw := List.all_eq_true.mp zslT_ok (r.1, .stringRef (zcnm r.2.1) r.2.2.1 (zstT.getD r.2.2.2 "")) (List.mem_map.mpr ⟨r, hr, rfl⟩)
    simp only [decide_eq_true_eq] at hw
    refine ⟨zstT.getD r.2.2.2 "", vk_R.of (hts _ (List.mem_append_right _ (List.mem_of_getElem? hw))) ?_⟩
    simp only [h1]
    obtain ⟨g1, g2, -⟩ := had r.2.2.2 hj
    rcases hc with ⟨c1, c2⟩ | ⟨c1, c2⟩
    · rw [c1, c2]
      exact g1
    · rw [c1, c2]
      exact g2
  · have hany := List.all_eq_true.mp zthS_3 r hr
    obtain ⟨q, hq, hqe⟩ := List.any_eq_true.mp hany
    have e1 : q.1 = r.2.2.2.1 := by simpa using hqe
    have w1 := List.all_eq_true.mp zthS_1 q hq
    have w2 := List.all_eq_true.mp zthS_2 q hq
    simp only [decide_eq_true_eq] at w1 w2
    obtain ⟨a, c, cA, kA, q1, -⟩ := Cond.exactly_spec (args := #[Value.ref b]) (first := s) (o := none) (s := s) (idx := []) (t := .string RX6 q.1) (cls := "java/lang/String") (hn _ (List.mem_of_getElem? w2))
    rw [← e1]
    exact ⟨q.2.2.2, a, vk_R.of (hts _ (List.mem_append_right _ (List.mem_of_getElem? w1))) q1⟩
  · match e with
    | 0 => exact hts _ w_cs0
    | 1 => exact hts _ w_cs1
    | n + 2 => exact hts _ w_cs2
  · match e, e', hne with
    | 0, 0, h => exact absurd rfl h
    | 0, 1, _ => exact va_Nc.of (hn _ w_nc01)
    | 0, n + 2, _ => exact va_Nc.of (hn _ w_nc02)
    | 1, 0, _ => exact va_Nc.of (hn _ w_nc10)
    | 1, 1, h => exact absurd rfl h
    | 1, n + 2, _ => exact va_Nc.of (hn _ w_nc12)
    | n + 2, 0, _ => exact va_Nc.of (hn _ w_nc20)
    | n + 2, 1, _ => exact va_Nc.of (hn _ w_nc21)
    | n + 2, k + 2, h => exact absurd rfl h
  · simp only [List.mem_cons, List.not_mem_nil, or_false] at hY
    rcases hY with rfl | rfl | rfl
    · exact hts _ w_de0
    · exact hts _ w_de1
    · exact hts _ w_de2
theorem zlaw_cod : zcod 219 = code := rfl
theorem zlaw_mx : zmx 219 = 7 := by decide +kernel
theorem zlaw_rt : zrt 219 = ret := rfl
theorem zlaw_hh : zhh 219 = [] := by decide +kernel
theorem zlaw_cl : zcnm (zoc 219) = "StrikeBenchLaw" := by decide +kernel
theorem zlaw_nm : (zyn 219).name = "law" := by decide +kernel
theorem zlaw_ent : zent 219 [.ref 1000000] = [.ref 1000000, tok, tok, tok, tok, tok, tok] := by
  unfold zent
  rw [zlaw_mx]
  rfl
set_option maxHeartbeats 1000000 in
/-- THE LAW's run on the small machine is the law's run -/
theorem law_sound {p : Program} {e : Env} {s : State} {m : MethodId} {below : List Frame} {meth : Method} {c : Code} (l : Launch) (hflags : l.flags = flags0) {b L : Nat} {xs : Nat → Int32} (hL : L ≤ 3072)
    (hx : p.tables.exec = Jvm.exec) (hb : c.code = code) (hr : meth.sig.returnType = ret) (hml : c.maxLocals = 7) (hown : s.vm.findClass "StrikeBenchLaw" = some m.cls) (hts : ∀ w ∈ lw_tbl, w.before #[Value.ref b] s = true) (hX : va_X b L xs s s.heap) (hbl : b < s.heap.size) (hlocks : meth.locks = false) (hgv : (Jvm.Cond.and given_1 narrow_1).before #[Value.ref b] s = true) (htab : c.exceptionTable.toList = []) (hname : meth.name = "law")
    {d : Nat} (hd : d ≤ 1000) {M' : ZM} {R' : ZH} (hrun : exe d 219 0 [.ref 1000000, tok, tok, tok, tok, tok, tok] [] (FM0 xs) (FS0 L) = some (.inl (some (.int 1)), M', R')) (hc : zC R' ≤ 601024) (hs : zL R' ≤ 7293034) :
    W p l e room_1 s m #[Value.ref b] below meth c s.heap [] 0 0 (fun t => ∃ o, t.status = .running ∧ Ended t below o ∧ o = .returned (some (.int 1)) ∧ Framed s o t [] 601024 7293034) (entryFrame m ([Value.ref b] : List Value).toArray 7) := by
  obtain ⟨fa, fx, hfa, hF⟩ := zFor_start hts hX hbl hgv
  have hst : l.stackTraces = false := by
    unfold Launch.stackTraces
    rw [hflags]
    decide +kernel
  obtain ⟨n, hn⟩ := exs_iff.mp hrun
  have hkn : ∀ ci : Nat, ∃ q : ClassId × (Nat → Nat), ci < 8 → u_Kn s (zcnm ci) (zTT ci) (zNN ci) q.1 q.2 := by
    intro ci
    by_cases h : ci < 8
    · obtain ⟨cC, iS, hk⟩ := u_known (C := zcnm ci) (T := zTT ci) (N := zNN ci) (n := zNN ci) hts (fun w hw => good_tbl (zlays ci h w hw)) (hts _ (w_it ci h))
      exact ⟨(cC, iS), fun _ => hk⟩
    · exact ⟨(0, fun _ => 0), fun g => absurd g h⟩
  obtain ⟨D0, hD0⟩ := Classical.axiomOfChoice hkn
  have hK : va_K ((fun ci => (D0 ci).1), (fun ci => (D0 ci).2)) vwCl [] s := by
    refine ⟨fun k q hq => ?_, fun k q h => by simp at h⟩
    have hk : k < 8 := (List.getElem?_eq_some_iff.mp hq).1
    rw [zTT_cl k hk] at hq
    cases hq
    exact hD0 k hk
  have hR : zRel ((fun ci => (D0 ci).1), (fun ci => (D0 ci).2)) s.heap.size fa (FM0 xs) (FS0 L) [] fa (fun _ => 0) (FM0 xs, FS0 L) s.heap := by
    have hw : wl fa (fun _ => 0) (FM0 xs, FS0 L) = [] := rfl
    refine ⟨?_, ?_, fun i hi => absurd hi (Nat.not_lt_zero i), fun a j q ha => absurd ha (Nat.not_lt_zero a), fun a ha => ⟨rfl, rfl, rfl, fun j => ⟨rfl, rfl⟩⟩, Nat.zero_le _, fun a _ h => FS0_K h⟩
    · rw [hw]
      exact fun k q h => by simp at h
    · rw [hw]
      exact ⟨fun i j p q h => by simp at h, fun k q h => by simp at h⟩
  have C : zCtx s.heap.size fa fx (FM0 xs) (FS0 L) p room_1 s m #[Value.ref b] meth c 219 d :=
    ⟨hx, hb.trans zlaw_cod.symm, hml.trans zlaw_mx.symm, hr.trans zlaw_rt.symm, by rw [zlaw_cl]; exact hown, fun w hw => hts w (good_tbl hw), hlocks, hname.trans zlaw_nm.symm, by rw [zlaw_hh]; exact htab, hF, by show d + 12 ≤ 2048; omega, by show 60 * d + 400 ≤ 84000; omega⟩
  have g := zsound (l := l) (D := ((fun ci => (D0 ci).1), (fun ci => (D0 ci).2))) (B0 := s.heap.size) (fa := fa) (fx := fx) hst (FS0_ok (xs := xs) hL) n d 219 0 _ [] (FM0 xs, FS0 L) _ hn (by rw [zlaw_mx]; rfl) p e room_1 s m #[Value.ref b] below meth c 0 0 0 fa C ⟨Nat.zero_le _, Nat.zero_le _⟩ ⟨by show zC R' ≤ 0 + 601024; omega, by show zL R' ≤ 0 + 7293034; omega⟩ fa (fun _ => 0) [] s.heap [] _ ⟨hK, hR, va_S.rf, okL.entry (vs := [.ref 1000000]) (cm := 219) hF.2.2.2.2.2.2.2.2.2.1 (by rw [zlaw_mx]; exact Nat.le_of_ble_eq_true rfl), Nat.zero_le _, fun _ _ => rfl⟩
  have g' : W p l e room_1 s m #[Value.ref b] below meth c s.heap [] 0 0 (vx_MQ below (zQc ((fun ci => (D0 ci).1), (fun ci => (D0 ci).2)) s.heap.size fa fx (FM0 xs) (FS0 L) 0 fa (.inl (some (.int 1)), M', R')) (zXC ((fun ci => (D0 ci).1), (fun ci => (D0 ci).2)) s.heap.size fa (FM0 xs) (FS0 L) 0 fa (.inl (some (.int 1)), M', R')) #[Value.ref b] s (zC R' - 0) (zL R' - 0) (zA s.heap.size)) (entryFrame m ([Value.ref b] : List Value).toArray 7) := by
    rw [lg_entry_eq]
    have e1 : ([Value.ref 1000000] : List Value).map (tr fx fa) = [Value.ref b] := by
      show [Value.ref (fa 1000000)] = _
      rw [hfa]
    rw [e1, zlaw_mx] at g
    exact g
  intro T hT X
  obtain ⟨t, a1, o, b1, b2, b3⟩ := g' T hT X
  refine ⟨t, a1, o, b1, b2, ?_⟩
  rcases b3 with ⟨⟨v, ad, cf, tys, hv, ho, -⟩, Lc, ⟨hr1, hW, hsame⟩, hfree⟩ | ⟨q, ho, E, ce, Lc, ⟨ad, cf, tys, hv, -⟩, -⟩
  · cases hv
    refine ⟨ho, hr1, hW, ?_⟩
    have h1 := State.sameButNew.drop_fresh (L := []) (J := Lc) hsame (fun x hx => hfree x hx)
    exact h1.mono (by omega) (by omega)
  · cases hv

