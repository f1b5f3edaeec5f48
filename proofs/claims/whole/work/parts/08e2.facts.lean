def zxl : List (Nat × Nat × Nat × Nat) := [(261, 0, 3, 10), (262, 0, 9, 5), (973, 0, 60, 12), (141, 1, 1, 10), (204, 2, 3, 10), (205, 2, 15, 5), (198, 3, 3, 10), (228, 3, 18, 5), (135, 4, 3, 10), (594, 4, 214, 13), (37, 5, 3, 10), (38, 5, 9, 5), (783, 5, 70, 11), (28, 6, 3, 10), (1003, 7, 11, 10), (1173, 7, 134, 13), (1323, 7, 325, 12), (534, 8, 38, 14), (550, 8, 1053, 15)]
def zxw (oc idx kd : Nat) : Cond := match kd with
  | 4 => .classLink (zcnm oc) idx "StrikeBench$Table"
  | 5 => .classLink (zcnm oc) idx "[[I"
  | 10 => .methodLink (zcnm oc) idx objectInit
  | 11 => .methodLink (zcnm oc) idx arraycopyName
  | 12 => .methodLink (zcnm oc) idx Lib.Math.max.name
  | 13 => .methodLink (zcnm oc) idx Lib.Math.min.name
  | 14 => .fieldLink (zcnm oc) idx "java/lang/String" "COMPACT_STRINGS" "Z"
  | _ => .fieldLink (zcnm oc) idx "jdk/internal/util/Preconditions" "SIOOBE_FORMATTER" "Ljava/util/function/BiFunction;"
theorem zxl_ok : zxl.all (fun r => ckW r.1 (zxw r.2.1 r.2.2.1 r.2.2.2)) = true := by decide +kernel
theorem zxl_cov : (List.range 15).all (fun oc => (zpool.getD oc []).all (fun q => !(decide (q.2.1 ∈ [4, 5, 10, 11, 12, 13, 14, 15])) || zxl.any (fun r => r.2 == (oc, q.1, q.2.1)))) = true := by decide +kernel
set_option maxRecDepth 50000 in
theorem w_oi : Cond.instanceMethod objectInit ∈ lw_good := lw_good_of (i := 29) (show tables_1[29]? = some (Cond.instanceMethod objectInit) from rfl) rfl
set_option maxRecDepth 50000 in
theorem w_oc : Cond.code objectInit ⟨#[0xb1]⟩ 1 none ∈ lw_good := lw_good_of (i := 30) (show tables_1[30]? = some (Cond.code objectInit ⟨#[0xb1]⟩ 1 none) from rfl) rfl
set_option maxRecDepth 50000 in
theorem w_an : Cond.native arraycopyName ∈ lw_good := lw_good_of (i := 785) (show tables_1[785]? = some (Cond.native arraycopyName) from rfl) rfl
set_option maxRecDepth 50000 in
theorem w_as : Cond.static arraycopyName ∈ lw_good := lw_good_of (i := 784) (show tables_1[784]? = some (Cond.static arraycopyName) from rfl) rfl
set_option maxRecDepth 50000 in
theorem w_ai : Cond.initialized "java/lang/System" ∈ lw_good := lw_good_of (i := 21) (show tables_1[21]? = some (Cond.initialized "java/lang/System") from rfl) rfl
set_option maxRecDepth 50000 in
theorem w_mi : Cond.initialized "java/lang/Math" ∈ lw_good := lw_good_of (i := 18) (show tables_1[18]? = some (Cond.initialized "java/lang/Math") from rfl) rfl
set_option maxRecDepth 50000 in
theorem w_maxs : Cond.static Lib.Math.max.name ∈ lw_good := lw_good_of (i := 974) (show tables_1[974]? = some (Cond.static Lib.Math.max.name) from rfl) rfl
set_option maxRecDepth 50000 in
theorem w_maxc : Cond.code Lib.Math.max.name Lib.Math.max.code 2 (some .int) ∈ lw_good := lw_good_of (i := 975) (show tables_1[975]? = some (Cond.code Lib.Math.max.name Lib.Math.max.code 2 (some .int)) from rfl) rfl
set_option maxRecDepth 50000 in
theorem w_mins : Cond.static Lib.Math.min.name ∈ lw_good := lw_good_of (i := 595) (show tables_1[595]? = some (Cond.static Lib.Math.min.name) from rfl) rfl
set_option maxRecDepth 50000 in
theorem w_minc : Cond.code Lib.Math.min.name Lib.Math.min.code 2 (some .int) ∈ lw_good := lw_good_of (i := 596) (show tables_1[596]? = some (Cond.code Lib.Math.min.name Lib.Math.min.code 2 (some .int)) from rfl) rfl
set_option maxRecDepth 50000 in
theorem w_ac_int : Cond.arrayClass .int ∈ lw_good := lw_good_of (i := 129) (show tables_1[129]? = some (Cond.arrayClass .int) from rfl) rfl
set_option maxRecDepth 50000 in
theorem w_ac_byte : Cond.arrayClass .byte ∈ lw_good := lw_good_of (i := 156) (show tables_1[156]? = some (Cond.arrayClass .byte) from rfl) rfl
set_option maxRecDepth 50000 in
theorem w_ac_boolean : Cond.arrayClass .boolean ∈ lw_good := lw_good_of (i := 255) (show tables_1[255]? = some (Cond.arrayClass .boolean) from rfl) rfl
set_option maxRecDepth 50000 in
theorem w_ac_long : Cond.arrayClass .long ∈ lw_good := lw_good_of (i := 254) (show tables_1[254]? = some (Cond.arrayClass .long) from rfl) rfl
theorem zki_ok : (zkiT.zip ([980, 398, 758, 851, 1172, 1350, 1451, 379, 380, 381] : List Nat)).all (fun q => ckW q.2 (.constant (zcnm q.1.1) q.1.2.1 q.1.2.2)) = true := by decide +kernel
theorem zkl_ok : (zklT.zip ([403, 424, 1316, 1317, 1322, 1328, 1341, 1435, 1460, 1465] : List Nat)).all (fun q => ckW q.2 (.constantLong (zcnm q.1.1) q.1.2.1 q.1.2.2)) = true := by decide +kernel
theorem zki_len : zkiT.length = ([980, 398, 758, 851, 1172, 1350, 1451, 379, 380, 381] : List Nat).length := by decide +kernel
theorem zkl_len : zklT.length = ([403, 424, 1316, 1317, 1322, 1328, 1341, 1435, 1460, 1465] : List Nat).length := by decide +kernel
theorem zip_mem {α β : Type} {f : α × β → Bool} : ∀ (a : List α) (b : List β), a.length = b.length → (a.zip b).all f = true → ∀ x ∈ a, ∃ y, f (x, y) = true := by
  intro a
  induction a with
  | nil => intro b _ _ x hx; cases hx
  | cons z a ih =>
    intro b hl h x hx
    cases b with
    | nil => cases hl
    | cons y b =>
      rw [List.zip_cons_cons, List.all_cons, Bool.and_eq_true] at h
      rcases List.mem_cons.mp hx with q | q
      · subst q; exact ⟨y, h.1⟩
      · exact ih b (by simpa using hl) h.2 x q
theorem zki_w {oc idx : Nat} {v : Int32} (h : zki oc idx = some v) : Cond.constant (zcnm oc) idx v ∈ lw_good := by
  unfold zki at h
  rw [Option.map_eq_some_iff] at h
  obtain ⟨q, hq, rfl⟩ := h
  have h1 := List.mem_of_find?_eq_some hq
  have h2 := List.find?_some hq
  simp only [Bool.and_eq_true, beq_iff_eq] at h2
  obtain ⟨i, hi⟩ := zip_mem _ _ zki_len zki_ok q h1
  have := ckW_good hi
  rw [h2.1, h2.2] at this
  exact this
theorem zkl_w {oc idx : Nat} {v : Int64} (h : zkl oc idx = some v) : Cond.constantLong (zcnm oc) idx v ∈ lw_good := by
  unfold zkl at h
  rw [Option.map_eq_some_iff] at h
  obtain ⟨q, hq, rfl⟩ := h
  have h1 := List.mem_of_find?_eq_some hq
  have h2 := List.find?_some hq
  simp only [Bool.and_eq_true, beq_iff_eq] at h2
  obtain ⟨i, hi⟩ := zip_mem _ _ zkl_len zkl_ok q h1
  have := ckW_good hi
  rw [h2.1, h2.2] at this
  exact this
theorem zpX {oc idx kd a b : Nat} (h : zp oc idx = (kd, a, b)) (hk : kd ∈ [4, 5, 10, 11, 12, 13, 14, 15]) : zxw oc idx kd ∈ lw_good := by
  obtain ⟨h1, h2⟩ := zp_spec h (by intro q; subst q; simp at hk)
  have := List.all_eq_true.mp (List.all_eq_true.mp zxl_cov oc (List.mem_range.mpr h2)) _ h1
  simp only [decide_eq_true hk, Bool.not_true, Bool.false_or, List.any_eq_true, beq_iff_eq] at this
  obtain ⟨r, hr, e⟩ := this
  have h3 := List.all_eq_true.mp zxl_ok r hr
  rw [show r.2.1 = oc by rw [e], show r.2.2.1 = idx by rw [e], show r.2.2.2 = kd by rw [e]] at h3
  exact ckW_good h3
