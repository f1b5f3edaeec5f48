-- the class fills the row
def tlM (M : ZM) (j : Nat) (P : PS) (i : Nat) : ZM := fun c t => if (tb j + 2 ≤ c ∧ c ≤ tb j + 5) ∧ (jn (rD P) ≤ t ∧ t < jn (rD P) + i) then fI P (4 * (t - jn (rD P)) + (c - (tb j + 2))) else M c t
theorem tlM_c {M : ZM} {j i c : Nat} {P : PS} (h : c < tb j + 2 ∨ tb j + 5 < c) : tlM M j P i c = M c := by
  funext t
  exact if_neg (fun e => by omega)
theorem tlM_t {M : ZM} {j i c t : Nat} {P : PS} (h : t < jn (rD P) ∨ jn (rD P) + i ≤ t) : tlM M j P i c t = M c t := if_neg (fun e => by omega)
theorem tlM_0 {M : ZM} {j : Nat} {P : PS} : tlM M j P 0 = M := by
  funext c t
  exact if_neg (fun e => by omega)
theorem tlM_up {M : ZM} {j i : Nat} {P : PS} : up2 (up2 (up2 (up2 (tlM M j P i) (tb j + 2) (jn (rD P) + i) (fI P (4 * i))) (tb j + 3) (jn (rD P) + i) (fI P (4 * i + 1))) (tb j + 4) (jn (rD P) + i) (fI P (4 * i + 2))) (tb j + 5) (jn (rD P) + i) (fI P (4 * i + 3)) = tlM M j P (i + 1) := by
  funext c t
  by_cases e5 : c = tb j + 5 ∧ t = jn (rD P) + i
  · obtain ⟨rfl, rfl⟩ := e5
    rw [up2_at]
    unfold tlM
    rw [if_pos (by omega)]
    congr 1
    omega
  · unfold up2
    rw [if_neg e5]
    by_cases e4 : c = tb j + 4 ∧ t = jn (rD P) + i
    · rw [if_pos e4]
      obtain ⟨rfl, rfl⟩ := e4
      unfold tlM
      rw [if_pos (by omega)]
      congr 1
      omega
    · rw [if_neg e4]
      by_cases e3 : c = tb j + 3 ∧ t = jn (rD P) + i
      · rw [if_pos e3]
        obtain ⟨rfl, rfl⟩ := e3
        unfold tlM
        rw [if_pos (by omega)]
        congr 1
        omega
      · rw [if_neg e3]
        by_cases e2 : c = tb j + 2 ∧ t = jn (rD P) + i
        · rw [if_pos e2]
          obtain ⟨rfl, rfl⟩ := e2
          unfold tlM
          rw [if_pos (by omega)]
          congr 1
          omega
        · rw [if_neg e2]
          unfold tlM
          by_cases e : (tb j + 2 ≤ c ∧ c ≤ tb j + 5) ∧ (jn (rD P) ≤ t ∧ t < jn (rD P) + i)
          · rw [if_pos e, if_pos (by omega)]
          · rw [if_neg e, if_neg (by omega)]
theorem gD {L : List Nat} {t : Nat} (h : t < L.length) : L.getD t 0 = L[t] := by
  rw [List.getD_eq_getElem?_getD, List.getElem?_eq_getElem h]
  rfl
def rwM (M : ZM) (j : Nat) (L : List Nat) : ZM := fun c t => if c = tb j + 8 ∧ t < L.length then nI (L.getD t 0) else if c = tb j ∧ t = 9 then nI L.length else M c t
theorem rwM_c {M : ZM} {j c : Nat} {L : List Nat} (h : c ≠ tb j) (h2 : c ≠ tb j + 8) : rwM M j L c = M c := by
  funext t
  unfold rwM
  rw [if_neg (fun e => h2 e.1), if_neg (fun e => h e.1)]
theorem rwM_s {M : ZM} {j t : Nat} {L : List Nat} (h : t ≠ 9) : rwM M j L (tb j) t = M (tb j) t := by
  unfold rwM
  rw [if_neg (by omega), if_neg (fun e => h e.2)]
theorem rwM_9 {M : ZM} {j : Nat} {L : List Nat} : rwM M j L (tb j) 9 = nI L.length := by
  unfold rwM
  rw [if_neg (by omega), if_pos ⟨rfl, rfl⟩]
theorem rwM_8 {M : ZM} {j t : Nat} {L : List Nat} (h : t < L.length) : rwM M j L (tb j + 8) t = nI (L.getD t 0) := if_pos ⟨rfl, h⟩
theorem rwM_nil {M : ZM} {j : Nat} (h : M (tb j) 9 = nI 0) : rwM M j [] = M := by
  funext c t
  unfold rwM
  rw [if_neg (fun e => absurd e.2 (Nat.not_lt_zero t))]
  by_cases e : c = tb j ∧ t = 9
  · rw [if_pos e, e.1, e.2, h]; rfl
  · rw [if_neg e]
theorem rwM_up {M : ZM} {j x : Nat} {L : List Nat} : up2 (up2 (rwM M j L) (tb j + 8) L.length (nI x)) (tb j) 9 (nI (L.length + 1)) = rwM M j (L ++ [x]) := by
  funext c t
  have hl : (L ++ [x]).length = L.length + 1 := by simp
  by_cases e9 : c = tb j ∧ t = 9
  · obtain ⟨rfl, rfl⟩ := e9
    rw [up2_at, rwM_9, hl]
  · unfold up2
    rw [if_neg e9]
    by_cases e8 : c = tb j + 8 ∧ t = L.length
    · rw [if_pos e8]
      obtain ⟨rfl, rfl⟩ := e8
      rw [rwM_8 (by omega), gD (by omega)]
      simp
    · rw [if_neg e8]
      unfold rwM
      by_cases e : c = tb j + 8 ∧ t < L.length
      · rw [if_pos e, if_pos ⟨e.1, by omega⟩, gD e.2, gD (by omega), List.getElem_append_left e.2]
      · rw [if_neg e, if_neg e9, if_neg (by omega), if_neg e9]
/-- who of the first k stays -/
def rwA (P : PS) : Nat → List Nat
  | 0 => []
  | k + 1 => if hrE P k = -1 then rwA P k ++ [k] else rwA P k
def rwB (P : PS) : Nat → List Nat
  | 0 => rwA P (jn (rD P))
  | i + 1 => rwB P i ++ [jn (rD P) + i]
def exC (P : PS) : Nat := (hrC P (jn (rD P))).1 + (hrC P (jn (rD P))).2
def rowL (P : PS) : List Nat := rwB P (min (fN P) (exC P))
theorem rwA_len (P : PS) : ∀ k, (rwA P k).length + ((hrC P k).1 + (hrC P k).2) = k
  | 0 => rfl
  | k + 1 => by
    have := rwA_len P k
    unfold rwA hrC hrE
    by_cases c1 : ((hrC P k).1 : Int) < gR P ∧ caB P 0 k = true
    · rw [if_pos c1, if_pos c1, if_neg (by decide +kernel)]
      show (rwA P k).length + ((hrC P k).1 + 1 + (hrC P k).2) = k + 1
      omega
    · rw [if_neg c1, if_neg c1]
      by_cases c2 : ((hrC P k).2 : Int) < gR P ∧ caB P 1 k = true
      · rw [if_pos c2, if_pos c2, if_neg (by decide +kernel)]
        show (rwA P k).length + ((hrC P k).1 + ((hrC P k).2 + 1)) = k + 1
        omega
      · rw [if_neg c2, if_neg c2, if_pos rfl, List.length_append]
        show (rwA P k).length + 1 + _ = k + 1
        omega
theorem rwB_len (P : PS) : ∀ i, (rwB P i).length + exC P = jn (rD P) + i
  | 0 => rwA_len P _
  | i + 1 => by
    have := rwB_len P i
    unfold rwB
    rw [List.length_append]
    show (rwB P i).length + 1 + _ = _
    omega
section Lg
variable {d n j k a : Nat} {M : ZM} {R : ZH} {P : PS}
theorem addToRow_ {L : List Nat} {x : Nat} (hS : Sh R) (hj : j < 10) (hL : L.length < 10) : cal d 59 [.ref (tb j), .int (nI x)] (rwM M j L) R = some (.inl none, rwM M j (L ++ [x]), R) := by
  obtain ⟨nN_j, tlt_j, kt0_j, kt1_j, lt1_j, kt2_j, lt2_j, kt3_j, lt3_j, kt4_j, lt4_j, kt5_j, lt5_j, kt6_j, lt6_j, kt7_j, lt7_j, kt8_j, lt8_j, ft0_0_j, ft1_0_j, ft1_1_j, ft0_1_j, ft0_2_j, ft0_3_j, ft0_4_j, ft0_5_j⟩ := tabF hS hj
  have h9 := rwM_9 (M := M) (j := j) (L := L)
  have z : ¬ 10 ≤ L.length := by omega
  have w9 : up2 (rwM M j L) (tb j + 8) L.length (nI x) (tb j) 9 = nI L.length := by rw [up2_c (by omega)]; exact h9
  rw [e59]
  simp (disch := first | assumption | exact nar_b0 | exact nar_b1 | exact nar_b | exact Or.inl rfl | exact Or.inr rfl | exact zin_t (by omega) (by omega) | exact Nat.le_of_ble_eq_true rfl | (rw [nI_cl (by omega)]; assumption) | omega) only [↓reduceIte, reduceCtorEq, not_true_eq_false, not_false_eq_true, q59_0, q59_1, q59_4, q59_6, q59_9, q59_10, q59_13, q59_14, q59_17, q59_18, q59_19, q59_20i, q59_20a, q59_21, q59_24, q59_25, q59_26, q59_29, kl_int, kl_ref, kl_tok, cS_nil, cS_int, cS_ref, cS_long, tl_some, tl_none, List.cons_append, List.nil_append, nI_add, nI_ltb, nI_leb, nI_eqb, nI_cl, zin_nI, h9, z, w9, rwM_up]
theorem movePerson_ {p q : Nat} {v0 v1 v2 v3 : Int32} (hS : Sh R) (hj : j < 10) (hp : p < 14) (hq : q < 14) (h0 : M (tb j + 2) p = v0) (h1 : M (tb j + 3) p = v1) (h2 : M (tb j + 4) p = v2) (h3 : M (tb j + 5) p = v3) : cal d 58 [.ref (tb j), .int (nI p), .int (nI q)] M R = some (.inl none, up2 (up2 (up2 (up2 M (tb j + 2) q v0) (tb j + 3) q v1) (tb j + 4) q v2) (tb j + 5) q v3, R) := by
  obtain ⟨nN_j, tlt_j, kt0_j, kt1_j, lt1_j, kt2_j, lt2_j, kt3_j, lt3_j, kt4_j, lt4_j, kt5_j, lt5_j, kt6_j, lt6_j, kt7_j, lt7_j, kt8_j, lt8_j, ft0_0_j, ft1_0_j, ft1_1_j, ft0_1_j, ft0_2_j, ft0_3_j, ft0_4_j, ft0_5_j⟩ := tabF hS hj
  have w1 : up2 M (tb j + 2) q v0 (tb j + 3) p = v1 := by rw [up2_c (by omega)]; exact h1
  have w2 : up2 (up2 M (tb j + 2) q v0) (tb j + 3) q v1 (tb j + 4) p = v2 := by rw [up2_c (by omega), up2_c (by omega)]; exact h2
  have w3 : up2 (up2 (up2 M (tb j + 2) q v0) (tb j + 3) q v1) (tb j + 4) q v2 (tb j + 5) p = v3 := by rw [up2_c (by omega), up2_c (by omega), up2_c (by omega)]; exact h3
  rw [e58]
  simp (disch := first | assumption | exact nar_b0 | exact nar_b1 | exact nar_b | exact Or.inl rfl | exact Or.inr rfl | exact zin_t (by omega) (by omega) | exact Nat.le_of_ble_eq_true rfl | (rw [nI_cl (by omega)]; assumption) | omega) only [↓reduceIte, reduceCtorEq, not_true_eq_false, not_false_eq_true, q58_0, q58_1, q58_4, q58_5, q58_6, q58_7, q58_8, q58_11, q58_12, q58_13, q58_14, q58_15, q58_16, q58_17, q58_20, q58_21, q58_22, q58_23, q58_24, q58_27, q58_28, q58_29, q58_30, q58_31, q58_32, q58_33, q58_36, q58_37, q58_38, q58_41, q58_42, q58_43, q58_44, q58_45, q58_48, q58_49, q58_50, q58_53, q58_54, q58_55, q58_56, kl_int, kl_ref, kl_tok, cS_nil, cS_int, cS_ref, cS_long, tl_some, tl_none, List.cons_append, List.nil_append, nI_add, nI_ltb, nI_leb, nI_eqb, nI_cl, zin_nI, h0, w1, w2, w3]
theorem fr_1 (hS : Sh R) (hj : j < 10) (h6 : M (tb j) 6 = nI (jn (rD P))) (h7 : M (tb j) 7 = nI (fN P)) (hJ : jn (rD P) ≤ 10) (hF : fN P ≤ 4) (hv : ∀ k, k < fN P → M (tb j + 2) (10 + k) = fI P (4 * k) ∧ M (tb j + 3) (10 + k) = fI P (4 * k + 1) ∧ M (tb j + 4) (10 + k) = fI P (4 * k + 2) ∧ M (tb j + 5) (10 + k) = fI P (4 * k + 3)) : ∀ (m i : Nat), i + m = fN P → exe (d + 1) 57 2 [.ref (tb j), .int (nI i)] [] (tlM M j P i) R = exe (d + 1) 57 32 [.ref (tb j), .int (nI 0)] [] (tlM M j P (fN P)) R := by
  obtain ⟨nN_j, tlt_j, kt0_j, kt1_j, lt1_j, kt2_j, lt2_j, kt3_j, lt3_j, kt4_j, lt4_j, kt5_j, lt5_j, kt6_j, lt6_j, kt7_j, lt7_j, kt8_j, lt8_j, ft0_0_j, ft1_0_j, ft1_1_j, ft0_1_j, ft0_2_j, ft0_3_j, ft0_4_j, ft0_5_j⟩ := tabF hS hj
  intro m
  induction m with
  | zero =>
    intro i hi
    have hi' : i = fN P := by omega
    have a7 : tlM M j P i (tb j) 7 = nI (fN P) := by rw [tlM_c (by omega)]; exact h7
    have z : fN P ≤ i := by omega
    rw [q57_2]
    simp (disch := first | assumption | exact nar_b0 | exact nar_b1 | exact nar_b | exact Or.inl rfl | exact Or.inr rfl | exact zin_t (by omega) (by omega) | exact Nat.le_of_ble_eq_true rfl | (rw [nI_cl (by omega)]; assumption) | omega) only [↓reduceIte, reduceCtorEq, not_true_eq_false, not_false_eq_true, q57_0, q57_1, q57_3, q57_4, q57_7, q57_10, q57_11, q57_13, q57_14, q57_15, q57_16, q57_19, q57_20, q57_21, q57_24, q57_27, q57_30, q57_31, q57_33, q57_34, q57_37, q57_40, q57_41, q57_44, q57_45, q57_46, q57_47, q57_50, q57_51, q57_52, q57_55, q57_58, q57_61, q57_62, q57_64, q57_65, q57_68, q57_71, q57_72, q57_73, q57_76, q57_79, q57_80, q57_81, q57_84, q57_85, q57_86, q57_89, q57_92, q57_95, kl_int, kl_ref, kl_tok, cS_nil, cS_int, cS_ref, cS_long, tl_some, tl_none, List.cons_append, List.nil_append, nI_add, nI_ltb, nI_leb, nI_eqb, nI_cl, zin_nI, a7, z]
    rw [hi']
  | succ m ih =>
    intro i hi
    have a7 : tlM M j P i (tb j) 7 = nI (fN P) := by rw [tlM_c (by omega)]; exact h7
    have a6 : tlM M j P i (tb j) 6 = nI (jn (rD P)) := by rw [tlM_c (by omega)]; exact h6
    have z : ¬ fN P ≤ i := by omega
    obtain ⟨v0, v1, v2, v3⟩ := hv i (by omega)
    have mp := movePerson_ (d := d) (M := tlM M j P i) (p := 10 + i) (q := jn (rD P) + i) (v0 := fI P (4 * i)) (v1 := fI P (4 * i + 1)) (v2 := fI P (4 * i + 2)) (v3 := fI P (4 * i + 3)) hS hj (by omega) (by omega) (by rw [tlM_t (by omega)]; exact v0) (by rw [tlM_t (by omega)]; exact v1) (by rw [tlM_t (by omega)]; exact v2) (by rw [tlM_t (by omega)]; exact v3)
    rw [tlM_up] at mp
    rw [← ih (i + 1) (by omega), q57_2]
    simp (disch := first | assumption | exact nar_b0 | exact nar_b1 | exact nar_b | exact Or.inl rfl | exact Or.inr rfl | exact zin_t (by omega) (by omega) | exact Nat.le_of_ble_eq_true rfl | (rw [nI_cl (by omega)]; assumption) | omega) only [↓reduceIte, reduceCtorEq, not_true_eq_false, not_false_eq_true, q57_0, q57_1, q57_3, q57_4, q57_7, q57_10, q57_11, q57_13, q57_14, q57_15, q57_16, q57_19, q57_20, q57_21, q57_24, q57_27, q57_30, q57_31, q57_33, q57_34, q57_37, q57_40, q57_41, q57_44, q57_45, q57_46, q57_47, q57_50, q57_51, q57_52, q57_55, q57_58, q57_61, q57_62, q57_64, q57_65, q57_68, q57_71, q57_72, q57_73, q57_76, q57_79, q57_80, q57_81, q57_84, q57_85, q57_86, q57_89, q57_92, q57_95, kl_int, kl_ref, kl_tok, cS_nil, cS_int, cS_ref, cS_long, tl_some, tl_none, List.cons_append, List.nil_append, nI_add, nI_ltb, nI_leb, nI_eqb, nI_cl, zin_nI, a7, a6, z, mp, zk0_inl]
theorem fr_2 (hS : Sh R) (hj : j < 10) (h6 : M (tb j) 6 = nI (jn (rD P))) (hJ : jn (rD P) ≤ 10) (hx : ∀ k, k < jn (rD P) → M (tb j + 6) k = hrE P k) : ∀ (m k : Nat), k + m = jn (rD P) → exe (d + 1) 57 32 [.ref (tb j), .int (nI k)] [] (rwM M j (rwA P k)) R = exe (d + 1) 57 63 [.ref (tb j), .int (nI 0)] [] (rwM M j (rwA P (jn (rD P)))) R := by
  obtain ⟨nN_j, tlt_j, kt0_j, kt1_j, lt1_j, kt2_j, lt2_j, kt3_j, lt3_j, kt4_j, lt4_j, kt5_j, lt5_j, kt6_j, lt6_j, kt7_j, lt7_j, kt8_j, lt8_j, ft0_0_j, ft1_0_j, ft1_1_j, ft0_1_j, ft0_2_j, ft0_3_j, ft0_4_j, ft0_5_j⟩ := tabF hS hj
  intro m
  induction m with
  | zero =>
    intro k hk
    have hk' : k = jn (rD P) := by omega
    have a6 : rwM M j (rwA P k) (tb j) 6 = nI (jn (rD P)) := by rw [rwM_s (by decide)]; exact h6
    have z : jn (rD P) ≤ k := by omega
    rw [q57_32]
    simp (disch := first | assumption | exact nar_b0 | exact nar_b1 | exact nar_b | exact Or.inl rfl | exact Or.inr rfl | exact zin_t (by omega) (by omega) | exact Nat.le_of_ble_eq_true rfl | (rw [nI_cl (by omega)]; assumption) | omega) only [↓reduceIte, reduceCtorEq, not_true_eq_false, not_false_eq_true, q57_0, q57_1, q57_3, q57_4, q57_7, q57_10, q57_11, q57_13, q57_14, q57_15, q57_16, q57_19, q57_20, q57_21, q57_24, q57_27, q57_30, q57_31, q57_33, q57_34, q57_37, q57_40, q57_41, q57_44, q57_45, q57_46, q57_47, q57_50, q57_51, q57_52, q57_55, q57_58, q57_61, q57_62, q57_64, q57_65, q57_68, q57_71, q57_72, q57_73, q57_76, q57_79, q57_80, q57_81, q57_84, q57_85, q57_86, q57_89, q57_92, q57_95, kl_int, kl_ref, kl_tok, cS_nil, cS_int, cS_ref, cS_long, tl_some, tl_none, List.cons_append, List.nil_append, nI_add, nI_ltb, nI_leb, nI_eqb, nI_cl, zin_nI, a6, z]
    rw [hk']
  | succ m ih =>
    intro k hk
    have a6 : rwM M j (rwA P k) (tb j) 6 = nI (jn (rD P)) := by rw [rwM_s (by decide)]; exact h6
    have z : ¬ jn (rD P) ≤ k := by omega
    have ax : rwM M j (rwA P k) (tb j + 6) k = hrE P k := by rw [rwM_c (by omega) (by omega)]; exact hx k (by omega)
    have hl := rwA_len P k
    have ih' := ih (k + 1) (by omega)
    have eA : rwA P (k + 1) = if hrE P k = -1 then rwA P k ++ [k] else rwA P k := rfl
    rw [eA] at ih'
    rw [q57_32]
    by_cases c : hrE P k = -1
    · rw [if_pos c] at ih'
      have ar := addToRow_ (d := d) (M := M) (R := R) (j := j) (L := rwA P k) (x := k) hS hj (by omega)
      simp (disch := first | assumption | exact nar_b0 | exact nar_b1 | exact nar_b | exact Or.inl rfl | exact Or.inr rfl | exact zin_t (by omega) (by omega) | exact Nat.le_of_ble_eq_true rfl | (rw [nI_cl (by omega)]; assumption) | omega) only [↓reduceIte, reduceCtorEq, not_true_eq_false, not_false_eq_true, q57_0, q57_1, q57_3, q57_4, q57_7, q57_10, q57_11, q57_13, q57_14, q57_15, q57_16, q57_19, q57_20, q57_21, q57_24, q57_27, q57_30, q57_31, q57_33, q57_34, q57_37, q57_40, q57_41, q57_44, q57_45, q57_46, q57_47, q57_50, q57_51, q57_52, q57_55, q57_58, q57_61, q57_62, q57_64, q57_65, q57_68, q57_71, q57_72, q57_73, q57_76, q57_79, q57_80, q57_81, q57_84, q57_85, q57_86, q57_89, q57_92, q57_95, kl_int, kl_ref, kl_tok, cS_nil, cS_int, cS_ref, cS_long, tl_some, tl_none, List.cons_append, List.nil_append, nI_add, nI_ltb, nI_leb, nI_eqb, nI_cl, zin_nI, a6, z, ax, c, ar, zk0_inl]
      exact ih'
    · rw [if_neg c] at ih'
      simp (disch := first | assumption | exact nar_b0 | exact nar_b1 | exact nar_b | exact Or.inl rfl | exact Or.inr rfl | exact zin_t (by omega) (by omega) | exact Nat.le_of_ble_eq_true rfl | (rw [nI_cl (by omega)]; assumption) | omega) only [↓reduceIte, reduceCtorEq, not_true_eq_false, not_false_eq_true, q57_0, q57_1, q57_3, q57_4, q57_7, q57_10, q57_11, q57_13, q57_14, q57_15, q57_16, q57_19, q57_20, q57_21, q57_24, q57_27, q57_30, q57_31, q57_33, q57_34, q57_37, q57_40, q57_41, q57_44, q57_45, q57_46, q57_47, q57_50, q57_51, q57_52, q57_55, q57_58, q57_61, q57_62, q57_64, q57_65, q57_68, q57_71, q57_72, q57_73, q57_76, q57_79, q57_80, q57_81, q57_84, q57_85, q57_86, q57_89, q57_92, q57_95, kl_int, kl_ref, kl_tok, cS_nil, cS_int, cS_ref, cS_long, tl_some, tl_none, List.cons_append, List.nil_append, nI_add, nI_ltb, nI_leb, nI_eqb, nI_cl, zin_nI, a6, z, ax, c]
      exact ih'
theorem fr_3 (hS : Sh R) (hj : j < 10) (h6 : M (tb j) 6 = nI (jn (rD P))) (h7 : M (tb j) 7 = nI (fN P)) (h8 : M (tb j) 8 = nI (exC P)) (hJ : jn (rD P) ≤ 10) (hF : fN P ≤ 4) : ∀ (m i : Nat), i + m = min (fN P) (exC P) → exe (d + 1) 57 63 [.ref (tb j), .int (nI i)] [] (rwM M j (rwB P i)) R = some (.inl none, rwM M j (rowL P), R) := by
  obtain ⟨nN_j, tlt_j, kt0_j, kt1_j, lt1_j, kt2_j, lt2_j, kt3_j, lt3_j, kt4_j, lt4_j, kt5_j, lt5_j, kt6_j, lt6_j, kt7_j, lt7_j, kt8_j, lt8_j, ft0_0_j, ft1_0_j, ft1_1_j, ft0_1_j, ft0_2_j, ft0_3_j, ft0_4_j, ft0_5_j⟩ := tabF hS hj
  have he : exC P ≤ 10 := by have := rwB_len P 0; omega
  intro m
  induction m with
  | zero =>
    intro i hi
    have hi' : i = min (fN P) (exC P) := by omega
    have a7 : rwM M j (rwB P i) (tb j) 7 = nI (fN P) := by rw [rwM_s (by decide)]; exact h7
    have a8 : rwM M j (rwB P i) (tb j) 8 = nI (exC P) := by rw [rwM_s (by decide)]; exact h8
    rw [q57_63]
    by_cases z1 : fN P ≤ i
    · simp (disch := first | assumption | exact nar_b0 | exact nar_b1 | exact nar_b | exact Or.inl rfl | exact Or.inr rfl | exact zin_t (by omega) (by omega) | exact Nat.le_of_ble_eq_true rfl | (rw [nI_cl (by omega)]; assumption) | omega) only [↓reduceIte, reduceCtorEq, not_true_eq_false, not_false_eq_true, q57_0, q57_1, q57_3, q57_4, q57_7, q57_10, q57_11, q57_13, q57_14, q57_15, q57_16, q57_19, q57_20, q57_21, q57_24, q57_27, q57_30, q57_31, q57_33, q57_34, q57_37, q57_40, q57_41, q57_44, q57_45, q57_46, q57_47, q57_50, q57_51, q57_52, q57_55, q57_58, q57_61, q57_62, q57_64, q57_65, q57_68, q57_71, q57_72, q57_73, q57_76, q57_79, q57_80, q57_81, q57_84, q57_85, q57_86, q57_89, q57_92, q57_95, kl_int, kl_ref, kl_tok, cS_nil, cS_int, cS_ref, cS_long, tl_some, tl_none, List.cons_append, List.nil_append, nI_add, nI_ltb, nI_leb, nI_eqb, nI_cl, zin_nI, a7, z1]
      rw [hi']
      rfl
    · have z2 : exC P ≤ i := by omega
      simp (disch := first | assumption | exact nar_b0 | exact nar_b1 | exact nar_b | exact Or.inl rfl | exact Or.inr rfl | exact zin_t (by omega) (by omega) | exact Nat.le_of_ble_eq_true rfl | (rw [nI_cl (by omega)]; assumption) | omega) only [↓reduceIte, reduceCtorEq, not_true_eq_false, not_false_eq_true, q57_0, q57_1, q57_3, q57_4, q57_7, q57_10, q57_11, q57_13, q57_14, q57_15, q57_16, q57_19, q57_20, q57_21, q57_24, q57_27, q57_30, q57_31, q57_33, q57_34, q57_37, q57_40, q57_41, q57_44, q57_45, q57_46, q57_47, q57_50, q57_51, q57_52, q57_55, q57_58, q57_61, q57_62, q57_64, q57_65, q57_68, q57_71, q57_72, q57_73, q57_76, q57_79, q57_80, q57_81, q57_84, q57_85, q57_86, q57_89, q57_92, q57_95, kl_int, kl_ref, kl_tok, cS_nil, cS_int, cS_ref, cS_long, tl_some, tl_none, List.cons_append, List.nil_append, nI_add, nI_ltb, nI_leb, nI_eqb, nI_cl, zin_nI, a7, a8, z1, z2]
      rw [hi']
      rfl
  | succ m ih =>
    intro i hi
    have a7 : rwM M j (rwB P i) (tb j) 7 = nI (fN P) := by rw [rwM_s (by decide)]; exact h7
    have a8 : rwM M j (rwB P i) (tb j) 8 = nI (exC P) := by rw [rwM_s (by decide)]; exact h8
    have a6 : rwM M j (rwB P i) (tb j) 6 = nI (jn (rD P)) := by rw [rwM_s (by decide)]; exact h6
    have z1 : ¬ fN P ≤ i := by omega
    have z2 : ¬ exC P ≤ i := by omega
    have hl := rwB_len P i
    have ih' := ih (i + 1) (by omega)
    unfold rwB at ih'
    have ar := addToRow_ (d := d) (M := M) (R := R) (j := j) (L := rwB P i) (x := jn (rD P) + i) hS hj (by omega)
    rw [q57_63]
    simp (disch := first | assumption | exact nar_b0 | exact nar_b1 | exact nar_b | exact Or.inl rfl | exact Or.inr rfl | exact zin_t (by omega) (by omega) | exact Nat.le_of_ble_eq_true rfl | (rw [nI_cl (by omega)]; assumption) | omega) only [↓reduceIte, reduceCtorEq, not_true_eq_false, not_false_eq_true, q57_0, q57_1, q57_3, q57_4, q57_7, q57_10, q57_11, q57_13, q57_14, q57_15, q57_16, q57_19, q57_20, q57_21, q57_24, q57_27, q57_30, q57_31, q57_33, q57_34, q57_37, q57_40, q57_41, q57_44, q57_45, q57_46, q57_47, q57_50, q57_51, q57_52, q57_55, q57_58, q57_61, q57_62, q57_64, q57_65, q57_68, q57_71, q57_72, q57_73, q57_76, q57_79, q57_80, q57_81, q57_84, q57_85, q57_86, q57_89, q57_92, q57_95, kl_int, kl_ref, kl_tok, cS_nil, cS_int, cS_ref, cS_long, tl_some, tl_none, List.cons_append, List.nil_append, nI_add, nI_ltb, nI_leb, nI_eqb, nI_cl, zin_nI, a6, a7, a8, z1, z2, ar, zk0_inl]
    exact ih'
theorem fillRow_ (hS : Sh R) (hj : j < 10) (h6 : M (tb j) 6 = nI (jn (rD P))) (h7 : M (tb j) 7 = nI (fN P)) (h8 : M (tb j) 8 = nI (exC P)) (h9 : M (tb j) 9 = nI 0) (hJ : jn (rD P) ≤ 10) (hF : fN P ≤ 4) (hx : ∀ k, k < jn (rD P) → M (tb j + 6) k = hrE P k) (hv : ∀ k, k < fN P → M (tb j + 2) (10 + k) = fI P (4 * k) ∧ M (tb j + 3) (10 + k) = fI P (4 * k + 1) ∧ M (tb j + 4) (10 + k) = fI P (4 * k + 2) ∧ M (tb j + 5) (10 + k) = fI P (4 * k + 3)) : cal (d + 1) 57 [.ref (tb j)] M R = some (.inl none, rwM (tlM M j P (fN P)) j (rowL P), R) := by
  have g1 := fr_1 (d := d) hS hj h6 h7 hJ hF hv (fN P) 0 (by omega)
  have t0 : ∀ t, tlM M j P (fN P) (tb j) t = M (tb j) t := fun t => by rw [tlM_c (by omega)]
  have g2 := fr_2 (d := d) (M := tlM M j P (fN P)) hS hj (by rw [t0]; exact h6) hJ (fun k hk => by rw [tlM_c (by omega)]; exact hx k hk) (jn (rD P)) 0 (by omega)
  have g3 := fr_3 (d := d) (M := tlM M j P (fN P)) hS hj (by rw [t0]; exact h6) (by rw [t0]; exact h7) (by rw [t0]; exact h8) hJ hF (min (fN P) (exC P)) 0 (by omega)
  have n0 : rwM (tlM M j P (fN P)) j (rwA P 0) = tlM M j P (fN P) := rwM_nil (by rw [t0]; exact h9)
  rw [n0] at g2
  rw [tlM_0] at g1
  have g3' : exe (d + 1) 57 63 [.ref (tb j), .int (nI 0)] [] (rwM (tlM M j P (fN P)) j (rwA P (jn (rD P)))) R = some (.inl none, rwM (tlM M j P (fN P)) j (rowL P), R) := g3
  rw [e57]
  simp (disch := first | assumption | exact nar_b0 | exact nar_b1 | exact nar_b | exact Or.inl rfl | exact Or.inr rfl | exact zin_t (by omega) (by omega) | exact Nat.le_of_ble_eq_true rfl | (rw [nI_cl (by omega)]; assumption) | omega) only [↓reduceIte, reduceCtorEq, not_true_eq_false, not_false_eq_true, q57_0, q57_1, q57_3, q57_4, q57_7, q57_10, q57_11, q57_13, q57_14, q57_15, q57_16, q57_19, q57_20, q57_21, q57_24, q57_27, q57_30, q57_31, q57_33, q57_34, q57_37, q57_40, q57_41, q57_44, q57_45, q57_46, q57_47, q57_50, q57_51, q57_52, q57_55, q57_58, q57_61, q57_62, q57_64, q57_65, q57_68, q57_71, q57_72, q57_73, q57_76, q57_79, q57_80, q57_81, q57_84, q57_85, q57_86, q57_89, q57_92, q57_95, kl_int, kl_ref, kl_tok, cS_nil, cS_int, cS_ref, cS_long, tl_some, tl_none, List.cons_append, List.nil_append, nI_add, nI_ltb, nI_leb, nI_eqb, nI_cl, zin_nI]
  rw [g1, g2, g3']
end Lg
