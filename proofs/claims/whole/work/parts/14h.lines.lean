-- the class reads lines: parts
section Ln
variable {d n i j : Nat} {M : ZM} {R : ZH} {b : Nat → Int32} {P : PS}
theorem and_bit {t k : Nat} : (t &&& 2 ^ k = 0) ↔ t.testBit k = false := by
  rw [and_zero_iff]
  constructor
  · intro h
    cases q : t.testBit k
    · rfl
    · have := h k q
      rw [Nat.testBit_two_pow] at this
      simp at this
  · intro h q hq
    rw [Nat.testBit_two_pow]
    refine decide_eq_false (fun e => ?_)
    subst e
    rw [h] at hq
    cases hq
theorem isFirst_t {t k : Nat} {p : Int32} (hS : Sh R) (h7 : M 92 7 = nI t) (ht : t < 256) (hk : k < 8) (h : t.testBit k = false) : cal (d + 1) 33 [.ref 92, .int (nI (2 ^ k)), .int p] M R = some (.inl (some (.int (nI 1))), up2 M 92 7 (nI (t ||| 2 ^ k)), R) := by
  obtain ⟨nN, k92, k93, l93, k94, k95, l95, k96, l96, k97, l97, k98, k99, l99, k100, l100, k101, l101, k102, k103, l103, k104, l104, k105, l105, f92_0, f92_1, f94_0, f94_1, f94_2, f92_2, f98_0, f98_1, f98_2, f92_3, f102_0, f102_1, f102_2⟩ := parF hS
  have h0 : t &&& 2 ^ k = 0 := and_bit.mpr h
  rw [e33]
  simp (disch := first | assumption | exact nar_b0 | exact nar_b1 | exact nar_b | exact Or.inl rfl | exact Or.inr rfl | exact zin_t (by omega) (by omega) | exact Nat.le_of_ble_eq_true rfl | (rw [nI_cl (by omega)]; assumption) | omega) only [↓reduceIte, reduceCtorEq, not_true_eq_false, not_false_eq_true, q33_0, q33_1, q33_4, q33_5, q33_6, q33_9, q33_10, q33_11, q33_12, q33_15, q33_16, q33_17i, q33_17a, q33_18, q33_21, q33_22, q33_23, q33_26, q33_27, kl_int, kl_ref, kl_tok, cS_nil, cS_int, cS_ref, cS_long, tl_some, tl_none, List.cons_append, List.nil_append, nI_add, nI_ltb, nI_leb, nI_eqb, nI_cl, zin_nI, h7, nI_and, nI_or, h0]
theorem isFirst_f {t k p : Nat} (hS : Sh R) (h7 : M 92 7 = nI t) (ht : t < 256) (hk : k < 8) (h : t.testBit k = true) : ∃ M', cal (d + 1) 33 [.ref 92, .int (nI (2 ^ k)), .int (nI p)] M R = some (.inl (some (.int (nI 0))), M', R) ∧ CFt M' M 1 p := by
  obtain ⟨nN, k92, k93, l93, k94, k95, l95, k96, l96, k97, l97, k98, k99, l99, k100, l100, k101, l101, k102, k103, l103, k104, l104, k105, l105, f92_0, f92_1, f94_0, f94_1, f94_2, f92_2, f98_0, f98_1, f98_2, f92_3, f102_0, f102_1, f102_2⟩ := parF hS
  have h0 : ¬ t &&& 2 ^ k = 0 := fun q => by rw [and_bit.mp q] at h; cases h
  have hle : t &&& 2 ^ k ≤ t := Nat.and_le_left
  have hf := fail_ (d := d) (M := M) (R := R) (k := nI 1) (p := nI p) hS
  refine ⟨_, ?_, CFt.mk' (M' := M) (fun c hc => rfl)⟩
  rw [e33]
  simp (disch := first | assumption | exact nar_b0 | exact nar_b1 | exact nar_b | exact Or.inl rfl | exact Or.inr rfl | exact zin_t (by omega) (by omega) | exact Nat.le_of_ble_eq_true rfl | (rw [nI_cl (by omega)]; assumption) | omega) only [↓reduceIte, reduceCtorEq, not_true_eq_false, not_false_eq_true, q33_0, q33_1, q33_4, q33_5, q33_6, q33_9, q33_10, q33_11, q33_12, q33_15, q33_16, q33_17i, q33_17a, q33_18, q33_21, q33_22, q33_23, q33_26, q33_27, kl_int, kl_ref, kl_tok, cS_nil, cS_int, cS_ref, cS_long, tl_some, tl_none, List.cons_append, List.nil_append, nI_add, nI_ltb, nI_leb, nI_eqb, nI_cl, zin_nI, h7, nI_and, h0, hf, zk0_inl]
def perM (M : ZM) (j pl : Nat) (q : Int × Int × Int × Int) (i' : Nat) : ZM := up2 (up2 (up2 (up2 (nmM M i' q.2.2.2) (tb j + 2) pl (iI q.1)) (tb j + 3) pl (iI q.2.1)) (tb j + 4) pl (iI q.2.2.1)) (tb j + 5) pl (iI q.2.2.2)
theorem up2_cm {M : ZM} {a k c q : Nat} {v w : Int32} (h : a ≠ c) : up2 (up2 M a k v) c q w = up2 (up2 M c q w) a k v := by
  funext x y
  unfold up2
  by_cases e1 : x = c ∧ y = q
  · rw [if_pos e1, if_neg (by omega), if_pos e1]
  · rw [if_neg e1, if_neg e1]
theorem nmM_up {M : ZM} {a k i' : Nat} {v : Int32} {w : Int} (h : a ≠ 92) : nmM (up2 M a k v) i' w = up2 (nmM M i' w) a k v := by
  unfold nmM atM
  rw [up2_cm h, up2_cm h]
theorem nmM_nm {M : ZM} {i1 i2 : Nat} {v w : Int} : nmM (nmM M i1 v) i2 w = nmM M i2 w := by
  funext x y
  unfold nmM atM up2
  by_cases e1 : x = 92 ∧ y = 6
  · rw [if_pos e1, if_pos e1]
  · by_cases e2 : x = 92 ∧ y = 5
    · simp [e2]
    · simp only [e1, e2, if_false]
theorem readPerson_ {pl : Nat} (hpl : pl < 14) (hS : Sh R) (hj : j < 10) (hP : PCx M b n i) :
    (∀ q i', pPer b n i = .inr (q, i') → cal (d + 2) 36 [.ref 92, .ref (tb j), .int (nI pl)] M R = some (.inl (some (.int (nI 1))), perM M j pl q i', R)) ∧
    (∀ k p, pPer b n i = .inl (k, p) → ∃ M', cal (d + 2) 36 [.ref 92, .ref (tb j), .int (nI pl)] M R = some (.inl (some (.int (nI 0))), M', R) ∧ LnE j M M' k p) := by
  obtain ⟨nN, k92, k93, l93, k94, k95, l95, k96, l96, k97, l97, k98, k99, l99, k100, l100, k101, l101, k102, k103, l103, k104, l104, k105, l105, f92_0, f92_1, f94_0, f94_1, f94_2, f92_2, f98_0, f98_1, f98_2, f92_3, f102_0, f102_1, f102_2⟩ := parF hS
  obtain ⟨nN_j, tlt_j, kt0_j, kt1_j, lt1_j, kt2_j, lt2_j, kt3_j, lt3_j, kt4_j, lt4_j, kt5_j, lt5_j, kt6_j, lt6_j, kt7_j, lt7_j, kt8_j, lt8_j, ft0_0_j, ft1_0_j, ft1_1_j, ft0_1_j, ft0_2_j, ft0_3_j, ft0_4_j, ft0_5_j⟩ := tabF hS hj
  have htj := tb_lt hj
  have hm : (-50 : Int32) = iI (-50) := by decide +kernel
  have hh : nI 50 = iI 50 := rfl
  have h18 : nI 18 = iI 18 := rfl
  have h99 : nI 99 = iI 99 := rfl
  have h00 : nI 0 = iI 0 := rfl
  have h33 : nI 3 = iI 3 := rfl
  have z1 : ¬ 1 = 0 := by decide
  have hn := hP.2.2.1
  unfold pPer
  cases e1 : pNum b n i true (-50) 50 with
  | inl f =>
    obtain ⟨k, p⟩ := f
    obtain ⟨M1, g1, g2⟩ := readNumber_f (d := d) (R := R) hS hP hm hh (by decide) (by decide) (by decide) e1
    refine ⟨fun q i' h => (by cases h), fun k' p' h => ?_⟩
    cases h
    refine ⟨M1, ?_, g2.ln⟩
    rw [e36]
    simp (disch := first | assumption | exact nar_b0 | exact nar_b1 | exact nar_b | exact Or.inl rfl | exact Or.inr rfl | exact zin_t (by omega) (by omega) | exact Nat.le_of_ble_eq_true rfl | (rw [nI_cl (by omega)]; assumption) | omega) only [↓reduceIte, reduceCtorEq, not_true_eq_false, not_false_eq_true, q36_0, q36_1, q36_3, q36_5, q36_8, q36_11, q36_12, q36_13, q36_14, q36_17, q36_18, q36_19, q36_20, q36_21, q36_24, q36_25, q36_26, q36_28, q36_30, q36_33, q36_36, q36_37, q36_38, q36_39, q36_42, q36_43, q36_44, q36_45, q36_46, q36_49, q36_50, q36_51, q36_53, q36_55, q36_58, q36_61, q36_62, q36_63, q36_64, q36_67, q36_68, q36_69, q36_72, q36_73, q36_74, q36_75, q36_76, q36_79, q36_82, q36_83, q36_84, q36_85, q36_88, q36_89, q36_90, q36_93, q36_94, q36_95, kl_int, kl_ref, kl_tok, cS_nil, cS_int, cS_ref, cS_long, tl_some, tl_none, List.cons_append, List.nil_append, nI_add, nI_ltb, nI_leb, nI_eqb, nI_cl, zin_nI, g1, zk0_inl]
  | inr w =>
    obtain ⟨v1, i1⟩ := w
    have p1 := pNum_pos hn.1 e1
    have r1 := readNumber_t (d := d) (R := R) hS hP hm hh (by decide) (by decide) (by decide) e1
    generalize hN1 : up2 (nmM M i1 v1) (tb j + 2) pl (iI v1) = N1
    have hP1 : PCx N1 b n i1 := by rw [← hN1]; exact (hP.nm p1.2.1).fr (by rw [up2_c (by omega)]) (by rw [up2_c (by omega)]) (by rw [up2_c (by omega)]) (up2_ne (by omega))
    have f1 : LnF j M N1 := by rw [← hN1]; exact LnF.nm.trans (LnF.up (by omega) (by omega))
    have s1 : nmM M i1 v1 92 6 = iI v1 := nmM_6
    have e25 : cal (d + 2) 36 [.ref 92, .ref (tb j), .int (nI pl)] M R = exe (d + 2) 36 25 [.ref 92, .ref (tb j), .int (nI pl)] [] N1 R := by
      rw [e36]
      simp (disch := first | assumption | exact nar_b0 | exact nar_b1 | exact nar_b | exact Or.inl rfl | exact Or.inr rfl | exact zin_t (by omega) (by omega) | exact Nat.le_of_ble_eq_true rfl | (rw [nI_cl (by omega)]; assumption) | omega) only [↓reduceIte, reduceCtorEq, not_true_eq_false, not_false_eq_true, q36_0, q36_1, q36_3, q36_5, q36_8, q36_11, q36_12, q36_13, q36_14, q36_17, q36_18, q36_19, q36_20, q36_21, q36_24, q36_26, q36_28, q36_30, q36_33, q36_36, q36_37, q36_38, q36_39, q36_42, q36_43, q36_44, q36_45, q36_46, q36_49, q36_50, q36_51, q36_53, q36_55, q36_58, q36_61, q36_62, q36_63, q36_64, q36_67, q36_68, q36_69, q36_72, q36_73, q36_74, q36_75, q36_76, q36_79, q36_82, q36_83, q36_84, q36_85, q36_88, q36_89, q36_90, q36_93, q36_94, q36_95, kl_int, kl_ref, kl_tok, cS_nil, cS_int, cS_ref, cS_long, tl_some, tl_none, List.cons_append, List.nil_append, nI_add, nI_ltb, nI_leb, nI_eqb, nI_cl, zin_nI, r1, zk0_inl, z1, s1, hN1]
    rw [e25]
    show (∀ q i', (match pNum b n i1 true (-50) 50 with
      | .inl f => .inl f
      | .inr (x, i2) => match pNum b n i2 false 18 99 with
        | .inl f => .inl f
        | .inr (y, i3) => match pNum b n i3 false 0 3 with
          | .inl f => .inl f
          | .inr (z, i4) => .inr ((v1, x, y, z), i4) : PR (Int × Int × Int × Int)) = .inr (q, i') → _) ∧ (∀ k p, (match pNum b n i1 true (-50) 50 with
      | .inl f => .inl f
      | .inr (x, i2) => match pNum b n i2 false 18 99 with
        | .inl f => .inl f
        | .inr (y, i3) => match pNum b n i3 false 0 3 with
          | .inl f => .inl f
          | .inr (z, i4) => .inr ((v1, x, y, z), i4) : PR (Int × Int × Int × Int)) = .inl (k, p) → _)
    cases e2 : pNum b n i1 true (-50) 50 with
    | inl f =>
      obtain ⟨k, p⟩ := f
      obtain ⟨M1, g1, g2⟩ := readNumber_f (d := d) (R := R) hS hP1 hm hh (by decide) (by decide) (by decide) e2
      refine ⟨fun q i' h => (by cases h), fun k' p' h => ?_⟩
      cases h
      refine ⟨M1, ?_, LnE.after f1 g2.ln⟩
      simp (disch := first | assumption | exact nar_b0 | exact nar_b1 | exact nar_b | exact Or.inl rfl | exact Or.inr rfl | exact zin_t (by omega) (by omega) | exact Nat.le_of_ble_eq_true rfl | (rw [nI_cl (by omega)]; assumption) | omega) only [↓reduceIte, reduceCtorEq, not_true_eq_false, not_false_eq_true, q36_0, q36_1, q36_3, q36_5, q36_8, q36_11, q36_12, q36_13, q36_14, q36_17, q36_18, q36_19, q36_20, q36_21, q36_24, q36_25, q36_26, q36_28, q36_30, q36_33, q36_36, q36_37, q36_38, q36_39, q36_42, q36_43, q36_44, q36_45, q36_46, q36_49, q36_50, q36_51, q36_53, q36_55, q36_58, q36_61, q36_62, q36_63, q36_64, q36_67, q36_68, q36_69, q36_72, q36_73, q36_74, q36_75, q36_76, q36_79, q36_82, q36_83, q36_84, q36_85, q36_88, q36_89, q36_90, q36_93, q36_94, q36_95, kl_int, kl_ref, kl_tok, cS_nil, cS_int, cS_ref, cS_long, tl_some, tl_none, List.cons_append, List.nil_append, nI_add, nI_ltb, nI_leb, nI_eqb, nI_cl, zin_nI, g1, zk0_inl]
    | inr w =>
      obtain ⟨v2, i2⟩ := w
      have p2 := pNum_pos p1.2.1 e2
      have r2 := readNumber_t (d := d) (R := R) hS hP1 hm hh (by decide) (by decide) (by decide) e2
      generalize hN2 : up2 (nmM N1 i2 v2) (tb j + 3) pl (iI v2) = N2
      have hP2 : PCx N2 b n i2 := by rw [← hN2]; exact (hP1.nm p2.2.1).fr (by rw [up2_c (by omega)]) (by rw [up2_c (by omega)]) (by rw [up2_c (by omega)]) (up2_ne (by omega))
      have f2 : LnF j M N2 := by rw [← hN2]; exact f1.trans (LnF.nm.trans (LnF.up (by omega) (by omega)))
      have s2 : nmM N1 i2 v2 92 6 = iI v2 := nmM_6
      have e50 : exe (d + 2) 36 25 [.ref 92, .ref (tb j), .int (nI pl)] [] N1 R = exe (d + 2) 36 50 [.ref 92, .ref (tb j), .int (nI pl)] [] N2 R := by
        simp (disch := first | assumption | exact nar_b0 | exact nar_b1 | exact nar_b | exact Or.inl rfl | exact Or.inr rfl | exact zin_t (by omega) (by omega) | exact Nat.le_of_ble_eq_true rfl | (rw [nI_cl (by omega)]; assumption) | omega) only [↓reduceIte, reduceCtorEq, not_true_eq_false, not_false_eq_true, q36_0, q36_1, q36_3, q36_5, q36_8, q36_11, q36_12, q36_13, q36_14, q36_17, q36_18, q36_19, q36_20, q36_21, q36_24, q36_25, q36_26, q36_28, q36_30, q36_33, q36_36, q36_37, q36_38, q36_39, q36_42, q36_43, q36_44, q36_45, q36_46, q36_49, q36_51, q36_53, q36_55, q36_58, q36_61, q36_62, q36_63, q36_64, q36_67, q36_68, q36_69, q36_72, q36_73, q36_74, q36_75, q36_76, q36_79, q36_82, q36_83, q36_84, q36_85, q36_88, q36_89, q36_90, q36_93, q36_94, q36_95, kl_int, kl_ref, kl_tok, cS_nil, cS_int, cS_ref, cS_long, tl_some, tl_none, List.cons_append, List.nil_append, nI_add, nI_ltb, nI_leb, nI_eqb, nI_cl, zin_nI, r2, zk0_inl, z1, s2, hN2]
      rw [e50]
      show (∀ q i', (match pNum b n i2 false 18 99 with
        | .inl f => .inl f
        | .inr (y, i3) => match pNum b n i3 false 0 3 with
          | .inl f => .inl f
          | .inr (z, i4) => .inr ((v1, v2, y, z), i4) : PR (Int × Int × Int × Int)) = .inr (q, i') → _) ∧ (∀ k p, (match pNum b n i2 false 18 99 with
        | .inl f => .inl f
        | .inr (y, i3) => match pNum b n i3 false 0 3 with
          | .inl f => .inl f
          | .inr (z, i4) => .inr ((v1, v2, y, z), i4) : PR (Int × Int × Int × Int)) = .inl (k, p) → _)
      cases e3 : pNum b n i2 false 18 99 with
      | inl f =>
        obtain ⟨k, p⟩ := f
        obtain ⟨M1, g1, g2⟩ := readNumber_f (d := d) (R := R) hS hP2 h18 h99 (by decide) (by decide) (by decide) e3
        refine ⟨fun q i' h => (by cases h), fun k' p' h => ?_⟩
        cases h
        refine ⟨M1, ?_, LnE.after f2 g2.ln⟩
        simp (disch := first | assumption | exact nar_b0 | exact nar_b1 | exact nar_b | exact Or.inl rfl | exact Or.inr rfl | exact zin_t (by omega) (by omega) | exact Nat.le_of_ble_eq_true rfl | (rw [nI_cl (by omega)]; assumption) | omega) only [↓reduceIte, reduceCtorEq, not_true_eq_false, not_false_eq_true, q36_0, q36_1, q36_3, q36_5, q36_8, q36_11, q36_12, q36_13, q36_14, q36_17, q36_18, q36_19, q36_20, q36_21, q36_24, q36_25, q36_26, q36_28, q36_30, q36_33, q36_36, q36_37, q36_38, q36_39, q36_42, q36_43, q36_44, q36_45, q36_46, q36_49, q36_50, q36_51, q36_53, q36_55, q36_58, q36_61, q36_62, q36_63, q36_64, q36_67, q36_68, q36_69, q36_72, q36_73, q36_74, q36_75, q36_76, q36_79, q36_82, q36_83, q36_84, q36_85, q36_88, q36_89, q36_90, q36_93, q36_94, q36_95, kl_int, kl_ref, kl_tok, cS_nil, cS_int, cS_ref, cS_long, tl_some, tl_none, List.cons_append, List.nil_append, nI_add, nI_ltb, nI_leb, nI_eqb, nI_cl, zin_nI, g1, zk0_inl]
      | inr w =>
        obtain ⟨v3, i3⟩ := w
        have p3 := pNum_pos p2.2.1 e3
        have r3 := readNumber_t (d := d) (R := R) hS hP2 h18 h99 (by decide) (by decide) (by decide) e3
        generalize hN3 : up2 (nmM N2 i3 v3) (tb j + 4) pl (iI v3) = N3
        have hP3 : PCx N3 b n i3 := by rw [← hN3]; exact (hP2.nm p3.2.1).fr (by rw [up2_c (by omega)]) (by rw [up2_c (by omega)]) (by rw [up2_c (by omega)]) (up2_ne (by omega))
        have f3 : LnF j M N3 := by rw [← hN3]; exact f2.trans (LnF.nm.trans (LnF.up (by omega) (by omega)))
        have s3 : nmM N2 i3 v3 92 6 = iI v3 := nmM_6
        have e73 : exe (d + 2) 36 50 [.ref 92, .ref (tb j), .int (nI pl)] [] N2 R = exe (d + 2) 36 73 [.ref 92, .ref (tb j), .int (nI pl)] [] N3 R := by
          simp (disch := first | assumption | exact nar_b0 | exact nar_b1 | exact nar_b | exact Or.inl rfl | exact Or.inr rfl | exact zin_t (by omega) (by omega) | exact Nat.le_of_ble_eq_true rfl | (rw [nI_cl (by omega)]; assumption) | omega) only [↓reduceIte, reduceCtorEq, not_true_eq_false, not_false_eq_true, q36_0, q36_1, q36_3, q36_5, q36_8, q36_11, q36_12, q36_13, q36_14, q36_17, q36_18, q36_19, q36_20, q36_21, q36_24, q36_25, q36_26, q36_28, q36_30, q36_33, q36_36, q36_37, q36_38, q36_39, q36_42, q36_43, q36_44, q36_45, q36_46, q36_49, q36_50, q36_51, q36_53, q36_55, q36_58, q36_61, q36_62, q36_63, q36_64, q36_67, q36_68, q36_69, q36_72, q36_74, q36_75, q36_76, q36_79, q36_82, q36_83, q36_84, q36_85, q36_88, q36_89, q36_90, q36_93, q36_94, q36_95, kl_int, kl_ref, kl_tok, cS_nil, cS_int, cS_ref, cS_long, tl_some, tl_none, List.cons_append, List.nil_append, nI_add, nI_ltb, nI_leb, nI_eqb, nI_cl, zin_nI, r3, zk0_inl, z1, s3, hN3]
        rw [e73]
        show (∀ q i', (match pNum b n i3 false 0 3 with
          | .inl f => .inl f
          | .inr (z, i4) => .inr ((v1, v2, v3, z), i4) : PR (Int × Int × Int × Int)) = .inr (q, i') → _) ∧ (∀ k p, (match pNum b n i3 false 0 3 with
          | .inl f => .inl f
          | .inr (z, i4) => .inr ((v1, v2, v3, z), i4) : PR (Int × Int × Int × Int)) = .inl (k, p) → _)
        cases e4 : pNum b n i3 false 0 3 with
        | inl f =>
          obtain ⟨k, p⟩ := f
          obtain ⟨M1, g1, g2⟩ := readNumber_f (d := d) (R := R) hS hP3 h00 h33 (by decide) (by decide) (by decide) e4
          refine ⟨fun q i' h => (by cases h), fun k' p' h => ?_⟩
          cases h
          refine ⟨M1, ?_, LnE.after f3 g2.ln⟩
          simp (disch := first | assumption | exact nar_b0 | exact nar_b1 | exact nar_b | exact Or.inl rfl | exact Or.inr rfl | exact zin_t (by omega) (by omega) | exact Nat.le_of_ble_eq_true rfl | (rw [nI_cl (by omega)]; assumption) | omega) only [↓reduceIte, reduceCtorEq, not_true_eq_false, not_false_eq_true, q36_0, q36_1, q36_3, q36_5, q36_8, q36_11, q36_12, q36_13, q36_14, q36_17, q36_18, q36_19, q36_20, q36_21, q36_24, q36_25, q36_26, q36_28, q36_30, q36_33, q36_36, q36_37, q36_38, q36_39, q36_42, q36_43, q36_44, q36_45, q36_46, q36_49, q36_50, q36_51, q36_53, q36_55, q36_58, q36_61, q36_62, q36_63, q36_64, q36_67, q36_68, q36_69, q36_72, q36_73, q36_74, q36_75, q36_76, q36_79, q36_82, q36_83, q36_84, q36_85, q36_88, q36_89, q36_90, q36_93, q36_94, q36_95, kl_int, kl_ref, kl_tok, cS_nil, cS_int, cS_ref, cS_long, tl_some, tl_none, List.cons_append, List.nil_append, nI_add, nI_ltb, nI_leb, nI_eqb, nI_cl, zin_nI, g1, zk0_inl]
        | inr w =>
          obtain ⟨v4, i4⟩ := w
          have r4 := readNumber_t (d := d) (R := R) hS hP3 h00 h33 (by decide) (by decide) (by decide) e4
          have s4 : nmM N3 i4 v4 92 6 = iI v4 := nmM_6
          refine ⟨fun q i' h => ?_, fun k p h => (by cases h)⟩
          cases h
          have hfin : up2 (nmM N3 i4 v4) (tb j + 5) pl (iI v4) = perM M j pl (v1, v2, v3, v4) i4 := by
            unfold perM
            rw [← hN3, nmM_up (by omega), nmM_nm, ← hN2, nmM_up (by omega), nmM_nm, ← hN1, nmM_up (by omega), nmM_nm]
          simp (disch := first | assumption | exact nar_b0 | exact nar_b1 | exact nar_b | exact Or.inl rfl | exact Or.inr rfl | exact zin_t (by omega) (by omega) | exact Nat.le_of_ble_eq_true rfl | (rw [nI_cl (by omega)]; assumption) | omega) only [↓reduceIte, reduceCtorEq, not_true_eq_false, not_false_eq_true, q36_0, q36_1, q36_3, q36_5, q36_8, q36_11, q36_12, q36_13, q36_14, q36_17, q36_18, q36_19, q36_20, q36_21, q36_24, q36_25, q36_26, q36_28, q36_30, q36_33, q36_36, q36_37, q36_38, q36_39, q36_42, q36_43, q36_44, q36_45, q36_46, q36_49, q36_50, q36_51, q36_53, q36_55, q36_58, q36_61, q36_62, q36_63, q36_64, q36_67, q36_68, q36_69, q36_72, q36_73, q36_74, q36_75, q36_76, q36_79, q36_82, q36_83, q36_84, q36_85, q36_88, q36_89, q36_90, q36_93, q36_94, q36_95, kl_int, kl_ref, kl_tok, cS_nil, cS_int, cS_ref, cS_long, tl_some, tl_none, List.cons_append, List.nil_append, nI_add, nI_ltb, nI_leb, nI_eqb, nI_cl, zin_nI, r4, zk0_inl, z1, s4, hfin]
end Ln
