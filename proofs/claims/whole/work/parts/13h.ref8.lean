-- the reference: rule, order, take back, feed
section Mv
variable {d : Nat} {M : ZM} {R : ZH} {G : GS}
theorem m_rule_t {w n : Nat} (h : isRu w n) (hS : Sh R) (hW : WG G) (hM : MS M G) : OutM (cal (d + 7) 161 [.ref 127, .int (nI w), .int (nI n)] M R) M R 0 (gF G (2 + w)) (acG G (ruF (gF G) w n)) := by
  obtain ⟨nN, k127, k128, l128, k129, l129, k130, l130, k131, l131, k132, l132, k133, l133, k134, l134, k135, l135, k136, l136, k137, l137, k138, l138, k139, l139, k140, l140, k141, l141, k142, l142, k143, l143, k144, l144, k145, l145, k146, l146, f127_1, f127_2, f127_3, f127_4, f127_6, f127_7, f127_17, f127_18, f127_19, f127_22, f127_24, f127_25, f127_26, f127_29, f127_30, f127_31, f127_32, f127_33⟩ := modF hS
  have hw := hW.1.nums
  have hM0 : MS (up2 M 127 0 (nI 0)) G := hM.th
  have hf := isFine_t (d := d + 6) (M := up2 M 127 0 (nI 0)) (R := R) (c := nI 1) (k := nI 1) hS up2_at
  obtain ⟨M1, a1, a2, a3, a4, a5⟩ := keeps_ (d := d + 6) hS hW hM0
  rw [up2_at] at a3
  have hw3 : w < 3 := by unfold isRu at h; omega
  have q2 : M1 129 (2 + w) = gF G (2 + w) := by rw [a5, hM0.2.2.1]
  have r3 : up2 M1 129 (2 + w) (nI n) 129 = ruF (gF G) w n := by rw [up2_rwf, a5, hM0.2.2.1]; rfl
  have z1 : ¬ 1 = 0 := by decide
  refine OutM.ok (M' := up2 M1 129 (2 + w) (nI n)) ?_ (a2.row r3 (fun c h => up2_ne h)) (by rw [up2_c (by decide)]; exact a3) (FrM.trans (FrM.trans (FrM.up (by decide) (by decide)) a4) (FrM.up (by decide) (by decide)))
  rw [e161]
  rcases h with ⟨rfl, h1, h2⟩ | ⟨rfl, h1⟩ | ⟨rfl, h1⟩
  · have r1 : decide (1 ≤ (nI n).toInt ∧ (nI n).toInt ≤ 6) = true := decide_eq_true (by rw [nI_toInt (by omega)]; omega)
    simp (disch := first | assumption | exact nar_b0 | exact nar_b1 | exact nar_b | exact Or.inl rfl | exact Or.inr rfl | exact zin_t (by omega) (by omega) | exact Nat.le_of_ble_eq_true rfl | (rw [nI_cl (by omega)]; assumption) | omega) only [↓reduceIte, reduceCtorEq, not_true_eq_false, not_false_eq_true, q161_0, q161_1, q161_2, q161_5, q161_6, q161_9, q161_10, q161_11, q161_12, q161_15, q161_18, q161_21, q161_22, q161_23, q161_26, q161_27, q161_28, q161_29, q161_32, q161_35, q161_38, q161_39, q161_40, q161_43, q161_44, q161_45, q161_46, q161_47, q161_50, q161_53, q161_54, q161_57, q161_58, q161_59, q161_60, q161_61, q161_62, q161_63, q161_66, q161_69, q161_70, q161_71, q161_72, q161_75, q161_76, q161_79, q161_80, q161_81, q161_82, q161_83, q161_85, q161_86, q161_89, q161_90, q161_91, q161_92, q161_93, q161_94, q161_96, kl_int, kl_ref, kl_tok, cS_nil, cS_int, cS_ref, cS_long, tl_some, tl_none, List.cons_append, List.nil_append, nI_add, nI_ltb, nI_leb, nI_eqb, nI_cl, zin_nI, lies_, Int32.toInt_toInt64, c64_1, c64_6, r1, b2i_t, hf, zk0_inl, z1, a1, q2]
  · have r1 : decide (0 ≤ (nI n).toInt ∧ (nI n).toInt ≤ 3) = true := decide_eq_true (by rw [nI_toInt (by omega)]; omega)
    simp (disch := first | assumption | exact nar_b0 | exact nar_b1 | exact nar_b | exact Or.inl rfl | exact Or.inr rfl | exact zin_t (by omega) (by omega) | exact Nat.le_of_ble_eq_true rfl | (rw [nI_cl (by omega)]; assumption) | omega) only [↓reduceIte, reduceCtorEq, not_true_eq_false, not_false_eq_true, q161_0, q161_1, q161_2, q161_5, q161_6, q161_9, q161_10, q161_11, q161_12, q161_15, q161_18, q161_21, q161_22, q161_23, q161_26, q161_27, q161_28, q161_29, q161_32, q161_35, q161_38, q161_39, q161_40, q161_43, q161_44, q161_45, q161_46, q161_47, q161_50, q161_53, q161_54, q161_57, q161_58, q161_59, q161_60, q161_61, q161_62, q161_63, q161_66, q161_69, q161_70, q161_71, q161_72, q161_75, q161_76, q161_79, q161_80, q161_81, q161_82, q161_83, q161_85, q161_86, q161_89, q161_90, q161_91, q161_92, q161_93, q161_94, q161_96, kl_int, kl_ref, kl_tok, cS_nil, cS_int, cS_ref, cS_long, tl_some, tl_none, List.cons_append, List.nil_append, nI_add, nI_ltb, nI_leb, nI_eqb, nI_cl, zin_nI, lies_, Int32.toInt_toInt64, c64_0, c64_3, r1, b2i_t, hf, zk0_inl, z1, a1, q2]
  · have r1 : decide (0 ≤ (nI n).toInt ∧ (nI n).toInt ≤ 1) = true := decide_eq_true (by rw [nI_toInt (by omega)]; omega)
    have z2 : ¬ 2 = 0 := by decide
    have z3 : ¬ 2 = 1 := by decide
    simp (disch := first | assumption | exact nar_b0 | exact nar_b1 | exact nar_b | exact Or.inl rfl | exact Or.inr rfl | exact zin_t (by omega) (by omega) | exact Nat.le_of_ble_eq_true rfl | (rw [nI_cl (by omega)]; assumption) | omega) only [↓reduceIte, reduceCtorEq, not_true_eq_false, not_false_eq_true, q161_0, q161_1, q161_2, q161_5, q161_6, q161_9, q161_10, q161_11, q161_12, q161_15, q161_18, q161_21, q161_22, q161_23, q161_26, q161_27, q161_28, q161_29, q161_32, q161_35, q161_38, q161_39, q161_40, q161_43, q161_44, q161_45, q161_46, q161_47, q161_50, q161_53, q161_54, q161_57, q161_58, q161_59, q161_60, q161_61, q161_62, q161_63, q161_66, q161_69, q161_70, q161_71, q161_72, q161_75, q161_76, q161_79, q161_80, q161_81, q161_82, q161_83, q161_85, q161_86, q161_89, q161_90, q161_91, q161_92, q161_93, q161_94, q161_96, kl_int, kl_ref, kl_tok, cS_nil, cS_int, cS_ref, cS_long, tl_some, tl_none, List.cons_append, List.nil_append, nI_add, nI_ltb, nI_leb, nI_eqb, nI_cl, zin_nI, lies_, Int32.toInt_toInt64, c64_0, c64_1, r1, b2i_t, hf, zk0_inl, z1, z2, z3, a1, q2]
theorem m_rule_f {x y v : Int32} (h : ¬ ∃ w n, x = nI w ∧ y = nI n ∧ isRu w n) (hS : Sh R) (hM : MS M G) : OutM (cal (d + 7) 161 [.ref 127, .int x, .int y] M R) M R 1 v (rfA G) := by
  obtain ⟨nN, k127, k128, l128, k129, l129, k130, l130, k131, l131, k132, l132, k133, l133, k134, l134, k135, l135, k136, l136, k137, l137, k138, l138, k139, l139, k140, l140, k141, l141, k142, l142, k143, l143, k144, l144, k145, l145, k146, l146, f127_1, f127_2, f127_3, f127_4, f127_6, f127_7, f127_17, f127_18, f127_19, f127_22, f127_24, f127_25, f127_26, f127_29, f127_30, f127_31, f127_32, f127_33⟩ := modF hS
  have hf := isFine_f (d := d + 6) (M := up2 M 127 0 (nI 0)) (R := R) (c := 1) (k := 1) hS up2_at (by decide) (by decide)
  have toN : ∀ {a b : Int}, 0 ≤ a → a ≤ y.toInt ∧ y.toInt ≤ b → ∃ n : Nat, y = nI n ∧ a ≤ (n : Int) ∧ (n : Int) ≤ b := by
    intro a b ha hab
    refine ⟨y.toInt.toNat, ?_, by omega, by omega⟩
    rw [nI_iI, Int.toNat_of_nonneg (by omega)]
    exact iI_of y
  refine OutM.rA (M' := up2 M 127 0 (nI 0)) (v' := nI 0) ?_ (by decide) hM.th (FrM.up (by decide) (by decide))
  rw [e161]
  by_cases e0 : x = nI 0
  · subst e0
    have r1 : decide (1 ≤ y.toInt ∧ y.toInt ≤ 6) = false := decide_eq_false (fun q => by
      obtain ⟨n, h1, h2, h3⟩ := toN (by decide) q
      exact h ⟨0, n, rfl, h1, Or.inl ⟨rfl, by omega, by omega⟩⟩)
    simp (disch := first | assumption | exact nar_b0 | exact nar_b1 | exact nar_b | exact Or.inl rfl | exact Or.inr rfl | exact zin_t (by omega) (by omega) | exact Nat.le_of_ble_eq_true rfl | (rw [nI_cl (by omega)]; assumption) | omega) only [↓reduceIte, reduceCtorEq, not_true_eq_false, not_false_eq_true, q161_0, q161_1, q161_2, q161_5, q161_6, q161_9, q161_10, q161_11, q161_12, q161_15, q161_18, q161_21, q161_22, q161_23, q161_26, q161_27, q161_28, q161_29, q161_32, q161_35, q161_38, q161_39, q161_40, q161_43, q161_44, q161_45, q161_46, q161_47, q161_50, q161_53, q161_54, q161_57, q161_58, q161_59, q161_60, q161_61, q161_62, q161_63, q161_66, q161_69, q161_70, q161_71, q161_72, q161_75, q161_76, q161_79, q161_80, q161_81, q161_82, q161_83, q161_85, q161_86, q161_89, q161_90, q161_91, q161_92, q161_93, q161_94, q161_96, kl_int, kl_ref, kl_tok, cS_nil, cS_int, cS_ref, cS_long, tl_some, tl_none, List.cons_append, List.nil_append, nI_add, nI_ltb, nI_leb, nI_eqb, nI_cl, zin_nI, lies_, Int32.toInt_toInt64, c64_1, c64_6, r1, b2i_f, hf, zk0_inl]
  · by_cases e1 : x = nI 1
    · subst e1
      have r1 : decide (0 ≤ y.toInt ∧ y.toInt ≤ 3) = false := decide_eq_false (fun q => by
        obtain ⟨n, h1, h2, h3⟩ := toN (by decide) q
        exact h ⟨1, n, rfl, h1, Or.inr (Or.inl ⟨rfl, by omega⟩)⟩)
      have z1 : ¬ 1 = 0 := by decide
      simp (disch := first | assumption | exact nar_b0 | exact nar_b1 | exact nar_b | exact Or.inl rfl | exact Or.inr rfl | exact zin_t (by omega) (by omega) | exact Nat.le_of_ble_eq_true rfl | (rw [nI_cl (by omega)]; assumption) | omega) only [↓reduceIte, reduceCtorEq, not_true_eq_false, not_false_eq_true, q161_0, q161_1, q161_2, q161_5, q161_6, q161_9, q161_10, q161_11, q161_12, q161_15, q161_18, q161_21, q161_22, q161_23, q161_26, q161_27, q161_28, q161_29, q161_32, q161_35, q161_38, q161_39, q161_40, q161_43, q161_44, q161_45, q161_46, q161_47, q161_50, q161_53, q161_54, q161_57, q161_58, q161_59, q161_60, q161_61, q161_62, q161_63, q161_66, q161_69, q161_70, q161_71, q161_72, q161_75, q161_76, q161_79, q161_80, q161_81, q161_82, q161_83, q161_85, q161_86, q161_89, q161_90, q161_91, q161_92, q161_93, q161_94, q161_96, kl_int, kl_ref, kl_tok, cS_nil, cS_int, cS_ref, cS_long, tl_some, tl_none, List.cons_append, List.nil_append, nI_add, nI_ltb, nI_leb, nI_eqb, nI_cl, zin_nI, z1, lies_, Int32.toInt_toInt64, c64_0, c64_3, r1, b2i_f, hf, zk0_inl]
    · by_cases e2 : x = nI 2
      · subst e2
        have r1 : decide (0 ≤ y.toInt ∧ y.toInt ≤ 1) = false := decide_eq_false (fun q => by
          obtain ⟨n, h1, h2, h3⟩ := toN (by decide) q
          exact h ⟨2, n, rfl, h1, Or.inr (Or.inr ⟨rfl, by omega⟩)⟩)
        have z1 : ¬ 2 = 0 := by decide
        have z2 : ¬ 2 = 1 := by decide
        simp (disch := first | assumption | exact nar_b0 | exact nar_b1 | exact nar_b | exact Or.inl rfl | exact Or.inr rfl | exact zin_t (by omega) (by omega) | exact Nat.le_of_ble_eq_true rfl | (rw [nI_cl (by omega)]; assumption) | omega) only [↓reduceIte, reduceCtorEq, not_true_eq_false, not_false_eq_true, q161_0, q161_1, q161_2, q161_5, q161_6, q161_9, q161_10, q161_11, q161_12, q161_15, q161_18, q161_21, q161_22, q161_23, q161_26, q161_27, q161_28, q161_29, q161_32, q161_35, q161_38, q161_39, q161_40, q161_43, q161_44, q161_45, q161_46, q161_47, q161_50, q161_53, q161_54, q161_57, q161_58, q161_59, q161_60, q161_61, q161_62, q161_63, q161_66, q161_69, q161_70, q161_71, q161_72, q161_75, q161_76, q161_79, q161_80, q161_81, q161_82, q161_83, q161_85, q161_86, q161_89, q161_90, q161_91, q161_92, q161_93, q161_94, q161_96, kl_int, kl_ref, kl_tok, cS_nil, cS_int, cS_ref, cS_long, tl_some, tl_none, List.cons_append, List.nil_append, nI_add, nI_ltb, nI_leb, nI_eqb, nI_cl, zin_nI, z1, z2, lies_, Int32.toInt_toInt64, c64_0, c64_1, r1, b2i_f, hf, zk0_inl]
      · simp (disch := first | assumption | exact nar_b0 | exact nar_b1 | exact nar_b | exact Or.inl rfl | exact Or.inr rfl | exact zin_t (by omega) (by omega) | exact Nat.le_of_ble_eq_true rfl | (rw [nI_cl (by omega)]; assumption) | omega) only [↓reduceIte, reduceCtorEq, not_true_eq_false, not_false_eq_true, q161_0, q161_1, q161_2, q161_5, q161_6, q161_9, q161_10, q161_11, q161_12, q161_15, q161_18, q161_21, q161_22, q161_23, q161_26, q161_27, q161_28, q161_29, q161_32, q161_35, q161_38, q161_39, q161_40, q161_43, q161_44, q161_45, q161_46, q161_47, q161_50, q161_53, q161_54, q161_57, q161_58, q161_59, q161_60, q161_61, q161_62, q161_63, q161_66, q161_69, q161_70, q161_71, q161_72, q161_75, q161_76, q161_79, q161_80, q161_81, q161_82, q161_83, q161_85, q161_86, q161_89, q161_90, q161_91, q161_92, q161_93, q161_94, q161_96, kl_int, kl_ref, kl_tok, cS_nil, cS_int, cS_ref, cS_long, tl_some, tl_none, List.cons_append, List.nil_append, nI_add, nI_ltb, nI_leb, nI_eqb, nI_cl, zin_nI, e0, e1, e2, hf, zk0_inl]
theorem ord_rng {n : Nat} {y : Int32} (hn : n ≤ 8) : (decide (0 ≤ y.toInt ∧ y.toInt ≤ (nI (2 ^ n - 1)).toInt) = true ↔ ∃ b, b < 2 ^ n ∧ y = nI b) := by
  have hp : 2 ^ n ≤ 2 ^ 8 := Nat.pow_le_pow_right (by decide) hn
  have h0 : 0 < 2 ^ n := Nat.two_pow_pos _
  have hc : (nI (2 ^ n - 1)).toInt = ((2 ^ n : Nat) : Int) - 1 := by
    rw [nI_toInt (by omega)]
    omega
  rw [hc]
  constructor
  · intro h
    by_cases q : ∃ b, b < 2 ^ n ∧ y = nI b
    · exact q
    · rw [rng_f (n := 2 ^ n) (by omega) q rfl] at h
      cases h
  · intro h
    exact rng_t (by omega) h rfl
theorem m_order_t {n b : Nat} (h1 : n ≤ 8) (h2 : b < 2 ^ n) (hS : Sh R) (hW : WG G) (hM : MS M G) : OutM (cal (d + 7) 162 [.ref 127, .int (nI n), .int (nI b)] M R) M R 0 (gF G 5) (acG G (orF (gF G) n b)) := by
  obtain ⟨nN, k127, k128, l128, k129, l129, k130, l130, k131, l131, k132, l132, k133, l133, k134, l134, k135, l135, k136, l136, k137, l137, k138, l138, k139, l139, k140, l140, k141, l141, k142, l142, k143, l143, k144, l144, k145, l145, k146, l146, f127_1, f127_2, f127_3, f127_4, f127_6, f127_7, f127_17, f127_18, f127_19, f127_22, f127_24, f127_25, f127_26, f127_29, f127_30, f127_31, f127_32, f127_33⟩ := modF hS
  have hw := hW.1.nums
  have hM0 : MS (up2 M 127 0 (nI 0)) G := hM.th
  have hf := isFine_t (d := d + 6) (M := up2 M 127 0 (nI 0)) (R := R) (c := nI 1) (k := nI 1) hS up2_at
  obtain ⟨M1, a1, a2, a3, a4, a5⟩ := keeps_ (d := d + 6) hS hW hM0
  rw [up2_at] at a3
  have q5 : M1 129 5 = gF G 5 := by rw [a5, hM0.2.2.1]
  have hp : 2 ^ n ≤ 2 ^ 8 := Nat.pow_le_pow_right (by decide) h1
  have hp0 : 1 ≤ 2 ^ n := Nat.two_pow_pos _
  have r1 := rng_t (x := nI n) (n := 9) (c := 8) (by decide) ⟨n, by omega, rfl⟩ (by decide)
  have r2 := (ord_rng (y := nI b) h1).mpr ⟨b, h2, rfl⟩
  have m1 : (if n < 8 then nI n else nI 8) = nI n := by
    by_cases e : n < 8
    · rw [if_pos e]
    · rw [if_neg e, show n = 8 by omega]
  have m2 : (if 0 < n then nI n else nI 0) = nI n := by
    by_cases e : 0 < n
    · rw [if_pos e]
    · rw [if_neg e, show n = 0 by omega]
  have r3 : up2 (up2 M1 129 5 (nI n)) 129 6 (nI b) 129 = orF (gF G) n b := by rw [up2_rwf, up2_rwf, a5, hM0.2.2.1]; rfl
  have fr : ∀ c, c ≠ 129 → up2 (up2 M1 129 5 (nI n)) 129 6 (nI b) c = M1 c := fun c h => by rw [up2_ne h, up2_ne h]
  have z1 : ¬ 1 = 0 := by decide
  refine OutM.ok (M' := up2 (up2 M1 129 5 (nI n)) 129 6 (nI b)) ?_ (a2.row r3 fr) (by rw [fr _ (by decide)]; exact a3) (FrM.trans (FrM.trans (FrM.up (by decide) (by decide)) a4) (fun c h => fr c (by omega)))
  rw [e162]
  simp (disch := first | assumption | exact nar_b0 | exact nar_b1 | exact nar_b | exact Or.inl rfl | exact Or.inr rfl | exact zin_t (by omega) (by omega) | exact Nat.le_of_ble_eq_true rfl | (rw [nI_cl (by omega)]; assumption) | omega) only [↓reduceIte, reduceCtorEq, not_true_eq_false, not_false_eq_true, q162_0, q162_1, q162_2, q162_5, q162_6, q162_7, q162_8, q162_9, q162_12, q162_15, q162_18, q162_19, q162_20, q162_21, q162_22, q162_23, q162_25, q162_26, q162_29, q162_32, q162_33, q162_34, q162_35, q162_36, q162_39, q162_42, q162_43, q162_46, q162_47, q162_48, q162_49, q162_52, q162_55, q162_56, q162_57, q162_58, q162_61, q162_62, q162_65, q162_66, q162_67, q162_68, q162_69, q162_72, q162_73, q162_74, q162_75, q162_76, q162_79, q162_81, q162_82, q162_83, q162_84, kl_int, kl_ref, kl_tok, cS_nil, cS_int, cS_ref, cS_long, tl_some, tl_none, List.cons_append, List.nil_append, nI_add, nI_ltb, nI_leb, nI_eqb, nI_cl, zin_nI, lies_, Int32.toInt_toInt64, c64_0, c64_8, r1, b2i_t, m1, m2, nI_shl, Nat.one_mul, nI_sub1, r2, hf, zk0_inl, z1, a1, q5]
theorem m_order_f {x y v : Int32} (h : ¬ isOr x y) (hS : Sh R) (hM : MS M G) : OutM (cal (d + 7) 162 [.ref 127, .int x, .int y] M R) M R 1 v (rfA G) := by
  obtain ⟨nN, k127, k128, l128, k129, l129, k130, l130, k131, l131, k132, l132, k133, l133, k134, l134, k135, l135, k136, l136, k137, l137, k138, l138, k139, l139, k140, l140, k141, l141, k142, l142, k143, l143, k144, l144, k145, l145, k146, l146, f127_1, f127_2, f127_3, f127_4, f127_6, f127_7, f127_17, f127_18, f127_19, f127_22, f127_24, f127_25, f127_26, f127_29, f127_30, f127_31, f127_32, f127_33⟩ := modF hS
  have hf := isFine_f (d := d + 6) (M := up2 M 127 0 (nI 0)) (R := R) (c := 1) (k := 1) hS up2_at (by decide) (by decide)
  have z1 : ¬ 1 = 0 := by decide
  refine OutM.rA (M' := up2 M 127 0 (nI 0)) (v' := nI 0) ?_ (by decide) hM.th (FrM.up (by decide) (by decide))
  rw [e162]
  by_cases hx : ∃ k, k < 9 ∧ x = nI k
  · have r1 := rng_t (x := x) (n := 9) (c := 8) (by decide) hx (by decide)
    obtain ⟨n, hn, rfl⟩ := hx
    have hp : 2 ^ n ≤ 2 ^ 8 := Nat.pow_le_pow_right (by decide) (by omega)
    have hp0 : 1 ≤ 2 ^ n := Nat.two_pow_pos _
    have r2 : decide (0 ≤ y.toInt ∧ y.toInt ≤ (nI (2 ^ n - 1)).toInt) = false := by
      cases q : decide (0 ≤ y.toInt ∧ y.toInt ≤ (nI (2 ^ n - 1)).toInt)
      · rfl
      · obtain ⟨b, h1, h2⟩ := (ord_rng (by omega)).mp q
        exact absurd ⟨n, b, rfl, h2, by omega, h1⟩ h
    have m1 : (if n < 8 then nI n else nI 8) = nI n := by
      by_cases e : n < 8
      · rw [if_pos e]
      · rw [if_neg e, show n = 8 by omega]
    have m2 : (if 0 < n then nI n else nI 0) = nI n := by
      by_cases e : 0 < n
      · rw [if_pos e]
      · rw [if_neg e, show n = 0 by omega]
    simp (disch := first | assumption | exact nar_b0 | exact nar_b1 | exact nar_b | exact Or.inl rfl | exact Or.inr rfl | exact zin_t (by omega) (by omega) | exact Nat.le_of_ble_eq_true rfl | (rw [nI_cl (by omega)]; assumption) | omega) only [↓reduceIte, reduceCtorEq, not_true_eq_false, not_false_eq_true, q162_0, q162_1, q162_2, q162_5, q162_6, q162_7, q162_8, q162_9, q162_12, q162_15, q162_18, q162_19, q162_20, q162_21, q162_22, q162_23, q162_25, q162_26, q162_29, q162_32, q162_33, q162_34, q162_35, q162_36, q162_39, q162_42, q162_43, q162_46, q162_47, q162_48, q162_49, q162_52, q162_55, q162_56, q162_57, q162_58, q162_61, q162_62, q162_65, q162_66, q162_67, q162_68, q162_69, q162_72, q162_73, q162_74, q162_75, q162_76, q162_79, q162_81, q162_82, q162_83, q162_84, kl_int, kl_ref, kl_tok, cS_nil, cS_int, cS_ref, cS_long, tl_some, tl_none, List.cons_append, List.nil_append, nI_add, nI_ltb, nI_leb, nI_eqb, nI_cl, zin_nI, lies_, Int32.toInt_toInt64, c64_0, c64_8, r1, b2i_t, b2i_f, z1, m1, m2, nI_shl, Nat.one_mul, nI_sub1, r2, hf, zk0_inl]
  · have r1 := rng_f (x := x) (n := 9) (c := 8) (by decide) hx (by decide)
    simp (disch := first | assumption | exact nar_b0 | exact nar_b1 | exact nar_b | exact Or.inl rfl | exact Or.inr rfl | exact zin_t (by omega) (by omega) | exact Nat.le_of_ble_eq_true rfl | (rw [nI_cl (by omega)]; assumption) | omega) only [↓reduceIte, reduceCtorEq, not_true_eq_false, not_false_eq_true, q162_0, q162_1, q162_2, q162_5, q162_6, q162_7, q162_8, q162_9, q162_12, q162_15, q162_18, q162_19, q162_20, q162_21, q162_22, q162_23, q162_25, q162_26, q162_29, q162_32, q162_33, q162_34, q162_35, q162_36, q162_39, q162_42, q162_43, q162_46, q162_47, q162_48, q162_49, q162_52, q162_55, q162_56, q162_57, q162_58, q162_61, q162_62, q162_65, q162_66, q162_67, q162_68, q162_69, q162_72, q162_73, q162_74, q162_75, q162_76, q162_79, q162_81, q162_82, q162_83, q162_84, kl_int, kl_ref, kl_tok, cS_nil, cS_int, cS_ref, cS_long, tl_some, tl_none, List.cons_append, List.nil_append, nI_add, nI_ltb, nI_leb, nI_eqb, nI_cl, zin_nI, lies_, Int32.toInt_toInt64, c64_0, c64_8, r1, b2i_f, hf, zk0_inl]
theorem undoR_L {a : Nat} {g f : Nat → Int32} (ha : a < 8) (hS : Sh R) : ∀ (m k : Nat) (M : ZM), k + m = 106 → M 127 5 = nI a → (∀ j, j < 106 → M 131 (106 * a + j) = g j) → (∀ j, M 129 j = if j < k then g j else f j) → ∃ M', exe d 112 26 [.ref 127, .int (nI k)] [] M R = some (.inl (some (.int (nI a))), M', R) ∧ M' 129 = unF g f ∧ ∀ c, c ≠ 129 → M' c = M c := by
  obtain ⟨nN, k127, k128, l128, k129, l129, k130, l130, k131, l131, k132, l132, k133, l133, k134, l134, k135, l135, k136, l136, k137, l137, k138, l138, k139, l139, k140, l140, k141, l141, k142, l142, k143, l143, k144, l144, k145, l145, k146, l146, f127_1, f127_2, f127_3, f127_4, f127_6, f127_7, f127_17, f127_18, f127_19, f127_22, f127_24, f127_25, f127_26, f127_29, f127_30, f127_31, f127_32, f127_33⟩ := modF hS
  intro m
  induction m with
  | zero =>
    intro k M hk h5 h1 h2
    have e : k = 106 := by omega
    subst e
    refine ⟨M, ?_, funext h2, fun _ _ => rfl⟩
    have z : 106 ≤ 106 := Nat.le_refl _
    rw [q112_26]
    simp (disch := first | assumption | exact nar_b0 | exact nar_b1 | exact nar_b | exact Or.inl rfl | exact Or.inr rfl | exact zin_t (by omega) (by omega) | exact Nat.le_of_ble_eq_true rfl | (rw [nI_cl (by omega)]; assumption) | omega) only [↓reduceIte, reduceCtorEq, not_true_eq_false, not_false_eq_true, q112_0, q112_1, q112_2, q112_5, q112_6, q112_9, q112_12, q112_13, q112_14, q112_15i, q112_15a, q112_16, q112_19, q112_20, q112_21, q112_24, q112_25, q112_27, q112_29, q112_32, q112_33, q112_36, q112_37, q112_38, q112_41, q112_43, q112_44, q112_47, q112_48, q112_49, q112_50, q112_51, q112_52, q112_55, q112_58, q112_59, q112_62, kl_int, kl_ref, kl_tok, cS_nil, cS_int, cS_ref, cS_long, tl_some, tl_none, List.cons_append, List.nil_append, nI_add, nI_ltb, nI_leb, nI_eqb, nI_cl, zin_nI, z, h5]
  | succ m ih =>
    intro k M hk h5 h1 h2
    have z : ¬ 106 ≤ k := by omega
    have q := h1 k (by omega)
    obtain ⟨M', g1, g2, g3⟩ := ih (k + 1) (up2 M 129 k (g k)) (by omega) (by rw [up2_c (by decide)]; exact h5) (fun j hj => by rw [up2_c (by decide)]; exact h1 j hj) (fun j => by
      by_cases e : j = k
      · subst e; rw [up2_at, if_pos (by omega)]
      · rw [up2_s e, h2 j]
        by_cases c : j < k
        · rw [if_pos c, if_pos (by omega)]
        · rw [if_neg c, if_neg (by omega)])
    refine ⟨M', ?_, g2, fun c h => by rw [g3 c h, up2_ne h]⟩
    rw [← g1]
    rw [q112_26]
    simp (disch := first | assumption | exact nar_b0 | exact nar_b1 | exact nar_b | exact Or.inl rfl | exact Or.inr rfl | exact zin_t (by omega) (by omega) | exact Nat.le_of_ble_eq_true rfl | (rw [nI_cl (by omega)]; assumption) | omega) only [↓reduceIte, reduceCtorEq, not_true_eq_false, not_false_eq_true, q112_0, q112_1, q112_2, q112_5, q112_6, q112_9, q112_12, q112_13, q112_14, q112_15i, q112_15a, q112_16, q112_19, q112_20, q112_21, q112_24, q112_25, q112_27, q112_29, q112_32, q112_33, q112_36, q112_37, q112_38, q112_41, q112_43, q112_44, q112_47, q112_48, q112_49, q112_50, q112_51, q112_52, q112_55, q112_58, q112_59, q112_62, kl_int, kl_ref, kl_tok, cS_nil, cS_int, cS_ref, cS_long, tl_some, tl_none, List.cons_append, List.nil_append, nI_add, nI_ltb, nI_leb, nI_eqb, nI_cl, zin_nI, z, h5, nI_mul, q]
theorem m_undo_n (h0 : (gK G).length = 0) (hS : Sh R) (hM : MS M G) : OutM (cal (d + 7) 112 [.ref 127] M R) M R 0 (-1) G := by
  obtain ⟨nN, k127, k128, l128, k129, l129, k130, l130, k131, l131, k132, l132, k133, l133, k134, l134, k135, l135, k136, l136, k137, l137, k138, l138, k139, l139, k140, l140, k141, l141, k142, l142, k143, l143, k144, l144, k145, l145, k146, l146, f127_1, f127_2, f127_3, f127_4, f127_6, f127_7, f127_17, f127_18, f127_19, f127_22, f127_24, f127_25, f127_26, f127_29, f127_30, f127_31, f127_32, f127_33⟩ := modF hS
  have hM0 : MS (up2 M 127 0 (nI 0)) G := hM.th
  have h5 := hM0.1.2.1
  rw [h0] at h5
  refine OutM.ok (M' := up2 M 127 0 (nI 0)) ?_ hM0 up2_at (FrM.up (by decide) (by decide))
  rw [e112]
  simp (disch := first | assumption | exact nar_b0 | exact nar_b1 | exact nar_b | exact Or.inl rfl | exact Or.inr rfl | exact zin_t (by omega) (by omega) | exact Nat.le_of_ble_eq_true rfl | (rw [nI_cl (by omega)]; assumption) | omega) only [↓reduceIte, reduceCtorEq, not_true_eq_false, not_false_eq_true, q112_0, q112_1, q112_2, q112_5, q112_6, q112_9, q112_12, q112_13, q112_14, q112_15i, q112_15a, q112_16, q112_19, q112_20, q112_21, q112_24, q112_25, q112_27, q112_29, q112_32, q112_33, q112_36, q112_37, q112_38, q112_41, q112_43, q112_44, q112_47, q112_48, q112_49, q112_50, q112_51, q112_52, q112_55, q112_58, q112_59, q112_62, kl_int, kl_ref, kl_tok, cS_nil, cS_int, cS_ref, cS_long, tl_some, tl_none, List.cons_append, List.nil_append, nI_add, nI_ltb, nI_leb, nI_eqb, nI_cl, zin_nI, h5]
theorem m_undo_t (h0 : (gK G).length ≠ 0) (hS : Sh R) (hW : WG G) (hM : MS M G) : OutM (cal (d + 7) 112 [.ref 127] M R) M R 0 (nI ((gK G).length - 1)) (unG G) := by
  obtain ⟨nN, k127, k128, l128, k129, l129, k130, l130, k131, l131, k132, l132, k133, l133, k134, l134, k135, l135, k136, l136, k137, l137, k138, l138, k139, l139, k140, l140, k141, l141, k142, l142, k143, l143, k144, l144, k145, l145, k146, l146, f127_1, f127_2, f127_3, f127_4, f127_6, f127_7, f127_17, f127_18, f127_19, f127_22, f127_24, f127_25, f127_26, f127_29, f127_30, f127_31, f127_32, f127_33⟩ := modF hS
  have hlen := hW.2.2.1
  have hM0 : MS (up2 M 127 0 (nI 0)) G := hM.th
  have h5 := hM0.1.2.1
  generalize hM1 : up2 (up2 M 127 0 (nI 0)) 127 5 (nI ((gK G).length - 1)) = M1
  have f1 : ∀ c, c ≠ 127 → M1 c = up2 M 127 0 (nI 0) c := fun c h => by rw [← hM1, up2_ne h]
  have hl := unG_last h0
  obtain ⟨⟨a1, a2, a3, a4, a5, a6⟩, b, c, d1⟩ := hM0
  obtain ⟨M', g1, g2, g3⟩ := undoR_L (d := d + 7) (a := (gK G).length - 1) (g := (gK G).getLastD (gF G)) (f := gF G) (by omega) hS 106 0 M1 (by omega) (by rw [← hM1, up2_at]) (fun j hj => by rw [f1 _ (by decide), hl]; exact d1 _ (by omega) j hj) (fun j => by rw [if_neg (by omega), f1 _ (by decide), c])
  have z0 : ¬ (gK G).length = 0 := h0
  have h1 : 1 ≤ (gK G).length := by omega
  have fr : ∀ c, c ≠ 129 → c ≠ 127 → M' c = up2 M 127 0 (nI 0) c := fun c h h' => by rw [g3 c h, f1 c h']
  have frs : ∀ q, q ≠ 5 → M' 127 q = up2 M 127 0 (nI 0) 127 q := fun q h => by rw [g3 _ (by decide), ← hM1, up2_s h]
  refine OutM.ok (M' := M') ?_ ⟨⟨?_, ?_, ?_, ?_, ?_, ?_⟩, ?_, g2, ?_⟩ (by rw [frs _ (by decide), up2_at]) (FrM.trans (FrM.up (by decide) (by decide)) (fun c h => fr c (by omega) (by omega)))
  · rw [e112]
    simp (disch := first | assumption | exact nar_b0 | exact nar_b1 | exact nar_b | exact Or.inl rfl | exact Or.inr rfl | exact zin_t (by omega) (by omega) | exact Nat.le_of_ble_eq_true rfl | (rw [nI_cl (by omega)]; assumption) | omega) only [↓reduceIte, reduceCtorEq, not_true_eq_false, not_false_eq_true, q112_0, q112_1, q112_2, q112_5, q112_6, q112_9, q112_12, q112_13, q112_14, q112_15i, q112_15a, q112_16, q112_19, q112_20, q112_21, q112_24, q112_25, q112_27, q112_29, q112_32, q112_33, q112_36, q112_37, q112_38, q112_41, q112_43, q112_44, q112_47, q112_48, q112_49, q112_50, q112_51, q112_52, q112_55, q112_58, q112_59, q112_62, kl_int, kl_ref, kl_tok, cS_nil, cS_int, cS_ref, cS_long, tl_some, tl_none, List.cons_append, List.nil_append, nI_add, nI_ltb, nI_leb, nI_eqb, nI_cl, zin_nI, h5, z0, nI_sub1, hM1]
    exact g1
  · rw [frs _ (by decide)]; exact a1
  · rw [g3 _ (by decide), ← hM1, up2_at]
    show _ = nI (gK G).dropLast.length
    rw [List.length_dropLast]
  · rw [frs _ (by decide)]; exact a3
  · rw [fr _ (by decide) (by decide)]; exact a4
  · rw [fr _ (by decide) (by decide)]; exact a5
  · rw [fr _ (by decide) (by decide)]; exact a6
  · intro k hk; rw [fr _ (by decide) (by decide)]; exact b k hk
  · intro j hj k hk
    have hj2 : j < (gK G).dropLast.length := hj
    rw [List.length_dropLast] at hj2
    have e2 : (gK (unG G))[j] = (gK G)[j]'(by omega) := List.getElem_dropLast _
    rw [e2, fr _ (by decide) (by decide)]
    exact d1 j (by omega) k hk
theorem puts_ {t : Nat} {v : Int32} (hS : Sh R) (h1 : M 127 8 = nI t) (ht : t + 4 ≤ 500) : cal d 114 [.ref 127, .int v] M R = some (.inl none, pnM M 132 127 8 t v, R) := by
  obtain ⟨nN, k127, k128, l128, k129, l129, k130, l130, k131, l131, k132, l132, k133, l133, k134, l134, k135, l135, k136, l136, k137, l137, k138, l138, k139, l139, k140, l140, k141, l141, k142, l142, k143, l143, k144, l144, k145, l145, k146, l146, f127_1, f127_2, f127_3, f127_4, f127_6, f127_7, f127_17, f127_18, f127_19, f127_22, f127_24, f127_25, f127_26, f127_29, f127_30, f127_31, f127_32, f127_33⟩ := modF hS
  have st : ∀ (M : ZM) (t s : Nat), M 127 8 = nI t → t < 500 → s ≤ 24 → exe d 114 3 [.ref 127, .int v, .int (nI s)] [] M R = exe d 114 3 [.ref 127, .int v, .int (nI s - nI 8)] [] (pnS M 132 127 8 t v s) R := by
    intro M t s h1 ht hs
    have z1 : ¬ s < 0 := by omega
    have z3 : up2 M 132 t (zi2b (zshr v (nI s))) 127 8 = nI t := by rw [up2_c (by decide)]; exact h1
    rw [q114_3]
    simp (disch := first | assumption | exact nar_b0 | exact nar_b1 | exact nar_b | exact Or.inl rfl | exact Or.inr rfl | exact zin_t (by omega) (by omega) | exact Nat.le_of_ble_eq_true rfl | (rw [nI_cl (by omega)]; assumption) | omega) only [↓reduceIte, reduceCtorEq, not_true_eq_false, not_false_eq_true, q114_0, q114_2, q114_4, q114_7, q114_8, q114_11, q114_12, q114_15, q114_16, q114_17, q114_18, q114_19b, q114_19z, q114_20, q114_21i, q114_21a, q114_22, q114_25, q114_26, q114_27, q114_30, q114_33, q114_36, kl_int, kl_ref, kl_tok, cS_nil, cS_int, cS_ref, cS_long, tl_some, tl_none, List.cons_append, List.nil_append, nI_add, nI_ltb, nI_leb, nI_eqb, nI_cl, zin_nI, z1, h1, zi2b_i, z3]
    rfl
  have en : ∀ M : ZM, exe d 114 3 [.ref 127, .int v, .int (nI 0 - nI 8)] [] M R = some (.inl none, M, R) := by
    intro M
    have z1 := nI_neg8
    rw [q114_3]
    simp (disch := first | assumption | exact nar_b0 | exact nar_b1 | exact nar_b | exact Or.inl rfl | exact Or.inr rfl | exact zin_t (by omega) (by omega) | exact Nat.le_of_ble_eq_true rfl | (rw [nI_cl (by omega)]; assumption) | omega) only [↓reduceIte, reduceCtorEq, not_true_eq_false, not_false_eq_true, q114_0, q114_2, q114_4, q114_7, q114_8, q114_11, q114_12, q114_15, q114_16, q114_17, q114_18, q114_19b, q114_19z, q114_20, q114_21i, q114_21a, q114_22, q114_25, q114_26, q114_27, q114_30, q114_33, q114_36, kl_int, kl_ref, kl_tok, cS_nil, cS_int, cS_ref, cS_long, tl_some, tl_none, List.cons_append, List.nil_append, nI_add, nI_ltb, nI_leb, nI_eqb, nI_cl, zin_nI, z1]
  have s1 : nI 24 - nI 8 = nI 16 := by decide +kernel
  have s2 : nI 16 - nI 8 = nI 8 := by decide +kernel
  have s3 : nI 8 - nI 8 = nI 0 := by decide +kernel
  rw [e114]
  simp (disch := first | assumption | exact nar_b0 | exact nar_b1 | exact nar_b | exact Or.inl rfl | exact Or.inr rfl | exact zin_t (by omega) (by omega) | exact Nat.le_of_ble_eq_true rfl | (rw [nI_cl (by omega)]; assumption) | omega) only [↓reduceIte, reduceCtorEq, not_true_eq_false, not_false_eq_true, q114_0, q114_2, q114_4, q114_7, q114_8, q114_11, q114_12, q114_15, q114_16, q114_17, q114_18, q114_19b, q114_19z, q114_20, q114_21i, q114_21a, q114_22, q114_25, q114_26, q114_27, q114_30, q114_33, q114_36, kl_int, kl_ref, kl_tok, cS_nil, cS_int, cS_ref, cS_long, tl_some, tl_none, List.cons_append, List.nil_append, nI_add, nI_ltb, nI_leb, nI_eqb, nI_cl, zin_nI]
  rw [st M t 24 h1 (by omega) (by omega), s1, st _ (t + 1) 16 pnS_q (by omega) (by omega), s2, st _ (t + 2) 8 pnS_q (by omega) (by omega), s3, st _ (t + 3) 0 pnS_q (by omega) (by omega), en]
  rfl
theorem m_feed_t {v1 v2 v3 v4 v5 : Int32} (ht : gT G ≤ 480) (hS : Sh R) (hM : MS M G) : OutM (cal (d + 7) 113 [.ref 127, .int v1, .int v2, .int v3, .int v4, .int v5] M R) M R 0 (nI (gT G + 20)) (fdG G v1 v2 v3 v4 v5) := by
  obtain ⟨nN, k127, k128, l128, k129, l129, k130, l130, k131, l131, k132, l132, k133, l133, k134, l134, k135, l135, k136, l136, k137, l137, k138, l138, k139, l139, k140, l140, k141, l141, k142, l142, k143, l143, k144, l144, k145, l145, k146, l146, f127_1, f127_2, f127_3, f127_4, f127_6, f127_7, f127_17, f127_18, f127_19, f127_22, f127_24, f127_25, f127_26, f127_29, f127_30, f127_31, f127_32, f127_33⟩ := modF hS
  have hM0 : MS (up2 M 127 0 (nI 0)) G := hM.th
  generalize hMz : up2 M 127 0 (nI 0) = Mz at hM0
  have h1 := hM0.1.1
  have c1 := puts_ (d := d + 6) (M := Mz) (R := R) (v := v1) hS h1 (by omega)
  have c2 := puts_ (d := d + 6) (M := pnM Mz 132 127 8 (gT G) v1) (R := R) (t := gT G + 4) (v := v2) hS pnM_q (by omega)
  have c3 := puts_ (d := d + 6) (M := pnM (pnM Mz 132 127 8 (gT G) v1) 132 127 8 (gT G + 4) v2) (R := R) (t := gT G + 8) (v := v3) hS pnM_q (by omega)
  have c4 := puts_ (d := d + 6) (M := pnM (pnM (pnM Mz 132 127 8 (gT G) v1) 132 127 8 (gT G + 4) v2) 132 127 8 (gT G + 8) v3) (R := R) (t := gT G + 12) (v := v4) hS pnM_q (by omega)
  have c5 := puts_ (d := d + 6) (M := pnM (pnM (pnM (pnM Mz 132 127 8 (gT G) v1) 132 127 8 (gT G + 4) v2) 132 127 8 (gT G + 8) v3) 132 127 8 (gT G + 12) v4) (R := R) (t := gT G + 16) (v := v5) hS pnM_q (by omega)
  have hq : fdM Mz 132 127 8 (gT G) v1 v2 v3 v4 v5 127 8 = nI (gT G + 20) := fdM_q
  have ho : ∀ q, q ≠ 8 → fdM Mz 132 127 8 (gT G) v1 v2 v3 v4 v5 127 q = Mz 127 q := fun q h => fdM_o (by decide) h
  have hc : ∀ c, c ≠ 132 → c ≠ 127 → fdM Mz 132 127 8 (gT G) v1 v2 v3 v4 v5 c = Mz c := fun c h1 h2 => fdM_c h1 h2
  have z1 : gT G + 20 ≤ 500 := by omega
  obtain ⟨⟨a1, a2, a3, a4, a5, a6⟩, b, c, d1⟩ := hM0
  refine OutM.ok (M' := fdM Mz 132 127 8 (gT G) v1 v2 v3 v4 v5) ?_ ⟨⟨hq, ?_, ?_, ?_, ?_, ?_⟩, ?_, ?_, ?_⟩ (by rw [ho _ (by decide), ← hMz, up2_at]) (fun c h => by rw [hc c (by omega) (by omega), ← hMz, up2_ne (by omega)])
  · have hq' : pnM (pnM (pnM (pnM (pnM Mz 132 127 8 (gT G) v1) 132 127 8 (gT G + 4) v2) 132 127 8 (gT G + 8) v3) 132 127 8 (gT G + 12) v4) 132 127 8 (gT G + 16) v5 127 8 = nI (gT G + 20) := pnM_q
    rw [e113]
    simp (disch := first | assumption | exact nar_b0 | exact nar_b1 | exact nar_b | exact Or.inl rfl | exact Or.inr rfl | exact zin_t (by omega) (by omega) | exact Nat.le_of_ble_eq_true rfl | (rw [nI_cl (by omega)]; assumption) | omega) only [↓reduceIte, reduceCtorEq, not_true_eq_false, not_false_eq_true, q113_0, q113_1, q113_2, q113_5, q113_6, q113_9, q113_11, q113_12, q113_15, q113_18, q113_19, q113_20, q113_21, q113_22, q113_25, q113_26, q113_27, q113_30, q113_31, q113_32, q113_35, q113_36, q113_38, q113_41, q113_42, q113_44, q113_47, q113_48, q113_51, kl_int, kl_ref, kl_tok, cS_nil, cS_int, cS_ref, cS_long, tl_some, tl_none, List.cons_append, List.nil_append, nI_add, nI_ltb, nI_leb, nI_eqb, nI_cl, zin_nI, hMz, h1, z1, c1, c2, c3, c4, c5, zk0_inl, hq']
    rfl
  · rw [ho _ (by decide)]; exact a2
  · rw [ho _ (by decide)]; exact a3
  · rw [hc _ (by decide) (by decide)]; exact a4
  · rw [hc _ (by decide) (by decide)]; exact a5
  · rw [hc _ (by decide) (by decide)]; exact a6
  · intro k hk
    rw [fdM_a (by decide)]
    exact fdB_cg b k hk
  · rw [hc _ (by decide) (by decide)]; exact c
  · intro j hj k hk; rw [hc _ (by decide) (by decide)]; exact d1 j hj k hk
theorem m_feed_f {v1 v2 v3 v4 v5 : Int32} (ht : 480 < gT G) (hS : Sh R) (hW : WG G) (hM : MS M G) : OutM (cal (d + 7) 113 [.ref 127, .int v1, .int v2, .int v3, .int v4, .int v5] M R) M R 0 (-1) G := by
  obtain ⟨nN, k127, k128, l128, k129, l129, k130, l130, k131, l131, k132, l132, k133, l133, k134, l134, k135, l135, k136, l136, k137, l137, k138, l138, k139, l139, k140, l140, k141, l141, k142, l142, k143, l143, k144, l144, k145, l145, k146, l146, f127_1, f127_2, f127_3, f127_4, f127_6, f127_7, f127_17, f127_18, f127_19, f127_22, f127_24, f127_25, f127_26, f127_29, f127_30, f127_31, f127_32, f127_33⟩ := modF hS
  have hM0 : MS (up2 M 127 0 (nI 0)) G := hM.th
  have h1 := hM0.1.1
  have h500 := hW.2.2.2.1
  have z1 : ¬ gT G + 20 ≤ 500 := by omega
  refine OutM.ok (M' := up2 M 127 0 (nI 0)) ?_ hM0 up2_at (FrM.up (by decide) (by decide))
  rw [e113]
  simp (disch := first | assumption | exact nar_b0 | exact nar_b1 | exact nar_b | exact Or.inl rfl | exact Or.inr rfl | exact zin_t (by omega) (by omega) | exact Nat.le_of_ble_eq_true rfl | (rw [nI_cl (by omega)]; assumption) | omega) only [↓reduceIte, reduceCtorEq, not_true_eq_false, not_false_eq_true, q113_0, q113_1, q113_2, q113_5, q113_6, q113_9, q113_11, q113_12, q113_15, q113_18, q113_19, q113_20, q113_21, q113_22, q113_25, q113_26, q113_27, q113_30, q113_31, q113_32, q113_35, q113_36, q113_38, q113_41, q113_42, q113_44, q113_47, q113_48, q113_51, kl_int, kl_ref, kl_tok, cS_nil, cS_int, cS_ref, cS_long, tl_some, tl_none, List.cons_append, List.nil_append, nI_add, nI_ltb, nI_leb, nI_eqb, nI_cl, zin_nI, h1, z1]
end Mv
