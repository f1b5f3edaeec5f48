-- the class: what a condition comes to
theorem xor1 {x v : Nat} (hv : v < 2) : (2 * x + v) ^^^ 1 = 2 * x + (1 - v) := by
  have h1 : ((2 * x + v) ^^^ 1) / 2 = x := by
    rw [Nat.xor_div_two, show (2 * x + v) / 2 = x by omega]
    simp
  have h2 : ((2 * x + v) ^^^ 1) % 2 = 1 - v := by
    have := Nat.xor_mod_two_pow (a := 2 * x + v) (b := 1) (n := 1)
    rw [show (2 : Nat) ^ 1 = 2 from rfl, show (2 * x + v) % 2 = v by omega] at this
    rw [this]
    rcases (show v = 0 ∨ v = 1 by omega) with rfl | rfl <;> decide
  omega
theorem or1 {x v w : Nat} (hv : v < 2) (hw : w < 2) : (2 * x + v) ||| w = 2 * x + (v ||| w) := by
  have h1 : ((2 * x + v) ||| w) / 2 = x := by
    rw [Nat.or_div_two, show (2 * x + v) / 2 = x by omega, show w / 2 = 0 by omega]
    simp
  have h2 : ((2 * x + v) ||| w) % 2 = v ||| w := by
    have := Nat.or_mod_two_pow (a := 2 * x + v) (b := w) (n := 1)
    rw [show (2 : Nat) ^ 1 = 2 from rfl, show (2 * x + v) % 2 = v by omega, show w % 2 = w by omega] at this
    exact this
  have h3 : v ||| w < 2 := by
    rcases (show v = 0 ∨ v = 1 by omega) with rfl | rfl <;> rcases (show w = 0 ∨ w = 1 by omega) with rfl | rfl <;> decide
  omega
theorem and_m2 {y : Nat} (hy : y < 2147483648) : nI y &&& (nI 0 ||| -2) = nI (2 * (y / 2)) := by
  rw [show (nI 0 ||| (-2 : Int32)) = nI 4294967294 by decide +kernel, nI_and]
  congr 1
  have h1 : (y &&& 4294967294) / 2 = y / 2 := by
    rw [Nat.and_div_two, show (4294967294 : Nat) / 2 = 2 ^ 31 - 1 by decide, Nat.and_two_pow_sub_one_eq_mod]
    exact Nat.mod_eq_of_lt (by omega)
  have h2 : (y &&& 4294967294) % 2 = 0 := by
    have := Nat.and_mod_two_pow (a := y) (b := 4294967294) (n := 1)
    rw [show (2 : Nat) ^ 1 = 2 from rfl, show (4294967294 : Nat) % 2 = 0 by decide, Nat.and_zero] at this
    exact this
  omega
theorem and_m1 {y : Nat} (hy : y < 2147483648) : nI y &&& (nI 1 ||| -2) = nI y := by
  rw [show (nI 1 ||| (-2 : Int32)) = nI 4294967295 by decide +kernel, nI_and, show (4294967295 : Nat) = 2 ^ 32 - 1 by decide, Nat.and_two_pow_sub_one_eq_mod, Nat.mod_eq_of_lt (by omega)]
theorem and_1 {y : Nat} : nI y &&& nI 1 = nI (y % 2) := by rw [nI_and, Nat.and_one_is_mod]
theorem q9_32x {d : Nat} {lv st : List Value} {M : ZM} {R : ZH} : exe d 9 32 (lv) (.int (nI 2) :: st) M R = exe d 9 86 (lv) (st) (M) (R) := r_lsw (off := 54) (show decode (zcod 9) 32 = .ok (.lookupswitch 54 #[(0, 28), (1, 41)], 28) by decide +kernel) (by decide +kernel) (by decide +kernel) (by decide)
section Le
variable {d j k a : Nat} {M : ZM} {R : ZH} {f : Nat → Int32}
def HPr (M : ZM) (j : Nat) (f : Nat → Int32) (k : Nat) : Prop := M (tb j + 2) k = f (8 + 4 * k) ∧ M (tb j + 3) k = f (9 + 4 * k) ∧ M (tb j + 4) k = f (10 + 4 * k) ∧ M (tb j + 5) k = f (11 + 4 * k)
theorem numberOf_ {x : Int} (hS : Sh R) (hj : j < 10) (hk : k < 14) (hp : HPr M j f k) (hx : -99 ≤ x ∧ x ≤ 104) : cal d 10 [.int (iI x), .ref (tb j), .int (nI k)] M R = some (.inl (some (.int (pvl f k x))), M, R) := by
  obtain ⟨nN_j, tlt_j, kt0_j, kt1_j, lt1_j, kt2_j, lt2_j, kt3_j, lt3_j, kt4_j, lt4_j, kt5_j, lt5_j, kt6_j, lt6_j, kt7_j, lt7_j, kt8_j, lt8_j, ft0_0_j, ft1_0_j, ft1_1_j, ft0_1_j, ft0_2_j, ft0_3_j, ft0_4_j, ft0_5_j⟩ := tabF hS hj
  obtain ⟨p1, p2, p3, p4⟩ := hp
  rw [e10]
  by_cases c : x < 100
  · have z : (iI x).toInt < 100 ∨ 104 < (iI x).toInt := Or.inl (by rw [iI_toInt (by omega) (by omega)]; exact c)
    have e : pvl f k x = iI x := by
      unfold pvl
      rw [if_neg (by omega), if_neg (by omega), if_neg (by omega), if_neg (by omega), if_neg (by omega)]
    rw [e]
    simp (disch := first | assumption | exact nar_b0 | exact nar_b1 | exact nar_b | exact Or.inl rfl | exact Or.inr rfl | exact zin_t (by omega) (by omega) | exact Nat.le_of_ble_eq_true rfl | (rw [nI_cl (by omega)]; assumption) | omega) only [↓reduceIte, reduceCtorEq, not_true_eq_false, not_false_eq_true, q10_0, q10_1c100, q10_1c101, q10_1c102, q10_1c103, q10_1c104, q10_1d, q10_36, q10_37, q10_40, q10_41, q10_42, q10_43, q10_44, q10_45, q10_46, q10_49, q10_50, q10_51, q10_52, q10_53, q10_54, q10_55, q10_58, q10_59, q10_60, q10_61, q10_62, q10_65, q10_66, q10_67, q10_68, q10_69, q10_72, q10_73, q10_74, q10_75, q10_76, q10_77, q10_80, q10_81, q10_82, q10_83, q10_84, q10_85, q10_86, q10_87, kl_int, kl_ref, kl_tok, cS_nil, cS_int, cS_ref, cS_long, tl_some, tl_none, List.cons_append, List.nil_append, nI_add, nI_ltb, nI_leb, nI_eqb, nI_cl, zin_nI]
  · rcases (show x = 100 ∨ x = 101 ∨ x = 102 ∨ x = 103 ∨ x = 104 by omega) with rfl | rfl | rfl | rfl | rfl
    · rw [show iI 100 = nI 100 from rfl, show pvl f k 100 = f (8 + 4 * k) from rfl]
      simp (disch := first | assumption | exact nar_b0 | exact nar_b1 | exact nar_b | exact Or.inl rfl | exact Or.inr rfl | exact zin_t (by omega) (by omega) | exact Nat.le_of_ble_eq_true rfl | (rw [nI_cl (by omega)]; assumption) | omega) only [↓reduceIte, reduceCtorEq, not_true_eq_false, not_false_eq_true, q10_0, q10_1c100, q10_1c101, q10_1c102, q10_1c103, q10_1c104, q10_1d, q10_36, q10_37, q10_40, q10_41, q10_42, q10_43, q10_44, q10_45, q10_46, q10_49, q10_50, q10_51, q10_52, q10_53, q10_54, q10_55, q10_58, q10_59, q10_60, q10_61, q10_62, q10_65, q10_66, q10_67, q10_68, q10_69, q10_72, q10_73, q10_74, q10_75, q10_76, q10_77, q10_80, q10_81, q10_82, q10_83, q10_84, q10_85, q10_86, q10_87, kl_int, kl_ref, kl_tok, cS_nil, cS_int, cS_ref, cS_long, tl_some, tl_none, List.cons_append, List.nil_append, nI_add, nI_ltb, nI_leb, nI_eqb, nI_cl, zin_nI, p1, p2, p3, p4]
    · rw [show iI 101 = nI 101 from rfl, show pvl f k 101 = f (9 + 4 * k) from rfl]
      simp (disch := first | assumption | exact nar_b0 | exact nar_b1 | exact nar_b | exact Or.inl rfl | exact Or.inr rfl | exact zin_t (by omega) (by omega) | exact Nat.le_of_ble_eq_true rfl | (rw [nI_cl (by omega)]; assumption) | omega) only [↓reduceIte, reduceCtorEq, not_true_eq_false, not_false_eq_true, q10_0, q10_1c100, q10_1c101, q10_1c102, q10_1c103, q10_1c104, q10_1d, q10_36, q10_37, q10_40, q10_41, q10_42, q10_43, q10_44, q10_45, q10_46, q10_49, q10_50, q10_51, q10_52, q10_53, q10_54, q10_55, q10_58, q10_59, q10_60, q10_61, q10_62, q10_65, q10_66, q10_67, q10_68, q10_69, q10_72, q10_73, q10_74, q10_75, q10_76, q10_77, q10_80, q10_81, q10_82, q10_83, q10_84, q10_85, q10_86, q10_87, kl_int, kl_ref, kl_tok, cS_nil, cS_int, cS_ref, cS_long, tl_some, tl_none, List.cons_append, List.nil_append, nI_add, nI_ltb, nI_leb, nI_eqb, nI_cl, zin_nI, p1, p2, p3, p4]
    · rw [show iI 102 = nI 102 from rfl, show pvl f k 102 = f (10 + 4 * k) from rfl]
      simp (disch := first | assumption | exact nar_b0 | exact nar_b1 | exact nar_b | exact Or.inl rfl | exact Or.inr rfl | exact zin_t (by omega) (by omega) | exact Nat.le_of_ble_eq_true rfl | (rw [nI_cl (by omega)]; assumption) | omega) only [↓reduceIte, reduceCtorEq, not_true_eq_false, not_false_eq_true, q10_0, q10_1c100, q10_1c101, q10_1c102, q10_1c103, q10_1c104, q10_1d, q10_36, q10_37, q10_40, q10_41, q10_42, q10_43, q10_44, q10_45, q10_46, q10_49, q10_50, q10_51, q10_52, q10_53, q10_54, q10_55, q10_58, q10_59, q10_60, q10_61, q10_62, q10_65, q10_66, q10_67, q10_68, q10_69, q10_72, q10_73, q10_74, q10_75, q10_76, q10_77, q10_80, q10_81, q10_82, q10_83, q10_84, q10_85, q10_86, q10_87, kl_int, kl_ref, kl_tok, cS_nil, cS_int, cS_ref, cS_long, tl_some, tl_none, List.cons_append, List.nil_append, nI_add, nI_ltb, nI_leb, nI_eqb, nI_cl, zin_nI, p1, p2, p3, p4]
    · rw [show iI 103 = nI 103 from rfl, show pvl f k 103 = f (11 + 4 * k) from rfl]
      simp (disch := first | assumption | exact nar_b0 | exact nar_b1 | exact nar_b | exact Or.inl rfl | exact Or.inr rfl | exact zin_t (by omega) (by omega) | exact Nat.le_of_ble_eq_true rfl | (rw [nI_cl (by omega)]; assumption) | omega) only [↓reduceIte, reduceCtorEq, not_true_eq_false, not_false_eq_true, q10_0, q10_1c100, q10_1c101, q10_1c102, q10_1c103, q10_1c104, q10_1d, q10_36, q10_37, q10_40, q10_41, q10_42, q10_43, q10_44, q10_45, q10_46, q10_49, q10_50, q10_51, q10_52, q10_53, q10_54, q10_55, q10_58, q10_59, q10_60, q10_61, q10_62, q10_65, q10_66, q10_67, q10_68, q10_69, q10_72, q10_73, q10_74, q10_75, q10_76, q10_77, q10_80, q10_81, q10_82, q10_83, q10_84, q10_85, q10_86, q10_87, kl_int, kl_ref, kl_tok, cS_nil, cS_int, cS_ref, cS_long, tl_some, tl_none, List.cons_append, List.nil_append, nI_add, nI_ltb, nI_leb, nI_eqb, nI_cl, zin_nI, p1, p2, p3, p4]
    · rw [show iI 104 = nI 104 from rfl, show pvl f k 104 = f (8 + 4 * k) - f (9 + 4 * k) from rfl]
      simp (disch := first | assumption | exact nar_b0 | exact nar_b1 | exact nar_b | exact Or.inl rfl | exact Or.inr rfl | exact zin_t (by omega) (by omega) | exact Nat.le_of_ble_eq_true rfl | (rw [nI_cl (by omega)]; assumption) | omega) only [↓reduceIte, reduceCtorEq, not_true_eq_false, not_false_eq_true, q10_0, q10_1c100, q10_1c101, q10_1c102, q10_1c103, q10_1c104, q10_1d, q10_36, q10_37, q10_40, q10_41, q10_42, q10_43, q10_44, q10_45, q10_46, q10_49, q10_50, q10_51, q10_52, q10_53, q10_54, q10_55, q10_58, q10_59, q10_60, q10_61, q10_62, q10_65, q10_66, q10_67, q10_68, q10_69, q10_72, q10_73, q10_74, q10_75, q10_76, q10_77, q10_80, q10_81, q10_82, q10_83, q10_84, q10_85, q10_86, q10_87, kl_int, kl_ref, kl_tok, cS_nil, cS_int, cS_ref, cS_long, tl_some, tl_none, List.cons_append, List.nil_append, nI_add, nI_ltb, nI_leb, nI_eqb, nI_cl, zin_nI, p1, p2, p3, p4]
theorem compares_ {t c : Nat} {l r : Int} (ha : isCl a) (hS : Sh R) (hj : j < 10) (hk : k < 14) (hp : HPr M j f k) (ht : t < 256) (hc : c < 3) (m1 : M (a + 1) t = nI c) (m2 : M (a + 2) t = iI l) (m3 : M (a + 3) t = iI r) (hl : -99 ≤ l ∧ l ≤ 104) (hr : -99 ≤ r ∧ r ≤ 104) : cal (d + 1) 9 [.ref a, .int (nI t), .ref (tb j), .int (nI k)] M R = some (.inl (some (.int (b2i (cpB c (pvl f k l) (pvl f k r))))), M, R) := by
  obtain ⟨q1, q2, q3, q4, ⟨q5, q6⟩, ⟨q7, q8⟩, ⟨q9, q10⟩⟩ := clK hS ha
  have nN := hS.1
  have hal : a + 3 < 147 := by rcases ha with rfl | rfl | rfl <;> decide
  have n1 := numberOf_ (d := d) (x := l) hS hj hk hp hl
  have n2 := numberOf_ (d := d) (x := r) hS hj hk hp hr
  rw [e9]
  generalize pvl f k l = u at n1 ⊢
  generalize pvl f k r = w at n2 ⊢
  rcases (show c = 0 ∨ c = 1 ∨ c = 2 by omega) with rfl | rfl | rfl
  · by_cases z : w ≤ u
    · rw [show cpB 0 u w = false from decide_eq_false (Int32.not_lt.mpr z)]
      simp (disch := first | assumption | exact nar_b0 | exact nar_b1 | exact nar_b | exact Or.inl rfl | exact Or.inr rfl | exact zin_t (by omega) (by omega) | exact Nat.le_of_ble_eq_true rfl | (rw [nI_cl (by omega)]; assumption) | omega) only [↓reduceIte, reduceCtorEq, not_true_eq_false, not_false_eq_true, q9_0, q9_1, q9_4, q9_5, q9_6, q9_7, q9_8, q9_11, q9_13, q9_14, q9_17, q9_18, q9_19, q9_20, q9_21, q9_24, q9_26, q9_27, q9_30, q9_31, q9_32c0, q9_32c1, q9_60, q9_62, q9_64, q9_67, q9_68, q9_71, q9_72, q9_73, q9_75, q9_77, q9_80, q9_81, q9_84, q9_85, q9_86, q9_88, q9_90, q9_93, q9_94, q9_97, q9_98, kl_int, kl_ref, kl_tok, cS_nil, cS_int, cS_ref, cS_long, tl_some, tl_none, List.cons_append, List.nil_append, nI_add, nI_ltb, nI_leb, nI_eqb, nI_cl, zin_nI, m1, m2, m3, n1, n2, z, zk0_inl]
      rfl
    · rw [show cpB 0 u w = true from decide_eq_true (Int32.not_le.mp z)]
      simp (disch := first | assumption | exact nar_b0 | exact nar_b1 | exact nar_b | exact Or.inl rfl | exact Or.inr rfl | exact zin_t (by omega) (by omega) | exact Nat.le_of_ble_eq_true rfl | (rw [nI_cl (by omega)]; assumption) | omega) only [↓reduceIte, reduceCtorEq, not_true_eq_false, not_false_eq_true, q9_0, q9_1, q9_4, q9_5, q9_6, q9_7, q9_8, q9_11, q9_13, q9_14, q9_17, q9_18, q9_19, q9_20, q9_21, q9_24, q9_26, q9_27, q9_30, q9_31, q9_32c0, q9_32c1, q9_60, q9_62, q9_64, q9_67, q9_68, q9_71, q9_72, q9_73, q9_75, q9_77, q9_80, q9_81, q9_84, q9_85, q9_86, q9_88, q9_90, q9_93, q9_94, q9_97, q9_98, kl_int, kl_ref, kl_tok, cS_nil, cS_int, cS_ref, cS_long, tl_some, tl_none, List.cons_append, List.nil_append, nI_add, nI_ltb, nI_leb, nI_eqb, nI_cl, zin_nI, m1, m2, m3, n1, n2, z, zk0_inl]
      rfl
  · by_cases z : u = w
    · rw [show cpB 1 u w = true from decide_eq_true z]
      simp (disch := first | assumption | exact nar_b0 | exact nar_b1 | exact nar_b | exact Or.inl rfl | exact Or.inr rfl | exact zin_t (by omega) (by omega) | exact Nat.le_of_ble_eq_true rfl | (rw [nI_cl (by omega)]; assumption) | omega) only [↓reduceIte, reduceCtorEq, not_true_eq_false, not_false_eq_true, q9_0, q9_1, q9_4, q9_5, q9_6, q9_7, q9_8, q9_11, q9_13, q9_14, q9_17, q9_18, q9_19, q9_20, q9_21, q9_24, q9_26, q9_27, q9_30, q9_31, q9_32c0, q9_32c1, q9_60, q9_62, q9_64, q9_67, q9_68, q9_71, q9_72, q9_73, q9_75, q9_77, q9_80, q9_81, q9_84, q9_85, q9_86, q9_88, q9_90, q9_93, q9_94, q9_97, q9_98, kl_int, kl_ref, kl_tok, cS_nil, cS_int, cS_ref, cS_long, tl_some, tl_none, List.cons_append, List.nil_append, nI_add, nI_ltb, nI_leb, nI_eqb, nI_cl, zin_nI, m1, m2, m3, n1, n2, z, zk0_inl]
      rfl
    · rw [show cpB 1 u w = false from decide_eq_false z]
      simp (disch := first | assumption | exact nar_b0 | exact nar_b1 | exact nar_b | exact Or.inl rfl | exact Or.inr rfl | exact zin_t (by omega) (by omega) | exact Nat.le_of_ble_eq_true rfl | (rw [nI_cl (by omega)]; assumption) | omega) only [↓reduceIte, reduceCtorEq, not_true_eq_false, not_false_eq_true, q9_0, q9_1, q9_4, q9_5, q9_6, q9_7, q9_8, q9_11, q9_13, q9_14, q9_17, q9_18, q9_19, q9_20, q9_21, q9_24, q9_26, q9_27, q9_30, q9_31, q9_32c0, q9_32c1, q9_60, q9_62, q9_64, q9_67, q9_68, q9_71, q9_72, q9_73, q9_75, q9_77, q9_80, q9_81, q9_84, q9_85, q9_86, q9_88, q9_90, q9_93, q9_94, q9_97, q9_98, kl_int, kl_ref, kl_tok, cS_nil, cS_int, cS_ref, cS_long, tl_some, tl_none, List.cons_append, List.nil_append, nI_add, nI_ltb, nI_leb, nI_eqb, nI_cl, zin_nI, m1, m2, m3, n1, n2, z, zk0_inl]
      rfl
  · by_cases z : u ≤ w
    · rw [show cpB 2 u w = false from decide_eq_false (Int32.not_lt.mpr z)]
      simp (disch := first | assumption | exact nar_b0 | exact nar_b1 | exact nar_b | exact Or.inl rfl | exact Or.inr rfl | exact zin_t (by omega) (by omega) | exact Nat.le_of_ble_eq_true rfl | (rw [nI_cl (by omega)]; assumption) | omega) only [↓reduceIte, reduceCtorEq, not_true_eq_false, not_false_eq_true, q9_0, q9_1, q9_4, q9_5, q9_6, q9_7, q9_8, q9_11, q9_13, q9_14, q9_17, q9_18, q9_19, q9_20, q9_21, q9_24, q9_26, q9_27, q9_30, q9_31, q9_32c0, q9_32c1, q9_60, q9_62, q9_64, q9_67, q9_68, q9_71, q9_72, q9_73, q9_75, q9_77, q9_80, q9_81, q9_84, q9_85, q9_86, q9_88, q9_90, q9_93, q9_94, q9_97, q9_98, kl_int, kl_ref, kl_tok, cS_nil, cS_int, cS_ref, cS_long, tl_some, tl_none, List.cons_append, List.nil_append, nI_add, nI_ltb, nI_leb, nI_eqb, nI_cl, zin_nI, m1, m2, m3, n1, n2, z, zk0_inl, q9_32x]
      rfl
    · rw [show cpB 2 u w = true from decide_eq_true (Int32.not_le.mp z)]
      simp (disch := first | assumption | exact nar_b0 | exact nar_b1 | exact nar_b | exact Or.inl rfl | exact Or.inr rfl | exact zin_t (by omega) (by omega) | exact Nat.le_of_ble_eq_true rfl | (rw [nI_cl (by omega)]; assumption) | omega) only [↓reduceIte, reduceCtorEq, not_true_eq_false, not_false_eq_true, q9_0, q9_1, q9_4, q9_5, q9_6, q9_7, q9_8, q9_11, q9_13, q9_14, q9_17, q9_18, q9_19, q9_20, q9_21, q9_24, q9_26, q9_27, q9_30, q9_31, q9_32c0, q9_32c1, q9_60, q9_62, q9_64, q9_67, q9_68, q9_71, q9_72, q9_73, q9_75, q9_77, q9_80, q9_81, q9_84, q9_85, q9_86, q9_88, q9_90, q9_93, q9_94, q9_97, q9_98, kl_int, kl_ref, kl_tok, cS_nil, cS_int, cS_ref, cS_long, tl_some, tl_none, List.cons_append, List.nil_append, nI_add, nI_ltb, nI_leb, nI_eqb, nI_cl, zin_nI, m1, m2, m3, n1, n2, z, zk0_inl, q9_32x]
      rfl
/-- a stretch of a clause -/
def ClS (M : ZM) (a q n : Nat) (L : List CdS) : Prop := q + L.length ≤ n ∧ ∀ (t : Nat) (h : t < L.length), M (a + 1) (q + t) = nI (L[t]).1 ∧ M (a + 2) (q + t) = iI (L[t]).2.1 ∧ M (a + 3) (q + t) = iI (L[t]).2.2
theorem ClS.left {q n : Nat} {L L' : List CdS} (h : ClS M a q n (L ++ L')) : ClS M a q n L := by
  refine ⟨by have := h.1; rw [List.length_append] at this; omega, fun t ht => ?_⟩
  have := h.2 t (by rw [List.length_append]; omega)
  rw [List.getElem_append_left ht] at this
  exact this
theorem ClS.right {q n : Nat} {L L' : List CdS} (h : ClS M a q n (L ++ L')) : ClS M a (q + L.length) n L' := by
  refine ⟨by have := h.1; rw [List.length_append] at this; omega, fun t ht => ?_⟩
  have := h.2 (L.length + t) (by rw [List.length_append]; omega)
  rw [List.getElem_append_right (by omega)] at this
  simp only [Nat.add_sub_cancel_left] at this
  rw [Nat.add_assoc]
  exact this
def b2n (b : Bool) : Nat := if b then 1 else 0
theorem b2n_lt (b : Bool) : b2n b < 2 := by cases b <;> decide
theorem holds_L {n : Nat} {st : List CdS} {h : Nat} (ha : isCl a) (hS : Sh R) (hj : j < 10) (hk : k < 14) (hp : HPr M j f k) (hn : n ≤ 256) (h3 : M a 3 = nI n) (hc : CE h st) : ∀ (q x e : Nat) (v5 : Value), ClS M a q n st → x < 2 ^ e → e + h ≤ 29 → ∃ v5', exe (d + 2) 8 5 [.ref a, .ref (tb j), .int (nI k), .int (nI x), .int (nI q), v5] [] M R = exe (d + 2) 8 5 [.ref a, .ref (tb j), .int (nI k), .int (nI (2 * x + b2n (hv (pvl f k) st))), .int (nI (q + st.length)), v5'] [] M R := by
  obtain ⟨q1, q2, q3, q4, ⟨q5, q6⟩, ⟨q7, q8⟩, ⟨q9, q10⟩⟩ := clK hS ha
  have nN := hS.1
  have hal : a + 3 < 147 := by rcases ha with rfl | rfl | rfl <;> decide
  have big : ∀ {x e : Nat}, x < 2 ^ e → e ≤ 29 → x < 536870912 := fun {x e} h1 h2 => Nat.lt_of_lt_of_le h1 (Nat.pow_le_pow_right (n := 2) (by decide) h2)
  refine (hc (fun h st => CE h st ∧ ∀ (q x e : Nat) (v5 : Value), ClS M a q n st → x < 2 ^ e → e + h ≤ 29 → ∃ v5', exe (d + 2) 8 5 [.ref a, .ref (tb j), .int (nI k), .int (nI x), .int (nI q), v5] [] M R = exe (d + 2) 8 5 [.ref a, .ref (tb j), .int (nI k), .int (nI (2 * x + b2n (hv (pvl f k) st))), .int (nI (q + st.length)), v5'] [] M R) ⟨?_, ?_, ?_⟩).2
  · intro h c l r c1 c2 c3
    refine ⟨CE.cmp c1 c2 c3, fun q x e v5 hs hx he => ?_⟩
    obtain ⟨s0, s1⟩ := hs
    obtain ⟨m1, m2, m3⟩ := s1 0 (by simp)
    have s0' : q + 1 ≤ n := s0
    have hc2 := compares_ (d := d) (t := q) (c := c) (l := l) (r := r) ha hS hj hk hp (by omega) c1 m1 m2 m3 c2 c3
    have hb := big hx (by omega)
    have z : ¬ n ≤ q := by omega
    have z5 : (nI c).toInt < 3 ∨ 5 < (nI c).toInt := Or.inl (by rw [nI_toInt (by omega)]; omega)
    have m1' : M (a + 1) q = nI c := m1
    have e1 := nI_shl x (n := 1) (by decide)
    rw [hv_cmp c1]
    refine ⟨.int (nI (x % 2)), ?_⟩
    rw [q8_5]
    cases v : cpB c (pvl f k l) (pvl f k r)
    · rw [v] at hc2
      have e2 : nI (x * 2 ^ 1) ||| nI 0 = nI (2 * x + b2n false) := by
        rw [nI_or, Nat.or_zero]
        show nI (x * 2) = nI (2 * x)
        rw [Nat.mul_comm]
      simp (disch := first | assumption | exact nar_b0 | exact nar_b1 | exact nar_b | exact Or.inl rfl | exact Or.inr rfl | exact zin_t (by omega) (by omega) | exact Nat.le_of_ble_eq_true rfl | (rw [nI_cl (by omega)]; assumption) | omega) only [↓reduceIte, reduceCtorEq, not_true_eq_false, not_false_eq_true, q8_0, q8_1, q8_2, q8_3, q8_7, q8_8, q8_11, q8_14, q8_15, q8_16, q8_17, q8_19, q8_20, q8_23, q8_25, q8_26c3, q8_26c4, q8_26c5, q8_26d, q8_52, q8_53, q8_54, q8_55, q8_56, q8_59, q8_60, q8_61, q8_62, q8_64, q8_66, q8_67, q8_68, q8_69, q8_72, q8_73, q8_74, q8_75, q8_77, q8_78, q8_79, q8_82, q8_83, q8_84, q8_85, q8_86, q8_88, q8_89, q8_90, q8_93, q8_96, q8_97, q8_100, q8_101, q8_102, q8_103, q8_106, q8_109, q8_110, q8_111, q8_112, q8_113, q8_116, q8_117, q8_120, q8_121, kl_int, kl_ref, kl_tok, cS_nil, cS_int, cS_ref, cS_long, tl_some, tl_none, List.cons_append, List.nil_append, nI_add, nI_ltb, nI_leb, nI_eqb, nI_cl, zin_nI, h3, z, m1', hc2, zk0_inl, b2i_f, and_1, e1, e2]
      rfl
    · rw [v] at hc2
      have e2 : nI (x * 2 ^ 1) ||| nI 1 = nI (2 * x + b2n true) := by
        rw [nI_or, show x * 2 ^ 1 = 2 * x + 0 by omega, or1 (by decide) (by decide)]
        rfl
      simp (disch := first | assumption | exact nar_b0 | exact nar_b1 | exact nar_b | exact Or.inl rfl | exact Or.inr rfl | exact zin_t (by omega) (by omega) | exact Nat.le_of_ble_eq_true rfl | (rw [nI_cl (by omega)]; assumption) | omega) only [↓reduceIte, reduceCtorEq, not_true_eq_false, not_false_eq_true, q8_0, q8_1, q8_2, q8_3, q8_7, q8_8, q8_11, q8_14, q8_15, q8_16, q8_17, q8_19, q8_20, q8_23, q8_25, q8_26c3, q8_26c4, q8_26c5, q8_26d, q8_52, q8_53, q8_54, q8_55, q8_56, q8_59, q8_60, q8_61, q8_62, q8_64, q8_66, q8_67, q8_68, q8_69, q8_72, q8_73, q8_74, q8_75, q8_77, q8_78, q8_79, q8_82, q8_83, q8_84, q8_85, q8_86, q8_88, q8_89, q8_90, q8_93, q8_96, q8_97, q8_100, q8_101, q8_102, q8_103, q8_106, q8_109, q8_110, q8_111, q8_112, q8_113, q8_116, q8_117, q8_120, q8_121, kl_int, kl_ref, kl_tok, cS_nil, cS_int, cS_ref, cS_long, tl_some, tl_none, List.cons_append, List.nil_append, nI_add, nI_ltb, nI_leb, nI_eqb, nI_cl, zin_nI, h3, z, m1', hc2, zk0_inl, b2i_t, and_1, e1, e2]
      rfl
  · intro h L ⟨i0, i⟩
    refine ⟨i0.neg, fun q x e v5 hs hx he => ?_⟩
    obtain ⟨v1, g1⟩ := i q x e v5 hs.left hx he
    obtain ⟨s0, s1⟩ := hs.right
    obtain ⟨m1, -, -⟩ := s1 0 (by simp)
    have s0' : q + L.length + 1 ≤ n := s0
    have hb := big hx (by omega)
    have hl := b2n_lt (hv (pvl f k) L)
    have z : ¬ n ≤ q + L.length := by omega
    have m1' : M (a + 1) (q + L.length) = nI 3 := m1
    have hw : b2n (hv (pvl f k) (L ++ [(3, 0, 0)])) = 1 - b2n (hv (pvl f k) L) := by
      rw [hv_neg i0]
      cases hv (pvl f k) L <;> rfl
    have e1 : nI (2 * x + b2n (hv (pvl f k) L)) ^^^ nI 1 = nI (2 * x + b2n (hv (pvl f k) (L ++ [(3, 0, 0)]))) := by rw [nI_xor, xor1 hl, hw]
    rw [g1]
    refine ⟨.int (nI ((2 * x + b2n (hv (pvl f k) L)) % 2)), ?_⟩
    have hlast : q + (L ++ [((3, 0, 0) : CdS)]).length = q + L.length + 1 := by simp; omega
    rw [hlast, q8_5]
    simp (disch := first | assumption | exact nar_b0 | exact nar_b1 | exact nar_b | exact Or.inl rfl | exact Or.inr rfl | exact zin_t (by omega) (by omega) | exact Nat.le_of_ble_eq_true rfl | (rw [nI_cl (by omega)]; assumption) | omega) only [↓reduceIte, reduceCtorEq, not_true_eq_false, not_false_eq_true, q8_0, q8_1, q8_2, q8_3, q8_7, q8_8, q8_11, q8_14, q8_15, q8_16, q8_17, q8_19, q8_20, q8_23, q8_25, q8_26c3, q8_26c4, q8_26c5, q8_26d, q8_52, q8_53, q8_54, q8_55, q8_56, q8_59, q8_60, q8_61, q8_62, q8_64, q8_66, q8_67, q8_68, q8_69, q8_72, q8_73, q8_74, q8_75, q8_77, q8_78, q8_79, q8_82, q8_83, q8_84, q8_85, q8_86, q8_88, q8_89, q8_90, q8_93, q8_96, q8_97, q8_100, q8_101, q8_102, q8_103, q8_106, q8_109, q8_110, q8_111, q8_112, q8_113, q8_116, q8_117, q8_120, q8_121, kl_int, kl_ref, kl_tok, cS_nil, cS_int, cS_ref, cS_long, tl_some, tl_none, List.cons_append, List.nil_append, nI_add, nI_ltb, nI_leb, nI_eqb, nI_cl, zin_nI, h3, z, m1', and_1, e1]
  · intro h c L L' hcc ⟨i0, i⟩ ⟨i0', i'⟩
    refine ⟨CE.bin hcc i0 i0', fun q x e v5 hs hx he => ?_⟩
    obtain ⟨v1, g1⟩ := i q x e v5 hs.left.left hx he
    have hl := b2n_lt (hv (pvl f k) L)
    have hx2 : 2 * x + b2n (hv (pvl f k) L) < 2 ^ (e + 1) := by rw [Nat.pow_succ]; omega
    obtain ⟨v2, g2⟩ := i' (q + L.length) (2 * x + b2n (hv (pvl f k) L)) (e + 1) v1 hs.left.right hx2 (by omega)
    obtain ⟨s0, s1⟩ := hs.right
    obtain ⟨m1, -, -⟩ := s1 0 (by simp)
    have s0' : q + (L ++ L').length + 1 ≤ n := s0
    have hll : (L ++ L').length = L.length + L'.length := List.length_append
    have hb := big hx (by omega)
    have hl' := b2n_lt (hv (pvl f k) L')
    have z : ¬ n ≤ q + L.length + L'.length := by omega
    have m1' : M (a + 1) (q + L.length + L'.length) = nI c := by
      rw [Nat.add_assoc, ← hll]
      exact m1
    generalize hy : 2 * x + b2n (hv (pvl f k) L) = y at g1 g2 hx2
    have hy2 : (2 * y + b2n (hv (pvl f k) L')) % 2 = b2n (hv (pvl f k) L') := by omega
    have e1 : zshr (nI (2 * y + b2n (hv (pvl f k) L'))) (nI 1) = nI y := by
      rw [nI_shr (by omega) (by decide), Nat.shiftRight_eq_div_pow]
      congr 1
      omega
    rw [g1, g2]
    refine ⟨.int (nI (b2n (hv (pvl f k) L'))), ?_⟩
    have hlast : q + (L ++ L' ++ [((c, 0, 0) : CdS)]).length = q + L.length + L'.length + 1 := by simp; omega
    rw [hlast, q8_5]
    rcases hcc with rfl | rfl
    · rw [hv_and i0 i0']
      have e2 : nI y &&& (nI (b2n (hv (pvl f k) L')) ||| -2) = nI (2 * x + b2n (hv (pvl f k) L && hv (pvl f k) L')) := by
        cases hv (pvl f k) L'
        · show nI y &&& (nI 0 ||| -2) = _
          rw [and_m2 (by omega), Bool.and_false]
          congr 1
          show 2 * (y / 2) = 2 * x + 0
          omega
        · show nI y &&& (nI 1 ||| -2) = _
          rw [and_m1 (by omega), Bool.and_true, hy]
      simp (disch := first | assumption | exact nar_b0 | exact nar_b1 | exact nar_b | exact Or.inl rfl | exact Or.inr rfl | exact zin_t (by omega) (by omega) | exact Nat.le_of_ble_eq_true rfl | (rw [nI_cl (by omega)]; assumption) | omega) only [↓reduceIte, reduceCtorEq, not_true_eq_false, not_false_eq_true, q8_0, q8_1, q8_2, q8_3, q8_7, q8_8, q8_11, q8_14, q8_15, q8_16, q8_17, q8_19, q8_20, q8_23, q8_25, q8_26c3, q8_26c4, q8_26c5, q8_26d, q8_52, q8_53, q8_54, q8_55, q8_56, q8_59, q8_60, q8_61, q8_62, q8_64, q8_66, q8_67, q8_68, q8_69, q8_72, q8_73, q8_74, q8_75, q8_77, q8_78, q8_79, q8_82, q8_83, q8_84, q8_85, q8_86, q8_88, q8_89, q8_90, q8_93, q8_96, q8_97, q8_100, q8_101, q8_102, q8_103, q8_106, q8_109, q8_110, q8_111, q8_112, q8_113, q8_116, q8_117, q8_120, q8_121, kl_int, kl_ref, kl_tok, cS_nil, cS_int, cS_ref, cS_long, tl_some, tl_none, List.cons_append, List.nil_append, nI_add, nI_ltb, nI_leb, nI_eqb, nI_cl, zin_nI, h3, z, m1', and_1, hy2, e1, e2]
    · rw [hv_or i0 i0']
      have e2 : nI y ||| nI (b2n (hv (pvl f k) L')) = nI (2 * x + b2n (hv (pvl f k) L || hv (pvl f k) L')) := by
        rw [nI_or, ← hy, or1 hl hl']
        cases hv (pvl f k) L <;> cases hv (pvl f k) L' <;> rfl
      simp (disch := first | assumption | exact nar_b0 | exact nar_b1 | exact nar_b | exact Or.inl rfl | exact Or.inr rfl | exact zin_t (by omega) (by omega) | exact Nat.le_of_ble_eq_true rfl | (rw [nI_cl (by omega)]; assumption) | omega) only [↓reduceIte, reduceCtorEq, not_true_eq_false, not_false_eq_true, q8_0, q8_1, q8_2, q8_3, q8_7, q8_8, q8_11, q8_14, q8_15, q8_16, q8_17, q8_19, q8_20, q8_23, q8_25, q8_26c3, q8_26c4, q8_26c5, q8_26d, q8_52, q8_53, q8_54, q8_55, q8_56, q8_59, q8_60, q8_61, q8_62, q8_64, q8_66, q8_67, q8_68, q8_69, q8_72, q8_73, q8_74, q8_75, q8_77, q8_78, q8_79, q8_82, q8_83, q8_84, q8_85, q8_86, q8_88, q8_89, q8_90, q8_93, q8_96, q8_97, q8_100, q8_101, q8_102, q8_103, q8_106, q8_109, q8_110, q8_111, q8_112, q8_113, q8_116, q8_117, q8_120, q8_121, kl_int, kl_ref, kl_tok, cS_nil, cS_int, cS_ref, cS_long, tl_some, tl_none, List.cons_append, List.nil_append, nI_add, nI_ltb, nI_leb, nI_eqb, nI_cl, zin_nI, h3, z, m1', and_1, hy2, e1, e2]
theorem holds_ {st : List CdS} (ha : isCl a) (hS : Sh R) (hj : j < 10) (hk : k < 14) (hp : HPr M j f k) (hn : st.length ≤ 256) (hr : ClR M a st) (hc : st = [] ∨ CE 11 st) : cal (d + 2) 8 [.ref a, .ref (tb j), .int (nI k)] M R = some (.inl (some (.int (b2i (hv (pvl f k) st)))), M, R) := by
  obtain ⟨q1, -⟩ := clK hS ha
  have h3 := hr.1
  rcases hc with rfl | hc
  · have h3' : M a 3 = nI 0 := h3
    have z : nI 0 &&& nI 1 = nI 0 := by decide +kernel
    rw [e8, show hv (pvl f k) [] = false from rfl]
    simp (disch := first | assumption | exact nar_b0 | exact nar_b1 | exact nar_b | exact Or.inl rfl | exact Or.inr rfl | exact zin_t (by omega) (by omega) | exact Nat.le_of_ble_eq_true rfl | (rw [nI_cl (by omega)]; assumption) | omega) only [↓reduceIte, reduceCtorEq, not_true_eq_false, not_false_eq_true, q8_0, q8_1, q8_2, q8_3, q8_7, q8_8, q8_11, q8_14, q8_15, q8_16, q8_17, q8_19, q8_20, q8_23, q8_25, q8_26c3, q8_26c4, q8_26c5, q8_26d, q8_52, q8_53, q8_54, q8_55, q8_56, q8_59, q8_60, q8_61, q8_62, q8_64, q8_66, q8_67, q8_68, q8_69, q8_72, q8_73, q8_74, q8_75, q8_77, q8_78, q8_79, q8_82, q8_83, q8_84, q8_85, q8_86, q8_88, q8_89, q8_90, q8_93, q8_96, q8_97, q8_100, q8_101, q8_102, q8_103, q8_106, q8_109, q8_110, q8_111, q8_112, q8_113, q8_116, q8_117, q8_120, q8_121, kl_int, kl_ref, kl_tok, cS_nil, cS_int, cS_ref, cS_long, tl_some, tl_none, List.cons_append, List.nil_append, nI_add, nI_ltb, nI_leb, nI_eqb, nI_cl, zin_nI]
    rw [q8_5]
    simp (disch := first | assumption | exact nar_b0 | exact nar_b1 | exact nar_b | exact Or.inl rfl | exact Or.inr rfl | exact zin_t (by omega) (by omega) | exact Nat.le_of_ble_eq_true rfl | (rw [nI_cl (by omega)]; assumption) | omega) only [↓reduceIte, reduceCtorEq, not_true_eq_false, not_false_eq_true, q8_0, q8_1, q8_2, q8_3, q8_7, q8_8, q8_11, q8_14, q8_15, q8_16, q8_17, q8_19, q8_20, q8_23, q8_25, q8_26c3, q8_26c4, q8_26c5, q8_26d, q8_52, q8_53, q8_54, q8_55, q8_56, q8_59, q8_60, q8_61, q8_62, q8_64, q8_66, q8_67, q8_68, q8_69, q8_72, q8_73, q8_74, q8_75, q8_77, q8_78, q8_79, q8_82, q8_83, q8_84, q8_85, q8_86, q8_88, q8_89, q8_90, q8_93, q8_96, q8_97, q8_100, q8_101, q8_102, q8_103, q8_106, q8_109, q8_110, q8_111, q8_112, q8_113, q8_116, q8_117, q8_120, q8_121, kl_int, kl_ref, kl_tok, cS_nil, cS_int, cS_ref, cS_long, tl_some, tl_none, List.cons_append, List.nil_append, nI_add, nI_ltb, nI_leb, nI_eqb, nI_cl, zin_nI, h3', z, Nat.le_refl]
    rfl
  · obtain ⟨v5, g⟩ := holds_L (d := d) ha hS hj hk hp hn h3 hc 0 0 0 tok ⟨by omega, fun t ht => by rw [Nat.zero_add]; exact hr.2 t ht⟩ (by decide) (by decide)
    have hl := b2n_lt (hv (pvl f k) st)
    have z : st.length ≤ 0 + st.length := by omega
    have z2 : (2 * 0 + b2n (hv (pvl f k) st)) % 2 = b2n (hv (pvl f k) st) := by omega
    rw [e8]
    have g0 : exe (d + 2) 8 0 [.ref a, .ref (tb j), .int (nI k), tok, tok, tok] [] M R = exe (d + 2) 8 5 [.ref a, .ref (tb j), .int (nI k), .int (nI 0), .int (nI 0), tok] [] M R := by
      simp (disch := first | assumption | exact nar_b0 | exact nar_b1 | exact nar_b | exact Or.inl rfl | exact Or.inr rfl | exact zin_t (by omega) (by omega) | exact Nat.le_of_ble_eq_true rfl | (rw [nI_cl (by omega)]; assumption) | omega) only [↓reduceIte, reduceCtorEq, not_true_eq_false, not_false_eq_true, q8_0, q8_1, q8_2, q8_3, q8_7, q8_8, q8_11, q8_14, q8_15, q8_16, q8_17, q8_19, q8_20, q8_23, q8_25, q8_26c3, q8_26c4, q8_26c5, q8_26d, q8_52, q8_53, q8_54, q8_55, q8_56, q8_59, q8_60, q8_61, q8_62, q8_64, q8_66, q8_67, q8_68, q8_69, q8_72, q8_73, q8_74, q8_75, q8_77, q8_78, q8_79, q8_82, q8_83, q8_84, q8_85, q8_86, q8_88, q8_89, q8_90, q8_93, q8_96, q8_97, q8_100, q8_101, q8_102, q8_103, q8_106, q8_109, q8_110, q8_111, q8_112, q8_113, q8_116, q8_117, q8_120, q8_121, kl_int, kl_ref, kl_tok, cS_nil, cS_int, cS_ref, cS_long, tl_some, tl_none, List.cons_append, List.nil_append, nI_add, nI_ltb, nI_leb, nI_eqb, nI_cl, zin_nI]
    rw [g0, g, q8_5]
    cases v : hv (pvl f k) st
    · rw [v] at z2
      have z3 : (2 * 0 + b2n false) % 2 = 0 := by decide
      simp (disch := first | assumption | exact nar_b0 | exact nar_b1 | exact nar_b | exact Or.inl rfl | exact Or.inr rfl | exact zin_t (by omega) (by omega) | exact Nat.le_of_ble_eq_true rfl | (rw [nI_cl (by omega)]; assumption) | omega) only [↓reduceIte, reduceCtorEq, not_true_eq_false, not_false_eq_true, q8_0, q8_1, q8_2, q8_3, q8_7, q8_8, q8_11, q8_14, q8_15, q8_16, q8_17, q8_19, q8_20, q8_23, q8_25, q8_26c3, q8_26c4, q8_26c5, q8_26d, q8_52, q8_53, q8_54, q8_55, q8_56, q8_59, q8_60, q8_61, q8_62, q8_64, q8_66, q8_67, q8_68, q8_69, q8_72, q8_73, q8_74, q8_75, q8_77, q8_78, q8_79, q8_82, q8_83, q8_84, q8_85, q8_86, q8_88, q8_89, q8_90, q8_93, q8_96, q8_97, q8_100, q8_101, q8_102, q8_103, q8_106, q8_109, q8_110, q8_111, q8_112, q8_113, q8_116, q8_117, q8_120, q8_121, kl_int, kl_ref, kl_tok, cS_nil, cS_int, cS_ref, cS_long, tl_some, tl_none, List.cons_append, List.nil_append, nI_add, nI_ltb, nI_leb, nI_eqb, nI_cl, zin_nI, h3, z, and_1, z3]
      rfl
    · rw [v] at z2
      have z3 : (2 * 0 + b2n true) % 2 = 1 := by decide
      simp (disch := first | assumption | exact nar_b0 | exact nar_b1 | exact nar_b | exact Or.inl rfl | exact Or.inr rfl | exact zin_t (by omega) (by omega) | exact Nat.le_of_ble_eq_true rfl | (rw [nI_cl (by omega)]; assumption) | omega) only [↓reduceIte, reduceCtorEq, not_true_eq_false, not_false_eq_true, q8_0, q8_1, q8_2, q8_3, q8_7, q8_8, q8_11, q8_14, q8_15, q8_16, q8_17, q8_19, q8_20, q8_23, q8_25, q8_26c3, q8_26c4, q8_26c5, q8_26d, q8_52, q8_53, q8_54, q8_55, q8_56, q8_59, q8_60, q8_61, q8_62, q8_64, q8_66, q8_67, q8_68, q8_69, q8_72, q8_73, q8_74, q8_75, q8_77, q8_78, q8_79, q8_82, q8_83, q8_84, q8_85, q8_86, q8_88, q8_89, q8_90, q8_93, q8_96, q8_97, q8_100, q8_101, q8_102, q8_103, q8_106, q8_109, q8_110, q8_111, q8_112, q8_113, q8_116, q8_117, q8_120, q8_121, kl_int, kl_ref, kl_tok, cS_nil, cS_int, cS_ref, cS_long, tl_some, tl_none, List.cons_append, List.nil_append, nI_add, nI_ltb, nI_leb, nI_eqb, nI_cl, zin_nI, h3, z, and_1, z3]
      rfl
end Le
