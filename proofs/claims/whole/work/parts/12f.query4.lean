-- the class: counts, the print, what a turn costs
def cP (f : Nat → Int32) (w : Nat) (n : Int32) (k : Nat) : Bool := if w = 2 then decide (f (10 + 4 * k) < n) else decide (zshr (f (11 + 4 * k)) (nI w) &&& nI 1 = nI 1)
def cvN (P : Nat → Bool) : List Nat → Nat
  | [] => 0
  | x :: l => (if P x then 1 else 0) + cvN P l
def cntV (f : Nat → Int32) (w : Nat) (n : Int32) : Int32 := nI (cvN (cP f w n) ((UL f).take (sn f + pn f)))
def prF (f : Nat → Int32) : Nat → Nat → Int64 → Int64
  | 0, _, v => v
  | m + 1, j, v => prF f m (j + 1) (31 * (31 * v + (nI (rw f j)).toInt64) + (f (78 + rw f j)).toInt64)
section Qc
variable {d i : Nat} {M : ZM} {R : ZH} {G : GS}
set_option maxHeartbeats 4000000 in
theorem count_L {w : Nat} {n : Int32} (hw3 : w < 3) (hW : WG G) (hC : CS M R i G) : ∀ (m j u t : Nat) (k6 k7 : Value), j + m = ln (gF G) → t ≤ sn (gF G) + pn (gF G) → u ≤ t → exe (d + 1) 91 38 [.ref 0, .int (nI w), .int n, .int (nI u), .int (nI t), .int (nI j), k6, k7] [] M R = some (.inl (some (.int (nI (u + cvN (cP (gF G) w n) ((ulF (gF G) m j).take (sn (gF G) + pn (gF G) - t)))))), M, R) := by
  have hS := hC.1.1
  have hi := hC.1.2.2.2
  have hnow := hC.1.2.2.1
  obtain ⟨nN, k0, k1, l1, f0_2, f0_10, f0_0, f0_12, f0_11, f0_14⟩ := benF hS
  obtain ⟨nN, tlt, kt0, kt1, lt1, kt2, lt2, kt3, lt3, kt4, lt4, kt5, lt5, kt6, lt6, kt7, lt7, kt8, lt8, ft0_0, ft1_0, ft1_1, ft0_1, ft0_2, ft0_3, ft0_4, ft0_5⟩ := tabF hS hi
  obtain ⟨n6, n7, n8, n9, n10, n11, n12, n13, n14⟩ := hC.2.2.2.1.nums hW.1
  have hw := hW.1.nums
  have hT := hC.2.2.2.1
  intro m
  induction m with
  | zero =>
    intro j u t k6 k7 hj ht hu
    have h1 : ln (gF G) ≤ j := by omega
    rw [q91_38]
    simp (disch := first | assumption | exact nar_b0 | exact nar_b1 | exact nar_b | exact Or.inl rfl | exact Or.inr rfl | exact zin_t (by omega) (by omega) | exact Nat.le_of_ble_eq_true rfl | (rw [nI_cl (by omega)]; assumption) | omega) only [↓reduceIte, reduceCtorEq, not_true_eq_false, not_false_eq_true, q91_0, q91_1, q91_4, q91_5, q91_6, q91_9, q91_10i, q91_10a, q91_11, q91_14, q91_15, q91_16, q91_19, q91_22i, q91_22a, q91_30, q91_31, q91_32, q91_33, q91_35, q91_36, q91_40, q91_41, q91_44, q91_47, q91_50, q91_52, q91_53, q91_56, q91_59, q91_60, q91_63, q91_66, q91_67, q91_70, q91_71, q91_74, q91_77, q91_79, q91_80, q91_82, q91_83, q91_86, q91_88, q91_91, q91_94, q91_97, q91_98, q91_99, q91_102, q91_103, q91_106, q91_109, q91_111, q91_112, q91_113, q91_116, q91_117, q91_120, q91_121, q91_124, q91_125, q91_128, q91_131, q91_133, q91_134, q91_135, q91_136, q91_137, q91_138, q91_139, q91_142, q91_143, q91_146, q91_147, q91_149, q91_150, q91_152, q91_155, q91_156, q91_159, q91_160, q91_161, q91_162, q91_165, q91_168, q91_169, kl_int, kl_ref, kl_tok, cS_nil, cS_int, cS_ref, cS_long, tl_some, tl_none, List.cons_append, List.nil_append, nI_add, nI_ltb, nI_leb, nI_eqb, nI_cl, zin_nI, n9, h1]
    simp [ulF, cvN]
  | succ m ih =>
    intro j u t k6 k7 hj ht hu
    have h1 : ¬ ln (gF G) ≤ j := by omega
    have hr := hT.2.2.2 j (by omega)
    obtain ⟨hr1, hr2⟩ := hW.1.2.2.1 j (by omega)
    rw [hr1] at hr
    obtain ⟨p1, p2, p3, p4⟩ := hT.2.1 _ hr2
    have hc := isStruck_ (d := d) (k := rw (gF G) j) hS hi hT (by omega)
    by_cases h2 : sn (gF G) + pn (gF G) ≤ t
    · have e : sn (gF G) + pn (gF G) - t = 0 := by omega
      rw [e, List.take_zero]
      rw [q91_38]
      simp (disch := first | assumption | exact nar_b0 | exact nar_b1 | exact nar_b | exact Or.inl rfl | exact Or.inr rfl | exact zin_t (by omega) (by omega) | exact Nat.le_of_ble_eq_true rfl | (rw [nI_cl (by omega)]; assumption) | omega) only [↓reduceIte, reduceCtorEq, not_true_eq_false, not_false_eq_true, q91_0, q91_1, q91_4, q91_5, q91_6, q91_9, q91_10i, q91_10a, q91_11, q91_14, q91_15, q91_16, q91_19, q91_22i, q91_22a, q91_30, q91_31, q91_32, q91_33, q91_35, q91_36, q91_40, q91_41, q91_44, q91_47, q91_50, q91_52, q91_53, q91_56, q91_59, q91_60, q91_63, q91_66, q91_67, q91_70, q91_71, q91_74, q91_77, q91_79, q91_80, q91_82, q91_83, q91_86, q91_88, q91_91, q91_94, q91_97, q91_98, q91_99, q91_102, q91_103, q91_106, q91_109, q91_111, q91_112, q91_113, q91_116, q91_117, q91_120, q91_121, q91_124, q91_125, q91_128, q91_131, q91_133, q91_134, q91_135, q91_136, q91_137, q91_138, q91_139, q91_142, q91_143, q91_146, q91_147, q91_149, q91_150, q91_152, q91_155, q91_156, q91_159, q91_160, q91_161, q91_162, q91_165, q91_168, q91_169, kl_int, kl_ref, kl_tok, cS_nil, cS_int, cS_ref, cS_long, tl_some, tl_none, List.cons_append, List.nil_append, nI_add, nI_ltb, nI_leb, nI_eqb, nI_cl, zin_nI, n9, h1, n10, n11, h2]
      simp [cvN]
    · rw [ulF]
      cases hs : stk (gF G) (rw (gF G) j)
      · rw [hs] at hc
        have e : sn (gF G) + pn (gF G) - t = (sn (gF G) + pn (gF G) - (t + 1)) + 1 := by omega
        rw [if_neg (by decide), e, List.take_succ_cons, cvN]
        have e147 : ∀ b : Bool, exe (d + 1) 91 147 [.ref 0, .int (nI w), .int n, .int (nI u), .int (nI (t + 1)), .int (nI j), .int (nI (rw (gF G) j)), k7] [.int (b2i b)] M R = some (.inl (some (.int (nI (u + ((if b then 1 else 0) + cvN (cP (gF G) w n) ((ulF (gF G) m (j + 1)).take (sn (gF G) + pn (gF G) - (t + 1)))))))), M, R) := by
          intro b
          have g0 := ih (j + 1) (u + if b then 1 else 0) (t + 1) (.int (nI (rw (gF G) j))) (.int (b2i b)) (by omega) (by omega) (by split <;> omega)
          rw [← Nat.add_assoc, ← g0]
          cases b
          · simp (disch := first | assumption | exact nar_b0 | exact nar_b1 | exact nar_b | exact Or.inl rfl | exact Or.inr rfl | exact zin_t (by omega) (by omega) | exact Nat.le_of_ble_eq_true rfl | (rw [nI_cl (by omega)]; assumption) | omega) only [↓reduceIte, reduceCtorEq, not_true_eq_false, not_false_eq_true, q91_0, q91_1, q91_4, q91_5, q91_6, q91_9, q91_10i, q91_10a, q91_11, q91_14, q91_15, q91_16, q91_19, q91_22i, q91_22a, q91_30, q91_31, q91_32, q91_33, q91_35, q91_36, q91_40, q91_41, q91_44, q91_47, q91_50, q91_52, q91_53, q91_56, q91_59, q91_60, q91_63, q91_66, q91_67, q91_70, q91_71, q91_74, q91_77, q91_79, q91_80, q91_82, q91_83, q91_86, q91_88, q91_91, q91_94, q91_97, q91_98, q91_99, q91_102, q91_103, q91_106, q91_109, q91_111, q91_112, q91_113, q91_116, q91_117, q91_120, q91_121, q91_124, q91_125, q91_128, q91_131, q91_133, q91_134, q91_135, q91_136, q91_137, q91_138, q91_139, q91_142, q91_143, q91_146, q91_147, q91_149, q91_150, q91_152, q91_155, q91_156, q91_159, q91_160, q91_161, q91_162, q91_165, q91_168, q91_169, kl_int, kl_ref, kl_tok, cS_nil, cS_int, cS_ref, cS_long, tl_some, tl_none, List.cons_append, List.nil_append, nI_add, nI_ltb, nI_leb, nI_eqb, nI_cl, zin_nI, b2i_0]
          · simp (disch := first | assumption | exact nar_b0 | exact nar_b1 | exact nar_b | exact Or.inl rfl | exact Or.inr rfl | exact zin_t (by omega) (by omega) | exact Nat.le_of_ble_eq_true rfl | (rw [nI_cl (by omega)]; assumption) | omega) only [↓reduceIte, reduceCtorEq, not_true_eq_false, not_false_eq_true, q91_0, q91_1, q91_4, q91_5, q91_6, q91_9, q91_10i, q91_10a, q91_11, q91_14, q91_15, q91_16, q91_19, q91_22i, q91_22a, q91_30, q91_31, q91_32, q91_33, q91_35, q91_36, q91_40, q91_41, q91_44, q91_47, q91_50, q91_52, q91_53, q91_56, q91_59, q91_60, q91_63, q91_66, q91_67, q91_70, q91_71, q91_74, q91_77, q91_79, q91_80, q91_82, q91_83, q91_86, q91_88, q91_91, q91_94, q91_97, q91_98, q91_99, q91_102, q91_103, q91_106, q91_109, q91_111, q91_112, q91_113, q91_116, q91_117, q91_120, q91_121, q91_124, q91_125, q91_128, q91_131, q91_133, q91_134, q91_135, q91_136, q91_137, q91_138, q91_139, q91_142, q91_143, q91_146, q91_147, q91_149, q91_150, q91_152, q91_155, q91_156, q91_159, q91_160, q91_161, q91_162, q91_165, q91_168, q91_169, kl_int, kl_ref, kl_tok, cS_nil, cS_int, cS_ref, cS_long, tl_some, tl_none, List.cons_append, List.nil_append, nI_add, nI_ltb, nI_leb, nI_eqb, nI_cl, zin_nI, b2i_0]
        have hb1 : b2i true = nI 1 := rfl
        have hb0 : b2i false = nI 0 := rfl
        rw [← e147 (cP (gF G) w n (rw (gF G) j))]
        rw [q91_38]
        by_cases ew : w = 2
        · subst ew
          by_cases c : gF G (10 + 4 * rw (gF G) j) < n
          · have c2 : ¬ n ≤ gF G (10 + 4 * rw (gF G) j) := by
              rw [Int32.le_iff_toInt_le]
              rw [Int32.lt_iff_toInt_lt] at c
              omega
            simp (disch := first | assumption | exact nar_b0 | exact nar_b1 | exact nar_b | exact Or.inl rfl | exact Or.inr rfl | exact zin_t (by omega) (by omega) | exact Nat.le_of_ble_eq_true rfl | (rw [nI_cl (by omega)]; assumption) | omega) only [↓reduceIte, reduceCtorEq, not_true_eq_false, not_false_eq_true, q91_0, q91_1, q91_4, q91_5, q91_6, q91_9, q91_10i, q91_10a, q91_11, q91_14, q91_15, q91_16, q91_19, q91_22i, q91_22a, q91_30, q91_31, q91_32, q91_33, q91_35, q91_36, q91_40, q91_41, q91_44, q91_47, q91_50, q91_52, q91_53, q91_56, q91_59, q91_60, q91_63, q91_66, q91_67, q91_70, q91_71, q91_74, q91_77, q91_79, q91_80, q91_82, q91_83, q91_86, q91_88, q91_91, q91_94, q91_97, q91_98, q91_99, q91_102, q91_103, q91_106, q91_109, q91_111, q91_112, q91_113, q91_116, q91_117, q91_120, q91_121, q91_124, q91_125, q91_128, q91_131, q91_133, q91_134, q91_135, q91_136, q91_137, q91_138, q91_139, q91_142, q91_143, q91_146, q91_149, q91_150, q91_152, q91_155, q91_156, q91_159, q91_160, q91_161, q91_162, q91_165, q91_168, q91_169, kl_int, kl_ref, kl_tok, cS_nil, cS_int, cS_ref, cS_long, tl_some, tl_none, List.cons_append, List.nil_append, nI_add, nI_ltb, nI_leb, nI_eqb, nI_cl, zin_nI, n9, h1, n10, n11, h2, hr, hc, zk0_inl, b2i_0, p3, c2, cP, c, decide_true, hb1]
          · have c2 : n ≤ gF G (10 + 4 * rw (gF G) j) := by
              rw [Int32.le_iff_toInt_le]
              rw [Int32.lt_iff_toInt_lt] at c
              omega
            simp (disch := first | assumption | exact nar_b0 | exact nar_b1 | exact nar_b | exact Or.inl rfl | exact Or.inr rfl | exact zin_t (by omega) (by omega) | exact Nat.le_of_ble_eq_true rfl | (rw [nI_cl (by omega)]; assumption) | omega) only [↓reduceIte, reduceCtorEq, not_true_eq_false, not_false_eq_true, q91_0, q91_1, q91_4, q91_5, q91_6, q91_9, q91_10i, q91_10a, q91_11, q91_14, q91_15, q91_16, q91_19, q91_22i, q91_22a, q91_30, q91_31, q91_32, q91_33, q91_35, q91_36, q91_40, q91_41, q91_44, q91_47, q91_50, q91_52, q91_53, q91_56, q91_59, q91_60, q91_63, q91_66, q91_67, q91_70, q91_71, q91_74, q91_77, q91_79, q91_80, q91_82, q91_83, q91_86, q91_88, q91_91, q91_94, q91_97, q91_98, q91_99, q91_102, q91_103, q91_106, q91_109, q91_111, q91_112, q91_113, q91_116, q91_117, q91_120, q91_121, q91_124, q91_125, q91_128, q91_131, q91_133, q91_134, q91_135, q91_136, q91_137, q91_138, q91_139, q91_142, q91_143, q91_146, q91_149, q91_150, q91_152, q91_155, q91_156, q91_159, q91_160, q91_161, q91_162, q91_165, q91_168, q91_169, kl_int, kl_ref, kl_tok, cS_nil, cS_int, cS_ref, cS_long, tl_some, tl_none, List.cons_append, List.nil_append, nI_add, nI_ltb, nI_leb, nI_eqb, nI_cl, zin_nI, n9, h1, n10, n11, h2, hr, hc, zk0_inl, b2i_0, p3, c2, cP, c, decide_false, hb0]
        · by_cases c : zshr (gF G (11 + 4 * rw (gF G) j)) (nI w) &&& nI 1 = nI 1
          · simp (disch := first | assumption | exact nar_b0 | exact nar_b1 | exact nar_b | exact Or.inl rfl | exact Or.inr rfl | exact zin_t (by omega) (by omega) | exact Nat.le_of_ble_eq_true rfl | (rw [nI_cl (by omega)]; assumption) | omega) only [↓reduceIte, reduceCtorEq, not_true_eq_false, not_false_eq_true, q91_0, q91_1, q91_4, q91_5, q91_6, q91_9, q91_10i, q91_10a, q91_11, q91_14, q91_15, q91_16, q91_19, q91_22i, q91_22a, q91_30, q91_31, q91_32, q91_33, q91_35, q91_36, q91_40, q91_41, q91_44, q91_47, q91_50, q91_52, q91_53, q91_56, q91_59, q91_60, q91_63, q91_66, q91_67, q91_70, q91_71, q91_74, q91_77, q91_79, q91_80, q91_82, q91_83, q91_86, q91_88, q91_91, q91_94, q91_97, q91_98, q91_99, q91_102, q91_103, q91_106, q91_109, q91_111, q91_112, q91_113, q91_116, q91_117, q91_120, q91_121, q91_124, q91_125, q91_128, q91_131, q91_133, q91_134, q91_135, q91_136, q91_137, q91_138, q91_139, q91_142, q91_143, q91_146, q91_149, q91_150, q91_152, q91_155, q91_156, q91_159, q91_160, q91_161, q91_162, q91_165, q91_168, q91_169, kl_int, kl_ref, kl_tok, cS_nil, cS_int, cS_ref, cS_long, tl_some, tl_none, List.cons_append, List.nil_append, nI_add, nI_ltb, nI_leb, nI_eqb, nI_cl, zin_nI, n9, h1, n10, n11, h2, hr, hc, zk0_inl, b2i_0, ew, p4, cP, c, decide_true, hb1]
          · simp (disch := first | assumption | exact nar_b0 | exact nar_b1 | exact nar_b | exact Or.inl rfl | exact Or.inr rfl | exact zin_t (by omega) (by omega) | exact Nat.le_of_ble_eq_true rfl | (rw [nI_cl (by omega)]; assumption) | omega) only [↓reduceIte, reduceCtorEq, not_true_eq_false, not_false_eq_true, q91_0, q91_1, q91_4, q91_5, q91_6, q91_9, q91_10i, q91_10a, q91_11, q91_14, q91_15, q91_16, q91_19, q91_22i, q91_22a, q91_30, q91_31, q91_32, q91_33, q91_35, q91_36, q91_40, q91_41, q91_44, q91_47, q91_50, q91_52, q91_53, q91_56, q91_59, q91_60, q91_63, q91_66, q91_67, q91_70, q91_71, q91_74, q91_77, q91_79, q91_80, q91_82, q91_83, q91_86, q91_88, q91_91, q91_94, q91_97, q91_98, q91_99, q91_102, q91_103, q91_106, q91_109, q91_111, q91_112, q91_113, q91_116, q91_117, q91_120, q91_121, q91_124, q91_125, q91_128, q91_131, q91_133, q91_134, q91_135, q91_136, q91_137, q91_138, q91_139, q91_142, q91_143, q91_146, q91_149, q91_150, q91_152, q91_155, q91_156, q91_159, q91_160, q91_161, q91_162, q91_165, q91_168, q91_169, kl_int, kl_ref, kl_tok, cS_nil, cS_int, cS_ref, cS_long, tl_some, tl_none, List.cons_append, List.nil_append, nI_add, nI_ltb, nI_leb, nI_eqb, nI_cl, zin_nI, n9, h1, n10, n11, h2, hr, hc, zk0_inl, b2i_0, ew, p4, cP, c, decide_false, hb0]
      · rw [hs] at hc
        rw [if_pos rfl, ← ih (j + 1) u t (.int (nI (rw (gF G) j))) k7 (by omega) ht hu]
        rw [q91_38]
        simp (disch := first | assumption | exact nar_b0 | exact nar_b1 | exact nar_b | exact Or.inl rfl | exact Or.inr rfl | exact zin_t (by omega) (by omega) | exact Nat.le_of_ble_eq_true rfl | (rw [nI_cl (by omega)]; assumption) | omega) only [↓reduceIte, reduceCtorEq, not_true_eq_false, not_false_eq_true, q91_0, q91_1, q91_4, q91_5, q91_6, q91_9, q91_10i, q91_10a, q91_11, q91_14, q91_15, q91_16, q91_19, q91_22i, q91_22a, q91_30, q91_31, q91_32, q91_33, q91_35, q91_36, q91_40, q91_41, q91_44, q91_47, q91_50, q91_52, q91_53, q91_56, q91_59, q91_60, q91_63, q91_66, q91_67, q91_70, q91_71, q91_74, q91_77, q91_79, q91_80, q91_82, q91_83, q91_86, q91_88, q91_91, q91_94, q91_97, q91_98, q91_99, q91_102, q91_103, q91_106, q91_109, q91_111, q91_112, q91_113, q91_116, q91_117, q91_120, q91_121, q91_124, q91_125, q91_128, q91_131, q91_133, q91_134, q91_135, q91_136, q91_137, q91_138, q91_139, q91_142, q91_143, q91_146, q91_147, q91_149, q91_150, q91_152, q91_155, q91_156, q91_159, q91_160, q91_161, q91_162, q91_165, q91_168, q91_169, kl_int, kl_ref, kl_tok, cS_nil, cS_int, cS_ref, cS_long, tl_some, tl_none, List.cons_append, List.nil_append, nI_add, nI_ltb, nI_leb, nI_eqb, nI_cl, zin_nI, n9, h1, n10, n11, h2, hr, hc, zk0_inl, b2i_0]
theorem c_count_t {w : Nat} {n : Int32} (hw3 : w < 3) (hW : WG G) (hC : CS M R i G) : OutC (cal (d + 4) 91 [.ref 0, .int (nI w), .int n] M R) M R 0 0 (cntV (gF G) w n) G := by
  have h := count_L (d := d + 3) (n := n) hw3 hW hC (ln (gF G)) 0 0 0 tok tok (by omega) (Nat.zero_le _) (Nat.zero_le _)
  rw [Nat.zero_add, Nat.sub_zero] at h
  have h0 : ¬ w < 0 := by omega
  have h2 : w ≤ 2 := by omega
  refine OutC.ok (M' := M) ?_ hC FrC.refl
  rw [e91]
  simp (disch := first | assumption | exact nar_b0 | exact nar_b1 | exact nar_b | exact Or.inl rfl | exact Or.inr rfl | exact zin_t (by omega) (by omega) | exact Nat.le_of_ble_eq_true rfl | (rw [nI_cl (by omega)]; assumption) | omega) only [↓reduceIte, reduceCtorEq, not_true_eq_false, not_false_eq_true, q91_0, q91_1, q91_4, q91_5, q91_6, q91_9, q91_10i, q91_10a, q91_11, q91_14, q91_15, q91_16, q91_19, q91_22i, q91_22a, q91_30, q91_31, q91_32, q91_33, q91_35, q91_36, q91_40, q91_41, q91_44, q91_47, q91_50, q91_52, q91_53, q91_56, q91_59, q91_60, q91_63, q91_66, q91_67, q91_70, q91_71, q91_74, q91_77, q91_79, q91_80, q91_82, q91_83, q91_86, q91_88, q91_91, q91_94, q91_97, q91_98, q91_99, q91_102, q91_103, q91_106, q91_109, q91_111, q91_112, q91_113, q91_116, q91_117, q91_120, q91_121, q91_124, q91_125, q91_128, q91_131, q91_133, q91_134, q91_135, q91_136, q91_137, q91_138, q91_139, q91_142, q91_143, q91_146, q91_147, q91_149, q91_150, q91_152, q91_155, q91_156, q91_159, q91_160, q91_161, q91_162, q91_165, q91_168, q91_169, kl_int, kl_ref, kl_tok, cS_nil, cS_int, cS_ref, cS_long, tl_some, tl_none, List.cons_append, List.nil_append, nI_add, nI_ltb, nI_leb, nI_eqb, nI_cl, zin_nI, h0, h2]
  exact h
theorem c_count_f {x y v : Int32} (hx : ¬ ∃ k, k < 3 ∧ x = nI k) (hC : CS M R i G) : OutC (cal (d + 4) 91 [.ref 0, .int x, .int y] M R) M R 1 1 v (rfA G) := by
  have hS := hC.1.1
  obtain ⟨nN, k0, k1, l1, f0_2, f0_10, f0_0, f0_12, f0_11, f0_14⟩ := benF hS
  have h8 := hC.2.1.2.2.2.2.2.1
  refine OutC.rA ?_ (by decide) hC FrC.refl
  rw [e91]
  by_cases h0 : x < nI 0
  · simp (disch := first | assumption | exact nar_b0 | exact nar_b1 | exact nar_b | exact Or.inl rfl | exact Or.inr rfl | exact zin_t (by omega) (by omega) | exact Nat.le_of_ble_eq_true rfl | (rw [nI_cl (by omega)]; assumption) | omega) only [↓reduceIte, reduceCtorEq, not_true_eq_false, not_false_eq_true, q91_0, q91_1, q91_4, q91_5, q91_6, q91_9, q91_10i, q91_10a, q91_11, q91_14, q91_15, q91_16, q91_19, q91_22i, q91_22a, q91_30, q91_31, q91_32, q91_33, q91_35, q91_36, q91_40, q91_41, q91_44, q91_47, q91_50, q91_52, q91_53, q91_56, q91_59, q91_60, q91_63, q91_66, q91_67, q91_70, q91_71, q91_74, q91_77, q91_79, q91_80, q91_82, q91_83, q91_86, q91_88, q91_91, q91_94, q91_97, q91_98, q91_99, q91_102, q91_103, q91_106, q91_109, q91_111, q91_112, q91_113, q91_116, q91_117, q91_120, q91_121, q91_124, q91_125, q91_128, q91_131, q91_133, q91_134, q91_135, q91_136, q91_137, q91_138, q91_139, q91_142, q91_143, q91_146, q91_147, q91_149, q91_150, q91_152, q91_155, q91_156, q91_159, q91_160, q91_161, q91_162, q91_165, q91_168, q91_169, kl_int, kl_ref, kl_tok, cS_nil, cS_int, cS_ref, cS_long, tl_some, tl_none, List.cons_append, List.nil_append, nI_add, nI_ltb, nI_leb, nI_eqb, nI_cl, zin_nI, h0, h8]
  · obtain ⟨k, hk, rfl⟩ := nneg h0
    have h3 : ¬ k ≤ 2 := fun q => hx ⟨k, by omega, rfl⟩
    have h00 : ¬ k < 0 := by omega
    simp (disch := first | assumption | exact nar_b0 | exact nar_b1 | exact nar_b | exact Or.inl rfl | exact Or.inr rfl | exact zin_t (by omega) (by omega) | exact Nat.le_of_ble_eq_true rfl | (rw [nI_cl (by omega)]; assumption) | omega) only [↓reduceIte, reduceCtorEq, not_true_eq_false, not_false_eq_true, q91_0, q91_1, q91_4, q91_5, q91_6, q91_9, q91_10i, q91_10a, q91_11, q91_14, q91_15, q91_16, q91_19, q91_22i, q91_22a, q91_30, q91_31, q91_32, q91_33, q91_35, q91_36, q91_40, q91_41, q91_44, q91_47, q91_50, q91_52, q91_53, q91_56, q91_59, q91_60, q91_63, q91_66, q91_67, q91_70, q91_71, q91_74, q91_77, q91_79, q91_80, q91_82, q91_83, q91_86, q91_88, q91_91, q91_94, q91_97, q91_98, q91_99, q91_102, q91_103, q91_106, q91_109, q91_111, q91_112, q91_113, q91_116, q91_117, q91_120, q91_121, q91_124, q91_125, q91_128, q91_131, q91_133, q91_134, q91_135, q91_136, q91_137, q91_138, q91_139, q91_142, q91_143, q91_146, q91_147, q91_149, q91_150, q91_152, q91_155, q91_156, q91_159, q91_160, q91_161, q91_162, q91_165, q91_168, q91_169, kl_int, kl_ref, kl_tok, cS_nil, cS_int, cS_ref, cS_long, tl_some, tl_none, List.cons_append, List.nil_append, nI_add, nI_ltb, nI_leb, nI_eqb, nI_cl, zin_nI, h00, h3, h8]
theorem print_L (hW : WG G) (hC : CS M R i G) : ∀ (m j : Nat) (v : Int64), j + m = ln (gF G) → exe d 92 4 [.ref 0, .long v, tok, .int (nI j)] [] M R = some (.inl (some (.long (prF (gF G) m j v))), M, R) := by
  have hS := hC.1.1
  have hi := hC.1.2.2.2
  have hnow := hC.1.2.2.1
  obtain ⟨nN, k0, k1, l1, f0_2, f0_10, f0_0, f0_12, f0_11, f0_14⟩ := benF hS
  obtain ⟨nN, tlt, kt0, kt1, lt1, kt2, lt2, kt3, lt3, kt4, lt4, kt5, lt5, kt6, lt6, kt7, lt7, kt8, lt8, ft0_0, ft1_0, ft1_1, ft0_1, ft0_2, ft0_3, ft0_4, ft0_5⟩ := tabF hS hi
  obtain ⟨n6, n7, n8, n9, n10, n11, n12, n13, n14⟩ := hC.2.2.2.1.nums hW.1
  have hw := hW.1.nums
  have hT := hC.2.2.2.1
  intro m
  induction m with
  | zero =>
    intro j v hj
    have h1 : ln (gF G) ≤ j := by omega
    rw [q92_4]
    simp (disch := first | assumption | exact nar_b0 | exact nar_b1 | exact nar_b | exact Or.inl rfl | exact Or.inr rfl | exact zin_t (by omega) (by omega) | exact Nat.le_of_ble_eq_true rfl | (rw [nI_cl (by omega)]; assumption) | omega) only [↓reduceIte, reduceCtorEq, not_true_eq_false, not_false_eq_true, q92_0, q92_1, q92_2, q92_3, q92_5, q92_6, q92_9, q92_12, q92_15, q92_18, q92_19, q92_20, q92_21, q92_24, q92_27, q92_28, q92_29, q92_30, q92_31, q92_32, q92_35, q92_36, q92_37, q92_38, q92_41, q92_44, q92_45, q92_48, q92_51, q92_52, q92_53, q92_54, q92_55, q92_56, q92_57, q92_60, q92_63, q92_64, kl_int, kl_ref, kl_tok, cS_nil, cS_int, cS_ref, cS_long, tl_some, tl_none, List.cons_append, List.nil_append, nI_add, nI_ltb, nI_leb, nI_eqb, nI_cl, zin_nI, n9, h1]
    rfl
  | succ m ih =>
    intro j v hj
    have h1 : ¬ ln (gF G) ≤ j := by omega
    have hr := hT.2.2.2 j (by omega)
    obtain ⟨hr1, hr2⟩ := hW.1.2.2.1 j (by omega)
    rw [hr1] at hr
    have p6 := (hT.2.2.1 (rw (gF G) j) (by omega)).2
    rw [prF, ← ih (j + 1) _ (by omega)]
    rw [q92_4]
    simp (disch := first | assumption | exact nar_b0 | exact nar_b1 | exact nar_b | exact Or.inl rfl | exact Or.inr rfl | exact zin_t (by omega) (by omega) | exact Nat.le_of_ble_eq_true rfl | (rw [nI_cl (by omega)]; assumption) | omega) only [↓reduceIte, reduceCtorEq, not_true_eq_false, not_false_eq_true, q92_0, q92_1, q92_2, q92_3, q92_5, q92_6, q92_9, q92_12, q92_15, q92_18, q92_19, q92_20, q92_21, q92_24, q92_27, q92_28, q92_29, q92_30, q92_31, q92_32, q92_35, q92_36, q92_37, q92_38, q92_41, q92_44, q92_45, q92_48, q92_51, q92_52, q92_53, q92_54, q92_55, q92_56, q92_57, q92_60, q92_63, q92_64, kl_int, kl_ref, kl_tok, cS_nil, cS_int, cS_ref, cS_long, tl_some, tl_none, List.cons_append, List.nil_append, nI_add, nI_ltb, nI_leb, nI_eqb, nI_cl, zin_nI, n9, h1, hr, p6]
theorem c_print (hW : WG G) (hC : CS M R i G) : cal d 92 [.ref 0] M R = some (.inl (some (.long (prF (gF G) (ln (gF G)) 0 0))), M, R) := by
  rw [e92]
  simp (disch := first | assumption | exact nar_b0 | exact nar_b1 | exact nar_b | exact Or.inl rfl | exact Or.inr rfl | exact zin_t (by omega) (by omega) | exact Nat.le_of_ble_eq_true rfl | (rw [nI_cl (by omega)]; assumption) | omega) only [↓reduceIte, reduceCtorEq, not_true_eq_false, not_false_eq_true, q92_0, q92_1, q92_2, q92_3, q92_5, q92_6, q92_9, q92_12, q92_15, q92_18, q92_19, q92_20, q92_21, q92_24, q92_27, q92_28, q92_29, q92_30, q92_31, q92_32, q92_35, q92_36, q92_37, q92_38, q92_41, q92_44, q92_45, q92_48, q92_51, q92_52, q92_53, q92_54, q92_55, q92_56, q92_57, q92_60, q92_63, q92_64, kl_int, kl_ref, kl_tok, cS_nil, cS_int, cS_ref, cS_long, tl_some, tl_none, List.cons_append, List.nil_append, nI_add, nI_ltb, nI_leb, nI_eqb, nI_cl, zin_nI]
  exact print_L hW hC (ln (gF G)) 0 0 (by omega)
def gC (G : GS) (X : List P3) : Int32 := iI (sdV (sbit (bs (gF G)) 0) (VV (bn (gF G)) (sn (gF G)) (pn (gF G)) (gTs G) (Un (gF G)))) - iI (sdV (sbit (bs (gF G)) 0) (VV (bn (gF G)) (sn (gF G)) (pn (gF G)) ((gTs G).drop 1) X))
theorem bs0 {B : Nat} (hB : B < 1024) : nI B &&& nI 1 = nI (sbit B 0) := by
  have h := tbit (S := B) (i := 0) (by omega) (by decide)
  have h2 : zshr (nI B) (nI 0) = nI B := by
    rw [nI_shr (by omega) (by decide)]
    rfl
  rw [h2] at h
  rw [h, b2s]
theorem may_iff {f : Nat → Int32} {k : Nat} (h : may f k = true) : 0 < lf f ∧ stk f k = false := by
  unfold may at h
  rw [Bool.and_eq_true, Bool.and_eq_true] at h
  exact ⟨of_decide_eq_true h.1, by simpa using h.2.1⟩
theorem plc_un {f : Nat → Int32} (hW : Wf f) {p : Nat} (hp : p < ln f) (hu : stk f (rw f p) = false) {r : Nat → Int32} (hr : ∀ (j : Nat) (h : j < (Un f).length), r j = nI ((Un f)[j]).1) : plc r (nI (rw f p)) (Un f).length 0 = some (cnt (stS f) p) := by
  obtain ⟨h1, h2⟩ := plUn hW hp hu
  have hw := hW.nums
  have hl : (Un f).length = (UL f).length := by unfold Un; rw [List.length_map]
  have hun : ∀ (j : Nat) (h : j < (Un f).length), ((Un f)[j]).1 = (UL f)[j] := fun j h => by
    simp [Un, pers]
  have hlt : ∀ (j : Nat) (h : j < (UL f).length), (UL f)[j] < 14 := fun j h => ulF_lt hW (ln f) 0 (by omega) _ (List.getElem_mem h)
  obtain ⟨h3, h4⟩ := List.getElem?_eq_some_iff.mp h1
  cases h : plc r (nI (rw f p)) (Un f).length 0 with
  | none =>
    exfalso
    refine plc_none _ _ h (cnt (stS f) p) (Nat.zero_le _) (by omega) ?_
    rw [hr _ h2, hun _ h2, h4]
  | some q =>
    obtain ⟨g1, g2, g3⟩ := plc_some _ _ _ h
    rw [Nat.zero_add] at g2
    have hq : q < (UL f).length := by omega
    rw [hr q g2, hun q g2, ← h4, nI_eqb (by have := hlt q hq; omega) (by have := hlt _ h3; omega)] at g3
    have hinc := List.pairwise_iff_getElem.mp (UL_inc hW)
    congr 1
    rcases Nat.lt_trichotomy q (cnt (stS f) p) with c | c | c
    · have := hinc q _ hq h3 c; omega
    · exact c
    · have := hinc _ q h3 hq c; omega
theorem c_cost_t {x : Int32} {p : Nat} (hx : plI (gF G) x = some p) (hm : may (gF G) (rw (gF G) p) = true) (hW : WG G) (hC : CS M R i G) : OutC (cal (d + 5) 84 [.ref 0, .int x] M R) M R 0 0 (gC G (Tk (gF G) x)) G := by
  have hS := hC.1.1
  have hi := hC.1.2.2.2
  have hnow := hC.1.2.2.1
  obtain ⟨nN, k0, k1, l1, f0_2, f0_10, f0_0, f0_12, f0_11, f0_14⟩ := benF hS
  obtain ⟨nN, tlt, kt0, kt1, lt1, kt2, lt2, kt3, lt3, kt4, lt4, kt5, lt5, kt6, lt6, kt7, lt7, kt8, lt8, ft0_0, ft1_0, ft1_1, ft0_1, ft0_2, ft0_3, ft0_4, ft0_5⟩ := tabF hS hi
  obtain ⟨nN, k106, k107, k108, l108, k109, l109, k110, l110, k111, l111, k112, l112, k113, l113, k114, l114, k115, l115, k116, l116, k117, l117, f106_0, f107_0, f107_1, f109_0, f109_1, f106_1, f112_0, f112_1, f106_2, f106_3, f106_4⟩ := lokF hS
  have hw := hW.1.nums
  obtain ⟨p1, rfl, p3, p4⟩ := plI_some hW.1 hx
  obtain ⟨m1, m2⟩ := may_iff hm
  have h1 := needInRow_t (d := d + 3) hx hW hC
  have h2 := mayStrike_ (d := d + 1) (k := rw (gF G) p) p4 hS hi hW.1 hC.2.2.2.1
  rw [hm] at h2
  obtain ⟨M1, J1, a1, a2, a3, a4⟩ := lookAhead_ (d := d + 1) hW hC
  have hSJ : Sh (jR R J1) := hS.j
  obtain ⟨nN_2, k0_2, k1_2, l1_2, f0_2_2, f0_10_2, f0_0_2, f0_12_2, f0_11_2, f0_14_2⟩ := benF hSJ
  obtain ⟨nN_2, tlt_2, kt0_2, kt1_2, lt1_2, kt2_2, lt2_2, kt3_2, lt3_2, kt4_2, lt4_2, kt5_2, lt5_2, kt6_2, lt6_2, kt7_2, lt7_2, kt8_2, lt8_2, ft0_0_2, ft1_0_2, ft1_1_2, ft0_1_2, ft0_2_2, ft0_3_2, ft0_4_2, ft0_5_2⟩ := tabF hSJ hi
  obtain ⟨nN_2, k106_2, k107_2, k108_2, l108_2, k109_2, l109_2, k110_2, l110_2, k111_2, l111_2, k112_2, l112_2, k113_2, l113_2, k114_2, l114_2, k115_2, l115_2, k116_2, l116_2, k117_2, l117_2, f106_0_2, f107_0_2, f107_1_2, f109_0_2, f109_1_2, f106_1_2, f112_0_2, f112_1_2, f106_2_2, f106_3_2, f106_4_2⟩ := lokF hSJ
  have n14 := (a2.2.2.2.1.nums hW.1).2.2.2.2.2.2.2.2
  have hs := sbit2 (bs (gF G)) 0
  obtain ⟨ks, ls, fs⟩ := KVs hSJ hs
  have hv := a3.val hs
  have hb0 := bs0 (B := bs (gF G)) (by omega)
  have h3 := placeOf_ (d := d + 4) (x := nI (rw (gF G) p)) hSJ a3.1
  rw [plc_un hW.1 p1 m2 (fun j h => (a3.1.2.1 j h).1)] at h3
  obtain ⟨q1, q2⟩ := plUn hW.1 p1 m2
  have h4 := valueBehind_ (d := d + 4) (s := sbit (bs (gF G)) 0) (o := some (cnt (stS (gF G)) p)) hs (fun j e => by cases e; exact q2) hSJ a3 m1
  have h5 : rem (Un (gF G)) (setO 0 (some (cnt (stS (gF G)) p))) = Tk (gF G) (nI (rw (gF G) p)) := by
    rw [← Un_erase hW.1 p1 m2]
    show rem _ (0 ||| 2 ^ _) = _
    rw [Nat.zero_or]
  rw [h5] at h4
  have z1 : ¬ nI (rw (gF G) p) = -1 := by rw [nI_m1 (by omega)]; exact id
  have hnow_2 : zRf (jR R J1) 0 4 = some (tb i) := hnow
  refine OutC.okJ (M' := M1) ?_ a2 a4
  rw [e84]
  simp (disch := first | assumption | exact nar_b0 | exact nar_b1 | exact nar_b | exact Or.inl rfl | exact Or.inr rfl | exact zin_t (by omega) (by omega) | exact Nat.le_of_ble_eq_true rfl | (rw [nI_cl (by omega)]; assumption) | omega) only [↓reduceIte, reduceCtorEq, not_true_eq_false, not_false_eq_true, q84_0, q84_1, q84_2, q84_5, q84_6, q84_7, q84_10, q84_11, q84_12, q84_15, q84_16, q84_19, q84_22, q84_25, q84_28, q84_29, q84_32, q84_33, q84_36, q84_39, q84_40i, q84_40a, q84_41, q84_44, q84_45, q84_46, q84_49, q84_52i, q84_52a, q84_59, q84_60, q84_63, q84_64, q84_67, q84_70, q84_71, q84_72, q84_73, q84_74, q84_77, q84_80, q84_81, q84_82, q84_83, q84_84, q84_85, q84_88, q84_89, q84_90, q84_93, q84_94, q84_97, q84_100, q84_101, kl_int, kl_ref, kl_tok, cS_nil, cS_int, cS_ref, cS_long, tl_some, tl_none, List.cons_append, List.nil_append, nI_add, nI_ltb, nI_leb, nI_eqb, nI_cl, zin_nI, z1, h1, zk0_inl, h2, b2i_0, a1, n14, hb0, hv, h3, h4]
  rfl
theorem c_cost_n (h0 : 0 < lf (gF G)) (hW : WG G) (hC : CS M R i G) : OutC (cal (d + 5) 84 [.ref 0, .int (-1)] M R) M R 0 0 (gC G (Un (gF G))) G := by
  have hS := hC.1.1
  have hi := hC.1.2.2.2
  have hnow := hC.1.2.2.1
  obtain ⟨nN, k0, k1, l1, f0_2, f0_10, f0_0, f0_12, f0_11, f0_14⟩ := benF hS
  obtain ⟨nN, tlt, kt0, kt1, lt1, kt2, lt2, kt3, lt3, kt4, lt4, kt5, lt5, kt6, lt6, kt7, lt7, kt8, lt8, ft0_0, ft1_0, ft1_1, ft0_1, ft0_2, ft0_3, ft0_4, ft0_5⟩ := tabF hS hi
  obtain ⟨nN, k106, k107, k108, l108, k109, l109, k110, l110, k111, l111, k112, l112, k113, l113, k114, l114, k115, l115, k116, l116, k117, l117, f106_0, f107_0, f107_1, f109_0, f109_1, f106_1, f112_0, f112_1, f106_2, f106_3, f106_4⟩ := lokF hS
  have hw := hW.1.nums
  have hn := hC.2.2.2.1.nums hW.1
  obtain ⟨M1, J1, a1, a2, a3, a4⟩ := lookAhead_ (d := d + 1) hW hC
  have hSJ : Sh (jR R J1) := hS.j
  obtain ⟨nN_2, k0_2, k1_2, l1_2, f0_2_2, f0_10_2, f0_0_2, f0_12_2, f0_11_2, f0_14_2⟩ := benF hSJ
  obtain ⟨nN_2, tlt_2, kt0_2, kt1_2, lt1_2, kt2_2, lt2_2, kt3_2, lt3_2, kt4_2, lt4_2, kt5_2, lt5_2, kt6_2, lt6_2, kt7_2, lt7_2, kt8_2, lt8_2, ft0_0_2, ft1_0_2, ft1_1_2, ft0_1_2, ft0_2_2, ft0_3_2, ft0_4_2, ft0_5_2⟩ := tabF hSJ hi
  obtain ⟨nN_2, k106_2, k107_2, k108_2, l108_2, k109_2, l109_2, k110_2, l110_2, k111_2, l111_2, k112_2, l112_2, k113_2, l113_2, k114_2, l114_2, k115_2, l115_2, k116_2, l116_2, k117_2, l117_2, f106_0_2, f107_0_2, f107_1_2, f109_0_2, f109_1_2, f106_1_2, f112_0_2, f112_1_2, f106_2_2, f106_3_2, f106_4_2⟩ := lokF hSJ
  have n14 := (a2.2.2.2.1.nums hW.1).2.2.2.2.2.2.2.2
  have hs := sbit2 (bs (gF G)) 0
  obtain ⟨ks, ls, fs⟩ := KVs hSJ hs
  have hv := a3.val hs
  have hb0 := bs0 (B := bs (gF G)) (by omega)
  have h3 := placeOf_ (d := d + 4) (x := -1) hSJ a3.1
  have h3n : plc (M1 108) (-1) (Un (gF G)).length 0 = none := by
    cases h : plc (M1 108) (-1) (Un (gF G)).length 0 with
    | none => rfl
    | some q =>
      obtain ⟨g1, g2, g3⟩ := plc_some _ _ _ h
      rw [Nat.zero_add] at g2
      rw [(a3.1.2.1 q g2).1] at g3
      have := (a3.1.2.2.2 _ (List.getElem_mem g2)).1
      rw [nI_m1 (by omega)] at g3
      exact g3.elim
  rw [h3n] at h3
  have h4 := valueBehind_ (d := d + 4) (s := sbit (bs (gF G)) 0) (o := none) hs (fun j e => by cases e) hSJ a3 h0
  have h5 : rem (Un (gF G)) (setO 0 none) = Un (gF G) := rem_zero _
  rw [h5] at h4
  have z1 : ¬ lf (gF G) = 0 := by omega
  have hnow_2 : zRf (jR R J1) 0 4 = some (tb i) := hnow
  refine OutC.okJ (M' := M1) ?_ a2 a4
  rw [e84]
  simp (disch := first | assumption | exact nar_b0 | exact nar_b1 | exact nar_b | exact Or.inl rfl | exact Or.inr rfl | exact zin_t (by omega) (by omega) | exact Nat.le_of_ble_eq_true rfl | (rw [nI_cl (by omega)]; assumption) | omega) only [↓reduceIte, reduceCtorEq, not_true_eq_false, not_false_eq_true, q84_0, q84_1, q84_2, q84_5, q84_6, q84_7, q84_10, q84_11, q84_12, q84_15, q84_16, q84_19, q84_22, q84_25, q84_28, q84_29, q84_32, q84_33, q84_36, q84_39, q84_40i, q84_40a, q84_41, q84_44, q84_45, q84_46, q84_49, q84_52i, q84_52a, q84_59, q84_60, q84_63, q84_64, q84_67, q84_70, q84_71, q84_72, q84_73, q84_74, q84_77, q84_80, q84_81, q84_82, q84_83, q84_84, q84_85, q84_88, q84_89, q84_90, q84_93, q84_94, q84_97, q84_100, q84_101, kl_int, kl_ref, kl_tok, cS_nil, cS_int, cS_ref, cS_long, tl_some, tl_none, List.cons_append, List.nil_append, nI_add, nI_ltb, nI_leb, nI_eqb, nI_cl, zin_nI, zk0_inl, hn.2.2.2.2.2.2.2.1, z1, a1, n14, hb0, hv, h3, h4]
  rfl
theorem c_cost_f1 {x v : Int32} (hx : plI (gF G) x = none) (hx1 : ¬ x = -1) (hW : WG G) (hC : CS M R i G) : OutC (cal (d + 5) 84 [.ref 0, .int x] M R) M R 1 0 v (rfN G) := by
  have hS := hC.1.1
  obtain ⟨nN, k0, k1, l1, f0_2, f0_10, f0_0, f0_12, f0_11, f0_14⟩ := benF hS
  have h1 := needInRow_f (d := d + 3) hx hW hC
  refine OutC.rN ?_ (by decide) hC FrC.refl
  rw [e84]
  simp (disch := first | assumption | exact nar_b0 | exact nar_b1 | exact nar_b | exact Or.inl rfl | exact Or.inr rfl | exact zin_t (by omega) (by omega) | exact Nat.le_of_ble_eq_true rfl | (rw [nI_cl (by omega)]; assumption) | omega) only [↓reduceIte, reduceCtorEq, not_true_eq_false, not_false_eq_true, q84_0, q84_1, q84_2, q84_5, q84_6, q84_7, q84_10, q84_11, q84_12, q84_15, q84_16, q84_19, q84_22, q84_25, q84_28, q84_29, q84_32, q84_33, q84_36, q84_39, q84_40i, q84_40a, q84_41, q84_44, q84_45, q84_46, q84_49, q84_52i, q84_52a, q84_59, q84_60, q84_63, q84_64, q84_67, q84_70, q84_71, q84_72, q84_73, q84_74, q84_77, q84_80, q84_81, q84_82, q84_83, q84_84, q84_85, q84_88, q84_89, q84_90, q84_93, q84_94, q84_97, q84_100, q84_101, kl_int, kl_ref, kl_tok, cS_nil, cS_int, cS_ref, cS_long, tl_some, tl_none, List.cons_append, List.nil_append, nI_add, nI_ltb, nI_leb, nI_eqb, nI_cl, zin_nI, hx1, h1, zk0_inr]
theorem c_cost_f2 {x v : Int32} {p : Nat} (hx : plI (gF G) x = some p) (hm : may (gF G) (rw (gF G) p) = false) (hW : WG G) (hC : CS M R i G) : OutC (cal (d + 5) 84 [.ref 0, .int x] M R) M R 2 2 v (rfS G) := by
  have hS := hC.1.1
  have hi := hC.1.2.2.2
  have hnow := hC.1.2.2.1
  obtain ⟨nN, k0, k1, l1, f0_2, f0_10, f0_0, f0_12, f0_11, f0_14⟩ := benF hS
  obtain ⟨nN, tlt, kt0, kt1, lt1, kt2, lt2, kt3, lt3, kt4, lt4, kt5, lt5, kt6, lt6, kt7, lt7, kt8, lt8, ft0_0, ft1_0, ft1_1, ft0_1, ft0_2, ft0_3, ft0_4, ft0_5⟩ := tabF hS hi
  have hw := hW.1.nums
  obtain ⟨p1, rfl, p3, p4⟩ := plI_some hW.1 hx
  have h1 := needInRow_t (d := d + 3) hx hW hC
  have h2 := mayStrike_ (d := d + 1) (k := rw (gF G) p) p4 hS hi hW.1 hC.2.2.2.1
  rw [hm] at h2
  have h9 := hC.2.1.2.2.2.2.2.2
  have z1 : ¬ nI (rw (gF G) p) = -1 := by rw [nI_m1 (by omega)]; exact id
  refine OutC.rS ?_ (by decide) hC FrC.refl
  rw [e84]
  simp (disch := first | assumption | exact nar_b0 | exact nar_b1 | exact nar_b | exact Or.inl rfl | exact Or.inr rfl | exact zin_t (by omega) (by omega) | exact Nat.le_of_ble_eq_true rfl | (rw [nI_cl (by omega)]; assumption) | omega) only [↓reduceIte, reduceCtorEq, not_true_eq_false, not_false_eq_true, q84_0, q84_1, q84_2, q84_5, q84_6, q84_7, q84_10, q84_11, q84_12, q84_15, q84_16, q84_19, q84_22, q84_25, q84_28, q84_29, q84_32, q84_33, q84_36, q84_39, q84_40i, q84_40a, q84_41, q84_44, q84_45, q84_46, q84_49, q84_52i, q84_52a, q84_59, q84_60, q84_63, q84_64, q84_67, q84_70, q84_71, q84_72, q84_73, q84_74, q84_77, q84_80, q84_81, q84_82, q84_83, q84_84, q84_85, q84_88, q84_89, q84_90, q84_93, q84_94, q84_97, q84_100, q84_101, kl_int, kl_ref, kl_tok, cS_nil, cS_int, cS_ref, cS_long, tl_some, tl_none, List.cons_append, List.nil_append, nI_add, nI_ltb, nI_leb, nI_eqb, nI_cl, zin_nI, z1, h1, zk0_inl, h2, b2i_0, h9]
theorem c_cost_f3 {v : Int32} (h0 : lf (gF G) = 0) (hW : WG G) (hC : CS M R i G) : OutC (cal (d + 5) 84 [.ref 0, .int (-1)] M R) M R 2 2 v (rfS G) := by
  have hS := hC.1.1
  have hi := hC.1.2.2.2
  have hnow := hC.1.2.2.1
  obtain ⟨nN, k0, k1, l1, f0_2, f0_10, f0_0, f0_12, f0_11, f0_14⟩ := benF hS
  obtain ⟨nN, tlt, kt0, kt1, lt1, kt2, lt2, kt3, lt3, kt4, lt4, kt5, lt5, kt6, lt6, kt7, lt7, kt8, lt8, ft0_0, ft1_0, ft1_1, ft0_1, ft0_2, ft0_3, ft0_4, ft0_5⟩ := tabF hS hi
  have hn := hC.2.2.2.1.nums hW.1
  have hw := hW.1.nums
  have h9 := hC.2.1.2.2.2.2.2.2
  refine OutC.rS ?_ (by decide) hC FrC.refl
  rw [e84]
  simp (disch := first | assumption | exact nar_b0 | exact nar_b1 | exact nar_b | exact Or.inl rfl | exact Or.inr rfl | exact zin_t (by omega) (by omega) | exact Nat.le_of_ble_eq_true rfl | (rw [nI_cl (by omega)]; assumption) | omega) only [↓reduceIte, reduceCtorEq, not_true_eq_false, not_false_eq_true, q84_0, q84_1, q84_2, q84_5, q84_6, q84_7, q84_10, q84_11, q84_12, q84_15, q84_16, q84_19, q84_22, q84_25, q84_28, q84_29, q84_32, q84_33, q84_36, q84_39, q84_40i, q84_40a, q84_41, q84_44, q84_45, q84_46, q84_49, q84_52i, q84_52a, q84_59, q84_60, q84_63, q84_64, q84_67, q84_70, q84_71, q84_72, q84_73, q84_74, q84_77, q84_80, q84_81, q84_82, q84_83, q84_84, q84_85, q84_88, q84_89, q84_90, q84_93, q84_94, q84_97, q84_100, q84_101, kl_int, kl_ref, kl_tok, cS_nil, cS_int, cS_ref, cS_long, tl_some, tl_none, List.cons_append, List.nil_append, nI_add, nI_ltb, nI_leb, nI_eqb, nI_cl, zin_nI, hn.2.2.2.2.2.2.2.1, h0, h9]
end Qc
