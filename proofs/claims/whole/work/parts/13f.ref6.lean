-- the reference: seats, counts
section Mt
variable {d : Nat} {M : ZM} {R : ZH} {G : GS}
theorem seatR_L0 {se sp bx S : Nat} {Rw : List P3} {ts : List Nat} {x : Value} (hSt : S < 1024) (hS : Sh R) (hG : GmR M se sp bx Rw ts) : ∀ (m k l : Nat), k + m = Rw.length → l < 2147483648 → exe (d + 3) 167 40 [.ref 127, x, .int (nI 0), .int (nI l), .int (nI S), .int (nI k)] [] M R = some (.inl (some (.int (if l + cnt S k < se then nobI (((remI (Rw.drop k) S k).map (fun p => p.1))[l]?) else nob))), M, R) := by
  obtain ⟨nN, k127, k128, l128, k129, l129, k130, l130, k131, l131, k132, l132, k133, l133, k134, l134, k135, l135, k136, l136, k137, l137, k138, l138, k139, l139, k140, l140, k141, l141, k142, l142, k143, l143, k144, l144, k145, l145, k146, l146, f127_1, f127_2, f127_3, f127_4, f127_6, f127_7, f127_17, f127_18, f127_19, f127_22, f127_24, f127_25, f127_26, f127_29, f127_30, f127_31, f127_32, f127_33⟩ := modF hS
  have h2 := hG.1
  have hl := hG.2.2.2.1
  have hnb : (-100000 : Int32) = nob := rfl
  intro m
  induction m with
  | zero =>
    intro k l hk hlt
    have z1 : Rw.length ≤ k := by omega
    rw [q167_40]
    simp (disch := first | assumption | exact nar_b0 | exact nar_b1 | exact nar_b | exact Or.inl rfl | exact Or.inr rfl | exact zin_t (by omega) (by omega) | exact Nat.le_of_ble_eq_true rfl | (rw [nI_cl (by omega)]; assumption) | omega) only [↓reduceIte, reduceCtorEq, not_true_eq_false, not_false_eq_true, q167_0, q167_1, q167_2, q167_5, q167_6, q167_7, q167_10, q167_11, q167_14, q167_15, q167_16, q167_17, q167_20, q167_23, q167_24, q167_25, q167_26, q167_29, q167_30, q167_31, q167_32, q167_35, q167_37, q167_38, q167_42, q167_43, q167_46, q167_49, q167_50, q167_53, q167_54, q167_56, q167_58, q167_61, q167_64, q167_67, q167_68, q167_70, q167_72, q167_75, q167_78, q167_81, q167_82, q167_85, q167_86, q167_89, q167_91, q167_92, q167_93, q167_96, q167_99, q167_102, q167_105, kl_int, kl_ref, kl_tok, cS_nil, cS_int, cS_ref, cS_long, tl_some, tl_none, List.cons_append, List.nil_append, nI_add, nI_ltb, nI_leb, nI_eqb, nI_cl, zin_nI, h2.1, z1, hnb]
    rw [remI_end z1]
    simp [nobI]
  | succ m ih =>
    intro k l hk hlt
    have z1 : ¬ Rw.length ≤ k := by omega
    have hb := isBoxed_ (d := d) (M := M) (R := R) (S := S) (p := k) (by omega) (by omega) hS h2.2.2.1 (by omega)
    have hci1 : cnt S (k + 1) = cnt S k + if S.testBit k then 0 else 1 := rfl
    have w1 := (hG.2.1 k (by omega)).1
    rw [remI_step (l := Rw) (S := S) (i := k) (by omega)]
    cases hbit : S.testBit k
    · rw [hbit] at hci1 hb
      have hci2 : cnt S (k + 1) = cnt S k + 1 := by simpa using hci1
      rw [if_neg (show ¬ (false = true) by decide), List.map_cons]
      by_cases c : cnt S k < se
      · rw [decide_eq_true c, Bool.not_false, Bool.true_and] at hb
        by_cases l0 : l = 0
        · subst l0
          rw [q167_40]
          simp (disch := first | assumption | exact nar_b0 | exact nar_b1 | exact nar_b | exact Or.inl rfl | exact Or.inr rfl | exact zin_t (by omega) (by omega) | exact Nat.le_of_ble_eq_true rfl | (rw [nI_cl (by omega)]; assumption) | omega) only [↓reduceIte, reduceCtorEq, not_true_eq_false, not_false_eq_true, q167_0, q167_1, q167_2, q167_5, q167_6, q167_7, q167_10, q167_11, q167_14, q167_15, q167_16, q167_17, q167_20, q167_23, q167_24, q167_25, q167_26, q167_29, q167_30, q167_31, q167_32, q167_35, q167_37, q167_38, q167_42, q167_43, q167_46, q167_49, q167_50, q167_53, q167_54, q167_56, q167_58, q167_61, q167_64, q167_67, q167_68, q167_70, q167_72, q167_75, q167_78, q167_81, q167_82, q167_85, q167_86, q167_89, q167_91, q167_92, q167_93, q167_96, q167_99, q167_102, q167_105, kl_int, kl_ref, kl_tok, cS_nil, cS_int, cS_ref, cS_long, tl_some, tl_none, List.cons_append, List.nil_append, nI_add, nI_ltb, nI_leb, nI_eqb, nI_cl, zin_nI, h2.1, z1, hb, zk0_inl, b2i_0, w1]
          rw [if_pos (by omega)]
          rfl
        · have e1 : l = (l - 1) + 1 := by omega
          have g := ih (k + 1) (l - 1) (by omega) (by omega)
          rw [hci2, show l - 1 + (cnt S k + 1) = l + cnt S k by omega] at g
          have e2 : (((Rw[k]).1 :: (remI (Rw.drop (k + 1)) S (k + 1)).map (fun p => p.1)))[l]? = ((remI (Rw.drop (k + 1)) S (k + 1)).map (fun p => p.1))[l - 1]? := by
            rw [e1, List.getElem?_cons_succ, Nat.add_sub_cancel]
          rw [e2, ← g]
          have hl1 : 1 ≤ l := by omega
          rw [q167_40]
          simp (disch := first | assumption | exact nar_b0 | exact nar_b1 | exact nar_b | exact Or.inl rfl | exact Or.inr rfl | exact zin_t (by omega) (by omega) | exact Nat.le_of_ble_eq_true rfl | (rw [nI_cl (by omega)]; assumption) | omega) only [↓reduceIte, reduceCtorEq, not_true_eq_false, not_false_eq_true, q167_0, q167_1, q167_2, q167_5, q167_6, q167_7, q167_10, q167_11, q167_14, q167_15, q167_16, q167_17, q167_20, q167_23, q167_24, q167_25, q167_26, q167_29, q167_30, q167_31, q167_32, q167_35, q167_37, q167_38, q167_42, q167_43, q167_46, q167_49, q167_50, q167_53, q167_54, q167_56, q167_58, q167_61, q167_64, q167_67, q167_68, q167_70, q167_72, q167_75, q167_78, q167_81, q167_82, q167_85, q167_86, q167_89, q167_91, q167_92, q167_93, q167_96, q167_99, q167_102, q167_105, kl_int, kl_ref, kl_tok, cS_nil, cS_int, cS_ref, cS_long, tl_some, tl_none, List.cons_append, List.nil_append, nI_add, nI_ltb, nI_leb, nI_eqb, nI_cl, zin_nI, h2.1, z1, hb, zk0_inl, b2i_0, l0, nI_sub1]
      · rw [decide_eq_false c, Bool.and_false] at hb
        have g := ih (k + 1) l (by omega) hlt
        rw [if_neg (by omega)] at g
        rw [if_neg (by omega), ← g]
        rw [q167_40]
        simp (disch := first | assumption | exact nar_b0 | exact nar_b1 | exact nar_b | exact Or.inl rfl | exact Or.inr rfl | exact zin_t (by omega) (by omega) | exact Nat.le_of_ble_eq_true rfl | (rw [nI_cl (by omega)]; assumption) | omega) only [↓reduceIte, reduceCtorEq, not_true_eq_false, not_false_eq_true, q167_0, q167_1, q167_2, q167_5, q167_6, q167_7, q167_10, q167_11, q167_14, q167_15, q167_16, q167_17, q167_20, q167_23, q167_24, q167_25, q167_26, q167_29, q167_30, q167_31, q167_32, q167_35, q167_37, q167_38, q167_42, q167_43, q167_46, q167_49, q167_50, q167_53, q167_54, q167_56, q167_58, q167_61, q167_64, q167_67, q167_68, q167_70, q167_72, q167_75, q167_78, q167_81, q167_82, q167_85, q167_86, q167_89, q167_91, q167_92, q167_93, q167_96, q167_99, q167_102, q167_105, kl_int, kl_ref, kl_tok, cS_nil, cS_int, cS_ref, cS_long, tl_some, tl_none, List.cons_append, List.nil_append, nI_add, nI_ltb, nI_leb, nI_eqb, nI_cl, zin_nI, h2.1, z1, hb, zk0_inl, b2i_0]
    · rw [hbit] at hci1 hb
      have hci2 : cnt S (k + 1) = cnt S k := by simpa using hci1
      rw [if_pos (show (true = true) from rfl), ← hci2, ← ih (k + 1) l (by omega) hlt]
      rw [q167_40]
      simp (disch := first | assumption | exact nar_b0 | exact nar_b1 | exact nar_b | exact Or.inl rfl | exact Or.inr rfl | exact zin_t (by omega) (by omega) | exact Nat.le_of_ble_eq_true rfl | (rw [nI_cl (by omega)]; assumption) | omega) only [↓reduceIte, reduceCtorEq, not_true_eq_false, not_false_eq_true, q167_0, q167_1, q167_2, q167_5, q167_6, q167_7, q167_10, q167_11, q167_14, q167_15, q167_16, q167_17, q167_20, q167_23, q167_24, q167_25, q167_26, q167_29, q167_30, q167_31, q167_32, q167_35, q167_37, q167_38, q167_42, q167_43, q167_46, q167_49, q167_50, q167_53, q167_54, q167_56, q167_58, q167_61, q167_64, q167_67, q167_68, q167_70, q167_72, q167_75, q167_78, q167_81, q167_82, q167_85, q167_86, q167_89, q167_91, q167_92, q167_93, q167_96, q167_99, q167_102, q167_105, kl_int, kl_ref, kl_tok, cS_nil, cS_int, cS_ref, cS_long, tl_some, tl_none, List.cons_append, List.nil_append, nI_add, nI_ltb, nI_leb, nI_eqb, nI_cl, zin_nI, h2.1, z1, hb, zk0_inl, b2i_0, Bool.not_true, Bool.false_and]
theorem seatR_L1 {se sp bx S : Nat} {Rw : List P3} {ts : List Nat} {x : Value} (hSt : S < 1024) (hS : Sh R) (hG : GmR M se sp bx Rw ts) : ∀ (m k l : Nat), k + m = Rw.length → l < 2147483648 → exe (d + 3) 167 40 [.ref 127, x, .int (nI 1), .int (nI l), .int (nI S), .int (nI k)] [] M R = some (.inl (some (.int (if l + max (cnt S k) se < se + sp then nobI (((remI (Rw.drop k) S k).map (fun p => p.1))[l + (se - cnt S k)]?) else nob))), M, R) := by
  obtain ⟨nN, k127, k128, l128, k129, l129, k130, l130, k131, l131, k132, l132, k133, l133, k134, l134, k135, l135, k136, l136, k137, l137, k138, l138, k139, l139, k140, l140, k141, l141, k142, l142, k143, l143, k144, l144, k145, l145, k146, l146, f127_1, f127_2, f127_3, f127_4, f127_6, f127_7, f127_17, f127_18, f127_19, f127_22, f127_24, f127_25, f127_26, f127_29, f127_30, f127_31, f127_32, f127_33⟩ := modF hS
  have h2 := hG.1
  have hl := hG.2.2.2.1
  have hnb : (-100000 : Int32) = nob := rfl
  have z9 : ¬ 1 = 0 := by decide
  intro m
  induction m with
  | zero =>
    intro k l hk hlt
    have z1 : Rw.length ≤ k := by omega
    rw [q167_40]
    simp (disch := first | assumption | exact nar_b0 | exact nar_b1 | exact nar_b | exact Or.inl rfl | exact Or.inr rfl | exact zin_t (by omega) (by omega) | exact Nat.le_of_ble_eq_true rfl | (rw [nI_cl (by omega)]; assumption) | omega) only [↓reduceIte, reduceCtorEq, not_true_eq_false, not_false_eq_true, q167_0, q167_1, q167_2, q167_5, q167_6, q167_7, q167_10, q167_11, q167_14, q167_15, q167_16, q167_17, q167_20, q167_23, q167_24, q167_25, q167_26, q167_29, q167_30, q167_31, q167_32, q167_35, q167_37, q167_38, q167_42, q167_43, q167_46, q167_49, q167_50, q167_53, q167_54, q167_56, q167_58, q167_61, q167_64, q167_67, q167_68, q167_70, q167_72, q167_75, q167_78, q167_81, q167_82, q167_85, q167_86, q167_89, q167_91, q167_92, q167_93, q167_96, q167_99, q167_102, q167_105, kl_int, kl_ref, kl_tok, cS_nil, cS_int, cS_ref, cS_long, tl_some, tl_none, List.cons_append, List.nil_append, nI_add, nI_ltb, nI_leb, nI_eqb, nI_cl, zin_nI, h2.1, z1, hnb]
    rw [remI_end z1]
    simp [nobI]
  | succ m ih =>
    intro k l hk hlt
    have z1 : ¬ Rw.length ≤ k := by omega
    have hb := isSpare_ (d := d) (M := M) (R := R) (S := S) (p := k) (by omega) (by omega) hS h2.2.2.1 h2.2.2.2.1 (by omega) (by omega)
    have hci1 : cnt S (k + 1) = cnt S k + if S.testBit k then 0 else 1 := rfl
    have w1 := (hG.2.1 k (by omega)).1
    rw [remI_step (l := Rw) (S := S) (i := k) (by omega)]
    cases hbit : S.testBit k
    · rw [hbit] at hci1 hb
      have hci2 : cnt S (k + 1) = cnt S k + 1 := by simpa using hci1
      rw [if_neg (show ¬ (false = true) by decide), List.map_cons]
      by_cases c : se ≤ cnt S k ∧ cnt S k < se + sp
      · rw [decide_eq_true c, Bool.not_false, Bool.true_and] at hb
        have e0 : se - cnt S k = 0 := by omega
        have em : max (cnt S k) se = cnt S k := by omega
        rw [show l + (se - cnt S k) = l by omega, em]
        by_cases l0 : l = 0
        · subst l0
          rw [q167_40]
          simp (disch := first | assumption | exact nar_b0 | exact nar_b1 | exact nar_b | exact Or.inl rfl | exact Or.inr rfl | exact zin_t (by omega) (by omega) | exact Nat.le_of_ble_eq_true rfl | (rw [nI_cl (by omega)]; assumption) | omega) only [↓reduceIte, reduceCtorEq, not_true_eq_false, not_false_eq_true, q167_0, q167_1, q167_2, q167_5, q167_6, q167_7, q167_10, q167_11, q167_14, q167_15, q167_16, q167_17, q167_20, q167_23, q167_24, q167_25, q167_26, q167_29, q167_30, q167_31, q167_32, q167_35, q167_37, q167_38, q167_42, q167_43, q167_46, q167_49, q167_50, q167_53, q167_54, q167_56, q167_58, q167_61, q167_64, q167_67, q167_68, q167_70, q167_72, q167_75, q167_78, q167_81, q167_82, q167_85, q167_86, q167_89, q167_91, q167_92, q167_93, q167_96, q167_99, q167_102, q167_105, kl_int, kl_ref, kl_tok, cS_nil, cS_int, cS_ref, cS_long, tl_some, tl_none, List.cons_append, List.nil_append, nI_add, nI_ltb, nI_leb, nI_eqb, nI_cl, zin_nI, h2.1, z1, z9, hb, zk0_inl, b2i_0, w1]
          rw [if_pos (by omega)]
          rfl
        · have e1 : l = (l - 1) + 1 := by omega
          have g := ih (k + 1) (l - 1) (by omega) (by omega)
          rw [hci2, show l - 1 + (se - (cnt S k + 1)) = l - 1 by omega, show max (cnt S k + 1) se = cnt S k + 1 by omega, show l - 1 + (cnt S k + 1) = l + cnt S k by omega] at g
          have e2 : (((Rw[k]).1 :: (remI (Rw.drop (k + 1)) S (k + 1)).map (fun p => p.1)))[l]? = ((remI (Rw.drop (k + 1)) S (k + 1)).map (fun p => p.1))[l - 1]? := by
            rw [e1, List.getElem?_cons_succ, Nat.add_sub_cancel]
          rw [e2, ← g]
          have hl1 : 1 ≤ l := by omega
          rw [q167_40]
          simp (disch := first | assumption | exact nar_b0 | exact nar_b1 | exact nar_b | exact Or.inl rfl | exact Or.inr rfl | exact zin_t (by omega) (by omega) | exact Nat.le_of_ble_eq_true rfl | (rw [nI_cl (by omega)]; assumption) | omega) only [↓reduceIte, reduceCtorEq, not_true_eq_false, not_false_eq_true, q167_0, q167_1, q167_2, q167_5, q167_6, q167_7, q167_10, q167_11, q167_14, q167_15, q167_16, q167_17, q167_20, q167_23, q167_24, q167_25, q167_26, q167_29, q167_30, q167_31, q167_32, q167_35, q167_37, q167_38, q167_42, q167_43, q167_46, q167_49, q167_50, q167_53, q167_54, q167_56, q167_58, q167_61, q167_64, q167_67, q167_68, q167_70, q167_72, q167_75, q167_78, q167_81, q167_82, q167_85, q167_86, q167_89, q167_91, q167_92, q167_93, q167_96, q167_99, q167_102, q167_105, kl_int, kl_ref, kl_tok, cS_nil, cS_int, cS_ref, cS_long, tl_some, tl_none, List.cons_append, List.nil_append, nI_add, nI_ltb, nI_leb, nI_eqb, nI_cl, zin_nI, h2.1, z1, z9, hb, zk0_inl, b2i_0, l0, nI_sub1]
      · rw [decide_eq_false c, Bool.and_false] at hb
        have g := ih (k + 1) l (by omega) hlt
        have key : (if l + max (cnt S k) se < se + sp then nobI (((Rw[k]).1 :: (remI (Rw.drop (k + 1)) S (k + 1)).map (fun p => p.1))[l + (se - cnt S k)]?) else nob) = (if l + max (cnt S (k + 1)) se < se + sp then nobI (((remI (Rw.drop (k + 1)) S (k + 1)).map (fun p => p.1))[l + (se - cnt S (k + 1))]?) else nob) := by
          rw [hci2]
          by_cases c1 : cnt S k < se
          · rw [show max (cnt S k) se = se by omega, show max (cnt S k + 1) se = se by omega, show l + (se - cnt S k) = (l + (se - (cnt S k + 1))) + 1 by omega, List.getElem?_cons_succ]
          · rw [if_neg (by omega), if_neg (by omega)]
        rw [key, ← g]
        rw [q167_40]
        simp (disch := first | assumption | exact nar_b0 | exact nar_b1 | exact nar_b | exact Or.inl rfl | exact Or.inr rfl | exact zin_t (by omega) (by omega) | exact Nat.le_of_ble_eq_true rfl | (rw [nI_cl (by omega)]; assumption) | omega) only [↓reduceIte, reduceCtorEq, not_true_eq_false, not_false_eq_true, q167_0, q167_1, q167_2, q167_5, q167_6, q167_7, q167_10, q167_11, q167_14, q167_15, q167_16, q167_17, q167_20, q167_23, q167_24, q167_25, q167_26, q167_29, q167_30, q167_31, q167_32, q167_35, q167_37, q167_38, q167_42, q167_43, q167_46, q167_49, q167_50, q167_53, q167_54, q167_56, q167_58, q167_61, q167_64, q167_67, q167_68, q167_70, q167_72, q167_75, q167_78, q167_81, q167_82, q167_85, q167_86, q167_89, q167_91, q167_92, q167_93, q167_96, q167_99, q167_102, q167_105, kl_int, kl_ref, kl_tok, cS_nil, cS_int, cS_ref, cS_long, tl_some, tl_none, List.cons_append, List.nil_append, nI_add, nI_ltb, nI_leb, nI_eqb, nI_cl, zin_nI, h2.1, z1, z9, hb, zk0_inl, b2i_0]
    · rw [hbit] at hci1 hb
      have hci2 : cnt S (k + 1) = cnt S k := by simpa using hci1
      rw [if_pos (show (true = true) from rfl), ← hci2, ← ih (k + 1) l (by omega) hlt]
      rw [q167_40]
      simp (disch := first | assumption | exact nar_b0 | exact nar_b1 | exact nar_b | exact Or.inl rfl | exact Or.inr rfl | exact zin_t (by omega) (by omega) | exact Nat.le_of_ble_eq_true rfl | (rw [nI_cl (by omega)]; assumption) | omega) only [↓reduceIte, reduceCtorEq, not_true_eq_false, not_false_eq_true, q167_0, q167_1, q167_2, q167_5, q167_6, q167_7, q167_10, q167_11, q167_14, q167_15, q167_16, q167_17, q167_20, q167_23, q167_24, q167_25, q167_26, q167_29, q167_30, q167_31, q167_32, q167_35, q167_37, q167_38, q167_42, q167_43, q167_46, q167_49, q167_50, q167_53, q167_54, q167_56, q167_58, q167_61, q167_64, q167_67, q167_68, q167_70, q167_72, q167_75, q167_78, q167_81, q167_82, q167_85, q167_86, q167_89, q167_91, q167_92, q167_93, q167_96, q167_99, q167_102, q167_105, kl_int, kl_ref, kl_tok, cS_nil, cS_int, cS_ref, cS_long, tl_some, tl_none, List.cons_append, List.nil_append, nI_add, nI_ltb, nI_leb, nI_eqb, nI_cl, zin_nI, h2.1, z1, z9, hb, zk0_inl, b2i_0, Bool.not_true, Bool.false_and]
theorem m_seat_t {k : Nat} {sp : Bool} (hk : k < 2147483648) (hS : Sh R) (hW : WG G) (hM : MS M G) : OutM (cal (d + 7) 167 [.ref 127, .int (nI k), .int (b2i sp)] M R) M R 0 (seatV (gF G) k sp) G := by
  obtain ⟨nN, k127, k128, l128, k129, l129, k130, l130, k131, l131, k132, l132, k133, l133, k134, l134, k135, l135, k136, l136, k137, l137, k138, l138, k139, l139, k140, l140, k141, l141, k142, l142, k143, l143, k144, l144, k145, l145, k146, l146, f127_1, f127_2, f127_3, f127_4, f127_6, f127_7, f127_17, f127_18, f127_19, f127_22, f127_24, f127_25, f127_26, f127_29, f127_30, f127_31, f127_32, f127_33⟩ := modF hS
  have hw := hW.1.nums
  have hM0 : MS (up2 M 127 0 (nI 0)) G := hM.th
  have hf := isFine_t (d := d + 6) (M := up2 M 127 0 (nI 0)) (R := R) (c := nI 1) (k := nI 1) hS up2_at
  obtain ⟨M1, a1, a2, a3, a4, a5⟩ := LG (d := d + 5) (M := up2 M 127 0 (nI 0)) hS hW hM0
  rw [up2_at] at a4
  have h2 := SN (d := d + 6) hS a3 a2
  have z0 : ¬ k < 0 := by omega
  have z1 : ¬ 1 = 0 := by decide
  have hul := UL_un hW.1
  unfold rem at hul
  refine OutM.ok (M' := M1) ?_ a3 a4 (FrM.trans (FrM.up (by decide) (by decide)) a5)
  rw [e167]
  cases sp
  · have h := seatR_L0 (d := d + 4) (x := .int (nI k)) (stS_1024 hW) hS a2 (RowL (gF G)).length 0 k (by omega) hk
    rw [List.drop_zero, hul] at h
    simp (disch := first | assumption | exact nar_b0 | exact nar_b1 | exact nar_b | exact Or.inl rfl | exact Or.inr rfl | exact zin_t (by omega) (by omega) | exact Nat.le_of_ble_eq_true rfl | (rw [nI_cl (by omega)]; assumption) | omega) only [↓reduceIte, reduceCtorEq, not_true_eq_false, not_false_eq_true, q167_0, q167_1, q167_2, q167_5, q167_6, q167_7, q167_10, q167_11, q167_14, q167_15, q167_16, q167_17, q167_20, q167_23, q167_24, q167_25, q167_26, q167_29, q167_30, q167_31, q167_32, q167_35, q167_37, q167_38, q167_42, q167_43, q167_46, q167_49, q167_50, q167_53, q167_54, q167_56, q167_58, q167_61, q167_64, q167_67, q167_68, q167_70, q167_72, q167_75, q167_78, q167_81, q167_82, q167_85, q167_86, q167_89, q167_91, q167_92, q167_93, q167_96, q167_99, q167_102, q167_105, kl_int, kl_ref, kl_tok, cS_nil, cS_int, cS_ref, cS_long, tl_some, tl_none, List.cons_append, List.nil_append, nI_add, nI_ltb, nI_leb, nI_eqb, nI_cl, zin_nI, z0, hf, zk0_inl, z1, a1, h2, b2i_f]
    rw [h]
    rfl
  · have h := seatR_L1 (d := d + 4) (x := .int (nI k)) (stS_1024 hW) hS a2 (RowL (gF G)).length 0 k (by omega) hk
    rw [List.drop_zero, hul] at h
    simp (disch := first | assumption | exact nar_b0 | exact nar_b1 | exact nar_b | exact Or.inl rfl | exact Or.inr rfl | exact zin_t (by omega) (by omega) | exact Nat.le_of_ble_eq_true rfl | (rw [nI_cl (by omega)]; assumption) | omega) only [↓reduceIte, reduceCtorEq, not_true_eq_false, not_false_eq_true, q167_0, q167_1, q167_2, q167_5, q167_6, q167_7, q167_10, q167_11, q167_14, q167_15, q167_16, q167_17, q167_20, q167_23, q167_24, q167_25, q167_26, q167_29, q167_30, q167_31, q167_32, q167_35, q167_37, q167_38, q167_42, q167_43, q167_46, q167_49, q167_50, q167_53, q167_54, q167_56, q167_58, q167_61, q167_64, q167_67, q167_68, q167_70, q167_72, q167_75, q167_78, q167_81, q167_82, q167_85, q167_86, q167_89, q167_91, q167_92, q167_93, q167_96, q167_99, q167_102, q167_105, kl_int, kl_ref, kl_tok, cS_nil, cS_int, cS_ref, cS_long, tl_some, tl_none, List.cons_append, List.nil_append, nI_add, nI_ltb, nI_leb, nI_eqb, nI_cl, zin_nI, z0, hf, zk0_inl, z1, a1, h2, b2i_t]
    rw [h]
    unfold seatV
    have e0 : cnt (stS (gF G)) 0 = 0 := rfl
    rw [e0, Nat.sub_zero, Nat.zero_max, Nat.add_comm k]
    by_cases c : k < pn (gF G)
    · rw [if_pos (by omega)]
      simp [c]
    · rw [if_neg (by omega)]
      simp [c]
theorem m_seat_f {x y v : Int32} (h : x < nI 0) (hS : Sh R) (hM : MS M G) : OutM (cal (d + 7) 167 [.ref 127, .int x, .int y] M R) M R 1 v (rfA G) := by
  obtain ⟨nN, k127, k128, l128, k129, l129, k130, l130, k131, l131, k132, l132, k133, l133, k134, l134, k135, l135, k136, l136, k137, l137, k138, l138, k139, l139, k140, l140, k141, l141, k142, l142, k143, l143, k144, l144, k145, l145, k146, l146, f127_1, f127_2, f127_3, f127_4, f127_6, f127_7, f127_17, f127_18, f127_19, f127_22, f127_24, f127_25, f127_26, f127_29, f127_30, f127_31, f127_32, f127_33⟩ := modF hS
  have hf := isFine_f (d := d + 6) (M := up2 M 127 0 (nI 0)) (R := R) (c := 1) (k := 1) hS up2_at (by decide) (by decide)
  refine OutM.rA (M' := up2 M 127 0 (nI 0)) (v' := nI 0) ?_ (by decide) hM.th (FrM.up (by decide) (by decide))
  rw [e167]
  simp (disch := first | assumption | exact nar_b0 | exact nar_b1 | exact nar_b | exact Or.inl rfl | exact Or.inr rfl | exact zin_t (by omega) (by omega) | exact Nat.le_of_ble_eq_true rfl | (rw [nI_cl (by omega)]; assumption) | omega) only [↓reduceIte, reduceCtorEq, not_true_eq_false, not_false_eq_true, q167_0, q167_1, q167_2, q167_5, q167_6, q167_7, q167_10, q167_11, q167_14, q167_15, q167_16, q167_17, q167_20, q167_23, q167_24, q167_25, q167_26, q167_29, q167_30, q167_31, q167_32, q167_35, q167_37, q167_38, q167_42, q167_43, q167_46, q167_49, q167_50, q167_53, q167_54, q167_56, q167_58, q167_61, q167_64, q167_67, q167_68, q167_70, q167_72, q167_75, q167_78, q167_81, q167_82, q167_85, q167_86, q167_89, q167_91, q167_92, q167_93, q167_96, q167_99, q167_102, q167_105, kl_int, kl_ref, kl_tok, cS_nil, cS_int, cS_ref, cS_long, tl_some, tl_none, List.cons_append, List.nil_append, nI_add, nI_ltb, nI_leb, nI_eqb, nI_cl, zin_nI, h, hf, zk0_inl]
set_option maxHeartbeats 4000000 in
theorem countR_L {se sp bx S w : Nat} {n : Int32} {f : Nat → Int32} {Rw : List P3} {ts : List Nat} (hw3 : w < 3) (hSt : S < 1024) (hS : Sh R) (hG : GmR M se sp bx Rw ts) (h9 : M 129 = f) : ∀ (m k u : Nat) (k6 : Value), k + m = Rw.length → exe (d + 3) 188 40 [.ref 127, .int (nI w), .int n, .int (nI S), .int (nI u), .int (nI k), k6] [] M R = some (.inl (some (.int (nI (u + cvN (cP f w n) (((remI (Rw.drop k) S k).map (fun p => p.1)).take (se + sp - cnt S k)))))), M, R) := by
  obtain ⟨nN, k127, k128, l128, k129, l129, k130, l130, k131, l131, k132, l132, k133, l133, k134, l134, k135, l135, k136, l136, k137, l137, k138, l138, k139, l139, k140, l140, k141, l141, k142, l142, k143, l143, k144, l144, k145, l145, k146, l146, f127_1, f127_2, f127_3, f127_4, f127_6, f127_7, f127_17, f127_18, f127_19, f127_22, f127_24, f127_25, f127_26, f127_29, f127_30, f127_31, f127_32, f127_33⟩ := modF hS
  have h2 := hG.1
  have hl := hG.2.2.2.1
  intro m
  induction m with
  | zero =>
    intro k u k6 hk
    have z1 : Rw.length ≤ k := by omega
    rw [q188_40]
    simp (disch := first | assumption | exact nar_b0 | exact nar_b1 | exact nar_b | exact Or.inl rfl | exact Or.inr rfl | exact zin_t (by omega) (by omega) | exact Nat.le_of_ble_eq_true rfl | (rw [nI_cl (by omega)]; assumption) | omega) only [↓reduceIte, reduceCtorEq, not_true_eq_false, not_false_eq_true, q188_0, q188_1, q188_2, q188_5, q188_6, q188_7, q188_8, q188_9, q188_12, q188_15, q188_16, q188_17, q188_20, q188_23, q188_24, q188_25, q188_26, q188_29, q188_30, q188_33, q188_34, q188_35, q188_37, q188_38, q188_42, q188_43, q188_46, q188_49, q188_50, q188_52, q188_53, q188_56, q188_59, q188_60, q188_62, q188_63, q188_66, q188_69, q188_72, q188_74, q188_75, q188_76, q188_79, q188_81, q188_82, q188_83, q188_84, q188_86, q188_88, q188_89, q188_90, q188_93, q188_94, q188_97, q188_99, q188_100, q188_101, q188_102, q188_103, q188_106, q188_107, q188_110, q188_111, q188_114, q188_115, q188_118, q188_120, q188_121, q188_122, q188_123, q188_124, q188_125, q188_126, q188_127, q188_128, q188_130, q188_133, q188_136, q188_138, kl_int, kl_ref, kl_tok, cS_nil, cS_int, cS_ref, cS_long, tl_some, tl_none, List.cons_append, List.nil_append, nI_add, nI_ltb, nI_leb, nI_eqb, nI_cl, zin_nI, h2.1, z1]
    rw [remI_end z1]
    simp [cvN]
  | succ m ih =>
    intro k u k6 hk
    have z1 : ¬ Rw.length ≤ k := by omega
    have hb := isBoxed_ (d := d) (M := M) (R := R) (S := S) (p := k) (by omega) (by omega) hS h2.2.2.1 (by omega)
    have hs := isSpare_ (d := d) (M := M) (R := R) (S := S) (p := k) (by omega) (by omega) hS h2.2.2.1 h2.2.2.2.1 (by omega) (by omega)
    have hci1 : cnt S (k + 1) = cnt S k + if S.testBit k then 0 else 1 := rfl
    have w1 := (hG.2.1 k (by omega)).1
    have w2 := (hG.2.2.2.2.1 _ (List.getElem_mem (show k < Rw.length by omega))).1
    rw [remI_step (l := Rw) (S := S) (i := k) (by omega)]
    cases hbit : S.testBit k
    · rw [hbit] at hci1 hb hs
      have hci2 : cnt S (k + 1) = cnt S k + 1 := by simpa using hci1
      rw [if_neg (show ¬ (false = true) by decide), List.map_cons]
      by_cases c : cnt S k < se + sp
      · have e1 : se + sp - cnt S k = (se + sp - cnt S (k + 1)) + 1 := by omega
        rw [e1, List.take_succ_cons, cvN, ← Nat.add_assoc]
        have e72 : exe (d + 3) 188 72 [.ref 127, .int (nI w), .int n, .int (nI S), .int (nI u), .int (nI k), k6] [] M R = exe (d + 3) 188 40 [.ref 127, .int (nI w), .int n, .int (nI S), .int (nI (u + if cP f w n (Rw[k]).1 then 1 else 0)), .int (nI (k + 1)), .int (nI (8 + 4 * (Rw[k]).1))] [] M R := by
          by_cases ew : w = 2
          · subst ew
            have ei : f (8 + 4 * (Rw[k]).1 + 2) = f (10 + 4 * (Rw[k]).1) := by congr 1; omega
            by_cases c3 : f (10 + 4 * (Rw[k]).1) < n
            · have c2 : ¬ n ≤ f (10 + 4 * (Rw[k]).1) := by
                rw [Int32.le_iff_toInt_le]
                rw [Int32.lt_iff_toInt_lt] at c3
                omega
              simp (disch := first | assumption | exact nar_b0 | exact nar_b1 | exact nar_b | exact Or.inl rfl | exact Or.inr rfl | exact zin_t (by omega) (by omega) | exact Nat.le_of_ble_eq_true rfl | (rw [nI_cl (by omega)]; assumption) | omega) only [↓reduceIte, reduceCtorEq, not_true_eq_false, not_false_eq_true, q188_0, q188_1, q188_2, q188_5, q188_6, q188_7, q188_8, q188_9, q188_12, q188_15, q188_16, q188_17, q188_20, q188_23, q188_24, q188_25, q188_26, q188_29, q188_30, q188_33, q188_34, q188_35, q188_37, q188_38, q188_42, q188_43, q188_46, q188_49, q188_50, q188_52, q188_53, q188_56, q188_59, q188_60, q188_62, q188_63, q188_66, q188_69, q188_72, q188_74, q188_75, q188_76, q188_79, q188_81, q188_82, q188_83, q188_84, q188_86, q188_88, q188_89, q188_90, q188_93, q188_94, q188_97, q188_99, q188_100, q188_101, q188_102, q188_103, q188_106, q188_107, q188_110, q188_111, q188_114, q188_115, q188_118, q188_120, q188_121, q188_122, q188_123, q188_124, q188_125, q188_126, q188_127, q188_128, q188_130, q188_133, q188_136, q188_138, kl_int, kl_ref, kl_tok, cS_nil, cS_int, cS_ref, cS_long, tl_some, tl_none, List.cons_append, List.nil_append, nI_add, nI_ltb, nI_leb, nI_eqb, nI_cl, zin_nI, w1, nI_mul, h9, ei, c2, cP, c3, decide_true]
            · have c2 : n ≤ f (10 + 4 * (Rw[k]).1) := by
                rw [Int32.le_iff_toInt_le]
                rw [Int32.lt_iff_toInt_lt] at c3
                omega
              simp (disch := first | assumption | exact nar_b0 | exact nar_b1 | exact nar_b | exact Or.inl rfl | exact Or.inr rfl | exact zin_t (by omega) (by omega) | exact Nat.le_of_ble_eq_true rfl | (rw [nI_cl (by omega)]; assumption) | omega) only [↓reduceIte, reduceCtorEq, not_true_eq_false, not_false_eq_true, q188_0, q188_1, q188_2, q188_5, q188_6, q188_7, q188_8, q188_9, q188_12, q188_15, q188_16, q188_17, q188_20, q188_23, q188_24, q188_25, q188_26, q188_29, q188_30, q188_33, q188_34, q188_35, q188_37, q188_38, q188_42, q188_43, q188_46, q188_49, q188_50, q188_52, q188_53, q188_56, q188_59, q188_60, q188_62, q188_63, q188_66, q188_69, q188_72, q188_74, q188_75, q188_76, q188_79, q188_81, q188_82, q188_83, q188_84, q188_86, q188_88, q188_89, q188_90, q188_93, q188_94, q188_97, q188_99, q188_100, q188_101, q188_102, q188_103, q188_106, q188_107, q188_110, q188_111, q188_114, q188_115, q188_118, q188_120, q188_121, q188_122, q188_123, q188_124, q188_125, q188_126, q188_127, q188_128, q188_130, q188_133, q188_136, q188_138, kl_int, kl_ref, kl_tok, cS_nil, cS_int, cS_ref, cS_long, tl_some, tl_none, List.cons_append, List.nil_append, nI_add, nI_ltb, nI_leb, nI_eqb, nI_cl, zin_nI, w1, nI_mul, h9, ei, c2, cP, c3, decide_false]
          · have ei : f (8 + 4 * (Rw[k]).1 + 3) = f (11 + 4 * (Rw[k]).1) := by congr 1; omega
            by_cases c3 : zshr (f (11 + 4 * (Rw[k]).1)) (nI w) &&& nI 1 = nI 1
            · simp (disch := first | assumption | exact nar_b0 | exact nar_b1 | exact nar_b | exact Or.inl rfl | exact Or.inr rfl | exact zin_t (by omega) (by omega) | exact Nat.le_of_ble_eq_true rfl | (rw [nI_cl (by omega)]; assumption) | omega) only [↓reduceIte, reduceCtorEq, not_true_eq_false, not_false_eq_true, q188_0, q188_1, q188_2, q188_5, q188_6, q188_7, q188_8, q188_9, q188_12, q188_15, q188_16, q188_17, q188_20, q188_23, q188_24, q188_25, q188_26, q188_29, q188_30, q188_33, q188_34, q188_35, q188_37, q188_38, q188_42, q188_43, q188_46, q188_49, q188_50, q188_52, q188_53, q188_56, q188_59, q188_60, q188_62, q188_63, q188_66, q188_69, q188_72, q188_74, q188_75, q188_76, q188_79, q188_81, q188_82, q188_83, q188_84, q188_86, q188_88, q188_89, q188_90, q188_93, q188_94, q188_97, q188_99, q188_100, q188_101, q188_102, q188_103, q188_106, q188_107, q188_110, q188_111, q188_114, q188_115, q188_118, q188_120, q188_121, q188_122, q188_123, q188_124, q188_125, q188_126, q188_127, q188_128, q188_130, q188_133, q188_136, q188_138, kl_int, kl_ref, kl_tok, cS_nil, cS_int, cS_ref, cS_long, tl_some, tl_none, List.cons_append, List.nil_append, nI_add, nI_ltb, nI_leb, nI_eqb, nI_cl, zin_nI, w1, nI_mul, h9, ei, ew, cP, c3, decide_true]
            · have c4 : zshr (f (11 + 4 * (Rw[k]).1)) (nI w) &&& nI 1 = nI 0 := (and1 _).resolve_right c3
              have c5 : ¬ nI 0 = nI 1 := by decide
              simp (disch := first | assumption | exact nar_b0 | exact nar_b1 | exact nar_b | exact Or.inl rfl | exact Or.inr rfl | exact zin_t (by omega) (by omega) | exact Nat.le_of_ble_eq_true rfl | (rw [nI_cl (by omega)]; assumption) | omega) only [↓reduceIte, reduceCtorEq, not_true_eq_false, not_false_eq_true, q188_0, q188_1, q188_2, q188_5, q188_6, q188_7, q188_8, q188_9, q188_12, q188_15, q188_16, q188_17, q188_20, q188_23, q188_24, q188_25, q188_26, q188_29, q188_30, q188_33, q188_34, q188_35, q188_37, q188_38, q188_42, q188_43, q188_46, q188_49, q188_50, q188_52, q188_53, q188_56, q188_59, q188_60, q188_62, q188_63, q188_66, q188_69, q188_72, q188_74, q188_75, q188_76, q188_79, q188_81, q188_82, q188_83, q188_84, q188_86, q188_88, q188_89, q188_90, q188_93, q188_94, q188_97, q188_99, q188_100, q188_101, q188_102, q188_103, q188_106, q188_107, q188_110, q188_111, q188_114, q188_115, q188_118, q188_120, q188_121, q188_122, q188_123, q188_124, q188_125, q188_126, q188_127, q188_128, q188_130, q188_133, q188_136, q188_138, kl_int, kl_ref, kl_tok, cS_nil, cS_int, cS_ref, cS_long, tl_some, tl_none, List.cons_append, List.nil_append, nI_add, nI_ltb, nI_leb, nI_eqb, nI_cl, zin_nI, w1, nI_mul, h9, ei, ew, cP, c4, c5, decide_false]
        rw [← ih (k + 1) (u + if cP f w n (Rw[k]).1 then 1 else 0) (.int (nI (8 + 4 * (Rw[k]).1))) (by omega), ← e72]
        by_cases c1 : cnt S k < se
        · rw [decide_eq_true c1, Bool.not_false, Bool.true_and] at hb
          rw [q188_40]
          simp (disch := first | assumption | exact nar_b0 | exact nar_b1 | exact nar_b | exact Or.inl rfl | exact Or.inr rfl | exact zin_t (by omega) (by omega) | exact Nat.le_of_ble_eq_true rfl | (rw [nI_cl (by omega)]; assumption) | omega) only [↓reduceIte, reduceCtorEq, not_true_eq_false, not_false_eq_true, q188_0, q188_1, q188_2, q188_5, q188_6, q188_7, q188_8, q188_9, q188_12, q188_15, q188_16, q188_17, q188_20, q188_23, q188_24, q188_25, q188_26, q188_29, q188_30, q188_33, q188_34, q188_35, q188_37, q188_38, q188_42, q188_43, q188_46, q188_49, q188_50, q188_52, q188_53, q188_56, q188_59, q188_60, q188_62, q188_63, q188_66, q188_69, q188_74, q188_75, q188_76, q188_79, q188_81, q188_82, q188_83, q188_84, q188_86, q188_88, q188_89, q188_90, q188_93, q188_94, q188_97, q188_99, q188_100, q188_101, q188_102, q188_103, q188_106, q188_107, q188_110, q188_111, q188_114, q188_115, q188_118, q188_120, q188_121, q188_122, q188_123, q188_124, q188_125, q188_126, q188_127, q188_128, q188_130, q188_133, q188_136, q188_138, kl_int, kl_ref, kl_tok, cS_nil, cS_int, cS_ref, cS_long, tl_some, tl_none, List.cons_append, List.nil_append, nI_add, nI_ltb, nI_leb, nI_eqb, nI_cl, zin_nI, h2.1, z1, hb, zk0_inl, b2i_0]
        · rw [decide_eq_false c1, Bool.and_false] at hb
          rw [decide_eq_true (show se ≤ cnt S k ∧ cnt S k < se + sp by omega), Bool.not_false, Bool.true_and] at hs
          rw [q188_40]
          simp (disch := first | assumption | exact nar_b0 | exact nar_b1 | exact nar_b | exact Or.inl rfl | exact Or.inr rfl | exact zin_t (by omega) (by omega) | exact Nat.le_of_ble_eq_true rfl | (rw [nI_cl (by omega)]; assumption) | omega) only [↓reduceIte, reduceCtorEq, not_true_eq_false, not_false_eq_true, q188_0, q188_1, q188_2, q188_5, q188_6, q188_7, q188_8, q188_9, q188_12, q188_15, q188_16, q188_17, q188_20, q188_23, q188_24, q188_25, q188_26, q188_29, q188_30, q188_33, q188_34, q188_35, q188_37, q188_38, q188_42, q188_43, q188_46, q188_49, q188_50, q188_52, q188_53, q188_56, q188_59, q188_60, q188_62, q188_63, q188_66, q188_69, q188_74, q188_75, q188_76, q188_79, q188_81, q188_82, q188_83, q188_84, q188_86, q188_88, q188_89, q188_90, q188_93, q188_94, q188_97, q188_99, q188_100, q188_101, q188_102, q188_103, q188_106, q188_107, q188_110, q188_111, q188_114, q188_115, q188_118, q188_120, q188_121, q188_122, q188_123, q188_124, q188_125, q188_126, q188_127, q188_128, q188_130, q188_133, q188_136, q188_138, kl_int, kl_ref, kl_tok, cS_nil, cS_int, cS_ref, cS_long, tl_some, tl_none, List.cons_append, List.nil_append, nI_add, nI_ltb, nI_leb, nI_eqb, nI_cl, zin_nI, h2.1, z1, hb, hs, zk0_inl, b2i_0]
      · rw [decide_eq_false (show ¬ cnt S k < se by omega), Bool.and_false] at hb
        rw [decide_eq_false (show ¬ (se ≤ cnt S k ∧ cnt S k < se + sp) by omega), Bool.and_false] at hs
        have g := ih (k + 1) u k6 (by omega)
        rw [show se + sp - cnt S (k + 1) = 0 by omega, List.take_zero] at g
        rw [show se + sp - cnt S k = 0 by omega, List.take_zero, ← g]
        rw [q188_40]
        simp (disch := first | assumption | exact nar_b0 | exact nar_b1 | exact nar_b | exact Or.inl rfl | exact Or.inr rfl | exact zin_t (by omega) (by omega) | exact Nat.le_of_ble_eq_true rfl | (rw [nI_cl (by omega)]; assumption) | omega) only [↓reduceIte, reduceCtorEq, not_true_eq_false, not_false_eq_true, q188_0, q188_1, q188_2, q188_5, q188_6, q188_7, q188_8, q188_9, q188_12, q188_15, q188_16, q188_17, q188_20, q188_23, q188_24, q188_25, q188_26, q188_29, q188_30, q188_33, q188_34, q188_35, q188_37, q188_38, q188_42, q188_43, q188_46, q188_49, q188_50, q188_52, q188_53, q188_56, q188_59, q188_60, q188_62, q188_63, q188_66, q188_69, q188_72, q188_74, q188_75, q188_76, q188_79, q188_81, q188_82, q188_83, q188_84, q188_86, q188_88, q188_89, q188_90, q188_93, q188_94, q188_97, q188_99, q188_100, q188_101, q188_102, q188_103, q188_106, q188_107, q188_110, q188_111, q188_114, q188_115, q188_118, q188_120, q188_121, q188_122, q188_123, q188_124, q188_125, q188_126, q188_127, q188_128, q188_130, q188_133, q188_136, q188_138, kl_int, kl_ref, kl_tok, cS_nil, cS_int, cS_ref, cS_long, tl_some, tl_none, List.cons_append, List.nil_append, nI_add, nI_ltb, nI_leb, nI_eqb, nI_cl, zin_nI, h2.1, z1, hb, hs, zk0_inl, b2i_0]
    · rw [hbit] at hci1 hb hs
      have hci2 : cnt S (k + 1) = cnt S k := by simpa using hci1
      rw [if_pos rfl, ← hci2, ← ih (k + 1) u k6 (by omega)]
      rw [q188_40]
      simp (disch := first | assumption | exact nar_b0 | exact nar_b1 | exact nar_b | exact Or.inl rfl | exact Or.inr rfl | exact zin_t (by omega) (by omega) | exact Nat.le_of_ble_eq_true rfl | (rw [nI_cl (by omega)]; assumption) | omega) only [↓reduceIte, reduceCtorEq, not_true_eq_false, not_false_eq_true, q188_0, q188_1, q188_2, q188_5, q188_6, q188_7, q188_8, q188_9, q188_12, q188_15, q188_16, q188_17, q188_20, q188_23, q188_24, q188_25, q188_26, q188_29, q188_30, q188_33, q188_34, q188_35, q188_37, q188_38, q188_42, q188_43, q188_46, q188_49, q188_50, q188_52, q188_53, q188_56, q188_59, q188_60, q188_62, q188_63, q188_66, q188_69, q188_72, q188_74, q188_75, q188_76, q188_79, q188_81, q188_82, q188_83, q188_84, q188_86, q188_88, q188_89, q188_90, q188_93, q188_94, q188_97, q188_99, q188_100, q188_101, q188_102, q188_103, q188_106, q188_107, q188_110, q188_111, q188_114, q188_115, q188_118, q188_120, q188_121, q188_122, q188_123, q188_124, q188_125, q188_126, q188_127, q188_128, q188_130, q188_133, q188_136, q188_138, kl_int, kl_ref, kl_tok, cS_nil, cS_int, cS_ref, cS_long, tl_some, tl_none, List.cons_append, List.nil_append, nI_add, nI_ltb, nI_leb, nI_eqb, nI_cl, zin_nI, h2.1, z1, hb, hs, zk0_inl, b2i_0, Bool.not_true, Bool.false_and]
theorem m_count_t {w : Nat} {n : Int32} (hw3 : w < 3) (hS : Sh R) (hW : WG G) (hM : MS M G) : OutM (cal (d + 7) 188 [.ref 127, .int (nI w), .int n] M R) M R 0 (cntV (gF G) w n) G := by
  obtain ⟨nN, k127, k128, l128, k129, l129, k130, l130, k131, l131, k132, l132, k133, l133, k134, l134, k135, l135, k136, l136, k137, l137, k138, l138, k139, l139, k140, l140, k141, l141, k142, l142, k143, l143, k144, l144, k145, l145, k146, l146, f127_1, f127_2, f127_3, f127_4, f127_6, f127_7, f127_17, f127_18, f127_19, f127_22, f127_24, f127_25, f127_26, f127_29, f127_30, f127_31, f127_32, f127_33⟩ := modF hS
  have hw := hW.1.nums
  have hM0 : MS (up2 M 127 0 (nI 0)) G := hM.th
  have r1 := rng_t (x := nI w) (n := 3) (c := 2) (by decide) ⟨w, hw3, rfl⟩ (by decide)
  have hf := isFine_t (d := d + 6) (M := up2 M 127 0 (nI 0)) (R := R) (c := nI 1) (k := nI 1) hS up2_at
  obtain ⟨M1, a1, a2, a3, a4, a5⟩ := LG (d := d + 5) (M := up2 M 127 0 (nI 0)) hS hW hM0
  rw [up2_at] at a4
  have h2 := SN (d := d + 6) hS a3 a2
  have z1 : ¬ 1 = 0 := by decide
  have hul := UL_un hW.1
  unfold rem at hul
  have h := countR_L (d := d + 4) (n := n) hw3 (stS_1024 hW) hS a2 a3.2.2.1 (RowL (gF G)).length 0 0 tok (by omega)
  have e0 : cnt (stS (gF G)) 0 = 0 := rfl
  rw [List.drop_zero, hul, e0, Nat.sub_zero, Nat.zero_add] at h
  refine OutM.ok (M' := M1) ?_ a3 a4 (FrM.trans (FrM.up (by decide) (by decide)) a5)
  rw [e188]
  simp (disch := first | assumption | exact nar_b0 | exact nar_b1 | exact nar_b | exact Or.inl rfl | exact Or.inr rfl | exact zin_t (by omega) (by omega) | exact Nat.le_of_ble_eq_true rfl | (rw [nI_cl (by omega)]; assumption) | omega) only [↓reduceIte, reduceCtorEq, not_true_eq_false, not_false_eq_true, q188_0, q188_1, q188_2, q188_5, q188_6, q188_7, q188_8, q188_9, q188_12, q188_15, q188_16, q188_17, q188_20, q188_23, q188_24, q188_25, q188_26, q188_29, q188_30, q188_33, q188_34, q188_35, q188_37, q188_38, q188_42, q188_43, q188_46, q188_49, q188_50, q188_52, q188_53, q188_56, q188_59, q188_60, q188_62, q188_63, q188_66, q188_69, q188_72, q188_74, q188_75, q188_76, q188_79, q188_81, q188_82, q188_83, q188_84, q188_86, q188_88, q188_89, q188_90, q188_93, q188_94, q188_97, q188_99, q188_100, q188_101, q188_102, q188_103, q188_106, q188_107, q188_110, q188_111, q188_114, q188_115, q188_118, q188_120, q188_121, q188_122, q188_123, q188_124, q188_125, q188_126, q188_127, q188_128, q188_130, q188_133, q188_136, q188_138, kl_int, kl_ref, kl_tok, cS_nil, cS_int, cS_ref, cS_long, tl_some, tl_none, List.cons_append, List.nil_append, nI_add, nI_ltb, nI_leb, nI_eqb, nI_cl, zin_nI, lies_, Int32.toInt_toInt64, c64_0, c64_2, r1, b2i_t, hf, zk0_inl, z1, a1, h2]
  exact h
theorem m_count_f {x y v : Int32} (hx : ¬ ∃ k, k < 3 ∧ x = nI k) (hS : Sh R) (hM : MS M G) : OutM (cal (d + 7) 188 [.ref 127, .int x, .int y] M R) M R 1 v (rfA G) := by
  obtain ⟨nN, k127, k128, l128, k129, l129, k130, l130, k131, l131, k132, l132, k133, l133, k134, l134, k135, l135, k136, l136, k137, l137, k138, l138, k139, l139, k140, l140, k141, l141, k142, l142, k143, l143, k144, l144, k145, l145, k146, l146, f127_1, f127_2, f127_3, f127_4, f127_6, f127_7, f127_17, f127_18, f127_19, f127_22, f127_24, f127_25, f127_26, f127_29, f127_30, f127_31, f127_32, f127_33⟩ := modF hS
  have r1 := rng_f (x := x) (n := 3) (c := 2) (by decide) hx (by decide)
  have hf := isFine_f (d := d + 6) (M := up2 M 127 0 (nI 0)) (R := R) (c := 1) (k := 1) hS up2_at (by decide) (by decide)
  refine OutM.rA (M' := up2 M 127 0 (nI 0)) (v' := nI 0) ?_ (by decide) hM.th (FrM.up (by decide) (by decide))
  rw [e188]
  simp (disch := first | assumption | exact nar_b0 | exact nar_b1 | exact nar_b | exact Or.inl rfl | exact Or.inr rfl | exact zin_t (by omega) (by omega) | exact Nat.le_of_ble_eq_true rfl | (rw [nI_cl (by omega)]; assumption) | omega) only [↓reduceIte, reduceCtorEq, not_true_eq_false, not_false_eq_true, q188_0, q188_1, q188_2, q188_5, q188_6, q188_7, q188_8, q188_9, q188_12, q188_15, q188_16, q188_17, q188_20, q188_23, q188_24, q188_25, q188_26, q188_29, q188_30, q188_33, q188_34, q188_35, q188_37, q188_38, q188_42, q188_43, q188_46, q188_49, q188_50, q188_52, q188_53, q188_56, q188_59, q188_60, q188_62, q188_63, q188_66, q188_69, q188_72, q188_74, q188_75, q188_76, q188_79, q188_81, q188_82, q188_83, q188_84, q188_86, q188_88, q188_89, q188_90, q188_93, q188_94, q188_97, q188_99, q188_100, q188_101, q188_102, q188_103, q188_106, q188_107, q188_110, q188_111, q188_114, q188_115, q188_118, q188_120, q188_121, q188_122, q188_123, q188_124, q188_125, q188_126, q188_127, q188_128, q188_130, q188_133, q188_136, q188_138, kl_int, kl_ref, kl_tok, cS_nil, cS_int, cS_ref, cS_long, tl_some, tl_none, List.cons_append, List.nil_append, nI_add, nI_ltb, nI_leb, nI_eqb, nI_cl, zin_nI, lies_, Int32.toInt_toInt64, c64_0, c64_2, r1, b2i_f, hf, zk0_inl]
end Mt
