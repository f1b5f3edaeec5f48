-- the reference: turns
section Ro
variable {d n i : Nat} {M : ZM} {R : ZH} {b : Nat → Int32}
theorem isH_no {b : Nat → Int32} {n s : Nat} {x y : Int32} (h : b s = x) (hxy : x ≠ y) : isH b n s y = false := decide_eq_false (fun e => hxy (by rw [← h]; exact e.2))
/-- the turns are written down -/
theorem turns_e {c B : Nat} (hS : Sh R) : exe d 135 115 [.ref 127, .int (nI B), .int (nI c)] [] M R = some (.inl none, up2 (up2 M 130 5 (nI c)) 130 6 (nI B), R) := by
  obtain ⟨nN, k127, k128, l128, k129, l129, k130, l130, k131, l131, k132, l132, k133, l133, k134, l134, k135, l135, k136, l136, k137, l137, k138, l138, k139, l139, k140, l140, k141, l141, k142, l142, k143, l143, k144, l144, k145, l145, k146, l146, f127_1, f127_2, f127_3, f127_4, f127_6, f127_7, f127_17, f127_18, f127_19, f127_22, f127_24, f127_25, f127_26, f127_29, f127_30, f127_31, f127_32, f127_33⟩ := modF hS
  simp (disch := first | assumption | exact nar_b0 | exact nar_b1 | exact nar_b | exact Or.inl rfl | exact Or.inr rfl | exact zin_t (by omega) (by omega) | exact Nat.le_of_ble_eq_true rfl | (rw [nI_cl (by omega)]; assumption) | omega) only [↓reduceIte, reduceCtorEq, not_true_eq_false, not_false_eq_true, q135_0, q135_1, q135_2, q135_3, q135_4, q135_5, q135_8i, q135_8a, q135_10, q135_13, q135_16, q135_17, q135_20, q135_21, q135_24, q135_27, q135_28, q135_31, q135_32, q135_35, q135_36, q135_38, q135_41, q135_42, q135_45, q135_46, q135_49, q135_50, q135_52, q135_55, q135_56, q135_58, q135_61, q135_62, q135_63, q135_64, q135_67, q135_70, q135_71, q135_72, q135_75, q135_76, q135_79, q135_80, q135_82, q135_85, q135_86, q135_87, q135_88, q135_91, q135_92, q135_93, q135_94, q135_97, q135_98i, q135_98a, q135_99, q135_102, q135_103, q135_104, q135_107, q135_108, q135_111i, q135_111a, q135_112, q135_115, q135_116, q135_119, q135_120, q135_121, q135_122, q135_123, q135_126, q135_128, q135_129, q135_130, kl_int, kl_ref, kl_tok, cS_nil, cS_int, cS_ref, cS_long, tl_some, tl_none, List.cons_append, List.nil_append, nI_add, nI_ltb, nI_leb, nI_eqb, nI_cl, zin_nI]
/-- one more turn -/
theorem turns_s {c B s : Nat} (hc : ¬ c = 8) (hc8 : c ≤ 8) (hS : Sh R) (hP : RCx M b n s) (hs : s < n) (x : Bool) (hx : b s = if x then nI 98 else nI 97) : exe (d + 1) 135 9 [.ref 127, .int (nI B), .int (nI c)] [] M R = exe (d + 1) 135 9 [.ref 127, .int (nI (if x then B ||| 2 ^ c else B)), .int (nI (c + 1))] [] (hrm M (sk b n (s + 1))) R := by
  obtain ⟨nN, k127, k128, l128, k129, l129, k130, l130, k131, l131, k132, l132, k133, l133, k134, l134, k135, l135, k136, l136, k137, l137, k138, l138, k139, l139, k140, l140, k141, l141, k142, l142, k143, l143, k144, l144, k145, l145, k146, l146, f127_1, f127_2, f127_3, f127_4, f127_6, f127_7, f127_17, f127_18, f127_19, f127_22, f127_24, f127_25, f127_26, f127_29, f127_30, f127_31, f127_32, f127_33⟩ := modF hS
  have h9 := hP.1.1
  have h10 := hP.1.2.1
  have h12 := hP.2.2
  have hn := hP.1.2.2.1
  have hb := hP.1.2.2.2 s hs
  have z : ¬ n ≤ s := by omega
  have hsg := sign_ (d := d) hS (hP.mv (j := s + 1) (by omega)).1
  rw [hrm_at] at hsg
  have e0 : up2 M 127 10 (nI (s + 1)) = hrm M (s + 1) := rfl
  rw [q135_9]
  cases x
  · have hx' : b s = nI 97 := hx
    simp (disch := first | assumption | exact nar_b0 | exact nar_b1 | exact nar_b | exact Or.inl rfl | exact Or.inr rfl | exact zin_t (by omega) (by omega) | exact Nat.le_of_ble_eq_true rfl | (rw [nI_cl (by omega)]; assumption) | omega) only [↓reduceIte, reduceCtorEq, not_true_eq_false, not_false_eq_true, q135_0, q135_1, q135_2, q135_3, q135_4, q135_5, q135_8i, q135_8a, q135_10, q135_13, q135_16, q135_17, q135_20, q135_21, q135_24, q135_27, q135_28, q135_31, q135_32, q135_35, q135_36, q135_38, q135_41, q135_42, q135_45, q135_46, q135_49, q135_50, q135_52, q135_55, q135_56, q135_58, q135_61, q135_62, q135_63, q135_64, q135_67, q135_70, q135_71, q135_72, q135_75, q135_76, q135_79, q135_80, q135_82, q135_85, q135_86, q135_87, q135_88, q135_91, q135_92, q135_93, q135_94, q135_97, q135_98i, q135_98a, q135_99, q135_102, q135_103, q135_104, q135_107, q135_108, q135_111i, q135_111a, q135_112, q135_115, q135_116, q135_119, q135_120, q135_121, q135_122, q135_123, q135_126, q135_128, q135_129, q135_130, kl_int, kl_ref, kl_tok, cS_nil, cS_int, cS_ref, cS_long, tl_some, tl_none, List.cons_append, List.nil_append, nI_add, nI_ltb, nI_leb, nI_eqb, nI_cl, zin_nI, h12, h9, h10, z, hb, hx', hc, hsg, e0, zk0_inl, nI_or, Nat.or_zero]
    simp
  · have hx' : b s = nI 98 := hx
    simp (disch := first | assumption | exact nar_b0 | exact nar_b1 | exact nar_b | exact Or.inl rfl | exact Or.inr rfl | exact zin_t (by omega) (by omega) | exact Nat.le_of_ble_eq_true rfl | (rw [nI_cl (by omega)]; assumption) | omega) only [↓reduceIte, reduceCtorEq, not_true_eq_false, not_false_eq_true, q135_0, q135_1, q135_2, q135_3, q135_4, q135_5, q135_8i, q135_8a, q135_10, q135_13, q135_16, q135_17, q135_20, q135_21, q135_24, q135_27, q135_28, q135_31, q135_32, q135_35, q135_36, q135_38, q135_41, q135_42, q135_45, q135_46, q135_49, q135_50, q135_52, q135_55, q135_56, q135_58, q135_61, q135_62, q135_63, q135_64, q135_67, q135_70, q135_71, q135_72, q135_75, q135_76, q135_79, q135_80, q135_82, q135_85, q135_86, q135_87, q135_88, q135_91, q135_92, q135_93, q135_94, q135_97, q135_98i, q135_98a, q135_99, q135_102, q135_103, q135_104, q135_107, q135_108, q135_111i, q135_111a, q135_112, q135_115, q135_116, q135_119, q135_120, q135_121, q135_122, q135_123, q135_126, q135_128, q135_129, q135_130, kl_int, kl_ref, kl_tok, cS_nil, cS_int, cS_ref, cS_long, tl_some, tl_none, List.cons_append, List.nil_append, nI_add, nI_ltb, nI_leb, nI_eqb, nI_cl, zin_nI, h12, h9, h10, z, hb, hx', hc, hsg, e0, zk0_inl, nI_shl, nI_or, Nat.one_mul]
    simp
/-- a ninth -/
theorem turns_9 {B s : Nat} (hS : Sh R) (hP : RCx M b n s) (hs : s < n) (x : Bool) (hx : b s = if x then nI 98 else nI 97) : ∃ M', exe (d + 1) 135 9 [.ref 127, .int (nI B), .int (nI 8)] [] M R = some (.inl none, M', R) ∧ RVf M M' ∧ RFx 510 M' b n 1 s := by
  obtain ⟨nN, k127, k128, l128, k129, l129, k130, l130, k131, l131, k132, l132, k133, l133, k134, l134, k135, l135, k136, l136, k137, l137, k138, l138, k139, l139, k140, l140, k141, l141, k142, l142, k143, l143, k144, l144, k145, l145, k146, l146, f127_1, f127_2, f127_3, f127_4, f127_6, f127_7, f127_17, f127_18, f127_19, f127_22, f127_24, f127_25, f127_26, f127_29, f127_30, f127_31, f127_32, f127_33⟩ := modF hS
  have h9 := hP.1.1
  have h10 := hP.1.2.1
  have h12 := hP.2.2
  have hn := hP.1.2.2.1
  have hb := hP.1.2.2.2 s hs
  have z : ¬ n ≤ s := by omega
  have hw0 := wrong_ (d := d) (R := R) (k := nI 1) (p := nI s) hS h12
  have hX := RFx.wr (k := 1) (p := s) (u := 510) hP.1 (by omega) (by decide)
  have hB := hP.1.fr (M' := up2 (up2 M 127 12 (nI 1)) 127 13 (nI s)) (by rw [up2_s (by decide), up2_s (by decide)]) (by rw [up2_s (by decide), up2_s (by decide)]) (by rw [up2_ne (by decide), up2_ne (by decide)])
  have fW : RNf M (up2 (up2 M 127 12 (nI 1)) 127 13 (nI s)) := RNf.wr
  generalize up2 (up2 M 127 12 (nI 1)) 127 13 (nI s) = W at hw0 hX fW hB
  have w10 := hB.2.1
  have wb := hB.2.2.2 s hs
  have hx12 := hX.1.2.1
  have hsg := sign_ (d := d) hS (hB.mv (j := s + 1) (by omega))
  rw [hrm_at] at hsg
  have e0 : up2 W 127 10 (nI (s + 1)) = hrm W (s + 1) := rfl
  have hle := sk_le (b := b) (n := n) (i := s + 1) (by omega)
  have hX2 : RFx 510 (hrm W (sk b n (s + 1))) b n 1 s := RFx.hr hX.1 hB (by omega) (by omega) (by omega)
  have y12 := hX2.1.2.1
  have f2 : RVf M (hrm W (sk b n (s + 1))) := fW.vf.trans RNf.hr.vf
  have hx2 : exe (d + 1) 135 9 [.ref 127, .int (nI B), .int (nI 8)] [] M R = exe (d + 1) 135 9 [.ref 127, .int (nI (if x then B ||| 2 ^ 8 else B)), .int (nI 9)] [] (hrm W (sk b n (s + 1))) R := by
    rw [q135_9]
    cases x
    · have hx' : b s = nI 97 := hx
      simp (disch := first | assumption | exact nar_b0 | exact nar_b1 | exact nar_b | exact Or.inl rfl | exact Or.inr rfl | exact zin_t (by omega) (by omega) | exact Nat.le_of_ble_eq_true rfl | (rw [nI_cl (by omega)]; assumption) | omega) only [↓reduceIte, reduceCtorEq, not_true_eq_false, not_false_eq_true, q135_0, q135_1, q135_2, q135_3, q135_4, q135_5, q135_8i, q135_8a, q135_10, q135_13, q135_16, q135_17, q135_20, q135_21, q135_24, q135_27, q135_28, q135_31, q135_32, q135_35, q135_36, q135_38, q135_41, q135_42, q135_45, q135_46, q135_49, q135_50, q135_52, q135_55, q135_56, q135_58, q135_61, q135_62, q135_63, q135_64, q135_67, q135_70, q135_71, q135_72, q135_75, q135_76, q135_79, q135_80, q135_82, q135_85, q135_86, q135_87, q135_88, q135_91, q135_92, q135_93, q135_94, q135_97, q135_98i, q135_98a, q135_99, q135_102, q135_103, q135_104, q135_107, q135_108, q135_111i, q135_111a, q135_112, q135_115, q135_116, q135_119, q135_120, q135_121, q135_122, q135_123, q135_126, q135_128, q135_129, q135_130, kl_int, kl_ref, kl_tok, cS_nil, cS_int, cS_ref, cS_long, tl_some, tl_none, List.cons_append, List.nil_append, nI_add, nI_ltb, nI_leb, nI_eqb, nI_cl, zin_nI, h12, h9, h10, z, hb, hx', hw0, w10, wb, hsg, e0, zk0_inl, nI_or, Nat.or_zero]
      simp
    · have hx' : b s = nI 98 := hx
      simp (disch := first | assumption | exact nar_b0 | exact nar_b1 | exact nar_b | exact Or.inl rfl | exact Or.inr rfl | exact zin_t (by omega) (by omega) | exact Nat.le_of_ble_eq_true rfl | (rw [nI_cl (by omega)]; assumption) | omega) only [↓reduceIte, reduceCtorEq, not_true_eq_false, not_false_eq_true, q135_0, q135_1, q135_2, q135_3, q135_4, q135_5, q135_8i, q135_8a, q135_10, q135_13, q135_16, q135_17, q135_20, q135_21, q135_24, q135_27, q135_28, q135_31, q135_32, q135_35, q135_36, q135_38, q135_41, q135_42, q135_45, q135_46, q135_49, q135_50, q135_52, q135_55, q135_56, q135_58, q135_61, q135_62, q135_63, q135_64, q135_67, q135_70, q135_71, q135_72, q135_75, q135_76, q135_79, q135_80, q135_82, q135_85, q135_86, q135_87, q135_88, q135_91, q135_92, q135_93, q135_94, q135_97, q135_98i, q135_98a, q135_99, q135_102, q135_103, q135_104, q135_107, q135_108, q135_111i, q135_111a, q135_112, q135_115, q135_116, q135_119, q135_120, q135_121, q135_122, q135_123, q135_126, q135_128, q135_129, q135_130, kl_int, kl_ref, kl_tok, cS_nil, cS_int, cS_ref, cS_long, tl_some, tl_none, List.cons_append, List.nil_append, nI_add, nI_ltb, nI_leb, nI_eqb, nI_cl, zin_nI, h12, h9, h10, z, hb, hx', hw0, w10, wb, hsg, e0, zk0_inl, nI_shl, nI_or, Nat.one_mul]
      simp
  refine ⟨up2 (up2 (hrm W (sk b n (s + 1))) 130 5 (nI 9)) 130 6 (nI (if x then B ||| 2 ^ 8 else B)), ?_, f2.trans (RVf.u.trans RVf.u), (hX2.fr (up2_c (by decide)) (up2_c (by decide)) (up2_c (by decide)) (up2_c (by decide)) (up2_ne (by decide))).fr (up2_c (by decide)) (up2_c (by decide)) (up2_c (by decide)) (up2_c (by decide)) (up2_ne (by decide))⟩
  rw [hx2, ← turns_e (d := d + 1) hS, q135_9]
  simp (disch := first | assumption | exact nar_b0 | exact nar_b1 | exact nar_b | exact Or.inl rfl | exact Or.inr rfl | exact zin_t (by omega) (by omega) | exact Nat.le_of_ble_eq_true rfl | (rw [nI_cl (by omega)]; assumption) | omega) only [↓reduceIte, reduceCtorEq, not_true_eq_false, not_false_eq_true, q135_0, q135_1, q135_2, q135_3, q135_4, q135_5, q135_8i, q135_8a, q135_10, q135_13, q135_16, q135_17, q135_20, q135_21, q135_24, q135_27, q135_28, q135_31, q135_32, q135_35, q135_36, q135_38, q135_41, q135_42, q135_45, q135_46, q135_49, q135_50, q135_52, q135_55, q135_56, q135_58, q135_61, q135_62, q135_63, q135_64, q135_67, q135_70, q135_71, q135_72, q135_75, q135_76, q135_79, q135_80, q135_82, q135_85, q135_86, q135_87, q135_88, q135_91, q135_92, q135_93, q135_94, q135_97, q135_98i, q135_98a, q135_99, q135_102, q135_103, q135_104, q135_107, q135_108, q135_111i, q135_111a, q135_112, q135_116, q135_119, q135_120, q135_121, q135_122, q135_123, q135_126, q135_128, q135_129, q135_130, kl_int, kl_ref, kl_tok, cS_nil, cS_int, cS_ref, cS_long, tl_some, tl_none, List.cons_append, List.nil_append, nI_add, nI_ltb, nI_leb, nI_eqb, nI_cl, zin_nI, y12, b2i_ne1]
/-- no turn here -/
theorem turns_0 {c B s : Nat} (hS : Sh R) (hP : RCx M b n s) (h1 : isH b n s (nI 97) = false) (h2 : isH b n s (nI 98) = false) : exe d 135 9 [.ref 127, .int (nI B), .int (nI c)] [] M R = some (.inl none, up2 (up2 M 130 5 (nI c)) 130 6 (nI B), R) := by
  obtain ⟨nN, k127, k128, l128, k129, l129, k130, l130, k131, l131, k132, l132, k133, l133, k134, l134, k135, l135, k136, l136, k137, l137, k138, l138, k139, l139, k140, l140, k141, l141, k142, l142, k143, l143, k144, l144, k145, l145, k146, l146, f127_1, f127_2, f127_3, f127_4, f127_6, f127_7, f127_17, f127_18, f127_19, f127_22, f127_24, f127_25, f127_26, f127_29, f127_30, f127_31, f127_32, f127_33⟩ := modF hS
  have h9 := hP.1.1
  have h10 := hP.1.2.1
  have h12 := hP.2.2
  have hn := hP.1.2.2.1
  rw [← turns_e (d := d) hS, q135_9]
  by_cases z : n ≤ s
  · simp (disch := first | assumption | exact nar_b0 | exact nar_b1 | exact nar_b | exact Or.inl rfl | exact Or.inr rfl | exact zin_t (by omega) (by omega) | exact Nat.le_of_ble_eq_true rfl | (rw [nI_cl (by omega)]; assumption) | omega) only [↓reduceIte, reduceCtorEq, not_true_eq_false, not_false_eq_true, q135_0, q135_1, q135_2, q135_3, q135_4, q135_5, q135_8i, q135_8a, q135_10, q135_13, q135_16, q135_17, q135_20, q135_21, q135_24, q135_27, q135_28, q135_31, q135_32, q135_35, q135_36, q135_38, q135_41, q135_42, q135_45, q135_46, q135_49, q135_50, q135_52, q135_55, q135_56, q135_58, q135_61, q135_62, q135_63, q135_64, q135_67, q135_70, q135_71, q135_72, q135_75, q135_76, q135_79, q135_80, q135_82, q135_85, q135_86, q135_87, q135_88, q135_91, q135_92, q135_93, q135_94, q135_97, q135_98i, q135_98a, q135_99, q135_102, q135_103, q135_104, q135_107, q135_108, q135_111i, q135_111a, q135_112, q135_116, q135_119, q135_120, q135_121, q135_122, q135_123, q135_126, q135_128, q135_129, q135_130, kl_int, kl_ref, kl_tok, cS_nil, cS_int, cS_ref, cS_long, tl_some, tl_none, List.cons_append, List.nil_append, nI_add, nI_ltb, nI_leb, nI_eqb, nI_cl, zin_nI, h12, h9, h10, z]
  · have hb := hP.1.2.2.2 s (by omega)
    have x1 : ¬ b s = nI 97 := fun e => by rw [show isH b n s (nI 97) = true from decide_eq_true ⟨by omega, e⟩] at h1; cases h1
    have x2 : ¬ b s = nI 98 := fun e => by rw [show isH b n s (nI 98) = true from decide_eq_true ⟨by omega, e⟩] at h2; cases h2
    simp (disch := first | assumption | exact nar_b0 | exact nar_b1 | exact nar_b | exact Or.inl rfl | exact Or.inr rfl | exact zin_t (by omega) (by omega) | exact Nat.le_of_ble_eq_true rfl | (rw [nI_cl (by omega)]; assumption) | omega) only [↓reduceIte, reduceCtorEq, not_true_eq_false, not_false_eq_true, q135_0, q135_1, q135_2, q135_3, q135_4, q135_5, q135_8i, q135_8a, q135_10, q135_13, q135_16, q135_17, q135_20, q135_21, q135_24, q135_27, q135_28, q135_31, q135_32, q135_35, q135_36, q135_38, q135_41, q135_42, q135_45, q135_46, q135_49, q135_50, q135_52, q135_55, q135_56, q135_58, q135_61, q135_62, q135_63, q135_64, q135_67, q135_70, q135_71, q135_72, q135_75, q135_76, q135_79, q135_80, q135_82, q135_85, q135_86, q135_87, q135_88, q135_91, q135_92, q135_93, q135_94, q135_97, q135_98i, q135_98a, q135_99, q135_102, q135_103, q135_104, q135_107, q135_108, q135_111i, q135_111a, q135_112, q135_116, q135_119, q135_120, q135_121, q135_122, q135_123, q135_126, q135_128, q135_129, q135_130, kl_int, kl_ref, kl_tok, cS_nil, cS_int, cS_ref, cS_long, tl_some, tl_none, List.cons_append, List.nil_append, nI_add, nI_ltb, nI_leb, nI_eqb, nI_cl, zin_nI, h12, h9, h10, z, hb, x1, x2]
theorem RVf.u2 {k l : Nat} {v w : Int32} : RVf M (up2 (up2 M 130 k v) 130 l w) := RVf.u.trans RVf.u
theorem RCx.u2 {s k l : Nat} {v w : Int32} (h : RCx M b n s) : RCx (up2 (up2 M 130 k v) 130 l w) b n s := (h.fr (up2_c (by decide)) (up2_c (by decide)) (up2_c (by decide)) (up2_ne (by decide))).fr (up2_c (by decide)) (up2_c (by decide)) (up2_c (by decide)) (up2_ne (by decide))
theorem turns_L (hS : Sh R) : ∀ (m c i B : Nat) (M : ZM), c + m = 8 → RCx M b n (sk b n i) → i ≤ n →
    ∃ M', exe (d + 1) 135 9 [.ref 127, .int (nI B), .int (nI c)] [] M R = some (.inl none, M', R) ∧ RVf M M' ∧ ((RCx M' b n (sk b n (tuF b n m c i B).2.2) ∧ M' 130 = upf (upf (M 130) 5 (nI (tuF b n m c i B).2.1)) 6 (nI (tuF b n m c i B).1)) ∨ (isH b n (sk b n (tuF b n m c i B).2.2) (nI 59) = false ∧ RFx 510 M' b n 1 (sk b n (tuF b n m c i B).2.2))) := by
  intro m
  induction m with
  | zero =>
    intro c i B M hc hP hi
    have hc8 : c = 8 := by omega
    subst hc8
    unfold tuF
    dsimp only
    cases c1 : isH b n (sk b n i) (nI 97)
    · cases c2 : isH b n (sk b n i) (nI 98)
      · exact ⟨_, turns_0 hS hP c1 c2, RVf.u2, Or.inl ⟨hP.u2, by rw [up2_rwf, up2_rwf]⟩⟩
      · have e := of_decide_eq_true c2
        obtain ⟨M', g1, g2, g3⟩ := turns_9 (d := d) (B := B) hS hP e.1 true e.2
        exact ⟨M', g1, g2, Or.inr ⟨isH_no e.2 (by decide +kernel), g3⟩⟩
    · have e := of_decide_eq_true c1
      obtain ⟨M', g1, g2, g3⟩ := turns_9 (d := d) (B := B) hS hP e.1 false e.2
      exact ⟨M', g1, g2, Or.inr ⟨isH_no e.2 (by decide +kernel), g3⟩⟩
  | succ m ih =>
    intro c i B M hc hP hi
    have hle := sk_le (b := b) hi
    rw [tuF]
    cases c1 : isH b n (sk b n i) (nI 97)
    · cases c2 : isH b n (sk b n i) (nI 98)
      · simp only [Bool.false_eq_true, if_false, sk_sk hi]
        exact ⟨_, turns_0 hS hP c1 c2, RVf.u2, Or.inl ⟨hP.u2, by rw [up2_rwf, up2_rwf]⟩⟩
      · have e := of_decide_eq_true c2
        have hle2 := sk_le (b := b) (n := n) (i := sk b n i + 1) (by omega)
        obtain ⟨M', g1, g2, g3⟩ := ih (c + 1) (sk b n i + 1) (B ||| 2 ^ c) (hrm M (sk b n (sk b n i + 1))) (by omega) (hP.mv hle2) (by omega)
        simp only [Bool.false_eq_true, if_false, if_true]
        rw [hrm_c (by decide)] at g3
        refine ⟨M', ?_, RNf.hr.vf.trans g2, g3⟩
        rw [← g1]
        exact turns_s (by omega) (by omega) hS hP e.1 true e.2
    · have e := of_decide_eq_true c1
      have hle2 := sk_le (b := b) (n := n) (i := sk b n i + 1) (by omega)
      obtain ⟨M', g1, g2, g3⟩ := ih (c + 1) (sk b n i + 1) B (hrm M (sk b n (sk b n i + 1))) (by omega) (hP.mv hle2) (by omega)
      simp only [if_true]
      rw [hrm_c (by decide)] at g3
      refine ⟨M', ?_, RNf.hr.vf.trans g2, g3⟩
      rw [← g1]
      exact turns_s (by omega) (by omega) hS hP e.1 false e.2
theorem turnsRead_ (hS : Sh R) (hP : RCx M b n i) :
    ∃ M', cal (d + 1) 135 [.ref 127] M R = some (.inl none, M', R) ∧ RVf M M' ∧ ((RCx M' b n (sk b n (tuF b n 8 0 i 0).2.2) ∧ M' 130 = upf (upf (M 130) 5 (nI (tuF b n 8 0 i 0).2.1)) 6 (nI (tuF b n 8 0 i 0).1)) ∨ (isH b n (sk b n (tuF b n 8 0 i 0).2.2) (nI 59) = false ∧ RFx 510 M' b n 1 (sk b n (tuF b n 8 0 i 0).2.2))) := by
  obtain ⟨nN, k127, k128, l128, k129, l129, k130, l130, k131, l131, k132, l132, k133, l133, k134, l134, k135, l135, k136, l136, k137, l137, k138, l138, k139, l139, k140, l140, k141, l141, k142, l142, k143, l143, k144, l144, k145, l145, k146, l146, f127_1, f127_2, f127_3, f127_4, f127_6, f127_7, f127_17, f127_18, f127_19, f127_22, f127_24, f127_25, f127_26, f127_29, f127_30, f127_31, f127_32, f127_33⟩ := modF hS
  have hsg := sign_ (d := d) hS hP.1
  have hle := sk_le (b := b) hP.2.1
  obtain ⟨M', g1, g2, g3⟩ := turns_L (d := d) (b := b) (n := n) hS 8 0 i 0 (hrm M (sk b n i)) rfl (hP.mv hle) hP.2.1
  rw [hrm_c (by decide)] at g3
  refine ⟨M', ?_, RNf.hr.vf.trans g2, g3⟩
  rw [← g1, e135]
  simp (disch := first | assumption | exact nar_b0 | exact nar_b1 | exact nar_b | exact Or.inl rfl | exact Or.inr rfl | exact zin_t (by omega) (by omega) | exact Nat.le_of_ble_eq_true rfl | (rw [nI_cl (by omega)]; assumption) | omega) only [↓reduceIte, reduceCtorEq, not_true_eq_false, not_false_eq_true, q135_0, q135_1, q135_2, q135_3, q135_4, q135_5, q135_8i, q135_8a, q135_10, q135_13, q135_16, q135_17, q135_20, q135_21, q135_24, q135_27, q135_28, q135_31, q135_32, q135_35, q135_36, q135_38, q135_41, q135_42, q135_45, q135_46, q135_49, q135_50, q135_52, q135_55, q135_56, q135_58, q135_61, q135_62, q135_63, q135_64, q135_67, q135_70, q135_71, q135_72, q135_75, q135_76, q135_79, q135_80, q135_82, q135_85, q135_86, q135_87, q135_88, q135_91, q135_92, q135_93, q135_94, q135_97, q135_98i, q135_98a, q135_99, q135_102, q135_103, q135_104, q135_107, q135_108, q135_111i, q135_111a, q135_112, q135_115, q135_116, q135_119, q135_120, q135_121, q135_122, q135_123, q135_126, q135_128, q135_129, q135_130, kl_int, kl_ref, kl_tok, cS_nil, cS_int, cS_ref, cS_long, tl_some, tl_none, List.cons_append, List.nil_append, nI_add, nI_ltb, nI_leb, nI_eqb, nI_cl, zin_nI, hsg, zk0_inl]
/-- turns, while a fault stands -/
theorem turnsRead_no {k p : Nat} (hS : Sh R) (h : RFx 510 M b n k p) : ∃ M', cal (d + 1) 135 [.ref 127] M R = some (.inl none, M', R) ∧ RVf M M' ∧ RFx 510 M' b n k p := by
  obtain ⟨nN, k127, k128, l128, k129, l129, k130, l130, k131, l131, k132, l132, k133, l133, k134, l134, k135, l135, k136, l136, k137, l137, k138, l138, k139, l139, k140, l140, k141, l141, k142, l142, k143, l143, k144, l144, k145, l145, k146, l146, f127_1, f127_2, f127_3, f127_4, f127_6, f127_7, f127_17, f127_18, f127_19, f127_22, f127_24, f127_25, f127_26, f127_29, f127_30, f127_31, f127_32, f127_33⟩ := modF hS
  obtain ⟨⟨x0, x1, x2⟩, j, hj, hB⟩ := h
  have hsg := sign_ (d := d) hS hB
  have hn := hB.2.2.1
  have hs : sk b n j ≤ 510 := by
    by_cases c : j ≤ n
    · have := sk_le (b := b) c; omega
    · rw [sk_out (by omega)]; exact hj
  have hX2 : RFx 510 (hrm M (sk b n j)) b n k p := RFx.hr ⟨x0, x1, x2⟩ hB hj (by omega) hs
  have y12 := hX2.1.2.1
  have z : ¬ k = 0 := by omega
  refine ⟨up2 (up2 (hrm M (sk b n j)) 130 5 (nI 0)) 130 6 (nI 0), ?_, RNf.hr.vf.trans RVf.u2, (hX2.fr (up2_c (by decide)) (up2_c (by decide)) (up2_c (by decide)) (up2_c (by decide)) (up2_ne (by decide))).fr (up2_c (by decide)) (up2_c (by decide)) (up2_c (by decide)) (up2_c (by decide)) (up2_ne (by decide))⟩
  rw [← turns_e (d := d + 1) hS, e135]
  simp (disch := first | assumption | exact nar_b0 | exact nar_b1 | exact nar_b | exact Or.inl rfl | exact Or.inr rfl | exact zin_t (by omega) (by omega) | exact Nat.le_of_ble_eq_true rfl | (rw [nI_cl (by omega)]; assumption) | omega) only [↓reduceIte, reduceCtorEq, not_true_eq_false, not_false_eq_true, q135_0, q135_1, q135_2, q135_3, q135_4, q135_5, q135_8i, q135_8a, q135_10, q135_13, q135_16, q135_17, q135_20, q135_21, q135_24, q135_27, q135_28, q135_31, q135_32, q135_35, q135_36, q135_38, q135_41, q135_42, q135_45, q135_46, q135_49, q135_50, q135_52, q135_55, q135_56, q135_58, q135_61, q135_62, q135_63, q135_64, q135_67, q135_70, q135_71, q135_72, q135_75, q135_76, q135_79, q135_80, q135_82, q135_85, q135_86, q135_87, q135_88, q135_91, q135_92, q135_93, q135_94, q135_97, q135_98i, q135_98a, q135_99, q135_102, q135_103, q135_104, q135_107, q135_108, q135_111i, q135_111a, q135_112, q135_116, q135_119, q135_120, q135_121, q135_122, q135_123, q135_126, q135_128, q135_129, q135_130, kl_int, kl_ref, kl_tok, cS_nil, cS_int, cS_ref, cS_long, tl_some, tl_none, List.cons_append, List.nil_append, nI_add, nI_ltb, nI_leb, nI_eqb, nI_cl, zin_nI, hsg, zk0_inl]
  rw [q135_9]
  simp (disch := first | assumption | exact nar_b0 | exact nar_b1 | exact nar_b | exact Or.inl rfl | exact Or.inr rfl | exact zin_t (by omega) (by omega) | exact Nat.le_of_ble_eq_true rfl | (rw [nI_cl (by omega)]; assumption) | omega) only [↓reduceIte, reduceCtorEq, not_true_eq_false, not_false_eq_true, q135_0, q135_1, q135_2, q135_3, q135_4, q135_5, q135_8i, q135_8a, q135_10, q135_13, q135_16, q135_17, q135_20, q135_21, q135_24, q135_27, q135_28, q135_31, q135_32, q135_35, q135_36, q135_38, q135_41, q135_42, q135_45, q135_46, q135_49, q135_50, q135_52, q135_55, q135_56, q135_58, q135_61, q135_62, q135_63, q135_64, q135_67, q135_70, q135_71, q135_72, q135_75, q135_76, q135_79, q135_80, q135_82, q135_85, q135_86, q135_87, q135_88, q135_91, q135_92, q135_93, q135_94, q135_97, q135_98i, q135_98a, q135_99, q135_102, q135_103, q135_104, q135_107, q135_108, q135_111i, q135_111a, q135_112, q135_116, q135_119, q135_120, q135_121, q135_122, q135_123, q135_126, q135_128, q135_129, q135_130, kl_int, kl_ref, kl_tok, cS_nil, cS_int, cS_ref, cS_long, tl_some, tl_none, List.cons_append, List.nil_append, nI_add, nI_ltb, nI_leb, nI_eqb, nI_cl, zin_nI, y12, z]
end Ro
