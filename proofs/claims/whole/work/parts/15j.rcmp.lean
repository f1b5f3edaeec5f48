-- the reference compares
theorem RFx.hr {u k p i n : Nat} {M : ZM} {b : Nat → Int32} (h : RFt M k p) (hB : RB M b n i) (hi : i ≤ u) (hu : u ≤ 600) {j : Nat} (hj : j ≤ u) : RFx u (hrm M j) b n k p := ⟨⟨h.1, by rw [hrm_s (by decide)]; exact h.2.1, by rw [hrm_s (by decide)]; exact h.2.2⟩, j, hj, hB.mv (by omega)⟩
theorem kOf_c {b : Nat → Int32} {n s : Nat} (h : ¬ (kOf b n s = 2 ∧ isH b n s (nI 62) = false)) : s < n ∧ b s = nI (60 + kOf b n s) ∧ kOf b n s < 3 := by
  unfold kOf at h ⊢
  cases c1 : isH b n s (nI 60)
  · cases c2 : isH b n s (nI 61)
    · cases c3 : isH b n s (nI 62)
      · rw [c1, c2, c3] at h; exact absurd ⟨rfl, rfl⟩ h
      · have := of_decide_eq_true c3
        exact ⟨this.1, this.2, by decide⟩
    · have := of_decide_eq_true c2
      exact ⟨this.1, this.2, by decide⟩
  · have := of_decide_eq_true c1
    exact ⟨this.1, this.2, by rw [if_pos rfl]; decide⟩
theorem kOf_n {b : Nat → Int32} {n s : Nat} (h : kOf b n s = 2 ∧ isH b n s (nI 62) = false) : n ≤ s ∨ (b s ≠ nI 60 ∧ b s ≠ nI 61 ∧ b s ≠ nI 62) := by
  by_cases c : n ≤ s
  · exact Or.inl c
  · have hlt : s < n := by omega
    obtain ⟨h1, h2⟩ := h
    unfold kOf at h1
    refine Or.inr ⟨fun e => ?_, fun e => ?_, fun e => ?_⟩
    · rw [show isH b n s (nI 60) = true from decide_eq_true ⟨hlt, e⟩] at h1
      cases h1
    · cases c1 : isH b n s (nI 60)
      · rw [c1, show isH b n s (nI 61) = true from decide_eq_true ⟨hlt, e⟩] at h1
        cases h1
      · rw [c1] at h1; cases h1
    · rw [show isH b n s (nI 62) = true from decide_eq_true ⟨hlt, e⟩] at h2
      cases h2
section Rj
variable {d n i : Nat} {M : ZM} {R : ZH} {b : Nat → Int32} {C : List Int}
theorem cmp_fl {k p j : Nat} {v : Value} {c : Int32} (hS : Sh R) (h : RFt M k p) (hB : RB M b n j) (hj : j ≤ 505) : exe (d + 1) 129 163 [.ref 127, .int c] [] M R = some (.inl none, hrm M (j + 1), R) ∧ RFx 510 (hrm M (j + 1)) b n k p := by
  obtain ⟨nN, k127, k128, l128, k129, l129, k130, l130, k131, l131, k132, l132, k133, l133, k134, l134, k135, l135, k136, l136, k137, l137, k138, l138, k139, l139, k140, l140, k141, l141, k142, l142, k143, l143, k144, l144, k145, l145, k146, l146, f127_1, f127_2, f127_3, f127_4, f127_6, f127_7, f127_17, f127_18, f127_19, f127_22, f127_24, f127_25, f127_26, f127_29, f127_30, f127_31, f127_32, f127_33⟩ := modF hS
  have hX : RFx 510 (hrm M (j + 1)) b n k p := RFx.hr h hB (by omega) (by omega) (by omega)
  refine ⟨?_, hX⟩
  have h10 := hB.2.1
  have g1 := quantity_no (d := d) hS hX.1
  have g2 := adds_no (d := d) (x := nI 2000 + c) hS hX.1
  have e : up2 M 127 10 (nI (j + 1)) = hrm M (j + 1) := rfl
  simp (disch := first | assumption | exact nar_b0 | exact nar_b1 | exact nar_b | exact Or.inl rfl | exact Or.inr rfl | exact zin_t (by omega) (by omega) | exact Nat.le_of_ble_eq_true rfl | (rw [nI_cl (by omega)]; assumption) | omega) only [↓reduceIte, reduceCtorEq, not_true_eq_false, not_false_eq_true, q129_0, q129_1, q129_4, q129_7, q129_8, q129_9, q129_11, q129_14, q129_17, q129_18, q129_19, q129_22, q129_25, q129_26, q129_27, q129_30, q129_31i, q129_31a, q129_32, q129_35, q129_36, q129_37, q129_40, q129_41, q129_44, q129_47, q129_48, q129_49, q129_52, q129_54, q129_57, q129_58, q129_61, q129_62, q129_65, q129_68, q129_69, q129_70, q129_73, q129_76, q129_77, q129_78, q129_81, q129_82, q129_84, q129_87, q129_88i, q129_88a, q129_89, q129_92, q129_93, q129_94, q129_97, q129_98, q129_99, q129_102, q129_103, q129_106, q129_109, q129_110, q129_113, q129_116, q129_117, q129_118, q129_119, q129_122, q129_125, q129_126, q129_129, q129_130, q129_133, q129_136, q129_137, q129_139, q129_142, q129_143, q129_145, q129_148, q129_149, q129_151, q129_154, q129_155, q129_156, q129_157, q129_160, q129_163, q129_164i, q129_164a, q129_165, q129_168, q129_169, q129_170, q129_173, q129_174, q129_177, q129_178, q129_181, q129_182, q129_183, q129_186, kl_int, kl_ref, kl_tok, cS_nil, cS_int, cS_ref, cS_long, tl_some, tl_none, List.cons_append, List.nil_append, nI_add, nI_ltb, nI_leb, nI_eqb, nI_cl, zin_nI, h10, e, g1, g2, zk0_inl]
theorem cmp_ (hS : Sh R) (hF : FO M) (hP : RCx M b n i) (hC : CdM M C) (hl : C.length ≤ i) {v : Value} : RdO R b n (exe (d + 7) 129 98 [.ref 127, tok] [] M R) M i C (pCmp b n i) := by
  obtain ⟨nN, k127, k128, l128, k129, l129, k130, l130, k131, l131, k132, l132, k133, l133, k134, l134, k135, l135, k136, l136, k137, l137, k138, l138, k139, l139, k140, l140, k141, l141, k142, l142, k143, l143, k144, l144, k145, l145, k146, l146, f127_1, f127_2, f127_3, f127_4, f127_6, f127_7, f127_17, f127_18, f127_19, f127_22, f127_24, f127_25, f127_26, f127_29, f127_30, f127_31, f127_32, f127_33⟩ := modF hS
  have hn := hP.1.2.2.1
  obtain ⟨q1, q2⟩ := quantity_ (d := d) hS hF hP hC hl
  unfold pCmp
  cases e1 : pOp b n i with
  | inl f =>
    obtain ⟨k, p⟩ := f
    obtain ⟨M1, g1, g2, g3, g4⟩ := q2 k p e1
    refine ⟨fun st i' h => (by cases h), fun k' p' h => ?_⟩
    cases h
    obtain ⟨x, j, hj, hB⟩ := g2
    obtain ⟨r1, r2⟩ := cmp_fl (d := d + 6) (c := nI 0) (v := tok) hS x hB (by omega)
    have z : ¬ k = 0 := by have := x.1; omega
    have x1 := x.2.1
    have xk := x.1
    refine ⟨_, ?_, r2, g4.trans RNf.hr.cf⟩
    rw [← r1]
    simp (disch := first | assumption | exact nar_b0 | exact nar_b1 | exact nar_b | exact Or.inl rfl | exact Or.inr rfl | exact zin_t (by omega) (by omega) | exact Nat.le_of_ble_eq_true rfl | (rw [nI_cl (by omega)]; assumption) | omega) only [↓reduceIte, reduceCtorEq, not_true_eq_false, not_false_eq_true, q129_0, q129_1, q129_4, q129_7, q129_8, q129_9, q129_11, q129_14, q129_17, q129_18, q129_19, q129_22, q129_25, q129_26, q129_27, q129_30, q129_31i, q129_31a, q129_32, q129_35, q129_36, q129_37, q129_40, q129_41, q129_44, q129_47, q129_48, q129_49, q129_52, q129_54, q129_57, q129_58, q129_61, q129_62, q129_65, q129_68, q129_69, q129_70, q129_73, q129_76, q129_77, q129_78, q129_81, q129_82, q129_84, q129_87, q129_88i, q129_88a, q129_89, q129_92, q129_93, q129_94, q129_97, q129_98, q129_99, q129_102, q129_103, q129_106, q129_109, q129_110, q129_113, q129_116, q129_117, q129_118, q129_119, q129_122, q129_125, q129_126, q129_129, q129_130, q129_133, q129_136, q129_137, q129_139, q129_142, q129_143, q129_145, q129_148, q129_149, q129_151, q129_154, q129_155, q129_156, q129_157, q129_160, q129_164i, q129_164a, q129_165, q129_168, q129_169, q129_170, q129_173, q129_174, q129_177, q129_178, q129_181, q129_182, q129_183, q129_186, kl_int, kl_ref, kl_tok, cS_nil, cS_int, cS_ref, cS_long, tl_some, tl_none, List.cons_append, List.nil_append, nI_add, nI_ltb, nI_leb, nI_eqb, nI_cl, zin_nI, g1, zk0_inl, x1, z]
  | inr w =>
    obtain ⟨l, i1⟩ := w
    obtain ⟨M1, g1, g2, g3, g4, g5⟩ := q1 l i1 e1
    have p1 := pOp_pos hP.2.1 e1
    have hge := sk_ge b n i1
    have hle := sk_le (b := b) p1.2.1
    have x12 := g2.2.2
    have hsg := sign_ (d := d + 6) hS g2.1
    have hP2 := g2.mv hle
    have y12 := hP2.2.2
    have y10 := hP2.1.2.1
    have y9 := hP2.1.1
    by_cases c : kOf b n (sk b n i1) = 2 ∧ isH b n (sk b n i1) (nI 62) = false
    · simp only [c, and_self, if_true]
      refine ⟨fun st i' h => (by cases h), fun k' p' h => ?_⟩
      cases h
      have hw := wrong_ (d := d + 6) (R := R) (k := nI 1) (p := nI (sk b n i1)) hS y12
      have hX := RFx.wr (k := 1) (p := sk b n i1) (u := 500) hP2.1 (by omega) (by decide)
      have fW : RCf (hrm M1 (sk b n i1)) (up2 (up2 (hrm M1 (sk b n i1)) 127 12 (nI 1)) 127 13 (nI (sk b n i1))) := RNf.wr.cf
      generalize up2 (up2 (hrm M1 (sk b n i1)) 127 12 (nI 1)) 127 13 (nI (sk b n i1)) = W at hw hX fW
      obtain ⟨x, j, hj, hB⟩ := hX
      obtain ⟨r1, r2⟩ := cmp_fl (d := d + 6) (c := chr b n (sk b n i1)) (v := tok) hS x hB (by omega)
      refine ⟨_, ?_, r2, ((g5.trans RNf.hr.cf).trans fW).trans RNf.hr.cf⟩
      rw [← r1]
      rcases kOf_n c with c1 | ⟨c1, c2, c3⟩
      · simp (disch := first | assumption | exact nar_b0 | exact nar_b1 | exact nar_b | exact Or.inl rfl | exact Or.inr rfl | exact zin_t (by omega) (by omega) | exact Nat.le_of_ble_eq_true rfl | (rw [nI_cl (by omega)]; assumption) | omega) only [↓reduceIte, reduceCtorEq, not_true_eq_false, not_false_eq_true, q129_0, q129_1, q129_4, q129_7, q129_8, q129_9, q129_11, q129_14, q129_17, q129_18, q129_19, q129_22, q129_25, q129_26, q129_27, q129_30, q129_31i, q129_31a, q129_32, q129_35, q129_36, q129_37, q129_40, q129_41, q129_44, q129_47, q129_48, q129_49, q129_52, q129_54, q129_57, q129_58, q129_61, q129_62, q129_65, q129_68, q129_69, q129_70, q129_73, q129_76, q129_77, q129_78, q129_81, q129_82, q129_84, q129_87, q129_88i, q129_88a, q129_89, q129_92, q129_93, q129_94, q129_97, q129_98, q129_99, q129_102, q129_103, q129_106, q129_109, q129_110, q129_113, q129_116, q129_117, q129_118, q129_119, q129_122, q129_125, q129_126, q129_129, q129_130, q129_133, q129_136, q129_137, q129_139, q129_142, q129_143, q129_145, q129_148, q129_149, q129_151, q129_154, q129_155, q129_156, q129_157, q129_160, q129_164i, q129_164a, q129_165, q129_168, q129_169, q129_170, q129_173, q129_174, q129_177, q129_178, q129_181, q129_182, q129_183, q129_186, kl_int, kl_ref, kl_tok, cS_nil, cS_int, cS_ref, cS_long, tl_some, tl_none, List.cons_append, List.nil_append, nI_add, nI_ltb, nI_leb, nI_eqb, nI_cl, zin_nI, g1, zk0_inl, x12, hsg, y12, y10, y9, c1, hw]
      · by_cases c0 : n ≤ sk b n i1
        · simp (disch := first | assumption | exact nar_b0 | exact nar_b1 | exact nar_b | exact Or.inl rfl | exact Or.inr rfl | exact zin_t (by omega) (by omega) | exact Nat.le_of_ble_eq_true rfl | (rw [nI_cl (by omega)]; assumption) | omega) only [↓reduceIte, reduceCtorEq, not_true_eq_false, not_false_eq_true, q129_0, q129_1, q129_4, q129_7, q129_8, q129_9, q129_11, q129_14, q129_17, q129_18, q129_19, q129_22, q129_25, q129_26, q129_27, q129_30, q129_31i, q129_31a, q129_32, q129_35, q129_36, q129_37, q129_40, q129_41, q129_44, q129_47, q129_48, q129_49, q129_52, q129_54, q129_57, q129_58, q129_61, q129_62, q129_65, q129_68, q129_69, q129_70, q129_73, q129_76, q129_77, q129_78, q129_81, q129_82, q129_84, q129_87, q129_88i, q129_88a, q129_89, q129_92, q129_93, q129_94, q129_97, q129_98, q129_99, q129_102, q129_103, q129_106, q129_109, q129_110, q129_113, q129_116, q129_117, q129_118, q129_119, q129_122, q129_125, q129_126, q129_129, q129_130, q129_133, q129_136, q129_137, q129_139, q129_142, q129_143, q129_145, q129_148, q129_149, q129_151, q129_154, q129_155, q129_156, q129_157, q129_160, q129_164i, q129_164a, q129_165, q129_168, q129_169, q129_170, q129_173, q129_174, q129_177, q129_178, q129_181, q129_182, q129_183, q129_186, kl_int, kl_ref, kl_tok, cS_nil, cS_int, cS_ref, cS_long, tl_some, tl_none, List.cons_append, List.nil_append, nI_add, nI_ltb, nI_leb, nI_eqb, nI_cl, zin_nI, g1, zk0_inl, x12, hsg, y12, y10, y9, c0, hw]
        · have ec : chr b n (sk b n i1) = b (sk b n i1) := if_pos (by omega)
          rw [ec] at hsg ⊢
          simp (disch := first | assumption | exact nar_b0 | exact nar_b1 | exact nar_b | exact Or.inl rfl | exact Or.inr rfl | exact zin_t (by omega) (by omega) | exact Nat.le_of_ble_eq_true rfl | (rw [nI_cl (by omega)]; assumption) | omega) only [↓reduceIte, reduceCtorEq, not_true_eq_false, not_false_eq_true, q129_0, q129_1, q129_4, q129_7, q129_8, q129_9, q129_11, q129_14, q129_17, q129_18, q129_19, q129_22, q129_25, q129_26, q129_27, q129_30, q129_31i, q129_31a, q129_32, q129_35, q129_36, q129_37, q129_40, q129_41, q129_44, q129_47, q129_48, q129_49, q129_52, q129_54, q129_57, q129_58, q129_61, q129_62, q129_65, q129_68, q129_69, q129_70, q129_73, q129_76, q129_77, q129_78, q129_81, q129_82, q129_84, q129_87, q129_88i, q129_88a, q129_89, q129_92, q129_93, q129_94, q129_97, q129_98, q129_99, q129_102, q129_103, q129_106, q129_109, q129_110, q129_113, q129_116, q129_117, q129_118, q129_119, q129_122, q129_125, q129_126, q129_129, q129_130, q129_133, q129_136, q129_137, q129_139, q129_142, q129_143, q129_145, q129_148, q129_149, q129_151, q129_154, q129_155, q129_156, q129_157, q129_160, q129_164i, q129_164a, q129_165, q129_168, q129_169, q129_170, q129_173, q129_174, q129_177, q129_178, q129_181, q129_182, q129_183, q129_186, kl_int, kl_ref, kl_tok, cS_nil, cS_int, cS_ref, cS_long, tl_some, tl_none, List.cons_append, List.nil_append, nI_add, nI_ltb, nI_leb, nI_eqb, nI_cl, zin_nI, g1, zk0_inl, x12, hsg, y12, y10, y9, c0, c1, c2, c3, hw]
    · simp only [c, if_false]
      obtain ⟨k1, k2, k3⟩ := kOf_c c
      generalize kOf b n (sk b n i1) = kd at k2 k3 ⊢
      have c0 : ¬ n ≤ sk b n i1 := by omega
      have ec : chr b n (sk b n i1) = nI (60 + kd) := by rw [← k2]; exact if_pos k1
      rw [ec] at hsg
      have hP3 := g2.mv (j := sk b n i1 + 1) (by omega)
      have hC3 : CdM (hrm M1 (sk b n i1 + 1)) (C ++ [opc l]) := g3.fr (hrm_s (by decide)) (hrm_c (by decide))
      have f3 : RCf M (hrm M1 (sk b n i1 + 1)) := g5.trans RNf.hr.cf
      have e3 : up2 (hrm M1 (sk b n i1)) 127 10 (nI (sk b n i1 + 1)) = hrm M1 (sk b n i1 + 1) := hrm_at
      have hl1 : (C ++ [opc l]).length = C.length + 1 := by simp
      obtain ⟨u1, u2⟩ := quantity_ (d := d) hS (hF.rf f3) hP3 hC3 (by omega)
      have hx : exe (d + 7) 129 98 [.ref 127, tok] [] M R = exe (d + 7) 129 173 [.ref 127, .int (nI (60 + kd))] [] (hrm M1 (sk b n i1 + 1)) R := by
        rcases (show kd = 0 ∨ kd = 1 ∨ kd = 2 by omega) with rfl | rfl | rfl
        · simp (disch := first | assumption | exact nar_b0 | exact nar_b1 | exact nar_b | exact Or.inl rfl | exact Or.inr rfl | exact zin_t (by omega) (by omega) | exact Nat.le_of_ble_eq_true rfl | (rw [nI_cl (by omega)]; assumption) | omega) only [↓reduceIte, reduceCtorEq, not_true_eq_false, not_false_eq_true, q129_0, q129_1, q129_4, q129_7, q129_8, q129_9, q129_11, q129_14, q129_17, q129_18, q129_19, q129_22, q129_25, q129_26, q129_27, q129_30, q129_31i, q129_31a, q129_32, q129_35, q129_36, q129_37, q129_40, q129_41, q129_44, q129_47, q129_48, q129_49, q129_52, q129_54, q129_57, q129_58, q129_61, q129_62, q129_65, q129_68, q129_69, q129_70, q129_73, q129_76, q129_77, q129_78, q129_81, q129_82, q129_84, q129_87, q129_88i, q129_88a, q129_89, q129_92, q129_93, q129_94, q129_97, q129_98, q129_99, q129_102, q129_103, q129_106, q129_109, q129_110, q129_113, q129_116, q129_117, q129_118, q129_119, q129_122, q129_125, q129_126, q129_129, q129_130, q129_133, q129_136, q129_137, q129_139, q129_142, q129_143, q129_145, q129_148, q129_149, q129_151, q129_154, q129_155, q129_156, q129_157, q129_160, q129_163, q129_164i, q129_164a, q129_165, q129_168, q129_169, q129_170, q129_174, q129_177, q129_178, q129_181, q129_182, q129_183, q129_186, kl_int, kl_ref, kl_tok, cS_nil, cS_int, cS_ref, cS_long, tl_some, tl_none, List.cons_append, List.nil_append, nI_add, nI_ltb, nI_leb, nI_eqb, nI_cl, zin_nI, g1, zk0_inl, x12, hsg, y12, y10, y9, c0, e3]
        · simp (disch := first | assumption | exact nar_b0 | exact nar_b1 | exact nar_b | exact Or.inl rfl | exact Or.inr rfl | exact zin_t (by omega) (by omega) | exact Nat.le_of_ble_eq_true rfl | (rw [nI_cl (by omega)]; assumption) | omega) only [↓reduceIte, reduceCtorEq, not_true_eq_false, not_false_eq_true, q129_0, q129_1, q129_4, q129_7, q129_8, q129_9, q129_11, q129_14, q129_17, q129_18, q129_19, q129_22, q129_25, q129_26, q129_27, q129_30, q129_31i, q129_31a, q129_32, q129_35, q129_36, q129_37, q129_40, q129_41, q129_44, q129_47, q129_48, q129_49, q129_52, q129_54, q129_57, q129_58, q129_61, q129_62, q129_65, q129_68, q129_69, q129_70, q129_73, q129_76, q129_77, q129_78, q129_81, q129_82, q129_84, q129_87, q129_88i, q129_88a, q129_89, q129_92, q129_93, q129_94, q129_97, q129_98, q129_99, q129_102, q129_103, q129_106, q129_109, q129_110, q129_113, q129_116, q129_117, q129_118, q129_119, q129_122, q129_125, q129_126, q129_129, q129_130, q129_133, q129_136, q129_137, q129_139, q129_142, q129_143, q129_145, q129_148, q129_149, q129_151, q129_154, q129_155, q129_156, q129_157, q129_160, q129_163, q129_164i, q129_164a, q129_165, q129_168, q129_169, q129_170, q129_174, q129_177, q129_178, q129_181, q129_182, q129_183, q129_186, kl_int, kl_ref, kl_tok, cS_nil, cS_int, cS_ref, cS_long, tl_some, tl_none, List.cons_append, List.nil_append, nI_add, nI_ltb, nI_leb, nI_eqb, nI_cl, zin_nI, g1, zk0_inl, x12, hsg, y12, y10, y9, c0, e3]
          split <;> rfl
        · simp (disch := first | assumption | exact nar_b0 | exact nar_b1 | exact nar_b | exact Or.inl rfl | exact Or.inr rfl | exact zin_t (by omega) (by omega) | exact Nat.le_of_ble_eq_true rfl | (rw [nI_cl (by omega)]; assumption) | omega) only [↓reduceIte, reduceCtorEq, not_true_eq_false, not_false_eq_true, q129_0, q129_1, q129_4, q129_7, q129_8, q129_9, q129_11, q129_14, q129_17, q129_18, q129_19, q129_22, q129_25, q129_26, q129_27, q129_30, q129_31i, q129_31a, q129_32, q129_35, q129_36, q129_37, q129_40, q129_41, q129_44, q129_47, q129_48, q129_49, q129_52, q129_54, q129_57, q129_58, q129_61, q129_62, q129_65, q129_68, q129_69, q129_70, q129_73, q129_76, q129_77, q129_78, q129_81, q129_82, q129_84, q129_87, q129_88i, q129_88a, q129_89, q129_92, q129_93, q129_94, q129_97, q129_98, q129_99, q129_102, q129_103, q129_106, q129_109, q129_110, q129_113, q129_116, q129_117, q129_118, q129_119, q129_122, q129_125, q129_126, q129_129, q129_130, q129_133, q129_136, q129_137, q129_139, q129_142, q129_143, q129_145, q129_148, q129_149, q129_151, q129_154, q129_155, q129_156, q129_157, q129_160, q129_163, q129_164i, q129_164a, q129_165, q129_168, q129_169, q129_170, q129_174, q129_177, q129_178, q129_181, q129_182, q129_183, q129_186, kl_int, kl_ref, kl_tok, cS_nil, cS_int, cS_ref, cS_long, tl_some, tl_none, List.cons_append, List.nil_append, nI_add, nI_ltb, nI_leb, nI_eqb, nI_cl, zin_nI, g1, zk0_inl, x12, hsg, y12, y10, y9, c0, e3]
          split
          · rfl
          · split <;> rfl
      rw [hx]
      cases e2 : pOp b n (sk b n i1 + 1) with
      | inl f =>
        obtain ⟨k, p⟩ := f
        obtain ⟨M4, r1, r2, r3, r4⟩ := u2 k p e2
        refine ⟨fun st i' h => (by cases h), fun k' p' h => ?_⟩
        cases h
        have ga := adds_no (d := d + 6) (x := nI (2000 + (60 + kd))) hS r2.1
        obtain ⟨x, j, hj, hB⟩ := r2
        refine ⟨M4, ?_, ⟨x, j, by omega, hB⟩, f3.trans r4⟩
        simp (disch := first | assumption | exact nar_b0 | exact nar_b1 | exact nar_b | exact Or.inl rfl | exact Or.inr rfl | exact zin_t (by omega) (by omega) | exact Nat.le_of_ble_eq_true rfl | (rw [nI_cl (by omega)]; assumption) | omega) only [↓reduceIte, reduceCtorEq, not_true_eq_false, not_false_eq_true, q129_0, q129_1, q129_4, q129_7, q129_8, q129_9, q129_11, q129_14, q129_17, q129_18, q129_19, q129_22, q129_25, q129_26, q129_27, q129_30, q129_31i, q129_31a, q129_32, q129_35, q129_36, q129_37, q129_40, q129_41, q129_44, q129_47, q129_48, q129_49, q129_52, q129_54, q129_57, q129_58, q129_61, q129_62, q129_65, q129_68, q129_69, q129_70, q129_73, q129_76, q129_77, q129_78, q129_81, q129_82, q129_84, q129_87, q129_88i, q129_88a, q129_89, q129_92, q129_93, q129_94, q129_97, q129_98, q129_99, q129_102, q129_103, q129_106, q129_109, q129_110, q129_113, q129_116, q129_117, q129_118, q129_119, q129_122, q129_125, q129_126, q129_129, q129_130, q129_133, q129_136, q129_137, q129_139, q129_142, q129_143, q129_145, q129_148, q129_149, q129_151, q129_154, q129_155, q129_156, q129_157, q129_160, q129_163, q129_164i, q129_164a, q129_165, q129_168, q129_169, q129_170, q129_173, q129_174, q129_177, q129_178, q129_181, q129_182, q129_183, q129_186, kl_int, kl_ref, kl_tok, cS_nil, cS_int, cS_ref, cS_long, tl_some, tl_none, List.cons_append, List.nil_append, nI_add, nI_ltb, nI_leb, nI_eqb, nI_cl, zin_nI, r1, zk0_inl, ga]
      | inr w2 =>
        obtain ⟨r, i2⟩ := w2
        obtain ⟨M4, r1, r2, r3, r4, r5⟩ := u1 r i2 e2
        have p2 := pOp_pos (by omega) e2
        have hl2 : (C ++ [opc l] ++ [opc r]).length = C.length + 2 := by simp
        have ga := adds_ (d := d + 6) (x := 2060 + (kd : Int)) hS r2.2.2 r3 (by omega)
        have e4 : iI (2060 + (kd : Int)) = nI (2000 + (60 + kd)) := by rw [nI_iI]; congr 1; omega
        rw [e4] at ga
        refine ⟨fun st i' h => ?_, fun k p h => (by cases h)⟩
        cases h
        rw [fl_cmp k3]
        refine ⟨⟨by omega, p2.2.1, by show 3 ≤ _; omega⟩, adR M4 (C ++ [opc l] ++ [opc r]).length (2060 + (kd : Int)), ?_, adR_cx r2, ?_, ?_, (f3.trans r5).trans adR_f⟩
        · simp (disch := first | assumption | exact nar_b0 | exact nar_b1 | exact nar_b | exact Or.inl rfl | exact Or.inr rfl | exact zin_t (by omega) (by omega) | exact Nat.le_of_ble_eq_true rfl | (rw [nI_cl (by omega)]; assumption) | omega) only [↓reduceIte, reduceCtorEq, not_true_eq_false, not_false_eq_true, q129_0, q129_1, q129_4, q129_7, q129_8, q129_9, q129_11, q129_14, q129_17, q129_18, q129_19, q129_22, q129_25, q129_26, q129_27, q129_30, q129_31i, q129_31a, q129_32, q129_35, q129_36, q129_37, q129_40, q129_41, q129_44, q129_47, q129_48, q129_49, q129_52, q129_54, q129_57, q129_58, q129_61, q129_62, q129_65, q129_68, q129_69, q129_70, q129_73, q129_76, q129_77, q129_78, q129_81, q129_82, q129_84, q129_87, q129_88i, q129_88a, q129_89, q129_92, q129_93, q129_94, q129_97, q129_98, q129_99, q129_102, q129_103, q129_106, q129_109, q129_110, q129_113, q129_116, q129_117, q129_118, q129_119, q129_122, q129_125, q129_126, q129_129, q129_130, q129_133, q129_136, q129_137, q129_139, q129_142, q129_143, q129_145, q129_148, q129_149, q129_151, q129_154, q129_155, q129_156, q129_157, q129_160, q129_163, q129_164i, q129_164a, q129_165, q129_168, q129_169, q129_170, q129_173, q129_174, q129_177, q129_178, q129_181, q129_182, q129_183, q129_186, kl_int, kl_ref, kl_tok, cS_nil, cS_int, cS_ref, cS_long, tl_some, tl_none, List.cons_append, List.nil_append, nI_add, nI_ltb, nI_leb, nI_eqb, nI_cl, zin_nI, r1, zk0_inl, ga]
        · have := r3.ad (x := 2060 + (kd : Int))
          simpa using this
        · unfold adR; rw [up2_s (by decide), up2_ne (by decide), r4, hrm_s (by decide)]; exact g4
end Rj
