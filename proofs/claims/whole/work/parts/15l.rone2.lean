-- the reference: part, all of it
section Rl
variable {d n i : Nat} {M : ZM} {R : ZH} {b : Nat → Int32} {C : List Int}
theorem part_n (hS : Sh R) (hF : FO M) (hP : RCx M b n i) (c1 : wm b n (sk b n i) 11 = true) : cal (d + 5) 129 [.ref 127] M R = exe (d + 5) 129 17 [.ref 127, tok] [] (hrm M (sk b n i)) R := by
  obtain ⟨nN, k127, k128, l128, k129, l129, k130, l130, k131, l131, k132, l132, k133, l133, k134, l134, k135, l135, k136, l136, k137, l137, k138, l138, k139, l139, k140, l140, k141, l141, k142, l142, k143, l143, k144, l144, k145, l145, k146, l146, f127_1, f127_2, f127_3, f127_4, f127_6, f127_7, f127_17, f127_18, f127_19, f127_22, f127_24, f127_25, f127_26, f127_29, f127_30, f127_31, f127_32, f127_33⟩ := modF hS
  have h12 := hP.2.2
  have hh := isHere_ (d := d) (a := 1000012) (j := 11) rfl (by decide) hS hF hP.1
  rw [c1] at hh
  have hh' : cal (d + 4) 119 [.ref 127, .ref 1000012] M R = some (.inl (some (.int (nI 1))), hrm M (sk b n i), R) := hh
  rw [e129]
  simp (disch := first | assumption | exact nar_b0 | exact nar_b1 | exact nar_b | exact Or.inl rfl | exact Or.inr rfl | exact zin_t (by omega) (by omega) | exact Nat.le_of_ble_eq_true rfl | (rw [nI_cl (by omega)]; assumption) | omega) only [↓reduceIte, reduceCtorEq, not_true_eq_false, not_false_eq_true, q129_0, q129_1, q129_4, q129_7, q129_8, q129_9, q129_11, q129_14, q129_18, q129_19, q129_22, q129_25, q129_26, q129_27, q129_30, q129_31i, q129_31a, q129_32, q129_35, q129_36, q129_37, q129_40, q129_41, q129_44, q129_47, q129_48, q129_49, q129_52, q129_54, q129_57, q129_58, q129_61, q129_62, q129_65, q129_68, q129_69, q129_70, q129_73, q129_76, q129_77, q129_78, q129_81, q129_82, q129_84, q129_87, q129_88i, q129_88a, q129_89, q129_92, q129_93, q129_94, q129_97, q129_98, q129_99, q129_102, q129_103, q129_106, q129_109, q129_110, q129_113, q129_116, q129_117, q129_118, q129_119, q129_122, q129_125, q129_126, q129_129, q129_130, q129_133, q129_136, q129_137, q129_139, q129_142, q129_143, q129_145, q129_148, q129_149, q129_151, q129_154, q129_155, q129_156, q129_157, q129_160, q129_163, q129_164i, q129_164a, q129_165, q129_168, q129_169, q129_170, q129_173, q129_174, q129_177, q129_178, q129_181, q129_182, q129_183, q129_186, kl_int, kl_ref, kl_tok, cS_nil, cS_int, cS_ref, cS_long, tl_some, tl_none, List.cons_append, List.nil_append, nI_add, nI_ltb, nI_leb, nI_eqb, nI_cl, zin_nI, h12, Nat.le_refl, hh', zk0_inl, b2i_ne1]
theorem part_b (hS : Sh R) (hF : FO M) (hP : RCx M b n i) (c1 : wm b n (sk b n i) 11 = false) (c2 : isH b n (sk b n i) (nI 40) = true) : cal (d + 5) 129 [.ref 127] M R = exe (d + 5) 129 68 [.ref 127, tok] [] (hrm M (sk b n i)) R := by
  obtain ⟨nN, k127, k128, l128, k129, l129, k130, l130, k131, l131, k132, l132, k133, l133, k134, l134, k135, l135, k136, l136, k137, l137, k138, l138, k139, l139, k140, l140, k141, l141, k142, l142, k143, l143, k144, l144, k145, l145, k146, l146, f127_1, f127_2, f127_3, f127_4, f127_6, f127_7, f127_17, f127_18, f127_19, f127_22, f127_24, f127_25, f127_26, f127_29, f127_30, f127_31, f127_32, f127_33⟩ := modF hS
  have h12 := hP.2.2
  have hle := sk_le (b := b) hP.2.1
  have hh := isHere_ (d := d) (a := 1000012) (j := 11) rfl (by decide) hS hF hP.1
  rw [c1] at hh
  have hh' : cal (d + 4) 119 [.ref 127, .ref 1000012] M R = some (.inl (some (.int (nI 0))), hrm M (sk b n i), R) := hh
  have hP1 := hP.mv hle
  have hsg := sign_ (d := d + 4) hS hP1.1
  rw [sk_sk hP.2.1, hrm_at] at hsg
  obtain ⟨k1, k2⟩ := of_decide_eq_true c2
  rw [show chr b n (sk b n i) = nI 40 by rw [← k2]; exact if_pos k1] at hsg
  have hn := hP.1.2.2.1
  have y10 := hP1.1.2.1
  have y9 := hP1.1.1
  have c0 : ¬ n ≤ sk b n i := by omega
  rw [e129]
  simp (disch := first | assumption | exact nar_b0 | exact nar_b1 | exact nar_b | exact Or.inl rfl | exact Or.inr rfl | exact zin_t (by omega) (by omega) | exact Nat.le_of_ble_eq_true rfl | (rw [nI_cl (by omega)]; assumption) | omega) only [↓reduceIte, reduceCtorEq, not_true_eq_false, not_false_eq_true, q129_0, q129_1, q129_4, q129_7, q129_8, q129_9, q129_11, q129_14, q129_17, q129_18, q129_19, q129_22, q129_25, q129_26, q129_27, q129_30, q129_31i, q129_31a, q129_32, q129_35, q129_36, q129_37, q129_40, q129_41, q129_44, q129_47, q129_48, q129_49, q129_52, q129_54, q129_57, q129_58, q129_61, q129_62, q129_65, q129_69, q129_70, q129_73, q129_76, q129_77, q129_78, q129_81, q129_82, q129_84, q129_87, q129_88i, q129_88a, q129_89, q129_92, q129_93, q129_94, q129_97, q129_98, q129_99, q129_102, q129_103, q129_106, q129_109, q129_110, q129_113, q129_116, q129_117, q129_118, q129_119, q129_122, q129_125, q129_126, q129_129, q129_130, q129_133, q129_136, q129_137, q129_139, q129_142, q129_143, q129_145, q129_148, q129_149, q129_151, q129_154, q129_155, q129_156, q129_157, q129_160, q129_163, q129_164i, q129_164a, q129_165, q129_168, q129_169, q129_170, q129_173, q129_174, q129_177, q129_178, q129_181, q129_182, q129_183, q129_186, kl_int, kl_ref, kl_tok, cS_nil, cS_int, cS_ref, cS_long, tl_some, tl_none, List.cons_append, List.nil_append, nI_add, nI_ltb, nI_leb, nI_eqb, nI_cl, zin_nI, h12, Nat.le_refl, hh', hsg, zk0_inl, y10, y9, c0]
theorem rdC_129 (hS : Sh R) : ∀ dd, dd ≤ 4 → RdC R b n 129 (8 + 3 * dd) (4 - dd) (pOne b n dd) := by
  obtain ⟨nN, k127, k128, l128, k129, l129, k130, l130, k131, l131, k132, l132, k133, l133, k134, l134, k135, l135, k136, l136, k137, l137, k138, l138, k139, l139, k140, l140, k141, l141, k142, l142, k143, l143, k144, l144, k145, l145, k146, l146, f127_1, f127_2, f127_3, f127_4, f127_6, f127_7, f127_17, f127_18, f127_19, f127_22, f127_24, f127_25, f127_26, f127_29, f127_30, f127_31, f127_32, f127_33⟩ := modF hS
  intro dd
  induction dd with
  | zero =>
    intro _ e M i C he hF hP hC hl h15
    obtain ⟨d, rfl⟩ : ∃ d, e = d + 8 := ⟨e - 8, by omega⟩
    have hn := hP.1.2.2.1
    have hge := sk_ge b n i
    have hle := sk_le (b := b) hP.2.1
    have hP1 := hP.mv hle
    have f1 : RCf M (hrm M (sk b n i)) := RNf.hr.cf
    have h15' : hrm M (sk b n i) 127 15 = nI 4 := by rw [hrm_s (by decide)]; exact h15
    unfold pOne
    cases c1 : wm b n (sk b n i) 11
    · cases c2 : isH b n (sk b n i) (nI 40)
      · have := part_c (d := d + 1) hS hF hP hC hl c1 c2
        simpa using this
      · simp only [Bool.or_true, if_true]
        refine ⟨fun st i' h => (by cases h), fun k p h => ?_⟩
        cases h
        obtain ⟨M1, g1, g2, g3⟩ := opens_f (d := d + 6) (w := 1) (by decide) hS hP1 h15'
        refine ⟨M1, ?_, g2, f1.trans g3⟩
        rw [part_b (d := d + 3) hS hF hP c1 c2]
        simp (disch := first | assumption | exact nar_b0 | exact nar_b1 | exact nar_b | exact Or.inl rfl | exact Or.inr rfl | exact zin_t (by omega) (by omega) | exact Nat.le_of_ble_eq_true rfl | (rw [nI_cl (by omega)]; assumption) | omega) only [↓reduceIte, reduceCtorEq, not_true_eq_false, not_false_eq_true, q129_0, q129_1, q129_4, q129_7, q129_8, q129_9, q129_11, q129_14, q129_17, q129_18, q129_19, q129_22, q129_25, q129_26, q129_27, q129_30, q129_31i, q129_31a, q129_32, q129_35, q129_36, q129_37, q129_40, q129_41, q129_44, q129_47, q129_48, q129_49, q129_52, q129_54, q129_57, q129_58, q129_61, q129_62, q129_65, q129_68, q129_69, q129_70, q129_73, q129_76, q129_77, q129_78, q129_81, q129_82, q129_84, q129_87, q129_88i, q129_88a, q129_89, q129_92, q129_93, q129_94, q129_97, q129_98, q129_99, q129_102, q129_103, q129_106, q129_109, q129_110, q129_113, q129_116, q129_117, q129_118, q129_119, q129_122, q129_125, q129_126, q129_129, q129_130, q129_133, q129_136, q129_137, q129_139, q129_142, q129_143, q129_145, q129_148, q129_149, q129_151, q129_154, q129_155, q129_156, q129_157, q129_160, q129_163, q129_164i, q129_164a, q129_165, q129_168, q129_169, q129_170, q129_173, q129_174, q129_177, q129_178, q129_181, q129_182, q129_183, q129_186, kl_int, kl_ref, kl_tok, cS_nil, cS_int, cS_ref, cS_long, tl_some, tl_none, List.cons_append, List.nil_append, nI_add, nI_ltb, nI_leb, nI_eqb, nI_cl, zin_nI, g1, zk0_inl]
    · simp only [Bool.true_or, if_true]
      refine ⟨fun st i' h => (by cases h), fun k p h => ?_⟩
      cases h
      obtain ⟨M1, g1, g2, g3⟩ := opens_f (d := d + 6) (w := 3) (by decide) hS hP1 h15'
      refine ⟨M1, ?_, g2, f1.trans g3⟩
      rw [part_n (d := d + 3) hS hF hP c1]
      simp (disch := first | assumption | exact nar_b0 | exact nar_b1 | exact nar_b | exact Or.inl rfl | exact Or.inr rfl | exact zin_t (by omega) (by omega) | exact Nat.le_of_ble_eq_true rfl | (rw [nI_cl (by omega)]; assumption) | omega) only [↓reduceIte, reduceCtorEq, not_true_eq_false, not_false_eq_true, q129_0, q129_1, q129_4, q129_7, q129_8, q129_9, q129_11, q129_14, q129_17, q129_18, q129_19, q129_22, q129_25, q129_26, q129_27, q129_30, q129_31i, q129_31a, q129_32, q129_35, q129_36, q129_37, q129_40, q129_41, q129_44, q129_47, q129_48, q129_49, q129_52, q129_54, q129_57, q129_58, q129_61, q129_62, q129_65, q129_68, q129_69, q129_70, q129_73, q129_76, q129_77, q129_78, q129_81, q129_82, q129_84, q129_87, q129_88i, q129_88a, q129_89, q129_92, q129_93, q129_94, q129_97, q129_98, q129_99, q129_102, q129_103, q129_106, q129_109, q129_110, q129_113, q129_116, q129_117, q129_118, q129_119, q129_122, q129_125, q129_126, q129_129, q129_130, q129_133, q129_136, q129_137, q129_139, q129_142, q129_143, q129_145, q129_148, q129_149, q129_151, q129_154, q129_155, q129_156, q129_157, q129_160, q129_163, q129_164i, q129_164a, q129_165, q129_168, q129_169, q129_170, q129_173, q129_174, q129_177, q129_178, q129_181, q129_182, q129_183, q129_186, kl_int, kl_ref, kl_tok, cS_nil, cS_int, cS_ref, cS_long, tl_some, tl_none, List.cons_append, List.nil_append, nI_add, nI_ltb, nI_leb, nI_eqb, nI_cl, zin_nI, g1, zk0_inl]
  | succ dd ih =>
    intro hdd e M i C he hF hP hC hl h15
    have ih := ih (by omega)
    obtain ⟨d, rfl⟩ : ∃ d, e = d + 11 := ⟨e - 11, by omega⟩
    have hn := hP.1.2.2.1
    have hge := sk_ge b n i
    have hle := sk_le (b := b) hP.2.1
    have hP1 := hP.mv hle
    have f1 : RCf M (hrm M (sk b n i)) := RNf.hr.cf
    have hC1 : CdM (hrm M (sk b n i)) C := hC.fr (hrm_s (by decide)) (hrm_c (by decide))
    have eo : 4 - (dd + 1) + 1 = 4 - dd := by omega
    have h15' : hrm M (sk b n i) 127 15 = nI (4 - (dd + 1)) := by rw [hrm_s (by decide)]; exact h15
    have eo2 : nI (4 - dd) - nI 1 = nI (4 - (dd + 1)) := by
      rcases (show dd = 0 ∨ dd = 1 ∨ dd = 2 ∨ dd = 3 by omega) with rfl | rfl | rfl | rfl <;> decide +kernel
    unfold pOne
    cases c1 : wm b n (sk b n i) 11
    · cases c2 : isH b n (sk b n i) (nI 40)
      · have := part_c (d := d + 4) hS hF hP hC hl c1 c2
        simpa using this
      · simp only [Bool.false_eq_true, if_false, if_true]
        have hlt := isH_lt c2
        have g1 := opens_t (d := d + 9) (o := 4 - (dd + 1)) (w := 1) (by omega) (by decide) hS hP1 h15'
        rw [eo] at g1
        have hP2 := opM_cx (o := 4 - dd) hP1 (h := sk b n i + 1) (by omega)
        have hC2 := opM_cd (o := 4 - dd) (h := sk b n i + 1) hC1
        have f2 : RCf M (opM (hrm M (sk b n i)) (4 - dd) (sk b n i + 1)) := f1.trans opM_f
        have h152 : opM (hrm M (sk b n i)) (4 - dd) (sk b n i + 1) 127 15 = nI (4 - dd) := by unfold opM; rw [up2_s (by decide)]; exact up2_at
        generalize opM (hrm M (sk b n i)) (4 - dd) (sk b n i + 1) = M2 at g1 hP2 hC2 f2 h152
        have hA := rdC_126 hS (rdC_127 hS ih (by omega)) (by omega)
        obtain ⟨r1, r2⟩ := hA (d + 10) M2 (sk b n i + 1) C (by omega) (hF.rf f2) hP2 hC2 (by omega) h152
        rw [part_b (d := d + 6) hS hF hP c1 c2]
        show RdO _ _ _ _ _ _ _ (match pLoop (pLoop (pOne b n dd) b n 10 4) b n 9 5 (sk b n i + 1) with
          | .inl f => .inl f
          | .inr (st, i') => if isH b n (sk b n i') (nI 41) then .inr (st, sk b n i' + 1) else .inl (1, sk b n i'))
        cases hp : pLoop (pLoop (pOne b n dd) b n 10 4) b n 9 5 (sk b n i + 1) with
        | inl f =>
          obtain ⟨k, p⟩ := f
          obtain ⟨M3, a1, a2, a3⟩ := r2 k p hp
          refine ⟨fun st i' h => (by cases h), fun k' p' h => ?_⟩
          cases h
          have a4 := needs_no (d := d + 10) (c := nI 41) hS a2.1
          refine ⟨up2 M3 127 15 (M3 127 15 - nI 1), ?_, a2.u15, (f2.trans a3).trans RCf.u15⟩
          simp (disch := first | assumption | exact nar_b0 | exact nar_b1 | exact nar_b | exact Or.inl rfl | exact Or.inr rfl | exact zin_t (by omega) (by omega) | exact Nat.le_of_ble_eq_true rfl | (rw [nI_cl (by omega)]; assumption) | omega) only [↓reduceIte, reduceCtorEq, not_true_eq_false, not_false_eq_true, q129_0, q129_1, q129_4, q129_7, q129_8, q129_9, q129_11, q129_14, q129_17, q129_18, q129_19, q129_22, q129_25, q129_26, q129_27, q129_30, q129_31i, q129_31a, q129_32, q129_35, q129_36, q129_37, q129_40, q129_41, q129_44, q129_47, q129_48, q129_49, q129_52, q129_54, q129_57, q129_58, q129_61, q129_62, q129_65, q129_68, q129_69, q129_70, q129_73, q129_76, q129_77, q129_78, q129_81, q129_82, q129_84, q129_87, q129_88i, q129_88a, q129_89, q129_92, q129_93, q129_94, q129_97, q129_98, q129_99, q129_102, q129_103, q129_106, q129_109, q129_110, q129_113, q129_116, q129_117, q129_118, q129_119, q129_122, q129_125, q129_126, q129_129, q129_130, q129_133, q129_136, q129_137, q129_139, q129_142, q129_143, q129_145, q129_148, q129_149, q129_151, q129_154, q129_155, q129_156, q129_157, q129_160, q129_163, q129_164i, q129_164a, q129_165, q129_168, q129_169, q129_170, q129_173, q129_174, q129_177, q129_178, q129_181, q129_182, q129_183, q129_186, kl_int, kl_ref, kl_tok, cS_nil, cS_int, cS_ref, cS_long, tl_some, tl_none, List.cons_append, List.nil_append, nI_add, nI_ltb, nI_leb, nI_eqb, nI_cl, zin_nI, g1, zk0_inl, b2i_ne1, a1, a4]
        | inr w =>
          obtain ⟨st, i1⟩ := w
          obtain ⟨⟨p1, p2, p3⟩, M3, a1, a2, a3, a4, a5⟩ := r1 st i1 hp
          have hge1 := sk_ge b n i1
          have hle1 := sk_le (b := b) p2
          cases c3 : isH b n (sk b n i1) (nI 41)
          · simp only [c3, Bool.false_eq_true, if_false]
            have a6 := needs_f (d := d + 8) hS a2 c3
            have hX := RFx.wr (k := 1) (p := sk b n i1) (u := 510) (a2.mv hle1).1 (by omega) (by decide)
            have fW : RCf (hrm M3 (sk b n i1)) (up2 (up2 (hrm M3 (sk b n i1)) 127 12 (nI 1)) 127 13 (nI (sk b n i1))) := RNf.wr.cf
            generalize up2 (up2 (hrm M3 (sk b n i1)) 127 12 (nI 1)) 127 13 (nI (sk b n i1)) = W at a6 hX fW
            refine ⟨fun st i' h => (by cases h), fun k' p' h => ?_⟩
            cases h
            refine ⟨up2 W 127 15 (W 127 15 - nI 1), ?_, hX.u15, (((f2.trans a5).trans RNf.hr.cf).trans fW).trans RCf.u15⟩
            simp (disch := first | assumption | exact nar_b0 | exact nar_b1 | exact nar_b | exact Or.inl rfl | exact Or.inr rfl | exact zin_t (by omega) (by omega) | exact Nat.le_of_ble_eq_true rfl | (rw [nI_cl (by omega)]; assumption) | omega) only [↓reduceIte, reduceCtorEq, not_true_eq_false, not_false_eq_true, q129_0, q129_1, q129_4, q129_7, q129_8, q129_9, q129_11, q129_14, q129_17, q129_18, q129_19, q129_22, q129_25, q129_26, q129_27, q129_30, q129_31i, q129_31a, q129_32, q129_35, q129_36, q129_37, q129_40, q129_41, q129_44, q129_47, q129_48, q129_49, q129_52, q129_54, q129_57, q129_58, q129_61, q129_62, q129_65, q129_68, q129_69, q129_70, q129_73, q129_76, q129_77, q129_78, q129_81, q129_82, q129_84, q129_87, q129_88i, q129_88a, q129_89, q129_92, q129_93, q129_94, q129_97, q129_98, q129_99, q129_102, q129_103, q129_106, q129_109, q129_110, q129_113, q129_116, q129_117, q129_118, q129_119, q129_122, q129_125, q129_126, q129_129, q129_130, q129_133, q129_136, q129_137, q129_139, q129_142, q129_143, q129_145, q129_148, q129_149, q129_151, q129_154, q129_155, q129_156, q129_157, q129_160, q129_163, q129_164i, q129_164a, q129_165, q129_168, q129_169, q129_170, q129_173, q129_174, q129_177, q129_178, q129_181, q129_182, q129_183, q129_186, kl_int, kl_ref, kl_tok, cS_nil, cS_int, cS_ref, cS_long, tl_some, tl_none, List.cons_append, List.nil_append, nI_add, nI_ltb, nI_leb, nI_eqb, nI_cl, zin_nI, g1, zk0_inl, b2i_ne1, a1, a6]
          · simp only [c3, if_true]
            have a6 := needs_t (d := d + 8) hS a2 c3
            have hlt3 := isH_lt c3
            have a7 := a2.mv (j := sk b n i1 + 1) (by omega)
            have a8 : hrm M3 (sk b n i1 + 1) 127 15 = nI (4 - dd) := by rw [hrm_s (by decide), a4]; exact h152
            have a9 : CdM (hrm M3 (sk b n i1 + 1)) (C ++ flat st) := a3.fr (hrm_s (by decide)) (hrm_c (by decide))
            refine ⟨fun st' i' h => ?_, fun k p h => (by cases h)⟩
            cases h
            refine ⟨⟨by omega, by omega, by omega⟩, up2 (hrm M3 (sk b n i1 + 1)) 127 15 (nI (4 - (dd + 1))), ?_, a7.u15, a9.fr (up2_s (by decide)) (up2_ne (by decide)), by rw [h15]; exact up2_at, ((f2.trans a5).trans RNf.hr.cf).trans RCf.u15⟩
            rw [← eo2]
            simp (disch := first | assumption | exact nar_b0 | exact nar_b1 | exact nar_b | exact Or.inl rfl | exact Or.inr rfl | exact zin_t (by omega) (by omega) | exact Nat.le_of_ble_eq_true rfl | (rw [nI_cl (by omega)]; assumption) | omega) only [↓reduceIte, reduceCtorEq, not_true_eq_false, not_false_eq_true, q129_0, q129_1, q129_4, q129_7, q129_8, q129_9, q129_11, q129_14, q129_17, q129_18, q129_19, q129_22, q129_25, q129_26, q129_27, q129_30, q129_31i, q129_31a, q129_32, q129_35, q129_36, q129_37, q129_40, q129_41, q129_44, q129_47, q129_48, q129_49, q129_52, q129_54, q129_57, q129_58, q129_61, q129_62, q129_65, q129_68, q129_69, q129_70, q129_73, q129_76, q129_77, q129_78, q129_81, q129_82, q129_84, q129_87, q129_88i, q129_88a, q129_89, q129_92, q129_93, q129_94, q129_97, q129_98, q129_99, q129_102, q129_103, q129_106, q129_109, q129_110, q129_113, q129_116, q129_117, q129_118, q129_119, q129_122, q129_125, q129_126, q129_129, q129_130, q129_133, q129_136, q129_137, q129_139, q129_142, q129_143, q129_145, q129_148, q129_149, q129_151, q129_154, q129_155, q129_156, q129_157, q129_160, q129_163, q129_164i, q129_164a, q129_165, q129_168, q129_169, q129_170, q129_173, q129_174, q129_177, q129_178, q129_181, q129_182, q129_183, q129_186, kl_int, kl_ref, kl_tok, cS_nil, cS_int, cS_ref, cS_long, tl_some, tl_none, List.cons_append, List.nil_append, nI_add, nI_ltb, nI_leb, nI_eqb, nI_cl, zin_nI, g1, zk0_inl, b2i_ne1, a1, a6, a8]
    · have hwl := wm_le c1
      have l : wln 11 = 3 := rfl
      simp only [if_true]
      have g1 := opens_t (d := d + 9) (o := 4 - (dd + 1)) (w := 3) (by omega) (by decide) hS hP1 h15'
      rw [eo] at g1
      have hP2 := opM_cx (o := 4 - dd) hP1 (h := sk b n i + 3) (by omega)
      have hC2 := opM_cd (o := 4 - dd) (h := sk b n i + 3) hC1
      have f2 : RCf M (opM (hrm M (sk b n i)) (4 - dd) (sk b n i + 3)) := f1.trans opM_f
      have h152 : opM (hrm M (sk b n i)) (4 - dd) (sk b n i + 3) 127 15 = nI (4 - dd) := by unfold opM; rw [up2_s (by decide)]; exact up2_at
      generalize opM (hrm M (sk b n i)) (4 - dd) (sk b n i + 3) = M2 at g1 hP2 hC2 f2 h152
      obtain ⟨r1, r2⟩ := ih (d + 10) M2 (sk b n i + 3) C (by omega) (hF.rf f2) hP2 hC2 (by omega) h152
      rw [part_n (d := d + 6) hS hF hP c1]
      cases hp : pOne b n dd (sk b n i + 3) with
      | inl f =>
        obtain ⟨k, p⟩ := f
        obtain ⟨M3, a1, a2, a3⟩ := r2 k p hp
        refine ⟨fun st i' h => (by cases h), fun k' p' h => ?_⟩
        cases h
        have a5 : RFx 510 (up2 M3 127 15 (M3 127 15 - nI 1)) b n k p := a2.u15
        have a4 := adds_no (d := d + 10) (x := nI 2003) hS a5.1
        refine ⟨up2 M3 127 15 (M3 127 15 - nI 1), ?_, a5, (f2.trans a3).trans RCf.u15⟩
        simp (disch := first | assumption | exact nar_b0 | exact nar_b1 | exact nar_b | exact Or.inl rfl | exact Or.inr rfl | exact zin_t (by omega) (by omega) | exact Nat.le_of_ble_eq_true rfl | (rw [nI_cl (by omega)]; assumption) | omega) only [↓reduceIte, reduceCtorEq, not_true_eq_false, not_false_eq_true, q129_0, q129_1, q129_4, q129_7, q129_8, q129_9, q129_11, q129_14, q129_17, q129_18, q129_19, q129_22, q129_25, q129_26, q129_27, q129_30, q129_31i, q129_31a, q129_32, q129_35, q129_36, q129_37, q129_40, q129_41, q129_44, q129_47, q129_48, q129_49, q129_52, q129_54, q129_57, q129_58, q129_61, q129_62, q129_65, q129_68, q129_69, q129_70, q129_73, q129_76, q129_77, q129_78, q129_81, q129_82, q129_84, q129_87, q129_88i, q129_88a, q129_89, q129_92, q129_93, q129_94, q129_97, q129_98, q129_99, q129_102, q129_103, q129_106, q129_109, q129_110, q129_113, q129_116, q129_117, q129_118, q129_119, q129_122, q129_125, q129_126, q129_129, q129_130, q129_133, q129_136, q129_137, q129_139, q129_142, q129_143, q129_145, q129_148, q129_149, q129_151, q129_154, q129_155, q129_156, q129_157, q129_160, q129_163, q129_164i, q129_164a, q129_165, q129_168, q129_169, q129_170, q129_173, q129_174, q129_177, q129_178, q129_181, q129_182, q129_183, q129_186, kl_int, kl_ref, kl_tok, cS_nil, cS_int, cS_ref, cS_long, tl_some, tl_none, List.cons_append, List.nil_append, nI_add, nI_ltb, nI_leb, nI_eqb, nI_cl, zin_nI, g1, zk0_inl, b2i_ne1, a1, a4]
      | inr w =>
        obtain ⟨st, i1⟩ := w
        obtain ⟨⟨p1, p2, p3⟩, M3, a1, a2, a3, a4, a5⟩ := r1 st i1 hp
        have a8 : M3 127 15 = nI (4 - dd) := by rw [a4]; exact h152
        have b1 : RCx (up2 M3 127 15 (nI (4 - (dd + 1)))) b n i1 := a2.u15
        have b2 : CdM (up2 M3 127 15 (nI (4 - (dd + 1)))) (C ++ flat st) := a3.fr (up2_s (by decide)) (up2_ne (by decide))
        have b3 : up2 M3 127 15 (nI (4 - (dd + 1))) 127 15 = M 127 15 := by rw [h15]; exact up2_at
        have b4 : RCf M (up2 M3 127 15 (nI (4 - (dd + 1)))) := (f2.trans a5).trans RCf.u15
        have hl2 : (C ++ flat st).length = C.length + (flat st).length := List.length_append
        have ga := adds_ (d := d + 10) (x := 2003) hS b1.2.2 b2 (by omega)
        have ga' : cal (d + 10) 124 [.ref 127, .int (nI 2003)] (up2 M3 127 15 (nI (4 - (dd + 1)))) R = some (.inl none, adR (up2 M3 127 15 (nI (4 - (dd + 1)))) (C ++ flat st).length 2003, R) := ga
        have hC3 := b2.ad (x := 2003)
        have ef : flat (st ++ [((3, 0, 0) : CdS)]) = flat st ++ [2003] := by rw [flat_app, flat_op (by decide)]; rfl
        refine ⟨fun st' i' h => ?_, fun k p h => (by cases h)⟩
        cases h
        rw [ef, ← List.append_assoc]
        refine ⟨⟨by omega, p2, by rw [List.length_append]; show _ + 1 ≤ _; omega⟩, adR (up2 M3 127 15 (nI (4 - (dd + 1)))) (C ++ flat st).length 2003, ?_, adR_cx b1, hC3, by unfold adR; rw [up2_s (by decide), up2_ne (by decide)]; exact b3, b4.trans adR_f⟩
        rw [← eo2] at ga' ⊢
        simp (disch := first | assumption | exact nar_b0 | exact nar_b1 | exact nar_b | exact Or.inl rfl | exact Or.inr rfl | exact zin_t (by omega) (by omega) | exact Nat.le_of_ble_eq_true rfl | (rw [nI_cl (by omega)]; assumption) | omega) only [↓reduceIte, reduceCtorEq, not_true_eq_false, not_false_eq_true, q129_0, q129_1, q129_4, q129_7, q129_8, q129_9, q129_11, q129_14, q129_17, q129_18, q129_19, q129_22, q129_25, q129_26, q129_27, q129_30, q129_31i, q129_31a, q129_32, q129_35, q129_36, q129_37, q129_40, q129_41, q129_44, q129_47, q129_48, q129_49, q129_52, q129_54, q129_57, q129_58, q129_61, q129_62, q129_65, q129_68, q129_69, q129_70, q129_73, q129_76, q129_77, q129_78, q129_81, q129_82, q129_84, q129_87, q129_88i, q129_88a, q129_89, q129_92, q129_93, q129_94, q129_97, q129_98, q129_99, q129_102, q129_103, q129_106, q129_109, q129_110, q129_113, q129_116, q129_117, q129_118, q129_119, q129_122, q129_125, q129_126, q129_129, q129_130, q129_133, q129_136, q129_137, q129_139, q129_142, q129_143, q129_145, q129_148, q129_149, q129_151, q129_154, q129_155, q129_156, q129_157, q129_160, q129_163, q129_164i, q129_164a, q129_165, q129_168, q129_169, q129_170, q129_173, q129_174, q129_177, q129_178, q129_181, q129_182, q129_183, q129_186, kl_int, kl_ref, kl_tok, cS_nil, cS_int, cS_ref, cS_long, tl_some, tl_none, List.cons_append, List.nil_append, nI_add, nI_ltb, nI_leb, nI_eqb, nI_cl, zin_nI, g1, zk0_inl, b2i_ne1, a1, a8, ga']
end Rl
