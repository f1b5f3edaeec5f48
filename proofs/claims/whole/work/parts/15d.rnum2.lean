-- the reference reads a number
theorem sgn_i {mi : Bool} {v : Nat} : (if mi then - nI v else nI v) = iI (sgn mi v) := by
  cases mi
  · rfl
  · show - nI v = iI (-(v : Int))
    rw [nI_iI, iI_neg]
theorem b2i_ne1 : (nI 1 = nI 0) = False := by decide +kernel
section Rd
variable {d n i : Nat} {M : ZM} {R : ZH} {b : Nat → Int32}
theorem num_lie {lo hi u : Int} (h1 : -1000 ≤ lo ∧ lo ≤ 1000) (h2 : -1000 ≤ hi ∧ hi ≤ 1000) (h3 : -1000000 ≤ u ∧ u ≤ 1000000) : cal d 107 [.long (iI u).toInt64, .long (iI lo).toInt64, .long (iI hi).toInt64] M R = some (.inl (some (.int (b2i (decide (lo ≤ u ∧ u ≤ hi))))), M, R) := by
  rw [lies_, Int32.toInt_toInt64, Int32.toInt_toInt64, Int32.toInt_toInt64, iI_toInt (by omega) (by omega), iI_toInt (by omega) (by omega), iI_toInt (by omega) (by omega)]
theorem num_end {sv : Value} {lo hi : Int} {mi : Bool} {v : Nat} (hS : Sh R) (h1 : -1000 ≤ lo ∧ lo ≤ 1000) (h2 : -1000 ≤ hi ∧ hi ≤ 1000) (hv : v ≤ 100000) : ((lo ≤ sgn mi v ∧ sgn mi v ≤ hi) → exe (d + 2) 123 126 [.ref 127, sv, .int (iI lo), .int (iI hi), .int (b2i mi), .int (nI v)] [] M R = some (.inl (some (.int (iI (sgn mi v)))), M, R)) ∧ (¬ (lo ≤ sgn mi v ∧ sgn mi v ≤ hi) → ∀ M', cal (d + 1) 115 [.ref 127, .int (nI 2), .int (M 127 11)] M R = some (.inl none, M', R) → exe (d + 2) 123 126 [.ref 127, sv, .int (iI lo), .int (iI hi), .int (b2i mi), .int (nI v)] [] M R = some (.inl (some (.int (iI (sgn mi v)))), M', R)) := by
  obtain ⟨nN, k127, k128, l128, k129, l129, k130, l130, k131, l131, k132, l132, k133, l133, k134, l134, k135, l135, k136, l136, k137, l137, k138, l138, k139, l139, k140, l140, k141, l141, k142, l142, k143, l143, k144, l144, k145, l145, k146, l146, f127_1, f127_2, f127_3, f127_4, f127_6, f127_7, f127_17, f127_18, f127_19, f127_22, f127_24, f127_25, f127_26, f127_29, f127_30, f127_31, f127_32, f127_33⟩ := modF hS
  have hs : -1000000 ≤ sgn mi v ∧ sgn mi v ≤ 1000000 := by unfold sgn; split <;> omega
  have hl := num_lie (d := d + 1) (M := M) (R := R) h1 h2 hs
  have e := sgn_i (mi := mi) (v := v)
  refine ⟨fun c => ?_, fun c M' hw => ?_⟩
  · rw [decide_eq_true c] at hl
    have hl' : cal (d + 1) 107 [.long (iI (sgn mi v)).toInt64, .long (iI lo).toInt64, .long (iI hi).toInt64] M R = some (.inl (some (.int (nI 1))), M, R) := hl
    generalize iI (sgn mi v) = u at *
    cases mi
    · have e' : nI v = u := e
      simp (disch := first | assumption | exact nar_b0 | exact nar_b1 | exact nar_b | exact Or.inl rfl | exact Or.inr rfl | exact zin_t (by omega) (by omega) | exact Nat.le_of_ble_eq_true rfl | (rw [nI_cl (by omega)]; assumption) | omega) only [↓reduceIte, reduceCtorEq, not_true_eq_false, not_false_eq_true, q123_0, q123_1, q123_4i, q123_4a, q123_5, q123_6, q123_9, q123_12, q123_13, q123_14, q123_15, q123_16, q123_19, q123_22, q123_23, q123_26, q123_27, q123_29, q123_32, q123_35, q123_36, q123_39, q123_40, q123_42, q123_43, q123_46i, q123_46a, q123_47, q123_48, q123_49, q123_52, q123_55, q123_58, q123_59, q123_60, q123_61, q123_64, q123_67, q123_68, q123_71, q123_74, q123_77, q123_78, q123_79, q123_82, q123_85, q123_88, q123_90, q123_92, q123_93, q123_94, q123_97, q123_98, q123_101, q123_102, q123_103, q123_105, q123_106, q123_108, q123_111, q123_113, q123_114i, q123_114a, q123_115, q123_118, q123_119, q123_120, q123_123, q123_126, q123_128, q123_131, q123_133, q123_134, q123_137, q123_139, q123_141, q123_143, q123_144, q123_145, q123_146, q123_147, q123_148, q123_151, q123_154, q123_155, q123_156, q123_157, q123_160, q123_163, q123_165, kl_int, kl_ref, kl_tok, cS_nil, cS_int, cS_ref, cS_long, tl_some, tl_none, List.cons_append, List.nil_append, nI_add, nI_ltb, nI_leb, nI_eqb, nI_cl, zin_nI, b2i_f, e', hl', zk0_inl, b2i_ne1]
    · have e' : - nI v = u := e
      simp (disch := first | assumption | exact nar_b0 | exact nar_b1 | exact nar_b | exact Or.inl rfl | exact Or.inr rfl | exact zin_t (by omega) (by omega) | exact Nat.le_of_ble_eq_true rfl | (rw [nI_cl (by omega)]; assumption) | omega) only [↓reduceIte, reduceCtorEq, not_true_eq_false, not_false_eq_true, q123_0, q123_1, q123_4i, q123_4a, q123_5, q123_6, q123_9, q123_12, q123_13, q123_14, q123_15, q123_16, q123_19, q123_22, q123_23, q123_26, q123_27, q123_29, q123_32, q123_35, q123_36, q123_39, q123_40, q123_42, q123_43, q123_46i, q123_46a, q123_47, q123_48, q123_49, q123_52, q123_55, q123_58, q123_59, q123_60, q123_61, q123_64, q123_67, q123_68, q123_71, q123_74, q123_77, q123_78, q123_79, q123_82, q123_85, q123_88, q123_90, q123_92, q123_93, q123_94, q123_97, q123_98, q123_101, q123_102, q123_103, q123_105, q123_106, q123_108, q123_111, q123_113, q123_114i, q123_114a, q123_115, q123_118, q123_119, q123_120, q123_123, q123_126, q123_128, q123_131, q123_133, q123_134, q123_137, q123_139, q123_141, q123_143, q123_144, q123_145, q123_146, q123_147, q123_148, q123_151, q123_154, q123_155, q123_156, q123_157, q123_160, q123_163, q123_165, kl_int, kl_ref, kl_tok, cS_nil, cS_int, cS_ref, cS_long, tl_some, tl_none, List.cons_append, List.nil_append, nI_add, nI_ltb, nI_leb, nI_eqb, nI_cl, zin_nI, b2i_t, e', hl', zk0_inl, b2i_ne1]
  · rw [decide_eq_false c] at hl
    have hl' : cal (d + 1) 107 [.long (iI (sgn mi v)).toInt64, .long (iI lo).toInt64, .long (iI hi).toInt64] M R = some (.inl (some (.int (nI 0))), M, R) := hl
    generalize iI (sgn mi v) = u at *
    cases mi
    · have e' : nI v = u := e
      simp (disch := first | assumption | exact nar_b0 | exact nar_b1 | exact nar_b | exact Or.inl rfl | exact Or.inr rfl | exact zin_t (by omega) (by omega) | exact Nat.le_of_ble_eq_true rfl | (rw [nI_cl (by omega)]; assumption) | omega) only [↓reduceIte, reduceCtorEq, not_true_eq_false, not_false_eq_true, q123_0, q123_1, q123_4i, q123_4a, q123_5, q123_6, q123_9, q123_12, q123_13, q123_14, q123_15, q123_16, q123_19, q123_22, q123_23, q123_26, q123_27, q123_29, q123_32, q123_35, q123_36, q123_39, q123_40, q123_42, q123_43, q123_46i, q123_46a, q123_47, q123_48, q123_49, q123_52, q123_55, q123_58, q123_59, q123_60, q123_61, q123_64, q123_67, q123_68, q123_71, q123_74, q123_77, q123_78, q123_79, q123_82, q123_85, q123_88, q123_90, q123_92, q123_93, q123_94, q123_97, q123_98, q123_101, q123_102, q123_103, q123_105, q123_106, q123_108, q123_111, q123_113, q123_114i, q123_114a, q123_115, q123_118, q123_119, q123_120, q123_123, q123_126, q123_128, q123_131, q123_133, q123_134, q123_137, q123_139, q123_141, q123_143, q123_144, q123_145, q123_146, q123_147, q123_148, q123_151, q123_154, q123_155, q123_156, q123_157, q123_160, q123_163, q123_165, kl_int, kl_ref, kl_tok, cS_nil, cS_int, cS_ref, cS_long, tl_some, tl_none, List.cons_append, List.nil_append, nI_add, nI_ltb, nI_leb, nI_eqb, nI_cl, zin_nI, b2i_f, e', hl', zk0_inl, hw]
    · have e' : - nI v = u := e
      simp (disch := first | assumption | exact nar_b0 | exact nar_b1 | exact nar_b | exact Or.inl rfl | exact Or.inr rfl | exact zin_t (by omega) (by omega) | exact Nat.le_of_ble_eq_true rfl | (rw [nI_cl (by omega)]; assumption) | omega) only [↓reduceIte, reduceCtorEq, not_true_eq_false, not_false_eq_true, q123_0, q123_1, q123_4i, q123_4a, q123_5, q123_6, q123_9, q123_12, q123_13, q123_14, q123_15, q123_16, q123_19, q123_22, q123_23, q123_26, q123_27, q123_29, q123_32, q123_35, q123_36, q123_39, q123_40, q123_42, q123_43, q123_46i, q123_46a, q123_47, q123_48, q123_49, q123_52, q123_55, q123_58, q123_59, q123_60, q123_61, q123_64, q123_67, q123_68, q123_71, q123_74, q123_77, q123_78, q123_79, q123_82, q123_85, q123_88, q123_90, q123_92, q123_93, q123_94, q123_97, q123_98, q123_101, q123_102, q123_103, q123_105, q123_106, q123_108, q123_111, q123_113, q123_114i, q123_114a, q123_115, q123_118, q123_119, q123_120, q123_123, q123_126, q123_128, q123_131, q123_133, q123_134, q123_137, q123_139, q123_141, q123_143, q123_144, q123_145, q123_146, q123_147, q123_148, q123_151, q123_154, q123_155, q123_156, q123_157, q123_160, q123_163, q123_165, kl_int, kl_ref, kl_tok, cS_nil, cS_int, cS_ref, cS_long, tl_some, tl_none, List.cons_append, List.nil_append, nI_add, nI_ltb, nI_leb, nI_eqb, nI_cl, zin_nI, b2i_t, e', hl', zk0_inl, b2i_ne1, hw]
theorem number_ {sg : Bool} {lo hi : Int} (hS : Sh R) (hP : RCx M b n i) (h1 : -1000 ≤ lo ∧ lo ≤ 1000) (h2 : -1000 ≤ hi ∧ hi ≤ 1000) : (∀ v i', pNum b n i sg lo hi = .inr (v, i') → cal (d + 2) 123 [.ref 127, .int (b2i sg), .int (iI lo), .int (iI hi)] M R = some (.inl (some (.int (iI v))), hrm (bgM M (sk b n i)) i', R)) ∧ (∀ k p, pNum b n i sg lo hi = .inl (k, p) → ∃ x M', cal (d + 2) 123 [.ref 127, .int (b2i sg), .int (iI lo), .int (iI hi)] M R = some (.inl (some (.int x)), M', R) ∧ RFx 500 M' b n k p ∧ RNf M M') := by
  obtain ⟨nN, k127, k128, l128, k129, l129, k130, l130, k131, l131, k132, l132, k133, l133, k134, l134, k135, l135, k136, l136, k137, l137, k138, l138, k139, l139, k140, l140, k141, l141, k142, l142, k143, l143, k144, l144, k145, l145, k146, l146, f127_1, f127_2, f127_3, f127_4, f127_6, f127_7, f127_17, f127_18, f127_19, f127_22, f127_24, f127_25, f127_26, f127_29, f127_30, f127_31, f127_32, f127_33⟩ := modF hS
  have hle := sk_le (b := b) hP.2.1
  have hn := hP.1.2.2.1
  have hB := bgM_cx hP hle
  have hg := (nG_le (b := b) (sg := sg) hP.2.1).2
  rw [num_start hS hP]
  have hN := hB.mv hg
  have f0 : RNf M (hrm (bgM M (sk b n i)) (nG b n i sg)) := RNf.trans RNf.bg RNf.hr
  have b11 : ∀ j, hrm (bgM M (sk b n i)) j 127 11 = nI (sk b n i) := fun j => by rw [hrm_s (by decide)]; exact up2_at
  unfold pNum dgs
  generalize nMi b n i sg = mi at *
  generalize nG b n i sg = g at *
  have h10 := hN.1.2.1
  have h12 := hN.2.2
  have hf := isFigure_ (d := d + 1) (k := g) hS hN.1 (by omega)
  by_cases c : g < n ∧ nI 48 ≤ b g ∧ b g ≤ nI 57
  · rw [decide_eq_true c] at hf
    have hgt : g < (dgF b (n - g) g 0).1 := by
      rw [show n - g = (n - g - 1) + 1 by omega, dgF, if_pos c.2]
      have := (dgF_ge b (n - g - 1) (g + 1) (10 * 0 + ((b g).toNatClampNeg - 48))).1
      omega
    have hle2 := (dgF_ge b (n - g) g 0).2
    have hL := rdg_L (d := d + 1) (sv := .int (b2i sg)) (lv := .int (iI lo)) (hv := .int (iI hi)) (mi := b2i mi) hS (n - g) g 0 (hrm (bgM M (sk b n i)) g) rfl hN
    rw [hrm_at] at hL
    rw [if_neg (by omega)]
    generalize dgF b (n - g) g 0 = D at hgt hle2 hL ⊢
    obtain ⟨i', v⟩ := D
    simp only [] at hgt hle2 hL ⊢
    obtain ⟨q1, q2⟩ := num_end (d := d) (M := hrm (bgM M (sk b n i)) i') (sv := .int (b2i sg)) (mi := mi) (v := min v 100000) hS h1 h2 (by omega)
    have hx : exe (d + 2) 123 47 [.ref 127, .int (b2i sg), .int (iI lo), .int (iI hi), .int (b2i mi), tok] [] (hrm (bgM M (sk b n i)) g) R = exe (d + 2) 123 126 [.ref 127, .int (b2i sg), .int (iI lo), .int (iI hi), .int (b2i mi), .int (nI (min v 100000))] [] (hrm (bgM M (sk b n i)) i') R := by
      rw [← hL, show min 0 100000 = 0 by decide]
      simp (disch := first | assumption | exact nar_b0 | exact nar_b1 | exact nar_b | exact Or.inl rfl | exact Or.inr rfl | exact zin_t (by omega) (by omega) | exact Nat.le_of_ble_eq_true rfl | (rw [nI_cl (by omega)]; assumption) | omega) only [↓reduceIte, reduceCtorEq, not_true_eq_false, not_false_eq_true, q123_0, q123_1, q123_4i, q123_4a, q123_5, q123_6, q123_9, q123_12, q123_13, q123_14, q123_15, q123_16, q123_19, q123_22, q123_23, q123_26, q123_27, q123_29, q123_32, q123_35, q123_36, q123_39, q123_40, q123_42, q123_43, q123_46i, q123_46a, q123_47, q123_48, q123_49, q123_52, q123_55, q123_58, q123_59, q123_60, q123_61, q123_64, q123_67, q123_68, q123_71, q123_74, q123_77, q123_78, q123_79, q123_82, q123_85, q123_88, q123_90, q123_92, q123_93, q123_94, q123_97, q123_98, q123_101, q123_102, q123_103, q123_105, q123_106, q123_108, q123_111, q123_113, q123_114i, q123_114a, q123_115, q123_118, q123_119, q123_120, q123_123, q123_126, q123_128, q123_131, q123_133, q123_134, q123_137, q123_139, q123_141, q123_143, q123_144, q123_145, q123_146, q123_147, q123_148, q123_151, q123_154, q123_155, q123_156, q123_157, q123_160, q123_163, q123_165, kl_int, kl_ref, kl_tok, cS_nil, cS_int, cS_ref, cS_long, tl_some, tl_none, List.cons_append, List.nil_append, nI_add, nI_ltb, nI_leb, nI_eqb, nI_cl, zin_nI, h10, hf, zk0_inl, b2i_t, b2i_ne1]
    rw [hx]
    by_cases c2 : lo ≤ sgn mi v ∧ sgn mi v ≤ hi
    · have ev : min v 100000 = v := by
        unfold sgn at c2
        split at c2 <;> omega
      rw [ev] at q1
      rw [if_pos c2]
      refine ⟨fun w i2 h => ?_, fun k p h => (by cases h)⟩
      cases h
      rw [ev]
      exact q1 c2
    · have c3 : ¬ (lo ≤ sgn mi (min v 100000) ∧ sgn mi (min v 100000) ≤ hi) := by
        unfold sgn at c2 ⊢
        split at c2 <;> rename_i hm <;> simp only [hm] <;> (try simp only [if_true, Bool.false_eq_true, if_false]) <;> omega
      rw [if_neg c2]
      refine ⟨fun w i2 h => (by cases h), fun k p h => ?_⟩
      cases h
      have hN2 := hB.mv (j := i') (by omega)
      have hw := wrong_ (d := d + 1) (R := R) (k := nI 2) (p := hrm (bgM M (sk b n i)) i' 127 11) hS hN2.2.2
      refine ⟨_, _, q2 c3 _ hw, ?_, RNf.trans (RNf.trans RNf.bg RNf.hr) RNf.wr⟩
      rw [b11]
      exact RFx.wr hN2.1 (by omega) (by decide)
  · rw [decide_eq_false c] at hf
    have he : dgF b (n - g) g 0 = (g, 0) := by
      by_cases c2 : g < n
      · rw [show n - g = (n - g - 1) + 1 by omega, dgF, if_neg (fun e => c ⟨c2, e⟩)]
      · rw [show n - g = 0 by omega]; rfl
    rw [he, if_pos rfl]
    refine ⟨fun w i2 h => (by cases h), fun k p h => ?_⟩
    cases h
    have hw := wrong_ (d := d + 1) (R := R) (k := nI 1) (p := nI g) hS h12
    have hW := RFx.wr (k := 1) (p := g) (u := 500) hN.1 (by omega) (by decide)
    generalize hW2 : up2 (up2 (hrm (bgM M (sk b n i)) g) 127 12 (nI 1)) 127 13 (nI g) = W at hw hW
    have hRW : RNf M W := by rw [← hW2]; exact f0.trans RNf.wr
    have w12 := hW.1.2.1
    have hno := wrong_no (d := d + 1) (x := nI 2) (y := W 127 11) hS hW.1
    obtain ⟨q1, q2⟩ := num_end (d := d) (M := W) (sv := .int (b2i sg)) (mi := mi) (v := 0) hS h1 h2 (by decide)
    have hx : exe (d + 2) 123 47 [.ref 127, .int (b2i sg), .int (iI lo), .int (iI hi), .int (b2i mi), tok] [] (hrm (bgM M (sk b n i)) g) R = exe (d + 2) 123 126 [.ref 127, .int (b2i sg), .int (iI lo), .int (iI hi), .int (b2i mi), .int (nI 0)] [] W R := by
      have h70 : exe (d + 2) 123 70 [.ref 127, .int (b2i sg), .int (iI lo), .int (iI hi), .int (b2i mi), .int (nI 0)] [] W R = exe (d + 2) 123 126 [.ref 127, .int (b2i sg), .int (iI lo), .int (iI hi), .int (b2i mi), .int (nI 0)] [] W R := by
        rw [q123_70]
        simp (disch := first | assumption | exact nar_b0 | exact nar_b1 | exact nar_b | exact Or.inl rfl | exact Or.inr rfl | exact zin_t (by omega) (by omega) | exact Nat.le_of_ble_eq_true rfl | (rw [nI_cl (by omega)]; assumption) | omega) only [↓reduceIte, reduceCtorEq, not_true_eq_false, not_false_eq_true, q123_0, q123_1, q123_4i, q123_4a, q123_5, q123_6, q123_9, q123_12, q123_13, q123_14, q123_15, q123_16, q123_19, q123_22, q123_23, q123_26, q123_27, q123_29, q123_32, q123_35, q123_36, q123_39, q123_40, q123_42, q123_43, q123_46i, q123_46a, q123_47, q123_48, q123_49, q123_52, q123_55, q123_58, q123_59, q123_60, q123_61, q123_64, q123_67, q123_68, q123_71, q123_74, q123_77, q123_78, q123_79, q123_82, q123_85, q123_88, q123_90, q123_92, q123_93, q123_94, q123_97, q123_98, q123_101, q123_102, q123_103, q123_105, q123_106, q123_108, q123_111, q123_113, q123_114i, q123_114a, q123_115, q123_118, q123_119, q123_120, q123_123, q123_128, q123_131, q123_133, q123_134, q123_137, q123_139, q123_141, q123_143, q123_144, q123_145, q123_146, q123_147, q123_148, q123_151, q123_154, q123_155, q123_156, q123_157, q123_160, q123_163, q123_165, kl_int, kl_ref, kl_tok, cS_nil, cS_int, cS_ref, cS_long, tl_some, tl_none, List.cons_append, List.nil_append, nI_add, nI_ltb, nI_leb, nI_eqb, nI_cl, zin_nI, w12, b2i_ne1]
      rw [← h70]
      simp (disch := first | assumption | exact nar_b0 | exact nar_b1 | exact nar_b | exact Or.inl rfl | exact Or.inr rfl | exact zin_t (by omega) (by omega) | exact Nat.le_of_ble_eq_true rfl | (rw [nI_cl (by omega)]; assumption) | omega) only [↓reduceIte, reduceCtorEq, not_true_eq_false, not_false_eq_true, q123_0, q123_1, q123_4i, q123_4a, q123_5, q123_6, q123_9, q123_12, q123_13, q123_14, q123_15, q123_16, q123_19, q123_22, q123_23, q123_26, q123_27, q123_29, q123_32, q123_35, q123_36, q123_39, q123_40, q123_42, q123_43, q123_46i, q123_46a, q123_47, q123_48, q123_49, q123_52, q123_55, q123_58, q123_59, q123_60, q123_61, q123_64, q123_67, q123_68, q123_71, q123_74, q123_77, q123_78, q123_79, q123_82, q123_85, q123_88, q123_90, q123_92, q123_93, q123_94, q123_97, q123_98, q123_101, q123_102, q123_103, q123_105, q123_106, q123_108, q123_111, q123_113, q123_114i, q123_114a, q123_115, q123_118, q123_119, q123_120, q123_123, q123_126, q123_128, q123_131, q123_133, q123_134, q123_137, q123_139, q123_141, q123_143, q123_144, q123_145, q123_146, q123_147, q123_148, q123_151, q123_154, q123_155, q123_156, q123_157, q123_160, q123_163, q123_165, kl_int, kl_ref, kl_tok, cS_nil, cS_int, cS_ref, cS_long, tl_some, tl_none, List.cons_append, List.nil_append, nI_add, nI_ltb, nI_leb, nI_eqb, nI_cl, zin_nI, h10, hf, zk0_inl, b2i_f, hw]
    rw [hx]
    by_cases c2 : lo ≤ sgn mi 0 ∧ sgn mi 0 ≤ hi
    · exact ⟨_, _, q1 c2, hW, hRW⟩
    · exact ⟨_, _, q2 c2 _ hno, hW, hRW⟩
end Rd
