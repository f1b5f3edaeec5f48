-- the class reads one part of a condition
section Cg
variable {d n i a : Nat} {M : ZM} {R : ZH} {b : Nat → Int32}
theorem one_s {e : Nat} {nst : Nat} (he : 7 ≤ e) (hS : Sh R) (hF : FO M) (hP : PCx M b n i) : cal e 44 [.ref 92, .ref a, .int (nI nst)] M R = exe e 44 17 [.ref 92, .ref a, .int (nI nst), .int (nI (sk b n i)), .int (b2i (wm b n (sk b n i) 11)), tok] [] (atM M (if wm b n (sk b n i) 11 then sk b n i + 3 else sk b n i)) R := by
  obtain ⟨d, rfl⟩ : ∃ d, e = d + 7 := ⟨e - 7, by omega⟩
  obtain ⟨nN, k92, k93, l93, k94, k95, l95, k96, l96, k97, l97, k98, k99, l99, k100, l100, k101, l101, k102, k103, l103, k104, l104, k105, l105, f92_0, f92_1, f94_0, f94_1, f94_2, f92_2, f98_0, f98_1, f98_2, f92_3, f102_0, f102_1, f102_2⟩ := parF hS
  have hle := sk_le (b := b) hP.2.2.1.1
  have hsk := skipBlanks_ (d := d + 6) (R := R) hS hP
  have hP2 : PCx (atM M (sk b n i)) b n (sk b n i) := hP.mv hle
  have h5 := hP2.2.1
  have hF2 : FO (atM M (sk b n i)) := hF.fr (fun c h => atM_c (by omega))
  have hw := takeWord_ (d := d + 2) (R := R) (a := 1000012) (j := 11) rfl (by decide) hS hF2 hP2
  rw [sk_sk hP.2.2.1.1, atM_at] at hw
  have l : wln 11 = 3 := rfl
  rw [l] at hw
  rw [e44]
  simp (disch := first | assumption | exact nar_b0 | exact nar_b1 | exact nar_b | exact Or.inl rfl | exact Or.inr rfl | exact zin_t (by omega) (by omega) | exact Nat.le_of_ble_eq_true rfl | (rw [nI_cl (by omega)]; assumption) | omega) only [↓reduceIte, reduceCtorEq, not_true_eq_false, not_false_eq_true, q44_0, q44_1, q44_4, q44_5, q44_8, q44_9, q44_10, q44_12, q44_15, q44_19, q44_22, q44_23, q44_25, q44_28, q44_31, q44_32, q44_33, q44_36, q44_37, q44_38, q44_39, q44_42, q44_43, q44_44, q44_45, q44_48, q44_49, q44_51, q44_54, q44_55, q44_56, q44_57, q44_58, q44_59, q44_62, q44_64, q44_65, q44_66, q44_67, q44_68, q44_71, q44_73, q44_74, q44_75i, q44_75a, q44_76, q44_79, q44_80, q44_81, q44_84, q44_85, q44_86, q44_87, q44_88, q44_89, q44_92, q44_95, q44_96, q44_98, q44_101, q44_104, q44_105, q44_108, q44_109, kl_int, kl_ref, kl_tok, cS_nil, cS_int, cS_ref, cS_long, tl_some, tl_none, List.cons_append, List.nil_append, nI_add, nI_ltb, nI_leb, nI_eqb, nI_cl, zin_nI, hsk, zk0_inl, h5, hw]
theorem one_cmp {e : Nat} {nst : Nat} {acc : List CdS} (ha : isCl a) (he : 7 ≤ e) (hS : Sh R) (hF : FO M) (hP : PCx M b n i) (hC : ClR M a acc) (hl : 2 * acc.length ≤ i) (h1 : wm b n (sk b n i) 11 = false) (h2 : isH b n (sk b n i) (nI 40) = false) :
    (∀ st i', pCmp b n (sk b n i) = .inr (st, i') → i ≤ i' ∧ i' ≤ n ∧ 2 * st.length ≤ i' - i ∧ ∃ M', cal e 44 [.ref 92, .ref a, .int (nI nst)] M R = some (.inl (some (.int (nI 1))), M', R) ∧ PCx M' b n i' ∧ ClR M' a (acc ++ st) ∧ CdF a M M') ∧
    (∀ k p, pCmp b n (sk b n i) = .inl (k, p) → ∃ M', cal e 44 [.ref 92, .ref a, .int (nI nst)] M R = some (.inl (some (.int (nI 0))), M', R) ∧ CdE a M M' k p) := by
  have hs := one_s (a := a) (nst := nst) he hS hF hP
  obtain ⟨d, rfl⟩ : ∃ d, e = d + 7 := ⟨e - 7, by omega⟩
  obtain ⟨nN, k92, k93, l93, k94, k95, l95, k96, l96, k97, l97, k98, k99, l99, k100, l100, k101, l101, k102, k103, l103, k104, l104, k105, l105, f92_0, f92_1, f94_0, f94_1, f94_2, f92_2, f98_0, f98_1, f98_2, f92_3, f102_0, f102_1, f102_2⟩ := parF hS
  have han := isCl_n ha
  have hle := sk_le (b := b) hP.2.2.1.1
  have hge := sk_ge b n i
  rw [h1] at hs
  simp only [Bool.false_eq_true, if_false] at hs
  have hP2 : PCx (atM M (sk b n i)) b n (sk b n i) := hP.mv hle
  have hF2 : FO (atM M (sk b n i)) := hF.fr (fun c h => atM_c (by omega))
  have hC2 : ClR (atM M (sk b n i)) a acc := hC.fr (fun c h1 h2 => atM_c (by omega))
  have hh := isHereC_ (d := d + 6) (R := R) (c := nI 40) hS hP2
  rw [h2] at hh
  obtain ⟨r1, r2⟩ := readCmp_ (e := d + 6) ha (by omega) hS hF2 hP2 hC2 (by omega)
  refine ⟨fun st i' h => ?_, fun k p h => ?_⟩
  · obtain ⟨M', g1, g2, g3, g4⟩ := r1 st i' h
    have pp := pCmp_pos hle h
    refine ⟨by omega, pp.2.1, by omega, M', ?_, g2, g3, CdF.trans CdF.at g4⟩
    rw [hs]
    simp (disch := first | assumption | exact nar_b0 | exact nar_b1 | exact nar_b | exact Or.inl rfl | exact Or.inr rfl | exact zin_t (by omega) (by omega) | exact Nat.le_of_ble_eq_true rfl | (rw [nI_cl (by omega)]; assumption) | omega) only [↓reduceIte, reduceCtorEq, not_true_eq_false, not_false_eq_true, q44_0, q44_1, q44_4, q44_5, q44_8, q44_9, q44_10, q44_12, q44_15, q44_17, q44_19, q44_22, q44_23, q44_25, q44_28, q44_31, q44_32, q44_33, q44_36, q44_37, q44_38, q44_39, q44_42, q44_43, q44_44, q44_45, q44_48, q44_49, q44_51, q44_54, q44_55, q44_56, q44_57, q44_58, q44_59, q44_62, q44_64, q44_65, q44_66, q44_67, q44_68, q44_71, q44_73, q44_74, q44_75i, q44_75a, q44_76, q44_79, q44_80, q44_81, q44_84, q44_85, q44_86, q44_87, q44_88, q44_89, q44_92, q44_95, q44_96, q44_98, q44_101, q44_104, q44_105, q44_108, q44_109, kl_int, kl_ref, kl_tok, cS_nil, cS_int, cS_ref, cS_long, tl_some, tl_none, List.cons_append, List.nil_append, nI_add, nI_ltb, nI_leb, nI_eqb, nI_cl, zin_nI, b2i_0, hh, zk0_inl, g1]
  · obtain ⟨M', g1, g2⟩ := r2 k p h
    refine ⟨M', ?_, CdE.after CdF.at g2⟩
    rw [hs]
    simp (disch := first | assumption | exact nar_b0 | exact nar_b1 | exact nar_b | exact Or.inl rfl | exact Or.inr rfl | exact zin_t (by omega) (by omega) | exact Nat.le_of_ble_eq_true rfl | (rw [nI_cl (by omega)]; assumption) | omega) only [↓reduceIte, reduceCtorEq, not_true_eq_false, not_false_eq_true, q44_0, q44_1, q44_4, q44_5, q44_8, q44_9, q44_10, q44_12, q44_15, q44_17, q44_19, q44_22, q44_23, q44_25, q44_28, q44_31, q44_32, q44_33, q44_36, q44_37, q44_38, q44_39, q44_42, q44_43, q44_44, q44_45, q44_48, q44_49, q44_51, q44_54, q44_55, q44_56, q44_57, q44_58, q44_59, q44_62, q44_64, q44_65, q44_66, q44_67, q44_68, q44_71, q44_73, q44_74, q44_75i, q44_75a, q44_76, q44_79, q44_80, q44_81, q44_84, q44_85, q44_86, q44_87, q44_88, q44_89, q44_92, q44_95, q44_96, q44_98, q44_101, q44_104, q44_105, q44_108, q44_109, kl_int, kl_ref, kl_tok, cS_nil, cS_int, cS_ref, cS_long, tl_some, tl_none, List.cons_append, List.nil_append, nI_add, nI_ltb, nI_leb, nI_eqb, nI_cl, zin_nI, b2i_0, hh, zk0_inl, g1]
theorem cdR_one0 (ha : isCl a) (hS : Sh R) : CdR R b n a 44 7 4 (pOne b n 0) := by
  intro e M i acc he hP hF hC hl
  have hs := one_s (a := a) (nst := 4) he hS hF hP
  have han := isCl_n ha
  have hle := sk_le (b := b) hP.2.2.1.1
  have hn := hP.2.2.1
  unfold pOne
  cases h1 : wm b n (sk b n i) 11
  · cases h2 : isH b n (sk b n i) (nI 40)
    · exact one_cmp ha he hS hF hP hC hl h1 h2
    · obtain ⟨d, rfl⟩ : ∃ d, e = d + 7 := ⟨e - 7, by omega⟩
      obtain ⟨nN, k92, k93, l93, k94, k95, l95, k96, l96, k97, l97, k98, k99, l99, k100, l100, k101, l101, k102, k103, l103, k104, l104, k105, l105, f92_0, f92_1, f94_0, f94_1, f94_2, f92_2, f98_0, f98_1, f98_2, f92_3, f102_0, f102_1, f102_2⟩ := parF hS
      rw [h1] at hs
      simp only [Bool.false_eq_true, if_false] at hs
      have hP2 : PCx (atM M (sk b n i)) b n (sk b n i) := hP.mv hle
      have hh := isHereC_ (d := d + 6) (R := R) (c := nI 40) hS hP2
      rw [h2] at hh
      have hf := fail_ (d := d + 6) (M := atM M (sk b n i)) (R := R) (k := nI 4) (p := nI (sk b n i)) hS
      refine ⟨fun st i' h => (by cases h), fun k p h => ?_⟩
      cases h
      refine ⟨_, ?_, CdE.after CdF.at ((CFt.mk' (M' := atM M (sk b n i)) (fun c hc => rfl)).cd ha (hC.fr (fun c h1 h2 => atM_c (by omega))) (by omega))⟩
      have z : ¬ 4 < 4 := by decide
      rw [hs]
      simp (disch := first | assumption | exact nar_b0 | exact nar_b1 | exact nar_b | exact Or.inl rfl | exact Or.inr rfl | exact zin_t (by omega) (by omega) | exact Nat.le_of_ble_eq_true rfl | (rw [nI_cl (by omega)]; assumption) | omega) only [↓reduceIte, reduceCtorEq, not_true_eq_false, not_false_eq_true, q44_0, q44_1, q44_4, q44_5, q44_8, q44_9, q44_10, q44_12, q44_15, q44_17, q44_19, q44_22, q44_23, q44_25, q44_28, q44_31, q44_32, q44_33, q44_36, q44_37, q44_38, q44_39, q44_42, q44_43, q44_44, q44_45, q44_48, q44_49, q44_51, q44_54, q44_55, q44_56, q44_57, q44_58, q44_59, q44_62, q44_64, q44_65, q44_66, q44_67, q44_68, q44_71, q44_73, q44_74, q44_75i, q44_75a, q44_76, q44_79, q44_80, q44_81, q44_84, q44_85, q44_86, q44_87, q44_88, q44_89, q44_92, q44_95, q44_96, q44_98, q44_101, q44_104, q44_105, q44_108, q44_109, kl_int, kl_ref, kl_tok, cS_nil, cS_int, cS_ref, cS_long, tl_some, tl_none, List.cons_append, List.nil_append, nI_add, nI_ltb, nI_leb, nI_eqb, nI_cl, zin_nI, b2i_0, hh, zk0_inl, z, hf]
  · obtain ⟨d, rfl⟩ : ∃ d, e = d + 7 := ⟨e - 7, by omega⟩
    obtain ⟨nN, k92, k93, l93, k94, k95, l95, k96, l96, k97, l97, k98, k99, l99, k100, l100, k101, l101, k102, k103, l103, k104, l104, k105, l105, f92_0, f92_1, f94_0, f94_1, f94_2, f92_2, f98_0, f98_1, f98_2, f92_3, f102_0, f102_1, f102_2⟩ := parF hS
    rw [h1] at hs
    simp only [if_true] at hs
    have hf := fail_ (d := d + 6) (M := atM M (sk b n i + 3)) (R := R) (k := nI 4) (p := nI (sk b n i)) hS
    refine ⟨fun st i' h => (by cases h), fun k p h => ?_⟩
    cases h
    refine ⟨_, ?_, CdE.after CdF.at ((CFt.mk' (M' := atM M (sk b n i + 3)) (fun c hc => rfl)).cd ha (hC.fr (fun c h1 h2 => atM_c (by omega))) (by omega))⟩
    have z : ¬ 4 < 4 := by decide
    rw [hs]
    simp (disch := first | assumption | exact nar_b0 | exact nar_b1 | exact nar_b | exact Or.inl rfl | exact Or.inr rfl | exact zin_t (by omega) (by omega) | exact Nat.le_of_ble_eq_true rfl | (rw [nI_cl (by omega)]; assumption) | omega) only [↓reduceIte, reduceCtorEq, not_true_eq_false, not_false_eq_true, q44_0, q44_1, q44_4, q44_5, q44_8, q44_9, q44_10, q44_12, q44_15, q44_17, q44_19, q44_22, q44_23, q44_25, q44_28, q44_31, q44_32, q44_33, q44_36, q44_37, q44_38, q44_39, q44_42, q44_43, q44_44, q44_45, q44_48, q44_49, q44_51, q44_54, q44_55, q44_56, q44_57, q44_58, q44_59, q44_62, q44_64, q44_65, q44_66, q44_67, q44_68, q44_71, q44_73, q44_74, q44_75i, q44_75a, q44_76, q44_79, q44_80, q44_81, q44_84, q44_85, q44_86, q44_87, q44_88, q44_89, q44_92, q44_95, q44_96, q44_98, q44_101, q44_104, q44_105, q44_108, q44_109, kl_int, kl_ref, kl_tok, cS_nil, cS_int, cS_ref, cS_long, tl_some, tl_none, List.cons_append, List.nil_append, nI_add, nI_ltb, nI_leb, nI_eqb, nI_cl, zin_nI, b2i_0, z, hf, zk0_inl]
theorem cdR_oneS {dd lo : Nat} (hdd : dd < 4) (hlo : 7 ≤ lo) (ha : isCl a) (hS : Sh R) (h1 : CdR R b n a 44 lo (4 - dd) (pOne b n dd)) : CdR R b n a 44 (lo + 3) (4 - (dd + 1)) (pOne b n (dd + 1)) := by
  have h3 : CdR R b n a 42 (lo + 2) (4 - dd) (pAny (pOne b n dd) b n) := cdR_42 ha hS (cdR_43 ha hS h1 (by omega)) (by omega)
  intro e M i acc he hP hF hC hl
  have hs := one_s (a := a) (nst := 4 - (dd + 1)) (show 7 ≤ e by omega) hS hF hP
  have han := isCl_n ha
  have hle := sk_le (b := b) hP.2.2.1.1
  have hge := sk_ge b n i
  have hn := hP.2.2.1
  have en : 4 - (dd + 1) + 1 = 4 - dd := by omega
  have z : 4 - (dd + 1) < 4 := by omega
  have hb4 : 4 - (dd + 1) < 100 := by omega
  have z1 : ¬ 1 = 0 := by decide
  have ht : b2i true = nI 1 := rfl
  unfold pOne
  cases c1 : wm b n (sk b n i) 11
  · cases c2 : isH b n (sk b n i) (nI 40)
    · exact one_cmp ha (by omega) hS hF hP hC hl c1 c2
    · obtain ⟨d, rfl⟩ : ∃ d, e = d + 1 := ⟨e - 1, by omega⟩
      obtain ⟨nN, k92, k93, l93, k94, k95, l95, k96, l96, k97, l97, k98, k99, l99, k100, l100, k101, l101, k102, k103, l103, k104, l104, k105, l105, f92_0, f92_1, f94_0, f94_1, f94_2, f92_2, f98_0, f98_1, f98_2, f92_3, f102_0, f102_1, f102_2⟩ := parF hS
      rw [c1] at hs
      simp only [Bool.false_eq_true, if_false] at hs
      have hlt := isH_lt c2
      have hP2 : PCx (atM M (sk b n i)) b n (sk b n i) := hP.mv hle
      have h5 := hP2.2.1
      have hh := isHereC_ (d := d) (R := R) (c := nI 40) hS hP2
      rw [c2] at hh
      have hat : up2 (atM M (sk b n i)) 92 5 (nI (sk b n i + 1)) = atM M (sk b n i + 1) := atM_at
      have hP3 : PCx (atM M (sk b n i + 1)) b n (sk b n i + 1) := hP.mv (by omega)
      have hF3 : FO (atM M (sk b n i + 1)) := hF.fr (fun c h => atM_c (by omega))
      have hC3 : ClR (atM M (sk b n i + 1)) a acc := hC.fr (fun c h1 h2 => atM_c (by omega))
      obtain ⟨r1, r2⟩ := h3 d (atM M (sk b n i + 1)) (sk b n i + 1) acc (by omega) hP3 hF3 hC3 (by omega)
      simp only [Bool.false_eq_true, if_false, if_true]
      cases hp : pAny (pOne b n dd) b n (sk b n i + 1) with
      | inl f =>
        obtain ⟨k, p⟩ := f
        obtain ⟨M1, g1, g2⟩ := r2 k p hp
        refine ⟨fun st i' h => (by cases h), fun k' p' h => ?_⟩
        cases h
        refine ⟨M1, ?_, CdE.after CdF.at g2⟩
        rw [hs]
        simp (disch := first | assumption | exact nar_b0 | exact nar_b1 | exact nar_b | exact Or.inl rfl | exact Or.inr rfl | exact zin_t (by omega) (by omega) | exact Nat.le_of_ble_eq_true rfl | (rw [nI_cl (by omega)]; assumption) | omega) only [↓reduceIte, reduceCtorEq, not_true_eq_false, not_false_eq_true, q44_0, q44_1, q44_4, q44_5, q44_8, q44_9, q44_10, q44_12, q44_15, q44_17, q44_19, q44_22, q44_23, q44_25, q44_28, q44_31, q44_32, q44_33, q44_36, q44_37, q44_38, q44_39, q44_42, q44_43, q44_44, q44_45, q44_48, q44_49, q44_51, q44_54, q44_55, q44_56, q44_57, q44_58, q44_59, q44_62, q44_64, q44_65, q44_66, q44_67, q44_68, q44_71, q44_73, q44_74, q44_75i, q44_75a, q44_76, q44_79, q44_80, q44_81, q44_84, q44_85, q44_86, q44_87, q44_88, q44_89, q44_92, q44_95, q44_96, q44_98, q44_101, q44_104, q44_105, q44_108, q44_109, kl_int, kl_ref, kl_tok, cS_nil, cS_int, cS_ref, cS_long, tl_some, tl_none, List.cons_append, List.nil_append, nI_add, nI_ltb, nI_leb, nI_eqb, nI_cl, zin_nI, b2i_0, hh, zk0_inl, z, h5, hat, en, g1]
      | inr w =>
        obtain ⟨st, i1⟩ := w
        obtain ⟨p1, p2, p3, M1, g1, g2, g3, g4⟩ := r1 st i1 hp
        have s1 := sk_ge b n i1
        have s2 := sk_le (b := b) p2
        have hlen : (acc ++ st).length = acc.length + st.length := List.length_append
        obtain ⟨d', rfl⟩ : ∃ d', d = d' + 1 := ⟨d - 1, by omega⟩
        show (∀ st' i', (if isH b n (sk b n i1) (nI 41) = true then Sum.inr (st, sk b n i1 + 1) else Sum.inl (1, sk b n i1) : PR (List CdS)) = .inr (st', i') → _) ∧ (∀ k p, (if isH b n (sk b n i1) (nI 41) = true then Sum.inr (st, sk b n i1 + 1) else Sum.inl (1, sk b n i1) : PR (List CdS)) = .inl (k, p) → _)
        cases c41 : isH b n (sk b n i1) (nI 41)
        · obtain ⟨M2, k1, k2⟩ := readSign_f (d := d') (R := R) hS g2 c41
          refine ⟨fun st i' h => (by cases h), fun k' p' h => ?_⟩
          cases h
          refine ⟨M2, ?_, CdE.after (CdF.trans CdF.at g4) (k2.cd ha g3 (by omega))⟩
          rw [hs]
          simp (disch := first | assumption | exact nar_b0 | exact nar_b1 | exact nar_b | exact Or.inl rfl | exact Or.inr rfl | exact zin_t (by omega) (by omega) | exact Nat.le_of_ble_eq_true rfl | (rw [nI_cl (by omega)]; assumption) | omega) only [↓reduceIte, reduceCtorEq, not_true_eq_false, not_false_eq_true, q44_0, q44_1, q44_4, q44_5, q44_8, q44_9, q44_10, q44_12, q44_15, q44_17, q44_19, q44_22, q44_23, q44_25, q44_28, q44_31, q44_32, q44_33, q44_36, q44_37, q44_38, q44_39, q44_42, q44_43, q44_44, q44_45, q44_48, q44_49, q44_51, q44_54, q44_55, q44_56, q44_57, q44_58, q44_59, q44_62, q44_64, q44_65, q44_66, q44_67, q44_68, q44_71, q44_73, q44_74, q44_75i, q44_75a, q44_76, q44_79, q44_80, q44_81, q44_84, q44_85, q44_86, q44_87, q44_88, q44_89, q44_92, q44_95, q44_96, q44_98, q44_101, q44_104, q44_105, q44_108, q44_109, kl_int, kl_ref, kl_tok, cS_nil, cS_int, cS_ref, cS_long, tl_some, tl_none, List.cons_append, List.nil_append, nI_add, nI_ltb, nI_leb, nI_eqb, nI_cl, zin_nI, b2i_0, hh, zk0_inl, z, h5, hat, en, g1, z1, k1]
        · have k1 := readSign_t (d := d') (R := R) hS g2 c41
          have l41 := isH_lt c41
          refine ⟨fun st' i' h => ?_, fun k p h => (by cases h)⟩
          cases h
          refine ⟨by omega, by omega, by omega, _, ?_, g2.mv (by omega), g3.fr (fun c h1 h2 => atM_c (by omega)), CdF.trans (CdF.trans CdF.at g4) CdF.at⟩
          rw [hs]
          simp (disch := first | assumption | exact nar_b0 | exact nar_b1 | exact nar_b | exact Or.inl rfl | exact Or.inr rfl | exact zin_t (by omega) (by omega) | exact Nat.le_of_ble_eq_true rfl | (rw [nI_cl (by omega)]; assumption) | omega) only [↓reduceIte, reduceCtorEq, not_true_eq_false, not_false_eq_true, q44_0, q44_1, q44_4, q44_5, q44_8, q44_9, q44_10, q44_12, q44_15, q44_17, q44_19, q44_22, q44_23, q44_25, q44_28, q44_31, q44_32, q44_33, q44_36, q44_37, q44_38, q44_39, q44_42, q44_43, q44_44, q44_45, q44_48, q44_49, q44_51, q44_54, q44_55, q44_56, q44_57, q44_58, q44_59, q44_62, q44_64, q44_65, q44_66, q44_67, q44_68, q44_71, q44_73, q44_74, q44_75i, q44_75a, q44_76, q44_79, q44_80, q44_81, q44_84, q44_85, q44_86, q44_87, q44_88, q44_89, q44_92, q44_95, q44_96, q44_98, q44_101, q44_104, q44_105, q44_108, q44_109, kl_int, kl_ref, kl_tok, cS_nil, cS_int, cS_ref, cS_long, tl_some, tl_none, List.cons_append, List.nil_append, nI_add, nI_ltb, nI_leb, nI_eqb, nI_cl, zin_nI, b2i_0, hh, zk0_inl, z, h5, hat, en, g1, z1, k1]
  · obtain ⟨d, rfl⟩ : ∃ d, e = d + 1 := ⟨e - 1, by omega⟩
    obtain ⟨nN, k92, k93, l93, k94, k95, l95, k96, l96, k97, l97, k98, k99, l99, k100, l100, k101, l101, k102, k103, l103, k104, l104, k105, l105, f92_0, f92_1, f94_0, f94_1, f94_2, f92_2, f98_0, f98_1, f98_2, f92_3, f102_0, f102_1, f102_2⟩ := parF hS
    obtain ⟨q1, -⟩ := clK hS ha
    rw [c1] at hs
    simp only [if_true] at hs ⊢
    have hwl := wm_le c1
    have l : wln 11 = 3 := rfl
    have hP3 : PCx (atM M (sk b n i + 3)) b n (sk b n i + 3) := hP.mv (by omega)
    have hF3 : FO (atM M (sk b n i + 3)) := hF.fr (fun c h => atM_c (by omega))
    have hC3 : ClR (atM M (sk b n i + 3)) a acc := hC.fr (fun c h1 h2 => atM_c (by omega))
    obtain ⟨r1, r2⟩ := h1 d (atM M (sk b n i + 3)) (sk b n i + 3) acc (by omega) hP3 hF3 hC3 (by omega)
    cases hp : pOne b n dd (sk b n i + 3) with
    | inl f =>
      obtain ⟨k, p⟩ := f
      obtain ⟨M1, g1, g2⟩ := r2 k p hp
      obtain ⟨L, l1, l2⟩ := g2.2.2.1
      obtain ⟨M2, k1, k2, k3⟩ := add_any (d := d) (M := M1) (R := R) (s := nI 3) (l := nI 0) (r := nI 0) ha hS l2 l1
      refine ⟨fun st i' h => (by cases h), fun k' p' h => ?_⟩
      cases h
      refine ⟨M2, ?_, ?_⟩
      · rw [hs]
        simp (disch := first | assumption | exact nar_b0 | exact nar_b1 | exact nar_b | exact Or.inl rfl | exact Or.inr rfl | exact zin_t (by omega) (by omega) | exact Nat.le_of_ble_eq_true rfl | (rw [nI_cl (by omega)]; assumption) | omega) only [↓reduceIte, reduceCtorEq, not_true_eq_false, not_false_eq_true, q44_0, q44_1, q44_4, q44_5, q44_8, q44_9, q44_10, q44_12, q44_15, q44_17, q44_19, q44_22, q44_23, q44_25, q44_28, q44_31, q44_32, q44_33, q44_36, q44_37, q44_38, q44_39, q44_42, q44_43, q44_44, q44_45, q44_48, q44_49, q44_51, q44_54, q44_55, q44_56, q44_57, q44_58, q44_59, q44_62, q44_64, q44_65, q44_66, q44_67, q44_68, q44_71, q44_73, q44_74, q44_75i, q44_75a, q44_76, q44_79, q44_80, q44_81, q44_84, q44_85, q44_86, q44_87, q44_88, q44_89, q44_92, q44_95, q44_96, q44_98, q44_101, q44_104, q44_105, q44_108, q44_109, kl_int, kl_ref, kl_tok, cS_nil, cS_int, cS_ref, cS_long, tl_some, tl_none, List.cons_append, List.nil_append, nI_add, nI_ltb, nI_leb, nI_eqb, nI_cl, zin_nI, b2i_0, zk0_inl, z, en, g1, k1]
      · refine ⟨?_, ?_, k2, fun c h h' => by rw [k3 c h', g2.2.2.2 c h h', atM_c h]⟩
        · rw [k3 _ (by omega)]; exact g2.1
        · rw [k3 _ (by omega)]; exact g2.2.1
    | inr w =>
      obtain ⟨st, i1⟩ := w
      obtain ⟨p1, p2, p3, M1, g1, g2, g3, g4⟩ := r1 st i1 hp
      have hlen : (acc ++ st).length = acc.length + st.length := List.length_append
      have hadd := add_ (d := d) (M := M1) (R := R) (s := nI 3) (l := nI 0) (r := nI 0) ha hS g3.1 (by omega)
      have hC4 : ClR (adM M1 a (acc ++ st).length (nI 3) (nI 0) (nI 0)) a (acc ++ st ++ [(3, 0, 0)]) := g3.add (k := 3) (l := 0) (r := 0)
      refine ⟨fun st' i' h => ?_, fun k p h => (by cases h)⟩
      cases h
      refine ⟨by omega, p2, by simp; omega, adM M1 a (acc ++ st).length (nI 3) (nI 0) (nI 0), ?_, g2.fr (by rw [adM_c (by omega)]) (by rw [adM_c (by omega)]) (by rw [adM_c (by omega)]) (adM_c (by omega)), by rw [← List.append_assoc]; exact hC4, CdF.trans (CdF.trans CdF.at g4) ⟨fun c h1 h2 => adM_c h2, fun q h1 h2 => by rw [adM_c (by omega)]⟩⟩
      rw [hs]
      simp (disch := first | assumption | exact nar_b0 | exact nar_b1 | exact nar_b | exact Or.inl rfl | exact Or.inr rfl | exact zin_t (by omega) (by omega) | exact Nat.le_of_ble_eq_true rfl | (rw [nI_cl (by omega)]; assumption) | omega) only [↓reduceIte, reduceCtorEq, not_true_eq_false, not_false_eq_true, q44_0, q44_1, q44_4, q44_5, q44_8, q44_9, q44_10, q44_12, q44_15, q44_17, q44_19, q44_22, q44_23, q44_25, q44_28, q44_31, q44_32, q44_33, q44_36, q44_37, q44_38, q44_39, q44_42, q44_43, q44_44, q44_45, q44_48, q44_49, q44_51, q44_54, q44_55, q44_56, q44_57, q44_58, q44_59, q44_62, q44_64, q44_65, q44_66, q44_67, q44_68, q44_71, q44_73, q44_74, q44_75i, q44_75a, q44_76, q44_79, q44_80, q44_81, q44_84, q44_85, q44_86, q44_87, q44_88, q44_89, q44_92, q44_95, q44_96, q44_98, q44_101, q44_104, q44_105, q44_108, q44_109, kl_int, kl_ref, kl_tok, cS_nil, cS_int, cS_ref, cS_long, tl_some, tl_none, List.cons_append, List.nil_append, nI_add, nI_ltb, nI_leb, nI_eqb, nI_cl, zin_nI, b2i_0, zk0_inl, z, en, g1, hadd]
theorem readAny_ (ha : isCl a) (hS : Sh R) : CdR R b n a 42 21 0 (pAny (pOne b n 4) b n) := by
  have h0 := cdR_one0 (b := b) (n := n) ha hS
  have h1 := cdR_oneS (dd := 0) (by decide) (by decide) ha hS h0
  have h2 := cdR_oneS (dd := 1) (by decide) (by decide) ha hS h1
  have h3 := cdR_oneS (dd := 2) (by decide) (by decide) ha hS h2
  have h4 := cdR_oneS (dd := 3) (by decide) (by decide) ha hS h3
  exact cdR_42 ha hS (cdR_43 ha hS h4 (by decide)) (by decide)
end Cg
