-- the class: bench, causes; a line whole
section Lr
variable {d n i j : Nat} {M : ZM} {R : ZH} {b : Nat → Int32} {P : PS}
theorem lnBench_ {w : Nat} (hS : Sh R) (hF : FO M) (hj : j < 10) (hP : PCx M b n i) (hC : PSC M j P) (hW : PW P) (hE : PE b n P) : LnQ R b n j (exe (d + 22) 32 212 [.ref 92, .ref (tb j), .int (nI w)] [] M R) M i (onc P 4 w (mp (pAny (pOne b n 4) b n i) (beP P))) := by
  obtain ⟨nN, k92, k93, l93, k94, k95, l95, k96, l96, k97, l97, k98, k99, l99, k100, l100, k101, l101, k102, k103, l103, k104, l104, k105, l105, f92_0, f92_1, f94_0, f94_1, f94_2, f92_2, f98_0, f98_1, f98_2, f92_3, f102_0, f102_1, f102_2⟩ := parF hS
  have htj := tb_lt hj
  have hn := hP.2.2.1
  have h7 : M 92 7 = nI (tL P) := hC.2.2.2.2.1.1
  have ht := hW.2.2.2.2.2.1
  have z1 : ¬ 1 = 0 := by decide
  have e2 : (2 : Nat) ^ 4 = 16 := by decide
  have ha : isCl 102 := Or.inr (Or.inr rfl)
  unfold onc
  cases c : (tL P).testBit 4
  · have hf := isFirst_t (d := d + 20) (M := M) (R := R) (t := tL P) (k := 4) (p := nI w) hS h7 ht (by decide) c
    rw [e2] at hf
    generalize hM1 : up2 M 92 7 (nI (tL P ||| 16)) = M1 at hf
    have hP1 : PCx M1 b n i := by rw [← hM1]; exact hP.u7
    have hC1 : PSC M1 j (rD P, fI P, fN P, tL P ||| 16, gR P, cA P, cB P, cC P) := by rw [← hM1]; exact hC.tl hj
    have f1 : LnF j M M1 := by rw [← hM1]; exact fun c a _ _ => up2_ne a
    have hF1 : FO M1 := by rw [← hM1]; exact hF.fr (fun c h => up2_ne (by omega))
    have hnil : cC P = [] := hE.2.2.1 c
    have hcl : ClR M1 102 [] := by have := hC1.2.2.2.2.2.2.2; rw [← hnil]; exact this
    obtain ⟨r1, r2⟩ := readAny_ (b := b) (n := n) ha hS (d + 21) M1 i [] (by omega) hP1 hF1 hcl (by simp)
    simp only [Bool.false_eq_true, if_false]
    unfold mp
    cases hp : pAny (pOne b n 4) b n i with
    | inl f =>
      obtain ⟨k, p⟩ := f
      obtain ⟨M2, g1, g2⟩ := r2 k p hp
      refine ⟨fun P' i' h => (by cases h), fun k' p' h => ?_⟩
      cases h
      refine ⟨M2, ?_, LnE.after f1 (g2.ln ha)⟩
      simp (disch := first | assumption | exact nar_b0 | exact nar_b1 | exact nar_b | exact Or.inl rfl | exact Or.inr rfl | exact zin_t (by omega) (by omega) | exact Nat.le_of_ble_eq_true rfl | (rw [nI_cl (by omega)]; assumption) | omega) only [↓reduceIte, reduceCtorEq, not_true_eq_false, not_false_eq_true, q32_0, q32_1, q32_4, q32_5, q32_6, q32_8, q32_11, q32_14, q32_15, q32_16, q32_17, q32_20, q32_21, q32_22, q32_24, q32_27, q32_30, q32_31, q32_32, q32_33, q32_36, q32_37, q32_38, q32_40, q32_43, q32_46, q32_47, q32_48, q32_49, q32_52, q32_55, q32_56, q32_57, q32_60, q32_63, q32_64, q32_67, q32_68, q32_69, q32_70, q32_72, q32_75, q32_78, q32_79, q32_80, q32_81, q32_84, q32_87, q32_88, q32_89, q32_92, q32_95, q32_96, q32_99, q32_100, q32_101, q32_102, q32_104, q32_107, q32_110, q32_111, q32_112, q32_113, q32_116, q32_119, q32_120, q32_121, q32_124, q32_127, q32_128, q32_131, q32_132, q32_133, q32_134, q32_136, q32_139, q32_142, q32_143, q32_144, q32_147, q32_148, q32_150, q32_151, q32_154, q32_155, q32_156, q32_158, q32_161, q32_164, q32_165, q32_168, q32_171, q32_172, q32_173, q32_176, q32_179, q32_180, q32_183, q32_186, q32_187, q32_190, q32_191, q32_194, q32_197, q32_198, q32_201, q32_202, q32_203, q32_204, q32_206, q32_209, q32_212, q32_213, q32_215, q32_216, q32_219, q32_222, q32_223, q32_224, q32_227, q32_228, q32_231, q32_234, q32_235, q32_238, q32_239, q32_240, q32_241, q32_243, q32_246, q32_249, q32_250, q32_252, q32_253, q32_256, q32_259, q32_260, q32_263, q32_266, q32_267, q32_270, q32_271, q32_272, q32_273, q32_274, q32_275, q32_278, kl_int, kl_ref, kl_tok, cS_nil, cS_int, cS_ref, cS_long, tl_some, tl_none, List.cons_append, List.nil_append, nI_add, nI_ltb, nI_leb, nI_eqb, nI_cl, zin_nI, hf, g1, zk0_inl, z1]
    | inr w2 =>
      obtain ⟨st, i1⟩ := w2
      obtain ⟨p1, p2, p3, M2, g1, g2, g3, g4⟩ := r1 st i1 hp
      rw [List.nil_append] at g3
      refine ⟨fun P' i' h => ?_, fun k p h => (by cases h)⟩
      cases h
      refine ⟨p1, p2, hW.tl rfl rfl rfl (Nat.or_lt_two_pow (n := 8) ht (by decide)) hW.2.2.2.2.2.2, ?_, M2, ?_, g2, ?_, f1.trans (g4.ln ha)⟩
      · obtain ⟨q1, q2, q3⟩ := hE
        have tt : tL (beP P st) = tL P ||| 2 ^ 4 := rfl
        unfold PE
        rw [tt, tb_or, tb_or, tb_or, decide_eq_false (by decide), decide_eq_false (by decide), decide_eq_true (by decide), Bool.or_false, Bool.or_false, Bool.or_true]
        exact ⟨q1, q2, fun h => (by cases h), fun _ => ⟨i, i1, hn.1, hp⟩⟩
      · simp (disch := first | assumption | exact nar_b0 | exact nar_b1 | exact nar_b | exact Or.inl rfl | exact Or.inr rfl | exact zin_t (by omega) (by omega) | exact Nat.le_of_ble_eq_true rfl | (rw [nI_cl (by omega)]; assumption) | omega) only [↓reduceIte, reduceCtorEq, not_true_eq_false, not_false_eq_true, q32_0, q32_1, q32_4, q32_5, q32_6, q32_8, q32_11, q32_14, q32_15, q32_16, q32_17, q32_20, q32_21, q32_22, q32_24, q32_27, q32_30, q32_31, q32_32, q32_33, q32_36, q32_37, q32_38, q32_40, q32_43, q32_46, q32_47, q32_48, q32_49, q32_52, q32_55, q32_56, q32_57, q32_60, q32_63, q32_64, q32_67, q32_68, q32_69, q32_70, q32_72, q32_75, q32_78, q32_79, q32_80, q32_81, q32_84, q32_87, q32_88, q32_89, q32_92, q32_95, q32_96, q32_99, q32_100, q32_101, q32_102, q32_104, q32_107, q32_110, q32_111, q32_112, q32_113, q32_116, q32_119, q32_120, q32_121, q32_124, q32_127, q32_128, q32_131, q32_132, q32_133, q32_134, q32_136, q32_139, q32_142, q32_143, q32_144, q32_147, q32_148, q32_150, q32_151, q32_154, q32_155, q32_156, q32_158, q32_161, q32_164, q32_165, q32_168, q32_171, q32_172, q32_173, q32_176, q32_179, q32_180, q32_183, q32_186, q32_187, q32_190, q32_191, q32_194, q32_197, q32_198, q32_201, q32_202, q32_203, q32_204, q32_206, q32_209, q32_212, q32_213, q32_215, q32_216, q32_219, q32_222, q32_223, q32_224, q32_227, q32_228, q32_231, q32_234, q32_235, q32_238, q32_239, q32_240, q32_241, q32_243, q32_246, q32_249, q32_250, q32_252, q32_253, q32_256, q32_259, q32_260, q32_263, q32_266, q32_267, q32_270, q32_271, q32_272, q32_273, q32_274, q32_275, q32_278, kl_int, kl_ref, kl_tok, cS_nil, cS_int, cS_ref, cS_long, tl_some, tl_none, List.cons_append, List.nil_append, nI_add, nI_ltb, nI_leb, nI_eqb, nI_cl, zin_nI, hf, g1, zk0_inl, z1]
      · exact PSC.clC hC1 hj (fun c c1 c2 => g4.1 c c1 (by omega)) (g4.2 _ (by decide) (by decide)) (g4.2 _ (by decide) (by decide)) g3
  · obtain ⟨M1, hf, hc⟩ := isFirst_f (d := d + 20) (M := M) (R := R) (t := tL P) (k := 4) (p := w) hS h7 ht (by decide) c
    rw [e2] at hf
    refine ⟨fun P' i' h => (by cases h), fun k' p' h => ?_⟩
    cases h
    refine ⟨M1, ?_, hc.ln⟩
    simp (disch := first | assumption | exact nar_b0 | exact nar_b1 | exact nar_b | exact Or.inl rfl | exact Or.inr rfl | exact zin_t (by omega) (by omega) | exact Nat.le_of_ble_eq_true rfl | (rw [nI_cl (by omega)]; assumption) | omega) only [↓reduceIte, reduceCtorEq, not_true_eq_false, not_false_eq_true, q32_0, q32_1, q32_4, q32_5, q32_6, q32_8, q32_11, q32_14, q32_15, q32_16, q32_17, q32_20, q32_21, q32_22, q32_24, q32_27, q32_30, q32_31, q32_32, q32_33, q32_36, q32_37, q32_38, q32_40, q32_43, q32_46, q32_47, q32_48, q32_49, q32_52, q32_55, q32_56, q32_57, q32_60, q32_63, q32_64, q32_67, q32_68, q32_69, q32_70, q32_72, q32_75, q32_78, q32_79, q32_80, q32_81, q32_84, q32_87, q32_88, q32_89, q32_92, q32_95, q32_96, q32_99, q32_100, q32_101, q32_102, q32_104, q32_107, q32_110, q32_111, q32_112, q32_113, q32_116, q32_119, q32_120, q32_121, q32_124, q32_127, q32_128, q32_131, q32_132, q32_133, q32_134, q32_136, q32_139, q32_142, q32_143, q32_144, q32_147, q32_148, q32_150, q32_151, q32_154, q32_155, q32_156, q32_158, q32_161, q32_164, q32_165, q32_168, q32_171, q32_172, q32_173, q32_176, q32_179, q32_180, q32_183, q32_186, q32_187, q32_190, q32_191, q32_194, q32_197, q32_198, q32_201, q32_202, q32_203, q32_204, q32_206, q32_209, q32_212, q32_213, q32_215, q32_216, q32_219, q32_222, q32_223, q32_224, q32_227, q32_228, q32_231, q32_234, q32_235, q32_238, q32_239, q32_240, q32_241, q32_243, q32_246, q32_249, q32_250, q32_252, q32_253, q32_256, q32_259, q32_260, q32_263, q32_266, q32_267, q32_270, q32_271, q32_272, q32_273, q32_274, q32_275, q32_278, kl_int, kl_ref, kl_tok, cS_nil, cS_int, cS_ref, cS_long, tl_some, tl_none, List.cons_append, List.nil_append, nI_add, nI_ltb, nI_leb, nI_eqb, nI_cl, zin_nI, hf, zk0_inl]
theorem sideC_f {e : Nat} (he : 3 ≤ e) (hS : Sh R) (hP : PCx M b n i) (h1 : isH b n (sk b n i) (nI 97) = false) (h2 : isH b n (sk b n i) (nI 98) = false) : ∃ M', cal e 41 [.ref 92] M R = some (.inl (some (.int (nI 0))), M', R) ∧ CFt M' M 1 (sk b n i) := by
  obtain ⟨d, rfl⟩ : ∃ d, e = d + 3 := ⟨e - 3, by omega⟩
  obtain ⟨nN, k92, k93, l93, k94, k95, l95, k96, l96, k97, l97, k98, k99, l99, k100, l100, k101, l101, k102, k103, l103, k104, l104, k105, l105, f92_0, f92_1, f94_0, f94_1, f94_2, f92_2, f98_0, f98_1, f98_2, f92_3, f102_0, f102_1, f102_2⟩ := parF hS
  have hle := sk_le (b := b) hP.2.2.1.1
  have hsk := skipBlanks_ (d := d + 2) (R := R) hS hP
  have hP2 : PCx (atM M (sk b n i)) b n (sk b n i) := hP.mv hle
  have hsd := sideHere_ (d := d + 1) (R := R) hS hP2
  unfold sdI at hsd
  rw [h1, h2] at hsd
  have hsd' : cal (d + 2) 51 [.ref 92] (atM M (sk b n i)) R = some (.inl (some (.int (-1))), atM M (sk b n i), R) := hsd
  generalize hM1 : up2 (atM M (sk b n i)) 92 6 (-1) = M1
  have k6 : M1 92 6 = -1 := by rw [← hM1, up2_at]
  have k5 : M1 92 5 = nI (sk b n i) := by rw [← hM1, up2_s (by decide)]; exact hP2.2.1
  have hf := fail_ (d := d + 2) (M := M1) (R := R) (k := nI 1) (p := nI (sk b n i)) hS
  refine ⟨_, ?_, CFt.mk' (M' := M1) (fun c hc => by rw [← hM1, up2_ne hc, atM_c hc])⟩
  rw [e41]
  simp (disch := first | assumption | exact nar_b0 | exact nar_b1 | exact nar_b | exact Or.inl rfl | exact Or.inr rfl | exact zin_t (by omega) (by omega) | exact Nat.le_of_ble_eq_true rfl | (rw [nI_cl (by omega)]; assumption) | omega) only [↓reduceIte, reduceCtorEq, not_true_eq_false, not_false_eq_true, q41_0, q41_1, q41_4, q41_5, q41_6, q41_9, q41_12, q41_13, q41_16, q41_17, q41_20, q41_21, q41_22, q41_23, q41_26, q41_29, q41_30, q41_31, q41_34, q41_35, q41_36i, q41_36a, q41_37, q41_40, q41_41, q41_42, q41_45, q41_46, q41_48, q41_49, q41_52, q41_53, q41_54, q41_57, kl_int, kl_ref, kl_tok, cS_nil, cS_int, cS_ref, cS_long, tl_some, tl_none, List.cons_append, List.nil_append, nI_add, nI_ltb, nI_leb, nI_eqb, nI_cl, zin_nI, hsk, zk0_inl, hsd', hM1, k6, k5, hf]
def siM (M : ZM) (s i : Nat) : ZM := atM (up2 (atM M i) 92 6 (nI s)) (i + 1)
theorem siM_c {M : ZM} {s i c : Nat} (h : c ≠ 92) : siM M s i c = M c := by unfold siM; rw [atM_c h, up2_ne h, atM_c h]
theorem siM_s {M : ZM} {s i q : Nat} (h5 : q ≠ 5) (h6 : q ≠ 6) : siM M s i 92 q = M 92 q := by unfold siM; rw [atM_s h5, up2_s h6, atM_s h5]
theorem sideC_s {e s : Nat} (he : 3 ≤ e) (hs : s < 2) (hS : Sh R) (hP : PCx M b n i) (hlt : sk b n i < n) (h : sdI b n (sk b n i) = nI s) : cal e 41 [.ref 92] M R = exe e 41 45 [.ref 92, .int (nI (sk b n i))] [] (siM M s (sk b n i)) R := by
  obtain ⟨d, rfl⟩ : ∃ d, e = d + 3 := ⟨e - 3, by omega⟩
  obtain ⟨nN, k92, k93, l93, k94, k95, l95, k96, l96, k97, l97, k98, k99, l99, k100, l100, k101, l101, k102, k103, l103, k104, l104, k105, l105, f92_0, f92_1, f94_0, f94_1, f94_2, f92_2, f98_0, f98_1, f98_2, f92_3, f102_0, f102_1, f102_2⟩ := parF hS
  have hle := sk_le (b := b) hP.2.2.1.1
  have hsk := skipBlanks_ (d := d + 2) (R := R) hS hP
  have hP2 : PCx (atM M (sk b n i)) b n (sk b n i) := hP.mv hle
  have hsd := sideHere_ (d := d + 1) (R := R) hS hP2
  rw [h] at hsd
  have k6 : up2 (atM M (sk b n i)) 92 6 (nI s) 92 6 = nI s := up2_at
  have k5 : up2 (atM M (sk b n i)) 92 6 (nI s) 92 5 = nI (sk b n i) := by rw [up2_s (by decide)]; exact hP2.2.1
  have z : ¬ nI s = -1 := by rw [nI_m1 (by omega)]; exact id
  rw [e41]
  simp (disch := first | assumption | exact nar_b0 | exact nar_b1 | exact nar_b | exact Or.inl rfl | exact Or.inr rfl | exact zin_t (by omega) (by omega) | exact Nat.le_of_ble_eq_true rfl | (rw [nI_cl (by omega)]; assumption) | omega) only [↓reduceIte, reduceCtorEq, not_true_eq_false, not_false_eq_true, q41_0, q41_1, q41_4, q41_5, q41_6, q41_9, q41_12, q41_13, q41_16, q41_17, q41_20, q41_21, q41_22, q41_23, q41_26, q41_29, q41_30, q41_31, q41_34, q41_35, q41_36i, q41_36a, q41_37, q41_40, q41_41, q41_42, q41_46, q41_48, q41_49, q41_52, q41_53, q41_54, q41_57, kl_int, kl_ref, kl_tok, cS_nil, cS_int, cS_ref, cS_long, tl_some, tl_none, List.cons_append, List.nil_append, nI_add, nI_ltb, nI_leb, nI_eqb, nI_cl, zin_nI, hsk, zk0_inl, hsd, k6, k5, z]
  rfl
theorem nI64 {s : Nat} (hs : s < 2) : zshl (nI 64) (nI s) = nI (2 ^ (6 + s)) := by
  rw [nI_shl _ (by omega), Nat.pow_add]
theorem lnCause0_ {w : Nat} (hS : Sh R) (hF : FO M) (hj : j < 10) (hP : PCx M b n i) (hC : PSC M j P) (hW : PW P) (hE : PE b n P) (hs : sdI b n (sk b n i) = nI 0) (hlt : sk b n i < n) : LnQ R b n j (exe (d + 22) 32 164 [.ref 92, .ref (tb j), .int (nI w)] [] M R) M i (onc P 6 (sk b n i) (mp (pAny (pOne b n 4) b n (sk b n i + 1)) (caP P 0))) := by
  obtain ⟨nN, k92, k93, l93, k94, k95, l95, k96, l96, k97, l97, k98, k99, l99, k100, l100, k101, l101, k102, k103, l103, k104, l104, k105, l105, f92_0, f92_1, f94_0, f94_1, f94_2, f92_2, f98_0, f98_1, f98_2, f92_3, f102_0, f102_1, f102_2⟩ := parF hS
  have htj := tb_lt hj
  have hn := hP.2.2.1
  have hge := sk_ge b n i
  have ht := hW.2.2.2.2.2.1
  have z1 : ¬ 1 = 0 := by decide
  have e2 : (2 : Nat) ^ 6 = 64 := by decide
  have ha : isCl 94 := by exact Or.inl rfl
  have h45 := sideC_s (e := d + 21) (by omega) (by decide) hS hP hlt hs
  generalize hM0 : siM M 0 (sk b n i) = M0 at h45
  have h7 : M0 92 7 = nI (tL P) := by rw [← hM0, siM_s (by decide) (by decide)]; exact hC.2.2.2.2.1.1
  have k6 : M0 92 6 = nI 0 := by rw [← hM0]; unfold siM; rw [atM_s (by decide), up2_at]
  have f0 : LnF j M M0 := by rw [← hM0]; exact fun c a _ _ => siM_c a
  have hC0 : PSC M0 j P := by rw [← hM0]; exact hC.fr hj (fun c h1 h2 => siM_c (by omega)) (siM_s (by decide) (by decide)) (siM_s (by decide) (by decide)) (fun c h1 h2 => siM_c (by omega))
  have hF0 : FO M0 := by rw [← hM0]; exact hF.fr (fun c h => siM_c (by omega))
  have hP0 : PCx M0 b n (sk b n i + 1) := by
    rw [← hM0]
    unfold siM
    exact PCx.mv (i := sk b n i) ((hP.mv (j := sk b n i) (by omega)).fr (up2_s (by decide)) (up2_s (by decide)) (up2_s (by decide)) (up2_ne (by decide))) (by omega)
  have h64 := nI64 (s := 0) (by decide)
  have e3 : (2 : Nat) ^ (6 + 0) = 64 := by decide
  rw [e3] at h64
  unfold onc
  cases c : (tL P).testBit 6
  · have hf := isFirst_t (d := d + 19) (M := M0) (R := R) (t := tL P) (k := 6) (p := nI (sk b n i)) hS h7 ht (by decide) c
    rw [e2] at hf
    generalize hM1 : up2 M0 92 7 (nI (tL P ||| 64)) = M1 at hf
    have hr : cal (d + 21) 41 [.ref 92] M R = some (.inl (some (.int (nI 1))), M1, R) := by
      rw [h45]
      simp (disch := first | assumption | exact nar_b0 | exact nar_b1 | exact nar_b | exact Or.inl rfl | exact Or.inr rfl | exact zin_t (by omega) (by omega) | exact Nat.le_of_ble_eq_true rfl | (rw [nI_cl (by omega)]; assumption) | omega) only [↓reduceIte, reduceCtorEq, not_true_eq_false, not_false_eq_true, q41_0, q41_1, q41_4, q41_5, q41_6, q41_9, q41_12, q41_13, q41_16, q41_17, q41_20, q41_21, q41_22, q41_23, q41_26, q41_29, q41_30, q41_31, q41_34, q41_35, q41_36i, q41_36a, q41_37, q41_40, q41_41, q41_42, q41_45, q41_46, q41_48, q41_49, q41_52, q41_53, q41_54, q41_57, kl_int, kl_ref, kl_tok, cS_nil, cS_int, cS_ref, cS_long, tl_some, tl_none, List.cons_append, List.nil_append, nI_add, nI_ltb, nI_leb, nI_eqb, nI_cl, zin_nI, k6, h64, hf, zk0_inl]
    have k6' : M1 92 6 = nI 0 := by rw [← hM1, up2_s (by decide)]; exact k6
    have hP1 : PCx M1 b n (sk b n i + 1) := by rw [← hM1]; exact hP0.u7
    have hC1 : PSC M1 j (rD P, fI P, fN P, tL P ||| 64, gR P, cA P, cB P, cC P) := by rw [← hM1]; exact hC0.tl hj
    have f1 : LnF j M M1 := f0.trans (by rw [← hM1]; exact fun c a _ _ => up2_ne a)
    have hF1 : FO M1 := by rw [← hM1]; exact hF0.fr (fun c h => up2_ne (by omega))
    have hnil : cA P = [] := hE.1.1 c
    have hcl : ClR M1 94 [] := by have := hC1.2.2.2.2.2.1; rw [← hnil]; exact this
    obtain ⟨r1, r2⟩ := readAny_ (b := b) (n := n) ha hS (d + 21) M1 (sk b n i + 1) [] (by omega) hP1 hF1 hcl (by simp)
    simp only [Bool.false_eq_true, if_false]
    unfold mp
    cases hp : pAny (pOne b n 4) b n (sk b n i + 1) with
    | inl f =>
      obtain ⟨k, p⟩ := f
      obtain ⟨M2, g1, g2⟩ := r2 k p hp
      refine ⟨fun P' i' h => (by cases h), fun k' p' h => ?_⟩
      cases h
      refine ⟨M2, ?_, LnE.after f1 (g2.ln ha)⟩
      simp (disch := first | assumption | exact nar_b0 | exact nar_b1 | exact nar_b | exact Or.inl rfl | exact Or.inr rfl | exact zin_t (by omega) (by omega) | exact Nat.le_of_ble_eq_true rfl | (rw [nI_cl (by omega)]; assumption) | omega) only [↓reduceIte, reduceCtorEq, not_true_eq_false, not_false_eq_true, q32_0, q32_1, q32_4, q32_5, q32_6, q32_8, q32_11, q32_14, q32_15, q32_16, q32_17, q32_20, q32_21, q32_22, q32_24, q32_27, q32_30, q32_31, q32_32, q32_33, q32_36, q32_37, q32_38, q32_40, q32_43, q32_46, q32_47, q32_48, q32_49, q32_52, q32_55, q32_56, q32_57, q32_60, q32_63, q32_64, q32_67, q32_68, q32_69, q32_70, q32_72, q32_75, q32_78, q32_79, q32_80, q32_81, q32_84, q32_87, q32_88, q32_89, q32_92, q32_95, q32_96, q32_99, q32_100, q32_101, q32_102, q32_104, q32_107, q32_110, q32_111, q32_112, q32_113, q32_116, q32_119, q32_120, q32_121, q32_124, q32_127, q32_128, q32_131, q32_132, q32_133, q32_134, q32_136, q32_139, q32_142, q32_143, q32_144, q32_147, q32_148, q32_150, q32_151, q32_154, q32_155, q32_156, q32_158, q32_161, q32_164, q32_165, q32_168, q32_171, q32_172, q32_173, q32_176, q32_179, q32_180, q32_183, q32_186, q32_187, q32_190, q32_191, q32_194, q32_197, q32_198, q32_201, q32_202, q32_203, q32_204, q32_206, q32_209, q32_212, q32_213, q32_215, q32_216, q32_219, q32_222, q32_223, q32_224, q32_227, q32_228, q32_231, q32_234, q32_235, q32_238, q32_239, q32_240, q32_241, q32_243, q32_246, q32_249, q32_250, q32_252, q32_253, q32_256, q32_259, q32_260, q32_263, q32_266, q32_267, q32_270, q32_271, q32_272, q32_273, q32_274, q32_275, q32_278, kl_int, kl_ref, kl_tok, cS_nil, cS_int, cS_ref, cS_long, tl_some, tl_none, List.cons_append, List.nil_append, nI_add, nI_ltb, nI_leb, nI_eqb, nI_cl, zin_nI, hr, k6', g1, zk0_inl, z1]
    | inr w2 =>
      obtain ⟨st, i1⟩ := w2
      obtain ⟨p1, p2, p3, M2, g1, g2, g3, g4⟩ := r1 st i1 hp
      rw [List.nil_append] at g3
      refine ⟨fun P' i' h => ?_, fun k p h => (by cases h)⟩
      cases h
      refine ⟨by omega, p2, hW.tl rfl rfl rfl (Nat.or_lt_two_pow (n := 8) ht (by decide)) hW.2.2.2.2.2.2, ?_, M2, ?_, g2, ?_, f1.trans (g4.ln ha)⟩
      · obtain ⟨q1, q2, q3⟩ := hE
        have tt : tL (caP P 0 st) = tL P ||| 2 ^ 6 := rfl
        unfold PE
        rw [tt, tb_or, tb_or, tb_or, decide_eq_true (by decide), decide_eq_false (by decide), decide_eq_false (by decide), Bool.or_true, Bool.or_false, Bool.or_false]
        exact ⟨⟨fun h => (by cases h), fun _ => ⟨_, i1, by omega, hp⟩⟩, q2, q3⟩
      · simp (disch := first | assumption | exact nar_b0 | exact nar_b1 | exact nar_b | exact Or.inl rfl | exact Or.inr rfl | exact zin_t (by omega) (by omega) | exact Nat.le_of_ble_eq_true rfl | (rw [nI_cl (by omega)]; assumption) | omega) only [↓reduceIte, reduceCtorEq, not_true_eq_false, not_false_eq_true, q32_0, q32_1, q32_4, q32_5, q32_6, q32_8, q32_11, q32_14, q32_15, q32_16, q32_17, q32_20, q32_21, q32_22, q32_24, q32_27, q32_30, q32_31, q32_32, q32_33, q32_36, q32_37, q32_38, q32_40, q32_43, q32_46, q32_47, q32_48, q32_49, q32_52, q32_55, q32_56, q32_57, q32_60, q32_63, q32_64, q32_67, q32_68, q32_69, q32_70, q32_72, q32_75, q32_78, q32_79, q32_80, q32_81, q32_84, q32_87, q32_88, q32_89, q32_92, q32_95, q32_96, q32_99, q32_100, q32_101, q32_102, q32_104, q32_107, q32_110, q32_111, q32_112, q32_113, q32_116, q32_119, q32_120, q32_121, q32_124, q32_127, q32_128, q32_131, q32_132, q32_133, q32_134, q32_136, q32_139, q32_142, q32_143, q32_144, q32_147, q32_148, q32_150, q32_151, q32_154, q32_155, q32_156, q32_158, q32_161, q32_164, q32_165, q32_168, q32_171, q32_172, q32_173, q32_176, q32_179, q32_180, q32_183, q32_186, q32_187, q32_190, q32_191, q32_194, q32_197, q32_198, q32_201, q32_202, q32_203, q32_204, q32_206, q32_209, q32_212, q32_213, q32_215, q32_216, q32_219, q32_222, q32_223, q32_224, q32_227, q32_228, q32_231, q32_234, q32_235, q32_238, q32_239, q32_240, q32_241, q32_243, q32_246, q32_249, q32_250, q32_252, q32_253, q32_256, q32_259, q32_260, q32_263, q32_266, q32_267, q32_270, q32_271, q32_272, q32_273, q32_274, q32_275, q32_278, kl_int, kl_ref, kl_tok, cS_nil, cS_int, cS_ref, cS_long, tl_some, tl_none, List.cons_append, List.nil_append, nI_add, nI_ltb, nI_leb, nI_eqb, nI_cl, zin_nI, hr, k6', g1, zk0_inl, z1]
      · exact PSC.clA hC1 hj (fun c c1 c2 => g4.1 c c1 (by omega)) (g4.2 _ (by decide) (by decide)) (g4.2 _ (by decide) (by decide)) g3
  · obtain ⟨M1, hf, hc⟩ := isFirst_f (d := d + 19) (M := M0) (R := R) (t := tL P) (k := 6) (p := sk b n i) hS h7 ht (by decide) c
    rw [e2] at hf
    have hr : cal (d + 21) 41 [.ref 92] M R = some (.inl (some (.int (nI 0))), M1, R) := by
      rw [h45]
      simp (disch := first | assumption | exact nar_b0 | exact nar_b1 | exact nar_b | exact Or.inl rfl | exact Or.inr rfl | exact zin_t (by omega) (by omega) | exact Nat.le_of_ble_eq_true rfl | (rw [nI_cl (by omega)]; assumption) | omega) only [↓reduceIte, reduceCtorEq, not_true_eq_false, not_false_eq_true, q41_0, q41_1, q41_4, q41_5, q41_6, q41_9, q41_12, q41_13, q41_16, q41_17, q41_20, q41_21, q41_22, q41_23, q41_26, q41_29, q41_30, q41_31, q41_34, q41_35, q41_36i, q41_36a, q41_37, q41_40, q41_41, q41_42, q41_45, q41_46, q41_48, q41_49, q41_52, q41_53, q41_54, q41_57, kl_int, kl_ref, kl_tok, cS_nil, cS_int, cS_ref, cS_long, tl_some, tl_none, List.cons_append, List.nil_append, nI_add, nI_ltb, nI_leb, nI_eqb, nI_cl, zin_nI, k6, h64, hf, zk0_inl]
    refine ⟨fun P' i' h => (by cases h), fun k' p' h => ?_⟩
    cases h
    refine ⟨M1, ?_, LnE.after f0 hc.ln⟩
    simp (disch := first | assumption | exact nar_b0 | exact nar_b1 | exact nar_b | exact Or.inl rfl | exact Or.inr rfl | exact zin_t (by omega) (by omega) | exact Nat.le_of_ble_eq_true rfl | (rw [nI_cl (by omega)]; assumption) | omega) only [↓reduceIte, reduceCtorEq, not_true_eq_false, not_false_eq_true, q32_0, q32_1, q32_4, q32_5, q32_6, q32_8, q32_11, q32_14, q32_15, q32_16, q32_17, q32_20, q32_21, q32_22, q32_24, q32_27, q32_30, q32_31, q32_32, q32_33, q32_36, q32_37, q32_38, q32_40, q32_43, q32_46, q32_47, q32_48, q32_49, q32_52, q32_55, q32_56, q32_57, q32_60, q32_63, q32_64, q32_67, q32_68, q32_69, q32_70, q32_72, q32_75, q32_78, q32_79, q32_80, q32_81, q32_84, q32_87, q32_88, q32_89, q32_92, q32_95, q32_96, q32_99, q32_100, q32_101, q32_102, q32_104, q32_107, q32_110, q32_111, q32_112, q32_113, q32_116, q32_119, q32_120, q32_121, q32_124, q32_127, q32_128, q32_131, q32_132, q32_133, q32_134, q32_136, q32_139, q32_142, q32_143, q32_144, q32_147, q32_148, q32_150, q32_151, q32_154, q32_155, q32_156, q32_158, q32_161, q32_164, q32_165, q32_168, q32_171, q32_172, q32_173, q32_176, q32_179, q32_180, q32_183, q32_186, q32_187, q32_190, q32_191, q32_194, q32_197, q32_198, q32_201, q32_202, q32_203, q32_204, q32_206, q32_209, q32_212, q32_213, q32_215, q32_216, q32_219, q32_222, q32_223, q32_224, q32_227, q32_228, q32_231, q32_234, q32_235, q32_238, q32_239, q32_240, q32_241, q32_243, q32_246, q32_249, q32_250, q32_252, q32_253, q32_256, q32_259, q32_260, q32_263, q32_266, q32_267, q32_270, q32_271, q32_272, q32_273, q32_274, q32_275, q32_278, kl_int, kl_ref, kl_tok, cS_nil, cS_int, cS_ref, cS_long, tl_some, tl_none, List.cons_append, List.nil_append, nI_add, nI_ltb, nI_leb, nI_eqb, nI_cl, zin_nI, hr, zk0_inl]
theorem lnCause1_ {w : Nat} (hS : Sh R) (hF : FO M) (hj : j < 10) (hP : PCx M b n i) (hC : PSC M j P) (hW : PW P) (hE : PE b n P) (hs : sdI b n (sk b n i) = nI 1) (hlt : sk b n i < n) : LnQ R b n j (exe (d + 22) 32 164 [.ref 92, .ref (tb j), .int (nI w)] [] M R) M i (onc P 7 (sk b n i) (mp (pAny (pOne b n 4) b n (sk b n i + 1)) (caP P 1))) := by
  obtain ⟨nN, k92, k93, l93, k94, k95, l95, k96, l96, k97, l97, k98, k99, l99, k100, l100, k101, l101, k102, k103, l103, k104, l104, k105, l105, f92_0, f92_1, f94_0, f94_1, f94_2, f92_2, f98_0, f98_1, f98_2, f92_3, f102_0, f102_1, f102_2⟩ := parF hS
  have htj := tb_lt hj
  have hn := hP.2.2.1
  have hge := sk_ge b n i
  have ht := hW.2.2.2.2.2.1
  have z1 : ¬ 1 = 0 := by decide
  have e2 : (2 : Nat) ^ 7 = 128 := by decide
  have ha : isCl 98 := by exact Or.inr (Or.inl rfl)
  have h45 := sideC_s (e := d + 21) (by omega) (by decide) hS hP hlt hs
  generalize hM0 : siM M 1 (sk b n i) = M0 at h45
  have h7 : M0 92 7 = nI (tL P) := by rw [← hM0, siM_s (by decide) (by decide)]; exact hC.2.2.2.2.1.1
  have k6 : M0 92 6 = nI 1 := by rw [← hM0]; unfold siM; rw [atM_s (by decide), up2_at]
  have f0 : LnF j M M0 := by rw [← hM0]; exact fun c a _ _ => siM_c a
  have hC0 : PSC M0 j P := by rw [← hM0]; exact hC.fr hj (fun c h1 h2 => siM_c (by omega)) (siM_s (by decide) (by decide)) (siM_s (by decide) (by decide)) (fun c h1 h2 => siM_c (by omega))
  have hF0 : FO M0 := by rw [← hM0]; exact hF.fr (fun c h => siM_c (by omega))
  have hP0 : PCx M0 b n (sk b n i + 1) := by
    rw [← hM0]
    unfold siM
    exact PCx.mv (i := sk b n i) ((hP.mv (j := sk b n i) (by omega)).fr (up2_s (by decide)) (up2_s (by decide)) (up2_s (by decide)) (up2_ne (by decide))) (by omega)
  have h64 := nI64 (s := 1) (by decide)
  have e3 : (2 : Nat) ^ (6 + 1) = 128 := by decide
  rw [e3] at h64
  unfold onc
  cases c : (tL P).testBit 7
  · have hf := isFirst_t (d := d + 19) (M := M0) (R := R) (t := tL P) (k := 7) (p := nI (sk b n i)) hS h7 ht (by decide) c
    rw [e2] at hf
    generalize hM1 : up2 M0 92 7 (nI (tL P ||| 128)) = M1 at hf
    have hr : cal (d + 21) 41 [.ref 92] M R = some (.inl (some (.int (nI 1))), M1, R) := by
      rw [h45]
      simp (disch := first | assumption | exact nar_b0 | exact nar_b1 | exact nar_b | exact Or.inl rfl | exact Or.inr rfl | exact zin_t (by omega) (by omega) | exact Nat.le_of_ble_eq_true rfl | (rw [nI_cl (by omega)]; assumption) | omega) only [↓reduceIte, reduceCtorEq, not_true_eq_false, not_false_eq_true, q41_0, q41_1, q41_4, q41_5, q41_6, q41_9, q41_12, q41_13, q41_16, q41_17, q41_20, q41_21, q41_22, q41_23, q41_26, q41_29, q41_30, q41_31, q41_34, q41_35, q41_36i, q41_36a, q41_37, q41_40, q41_41, q41_42, q41_45, q41_46, q41_48, q41_49, q41_52, q41_53, q41_54, q41_57, kl_int, kl_ref, kl_tok, cS_nil, cS_int, cS_ref, cS_long, tl_some, tl_none, List.cons_append, List.nil_append, nI_add, nI_ltb, nI_leb, nI_eqb, nI_cl, zin_nI, k6, h64, hf, zk0_inl]
    have k6' : M1 92 6 = nI 1 := by rw [← hM1, up2_s (by decide)]; exact k6
    have hP1 : PCx M1 b n (sk b n i + 1) := by rw [← hM1]; exact hP0.u7
    have hC1 : PSC M1 j (rD P, fI P, fN P, tL P ||| 128, gR P, cA P, cB P, cC P) := by rw [← hM1]; exact hC0.tl hj
    have f1 : LnF j M M1 := f0.trans (by rw [← hM1]; exact fun c a _ _ => up2_ne a)
    have hF1 : FO M1 := by rw [← hM1]; exact hF0.fr (fun c h => up2_ne (by omega))
    have hnil : cB P = [] := hE.2.1.1 c
    have hcl : ClR M1 98 [] := by have := hC1.2.2.2.2.2.2.1; rw [← hnil]; exact this
    obtain ⟨r1, r2⟩ := readAny_ (b := b) (n := n) ha hS (d + 21) M1 (sk b n i + 1) [] (by omega) hP1 hF1 hcl (by simp)
    simp only [Bool.false_eq_true, if_false]
    unfold mp
    cases hp : pAny (pOne b n 4) b n (sk b n i + 1) with
    | inl f =>
      obtain ⟨k, p⟩ := f
      obtain ⟨M2, g1, g2⟩ := r2 k p hp
      refine ⟨fun P' i' h => (by cases h), fun k' p' h => ?_⟩
      cases h
      refine ⟨M2, ?_, LnE.after f1 (g2.ln ha)⟩
      simp (disch := first | assumption | exact nar_b0 | exact nar_b1 | exact nar_b | exact Or.inl rfl | exact Or.inr rfl | exact zin_t (by omega) (by omega) | exact Nat.le_of_ble_eq_true rfl | (rw [nI_cl (by omega)]; assumption) | omega) only [↓reduceIte, reduceCtorEq, not_true_eq_false, not_false_eq_true, q32_0, q32_1, q32_4, q32_5, q32_6, q32_8, q32_11, q32_14, q32_15, q32_16, q32_17, q32_20, q32_21, q32_22, q32_24, q32_27, q32_30, q32_31, q32_32, q32_33, q32_36, q32_37, q32_38, q32_40, q32_43, q32_46, q32_47, q32_48, q32_49, q32_52, q32_55, q32_56, q32_57, q32_60, q32_63, q32_64, q32_67, q32_68, q32_69, q32_70, q32_72, q32_75, q32_78, q32_79, q32_80, q32_81, q32_84, q32_87, q32_88, q32_89, q32_92, q32_95, q32_96, q32_99, q32_100, q32_101, q32_102, q32_104, q32_107, q32_110, q32_111, q32_112, q32_113, q32_116, q32_119, q32_120, q32_121, q32_124, q32_127, q32_128, q32_131, q32_132, q32_133, q32_134, q32_136, q32_139, q32_142, q32_143, q32_144, q32_147, q32_148, q32_150, q32_151, q32_154, q32_155, q32_156, q32_158, q32_161, q32_164, q32_165, q32_168, q32_171, q32_172, q32_173, q32_176, q32_179, q32_180, q32_183, q32_186, q32_187, q32_190, q32_191, q32_194, q32_197, q32_198, q32_201, q32_202, q32_203, q32_204, q32_206, q32_209, q32_212, q32_213, q32_215, q32_216, q32_219, q32_222, q32_223, q32_224, q32_227, q32_228, q32_231, q32_234, q32_235, q32_238, q32_239, q32_240, q32_241, q32_243, q32_246, q32_249, q32_250, q32_252, q32_253, q32_256, q32_259, q32_260, q32_263, q32_266, q32_267, q32_270, q32_271, q32_272, q32_273, q32_274, q32_275, q32_278, kl_int, kl_ref, kl_tok, cS_nil, cS_int, cS_ref, cS_long, tl_some, tl_none, List.cons_append, List.nil_append, nI_add, nI_ltb, nI_leb, nI_eqb, nI_cl, zin_nI, hr, k6', g1, zk0_inl, z1]
    | inr w2 =>
      obtain ⟨st, i1⟩ := w2
      obtain ⟨p1, p2, p3, M2, g1, g2, g3, g4⟩ := r1 st i1 hp
      rw [List.nil_append] at g3
      refine ⟨fun P' i' h => ?_, fun k p h => (by cases h)⟩
      cases h
      refine ⟨by omega, p2, hW.tl rfl rfl rfl (Nat.or_lt_two_pow (n := 8) ht (by decide)) hW.2.2.2.2.2.2, ?_, M2, ?_, g2, ?_, f1.trans (g4.ln ha)⟩
      · obtain ⟨q1, q2, q3⟩ := hE
        have tt : tL (caP P 1 st) = tL P ||| 2 ^ 7 := rfl
        unfold PE
        rw [tt, tb_or, tb_or, tb_or, decide_eq_false (by decide), decide_eq_true (by decide), decide_eq_false (by decide), Bool.or_false, Bool.or_true, Bool.or_false]
        exact ⟨q1, ⟨fun h => (by cases h), fun _ => ⟨_, i1, by omega, hp⟩⟩, q3⟩
      · simp (disch := first | assumption | exact nar_b0 | exact nar_b1 | exact nar_b | exact Or.inl rfl | exact Or.inr rfl | exact zin_t (by omega) (by omega) | exact Nat.le_of_ble_eq_true rfl | (rw [nI_cl (by omega)]; assumption) | omega) only [↓reduceIte, reduceCtorEq, not_true_eq_false, not_false_eq_true, q32_0, q32_1, q32_4, q32_5, q32_6, q32_8, q32_11, q32_14, q32_15, q32_16, q32_17, q32_20, q32_21, q32_22, q32_24, q32_27, q32_30, q32_31, q32_32, q32_33, q32_36, q32_37, q32_38, q32_40, q32_43, q32_46, q32_47, q32_48, q32_49, q32_52, q32_55, q32_56, q32_57, q32_60, q32_63, q32_64, q32_67, q32_68, q32_69, q32_70, q32_72, q32_75, q32_78, q32_79, q32_80, q32_81, q32_84, q32_87, q32_88, q32_89, q32_92, q32_95, q32_96, q32_99, q32_100, q32_101, q32_102, q32_104, q32_107, q32_110, q32_111, q32_112, q32_113, q32_116, q32_119, q32_120, q32_121, q32_124, q32_127, q32_128, q32_131, q32_132, q32_133, q32_134, q32_136, q32_139, q32_142, q32_143, q32_144, q32_147, q32_148, q32_150, q32_151, q32_154, q32_155, q32_156, q32_158, q32_161, q32_164, q32_165, q32_168, q32_171, q32_172, q32_173, q32_176, q32_179, q32_180, q32_183, q32_186, q32_187, q32_190, q32_191, q32_194, q32_197, q32_198, q32_201, q32_202, q32_203, q32_204, q32_206, q32_209, q32_212, q32_213, q32_215, q32_216, q32_219, q32_222, q32_223, q32_224, q32_227, q32_228, q32_231, q32_234, q32_235, q32_238, q32_239, q32_240, q32_241, q32_243, q32_246, q32_249, q32_250, q32_252, q32_253, q32_256, q32_259, q32_260, q32_263, q32_266, q32_267, q32_270, q32_271, q32_272, q32_273, q32_274, q32_275, q32_278, kl_int, kl_ref, kl_tok, cS_nil, cS_int, cS_ref, cS_long, tl_some, tl_none, List.cons_append, List.nil_append, nI_add, nI_ltb, nI_leb, nI_eqb, nI_cl, zin_nI, hr, k6', g1, zk0_inl, z1]
      · exact PSC.clB hC1 hj (fun c c1 c2 => g4.1 c c1 (by omega)) (g4.2 _ (by decide) (by decide)) (g4.2 _ (by decide) (by decide)) g3
  · obtain ⟨M1, hf, hc⟩ := isFirst_f (d := d + 19) (M := M0) (R := R) (t := tL P) (k := 7) (p := sk b n i) hS h7 ht (by decide) c
    rw [e2] at hf
    have hr : cal (d + 21) 41 [.ref 92] M R = some (.inl (some (.int (nI 0))), M1, R) := by
      rw [h45]
      simp (disch := first | assumption | exact nar_b0 | exact nar_b1 | exact nar_b | exact Or.inl rfl | exact Or.inr rfl | exact zin_t (by omega) (by omega) | exact Nat.le_of_ble_eq_true rfl | (rw [nI_cl (by omega)]; assumption) | omega) only [↓reduceIte, reduceCtorEq, not_true_eq_false, not_false_eq_true, q41_0, q41_1, q41_4, q41_5, q41_6, q41_9, q41_12, q41_13, q41_16, q41_17, q41_20, q41_21, q41_22, q41_23, q41_26, q41_29, q41_30, q41_31, q41_34, q41_35, q41_36i, q41_36a, q41_37, q41_40, q41_41, q41_42, q41_45, q41_46, q41_48, q41_49, q41_52, q41_53, q41_54, q41_57, kl_int, kl_ref, kl_tok, cS_nil, cS_int, cS_ref, cS_long, tl_some, tl_none, List.cons_append, List.nil_append, nI_add, nI_ltb, nI_leb, nI_eqb, nI_cl, zin_nI, k6, h64, hf, zk0_inl]
    refine ⟨fun P' i' h => (by cases h), fun k' p' h => ?_⟩
    cases h
    refine ⟨M1, ?_, LnE.after f0 hc.ln⟩
    simp (disch := first | assumption | exact nar_b0 | exact nar_b1 | exact nar_b | exact Or.inl rfl | exact Or.inr rfl | exact zin_t (by omega) (by omega) | exact Nat.le_of_ble_eq_true rfl | (rw [nI_cl (by omega)]; assumption) | omega) only [↓reduceIte, reduceCtorEq, not_true_eq_false, not_false_eq_true, q32_0, q32_1, q32_4, q32_5, q32_6, q32_8, q32_11, q32_14, q32_15, q32_16, q32_17, q32_20, q32_21, q32_22, q32_24, q32_27, q32_30, q32_31, q32_32, q32_33, q32_36, q32_37, q32_38, q32_40, q32_43, q32_46, q32_47, q32_48, q32_49, q32_52, q32_55, q32_56, q32_57, q32_60, q32_63, q32_64, q32_67, q32_68, q32_69, q32_70, q32_72, q32_75, q32_78, q32_79, q32_80, q32_81, q32_84, q32_87, q32_88, q32_89, q32_92, q32_95, q32_96, q32_99, q32_100, q32_101, q32_102, q32_104, q32_107, q32_110, q32_111, q32_112, q32_113, q32_116, q32_119, q32_120, q32_121, q32_124, q32_127, q32_128, q32_131, q32_132, q32_133, q32_134, q32_136, q32_139, q32_142, q32_143, q32_144, q32_147, q32_148, q32_150, q32_151, q32_154, q32_155, q32_156, q32_158, q32_161, q32_164, q32_165, q32_168, q32_171, q32_172, q32_173, q32_176, q32_179, q32_180, q32_183, q32_186, q32_187, q32_190, q32_191, q32_194, q32_197, q32_198, q32_201, q32_202, q32_203, q32_204, q32_206, q32_209, q32_212, q32_213, q32_215, q32_216, q32_219, q32_222, q32_223, q32_224, q32_227, q32_228, q32_231, q32_234, q32_235, q32_238, q32_239, q32_240, q32_241, q32_243, q32_246, q32_249, q32_250, q32_252, q32_253, q32_256, q32_259, q32_260, q32_263, q32_266, q32_267, q32_270, q32_271, q32_272, q32_273, q32_274, q32_275, q32_278, kl_int, kl_ref, kl_tok, cS_nil, cS_int, cS_ref, cS_long, tl_some, tl_none, List.cons_append, List.nil_append, nI_add, nI_ltb, nI_leb, nI_eqb, nI_cl, zin_nI, hr, zk0_inl]
theorem rl_0 {e : Nat} (he : 5 ≤ e) (hS : Sh R) (hF : FO M) (hP : PCx M b n i) (hi : sk b n i = i)  (c0 : wm b n i 0 = true) : cal e 32 [.ref 92, .ref (tb j)] M R = exe e 32 14 [.ref 92, .ref (tb j), .int (nI i)] [] (atM M (i + 5)) R := by
  obtain ⟨d, rfl⟩ : ∃ d, e = d + 5 := ⟨e - 5, by omega⟩
  obtain ⟨nN, k92, k93, l93, k94, k95, l95, k96, l96, k97, l97, k98, k99, l99, k100, l100, k101, l101, k102, k103, l103, k104, l104, k105, l105, f92_0, f92_1, f94_0, f94_1, f94_2, f92_2, f98_0, f98_1, f98_2, f92_3, f102_0, f102_1, f102_2⟩ := parF hS
  have h5 := hP.2.1
  have wj : ∀ (a j : Nat), a = 1000001 + j → j < 17 → cal (d + 4) 52 [.ref 92, .ref a] M R = some (.inl (some (.int (b2i (wm b n i j)))), atM M (if wm b n i j then i + wln j else i), R) := by
    intro a j ha hj
    have := takeWord_ (d := d) (R := R) (a := a) (j := j) ha hj hS hF hP
    rw [hi] at this
    exact this
  have w0 := wj 1000001 0 rfl (by decide)
  rw [c0] at w0
  have l0 : wln 0 = 5 := rfl
  simp only [if_true, l0] at w0
  rw [e32]
  simp (disch := first | assumption | exact nar_b0 | exact nar_b1 | exact nar_b | exact Or.inl rfl | exact Or.inr rfl | exact zin_t (by omega) (by omega) | exact Nat.le_of_ble_eq_true rfl | (rw [nI_cl (by omega)]; assumption) | omega) only [↓reduceIte, reduceCtorEq, not_true_eq_false, not_false_eq_true, q32_0, q32_1, q32_4, q32_5, q32_6, q32_8, q32_11, q32_15, q32_16, q32_17, q32_20, q32_21, q32_22, q32_24, q32_27, q32_30, q32_31, q32_32, q32_33, q32_36, q32_37, q32_38, q32_40, q32_43, q32_46, q32_47, q32_48, q32_49, q32_52, q32_55, q32_56, q32_57, q32_60, q32_63, q32_64, q32_67, q32_68, q32_69, q32_70, q32_72, q32_75, q32_78, q32_79, q32_80, q32_81, q32_84, q32_87, q32_88, q32_89, q32_92, q32_95, q32_96, q32_99, q32_100, q32_101, q32_102, q32_104, q32_107, q32_110, q32_111, q32_112, q32_113, q32_116, q32_119, q32_120, q32_121, q32_124, q32_127, q32_128, q32_131, q32_132, q32_133, q32_134, q32_136, q32_139, q32_142, q32_143, q32_144, q32_147, q32_148, q32_150, q32_151, q32_154, q32_155, q32_156, q32_158, q32_161, q32_164, q32_165, q32_168, q32_171, q32_172, q32_173, q32_176, q32_179, q32_180, q32_183, q32_186, q32_187, q32_190, q32_191, q32_194, q32_197, q32_198, q32_201, q32_202, q32_203, q32_204, q32_206, q32_209, q32_212, q32_213, q32_215, q32_216, q32_219, q32_222, q32_223, q32_224, q32_227, q32_228, q32_231, q32_234, q32_235, q32_238, q32_239, q32_240, q32_241, q32_243, q32_246, q32_249, q32_250, q32_252, q32_253, q32_256, q32_259, q32_260, q32_263, q32_266, q32_267, q32_270, q32_271, q32_272, q32_273, q32_274, q32_275, q32_278, kl_int, kl_ref, kl_tok, cS_nil, cS_int, cS_ref, cS_long, tl_some, tl_none, List.cons_append, List.nil_append, nI_add, nI_ltb, nI_leb, nI_eqb, nI_cl, zin_nI, h5, zk0_inl, b2i_0, w0]
theorem rl_1 {e : Nat} (he : 5 ≤ e) (hS : Sh R) (hF : FO M) (hP : PCx M b n i) (hi : sk b n i = i) (c0 : wm b n i 0 = false) (c1 : wm b n i 1 = true) : cal e 32 [.ref 92, .ref (tb j)] M R = exe e 32 30 [.ref 92, .ref (tb j), .int (nI i)] [] (atM M (i + 5)) R := by
  obtain ⟨d, rfl⟩ : ∃ d, e = d + 5 := ⟨e - 5, by omega⟩
  obtain ⟨nN, k92, k93, l93, k94, k95, l95, k96, l96, k97, l97, k98, k99, l99, k100, l100, k101, l101, k102, k103, l103, k104, l104, k105, l105, f92_0, f92_1, f94_0, f94_1, f94_2, f92_2, f98_0, f98_1, f98_2, f92_3, f102_0, f102_1, f102_2⟩ := parF hS
  have h5 := hP.2.1
  have wj : ∀ (a j : Nat), a = 1000001 + j → j < 17 → cal (d + 4) 52 [.ref 92, .ref a] M R = some (.inl (some (.int (b2i (wm b n i j)))), atM M (if wm b n i j then i + wln j else i), R) := by
    intro a j ha hj
    have := takeWord_ (d := d) (R := R) (a := a) (j := j) ha hj hS hF hP
    rw [hi] at this
    exact this
  have w0 := wj 1000001 0 rfl (by decide)
  rw [c0] at w0
  simp only [Bool.false_eq_true, if_false, atM_self h5] at w0
  have w1 := wj 1000002 1 rfl (by decide)
  rw [c1] at w1
  have l1 : wln 1 = 5 := rfl
  simp only [if_true, l1] at w1
  rw [e32]
  simp (disch := first | assumption | exact nar_b0 | exact nar_b1 | exact nar_b | exact Or.inl rfl | exact Or.inr rfl | exact zin_t (by omega) (by omega) | exact Nat.le_of_ble_eq_true rfl | (rw [nI_cl (by omega)]; assumption) | omega) only [↓reduceIte, reduceCtorEq, not_true_eq_false, not_false_eq_true, q32_0, q32_1, q32_4, q32_5, q32_6, q32_8, q32_11, q32_14, q32_15, q32_16, q32_17, q32_20, q32_21, q32_22, q32_24, q32_27, q32_31, q32_32, q32_33, q32_36, q32_37, q32_38, q32_40, q32_43, q32_46, q32_47, q32_48, q32_49, q32_52, q32_55, q32_56, q32_57, q32_60, q32_63, q32_64, q32_67, q32_68, q32_69, q32_70, q32_72, q32_75, q32_78, q32_79, q32_80, q32_81, q32_84, q32_87, q32_88, q32_89, q32_92, q32_95, q32_96, q32_99, q32_100, q32_101, q32_102, q32_104, q32_107, q32_110, q32_111, q32_112, q32_113, q32_116, q32_119, q32_120, q32_121, q32_124, q32_127, q32_128, q32_131, q32_132, q32_133, q32_134, q32_136, q32_139, q32_142, q32_143, q32_144, q32_147, q32_148, q32_150, q32_151, q32_154, q32_155, q32_156, q32_158, q32_161, q32_164, q32_165, q32_168, q32_171, q32_172, q32_173, q32_176, q32_179, q32_180, q32_183, q32_186, q32_187, q32_190, q32_191, q32_194, q32_197, q32_198, q32_201, q32_202, q32_203, q32_204, q32_206, q32_209, q32_212, q32_213, q32_215, q32_216, q32_219, q32_222, q32_223, q32_224, q32_227, q32_228, q32_231, q32_234, q32_235, q32_238, q32_239, q32_240, q32_241, q32_243, q32_246, q32_249, q32_250, q32_252, q32_253, q32_256, q32_259, q32_260, q32_263, q32_266, q32_267, q32_270, q32_271, q32_272, q32_273, q32_274, q32_275, q32_278, kl_int, kl_ref, kl_tok, cS_nil, cS_int, cS_ref, cS_long, tl_some, tl_none, List.cons_append, List.nil_append, nI_add, nI_ltb, nI_leb, nI_eqb, nI_cl, zin_nI, h5, zk0_inl, b2i_0, w0, w1]
theorem rl_2 {e : Nat} (he : 5 ≤ e) (hS : Sh R) (hF : FO M) (hP : PCx M b n i) (hi : sk b n i = i) (c0 : wm b n i 0 = false) (c1 : wm b n i 1 = false) (c2 : wm b n i 2 = true) : cal e 32 [.ref 92, .ref (tb j)] M R = exe e 32 46 [.ref 92, .ref (tb j), .int (nI i)] [] (atM M (i + 5)) R := by
  obtain ⟨d, rfl⟩ : ∃ d, e = d + 5 := ⟨e - 5, by omega⟩
  obtain ⟨nN, k92, k93, l93, k94, k95, l95, k96, l96, k97, l97, k98, k99, l99, k100, l100, k101, l101, k102, k103, l103, k104, l104, k105, l105, f92_0, f92_1, f94_0, f94_1, f94_2, f92_2, f98_0, f98_1, f98_2, f92_3, f102_0, f102_1, f102_2⟩ := parF hS
  have h5 := hP.2.1
  have wj : ∀ (a j : Nat), a = 1000001 + j → j < 17 → cal (d + 4) 52 [.ref 92, .ref a] M R = some (.inl (some (.int (b2i (wm b n i j)))), atM M (if wm b n i j then i + wln j else i), R) := by
    intro a j ha hj
    have := takeWord_ (d := d) (R := R) (a := a) (j := j) ha hj hS hF hP
    rw [hi] at this
    exact this
  have w0 := wj 1000001 0 rfl (by decide)
  rw [c0] at w0
  simp only [Bool.false_eq_true, if_false, atM_self h5] at w0
  have w1 := wj 1000002 1 rfl (by decide)
  rw [c1] at w1
  simp only [Bool.false_eq_true, if_false, atM_self h5] at w1
  have w2 := wj 1000003 2 rfl (by decide)
  rw [c2] at w2
  have l2 : wln 2 = 5 := rfl
  simp only [if_true, l2] at w2
  rw [e32]
  simp (disch := first | assumption | exact nar_b0 | exact nar_b1 | exact nar_b | exact Or.inl rfl | exact Or.inr rfl | exact zin_t (by omega) (by omega) | exact Nat.le_of_ble_eq_true rfl | (rw [nI_cl (by omega)]; assumption) | omega) only [↓reduceIte, reduceCtorEq, not_true_eq_false, not_false_eq_true, q32_0, q32_1, q32_4, q32_5, q32_6, q32_8, q32_11, q32_14, q32_15, q32_16, q32_17, q32_20, q32_21, q32_22, q32_24, q32_27, q32_30, q32_31, q32_32, q32_33, q32_36, q32_37, q32_38, q32_40, q32_43, q32_47, q32_48, q32_49, q32_52, q32_55, q32_56, q32_57, q32_60, q32_63, q32_64, q32_67, q32_68, q32_69, q32_70, q32_72, q32_75, q32_78, q32_79, q32_80, q32_81, q32_84, q32_87, q32_88, q32_89, q32_92, q32_95, q32_96, q32_99, q32_100, q32_101, q32_102, q32_104, q32_107, q32_110, q32_111, q32_112, q32_113, q32_116, q32_119, q32_120, q32_121, q32_124, q32_127, q32_128, q32_131, q32_132, q32_133, q32_134, q32_136, q32_139, q32_142, q32_143, q32_144, q32_147, q32_148, q32_150, q32_151, q32_154, q32_155, q32_156, q32_158, q32_161, q32_164, q32_165, q32_168, q32_171, q32_172, q32_173, q32_176, q32_179, q32_180, q32_183, q32_186, q32_187, q32_190, q32_191, q32_194, q32_197, q32_198, q32_201, q32_202, q32_203, q32_204, q32_206, q32_209, q32_212, q32_213, q32_215, q32_216, q32_219, q32_222, q32_223, q32_224, q32_227, q32_228, q32_231, q32_234, q32_235, q32_238, q32_239, q32_240, q32_241, q32_243, q32_246, q32_249, q32_250, q32_252, q32_253, q32_256, q32_259, q32_260, q32_263, q32_266, q32_267, q32_270, q32_271, q32_272, q32_273, q32_274, q32_275, q32_278, kl_int, kl_ref, kl_tok, cS_nil, cS_int, cS_ref, cS_long, tl_some, tl_none, List.cons_append, List.nil_append, nI_add, nI_ltb, nI_leb, nI_eqb, nI_cl, zin_nI, h5, zk0_inl, b2i_0, w0, w1, w2]
theorem rl_3 {e : Nat} (he : 5 ≤ e) (hS : Sh R) (hF : FO M) (hP : PCx M b n i) (hi : sk b n i = i) (c0 : wm b n i 0 = false) (c1 : wm b n i 1 = false) (c2 : wm b n i 2 = false) (c3 : wm b n i 3 = true) : cal e 32 [.ref 92, .ref (tb j)] M R = exe e 32 78 [.ref 92, .ref (tb j), .int (nI i)] [] (atM M (i + 5)) R := by
  obtain ⟨d, rfl⟩ : ∃ d, e = d + 5 := ⟨e - 5, by omega⟩
  obtain ⟨nN, k92, k93, l93, k94, k95, l95, k96, l96, k97, l97, k98, k99, l99, k100, l100, k101, l101, k102, k103, l103, k104, l104, k105, l105, f92_0, f92_1, f94_0, f94_1, f94_2, f92_2, f98_0, f98_1, f98_2, f92_3, f102_0, f102_1, f102_2⟩ := parF hS
  have h5 := hP.2.1
  have wj : ∀ (a j : Nat), a = 1000001 + j → j < 17 → cal (d + 4) 52 [.ref 92, .ref a] M R = some (.inl (some (.int (b2i (wm b n i j)))), atM M (if wm b n i j then i + wln j else i), R) := by
    intro a j ha hj
    have := takeWord_ (d := d) (R := R) (a := a) (j := j) ha hj hS hF hP
    rw [hi] at this
    exact this
  have w0 := wj 1000001 0 rfl (by decide)
  rw [c0] at w0
  simp only [Bool.false_eq_true, if_false, atM_self h5] at w0
  have w1 := wj 1000002 1 rfl (by decide)
  rw [c1] at w1
  simp only [Bool.false_eq_true, if_false, atM_self h5] at w1
  have w2 := wj 1000003 2 rfl (by decide)
  rw [c2] at w2
  simp only [Bool.false_eq_true, if_false, atM_self h5] at w2
  have w3 := wj 1000004 3 rfl (by decide)
  rw [c3] at w3
  have l3 : wln 3 = 5 := rfl
  simp only [if_true, l3] at w3
  rw [e32]
  simp (disch := first | assumption | exact nar_b0 | exact nar_b1 | exact nar_b | exact Or.inl rfl | exact Or.inr rfl | exact zin_t (by omega) (by omega) | exact Nat.le_of_ble_eq_true rfl | (rw [nI_cl (by omega)]; assumption) | omega) only [↓reduceIte, reduceCtorEq, not_true_eq_false, not_false_eq_true, q32_0, q32_1, q32_4, q32_5, q32_6, q32_8, q32_11, q32_14, q32_15, q32_16, q32_17, q32_20, q32_21, q32_22, q32_24, q32_27, q32_30, q32_31, q32_32, q32_33, q32_36, q32_37, q32_38, q32_40, q32_43, q32_46, q32_47, q32_48, q32_49, q32_52, q32_55, q32_56, q32_57, q32_60, q32_63, q32_64, q32_67, q32_68, q32_69, q32_70, q32_72, q32_75, q32_79, q32_80, q32_81, q32_84, q32_87, q32_88, q32_89, q32_92, q32_95, q32_96, q32_99, q32_100, q32_101, q32_102, q32_104, q32_107, q32_110, q32_111, q32_112, q32_113, q32_116, q32_119, q32_120, q32_121, q32_124, q32_127, q32_128, q32_131, q32_132, q32_133, q32_134, q32_136, q32_139, q32_142, q32_143, q32_144, q32_147, q32_148, q32_150, q32_151, q32_154, q32_155, q32_156, q32_158, q32_161, q32_164, q32_165, q32_168, q32_171, q32_172, q32_173, q32_176, q32_179, q32_180, q32_183, q32_186, q32_187, q32_190, q32_191, q32_194, q32_197, q32_198, q32_201, q32_202, q32_203, q32_204, q32_206, q32_209, q32_212, q32_213, q32_215, q32_216, q32_219, q32_222, q32_223, q32_224, q32_227, q32_228, q32_231, q32_234, q32_235, q32_238, q32_239, q32_240, q32_241, q32_243, q32_246, q32_249, q32_250, q32_252, q32_253, q32_256, q32_259, q32_260, q32_263, q32_266, q32_267, q32_270, q32_271, q32_272, q32_273, q32_274, q32_275, q32_278, kl_int, kl_ref, kl_tok, cS_nil, cS_int, cS_ref, cS_long, tl_some, tl_none, List.cons_append, List.nil_append, nI_add, nI_ltb, nI_leb, nI_eqb, nI_cl, zin_nI, h5, zk0_inl, b2i_0, w0, w1, w2, w3]
theorem rl_4 {e : Nat} (he : 5 ≤ e) (hS : Sh R) (hF : FO M) (hP : PCx M b n i) (hi : sk b n i = i) (c0 : wm b n i 0 = false) (c1 : wm b n i 1 = false) (c2 : wm b n i 2 = false) (c3 : wm b n i 3 = false) (c4 : wm b n i 4 = true) : cal e 32 [.ref 92, .ref (tb j)] M R = exe e 32 110 [.ref 92, .ref (tb j), .int (nI i)] [] (atM M (i + 5)) R := by
  obtain ⟨d, rfl⟩ : ∃ d, e = d + 5 := ⟨e - 5, by omega⟩
  obtain ⟨nN, k92, k93, l93, k94, k95, l95, k96, l96, k97, l97, k98, k99, l99, k100, l100, k101, l101, k102, k103, l103, k104, l104, k105, l105, f92_0, f92_1, f94_0, f94_1, f94_2, f92_2, f98_0, f98_1, f98_2, f92_3, f102_0, f102_1, f102_2⟩ := parF hS
  have h5 := hP.2.1
  have wj : ∀ (a j : Nat), a = 1000001 + j → j < 17 → cal (d + 4) 52 [.ref 92, .ref a] M R = some (.inl (some (.int (b2i (wm b n i j)))), atM M (if wm b n i j then i + wln j else i), R) := by
    intro a j ha hj
    have := takeWord_ (d := d) (R := R) (a := a) (j := j) ha hj hS hF hP
    rw [hi] at this
    exact this
  have w0 := wj 1000001 0 rfl (by decide)
  rw [c0] at w0
  simp only [Bool.false_eq_true, if_false, atM_self h5] at w0
  have w1 := wj 1000002 1 rfl (by decide)
  rw [c1] at w1
  simp only [Bool.false_eq_true, if_false, atM_self h5] at w1
  have w2 := wj 1000003 2 rfl (by decide)
  rw [c2] at w2
  simp only [Bool.false_eq_true, if_false, atM_self h5] at w2
  have w3 := wj 1000004 3 rfl (by decide)
  rw [c3] at w3
  simp only [Bool.false_eq_true, if_false, atM_self h5] at w3
  have w4 := wj 1000005 4 rfl (by decide)
  rw [c4] at w4
  have l4 : wln 4 = 5 := rfl
  simp only [if_true, l4] at w4
  rw [e32]
  simp (disch := first | assumption | exact nar_b0 | exact nar_b1 | exact nar_b | exact Or.inl rfl | exact Or.inr rfl | exact zin_t (by omega) (by omega) | exact Nat.le_of_ble_eq_true rfl | (rw [nI_cl (by omega)]; assumption) | omega) only [↓reduceIte, reduceCtorEq, not_true_eq_false, not_false_eq_true, q32_0, q32_1, q32_4, q32_5, q32_6, q32_8, q32_11, q32_14, q32_15, q32_16, q32_17, q32_20, q32_21, q32_22, q32_24, q32_27, q32_30, q32_31, q32_32, q32_33, q32_36, q32_37, q32_38, q32_40, q32_43, q32_46, q32_47, q32_48, q32_49, q32_52, q32_55, q32_56, q32_57, q32_60, q32_63, q32_64, q32_67, q32_68, q32_69, q32_70, q32_72, q32_75, q32_78, q32_79, q32_80, q32_81, q32_84, q32_87, q32_88, q32_89, q32_92, q32_95, q32_96, q32_99, q32_100, q32_101, q32_102, q32_104, q32_107, q32_111, q32_112, q32_113, q32_116, q32_119, q32_120, q32_121, q32_124, q32_127, q32_128, q32_131, q32_132, q32_133, q32_134, q32_136, q32_139, q32_142, q32_143, q32_144, q32_147, q32_148, q32_150, q32_151, q32_154, q32_155, q32_156, q32_158, q32_161, q32_164, q32_165, q32_168, q32_171, q32_172, q32_173, q32_176, q32_179, q32_180, q32_183, q32_186, q32_187, q32_190, q32_191, q32_194, q32_197, q32_198, q32_201, q32_202, q32_203, q32_204, q32_206, q32_209, q32_212, q32_213, q32_215, q32_216, q32_219, q32_222, q32_223, q32_224, q32_227, q32_228, q32_231, q32_234, q32_235, q32_238, q32_239, q32_240, q32_241, q32_243, q32_246, q32_249, q32_250, q32_252, q32_253, q32_256, q32_259, q32_260, q32_263, q32_266, q32_267, q32_270, q32_271, q32_272, q32_273, q32_274, q32_275, q32_278, kl_int, kl_ref, kl_tok, cS_nil, cS_int, cS_ref, cS_long, tl_some, tl_none, List.cons_append, List.nil_append, nI_add, nI_ltb, nI_leb, nI_eqb, nI_cl, zin_nI, h5, zk0_inl, b2i_0, w0, w1, w2, w3, w4]
theorem rl_5 {e : Nat} (he : 5 ≤ e) (hS : Sh R) (hF : FO M) (hP : PCx M b n i) (hi : sk b n i = i) (c0 : wm b n i 0 = false) (c1 : wm b n i 1 = false) (c2 : wm b n i 2 = false) (c3 : wm b n i 3 = false) (c4 : wm b n i 4 = false) (c5 : wm b n i 5 = true) : cal e 32 [.ref 92, .ref (tb j)] M R = exe e 32 142 [.ref 92, .ref (tb j), .int (nI i)] [] (atM M (i + 3)) R := by
  obtain ⟨d, rfl⟩ : ∃ d, e = d + 5 := ⟨e - 5, by omega⟩
  obtain ⟨nN, k92, k93, l93, k94, k95, l95, k96, l96, k97, l97, k98, k99, l99, k100, l100, k101, l101, k102, k103, l103, k104, l104, k105, l105, f92_0, f92_1, f94_0, f94_1, f94_2, f92_2, f98_0, f98_1, f98_2, f92_3, f102_0, f102_1, f102_2⟩ := parF hS
  have h5 := hP.2.1
  have wj : ∀ (a j : Nat), a = 1000001 + j → j < 17 → cal (d + 4) 52 [.ref 92, .ref a] M R = some (.inl (some (.int (b2i (wm b n i j)))), atM M (if wm b n i j then i + wln j else i), R) := by
    intro a j ha hj
    have := takeWord_ (d := d) (R := R) (a := a) (j := j) ha hj hS hF hP
    rw [hi] at this
    exact this
  have w0 := wj 1000001 0 rfl (by decide)
  rw [c0] at w0
  simp only [Bool.false_eq_true, if_false, atM_self h5] at w0
  have w1 := wj 1000002 1 rfl (by decide)
  rw [c1] at w1
  simp only [Bool.false_eq_true, if_false, atM_self h5] at w1
  have w2 := wj 1000003 2 rfl (by decide)
  rw [c2] at w2
  simp only [Bool.false_eq_true, if_false, atM_self h5] at w2
  have w3 := wj 1000004 3 rfl (by decide)
  rw [c3] at w3
  simp only [Bool.false_eq_true, if_false, atM_self h5] at w3
  have w4 := wj 1000005 4 rfl (by decide)
  rw [c4] at w4
  simp only [Bool.false_eq_true, if_false, atM_self h5] at w4
  have w5 := wj 1000006 5 rfl (by decide)
  rw [c5] at w5
  have l5 : wln 5 = 3 := rfl
  simp only [if_true, l5] at w5
  rw [e32]
  simp (disch := first | assumption | exact nar_b0 | exact nar_b1 | exact nar_b | exact Or.inl rfl | exact Or.inr rfl | exact zin_t (by omega) (by omega) | exact Nat.le_of_ble_eq_true rfl | (rw [nI_cl (by omega)]; assumption) | omega) only [↓reduceIte, reduceCtorEq, not_true_eq_false, not_false_eq_true, q32_0, q32_1, q32_4, q32_5, q32_6, q32_8, q32_11, q32_14, q32_15, q32_16, q32_17, q32_20, q32_21, q32_22, q32_24, q32_27, q32_30, q32_31, q32_32, q32_33, q32_36, q32_37, q32_38, q32_40, q32_43, q32_46, q32_47, q32_48, q32_49, q32_52, q32_55, q32_56, q32_57, q32_60, q32_63, q32_64, q32_67, q32_68, q32_69, q32_70, q32_72, q32_75, q32_78, q32_79, q32_80, q32_81, q32_84, q32_87, q32_88, q32_89, q32_92, q32_95, q32_96, q32_99, q32_100, q32_101, q32_102, q32_104, q32_107, q32_110, q32_111, q32_112, q32_113, q32_116, q32_119, q32_120, q32_121, q32_124, q32_127, q32_128, q32_131, q32_132, q32_133, q32_134, q32_136, q32_139, q32_143, q32_144, q32_147, q32_148, q32_150, q32_151, q32_154, q32_155, q32_156, q32_158, q32_161, q32_164, q32_165, q32_168, q32_171, q32_172, q32_173, q32_176, q32_179, q32_180, q32_183, q32_186, q32_187, q32_190, q32_191, q32_194, q32_197, q32_198, q32_201, q32_202, q32_203, q32_204, q32_206, q32_209, q32_212, q32_213, q32_215, q32_216, q32_219, q32_222, q32_223, q32_224, q32_227, q32_228, q32_231, q32_234, q32_235, q32_238, q32_239, q32_240, q32_241, q32_243, q32_246, q32_249, q32_250, q32_252, q32_253, q32_256, q32_259, q32_260, q32_263, q32_266, q32_267, q32_270, q32_271, q32_272, q32_273, q32_274, q32_275, q32_278, kl_int, kl_ref, kl_tok, cS_nil, cS_int, cS_ref, cS_long, tl_some, tl_none, List.cons_append, List.nil_append, nI_add, nI_ltb, nI_leb, nI_eqb, nI_cl, zin_nI, h5, zk0_inl, b2i_0, w0, w1, w2, w3, w4, w5]
theorem rl_6 {e : Nat} (he : 5 ≤ e) (hS : Sh R) (hF : FO M) (hP : PCx M b n i) (hi : sk b n i = i) (c0 : wm b n i 0 = false) (c1 : wm b n i 1 = false) (c2 : wm b n i 2 = false) (c3 : wm b n i 3 = false) (c4 : wm b n i 4 = false) (c5 : wm b n i 5 = false) (c6 : wm b n i 6 = true) : cal e 32 [.ref 92, .ref (tb j)] M R = exe e 32 164 [.ref 92, .ref (tb j), .int (nI i)] [] (atM M (i + 5)) R := by
  obtain ⟨d, rfl⟩ : ∃ d, e = d + 5 := ⟨e - 5, by omega⟩
  obtain ⟨nN, k92, k93, l93, k94, k95, l95, k96, l96, k97, l97, k98, k99, l99, k100, l100, k101, l101, k102, k103, l103, k104, l104, k105, l105, f92_0, f92_1, f94_0, f94_1, f94_2, f92_2, f98_0, f98_1, f98_2, f92_3, f102_0, f102_1, f102_2⟩ := parF hS
  have h5 := hP.2.1
  have wj : ∀ (a j : Nat), a = 1000001 + j → j < 17 → cal (d + 4) 52 [.ref 92, .ref a] M R = some (.inl (some (.int (b2i (wm b n i j)))), atM M (if wm b n i j then i + wln j else i), R) := by
    intro a j ha hj
    have := takeWord_ (d := d) (R := R) (a := a) (j := j) ha hj hS hF hP
    rw [hi] at this
    exact this
  have w0 := wj 1000001 0 rfl (by decide)
  rw [c0] at w0
  simp only [Bool.false_eq_true, if_false, atM_self h5] at w0
  have w1 := wj 1000002 1 rfl (by decide)
  rw [c1] at w1
  simp only [Bool.false_eq_true, if_false, atM_self h5] at w1
  have w2 := wj 1000003 2 rfl (by decide)
  rw [c2] at w2
  simp only [Bool.false_eq_true, if_false, atM_self h5] at w2
  have w3 := wj 1000004 3 rfl (by decide)
  rw [c3] at w3
  simp only [Bool.false_eq_true, if_false, atM_self h5] at w3
  have w4 := wj 1000005 4 rfl (by decide)
  rw [c4] at w4
  simp only [Bool.false_eq_true, if_false, atM_self h5] at w4
  have w5 := wj 1000006 5 rfl (by decide)
  rw [c5] at w5
  simp only [Bool.false_eq_true, if_false, atM_self h5] at w5
  have w6 := wj 1000007 6 rfl (by decide)
  rw [c6] at w6
  have l6 : wln 6 = 5 := rfl
  simp only [if_true, l6] at w6
  rw [e32]
  simp (disch := first | assumption | exact nar_b0 | exact nar_b1 | exact nar_b | exact Or.inl rfl | exact Or.inr rfl | exact zin_t (by omega) (by omega) | exact Nat.le_of_ble_eq_true rfl | (rw [nI_cl (by omega)]; assumption) | omega) only [↓reduceIte, reduceCtorEq, not_true_eq_false, not_false_eq_true, q32_0, q32_1, q32_4, q32_5, q32_6, q32_8, q32_11, q32_14, q32_15, q32_16, q32_17, q32_20, q32_21, q32_22, q32_24, q32_27, q32_30, q32_31, q32_32, q32_33, q32_36, q32_37, q32_38, q32_40, q32_43, q32_46, q32_47, q32_48, q32_49, q32_52, q32_55, q32_56, q32_57, q32_60, q32_63, q32_64, q32_67, q32_68, q32_69, q32_70, q32_72, q32_75, q32_78, q32_79, q32_80, q32_81, q32_84, q32_87, q32_88, q32_89, q32_92, q32_95, q32_96, q32_99, q32_100, q32_101, q32_102, q32_104, q32_107, q32_110, q32_111, q32_112, q32_113, q32_116, q32_119, q32_120, q32_121, q32_124, q32_127, q32_128, q32_131, q32_132, q32_133, q32_134, q32_136, q32_139, q32_142, q32_143, q32_144, q32_147, q32_148, q32_150, q32_151, q32_154, q32_155, q32_156, q32_158, q32_161, q32_165, q32_168, q32_171, q32_172, q32_173, q32_176, q32_179, q32_180, q32_183, q32_186, q32_187, q32_190, q32_191, q32_194, q32_197, q32_198, q32_201, q32_202, q32_203, q32_204, q32_206, q32_209, q32_212, q32_213, q32_215, q32_216, q32_219, q32_222, q32_223, q32_224, q32_227, q32_228, q32_231, q32_234, q32_235, q32_238, q32_239, q32_240, q32_241, q32_243, q32_246, q32_249, q32_250, q32_252, q32_253, q32_256, q32_259, q32_260, q32_263, q32_266, q32_267, q32_270, q32_271, q32_272, q32_273, q32_274, q32_275, q32_278, kl_int, kl_ref, kl_tok, cS_nil, cS_int, cS_ref, cS_long, tl_some, tl_none, List.cons_append, List.nil_append, nI_add, nI_ltb, nI_leb, nI_eqb, nI_cl, zin_nI, h5, zk0_inl, b2i_0, w0, w1, w2, w3, w4, w5, w6]
theorem rl_7 {e : Nat} (he : 5 ≤ e) (hS : Sh R) (hF : FO M) (hP : PCx M b n i) (hi : sk b n i = i) (c0 : wm b n i 0 = false) (c1 : wm b n i 1 = false) (c2 : wm b n i 2 = false) (c3 : wm b n i 3 = false) (c4 : wm b n i 4 = false) (c5 : wm b n i 5 = false) (c6 : wm b n i 6 = false) (c7 : wm b n i 7 = true) : cal e 32 [.ref 92, .ref (tb j)] M R = exe e 32 212 [.ref 92, .ref (tb j), .int (nI i)] [] (atM M (i + 5)) R := by
  obtain ⟨d, rfl⟩ : ∃ d, e = d + 5 := ⟨e - 5, by omega⟩
  obtain ⟨nN, k92, k93, l93, k94, k95, l95, k96, l96, k97, l97, k98, k99, l99, k100, l100, k101, l101, k102, k103, l103, k104, l104, k105, l105, f92_0, f92_1, f94_0, f94_1, f94_2, f92_2, f98_0, f98_1, f98_2, f92_3, f102_0, f102_1, f102_2⟩ := parF hS
  have h5 := hP.2.1
  have wj : ∀ (a j : Nat), a = 1000001 + j → j < 17 → cal (d + 4) 52 [.ref 92, .ref a] M R = some (.inl (some (.int (b2i (wm b n i j)))), atM M (if wm b n i j then i + wln j else i), R) := by
    intro a j ha hj
    have := takeWord_ (d := d) (R := R) (a := a) (j := j) ha hj hS hF hP
    rw [hi] at this
    exact this
  have w0 := wj 1000001 0 rfl (by decide)
  rw [c0] at w0
  simp only [Bool.false_eq_true, if_false, atM_self h5] at w0
  have w1 := wj 1000002 1 rfl (by decide)
  rw [c1] at w1
  simp only [Bool.false_eq_true, if_false, atM_self h5] at w1
  have w2 := wj 1000003 2 rfl (by decide)
  rw [c2] at w2
  simp only [Bool.false_eq_true, if_false, atM_self h5] at w2
  have w3 := wj 1000004 3 rfl (by decide)
  rw [c3] at w3
  simp only [Bool.false_eq_true, if_false, atM_self h5] at w3
  have w4 := wj 1000005 4 rfl (by decide)
  rw [c4] at w4
  simp only [Bool.false_eq_true, if_false, atM_self h5] at w4
  have w5 := wj 1000006 5 rfl (by decide)
  rw [c5] at w5
  simp only [Bool.false_eq_true, if_false, atM_self h5] at w5
  have w6 := wj 1000007 6 rfl (by decide)
  rw [c6] at w6
  simp only [Bool.false_eq_true, if_false, atM_self h5] at w6
  have w7 := wj 1000008 7 rfl (by decide)
  rw [c7] at w7
  have l7 : wln 7 = 5 := rfl
  simp only [if_true, l7] at w7
  rw [e32]
  simp (disch := first | assumption | exact nar_b0 | exact nar_b1 | exact nar_b | exact Or.inl rfl | exact Or.inr rfl | exact zin_t (by omega) (by omega) | exact Nat.le_of_ble_eq_true rfl | (rw [nI_cl (by omega)]; assumption) | omega) only [↓reduceIte, reduceCtorEq, not_true_eq_false, not_false_eq_true, q32_0, q32_1, q32_4, q32_5, q32_6, q32_8, q32_11, q32_14, q32_15, q32_16, q32_17, q32_20, q32_21, q32_22, q32_24, q32_27, q32_30, q32_31, q32_32, q32_33, q32_36, q32_37, q32_38, q32_40, q32_43, q32_46, q32_47, q32_48, q32_49, q32_52, q32_55, q32_56, q32_57, q32_60, q32_63, q32_64, q32_67, q32_68, q32_69, q32_70, q32_72, q32_75, q32_78, q32_79, q32_80, q32_81, q32_84, q32_87, q32_88, q32_89, q32_92, q32_95, q32_96, q32_99, q32_100, q32_101, q32_102, q32_104, q32_107, q32_110, q32_111, q32_112, q32_113, q32_116, q32_119, q32_120, q32_121, q32_124, q32_127, q32_128, q32_131, q32_132, q32_133, q32_134, q32_136, q32_139, q32_142, q32_143, q32_144, q32_147, q32_148, q32_150, q32_151, q32_154, q32_155, q32_156, q32_158, q32_161, q32_164, q32_165, q32_168, q32_171, q32_172, q32_173, q32_176, q32_179, q32_180, q32_183, q32_186, q32_187, q32_190, q32_191, q32_194, q32_197, q32_198, q32_201, q32_202, q32_203, q32_204, q32_206, q32_209, q32_213, q32_215, q32_216, q32_219, q32_222, q32_223, q32_224, q32_227, q32_228, q32_231, q32_234, q32_235, q32_238, q32_239, q32_240, q32_241, q32_243, q32_246, q32_249, q32_250, q32_252, q32_253, q32_256, q32_259, q32_260, q32_263, q32_266, q32_267, q32_270, q32_271, q32_272, q32_273, q32_274, q32_275, q32_278, kl_int, kl_ref, kl_tok, cS_nil, cS_int, cS_ref, cS_long, tl_some, tl_none, List.cons_append, List.nil_append, nI_add, nI_ltb, nI_leb, nI_eqb, nI_cl, zin_nI, h5, zk0_inl, b2i_0, w0, w1, w2, w3, w4, w5, w6, w7]
theorem rl_8 {e : Nat} (he : 5 ≤ e) (hS : Sh R) (hF : FO M) (hP : PCx M b n i) (hi : sk b n i = i) (c0 : wm b n i 0 = false) (c1 : wm b n i 1 = false) (c2 : wm b n i 2 = false) (c3 : wm b n i 3 = false) (c4 : wm b n i 4 = false) (c5 : wm b n i 5 = false) (c6 : wm b n i 6 = false) (c7 : wm b n i 7 = false) (c8 : wm b n i 8 = true) : cal e 32 [.ref 92, .ref (tb j)] M R = exe e 32 249 [.ref 92, .ref (tb j), .int (nI i)] [] (atM M (i + 5)) R := by
  obtain ⟨d, rfl⟩ : ∃ d, e = d + 5 := ⟨e - 5, by omega⟩
  obtain ⟨nN, k92, k93, l93, k94, k95, l95, k96, l96, k97, l97, k98, k99, l99, k100, l100, k101, l101, k102, k103, l103, k104, l104, k105, l105, f92_0, f92_1, f94_0, f94_1, f94_2, f92_2, f98_0, f98_1, f98_2, f92_3, f102_0, f102_1, f102_2⟩ := parF hS
  have h5 := hP.2.1
  have wj : ∀ (a j : Nat), a = 1000001 + j → j < 17 → cal (d + 4) 52 [.ref 92, .ref a] M R = some (.inl (some (.int (b2i (wm b n i j)))), atM M (if wm b n i j then i + wln j else i), R) := by
    intro a j ha hj
    have := takeWord_ (d := d) (R := R) (a := a) (j := j) ha hj hS hF hP
    rw [hi] at this
    exact this
  have w0 := wj 1000001 0 rfl (by decide)
  rw [c0] at w0
  simp only [Bool.false_eq_true, if_false, atM_self h5] at w0
  have w1 := wj 1000002 1 rfl (by decide)
  rw [c1] at w1
  simp only [Bool.false_eq_true, if_false, atM_self h5] at w1
  have w2 := wj 1000003 2 rfl (by decide)
  rw [c2] at w2
  simp only [Bool.false_eq_true, if_false, atM_self h5] at w2
  have w3 := wj 1000004 3 rfl (by decide)
  rw [c3] at w3
  simp only [Bool.false_eq_true, if_false, atM_self h5] at w3
  have w4 := wj 1000005 4 rfl (by decide)
  rw [c4] at w4
  simp only [Bool.false_eq_true, if_false, atM_self h5] at w4
  have w5 := wj 1000006 5 rfl (by decide)
  rw [c5] at w5
  simp only [Bool.false_eq_true, if_false, atM_self h5] at w5
  have w6 := wj 1000007 6 rfl (by decide)
  rw [c6] at w6
  simp only [Bool.false_eq_true, if_false, atM_self h5] at w6
  have w7 := wj 1000008 7 rfl (by decide)
  rw [c7] at w7
  simp only [Bool.false_eq_true, if_false, atM_self h5] at w7
  have w8 := wj 1000009 8 rfl (by decide)
  rw [c8] at w8
  have l8 : wln 8 = 5 := rfl
  simp only [if_true, l8] at w8
  rw [e32]
  simp (disch := first | assumption | exact nar_b0 | exact nar_b1 | exact nar_b | exact Or.inl rfl | exact Or.inr rfl | exact zin_t (by omega) (by omega) | exact Nat.le_of_ble_eq_true rfl | (rw [nI_cl (by omega)]; assumption) | omega) only [↓reduceIte, reduceCtorEq, not_true_eq_false, not_false_eq_true, q32_0, q32_1, q32_4, q32_5, q32_6, q32_8, q32_11, q32_14, q32_15, q32_16, q32_17, q32_20, q32_21, q32_22, q32_24, q32_27, q32_30, q32_31, q32_32, q32_33, q32_36, q32_37, q32_38, q32_40, q32_43, q32_46, q32_47, q32_48, q32_49, q32_52, q32_55, q32_56, q32_57, q32_60, q32_63, q32_64, q32_67, q32_68, q32_69, q32_70, q32_72, q32_75, q32_78, q32_79, q32_80, q32_81, q32_84, q32_87, q32_88, q32_89, q32_92, q32_95, q32_96, q32_99, q32_100, q32_101, q32_102, q32_104, q32_107, q32_110, q32_111, q32_112, q32_113, q32_116, q32_119, q32_120, q32_121, q32_124, q32_127, q32_128, q32_131, q32_132, q32_133, q32_134, q32_136, q32_139, q32_142, q32_143, q32_144, q32_147, q32_148, q32_150, q32_151, q32_154, q32_155, q32_156, q32_158, q32_161, q32_164, q32_165, q32_168, q32_171, q32_172, q32_173, q32_176, q32_179, q32_180, q32_183, q32_186, q32_187, q32_190, q32_191, q32_194, q32_197, q32_198, q32_201, q32_202, q32_203, q32_204, q32_206, q32_209, q32_212, q32_213, q32_215, q32_216, q32_219, q32_222, q32_223, q32_224, q32_227, q32_228, q32_231, q32_234, q32_235, q32_238, q32_239, q32_240, q32_241, q32_243, q32_246, q32_250, q32_252, q32_253, q32_256, q32_259, q32_260, q32_263, q32_266, q32_267, q32_270, q32_271, q32_272, q32_273, q32_274, q32_275, q32_278, kl_int, kl_ref, kl_tok, cS_nil, cS_int, cS_ref, cS_long, tl_some, tl_none, List.cons_append, List.nil_append, nI_add, nI_ltb, nI_leb, nI_eqb, nI_cl, zin_nI, h5, zk0_inl, b2i_0, w0, w1, w2, w3, w4, w5, w6, w7, w8]
theorem rl_9 {e : Nat} (he : 5 ≤ e) (hS : Sh R) (hF : FO M) (hP : PCx M b n i) (hi : sk b n i = i) (c0 : wm b n i 0 = false) (c1 : wm b n i 1 = false) (c2 : wm b n i 2 = false) (c3 : wm b n i 3 = false) (c4 : wm b n i 4 = false) (c5 : wm b n i 5 = false) (c6 : wm b n i 6 = false) (c7 : wm b n i 7 = false) (c8 : wm b n i 8 = false) : cal e 32 [.ref 92, .ref (tb j)] M R = exe e 32 272 [.ref 92, .ref (tb j), .int (nI i)] [] M R := by
  obtain ⟨d, rfl⟩ : ∃ d, e = d + 5 := ⟨e - 5, by omega⟩
  obtain ⟨nN, k92, k93, l93, k94, k95, l95, k96, l96, k97, l97, k98, k99, l99, k100, l100, k101, l101, k102, k103, l103, k104, l104, k105, l105, f92_0, f92_1, f94_0, f94_1, f94_2, f92_2, f98_0, f98_1, f98_2, f92_3, f102_0, f102_1, f102_2⟩ := parF hS
  have h5 := hP.2.1
  have wj : ∀ (a j : Nat), a = 1000001 + j → j < 17 → cal (d + 4) 52 [.ref 92, .ref a] M R = some (.inl (some (.int (b2i (wm b n i j)))), atM M (if wm b n i j then i + wln j else i), R) := by
    intro a j ha hj
    have := takeWord_ (d := d) (R := R) (a := a) (j := j) ha hj hS hF hP
    rw [hi] at this
    exact this
  have w0 := wj 1000001 0 rfl (by decide)
  rw [c0] at w0
  simp only [Bool.false_eq_true, if_false, atM_self h5] at w0
  have w1 := wj 1000002 1 rfl (by decide)
  rw [c1] at w1
  simp only [Bool.false_eq_true, if_false, atM_self h5] at w1
  have w2 := wj 1000003 2 rfl (by decide)
  rw [c2] at w2
  simp only [Bool.false_eq_true, if_false, atM_self h5] at w2
  have w3 := wj 1000004 3 rfl (by decide)
  rw [c3] at w3
  simp only [Bool.false_eq_true, if_false, atM_self h5] at w3
  have w4 := wj 1000005 4 rfl (by decide)
  rw [c4] at w4
  simp only [Bool.false_eq_true, if_false, atM_self h5] at w4
  have w5 := wj 1000006 5 rfl (by decide)
  rw [c5] at w5
  simp only [Bool.false_eq_true, if_false, atM_self h5] at w5
  have w6 := wj 1000007 6 rfl (by decide)
  rw [c6] at w6
  simp only [Bool.false_eq_true, if_false, atM_self h5] at w6
  have w7 := wj 1000008 7 rfl (by decide)
  rw [c7] at w7
  simp only [Bool.false_eq_true, if_false, atM_self h5] at w7
  have w8 := wj 1000009 8 rfl (by decide)
  rw [c8] at w8
  simp only [Bool.false_eq_true, if_false, atM_self h5] at w8
  rw [e32]
  simp (disch := first | assumption | exact nar_b0 | exact nar_b1 | exact nar_b | exact Or.inl rfl | exact Or.inr rfl | exact zin_t (by omega) (by omega) | exact Nat.le_of_ble_eq_true rfl | (rw [nI_cl (by omega)]; assumption) | omega) only [↓reduceIte, reduceCtorEq, not_true_eq_false, not_false_eq_true, q32_0, q32_1, q32_4, q32_5, q32_6, q32_8, q32_11, q32_14, q32_15, q32_16, q32_17, q32_20, q32_21, q32_22, q32_24, q32_27, q32_30, q32_31, q32_32, q32_33, q32_36, q32_37, q32_38, q32_40, q32_43, q32_46, q32_47, q32_48, q32_49, q32_52, q32_55, q32_56, q32_57, q32_60, q32_63, q32_64, q32_67, q32_68, q32_69, q32_70, q32_72, q32_75, q32_78, q32_79, q32_80, q32_81, q32_84, q32_87, q32_88, q32_89, q32_92, q32_95, q32_96, q32_99, q32_100, q32_101, q32_102, q32_104, q32_107, q32_110, q32_111, q32_112, q32_113, q32_116, q32_119, q32_120, q32_121, q32_124, q32_127, q32_128, q32_131, q32_132, q32_133, q32_134, q32_136, q32_139, q32_142, q32_143, q32_144, q32_147, q32_148, q32_150, q32_151, q32_154, q32_155, q32_156, q32_158, q32_161, q32_164, q32_165, q32_168, q32_171, q32_172, q32_173, q32_176, q32_179, q32_180, q32_183, q32_186, q32_187, q32_190, q32_191, q32_194, q32_197, q32_198, q32_201, q32_202, q32_203, q32_204, q32_206, q32_209, q32_212, q32_213, q32_215, q32_216, q32_219, q32_222, q32_223, q32_224, q32_227, q32_228, q32_231, q32_234, q32_235, q32_238, q32_239, q32_240, q32_241, q32_243, q32_246, q32_249, q32_250, q32_252, q32_253, q32_256, q32_259, q32_260, q32_263, q32_266, q32_267, q32_270, q32_271, q32_273, q32_274, q32_275, q32_278, kl_int, kl_ref, kl_tok, cS_nil, cS_int, cS_ref, cS_long, tl_some, tl_none, List.cons_append, List.nil_append, nI_add, nI_ltb, nI_leb, nI_eqb, nI_cl, zin_nI, h5, zk0_inl, b2i_0, w0, w1, w2, w3, w4, w5, w6, w7, w8]
theorem readLine_ (hS : Sh R) (hF : FO M) (hj : j < 10) (hP : PCx M b n i) (hi : sk b n i = i) (hC : PSC M j P) (hW : PW P) (hE : PE b n P) (hT : PT P) : LnQ R b n j (cal (d + 22) 32 [.ref 92, .ref (tb j)] M R) M i (pBody b n P i) := by
  obtain ⟨nN, k92, k93, l93, k94, k95, l95, k96, l96, k97, l97, k98, k99, l99, k100, l100, k101, l101, k102, k103, l103, k104, l104, k105, l105, f92_0, f92_1, f94_0, f94_1, f94_2, f92_2, f98_0, f98_1, f98_2, f92_3, f102_0, f102_1, f102_2⟩ := parF hS
  have htj := tb_lt hj
  have mvP : ∀ k, wm b n i k = true → PCx (atM M (i + wln k)) b n (i + wln k) := fun k h => hP.mv (wm_le h)
  have mvC : ∀ k, PSC (atM M k) j P := fun k => hC.at hj
  have mvF : ∀ k, FO (atM M k) := fun k => hF.fr (fun c h => atM_c (by omega))
  unfold pBody
  cases c0 : wm b n i 0
  · cases c1 : wm b n i 1
    · cases c2 : wm b n i 2
      · cases c3 : wm b n i 3
        · cases c4 : wm b n i 4
          · cases c5 : wm b n i 5
            · cases c6 : wm b n i 6
              · cases c7 : wm b n i 7
                · cases c8 : wm b n i 8
                  · simp only [Bool.false_eq_true, if_false]
                    rw [rl_9 (by omega) hS hF hP hi c0 c1 c2 c3 c4 c5 c6 c7 c8]
                    have hf := fail_ (d := d + 21) (M := M) (R := R) (k := nI 1) (p := nI i) hS
                    refine ⟨fun P' i' h => (by cases h), fun k p h => ?_⟩
                    cases h
                    refine ⟨_, ?_, (CFt.mk' (M' := M) (fun c hc => rfl)).ln⟩
                    simp (disch := first | assumption | exact nar_b0 | exact nar_b1 | exact nar_b | exact Or.inl rfl | exact Or.inr rfl | exact zin_t (by omega) (by omega) | exact Nat.le_of_ble_eq_true rfl | (rw [nI_cl (by omega)]; assumption) | omega) only [↓reduceIte, reduceCtorEq, not_true_eq_false, not_false_eq_true, q32_0, q32_1, q32_4, q32_5, q32_6, q32_8, q32_11, q32_14, q32_15, q32_16, q32_17, q32_20, q32_21, q32_22, q32_24, q32_27, q32_30, q32_31, q32_32, q32_33, q32_36, q32_37, q32_38, q32_40, q32_43, q32_46, q32_47, q32_48, q32_49, q32_52, q32_55, q32_56, q32_57, q32_60, q32_63, q32_64, q32_67, q32_68, q32_69, q32_70, q32_72, q32_75, q32_78, q32_79, q32_80, q32_81, q32_84, q32_87, q32_88, q32_89, q32_92, q32_95, q32_96, q32_99, q32_100, q32_101, q32_102, q32_104, q32_107, q32_110, q32_111, q32_112, q32_113, q32_116, q32_119, q32_120, q32_121, q32_124, q32_127, q32_128, q32_131, q32_132, q32_133, q32_134, q32_136, q32_139, q32_142, q32_143, q32_144, q32_147, q32_148, q32_150, q32_151, q32_154, q32_155, q32_156, q32_158, q32_161, q32_164, q32_165, q32_168, q32_171, q32_172, q32_173, q32_176, q32_179, q32_180, q32_183, q32_186, q32_187, q32_190, q32_191, q32_194, q32_197, q32_198, q32_201, q32_202, q32_203, q32_204, q32_206, q32_209, q32_212, q32_213, q32_215, q32_216, q32_219, q32_222, q32_223, q32_224, q32_227, q32_228, q32_231, q32_234, q32_235, q32_238, q32_239, q32_240, q32_241, q32_243, q32_246, q32_249, q32_250, q32_252, q32_253, q32_256, q32_259, q32_260, q32_263, q32_266, q32_267, q32_270, q32_271, q32_272, q32_273, q32_274, q32_275, q32_278, kl_int, kl_ref, kl_tok, cS_nil, cS_int, cS_ref, cS_long, tl_some, tl_none, List.cons_append, List.nil_append, nI_add, nI_ltb, nI_leb, nI_eqb, nI_cl, zin_nI, hf, zk0_inl]
                  · simp only [Bool.false_eq_true, if_false, if_true]
                    rw [rl_8 (by omega) hS hF hP hi c0 c1 c2 c3 c4 c5 c6 c7 c8]
                    exact (lnGrant_ (d := d + 18) hS hj (mvP 8 c8) (mvC _) hW hE).mv LnF.at (by omega)
                · simp only [Bool.false_eq_true, if_false, if_true]
                  rw [rl_7 (by omega) hS hF hP hi c0 c1 c2 c3 c4 c5 c6 c7]
                  exact (lnBench_ (d := d) hS (mvF _) hj (mvP 7 c7) (mvC _) hW hE).mv LnF.at (by omega)
              · simp only [Bool.false_eq_true, if_false, if_true]
                rw [rl_6 (by omega) hS hF hP hi c0 c1 c2 c3 c4 c5 c6]
                have hP6 : PCx (atM M (i + 5)) b n (i + 5) := mvP 6 c6
                cases d1 : isH b n (sk b n (i + 5)) (nI 97)
                · cases d2 : isH b n (sk b n (i + 5)) (nI 98)
                  · simp only [Bool.false_eq_true, if_false]
                    obtain ⟨M1, g1, g2⟩ := sideC_f (e := d + 21) (by omega) hS hP6 d1 d2
                    refine ⟨fun P' i' h => (by cases h), fun k p h => ?_⟩
                    cases h
                    refine ⟨M1, ?_, LnE.after LnF.at g2.ln⟩
                    simp (disch := first | assumption | exact nar_b0 | exact nar_b1 | exact nar_b | exact Or.inl rfl | exact Or.inr rfl | exact zin_t (by omega) (by omega) | exact Nat.le_of_ble_eq_true rfl | (rw [nI_cl (by omega)]; assumption) | omega) only [↓reduceIte, reduceCtorEq, not_true_eq_false, not_false_eq_true, q32_0, q32_1, q32_4, q32_5, q32_6, q32_8, q32_11, q32_14, q32_15, q32_16, q32_17, q32_20, q32_21, q32_22, q32_24, q32_27, q32_30, q32_31, q32_32, q32_33, q32_36, q32_37, q32_38, q32_40, q32_43, q32_46, q32_47, q32_48, q32_49, q32_52, q32_55, q32_56, q32_57, q32_60, q32_63, q32_64, q32_67, q32_68, q32_69, q32_70, q32_72, q32_75, q32_78, q32_79, q32_80, q32_81, q32_84, q32_87, q32_88, q32_89, q32_92, q32_95, q32_96, q32_99, q32_100, q32_101, q32_102, q32_104, q32_107, q32_110, q32_111, q32_112, q32_113, q32_116, q32_119, q32_120, q32_121, q32_124, q32_127, q32_128, q32_131, q32_132, q32_133, q32_134, q32_136, q32_139, q32_142, q32_143, q32_144, q32_147, q32_148, q32_150, q32_151, q32_154, q32_155, q32_156, q32_158, q32_161, q32_164, q32_165, q32_168, q32_171, q32_172, q32_173, q32_176, q32_179, q32_180, q32_183, q32_186, q32_187, q32_190, q32_191, q32_194, q32_197, q32_198, q32_201, q32_202, q32_203, q32_204, q32_206, q32_209, q32_212, q32_213, q32_215, q32_216, q32_219, q32_222, q32_223, q32_224, q32_227, q32_228, q32_231, q32_234, q32_235, q32_238, q32_239, q32_240, q32_241, q32_243, q32_246, q32_249, q32_250, q32_252, q32_253, q32_256, q32_259, q32_260, q32_263, q32_266, q32_267, q32_270, q32_271, q32_272, q32_273, q32_274, q32_275, q32_278, kl_int, kl_ref, kl_tok, cS_nil, cS_int, cS_ref, cS_long, tl_some, tl_none, List.cons_append, List.nil_append, nI_add, nI_ltb, nI_leb, nI_eqb, nI_cl, zin_nI, g1, zk0_inl]
                  · simp only [Bool.false_eq_true, if_false, if_true]
                    exact (lnCause1_ (d := d) hS (mvF _) hj hP6 (mvC _) hW hE (by unfold sdI; rw [d1, d2]; rfl) (isH_lt d2)).mv LnF.at (by omega)
                · simp only [if_true]
                  exact (lnCause0_ (d := d) hS (mvF _) hj hP6 (mvC _) hW hE (by unfold sdI; rw [d1]; rfl) (isH_lt d1)).mv LnF.at (by omega)
            · simp only [Bool.false_eq_true, if_false, if_true]
              rw [rl_5 (by omega) hS hF hP hi c0 c1 c2 c3 c4 c5]
              exact (lnBox_ (d := d + 18) hS hj (mvP 5 c5) (mvC _) hW hE).mv LnF.at (by omega)
          · simp only [Bool.false_eq_true, if_false, if_true]
            rw [rl_4 (by omega) hS hF hP hi c0 c1 c2 c3 c4]
            exact (lnTurns_ (d := d + 18) hS hj (mvP 4 c4) (mvC _) hW hE hT).mv LnF.at (by omega)
        · simp only [Bool.false_eq_true, if_false, if_true]
          rw [rl_3 (by omega) hS hF hP hi c0 c1 c2 c3]
          exact (lnSpare_ (d := d + 18) hS hj (mvP 3 c3) (mvC _) hW hE).mv LnF.at (by omega)
      · simp only [Bool.false_eq_true, if_false, if_true]
        rw [rl_2 (by omega) hS hF hP hi c0 c1 c2]
        exact (lnSeats_ (d := d + 18) hS hj (mvP 2 c2) (mvC _) hW hE).mv LnF.at (by omega)
    · simp only [Bool.false_eq_true, if_false, if_true]
      rw [rl_1 (by omega) hS hF hP hi c0 c1]
      have h := readTales_ (d := d + 18) (w := i) hS hj (mvP 1 c1) (mvC _) hW hE
      refine LnQ.mv (M1 := atM M (i + 5)) (i1 := i + 5) ⟨fun P' i' e => ?_, fun k p e => ?_⟩ LnF.at (by omega)
      · obtain ⟨a1, a2, a3, a4, M', a5, a6⟩ := h.1 P' i' e
        refine ⟨a1, a2, a3, a4, M', ?_, a6⟩
        have a5' : cal (d + 21) 35 [.ref 92, .ref (tb j), .int (nI i)] (atM M (i + 5)) R = some (.inl (some (.int (nI 1))), M', R) := a5
        simp (disch := first | assumption | exact nar_b0 | exact nar_b1 | exact nar_b | exact Or.inl rfl | exact Or.inr rfl | exact zin_t (by omega) (by omega) | exact Nat.le_of_ble_eq_true rfl | (rw [nI_cl (by omega)]; assumption) | omega) only [↓reduceIte, reduceCtorEq, not_true_eq_false, not_false_eq_true, q32_0, q32_1, q32_4, q32_5, q32_6, q32_8, q32_11, q32_14, q32_15, q32_16, q32_17, q32_20, q32_21, q32_22, q32_24, q32_27, q32_30, q32_31, q32_32, q32_33, q32_36, q32_37, q32_38, q32_40, q32_43, q32_46, q32_47, q32_48, q32_49, q32_52, q32_55, q32_56, q32_57, q32_60, q32_63, q32_64, q32_67, q32_68, q32_69, q32_70, q32_72, q32_75, q32_78, q32_79, q32_80, q32_81, q32_84, q32_87, q32_88, q32_89, q32_92, q32_95, q32_96, q32_99, q32_100, q32_101, q32_102, q32_104, q32_107, q32_110, q32_111, q32_112, q32_113, q32_116, q32_119, q32_120, q32_121, q32_124, q32_127, q32_128, q32_131, q32_132, q32_133, q32_134, q32_136, q32_139, q32_142, q32_143, q32_144, q32_147, q32_148, q32_150, q32_151, q32_154, q32_155, q32_156, q32_158, q32_161, q32_164, q32_165, q32_168, q32_171, q32_172, q32_173, q32_176, q32_179, q32_180, q32_183, q32_186, q32_187, q32_190, q32_191, q32_194, q32_197, q32_198, q32_201, q32_202, q32_203, q32_204, q32_206, q32_209, q32_212, q32_213, q32_215, q32_216, q32_219, q32_222, q32_223, q32_224, q32_227, q32_228, q32_231, q32_234, q32_235, q32_238, q32_239, q32_240, q32_241, q32_243, q32_246, q32_249, q32_250, q32_252, q32_253, q32_256, q32_259, q32_260, q32_263, q32_266, q32_267, q32_270, q32_271, q32_272, q32_273, q32_274, q32_275, q32_278, kl_int, kl_ref, kl_tok, cS_nil, cS_int, cS_ref, cS_long, tl_some, tl_none, List.cons_append, List.nil_append, nI_add, nI_ltb, nI_leb, nI_eqb, nI_cl, zin_nI, a5', zk0_inl]
      · obtain ⟨M', a5, a6⟩ := h.2 k p e
        refine ⟨M', ?_, a6⟩
        have a5' : cal (d + 21) 35 [.ref 92, .ref (tb j), .int (nI i)] (atM M (i + 5)) R = some (.inl (some (.int (nI 0))), M', R) := a5
        simp (disch := first | assumption | exact nar_b0 | exact nar_b1 | exact nar_b | exact Or.inl rfl | exact Or.inr rfl | exact zin_t (by omega) (by omega) | exact Nat.le_of_ble_eq_true rfl | (rw [nI_cl (by omega)]; assumption) | omega) only [↓reduceIte, reduceCtorEq, not_true_eq_false, not_false_eq_true, q32_0, q32_1, q32_4, q32_5, q32_6, q32_8, q32_11, q32_14, q32_15, q32_16, q32_17, q32_20, q32_21, q32_22, q32_24, q32_27, q32_30, q32_31, q32_32, q32_33, q32_36, q32_37, q32_38, q32_40, q32_43, q32_46, q32_47, q32_48, q32_49, q32_52, q32_55, q32_56, q32_57, q32_60, q32_63, q32_64, q32_67, q32_68, q32_69, q32_70, q32_72, q32_75, q32_78, q32_79, q32_80, q32_81, q32_84, q32_87, q32_88, q32_89, q32_92, q32_95, q32_96, q32_99, q32_100, q32_101, q32_102, q32_104, q32_107, q32_110, q32_111, q32_112, q32_113, q32_116, q32_119, q32_120, q32_121, q32_124, q32_127, q32_128, q32_131, q32_132, q32_133, q32_134, q32_136, q32_139, q32_142, q32_143, q32_144, q32_147, q32_148, q32_150, q32_151, q32_154, q32_155, q32_156, q32_158, q32_161, q32_164, q32_165, q32_168, q32_171, q32_172, q32_173, q32_176, q32_179, q32_180, q32_183, q32_186, q32_187, q32_190, q32_191, q32_194, q32_197, q32_198, q32_201, q32_202, q32_203, q32_204, q32_206, q32_209, q32_212, q32_213, q32_215, q32_216, q32_219, q32_222, q32_223, q32_224, q32_227, q32_228, q32_231, q32_234, q32_235, q32_238, q32_239, q32_240, q32_241, q32_243, q32_246, q32_249, q32_250, q32_252, q32_253, q32_256, q32_259, q32_260, q32_263, q32_266, q32_267, q32_270, q32_271, q32_272, q32_273, q32_274, q32_275, q32_278, kl_int, kl_ref, kl_tok, cS_nil, cS_int, cS_ref, cS_long, tl_some, tl_none, List.cons_append, List.nil_append, nI_add, nI_ltb, nI_leb, nI_eqb, nI_cl, zin_nI, a5', zk0_inl]
  · simp only [if_true]
    rw [rl_0 (by omega) hS hF hP hi c0]
    have h := readJuror_ (d := d + 18) (w := i) hS hj (mvP 0 c0) (mvC _) hW hE
    refine LnQ.mv (M1 := atM M (i + 5)) (i1 := i + 5) ⟨fun P' i' e => ?_, fun k p e => ?_⟩ LnF.at (by omega)
    · obtain ⟨a1, a2, a3, a4, M', a5, a6⟩ := h.1 P' i' e
      refine ⟨a1, a2, a3, a4, M', ?_, a6⟩
      have a5' : cal (d + 21) 34 [.ref 92, .ref (tb j), .int (nI i)] (atM M (i + 5)) R = some (.inl (some (.int (nI 1))), M', R) := a5
      simp (disch := first | assumption | exact nar_b0 | exact nar_b1 | exact nar_b | exact Or.inl rfl | exact Or.inr rfl | exact zin_t (by omega) (by omega) | exact Nat.le_of_ble_eq_true rfl | (rw [nI_cl (by omega)]; assumption) | omega) only [↓reduceIte, reduceCtorEq, not_true_eq_false, not_false_eq_true, q32_0, q32_1, q32_4, q32_5, q32_6, q32_8, q32_11, q32_14, q32_15, q32_16, q32_17, q32_20, q32_21, q32_22, q32_24, q32_27, q32_30, q32_31, q32_32, q32_33, q32_36, q32_37, q32_38, q32_40, q32_43, q32_46, q32_47, q32_48, q32_49, q32_52, q32_55, q32_56, q32_57, q32_60, q32_63, q32_64, q32_67, q32_68, q32_69, q32_70, q32_72, q32_75, q32_78, q32_79, q32_80, q32_81, q32_84, q32_87, q32_88, q32_89, q32_92, q32_95, q32_96, q32_99, q32_100, q32_101, q32_102, q32_104, q32_107, q32_110, q32_111, q32_112, q32_113, q32_116, q32_119, q32_120, q32_121, q32_124, q32_127, q32_128, q32_131, q32_132, q32_133, q32_134, q32_136, q32_139, q32_142, q32_143, q32_144, q32_147, q32_148, q32_150, q32_151, q32_154, q32_155, q32_156, q32_158, q32_161, q32_164, q32_165, q32_168, q32_171, q32_172, q32_173, q32_176, q32_179, q32_180, q32_183, q32_186, q32_187, q32_190, q32_191, q32_194, q32_197, q32_198, q32_201, q32_202, q32_203, q32_204, q32_206, q32_209, q32_212, q32_213, q32_215, q32_216, q32_219, q32_222, q32_223, q32_224, q32_227, q32_228, q32_231, q32_234, q32_235, q32_238, q32_239, q32_240, q32_241, q32_243, q32_246, q32_249, q32_250, q32_252, q32_253, q32_256, q32_259, q32_260, q32_263, q32_266, q32_267, q32_270, q32_271, q32_272, q32_273, q32_274, q32_275, q32_278, kl_int, kl_ref, kl_tok, cS_nil, cS_int, cS_ref, cS_long, tl_some, tl_none, List.cons_append, List.nil_append, nI_add, nI_ltb, nI_leb, nI_eqb, nI_cl, zin_nI, a5', zk0_inl]
    · obtain ⟨M', a5, a6⟩ := h.2 k p e
      refine ⟨M', ?_, a6⟩
      have a5' : cal (d + 21) 34 [.ref 92, .ref (tb j), .int (nI i)] (atM M (i + 5)) R = some (.inl (some (.int (nI 0))), M', R) := a5
      simp (disch := first | assumption | exact nar_b0 | exact nar_b1 | exact nar_b | exact Or.inl rfl | exact Or.inr rfl | exact zin_t (by omega) (by omega) | exact Nat.le_of_ble_eq_true rfl | (rw [nI_cl (by omega)]; assumption) | omega) only [↓reduceIte, reduceCtorEq, not_true_eq_false, not_false_eq_true, q32_0, q32_1, q32_4, q32_5, q32_6, q32_8, q32_11, q32_14, q32_15, q32_16, q32_17, q32_20, q32_21, q32_22, q32_24, q32_27, q32_30, q32_31, q32_32, q32_33, q32_36, q32_37, q32_38, q32_40, q32_43, q32_46, q32_47, q32_48, q32_49, q32_52, q32_55, q32_56, q32_57, q32_60, q32_63, q32_64, q32_67, q32_68, q32_69, q32_70, q32_72, q32_75, q32_78, q32_79, q32_80, q32_81, q32_84, q32_87, q32_88, q32_89, q32_92, q32_95, q32_96, q32_99, q32_100, q32_101, q32_102, q32_104, q32_107, q32_110, q32_111, q32_112, q32_113, q32_116, q32_119, q32_120, q32_121, q32_124, q32_127, q32_128, q32_131, q32_132, q32_133, q32_134, q32_136, q32_139, q32_142, q32_143, q32_144, q32_147, q32_148, q32_150, q32_151, q32_154, q32_155, q32_156, q32_158, q32_161, q32_164, q32_165, q32_168, q32_171, q32_172, q32_173, q32_176, q32_179, q32_180, q32_183, q32_186, q32_187, q32_190, q32_191, q32_194, q32_197, q32_198, q32_201, q32_202, q32_203, q32_204, q32_206, q32_209, q32_212, q32_213, q32_215, q32_216, q32_219, q32_222, q32_223, q32_224, q32_227, q32_228, q32_231, q32_234, q32_235, q32_238, q32_239, q32_240, q32_241, q32_243, q32_246, q32_249, q32_250, q32_252, q32_253, q32_256, q32_259, q32_260, q32_263, q32_266, q32_267, q32_270, q32_271, q32_272, q32_273, q32_274, q32_275, q32_278, kl_int, kl_ref, kl_tok, cS_nil, cS_int, cS_ref, cS_long, tl_some, tl_none, List.cons_append, List.nil_append, nI_add, nI_ltb, nI_leb, nI_eqb, nI_cl, zin_nI, a5', zk0_inl]
end Lr
