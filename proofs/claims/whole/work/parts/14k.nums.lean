-- the class: lines of one number, turns, causes
def LnQ (R : ZH) (b : Nat → Int32) (n j : Nat) (q : Option ZO) (M : ZM) (i : Nat) (r : PR PS) : Prop :=
  (∀ P' i', r = .inr (P', i') → i ≤ i' ∧ i' ≤ n ∧ PW P' ∧ PE b n P' ∧ ∃ M', q = some (.inl (some (.int (nI 1))), M', R) ∧ PCx M' b n i' ∧ PSC M' j P' ∧ LnF j M M') ∧
  (∀ k p, r = .inl (k, p) → ∃ M', q = some (.inl (some (.int (nI 0))), M', R) ∧ LnE j M M' k p)
theorem LnQ.mv {R : ZH} {b : Nat → Int32} {n j : Nat} {q : Option ZO} {M M1 : ZM} {i i1 : Nat} {r : PR PS} (h : LnQ R b n j q M1 i1 r) (hF : LnF j M M1) (hi : i ≤ i1) : LnQ R b n j q M i r := by
  refine ⟨fun P' i' e => ?_, fun k p e => ?_⟩
  · obtain ⟨a1, a2, a3, a4, M', a5, a6, a7, a8⟩ := h.1 P' i' e
    exact ⟨by omega, a2, a3, a4, M', a5, a6, a7, hF.trans a8⟩
  · obtain ⟨M', a1, a2⟩ := h.2 k p e
    exact ⟨M', a1, LnE.after hF a2⟩
theorem PSC.tl {M : ZM} {j : Nat} {P : PS} {t : Nat} (h : PSC M j P) (hj : j < 10) : PSC (up2 M 92 7 (nI (tL P ||| t))) j (rD P, fI P, fN P, tL P ||| t, gR P, cA P, cB P, cC P) := by
  have htj := tb_lt hj
  obtain ⟨a, b, c, d, e, f⟩ := h
  have g : ∀ x, x ≠ 92 → up2 M 92 7 (nI (tL P ||| t)) x = M x := fun x hx => up2_ne hx
  refine ⟨?_, ?_, ?_, ?_, ⟨up2_at, ?_⟩, ?_⟩
  · rw [g _ (by omega)]; exact a
  · intro k hk; rw [g _ (by omega), g _ (by omega), g _ (by omega), g _ (by omega)]; exact b k hk
  · intro k hk; rw [g _ (by omega), g _ (by omega), g _ (by omega), g _ (by omega)]; exact c k hk
  · intro k hk; rw [g _ (by omega), g _ (by omega)]; exact d k hk
  · rw [up2_s (by decide)]; exact e.2
  · exact ⟨f.1.fr (fun c h1 h2 => g c (by omega)), f.2.1.fr (fun c h1 h2 => g c (by omega)), f.2.2.fr (fun c h1 h2 => g c (by omega))⟩
theorem PSC.at {M : ZM} {j i : Nat} {P : PS} (h : PSC M j P) (hj : j < 10) : PSC (atM M i) j P := by
  have htj := tb_lt hj
  exact h.fr hj (fun c h1 h2 => atM_c (by omega)) (atM_s (by decide)) (atM_s (by decide)) (fun c h1 h2 => atM_c (by omega))
theorem PSC.nm {M : ZM} {j i : Nat} {v : Int} {P : PS} (h : PSC M j P) (hj : j < 10) : PSC (nmM M i v) j P := by
  have htj := tb_lt hj
  exact h.fr hj (fun c h1 h2 => nmM_c (by omega)) (nmM_s (by decide) (by decide)) (nmM_s (by decide) (by decide)) (fun c h1 h2 => nmM_c (by omega))
theorem PCx.u7 {M : ZM} {b : Nat → Int32} {n i : Nat} {v : Int32} (h : PCx M b n i) : PCx (up2 M 92 7 v) b n i := h.fr (up2_s (by decide)) (up2_s (by decide)) (up2_s (by decide)) (up2_ne (by decide))
theorem toNat_iI {v : Int} (h : 0 ≤ v) : iI v = nI v.toNat := by rw [nI_iI, Int.toNat_of_nonneg h]
section Lp
variable {d n i j : Nat} {M : ZM} {R : ZH} {b : Nat → Int32} {P : PS}
theorem lnSeats_ {w : Nat} (hS : Sh R) (hj : j < 10) (hP : PCx M b n i) (hC : PSC M j P) (hW : PW P) (hE : PE b n P) : LnQ R b n j (exe (d + 4) 32 46 [.ref 92, .ref (tb j), .int (nI w)] [] M R) M i (onc P 0 w (mp (pNum b n i false 1 6) (fun v => rdP P 2 (iI v) 1))) := by
  obtain ⟨nN, k92, k93, l93, k94, k95, l95, k96, l96, k97, l97, k98, k99, l99, k100, l100, k101, l101, k102, k103, l103, k104, l104, k105, l105, f92_0, f92_1, f94_0, f94_1, f94_2, f92_2, f98_0, f98_1, f98_2, f92_3, f102_0, f102_1, f102_2⟩ := parF hS
  obtain ⟨nN_j, tlt_j, kt0_j, kt1_j, lt1_j, kt2_j, lt2_j, kt3_j, lt3_j, kt4_j, lt4_j, kt5_j, lt5_j, kt6_j, lt6_j, kt7_j, lt7_j, kt8_j, lt8_j, ft0_0_j, ft1_0_j, ft1_1_j, ft0_1_j, ft0_2_j, ft0_3_j, ft0_4_j, ft0_5_j⟩ := tabF hS hj
  have htj := tb_lt hj
  have hn := hP.2.2.1
  have h7 : M 92 7 = nI (tL P) := hC.2.2.2.2.1.1
  have ht := hW.2.2.2.2.2.1
  have z1 : ¬ 1 = 0 := by decide
  unfold onc
  cases c : (tL P).testBit 0
  · have hf := isFirst_t (d := d + 2) (M := M) (R := R) (t := tL P) (k := 0) (p := nI w) hS h7 ht (by decide) c
    have e2 : (2 : Nat) ^ 0 = 1 := by decide
    rw [e2] at hf
    generalize hM1 : up2 M 92 7 (nI (tL P ||| 1)) = M1 at hf
    have hP1 : PCx M1 b n i := by rw [← hM1]; exact hP.u7
    have hC1 : PSC M1 j (rD P, fI P, fN P, tL P ||| 1, gR P, cA P, cB P, cC P) := by rw [← hM1]; exact hC.tl hj
    have f1 : LnF j M M1 := by rw [← hM1]; exact fun c a _ _ => up2_ne a
    have hlo : nI 1 = iI 1 := rfl
    have hhi : nI 6 = iI 6 := rfl
    simp only [Bool.false_eq_true, if_false]
    unfold mp
    cases hp : pNum b n i false 1 6 with
    | inl f =>
      obtain ⟨k, p⟩ := f
      obtain ⟨M2, g1, g2⟩ := readNumber_f (d := d + 1) (R := R) hS hP1 hlo hhi (by decide) (by decide) (by decide) hp
      refine ⟨fun P' i' h => (by cases h), fun k' p' h => ?_⟩
      cases h
      refine ⟨up2 M2 (tb j) 10 (M2 92 6), ?_, ?_⟩
      · have hr : cal (d + 3) 37 [.ref 92, .ref (tb j)] M1 R = some (.inl (some (.int (nI 0))), up2 M2 (tb j) 10 (M2 92 6), R) := by
          rw [e37]
          simp (disch := first | assumption | exact nar_b0 | exact nar_b1 | exact nar_b | exact Or.inl rfl | exact Or.inr rfl | exact zin_t (by omega) (by omega) | exact Nat.le_of_ble_eq_true rfl | (rw [nI_cl (by omega)]; assumption) | omega) only [↓reduceIte, reduceCtorEq, not_true_eq_false, not_false_eq_true, q37_0, q37_1, q37_2, q37_4, q37_7, q37_8, q37_9, q37_10, q37_13, q37_16, q37_17, kl_int, kl_ref, kl_tok, cS_nil, cS_int, cS_ref, cS_long, tl_some, tl_none, List.cons_append, List.nil_append, nI_add, nI_ltb, nI_leb, nI_eqb, nI_cl, zin_nI, g1, zk0_inl]
        simp (disch := first | assumption | exact nar_b0 | exact nar_b1 | exact nar_b | exact Or.inl rfl | exact Or.inr rfl | exact zin_t (by omega) (by omega) | exact Nat.le_of_ble_eq_true rfl | (rw [nI_cl (by omega)]; assumption) | omega) only [↓reduceIte, reduceCtorEq, not_true_eq_false, not_false_eq_true, q32_0, q32_1, q32_4, q32_5, q32_6, q32_8, q32_11, q32_14, q32_15, q32_16, q32_17, q32_20, q32_21, q32_22, q32_24, q32_27, q32_30, q32_31, q32_32, q32_33, q32_36, q32_37, q32_38, q32_40, q32_43, q32_46, q32_47, q32_48, q32_49, q32_52, q32_55, q32_56, q32_57, q32_60, q32_63, q32_64, q32_67, q32_68, q32_69, q32_70, q32_72, q32_75, q32_78, q32_79, q32_80, q32_81, q32_84, q32_87, q32_88, q32_89, q32_92, q32_95, q32_96, q32_99, q32_100, q32_101, q32_102, q32_104, q32_107, q32_110, q32_111, q32_112, q32_113, q32_116, q32_119, q32_120, q32_121, q32_124, q32_127, q32_128, q32_131, q32_132, q32_133, q32_134, q32_136, q32_139, q32_142, q32_143, q32_144, q32_147, q32_148, q32_150, q32_151, q32_154, q32_155, q32_156, q32_158, q32_161, q32_164, q32_165, q32_168, q32_171, q32_172, q32_173, q32_176, q32_179, q32_180, q32_183, q32_186, q32_187, q32_190, q32_191, q32_194, q32_197, q32_198, q32_201, q32_202, q32_203, q32_204, q32_206, q32_209, q32_212, q32_213, q32_215, q32_216, q32_219, q32_222, q32_223, q32_224, q32_227, q32_228, q32_231, q32_234, q32_235, q32_238, q32_239, q32_240, q32_241, q32_243, q32_246, q32_249, q32_250, q32_252, q32_253, q32_256, q32_259, q32_260, q32_263, q32_266, q32_267, q32_270, q32_271, q32_272, q32_273, q32_274, q32_275, q32_278, kl_int, kl_ref, kl_tok, cS_nil, cS_int, cS_ref, cS_long, tl_some, tl_none, List.cons_append, List.nil_append, nI_add, nI_ltb, nI_leb, nI_eqb, nI_cl, zin_nI, hf, hr, zk0_inl, z1]
      · refine LnE.after f1 (⟨?_, ?_, ?_⟩ : LnE j M1 _ k p)
        · rw [up2_c (by omega)]; exact g2.1
        · rw [up2_c (by omega)]; exact g2.2.1
        · exact (g2.ln).2.2.trans (LnF.up (by omega) (by omega))
    | inr w2 =>
      obtain ⟨v, i1⟩ := w2
      have pp := pNum_pos hn.1 hp
      have g1 := readNumber_t (d := d + 1) (R := R) hS hP1 hlo hhi (by decide) (by decide) (by decide) hp
      have s6 : nmM M1 i1 v 92 6 = iI v := nmM_6
      have vn := toNat_iI (v := v) (by omega)
      refine ⟨fun P' i' h => ?_, fun k p h => (by cases h)⟩
      cases h
      refine ⟨by omega, pp.2.1, ?_, ?_, up2 (nmM M1 i1 v) (tb j) 10 (iI v), ?_, ?_, ?_, ?_⟩
      · exact hW.rd (by decide) (Or.inl ⟨rfl, v.toNat, vn, by omega, by omega⟩)
      · exact hE.or (k := 0) (by rw [e2]; rfl) (by decide) (by decide) (by decide) rfl rfl rfl
      · have hr : cal (d + 3) 37 [.ref 92, .ref (tb j)] M1 R = some (.inl (some (.int (nI 1))), up2 (nmM M1 i1 v) (tb j) 10 (iI v), R) := by
          rw [e37]
          simp (disch := first | assumption | exact nar_b0 | exact nar_b1 | exact nar_b | exact Or.inl rfl | exact Or.inr rfl | exact zin_t (by omega) (by omega) | exact Nat.le_of_ble_eq_true rfl | (rw [nI_cl (by omega)]; assumption) | omega) only [↓reduceIte, reduceCtorEq, not_true_eq_false, not_false_eq_true, q37_0, q37_1, q37_2, q37_4, q37_7, q37_8, q37_9, q37_10, q37_13, q37_16, q37_17, kl_int, kl_ref, kl_tok, cS_nil, cS_int, cS_ref, cS_long, tl_some, tl_none, List.cons_append, List.nil_append, nI_add, nI_ltb, nI_leb, nI_eqb, nI_cl, zin_nI, g1, zk0_inl, s6]
        simp (disch := first | assumption | exact nar_b0 | exact nar_b1 | exact nar_b | exact Or.inl rfl | exact Or.inr rfl | exact zin_t (by omega) (by omega) | exact Nat.le_of_ble_eq_true rfl | (rw [nI_cl (by omega)]; assumption) | omega) only [↓reduceIte, reduceCtorEq, not_true_eq_false, not_false_eq_true, q32_0, q32_1, q32_4, q32_5, q32_6, q32_8, q32_11, q32_14, q32_15, q32_16, q32_17, q32_20, q32_21, q32_22, q32_24, q32_27, q32_30, q32_31, q32_32, q32_33, q32_36, q32_37, q32_38, q32_40, q32_43, q32_46, q32_47, q32_48, q32_49, q32_52, q32_55, q32_56, q32_57, q32_60, q32_63, q32_64, q32_67, q32_68, q32_69, q32_70, q32_72, q32_75, q32_78, q32_79, q32_80, q32_81, q32_84, q32_87, q32_88, q32_89, q32_92, q32_95, q32_96, q32_99, q32_100, q32_101, q32_102, q32_104, q32_107, q32_110, q32_111, q32_112, q32_113, q32_116, q32_119, q32_120, q32_121, q32_124, q32_127, q32_128, q32_131, q32_132, q32_133, q32_134, q32_136, q32_139, q32_142, q32_143, q32_144, q32_147, q32_148, q32_150, q32_151, q32_154, q32_155, q32_156, q32_158, q32_161, q32_164, q32_165, q32_168, q32_171, q32_172, q32_173, q32_176, q32_179, q32_180, q32_183, q32_186, q32_187, q32_190, q32_191, q32_194, q32_197, q32_198, q32_201, q32_202, q32_203, q32_204, q32_206, q32_209, q32_212, q32_213, q32_215, q32_216, q32_219, q32_222, q32_223, q32_224, q32_227, q32_228, q32_231, q32_234, q32_235, q32_238, q32_239, q32_240, q32_241, q32_243, q32_246, q32_249, q32_250, q32_252, q32_253, q32_256, q32_259, q32_260, q32_263, q32_266, q32_267, q32_270, q32_271, q32_272, q32_273, q32_274, q32_275, q32_278, kl_int, kl_ref, kl_tok, cS_nil, cS_int, cS_ref, cS_long, tl_some, tl_none, List.cons_append, List.nil_append, nI_add, nI_ltb, nI_leb, nI_eqb, nI_cl, zin_nI, hf, hr, zk0_inl, z1]
      · exact (hP1.nm pp.2.1).fr (by rw [up2_c (by omega)]) (by rw [up2_c (by omega)]) (by rw [up2_c (by omega)]) (up2_ne (by omega))
      · obtain ⟨⟨t1, t2, t3, t4, t5, t6, t7, t8, t9⟩, u1, u2, u3, u4, u5⟩ := PSC.nm (i := i1) (v := v) hC1 hj
        have g : ∀ x, x ≠ 2 → rD (rdP P 2 (iI v) 1) x = rD P x := fun x hx => upf_ne hx
        have gk : rD (rdP P 2 (iI v) 1) 2 = iI v := by show upf (rD P) 2 (iI v) 2 = _; exact upf_at
        have jj : jn (rD (rdP P 2 (iI v) 1)) = jn (rD P) := jn_ne (by decide)
        have hj10 := hW.1.1.2
        refine ⟨⟨?_, ?_, ?_, ?_, ?_, ?_, ?_, ?_, ?_⟩, ?_, ?_, ?_, ?_, ?_⟩
        · rw [up2_s (by decide), g _ (by decide)]; exact t1
        · rw [up2_s (by decide)]; exact t2
        · rw [up2_s (by decide)]; exact t3
        · rw [up2_s (by decide)]; exact t4
        · rw [up2_at, gk]
        · rw [up2_s (by decide), g _ (by decide)]; exact t6
        · rw [up2_s (by decide), g _ (by decide)]; exact t7
        · rw [up2_s (by decide), g _ (by decide)]; exact t8
        · rw [up2_s (by decide), g _ (by decide)]; exact t9
        · intro k hk
          rw [jj] at hk
          rw [up2_c (by omega), up2_c (by omega), up2_c (by omega), up2_c (by omega), g _ (by omega), g _ (by omega), g _ (by omega), g _ (by omega)]
          exact u1 k hk
        · intro k hk
          rw [up2_c (by omega), up2_c (by omega), up2_c (by omega), up2_c (by omega)]
          exact u2 k hk
        · intro k hk
          rw [up2_c (by omega), up2_c (by omega)]
          exact u3 k hk
        · rw [up2_c (by omega), up2_c (by omega)]; exact u4
        · exact ⟨u5.1.fr (fun c h1 h2 => up2_ne (by omega)), u5.2.1.fr (fun c h1 h2 => up2_ne (by omega)), u5.2.2.fr (fun c h1 h2 => up2_ne (by omega))⟩
      · exact f1.trans (LnF.nm.trans (LnF.up (by omega) (by omega)))
  · have e2 : (2 : Nat) ^ 0 = 1 := by decide
    obtain ⟨M1, hf, hc⟩ := isFirst_f (d := d + 2) (M := M) (R := R) (t := tL P) (k := 0) (p := w) hS h7 ht (by decide) c
    rw [e2] at hf
    refine ⟨fun P' i' h => (by cases h), fun k' p' h => ?_⟩
    cases h
    refine ⟨M1, ?_, hc.ln⟩
    simp (disch := first | assumption | exact nar_b0 | exact nar_b1 | exact nar_b | exact Or.inl rfl | exact Or.inr rfl | exact zin_t (by omega) (by omega) | exact Nat.le_of_ble_eq_true rfl | (rw [nI_cl (by omega)]; assumption) | omega) only [↓reduceIte, reduceCtorEq, not_true_eq_false, not_false_eq_true, q32_0, q32_1, q32_4, q32_5, q32_6, q32_8, q32_11, q32_14, q32_15, q32_16, q32_17, q32_20, q32_21, q32_22, q32_24, q32_27, q32_30, q32_31, q32_32, q32_33, q32_36, q32_37, q32_38, q32_40, q32_43, q32_46, q32_47, q32_48, q32_49, q32_52, q32_55, q32_56, q32_57, q32_60, q32_63, q32_64, q32_67, q32_68, q32_69, q32_70, q32_72, q32_75, q32_78, q32_79, q32_80, q32_81, q32_84, q32_87, q32_88, q32_89, q32_92, q32_95, q32_96, q32_99, q32_100, q32_101, q32_102, q32_104, q32_107, q32_110, q32_111, q32_112, q32_113, q32_116, q32_119, q32_120, q32_121, q32_124, q32_127, q32_128, q32_131, q32_132, q32_133, q32_134, q32_136, q32_139, q32_142, q32_143, q32_144, q32_147, q32_148, q32_150, q32_151, q32_154, q32_155, q32_156, q32_158, q32_161, q32_164, q32_165, q32_168, q32_171, q32_172, q32_173, q32_176, q32_179, q32_180, q32_183, q32_186, q32_187, q32_190, q32_191, q32_194, q32_197, q32_198, q32_201, q32_202, q32_203, q32_204, q32_206, q32_209, q32_212, q32_213, q32_215, q32_216, q32_219, q32_222, q32_223, q32_224, q32_227, q32_228, q32_231, q32_234, q32_235, q32_238, q32_239, q32_240, q32_241, q32_243, q32_246, q32_249, q32_250, q32_252, q32_253, q32_256, q32_259, q32_260, q32_263, q32_266, q32_267, q32_270, q32_271, q32_272, q32_273, q32_274, q32_275, q32_278, kl_int, kl_ref, kl_tok, cS_nil, cS_int, cS_ref, cS_long, tl_some, tl_none, List.cons_append, List.nil_append, nI_add, nI_ltb, nI_leb, nI_eqb, nI_cl, zin_nI, hf, zk0_inl]
theorem lnSpare_ {w : Nat} (hS : Sh R) (hj : j < 10) (hP : PCx M b n i) (hC : PSC M j P) (hW : PW P) (hE : PE b n P) : LnQ R b n j (exe (d + 4) 32 78 [.ref 92, .ref (tb j), .int (nI w)] [] M R) M i (onc P 1 w (mp (pNum b n i false 0 3) (fun v => rdP P 3 (iI v) 2))) := by
  obtain ⟨nN, k92, k93, l93, k94, k95, l95, k96, l96, k97, l97, k98, k99, l99, k100, l100, k101, l101, k102, k103, l103, k104, l104, k105, l105, f92_0, f92_1, f94_0, f94_1, f94_2, f92_2, f98_0, f98_1, f98_2, f92_3, f102_0, f102_1, f102_2⟩ := parF hS
  obtain ⟨nN_j, tlt_j, kt0_j, kt1_j, lt1_j, kt2_j, lt2_j, kt3_j, lt3_j, kt4_j, lt4_j, kt5_j, lt5_j, kt6_j, lt6_j, kt7_j, lt7_j, kt8_j, lt8_j, ft0_0_j, ft1_0_j, ft1_1_j, ft0_1_j, ft0_2_j, ft0_3_j, ft0_4_j, ft0_5_j⟩ := tabF hS hj
  have htj := tb_lt hj
  have hn := hP.2.2.1
  have h7 : M 92 7 = nI (tL P) := hC.2.2.2.2.1.1
  have ht := hW.2.2.2.2.2.1
  have z1 : ¬ 1 = 0 := by decide
  unfold onc
  cases c : (tL P).testBit 1
  · have hf := isFirst_t (d := d + 2) (M := M) (R := R) (t := tL P) (k := 1) (p := nI w) hS h7 ht (by decide) c
    have e2 : (2 : Nat) ^ 1 = 2 := by decide
    rw [e2] at hf
    generalize hM1 : up2 M 92 7 (nI (tL P ||| 2)) = M1 at hf
    have hP1 : PCx M1 b n i := by rw [← hM1]; exact hP.u7
    have hC1 : PSC M1 j (rD P, fI P, fN P, tL P ||| 2, gR P, cA P, cB P, cC P) := by rw [← hM1]; exact hC.tl hj
    have f1 : LnF j M M1 := by rw [← hM1]; exact fun c a _ _ => up2_ne a
    have hlo : nI 0 = iI 0 := rfl
    have hhi : nI 3 = iI 3 := rfl
    simp only [Bool.false_eq_true, if_false]
    unfold mp
    cases hp : pNum b n i false 0 3 with
    | inl f =>
      obtain ⟨k, p⟩ := f
      obtain ⟨M2, g1, g2⟩ := readNumber_f (d := d + 1) (R := R) hS hP1 hlo hhi (by decide) (by decide) (by decide) hp
      refine ⟨fun P' i' h => (by cases h), fun k' p' h => ?_⟩
      cases h
      refine ⟨up2 M2 (tb j) 11 (M2 92 6), ?_, ?_⟩
      · have hr : cal (d + 3) 38 [.ref 92, .ref (tb j)] M1 R = some (.inl (some (.int (nI 0))), up2 M2 (tb j) 11 (M2 92 6), R) := by
          rw [e38]
          simp (disch := first | assumption | exact nar_b0 | exact nar_b1 | exact nar_b | exact Or.inl rfl | exact Or.inr rfl | exact zin_t (by omega) (by omega) | exact Nat.le_of_ble_eq_true rfl | (rw [nI_cl (by omega)]; assumption) | omega) only [↓reduceIte, reduceCtorEq, not_true_eq_false, not_false_eq_true, q38_0, q38_1, q38_2, q38_3, q38_6, q38_7, q38_8, q38_9, q38_12, q38_15, q38_16, kl_int, kl_ref, kl_tok, cS_nil, cS_int, cS_ref, cS_long, tl_some, tl_none, List.cons_append, List.nil_append, nI_add, nI_ltb, nI_leb, nI_eqb, nI_cl, zin_nI, g1, zk0_inl]
        simp (disch := first | assumption | exact nar_b0 | exact nar_b1 | exact nar_b | exact Or.inl rfl | exact Or.inr rfl | exact zin_t (by omega) (by omega) | exact Nat.le_of_ble_eq_true rfl | (rw [nI_cl (by omega)]; assumption) | omega) only [↓reduceIte, reduceCtorEq, not_true_eq_false, not_false_eq_true, q32_0, q32_1, q32_4, q32_5, q32_6, q32_8, q32_11, q32_14, q32_15, q32_16, q32_17, q32_20, q32_21, q32_22, q32_24, q32_27, q32_30, q32_31, q32_32, q32_33, q32_36, q32_37, q32_38, q32_40, q32_43, q32_46, q32_47, q32_48, q32_49, q32_52, q32_55, q32_56, q32_57, q32_60, q32_63, q32_64, q32_67, q32_68, q32_69, q32_70, q32_72, q32_75, q32_78, q32_79, q32_80, q32_81, q32_84, q32_87, q32_88, q32_89, q32_92, q32_95, q32_96, q32_99, q32_100, q32_101, q32_102, q32_104, q32_107, q32_110, q32_111, q32_112, q32_113, q32_116, q32_119, q32_120, q32_121, q32_124, q32_127, q32_128, q32_131, q32_132, q32_133, q32_134, q32_136, q32_139, q32_142, q32_143, q32_144, q32_147, q32_148, q32_150, q32_151, q32_154, q32_155, q32_156, q32_158, q32_161, q32_164, q32_165, q32_168, q32_171, q32_172, q32_173, q32_176, q32_179, q32_180, q32_183, q32_186, q32_187, q32_190, q32_191, q32_194, q32_197, q32_198, q32_201, q32_202, q32_203, q32_204, q32_206, q32_209, q32_212, q32_213, q32_215, q32_216, q32_219, q32_222, q32_223, q32_224, q32_227, q32_228, q32_231, q32_234, q32_235, q32_238, q32_239, q32_240, q32_241, q32_243, q32_246, q32_249, q32_250, q32_252, q32_253, q32_256, q32_259, q32_260, q32_263, q32_266, q32_267, q32_270, q32_271, q32_272, q32_273, q32_274, q32_275, q32_278, kl_int, kl_ref, kl_tok, cS_nil, cS_int, cS_ref, cS_long, tl_some, tl_none, List.cons_append, List.nil_append, nI_add, nI_ltb, nI_leb, nI_eqb, nI_cl, zin_nI, hf, hr, zk0_inl, z1]
      · refine LnE.after f1 (⟨?_, ?_, ?_⟩ : LnE j M1 _ k p)
        · rw [up2_c (by omega)]; exact g2.1
        · rw [up2_c (by omega)]; exact g2.2.1
        · exact (g2.ln).2.2.trans (LnF.up (by omega) (by omega))
    | inr w2 =>
      obtain ⟨v, i1⟩ := w2
      have pp := pNum_pos hn.1 hp
      have g1 := readNumber_t (d := d + 1) (R := R) hS hP1 hlo hhi (by decide) (by decide) (by decide) hp
      have s6 : nmM M1 i1 v 92 6 = iI v := nmM_6
      have vn := toNat_iI (v := v) (by omega)
      refine ⟨fun P' i' h => ?_, fun k p h => (by cases h)⟩
      cases h
      refine ⟨by omega, pp.2.1, ?_, ?_, up2 (nmM M1 i1 v) (tb j) 11 (iI v), ?_, ?_, ?_, ?_⟩
      · exact hW.rd (by decide) (Or.inr (Or.inl ⟨rfl, v.toNat, vn, by omega⟩))
      · exact hE.or (k := 1) (by rw [e2]; rfl) (by decide) (by decide) (by decide) rfl rfl rfl
      · have hr : cal (d + 3) 38 [.ref 92, .ref (tb j)] M1 R = some (.inl (some (.int (nI 1))), up2 (nmM M1 i1 v) (tb j) 11 (iI v), R) := by
          rw [e38]
          simp (disch := first | assumption | exact nar_b0 | exact nar_b1 | exact nar_b | exact Or.inl rfl | exact Or.inr rfl | exact zin_t (by omega) (by omega) | exact Nat.le_of_ble_eq_true rfl | (rw [nI_cl (by omega)]; assumption) | omega) only [↓reduceIte, reduceCtorEq, not_true_eq_false, not_false_eq_true, q38_0, q38_1, q38_2, q38_3, q38_6, q38_7, q38_8, q38_9, q38_12, q38_15, q38_16, kl_int, kl_ref, kl_tok, cS_nil, cS_int, cS_ref, cS_long, tl_some, tl_none, List.cons_append, List.nil_append, nI_add, nI_ltb, nI_leb, nI_eqb, nI_cl, zin_nI, g1, zk0_inl, s6]
        simp (disch := first | assumption | exact nar_b0 | exact nar_b1 | exact nar_b | exact Or.inl rfl | exact Or.inr rfl | exact zin_t (by omega) (by omega) | exact Nat.le_of_ble_eq_true rfl | (rw [nI_cl (by omega)]; assumption) | omega) only [↓reduceIte, reduceCtorEq, not_true_eq_false, not_false_eq_true, q32_0, q32_1, q32_4, q32_5, q32_6, q32_8, q32_11, q32_14, q32_15, q32_16, q32_17, q32_20, q32_21, q32_22, q32_24, q32_27, q32_30, q32_31, q32_32, q32_33, q32_36, q32_37, q32_38, q32_40, q32_43, q32_46, q32_47, q32_48, q32_49, q32_52, q32_55, q32_56, q32_57, q32_60, q32_63, q32_64, q32_67, q32_68, q32_69, q32_70, q32_72, q32_75, q32_78, q32_79, q32_80, q32_81, q32_84, q32_87, q32_88, q32_89, q32_92, q32_95, q32_96, q32_99, q32_100, q32_101, q32_102, q32_104, q32_107, q32_110, q32_111, q32_112, q32_113, q32_116, q32_119, q32_120, q32_121, q32_124, q32_127, q32_128, q32_131, q32_132, q32_133, q32_134, q32_136, q32_139, q32_142, q32_143, q32_144, q32_147, q32_148, q32_150, q32_151, q32_154, q32_155, q32_156, q32_158, q32_161, q32_164, q32_165, q32_168, q32_171, q32_172, q32_173, q32_176, q32_179, q32_180, q32_183, q32_186, q32_187, q32_190, q32_191, q32_194, q32_197, q32_198, q32_201, q32_202, q32_203, q32_204, q32_206, q32_209, q32_212, q32_213, q32_215, q32_216, q32_219, q32_222, q32_223, q32_224, q32_227, q32_228, q32_231, q32_234, q32_235, q32_238, q32_239, q32_240, q32_241, q32_243, q32_246, q32_249, q32_250, q32_252, q32_253, q32_256, q32_259, q32_260, q32_263, q32_266, q32_267, q32_270, q32_271, q32_272, q32_273, q32_274, q32_275, q32_278, kl_int, kl_ref, kl_tok, cS_nil, cS_int, cS_ref, cS_long, tl_some, tl_none, List.cons_append, List.nil_append, nI_add, nI_ltb, nI_leb, nI_eqb, nI_cl, zin_nI, hf, hr, zk0_inl, z1]
      · exact (hP1.nm pp.2.1).fr (by rw [up2_c (by omega)]) (by rw [up2_c (by omega)]) (by rw [up2_c (by omega)]) (up2_ne (by omega))
      · obtain ⟨⟨t1, t2, t3, t4, t5, t6, t7, t8, t9⟩, u1, u2, u3, u4, u5⟩ := PSC.nm (i := i1) (v := v) hC1 hj
        have g : ∀ x, x ≠ 3 → rD (rdP P 3 (iI v) 2) x = rD P x := fun x hx => upf_ne hx
        have gk : rD (rdP P 3 (iI v) 2) 3 = iI v := by show upf (rD P) 3 (iI v) 3 = _; exact upf_at
        have jj : jn (rD (rdP P 3 (iI v) 2)) = jn (rD P) := jn_ne (by decide)
        have hj10 := hW.1.1.2
        refine ⟨⟨?_, ?_, ?_, ?_, ?_, ?_, ?_, ?_, ?_⟩, ?_, ?_, ?_, ?_, ?_⟩
        · rw [up2_s (by decide), g _ (by decide)]; exact t1
        · rw [up2_s (by decide)]; exact t2
        · rw [up2_s (by decide)]; exact t3
        · rw [up2_s (by decide)]; exact t4
        · rw [up2_s (by decide), g _ (by decide)]; exact t5
        · rw [up2_at, gk]
        · rw [up2_s (by decide), g _ (by decide)]; exact t7
        · rw [up2_s (by decide), g _ (by decide)]; exact t8
        · rw [up2_s (by decide), g _ (by decide)]; exact t9
        · intro k hk
          rw [jj] at hk
          rw [up2_c (by omega), up2_c (by omega), up2_c (by omega), up2_c (by omega), g _ (by omega), g _ (by omega), g _ (by omega), g _ (by omega)]
          exact u1 k hk
        · intro k hk
          rw [up2_c (by omega), up2_c (by omega), up2_c (by omega), up2_c (by omega)]
          exact u2 k hk
        · intro k hk
          rw [up2_c (by omega), up2_c (by omega)]
          exact u3 k hk
        · rw [up2_c (by omega), up2_c (by omega)]; exact u4
        · exact ⟨u5.1.fr (fun c h1 h2 => up2_ne (by omega)), u5.2.1.fr (fun c h1 h2 => up2_ne (by omega)), u5.2.2.fr (fun c h1 h2 => up2_ne (by omega))⟩
      · exact f1.trans (LnF.nm.trans (LnF.up (by omega) (by omega)))
  · have e2 : (2 : Nat) ^ 1 = 2 := by decide
    obtain ⟨M1, hf, hc⟩ := isFirst_f (d := d + 2) (M := M) (R := R) (t := tL P) (k := 1) (p := w) hS h7 ht (by decide) c
    rw [e2] at hf
    refine ⟨fun P' i' h => (by cases h), fun k' p' h => ?_⟩
    cases h
    refine ⟨M1, ?_, hc.ln⟩
    simp (disch := first | assumption | exact nar_b0 | exact nar_b1 | exact nar_b | exact Or.inl rfl | exact Or.inr rfl | exact zin_t (by omega) (by omega) | exact Nat.le_of_ble_eq_true rfl | (rw [nI_cl (by omega)]; assumption) | omega) only [↓reduceIte, reduceCtorEq, not_true_eq_false, not_false_eq_true, q32_0, q32_1, q32_4, q32_5, q32_6, q32_8, q32_11, q32_14, q32_15, q32_16, q32_17, q32_20, q32_21, q32_22, q32_24, q32_27, q32_30, q32_31, q32_32, q32_33, q32_36, q32_37, q32_38, q32_40, q32_43, q32_46, q32_47, q32_48, q32_49, q32_52, q32_55, q32_56, q32_57, q32_60, q32_63, q32_64, q32_67, q32_68, q32_69, q32_70, q32_72, q32_75, q32_78, q32_79, q32_80, q32_81, q32_84, q32_87, q32_88, q32_89, q32_92, q32_95, q32_96, q32_99, q32_100, q32_101, q32_102, q32_104, q32_107, q32_110, q32_111, q32_112, q32_113, q32_116, q32_119, q32_120, q32_121, q32_124, q32_127, q32_128, q32_131, q32_132, q32_133, q32_134, q32_136, q32_139, q32_142, q32_143, q32_144, q32_147, q32_148, q32_150, q32_151, q32_154, q32_155, q32_156, q32_158, q32_161, q32_164, q32_165, q32_168, q32_171, q32_172, q32_173, q32_176, q32_179, q32_180, q32_183, q32_186, q32_187, q32_190, q32_191, q32_194, q32_197, q32_198, q32_201, q32_202, q32_203, q32_204, q32_206, q32_209, q32_212, q32_213, q32_215, q32_216, q32_219, q32_222, q32_223, q32_224, q32_227, q32_228, q32_231, q32_234, q32_235, q32_238, q32_239, q32_240, q32_241, q32_243, q32_246, q32_249, q32_250, q32_252, q32_253, q32_256, q32_259, q32_260, q32_263, q32_266, q32_267, q32_270, q32_271, q32_272, q32_273, q32_274, q32_275, q32_278, kl_int, kl_ref, kl_tok, cS_nil, cS_int, cS_ref, cS_long, tl_some, tl_none, List.cons_append, List.nil_append, nI_add, nI_ltb, nI_leb, nI_eqb, nI_cl, zin_nI, hf, zk0_inl]
theorem lnGrant_ {w : Nat} (hS : Sh R) (hj : j < 10) (hP : PCx M b n i) (hC : PSC M j P) (hW : PW P) (hE : PE b n P) : LnQ R b n j (exe (d + 4) 32 249 [.ref 92, .ref (tb j), .int (nI w)] [] M R) M i (onc P 5 w (mp (pNum b n i false 0 9) (grP P))) := by
  obtain ⟨nN, k92, k93, l93, k94, k95, l95, k96, l96, k97, l97, k98, k99, l99, k100, l100, k101, l101, k102, k103, l103, k104, l104, k105, l105, f92_0, f92_1, f94_0, f94_1, f94_2, f92_2, f98_0, f98_1, f98_2, f92_3, f102_0, f102_1, f102_2⟩ := parF hS
  obtain ⟨nN_j, tlt_j, kt0_j, kt1_j, lt1_j, kt2_j, lt2_j, kt3_j, lt3_j, kt4_j, lt4_j, kt5_j, lt5_j, kt6_j, lt6_j, kt7_j, lt7_j, kt8_j, lt8_j, ft0_0_j, ft1_0_j, ft1_1_j, ft0_1_j, ft0_2_j, ft0_3_j, ft0_4_j, ft0_5_j⟩ := tabF hS hj
  have htj := tb_lt hj
  have hn := hP.2.2.1
  have h7 : M 92 7 = nI (tL P) := hC.2.2.2.2.1.1
  have ht := hW.2.2.2.2.2.1
  have z1 : ¬ 1 = 0 := by decide
  unfold onc
  cases c : (tL P).testBit 5
  · have hf := isFirst_t (d := d + 2) (M := M) (R := R) (t := tL P) (k := 5) (p := nI w) hS h7 ht (by decide) c
    have e2 : (2 : Nat) ^ 5 = 32 := by decide
    rw [e2] at hf
    generalize hM1 : up2 M 92 7 (nI (tL P ||| 32)) = M1 at hf
    have hP1 : PCx M1 b n i := by rw [← hM1]; exact hP.u7
    have hC1 : PSC M1 j (rD P, fI P, fN P, tL P ||| 32, gR P, cA P, cB P, cC P) := by rw [← hM1]; exact hC.tl hj
    have f1 : LnF j M M1 := by rw [← hM1]; exact fun c a _ _ => up2_ne a
    have hlo : nI 0 = iI 0 := rfl
    have hhi : nI 9 = iI 9 := rfl
    simp only [Bool.false_eq_true, if_false]
    unfold mp
    cases hp : pNum b n i false 0 9 with
    | inl f =>
      obtain ⟨k, p⟩ := f
      obtain ⟨M2, g1, g2⟩ := readNumber_f (d := d + 1) (R := R) hS hP1 hlo hhi (by decide) (by decide) (by decide) hp
      refine ⟨fun P' i' h => (by cases h), fun k' p' h => ?_⟩
      cases h
      refine ⟨up2 M2 92 8 (M2 92 6), ?_, ?_⟩
      · have hr : cal (d + 3) 39 [.ref 92] M1 R = some (.inl (some (.int (nI 0))), up2 M2 92 8 (M2 92 6), R) := by
          rw [e39]
          simp (disch := first | assumption | exact nar_b0 | exact nar_b1 | exact nar_b | exact Or.inl rfl | exact Or.inr rfl | exact zin_t (by omega) (by omega) | exact Nat.le_of_ble_eq_true rfl | (rw [nI_cl (by omega)]; assumption) | omega) only [↓reduceIte, reduceCtorEq, not_true_eq_false, not_false_eq_true, q39_0, q39_1, q39_2, q39_4, q39_7, q39_8, q39_9, q39_10, q39_13, q39_16, q39_17, kl_int, kl_ref, kl_tok, cS_nil, cS_int, cS_ref, cS_long, tl_some, tl_none, List.cons_append, List.nil_append, nI_add, nI_ltb, nI_leb, nI_eqb, nI_cl, zin_nI, g1, zk0_inl]
        simp (disch := first | assumption | exact nar_b0 | exact nar_b1 | exact nar_b | exact Or.inl rfl | exact Or.inr rfl | exact zin_t (by omega) (by omega) | exact Nat.le_of_ble_eq_true rfl | (rw [nI_cl (by omega)]; assumption) | omega) only [↓reduceIte, reduceCtorEq, not_true_eq_false, not_false_eq_true, q32_0, q32_1, q32_4, q32_5, q32_6, q32_8, q32_11, q32_14, q32_15, q32_16, q32_17, q32_20, q32_21, q32_22, q32_24, q32_27, q32_30, q32_31, q32_32, q32_33, q32_36, q32_37, q32_38, q32_40, q32_43, q32_46, q32_47, q32_48, q32_49, q32_52, q32_55, q32_56, q32_57, q32_60, q32_63, q32_64, q32_67, q32_68, q32_69, q32_70, q32_72, q32_75, q32_78, q32_79, q32_80, q32_81, q32_84, q32_87, q32_88, q32_89, q32_92, q32_95, q32_96, q32_99, q32_100, q32_101, q32_102, q32_104, q32_107, q32_110, q32_111, q32_112, q32_113, q32_116, q32_119, q32_120, q32_121, q32_124, q32_127, q32_128, q32_131, q32_132, q32_133, q32_134, q32_136, q32_139, q32_142, q32_143, q32_144, q32_147, q32_148, q32_150, q32_151, q32_154, q32_155, q32_156, q32_158, q32_161, q32_164, q32_165, q32_168, q32_171, q32_172, q32_173, q32_176, q32_179, q32_180, q32_183, q32_186, q32_187, q32_190, q32_191, q32_194, q32_197, q32_198, q32_201, q32_202, q32_203, q32_204, q32_206, q32_209, q32_212, q32_213, q32_215, q32_216, q32_219, q32_222, q32_223, q32_224, q32_227, q32_228, q32_231, q32_234, q32_235, q32_238, q32_239, q32_240, q32_241, q32_243, q32_246, q32_249, q32_250, q32_252, q32_253, q32_256, q32_259, q32_260, q32_263, q32_266, q32_267, q32_270, q32_271, q32_272, q32_273, q32_274, q32_275, q32_278, kl_int, kl_ref, kl_tok, cS_nil, cS_int, cS_ref, cS_long, tl_some, tl_none, List.cons_append, List.nil_append, nI_add, nI_ltb, nI_leb, nI_eqb, nI_cl, zin_nI, hf, hr, zk0_inl, z1]
      · refine LnE.after f1 (⟨?_, ?_, ?_⟩ : LnE j M1 _ k p)
        · rw [up2_s (by decide)]; exact g2.1
        · rw [up2_s (by decide)]; exact g2.2.1
        · exact (g2.ln).2.2.trans (fun c a _ _ => up2_ne a)
    | inr w2 =>
      obtain ⟨v, i1⟩ := w2
      have pp := pNum_pos hn.1 hp
      have g1 := readNumber_t (d := d + 1) (R := R) hS hP1 hlo hhi (by decide) (by decide) (by decide) hp
      have s6 : nmM M1 i1 v 92 6 = iI v := nmM_6
      have vn := toNat_iI (v := v) (by omega)
      refine ⟨fun P' i' h => ?_, fun k p h => (by cases h)⟩
      cases h
      refine ⟨by omega, pp.2.1, ?_, ?_, up2 (nmM M1 i1 v) 92 8 (iI v), ?_, ?_, ?_, ?_⟩
      · exact hW.tl rfl rfl rfl (Nat.or_lt_two_pow (n := 8) ht (by decide)) ⟨pp.2.2.1, pp.2.2.2⟩
      · exact hE.or (k := 5) (by rw [e2]; rfl) (by decide) (by decide) (by decide) rfl rfl rfl
      · have hr : cal (d + 3) 39 [.ref 92] M1 R = some (.inl (some (.int (nI 1))), up2 (nmM M1 i1 v) 92 8 (iI v), R) := by
          rw [e39]
          simp (disch := first | assumption | exact nar_b0 | exact nar_b1 | exact nar_b | exact Or.inl rfl | exact Or.inr rfl | exact zin_t (by omega) (by omega) | exact Nat.le_of_ble_eq_true rfl | (rw [nI_cl (by omega)]; assumption) | omega) only [↓reduceIte, reduceCtorEq, not_true_eq_false, not_false_eq_true, q39_0, q39_1, q39_2, q39_4, q39_7, q39_8, q39_9, q39_10, q39_13, q39_16, q39_17, kl_int, kl_ref, kl_tok, cS_nil, cS_int, cS_ref, cS_long, tl_some, tl_none, List.cons_append, List.nil_append, nI_add, nI_ltb, nI_leb, nI_eqb, nI_cl, zin_nI, g1, zk0_inl, s6]
        simp (disch := first | assumption | exact nar_b0 | exact nar_b1 | exact nar_b | exact Or.inl rfl | exact Or.inr rfl | exact zin_t (by omega) (by omega) | exact Nat.le_of_ble_eq_true rfl | (rw [nI_cl (by omega)]; assumption) | omega) only [↓reduceIte, reduceCtorEq, not_true_eq_false, not_false_eq_true, q32_0, q32_1, q32_4, q32_5, q32_6, q32_8, q32_11, q32_14, q32_15, q32_16, q32_17, q32_20, q32_21, q32_22, q32_24, q32_27, q32_30, q32_31, q32_32, q32_33, q32_36, q32_37, q32_38, q32_40, q32_43, q32_46, q32_47, q32_48, q32_49, q32_52, q32_55, q32_56, q32_57, q32_60, q32_63, q32_64, q32_67, q32_68, q32_69, q32_70, q32_72, q32_75, q32_78, q32_79, q32_80, q32_81, q32_84, q32_87, q32_88, q32_89, q32_92, q32_95, q32_96, q32_99, q32_100, q32_101, q32_102, q32_104, q32_107, q32_110, q32_111, q32_112, q32_113, q32_116, q32_119, q32_120, q32_121, q32_124, q32_127, q32_128, q32_131, q32_132, q32_133, q32_134, q32_136, q32_139, q32_142, q32_143, q32_144, q32_147, q32_148, q32_150, q32_151, q32_154, q32_155, q32_156, q32_158, q32_161, q32_164, q32_165, q32_168, q32_171, q32_172, q32_173, q32_176, q32_179, q32_180, q32_183, q32_186, q32_187, q32_190, q32_191, q32_194, q32_197, q32_198, q32_201, q32_202, q32_203, q32_204, q32_206, q32_209, q32_212, q32_213, q32_215, q32_216, q32_219, q32_222, q32_223, q32_224, q32_227, q32_228, q32_231, q32_234, q32_235, q32_238, q32_239, q32_240, q32_241, q32_243, q32_246, q32_249, q32_250, q32_252, q32_253, q32_256, q32_259, q32_260, q32_263, q32_266, q32_267, q32_270, q32_271, q32_272, q32_273, q32_274, q32_275, q32_278, kl_int, kl_ref, kl_tok, cS_nil, cS_int, cS_ref, cS_long, tl_some, tl_none, List.cons_append, List.nil_append, nI_add, nI_ltb, nI_leb, nI_eqb, nI_cl, zin_nI, hf, hr, zk0_inl, z1]
      · exact (hP1.nm pp.2.1).fr (up2_s (by decide)) (up2_s (by decide)) (up2_s (by decide)) (up2_ne (by decide))
      · obtain ⟨t, u1, u2, u3, u4, u5⟩ := PSC.nm (i := i1) (v := v) hC1 hj
        have g : ∀ x, x ≠ 92 → up2 (nmM M1 i1 v) 92 8 (iI v) x = nmM M1 i1 v x := fun x hx => up2_ne hx
        refine ⟨?_, ?_, ?_, ?_, ?_, ?_⟩
        · rw [g _ (by omega)]; exact t
        · intro k hk; rw [g _ (by omega), g _ (by omega), g _ (by omega), g _ (by omega)]; exact u1 k hk
        · intro k hk; rw [g _ (by omega), g _ (by omega), g _ (by omega), g _ (by omega)]; exact u2 k hk
        · intro k hk; rw [g _ (by omega), g _ (by omega)]; exact u3 k hk
        · exact ⟨by rw [up2_s (by decide)]; exact u4.1, up2_at⟩
        · exact ⟨u5.1.fr (fun c h1 h2 => g c (by omega)), u5.2.1.fr (fun c h1 h2 => g c (by omega)), u5.2.2.fr (fun c h1 h2 => g c (by omega))⟩
      · exact f1.trans (LnF.nm.trans (fun c a _ _ => up2_ne a))
  · have e2 : (2 : Nat) ^ 5 = 32 := by decide
    obtain ⟨M1, hf, hc⟩ := isFirst_f (d := d + 2) (M := M) (R := R) (t := tL P) (k := 5) (p := w) hS h7 ht (by decide) c
    rw [e2] at hf
    refine ⟨fun P' i' h => (by cases h), fun k' p' h => ?_⟩
    cases h
    refine ⟨M1, ?_, hc.ln⟩
    simp (disch := first | assumption | exact nar_b0 | exact nar_b1 | exact nar_b | exact Or.inl rfl | exact Or.inr rfl | exact zin_t (by omega) (by omega) | exact Nat.le_of_ble_eq_true rfl | (rw [nI_cl (by omega)]; assumption) | omega) only [↓reduceIte, reduceCtorEq, not_true_eq_false, not_false_eq_true, q32_0, q32_1, q32_4, q32_5, q32_6, q32_8, q32_11, q32_14, q32_15, q32_16, q32_17, q32_20, q32_21, q32_22, q32_24, q32_27, q32_30, q32_31, q32_32, q32_33, q32_36, q32_37, q32_38, q32_40, q32_43, q32_46, q32_47, q32_48, q32_49, q32_52, q32_55, q32_56, q32_57, q32_60, q32_63, q32_64, q32_67, q32_68, q32_69, q32_70, q32_72, q32_75, q32_78, q32_79, q32_80, q32_81, q32_84, q32_87, q32_88, q32_89, q32_92, q32_95, q32_96, q32_99, q32_100, q32_101, q32_102, q32_104, q32_107, q32_110, q32_111, q32_112, q32_113, q32_116, q32_119, q32_120, q32_121, q32_124, q32_127, q32_128, q32_131, q32_132, q32_133, q32_134, q32_136, q32_139, q32_142, q32_143, q32_144, q32_147, q32_148, q32_150, q32_151, q32_154, q32_155, q32_156, q32_158, q32_161, q32_164, q32_165, q32_168, q32_171, q32_172, q32_173, q32_176, q32_179, q32_180, q32_183, q32_186, q32_187, q32_190, q32_191, q32_194, q32_197, q32_198, q32_201, q32_202, q32_203, q32_204, q32_206, q32_209, q32_212, q32_213, q32_215, q32_216, q32_219, q32_222, q32_223, q32_224, q32_227, q32_228, q32_231, q32_234, q32_235, q32_238, q32_239, q32_240, q32_241, q32_243, q32_246, q32_249, q32_250, q32_252, q32_253, q32_256, q32_259, q32_260, q32_263, q32_266, q32_267, q32_270, q32_271, q32_272, q32_273, q32_274, q32_275, q32_278, kl_int, kl_ref, kl_tok, cS_nil, cS_int, cS_ref, cS_long, tl_some, tl_none, List.cons_append, List.nil_append, nI_add, nI_ltb, nI_leb, nI_eqb, nI_cl, zin_nI, hf, zk0_inl]
end Lp
