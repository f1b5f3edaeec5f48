-- the reference: lines that stand once
section Rq
variable {d n i : Nat} {M : ZM} {R : ZH} {b : Nat → Int32} {P : PS}
theorem isOnce_u {a j bit T : Nat} (ha : a = 1000001 + j) (hj : j < 17) (hb : bit < 8) (hS : Sh R) (hF : FO M) (hP : RCx M b n i) (hsk : sk b n i = i) (hw : wm b n i j = true) (h16 : M 127 16 = nI T) (hT : T < 256) : ∃ M' r, cal (d + 5) 132 [.ref 127, .ref a, .int (nI bit)] M R = some (.inl (some (.int (nI 1))), M', R) ∧ RSt M' b n r ∧ RLf M M' ∧ (T.testBit bit = true → r = .inl (1, i)) ∧ (T.testBit bit = false → r = .inr (i + wln j) ∧ M' = onM M (T ||| 2 ^ bit) (i + wln j)) := by
  cases ht : T.testBit bit
  · exact ⟨_, .inr (i + wln j), isOnce_t ha hj hb hS hF hP hsk hw h16 hT ht, onM_cx hP (wm_le hw), onM_f, fun h => (by cases h), fun _ => ⟨rfl, rfl⟩⟩
  · obtain ⟨M', g1, g2, g3⟩ := isOnce_f (d := d) ha hj hb hS hF hP hsk hw h16 hT ht
    exact ⟨M', .inl (1, i), g1, g2, g3, fun _ => rfl, fun h => (by cases h)⟩
theorem RPS.on {T h : Nat} (hR : RPS M P i) (hh : i ≤ h) : RPS (onM M T h) (rD P, fI P, fN P, T, gR P, cA P, cB P, cC P) h := by
  refine ⟨?_, hR.fil (onM_c (by decide)), ⟨?_, ?_, ?_⟩, hR.2.2.2.fr (onM_s (by decide) (by decide)) (onM_c (by decide)) (onM_c (by decide)) (onM_c (by decide)) hh⟩
  · intro k hk; rw [onM_c (by decide)]; exact hR.1 k hk
  · unfold onM; rw [up2_s (by decide)]; exact up2_at
  · rw [onM_s (by decide) (by decide)]; exact hR.2.2.1.2.1
  · rw [onM_s (by decide) (by decide)]; exact hR.2.2.1.2.2
theorem onc_t {bit i : Nat} {r : PR PS} (h : (tL P).testBit bit = true) : onc P bit i r = .inl (1, i) := by
  unfold onc; rw [if_pos h]
theorem onc_f {bit i : Nat} {r : PR PS} (h : (tL P).testBit bit = false) : onc P bit i r = r := by
  unfold onc; rw [h]; rfl
/-- a number that is read -/
theorem nm_line {a j bit kk : Nat} {lo hi : Int} {l' h' : Int32} (ha : a = 1000001 + j) (hj : j < 17) (hl : wln j = 5) (hb : bit < 8) (hl' : l' = iI lo) (hh' : h' = iI hi) (h1 : -1000 ≤ lo ∧ lo ≤ 1000) (h2 : -1000 ≤ hi ∧ hi ≤ 1000) (hS : Sh R) (hF : FO M) (hP : RCx M b n i) (hsk : sk b n i = i) (hQ : QW P) (hR : RPS M P i) (w : wm b n i j = true)
    (hx : ∀ M1 x M2, cal (d + 24) 132 [.ref 127, .ref a, .int (nI bit)] M R = some (.inl (some (.int (nI 1))), M1, R) → cal (d + 24) 123 [.ref 127, .int (nI 0), .int l', .int h'] M1 R = some (.inl (some (.int x)), M2, R) → exe (d + 25) 137 0 [.ref 127] [] M R = exe (d + 25) 137 234 [.ref 127] [] (up2 M2 130 kk x) R) :
    RBd R b n (d + 25) M (onc P bit i (mp (pNum b n (i + 5) false lo hi) (fun v => rdP P kk (iI v) (2 ^ bit)))) := by
  have hwl := wm_le w
  rw [hl] at hwl
  obtain ⟨M1, r, g1, g2, g3, g4, g5⟩ := isOnce_u (d := d + 19) ha hj hb hS hF hP hsk w hR.2.2.1.1 hQ.2.2
  rw [hl] at g5
  obtain ⟨x, M2, e1, e2, e3, e4⟩ := number_u (d := d + 22) (sg := false) (s' := nI 0) rfl hl' hh' hS g2 h1 h2
  have hx := hx M1 x M2 g1 e1
  have e3' := e3.u (c := 130) (k := kk) (v := x) (by decide) (by decide)
  cases ht : (tL P).testBit bit
  · rw [onc_f ht]
    obtain ⟨r1, r2⟩ := g5 ht
    subst r1
    rw [pN_inr] at e3' e4
    have hR1 := hR.on (T := tL P ||| 2 ^ bit) (h := i + 5) (by omega)
    rw [← r2] at hR1
    cases e : pNum b n (i + 5) false lo hi with
    | inl f =>
      rw [e] at e3'
      exact RBd.f hx ((g3.trans e2.lf).trans RVf.u.lf) e3'
    | inr q =>
      obtain ⟨v, i'⟩ := q
      rw [e] at e3'
      have ev := e4 v i' e
      have ep := pNum_pos (by omega) e
      subst ev
      refine RBd.t hx ((g3.trans e2.lf).trans RVf.u.lf) e3' ?_
      refine hR1.vf (e2.vf.trans RVf.u) ?_ (by omega)
      rw [up2_rwf, e2.1 _ (by decide)]
      exact upf_cg hR1.1
  · rw [onc_t ht]
    have r1 := g4 ht
    subst r1
    exact RBd.f hx ((g3.trans e2.lf).trans RVf.u.lf) e3'
theorem ln_seats (hS : Sh R) (hF : FO M) (hP : RCx M b n i) (hsk : sk b n i = i) (hQ : QW P) (hR : RPS M P i) (w0 : wm b n i 0 = false) (w1 : wm b n i 1 = false) (w : wm b n i 2 = true) : RBd R b n (d + 25) M (onc P 0 i (mp (pNum b n (i + 5) false 1 6) (fun v => rdP P 2 (iI v) 1))) := by
  obtain ⟨nN, k127, k128, l128, k129, l129, k130, l130, k131, l131, k132, l132, k133, l133, k134, l134, k135, l135, k136, l136, k137, l137, k138, l138, k139, l139, k140, l140, k141, l141, k142, l142, k143, l143, k144, l144, k145, l145, k146, l146, f127_1, f127_2, f127_3, f127_4, f127_6, f127_7, f127_17, f127_18, f127_19, f127_22, f127_24, f127_25, f127_26, f127_29, f127_30, f127_31, f127_32, f127_33⟩ := modF hS
  refine nm_line (a := 1000003) (j := 2) (bit := 0) (kk := 2) (lo := 1) (hi := 6) (l' := nI 1) (h' := nI 6) rfl (by decide) rfl (by decide) rfl rfl (by decide) (by decide) hS hF hP hsk hQ hR w ?_
  intro M1 x M2 g1 g2
  rw [pre_76 hS hF hP hsk w0 w1]
  simp (disch := first | assumption | exact nar_b0 | exact nar_b1 | exact nar_b | exact Or.inl rfl | exact Or.inr rfl | exact zin_t (by omega) (by omega) | exact Nat.le_of_ble_eq_true rfl | (rw [nI_cl (by omega)]; assumption) | omega) only [↓reduceIte, reduceCtorEq, not_true_eq_false, not_false_eq_true, q137_0, q137_1, q137_3, q137_6, q137_9, q137_10, q137_11, q137_12, q137_15, q137_16, q137_17, q137_19, q137_20, q137_23, q137_24, q137_25, q137_28, q137_29, q137_32, q137_33, q137_34, q137_35, q137_36, q137_37, q137_38, q137_41, q137_42, q137_44, q137_47, q137_50, q137_51, q137_52, q137_53, q137_56, q137_57, q137_59, q137_62, q137_63, q137_66, q137_69, q137_70, q137_73, q137_76, q137_77, q137_79, q137_80, q137_83, q137_86, q137_87, q137_90, q137_91, q137_92, q137_93, q137_94, q137_96, q137_99, q137_100, q137_103, q137_104, q137_106, q137_107, q137_110, q137_113, q137_114, q137_117, q137_118, q137_119, q137_120, q137_121, q137_122, q137_125, q137_126, q137_129, q137_130, q137_132, q137_133, q137_136, q137_139, q137_140, q137_143, q137_146, q137_147, q137_149, q137_150, q137_153, q137_156, q137_157, q137_160, q137_161, q137_162, q137_163, q137_166, q137_167, q137_169, q137_170, q137_173, q137_176, q137_177, q137_178, q137_181, q137_184, q137_185, q137_187, q137_188, q137_191, q137_194, q137_195, q137_196, q137_197, q137_198, q137_200, q137_203, q137_206, q137_209, q137_210, q137_212, q137_215, q137_218, q137_219, q137_222, q137_225, q137_226, q137_227, q137_228, q137_231, q137_235, q137_237, q137_240, kl_int, kl_ref, kl_tok, cS_nil, cS_int, cS_ref, cS_long, tl_some, tl_none, List.cons_append, List.nil_append, nI_add, nI_ltb, nI_leb, nI_eqb, nI_cl, zin_nI, g1, g2, zk0_inl, b2i_ne1]
theorem ln_spare (hS : Sh R) (hF : FO M) (hP : RCx M b n i) (hsk : sk b n i = i) (hQ : QW P) (hR : RPS M P i) (w0 : wm b n i 0 = false) (w1 : wm b n i 1 = false) (w2 : wm b n i 2 = false) (w : wm b n i 3 = true) : RBd R b n (d + 25) M (onc P 1 i (mp (pNum b n (i + 5) false 0 3) (fun v => rdP P 3 (iI v) 2))) := by
  obtain ⟨nN, k127, k128, l128, k129, l129, k130, l130, k131, l131, k132, l132, k133, l133, k134, l134, k135, l135, k136, l136, k137, l137, k138, l138, k139, l139, k140, l140, k141, l141, k142, l142, k143, l143, k144, l144, k145, l145, k146, l146, f127_1, f127_2, f127_3, f127_4, f127_6, f127_7, f127_17, f127_18, f127_19, f127_22, f127_24, f127_25, f127_26, f127_29, f127_30, f127_31, f127_32, f127_33⟩ := modF hS
  refine nm_line (a := 1000004) (j := 3) (bit := 1) (kk := 3) (lo := 0) (hi := 3) (l' := nI 0) (h' := nI 3) rfl (by decide) rfl (by decide) rfl rfl (by decide) (by decide) hS hF hP hsk hQ hR w ?_
  intro M1 x M2 g1 g2
  rw [pre_103 hS hF hP hsk w0 w1 w2]
  simp (disch := first | assumption | exact nar_b0 | exact nar_b1 | exact nar_b | exact Or.inl rfl | exact Or.inr rfl | exact zin_t (by omega) (by omega) | exact Nat.le_of_ble_eq_true rfl | (rw [nI_cl (by omega)]; assumption) | omega) only [↓reduceIte, reduceCtorEq, not_true_eq_false, not_false_eq_true, q137_0, q137_1, q137_3, q137_6, q137_9, q137_10, q137_11, q137_12, q137_15, q137_16, q137_17, q137_19, q137_20, q137_23, q137_24, q137_25, q137_28, q137_29, q137_32, q137_33, q137_34, q137_35, q137_36, q137_37, q137_38, q137_41, q137_42, q137_44, q137_47, q137_50, q137_51, q137_52, q137_53, q137_56, q137_57, q137_59, q137_62, q137_63, q137_66, q137_69, q137_70, q137_73, q137_76, q137_77, q137_79, q137_80, q137_83, q137_86, q137_87, q137_90, q137_91, q137_92, q137_93, q137_94, q137_96, q137_99, q137_100, q137_103, q137_104, q137_106, q137_107, q137_110, q137_113, q137_114, q137_117, q137_118, q137_119, q137_120, q137_121, q137_122, q137_125, q137_126, q137_129, q137_130, q137_132, q137_133, q137_136, q137_139, q137_140, q137_143, q137_146, q137_147, q137_149, q137_150, q137_153, q137_156, q137_157, q137_160, q137_161, q137_162, q137_163, q137_166, q137_167, q137_169, q137_170, q137_173, q137_176, q137_177, q137_178, q137_181, q137_184, q137_185, q137_187, q137_188, q137_191, q137_194, q137_195, q137_196, q137_197, q137_198, q137_200, q137_203, q137_206, q137_209, q137_210, q137_212, q137_215, q137_218, q137_219, q137_222, q137_225, q137_226, q137_227, q137_228, q137_231, q137_235, q137_237, q137_240, kl_int, kl_ref, kl_tok, cS_nil, cS_int, cS_ref, cS_long, tl_some, tl_none, List.cons_append, List.nil_append, nI_add, nI_ltb, nI_leb, nI_eqb, nI_cl, zin_nI, g1, g2, zk0_inl, b2i_ne1]
theorem ln_grant (hS : Sh R) (hF : FO M) (hP : RCx M b n i) (hsk : sk b n i = i) (hQ : QW P) (hR : RPS M P i) (w0 : wm b n i 0 = false) (w1 : wm b n i 1 = false) (w2 : wm b n i 2 = false) (w3 : wm b n i 3 = false) (w4 : wm b n i 4 = false) (w5 : wm b n i 5 = false) (w7 : wm b n i 7 = false) (w : wm b n i 8 = true) : RBd R b n (d + 25) M (onc P 5 i (mp (pNum b n (i + 5) false 0 9) (grP P))) := by
  obtain ⟨nN, k127, k128, l128, k129, l129, k130, l130, k131, l131, k132, l132, k133, l133, k134, l134, k135, l135, k136, l136, k137, l137, k138, l138, k139, l139, k140, l140, k141, l141, k142, l142, k143, l143, k144, l144, k145, l145, k146, l146, f127_1, f127_2, f127_3, f127_4, f127_6, f127_7, f127_17, f127_18, f127_19, f127_22, f127_24, f127_25, f127_26, f127_29, f127_30, f127_31, f127_32, f127_33⟩ := modF hS
  have hwl := wm_le w
  have l5 : wln 8 = 5 := rfl
  obtain ⟨M1, r, g1, g2, g3, g4, g5⟩ := isOnce_u (d := d + 19) (a := 1000009) (j := 8) (bit := 5) rfl (by decide) (by decide) hS hF hP hsk w hR.2.2.1.1 hQ.2.2
  rw [l5] at g5 hwl
  obtain ⟨x, M2, e1, e2, e3, e4⟩ := number_u (d := d + 22) (sg := false) (lo := 0) (hi := 9) (s' := nI 0) (l' := nI 0) (h' := nI 9) rfl rfl rfl hS g2 (by decide) (by decide)
  have hx : exe (d + 25) 137 0 [.ref 127] [] M R = exe (d + 25) 137 234 [.ref 127] [] (up2 M2 127 21 x) R := by
    rw [pre_184 hS hF hP hsk w0 w1 w2 w3 w4 w5 w7]
    simp (disch := first | assumption | exact nar_b0 | exact nar_b1 | exact nar_b | exact Or.inl rfl | exact Or.inr rfl | exact zin_t (by omega) (by omega) | exact Nat.le_of_ble_eq_true rfl | (rw [nI_cl (by omega)]; assumption) | omega) only [↓reduceIte, reduceCtorEq, not_true_eq_false, not_false_eq_true, q137_0, q137_1, q137_3, q137_6, q137_9, q137_10, q137_11, q137_12, q137_15, q137_16, q137_17, q137_19, q137_20, q137_23, q137_24, q137_25, q137_28, q137_29, q137_32, q137_33, q137_34, q137_35, q137_36, q137_37, q137_38, q137_41, q137_42, q137_44, q137_47, q137_50, q137_51, q137_52, q137_53, q137_56, q137_57, q137_59, q137_62, q137_63, q137_66, q137_69, q137_70, q137_73, q137_76, q137_77, q137_79, q137_80, q137_83, q137_86, q137_87, q137_90, q137_91, q137_92, q137_93, q137_94, q137_96, q137_99, q137_100, q137_103, q137_104, q137_106, q137_107, q137_110, q137_113, q137_114, q137_117, q137_118, q137_119, q137_120, q137_121, q137_122, q137_125, q137_126, q137_129, q137_130, q137_132, q137_133, q137_136, q137_139, q137_140, q137_143, q137_146, q137_147, q137_149, q137_150, q137_153, q137_156, q137_157, q137_160, q137_161, q137_162, q137_163, q137_166, q137_167, q137_169, q137_170, q137_173, q137_176, q137_177, q137_178, q137_181, q137_184, q137_185, q137_187, q137_188, q137_191, q137_194, q137_195, q137_196, q137_197, q137_198, q137_200, q137_203, q137_206, q137_209, q137_210, q137_212, q137_215, q137_218, q137_219, q137_222, q137_225, q137_226, q137_227, q137_228, q137_231, q137_235, q137_237, q137_240, kl_int, kl_ref, kl_tok, cS_nil, cS_int, cS_ref, cS_long, tl_some, tl_none, List.cons_append, List.nil_append, nI_add, nI_ltb, nI_leb, nI_eqb, nI_cl, zin_nI, g1, e1, zk0_inl, b2i_ne1]
  have e3' : RSt (up2 M2 127 21 x) b n (pr (pN b n r false 0 9)) := e3.fr (up2_s (by decide)) (up2_s (by decide)) (up2_s (by decide)) (up2_s (by decide)) (up2_ne (by decide))
  have f21 : RLf M2 (up2 M2 127 21 x) := ⟨fun c a _ _ _ _ _ => up2_ne a, fun q _ _ _ _ _ _ _ a _ => up2_s a⟩
  cases ht : (tL P).testBit 5
  · rw [onc_f ht]
    obtain ⟨r1, r2⟩ := g5 ht
    subst r1
    rw [pN_inr] at e3' e4
    have hR1 := hR.on (T := tL P ||| 2 ^ 5) (h := i + 5) (by omega)
    rw [← r2] at hR1
    cases e : pNum b n (i + 5) false 0 9 with
    | inl f =>
      rw [e] at e3'
      exact RBd.f hx ((g3.trans e2.lf).trans f21) e3'
    | inr q =>
      obtain ⟨v, i'⟩ := q
      rw [e] at e3'
      have ev := e4 v i' e
      have ep := pNum_pos (by omega) e
      subst ev
      refine RBd.t hx ((g3.trans e2.lf).trans f21) e3' ?_
      have hR2 := hR1.vf e2.vf (f := rD P) (i' := i') (by rw [e2.1 _ (by decide)]; exact hR1.1) (by omega)
      refine ⟨?_, hR2.fil (up2_ne (by decide)), ⟨?_, up2_at, ?_⟩, hR2.2.2.2.fr (up2_s (by decide)) (up2_ne (by decide)) (up2_ne (by decide)) (up2_ne (by decide)) (Nat.le_refl _)⟩
      · intro k hk; rw [up2_ne (by decide)]; exact hR2.1 k hk
      · rw [up2_s (by decide)]; exact hR2.2.2.1.1
      · rw [up2_s (by decide)]; exact hR2.2.2.1.2.2
  · rw [onc_t ht]
    have r1 := g4 ht
    subst r1
    exact RBd.f hx ((g3.trans e2.lf).trans f21) e3'
theorem ln_turns (hS : Sh R) (hF : FO M) (hP : RCx M b n i) (hsk : sk b n i = i) (hQ : QW P) (hR : RPS M P i) (w0 : wm b n i 0 = false) (w1 : wm b n i 1 = false) (w2 : wm b n i 2 = false) (w3 : wm b n i 3 = false) (w : wm b n i 4 = true) : RBd R b n (d + 25) M (onc P 2 i (.inr (tuP P (tuF b n 8 0 (i + 5) 0).2.1 (tuF b n 8 0 (i + 5) 0).1, (tuF b n 8 0 (i + 5) 0).2.2))) := by
  obtain ⟨nN, k127, k128, l128, k129, l129, k130, l130, k131, l131, k132, l132, k133, l133, k134, l134, k135, l135, k136, l136, k137, l137, k138, l138, k139, l139, k140, l140, k141, l141, k142, l142, k143, l143, k144, l144, k145, l145, k146, l146, f127_1, f127_2, f127_3, f127_4, f127_6, f127_7, f127_17, f127_18, f127_19, f127_22, f127_24, f127_25, f127_26, f127_29, f127_30, f127_31, f127_32, f127_33⟩ := modF hS
  have hwl := wm_le w
  have l5 : wln 4 = 5 := rfl
  obtain ⟨M1, r, g1, g2, g3, g4, g5⟩ := isOnce_u (d := d + 19) (a := 1000005) (j := 4) (bit := 2) rfl (by decide) (by decide) hS hF hP hsk w hR.2.2.1.1 hQ.2.2
  rw [l5] at g5 hwl
  have hx : ∀ M2, cal (d + 24) 135 [.ref 127] M1 R = some (.inl none, M2, R) → exe (d + 25) 137 0 [.ref 127] [] M R = exe (d + 25) 137 234 [.ref 127] [] M2 R := by
    intro M2 e1
    rw [pre_129 hS hF hP hsk w0 w1 w2 w3]
    simp (disch := first | assumption | exact nar_b0 | exact nar_b1 | exact nar_b | exact Or.inl rfl | exact Or.inr rfl | exact zin_t (by omega) (by omega) | exact Nat.le_of_ble_eq_true rfl | (rw [nI_cl (by omega)]; assumption) | omega) only [↓reduceIte, reduceCtorEq, not_true_eq_false, not_false_eq_true, q137_0, q137_1, q137_3, q137_6, q137_9, q137_10, q137_11, q137_12, q137_15, q137_16, q137_17, q137_19, q137_20, q137_23, q137_24, q137_25, q137_28, q137_29, q137_32, q137_33, q137_34, q137_35, q137_36, q137_37, q137_38, q137_41, q137_42, q137_44, q137_47, q137_50, q137_51, q137_52, q137_53, q137_56, q137_57, q137_59, q137_62, q137_63, q137_66, q137_69, q137_70, q137_73, q137_76, q137_77, q137_79, q137_80, q137_83, q137_86, q137_87, q137_90, q137_91, q137_92, q137_93, q137_94, q137_96, q137_99, q137_100, q137_103, q137_104, q137_106, q137_107, q137_110, q137_113, q137_114, q137_117, q137_118, q137_119, q137_120, q137_121, q137_122, q137_125, q137_126, q137_129, q137_130, q137_132, q137_133, q137_136, q137_139, q137_140, q137_143, q137_146, q137_147, q137_149, q137_150, q137_153, q137_156, q137_157, q137_160, q137_161, q137_162, q137_163, q137_166, q137_167, q137_169, q137_170, q137_173, q137_176, q137_177, q137_178, q137_181, q137_184, q137_185, q137_187, q137_188, q137_191, q137_194, q137_195, q137_196, q137_197, q137_198, q137_200, q137_203, q137_206, q137_209, q137_210, q137_212, q137_215, q137_218, q137_219, q137_222, q137_225, q137_226, q137_227, q137_228, q137_231, q137_235, q137_237, q137_240, kl_int, kl_ref, kl_tok, cS_nil, cS_int, cS_ref, cS_long, tl_some, tl_none, List.cons_append, List.nil_append, nI_add, nI_ltb, nI_leb, nI_eqb, nI_cl, zin_nI, g1, e1, zk0_inl, b2i_ne1]
  cases ht : (tL P).testBit 2
  · rw [onc_f ht]
    obtain ⟨r1, r2⟩ := g5 ht
    subst r1
    have hR1 := hR.on (T := tL P ||| 2 ^ 2) (h := i + 5) (by omega)
    rw [← r2] at hR1
    obtain ⟨M2, e1, e2, e3⟩ := turnsRead_ (d := d + 23) hS g2
    have ep := tuF_pos (b := b) (n := n) 8 0 (i + 5) 0 hwl (by decide)
    have hge := sk_ge b n (tuF b n 8 0 (i + 5) 0).2.2
    refine ⟨fun P' i' h => ?_, fun k p h => (by cases h)⟩
    cases h
    refine ⟨M2, hx M2 e1, g3.trans e2.lf, ?_⟩
    rcases e3 with ⟨e3, e4⟩ | ⟨e3, e4⟩
    · refine Or.inl ⟨sk b n (tuF b n 8 0 (i + 5) 0).2.2, sk_sk ep.2.1, e3, ?_⟩
      refine hR1.vf e2 ?_ (by omega)
      rw [e4]
      exact upf_cg (upf_cg hR1.1)
    · exact Or.inr ⟨e3, e4⟩
  · rw [onc_t ht]
    have r1 := g4 ht
    subst r1
    obtain ⟨M2, e1, e2, e3⟩ := turnsRead_no (d := d + 23) hS g2
    exact RBd.f (hx M2 e1) (g3.trans e2.lf) e3
theorem ln_box (hS : Sh R) (hF : FO M) (hP : RCx M b n i) (hsk : sk b n i = i) (hQ : QW P) (hR : RPS M P i) (w0 : wm b n i 0 = false) (w1 : wm b n i 1 = false) (w2 : wm b n i 2 = false) (w3 : wm b n i 3 = false) (w4 : wm b n i 4 = false) (w : wm b n i 5 = true) : RBd R b n (d + 25) M (onc P 3 i (.inr (rdP P 4 (nI 1) 8, i + 3))) := by
  obtain ⟨nN, k127, k128, l128, k129, l129, k130, l130, k131, l131, k132, l132, k133, l133, k134, l134, k135, l135, k136, l136, k137, l137, k138, l138, k139, l139, k140, l140, k141, l141, k142, l142, k143, l143, k144, l144, k145, l145, k146, l146, f127_1, f127_2, f127_3, f127_4, f127_6, f127_7, f127_17, f127_18, f127_19, f127_22, f127_24, f127_25, f127_26, f127_29, f127_30, f127_31, f127_32, f127_33⟩ := modF hS
  have hwl := wm_le w
  have l5 : wln 5 = 3 := rfl
  obtain ⟨M1, r, g1, g2, g3, g4, g5⟩ := isOnce_u (d := d + 19) (a := 1000006) (j := 5) (bit := 3) rfl (by decide) (by decide) hS hF hP hsk w hR.2.2.1.1 hQ.2.2
  rw [l5] at g5 hwl
  have hx : exe (d + 25) 137 0 [.ref 127] [] M R = exe (d + 25) 137 234 [.ref 127] [] (up2 M1 130 4 (nI 1)) R := by
    rw [pre_146 hS hF hP hsk w0 w1 w2 w3 w4]
    simp (disch := first | assumption | exact nar_b0 | exact nar_b1 | exact nar_b | exact Or.inl rfl | exact Or.inr rfl | exact zin_t (by omega) (by omega) | exact Nat.le_of_ble_eq_true rfl | (rw [nI_cl (by omega)]; assumption) | omega) only [↓reduceIte, reduceCtorEq, not_true_eq_false, not_false_eq_true, q137_0, q137_1, q137_3, q137_6, q137_9, q137_10, q137_11, q137_12, q137_15, q137_16, q137_17, q137_19, q137_20, q137_23, q137_24, q137_25, q137_28, q137_29, q137_32, q137_33, q137_34, q137_35, q137_36, q137_37, q137_38, q137_41, q137_42, q137_44, q137_47, q137_50, q137_51, q137_52, q137_53, q137_56, q137_57, q137_59, q137_62, q137_63, q137_66, q137_69, q137_70, q137_73, q137_76, q137_77, q137_79, q137_80, q137_83, q137_86, q137_87, q137_90, q137_91, q137_92, q137_93, q137_94, q137_96, q137_99, q137_100, q137_103, q137_104, q137_106, q137_107, q137_110, q137_113, q137_114, q137_117, q137_118, q137_119, q137_120, q137_121, q137_122, q137_125, q137_126, q137_129, q137_130, q137_132, q137_133, q137_136, q137_139, q137_140, q137_143, q137_146, q137_147, q137_149, q137_150, q137_153, q137_156, q137_157, q137_160, q137_161, q137_162, q137_163, q137_166, q137_167, q137_169, q137_170, q137_173, q137_176, q137_177, q137_178, q137_181, q137_184, q137_185, q137_187, q137_188, q137_191, q137_194, q137_195, q137_196, q137_197, q137_198, q137_200, q137_203, q137_206, q137_209, q137_210, q137_212, q137_215, q137_218, q137_219, q137_222, q137_225, q137_226, q137_227, q137_228, q137_231, q137_235, q137_237, q137_240, kl_int, kl_ref, kl_tok, cS_nil, cS_int, cS_ref, cS_long, tl_some, tl_none, List.cons_append, List.nil_append, nI_add, nI_ltb, nI_leb, nI_eqb, nI_cl, zin_nI, g1, zk0_inl, b2i_ne1]
  have g2' := g2.u (c := 130) (k := 4) (v := nI 1) (by decide) (by decide)
  cases ht : (tL P).testBit 3
  · rw [onc_f ht]
    obtain ⟨r1, r2⟩ := g5 ht
    subst r1
    have hR1 := hR.on (T := tL P ||| 2 ^ 3) (h := i + 3) (by omega)
    rw [← r2] at hR1
    refine RBd.t hx (g3.trans RVf.u.lf) g2' ?_
    refine hR1.vf RVf.u ?_ (Nat.le_refl _)
    rw [up2_rwf]
    exact upf_cg hR1.1
  · rw [onc_t ht]
    have r1 := g4 ht
    subst r1
    exact RBd.f hx (g3.trans RVf.u.lf) g2'
/-- a condition is read into one of the three places -/
theorem RSG.st {M M' : ZM} {C : List Int} {s i' : Nat} {A B D st : List CdS} (h0 : RSg M C 0 A) (h1 : RSg M C 1 B) (h2 : RSg M C 2 D) (c : CdM M' (C ++ flat st)) (hl : (C ++ flat st).length ≤ i') (a : M' 135 = upf (M 135) s (nI C.length)) (a' : M' 136 = upf (M 136) s (nI (C ++ flat st).length)) : RSG M' i' (if s = 0 then st else A) (if s = 1 then st else B) (if s = 2 then st else D) := by
  have new : RSg M' (C ++ flat st) s st := Or.inr ⟨C, [], by simp, by rw [a]; exact upf_at, by rw [a']; exact upf_at⟩
  have old : ∀ (s' : Nat) (L : List CdS), s' ≠ s → RSg M C s' L → RSg M' (C ++ flat st) s' L := fun s' L hs h => RSg.app (h.fr (by rw [a]; exact upf_ne hs) (by rw [a']; exact upf_ne hs))
  refine ⟨_, c, hl, ?_, ?_, ?_⟩
  · by_cases e : s = 0
    · rw [if_pos e]; subst e; exact new
    · rw [if_neg e]; exact old _ _ (fun q => e q.symm) h0
  · by_cases e : s = 1
    · rw [if_pos e]; subst e; exact new
    · rw [if_neg e]; exact old _ _ (fun q => e q.symm) h1
  · by_cases e : s = 2
    · rw [if_pos e]; subst e; exact new
    · rw [if_neg e]; exact old _ _ (fun q => e q.symm) h2
theorem cond_rps {s : Nat} (hs : s < 3) (hS : Sh R) (hF : FO M) (hP : RCx M b n i) (hR : RPS M P i) :
    (∀ st i', pAny (pOne b n 4) b n i = .inr (st, i') → ∃ M', cal (d + 23) 131 [.ref 127, .int (nI s)] M R = some (.inl none, M', R) ∧ RCx M' b n i' ∧ RPS M' (rD P, fI P, fN P, tL P, gR P, if s = 0 then st else cA P, if s = 1 then st else cB P, if s = 2 then st else cC P) i' ∧ RDf M M') ∧
    (∀ k p, pAny (pOne b n 4) b n i = .inl (k, p) → ∃ M', cal (d + 23) 131 [.ref 127, .int (nI s)] M R = some (.inl none, M', R) ∧ RFx 510 M' b n k p ∧ RDf M M') := by
  obtain ⟨q1, q2, ⟨q3, q4, q5⟩, C, c1, c2, c3, c4, c5⟩ := hR
  obtain ⟨r1, r2⟩ := condition_ (d := d) hs hS hF hP c1 c2
  refine ⟨fun st i' h => ?_, r2⟩
  obtain ⟨⟨p1, p2, p3⟩, M', a1, a2, a3, a4, a5, a6⟩ := r1 st i' h
  refine ⟨M', a1, a2, ⟨?_, ?_, ⟨?_, ?_, ?_⟩, RSG.st c3 c4 c5 a3 p3 a4 a5⟩, a6⟩
  · intro k hk; rw [a6.1 _ (by decide) (by decide) (by decide) (by decide)]; exact q1 k hk
  · intro k hk; rw [a6.1 _ (by decide) (by decide) (by decide) (by decide)]; exact q2 k hk
  · rw [a6.2 _ (by decide) (by decide) (by decide) (by decide) (by decide) (by decide)]; exact q3
  · rw [a6.2 _ (by decide) (by decide) (by decide) (by decide) (by decide) (by decide)]; exact q4
  · rw [a6.2 _ (by decide) (by decide) (by decide) (by decide) (by decide) (by decide)]; exact q5
theorem ln_bench (hS : Sh R) (hF : FO M) (hP : RCx M b n i) (hsk : sk b n i = i) (hQ : QW P) (hR : RPS M P i) (w0 : wm b n i 0 = false) (w1 : wm b n i 1 = false) (w2 : wm b n i 2 = false) (w3 : wm b n i 3 = false) (w4 : wm b n i 4 = false) (w5 : wm b n i 5 = false) (w : wm b n i 7 = true) : RBd R b n (d + 25) M (onc P 4 i (mp (pAny (pOne b n 4) b n (i + 5)) (beP P))) := by
  obtain ⟨nN, k127, k128, l128, k129, l129, k130, l130, k131, l131, k132, l132, k133, l133, k134, l134, k135, l135, k136, l136, k137, l137, k138, l138, k139, l139, k140, l140, k141, l141, k142, l142, k143, l143, k144, l144, k145, l145, k146, l146, f127_1, f127_2, f127_3, f127_4, f127_6, f127_7, f127_17, f127_18, f127_19, f127_22, f127_24, f127_25, f127_26, f127_29, f127_30, f127_31, f127_32, f127_33⟩ := modF hS
  have hwl := wm_le w
  have l5 : wln 7 = 5 := rfl
  obtain ⟨M1, r, g1, g2, g3, g4, g5⟩ := isOnce_u (d := d + 19) (a := 1000008) (j := 7) (bit := 4) rfl (by decide) (by decide) hS hF hP hsk w hR.2.2.1.1 hQ.2.2
  rw [l5] at g5 hwl
  have hx : ∀ M2, cal (d + 24) 131 [.ref 127, .int (nI 2)] M1 R = some (.inl none, M2, R) → exe (d + 25) 137 0 [.ref 127] [] M R = exe (d + 25) 137 234 [.ref 127] [] M2 R := by
    intro M2 e1
    rw [pre_166 hS hF hP hsk w0 w1 w2 w3 w4 w5]
    simp (disch := first | assumption | exact nar_b0 | exact nar_b1 | exact nar_b | exact Or.inl rfl | exact Or.inr rfl | exact zin_t (by omega) (by omega) | exact Nat.le_of_ble_eq_true rfl | (rw [nI_cl (by omega)]; assumption) | omega) only [↓reduceIte, reduceCtorEq, not_true_eq_false, not_false_eq_true, q137_0, q137_1, q137_3, q137_6, q137_9, q137_10, q137_11, q137_12, q137_15, q137_16, q137_17, q137_19, q137_20, q137_23, q137_24, q137_25, q137_28, q137_29, q137_32, q137_33, q137_34, q137_35, q137_36, q137_37, q137_38, q137_41, q137_42, q137_44, q137_47, q137_50, q137_51, q137_52, q137_53, q137_56, q137_57, q137_59, q137_62, q137_63, q137_66, q137_69, q137_70, q137_73, q137_76, q137_77, q137_79, q137_80, q137_83, q137_86, q137_87, q137_90, q137_91, q137_92, q137_93, q137_94, q137_96, q137_99, q137_100, q137_103, q137_104, q137_106, q137_107, q137_110, q137_113, q137_114, q137_117, q137_118, q137_119, q137_120, q137_121, q137_122, q137_125, q137_126, q137_129, q137_130, q137_132, q137_133, q137_136, q137_139, q137_140, q137_143, q137_146, q137_147, q137_149, q137_150, q137_153, q137_156, q137_157, q137_160, q137_161, q137_162, q137_163, q137_166, q137_167, q137_169, q137_170, q137_173, q137_176, q137_177, q137_178, q137_181, q137_184, q137_185, q137_187, q137_188, q137_191, q137_194, q137_195, q137_196, q137_197, q137_198, q137_200, q137_203, q137_206, q137_209, q137_210, q137_212, q137_215, q137_218, q137_219, q137_222, q137_225, q137_226, q137_227, q137_228, q137_231, q137_235, q137_237, q137_240, kl_int, kl_ref, kl_tok, cS_nil, cS_int, cS_ref, cS_long, tl_some, tl_none, List.cons_append, List.nil_append, nI_add, nI_ltb, nI_leb, nI_eqb, nI_cl, zin_nI, g1, e1, zk0_inl, b2i_ne1]
  cases ht : (tL P).testBit 4
  · rw [onc_f ht]
    obtain ⟨r1, r2⟩ := g5 ht
    subst r1
    have hR1 := hR.on (T := tL P ||| 2 ^ 4) (h := i + 5) (by omega)
    rw [← r2] at hR1
    obtain ⟨c1, c2⟩ := cond_rps (d := d + 1) (s := 2) (by decide) hS (hF.lf g3) g2 hR1
    cases e : pAny (pOne b n 4) b n (i + 5) with
    | inl f =>
      obtain ⟨M2, e1, e2, e3⟩ := c2 f.1 f.2 e
      exact RBd.f (hx M2 e1) (g3.trans e3.lf) e2
    | inr q =>
      obtain ⟨st, i'⟩ := q
      obtain ⟨M2, e1, e2, e3, e4⟩ := c1 st i' e
      exact RBd.t (hx M2 e1) (g3.trans e4.lf) e2 e3
  · rw [onc_t ht]
    have r1 := g4 ht
    subst r1
    obtain ⟨M2, e1, e2, e3⟩ := condition_no (d := d + 21) (s := 2) (by decide) hS (g2 : RFx 510 M1 b n 1 i)
    exact RBd.f (hx M2 e1) (g3.trans e3.lf) e2
end Rq
