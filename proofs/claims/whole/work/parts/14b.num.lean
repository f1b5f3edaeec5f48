-- the class reads numbers, signs
def CFt (M' M : ZM) (k p : Nat) : Prop := M' 92 9 = nI k ∧ M' 92 10 = nI p ∧ ∀ c, c ≠ 92 → M' c = M c
def nmM (M : ZM) (i : Nat) (v : Int) : ZM := up2 (atM M i) 92 6 (iI v)
theorem nmM_c {M : ZM} {i c : Nat} {v : Int} (h : c ≠ 92) : nmM M i v c = M c := by unfold nmM; rw [up2_ne h, atM_c h]
theorem nmM_s {M : ZM} {i q : Nat} {v : Int} (h : q ≠ 5) (h2 : q ≠ 6) : nmM M i v 92 q = M 92 q := by unfold nmM; rw [up2_s h2, atM_s h]
theorem nmM_6 {M : ZM} {i : Nat} {v : Int} : nmM M i v 92 6 = iI v := up2_at
theorem PCx.nm {M : ZM} {b : Nat → Int32} {n i j : Nat} {v : Int} (h : PCx M b n i) (hj : j ≤ n) : PCx (nmM M j v) b n j := by
  obtain ⟨h1, h2, h3, h4⟩ := h
  refine ⟨?_, ?_, ⟨hj, h3.2⟩, ?_, ?_⟩
  · rw [nmM_s (by decide) (by decide)]; exact h1
  · unfold nmM; rw [up2_s (by decide)]; exact up2_at
  · intro k hk; rw [nmM_c (by decide)]; exact h4.1 k hk
  · rw [nmM_s (by decide) (by decide)]; exact h4.2
theorem dgs_le {b : Nat → Int32} {n i : Nat} (h : i ≤ n) : i ≤ (dgs b n i).1 ∧ (dgs b n i).1 ≤ n := by
  have := dgF_ge b (n - i) i 0
  unfold dgs
  omega
theorem nG_le {b : Nat → Int32} {n i : Nat} {sg : Bool} (h : i ≤ n) : sk b n i ≤ nG b n i sg ∧ nG b n i sg ≤ n := by
  have h1 := sk_le (b := b) h
  unfold nG
  by_cases c : nMi b n i sg = true
  · rw [if_pos c]
    have h2 : sk b n i < n := by
      unfold nMi isH at c
      rw [Bool.and_eq_true] at c
      exact (of_decide_eq_true c.2).1
    have h3 := sk_ge b n (sk b n i + 1)
    have h4 := sk_le (b := b) (n := n) (i := sk b n i + 1) (by omega)
    omega
  · rw [if_neg c]
    omega
theorem pNum_pos {b : Nat → Int32} {n i i' : Nat} {sg : Bool} {lo hi v : Int} (hi0 : i ≤ n) (h : pNum b n i sg lo hi = .inr (v, i')) : i < i' ∧ i' ≤ n ∧ lo ≤ v ∧ v ≤ hi := by
  unfold pNum at h
  have h1 := nG_le (b := b) (sg := sg) hi0
  have h2 := dgs_le (b := b) h1.2
  have h3 := sk_ge b n i
  split at h
  · cases h
  · split at h
    · rename_i e e2
      cases h
      exact ⟨by omega, h2.2, e2⟩
    · cases h
section Nb
variable {d n i : Nat} {M : ZM} {R : ZH} {b : Nat → Int32}
theorem fail_ {k p : Int32} (hS : Sh R) : cal d 31 [.ref 92, .int k, .int p] M R = some (.inl (some (.int (nI 0))), up2 (up2 M 92 9 k) 92 10 p, R) := by
  obtain ⟨nN, k92, k93, l93, k94, k95, l95, k96, l96, k97, l97, k98, k99, l99, k100, l100, k101, l101, k102, k103, l103, k104, l104, k105, l105, f92_0, f92_1, f94_0, f94_1, f94_2, f92_2, f98_0, f98_1, f98_2, f92_3, f102_0, f102_1, f102_2⟩ := parF hS
  rw [e31]
  simp (disch := first | assumption | exact nar_b0 | exact nar_b1 | exact nar_b | exact Or.inl rfl | exact Or.inr rfl | exact zin_t (by omega) (by omega) | exact Nat.le_of_ble_eq_true rfl | (rw [nI_cl (by omega)]; assumption) | omega) only [↓reduceIte, reduceCtorEq, not_true_eq_false, not_false_eq_true, q31_0, q31_1, q31_2, q31_5, q31_6, q31_7, q31_10, q31_11, kl_int, kl_ref, kl_tok, cS_nil, cS_int, cS_ref, cS_long, tl_some, tl_none, List.cons_append, List.nil_append, nI_add, nI_ltb, nI_leb, nI_eqb, nI_cl, zin_nI]
theorem CFt.mk' {M' M : ZM} {k p : Nat} (h : ∀ c, c ≠ 92 → M' c = M c) : CFt (up2 (up2 M' 92 9 (nI k)) 92 10 (nI p)) M k p := ⟨by rw [up2_s (by decide), up2_at], up2_at, fun c hc => by rw [up2_ne hc, up2_ne hc]; exact h c hc⟩
theorem minv {v x : Nat} (h1 : 48 ≤ x) (h2 : x ≤ 57) : (if 1000 < 10 * min v 1000 + x - 48 then nI 1000 else nI (10 * min v 1000 + x - 48)) = nI (min (10 * v + (x - 48)) 1000) := by
  by_cases c : 1000 < 10 * min v 1000 + x - 48
  · rw [if_pos c]
    congr 1
    omega
  · rw [if_neg c]
    congr 1
    omega
theorem rn_L {lo hv st mi : Value} {g : Nat} (hS : Sh R) : ∀ (m i v : Nat) (M : ZM), i + m = n → PCx M b n i → exe (d + 1) 47 61 [.ref 92, lo, hv, st, mi, .int (nI g), .int (nI (min v 1000)), .int (nI i)] [] M R = exe (d + 1) 47 134 [.ref 92, lo, hv, st, mi, .int (nI g), .int (nI (min (dgF b m i v).2 1000)), .int (nI (dgF b m i v).1)] [] (atM M (dgF b m i v).1) R := by
  obtain ⟨nN, k92, k93, l93, k94, k95, l95, k96, l96, k97, l97, k98, k99, l99, k100, l100, k101, l101, k102, k103, l103, k104, l104, k105, l105, f92_0, f92_1, f94_0, f94_1, f94_2, f92_2, f98_0, f98_1, f98_2, f92_3, f102_0, f102_1, f102_2⟩ := parF hS
  intro m
  induction m with
  | zero =>
    intro i v M hi hP
    obtain ⟨h4, h5, h6, h7⟩ := hP
    have z : n ≤ i := by omega
    have e : dgF b 0 i v = (i, v) := rfl
    rw [e]
    show _ = exe (d + 1) 47 134 [.ref 92, lo, hv, st, mi, .int (nI g), .int (nI (min v 1000)), .int (nI i)] [] (atM M i) R
    rw [atM_self h5]
    rw [q47_61]
    simp (disch := first | assumption | exact nar_b0 | exact nar_b1 | exact nar_b | exact Or.inl rfl | exact Or.inr rfl | exact zin_t (by omega) (by omega) | exact Nat.le_of_ble_eq_true rfl | (rw [nI_cl (by omega)]; assumption) | omega) only [↓reduceIte, reduceCtorEq, not_true_eq_false, not_false_eq_true, q47_0, q47_1, q47_4, q47_5, q47_8, q47_9, q47_10, q47_13, q47_14, q47_16, q47_19, q47_22, q47_23, q47_26, q47_27, q47_29, q47_31, q47_34, q47_35i, q47_35a, q47_36, q47_39, q47_40, q47_41, q47_44, q47_45, q47_48, q47_49, q47_52, q47_54, q47_55, q47_57, q47_59, q47_63, q47_64, q47_67, q47_70, q47_71, q47_74, q47_76, q47_77, q47_79, q47_82, q47_83, q47_86, q47_88, q47_89, q47_91, q47_94, q47_96, q47_98, q47_99, q47_100, q47_103, q47_105, q47_106, q47_107, q47_109, q47_110, q47_113, q47_116, q47_118, q47_119i, q47_119a, q47_120, q47_123, q47_124, q47_125, q47_128, q47_131, q47_135, q47_138, q47_140, q47_143, q47_144, q47_145, q47_146, q47_149, q47_152, q47_153, q47_154, q47_156, q47_159, q47_161, q47_162, q47_165, q47_167, q47_170, q47_171, q47_174, q47_175, q47_178, q47_179, q47_182, q47_183, q47_186, q47_187, q47_188, q47_189, q47_192, q47_195, q47_196, q47_199, q47_200, kl_int, kl_ref, kl_tok, cS_nil, cS_int, cS_ref, cS_long, tl_some, tl_none, List.cons_append, List.nil_append, nI_add, nI_ltb, nI_leb, nI_eqb, nI_cl, zin_nI, h4, z]
  | succ m ih =>
    intro i v M hi hP
    obtain ⟨h4, h5, h6, h7⟩ := hP
    have z : ¬ n ≤ i := by omega
    have hb := h7.1 i (by omega)
    rw [dgF]
    by_cases c : nI 48 ≤ b i ∧ b i ≤ nI 57
    · rw [if_pos c]
      obtain ⟨x, hx, x1, x2⟩ := dig c
      have c1 : ¬ b i < nI 48 := by rw [hx, nI_ltb (by omega) (by decide)]; omega
      have c2 : ¬ nI 57 < b i := by rw [hx, nI_ltb (by decide) (by omega)]; omega
      have g1 := ih (i + 1) (10 * v + ((b i).toNatClampNeg - 48)) (atM M (i + 1)) (by omega) (PCx.mv ⟨h4, h5, h6, h7⟩ (by omega))
      rw [atM_at] at g1
      rw [← g1]
      have hcl : (b i).toNatClampNeg = x := by rw [hx, nI_cl (by omega)]
      rw [hcl]
      have hm := minv (v := v) x1 x2
      have hsub : nI (10 * min v 1000 + x) - nI 48 = nI (10 * min v 1000 + x - 48) := nI_subn (by omega)
      rw [q47_61]
      simp (disch := first | assumption | exact nar_b0 | exact nar_b1 | exact nar_b | exact Or.inl rfl | exact Or.inr rfl | exact zin_t (by omega) (by omega) | exact Nat.le_of_ble_eq_true rfl | (rw [nI_cl (by omega)]; assumption) | omega) only [↓reduceIte, reduceCtorEq, not_true_eq_false, not_false_eq_true, q47_0, q47_1, q47_4, q47_5, q47_8, q47_9, q47_10, q47_13, q47_14, q47_16, q47_19, q47_22, q47_23, q47_26, q47_27, q47_29, q47_31, q47_34, q47_35i, q47_35a, q47_36, q47_39, q47_40, q47_41, q47_44, q47_45, q47_48, q47_49, q47_52, q47_54, q47_55, q47_57, q47_59, q47_63, q47_64, q47_67, q47_70, q47_71, q47_74, q47_76, q47_77, q47_79, q47_82, q47_83, q47_86, q47_88, q47_89, q47_91, q47_94, q47_96, q47_98, q47_99, q47_100, q47_103, q47_105, q47_106, q47_107, q47_109, q47_110, q47_113, q47_116, q47_118, q47_119i, q47_119a, q47_120, q47_123, q47_124, q47_125, q47_128, q47_131, q47_135, q47_138, q47_140, q47_143, q47_144, q47_145, q47_146, q47_149, q47_152, q47_153, q47_154, q47_156, q47_159, q47_161, q47_162, q47_165, q47_167, q47_170, q47_171, q47_174, q47_175, q47_178, q47_179, q47_182, q47_183, q47_186, q47_187, q47_188, q47_189, q47_192, q47_195, q47_196, q47_199, q47_200, kl_int, kl_ref, kl_tok, cS_nil, cS_int, cS_ref, cS_long, tl_some, tl_none, List.cons_append, List.nil_append, nI_add, nI_ltb, nI_leb, nI_eqb, nI_cl, zin_nI, h4, z, hb, c1, c2]
      simp (disch := first | assumption | exact nar_b0 | exact nar_b1 | exact nar_b | exact Or.inl rfl | exact Or.inr rfl | exact zin_t (by omega) (by omega) | exact Nat.le_of_ble_eq_true rfl | (rw [nI_cl (by omega)]; assumption) | omega) only [↓reduceIte, reduceCtorEq, not_true_eq_false, not_false_eq_true, q47_0, q47_1, q47_4, q47_5, q47_8, q47_9, q47_10, q47_13, q47_14, q47_16, q47_19, q47_22, q47_23, q47_26, q47_27, q47_29, q47_31, q47_34, q47_35i, q47_35a, q47_36, q47_39, q47_40, q47_41, q47_44, q47_45, q47_48, q47_49, q47_52, q47_54, q47_55, q47_57, q47_59, q47_63, q47_64, q47_67, q47_70, q47_71, q47_74, q47_76, q47_77, q47_79, q47_82, q47_83, q47_86, q47_88, q47_89, q47_91, q47_94, q47_96, q47_98, q47_99, q47_100, q47_103, q47_105, q47_106, q47_107, q47_109, q47_110, q47_113, q47_116, q47_118, q47_119i, q47_119a, q47_120, q47_123, q47_124, q47_125, q47_128, q47_131, q47_135, q47_138, q47_140, q47_143, q47_144, q47_145, q47_146, q47_149, q47_152, q47_153, q47_154, q47_156, q47_159, q47_161, q47_162, q47_165, q47_167, q47_170, q47_171, q47_174, q47_175, q47_178, q47_179, q47_182, q47_183, q47_186, q47_187, q47_188, q47_189, q47_192, q47_195, q47_196, q47_199, q47_200, kl_int, kl_ref, kl_tok, cS_nil, cS_int, cS_ref, cS_long, tl_some, tl_none, List.cons_append, List.nil_append, nI_add, nI_ltb, nI_leb, nI_eqb, nI_cl, zin_nI, hx, nI_mul, hsub, hm, h5]
      rfl
    · rw [if_neg c]
      show _ = exe (d + 1) 47 134 [.ref 92, lo, hv, st, mi, .int (nI g), .int (nI (min v 1000)), .int (nI i)] [] (atM M i) R
      rw [atM_self h5]
      by_cases c1 : b i < nI 48
      · rw [q47_61]
        simp (disch := first | assumption | exact nar_b0 | exact nar_b1 | exact nar_b | exact Or.inl rfl | exact Or.inr rfl | exact zin_t (by omega) (by omega) | exact Nat.le_of_ble_eq_true rfl | (rw [nI_cl (by omega)]; assumption) | omega) only [↓reduceIte, reduceCtorEq, not_true_eq_false, not_false_eq_true, q47_0, q47_1, q47_4, q47_5, q47_8, q47_9, q47_10, q47_13, q47_14, q47_16, q47_19, q47_22, q47_23, q47_26, q47_27, q47_29, q47_31, q47_34, q47_35i, q47_35a, q47_36, q47_39, q47_40, q47_41, q47_44, q47_45, q47_48, q47_49, q47_52, q47_54, q47_55, q47_57, q47_59, q47_63, q47_64, q47_67, q47_70, q47_71, q47_74, q47_76, q47_77, q47_79, q47_82, q47_83, q47_86, q47_88, q47_89, q47_91, q47_94, q47_96, q47_98, q47_99, q47_100, q47_103, q47_105, q47_106, q47_107, q47_109, q47_110, q47_113, q47_116, q47_118, q47_119i, q47_119a, q47_120, q47_123, q47_124, q47_125, q47_128, q47_131, q47_135, q47_138, q47_140, q47_143, q47_144, q47_145, q47_146, q47_149, q47_152, q47_153, q47_154, q47_156, q47_159, q47_161, q47_162, q47_165, q47_167, q47_170, q47_171, q47_174, q47_175, q47_178, q47_179, q47_182, q47_183, q47_186, q47_187, q47_188, q47_189, q47_192, q47_195, q47_196, q47_199, q47_200, kl_int, kl_ref, kl_tok, cS_nil, cS_int, cS_ref, cS_long, tl_some, tl_none, List.cons_append, List.nil_append, nI_add, nI_ltb, nI_leb, nI_eqb, nI_cl, zin_nI, h4, z, hb, c1]
      · have c2 : nI 57 < b i := by
          rw [Int32.lt_iff_toInt_lt] at c1 ⊢
          rw [Int32.le_iff_toInt_le, Int32.le_iff_toInt_le] at c
          omega
        rw [q47_61]
        simp (disch := first | assumption | exact nar_b0 | exact nar_b1 | exact nar_b | exact Or.inl rfl | exact Or.inr rfl | exact zin_t (by omega) (by omega) | exact Nat.le_of_ble_eq_true rfl | (rw [nI_cl (by omega)]; assumption) | omega) only [↓reduceIte, reduceCtorEq, not_true_eq_false, not_false_eq_true, q47_0, q47_1, q47_4, q47_5, q47_8, q47_9, q47_10, q47_13, q47_14, q47_16, q47_19, q47_22, q47_23, q47_26, q47_27, q47_29, q47_31, q47_34, q47_35i, q47_35a, q47_36, q47_39, q47_40, q47_41, q47_44, q47_45, q47_48, q47_49, q47_52, q47_54, q47_55, q47_57, q47_59, q47_63, q47_64, q47_67, q47_70, q47_71, q47_74, q47_76, q47_77, q47_79, q47_82, q47_83, q47_86, q47_88, q47_89, q47_91, q47_94, q47_96, q47_98, q47_99, q47_100, q47_103, q47_105, q47_106, q47_107, q47_109, q47_110, q47_113, q47_116, q47_118, q47_119i, q47_119a, q47_120, q47_123, q47_124, q47_125, q47_128, q47_131, q47_135, q47_138, q47_140, q47_143, q47_144, q47_145, q47_146, q47_149, q47_152, q47_153, q47_154, q47_156, q47_159, q47_161, q47_162, q47_165, q47_167, q47_170, q47_171, q47_174, q47_175, q47_178, q47_179, q47_182, q47_183, q47_186, q47_187, q47_188, q47_189, q47_192, q47_195, q47_196, q47_199, q47_200, kl_int, kl_ref, kl_tok, cS_nil, cS_int, cS_ref, cS_long, tl_some, tl_none, List.cons_append, List.nil_append, nI_add, nI_ltb, nI_leb, nI_eqb, nI_cl, zin_nI, h4, z, hb, c1, c2]
theorem rn_start {lo : Int} {lo' hi' : Int32} {sg : Bool} (hS : Sh R) (hP : PCx M b n i) (hlo : lo' = iI lo) (hl : -1000 < lo ∧ lo < 1000) (hsg : sg = decide (lo < 0)) : cal (d + 1) 47 [.ref 92, .int lo', .int hi'] M R = exe (d + 1) 47 134 [.ref 92, .int lo', .int hi', .int (nI (sk b n i)), .int (b2i (nMi b n i sg)), .int (nI (nG b n i sg)), .int (nI (min (dgs b n (nG b n i sg)).2 1000)), .int (nI (dgs b n (nG b n i sg)).1)] [] (atM M (dgs b n (nG b n i sg)).1) R := by
  obtain ⟨nN, k92, k93, l93, k94, k95, l95, k96, l96, k97, l97, k98, k99, l99, k100, l100, k101, l101, k102, k103, l103, k104, l104, k105, l105, f92_0, f92_1, f94_0, f94_1, f94_2, f92_2, f98_0, f98_1, f98_2, f92_3, f102_0, f102_1, f102_2⟩ := parF hS
  have hle := sk_le (b := b) hP.2.2.1.1
  have h500 := hP.2.2.1
  have hsk := skipBlanks_ (d := d) (R := R) hS hP
  have hP2 : PCx (atM M (sk b n i)) b n (sk b n i) := hP.mv hle
  have h5 := hP2.2.1
  have hh := isHereC_ (d := d) (R := R) (c := nI 45) hS hP2
  have key : ∀ g, g ≤ n → exe (d + 1) 47 57 [.ref 92, .int lo', .int hi', .int (nI (sk b n i)), .int (b2i (nMi b n i sg)), .int (nI g), .int (nI 0), tok] [] (atM M g) R = exe (d + 1) 47 134 [.ref 92, .int lo', .int hi', .int (nI (sk b n i)), .int (b2i (nMi b n i sg)), .int (nI g), .int (nI (min (dgs b n g).2 1000)), .int (nI (dgs b n g).1)] [] (atM M (dgs b n g).1) R := by
    intro g hg
    have h := rn_L (d := d) (lo := .int lo') (hv := .int hi') (st := .int (nI (sk b n i))) (mi := .int (b2i (nMi b n i sg))) (g := g) (b := b) hS (n - g) g 0 (atM M g) (by omega) (hP.mv hg)
    rw [atM_at] at h
    have e0 : min 0 1000 = 0 := rfl
    rw [e0] at h
    simp (disch := first | assumption | exact nar_b0 | exact nar_b1 | exact nar_b | exact Or.inl rfl | exact Or.inr rfl | exact zin_t (by omega) (by omega) | exact Nat.le_of_ble_eq_true rfl | (rw [nI_cl (by omega)]; assumption) | omega) only [↓reduceIte, reduceCtorEq, not_true_eq_false, not_false_eq_true, q47_0, q47_1, q47_4, q47_5, q47_8, q47_9, q47_10, q47_13, q47_14, q47_16, q47_19, q47_22, q47_23, q47_26, q47_27, q47_29, q47_31, q47_34, q47_35i, q47_35a, q47_36, q47_39, q47_40, q47_41, q47_44, q47_45, q47_48, q47_49, q47_52, q47_54, q47_55, q47_57, q47_59, q47_63, q47_64, q47_67, q47_70, q47_71, q47_74, q47_76, q47_77, q47_79, q47_82, q47_83, q47_86, q47_88, q47_89, q47_91, q47_94, q47_96, q47_98, q47_99, q47_100, q47_103, q47_105, q47_106, q47_107, q47_109, q47_110, q47_113, q47_116, q47_118, q47_119i, q47_119a, q47_120, q47_123, q47_124, q47_125, q47_128, q47_131, q47_135, q47_138, q47_140, q47_143, q47_144, q47_145, q47_146, q47_149, q47_152, q47_153, q47_154, q47_156, q47_159, q47_161, q47_162, q47_165, q47_167, q47_170, q47_171, q47_174, q47_175, q47_178, q47_179, q47_182, q47_183, q47_186, q47_187, q47_188, q47_189, q47_192, q47_195, q47_196, q47_199, q47_200, kl_int, kl_ref, kl_tok, cS_nil, cS_int, cS_ref, cS_long, tl_some, tl_none, List.cons_append, List.nil_append, nI_add, nI_ltb, nI_leb, nI_eqb, nI_cl, zin_nI]
    exact h
  have nb := nG_le (b := b) (n := n) (i := i) (sg := sg) hP.2.2.1.1
  rw [← key _ nb.2, e47]
  by_cases cl : lo < 0
  · have es : sg = true := by rw [hsg]; exact decide_eq_true cl
    subst es
    have c0 : ¬ nI 0 ≤ lo' := by rw [hlo, nI_iI, iI_leb (by omega) (by omega) (by omega) (by omega)]; omega
    have emi : nMi b n i true = isH b n (sk b n i) (nI 45) := rfl
    cases hc : isH b n (sk b n i) (nI 45)
    · rw [hc] at hh
      have eg : nG b n i true = sk b n i := by unfold nG; rw [emi, hc]; rfl
      rw [emi, hc, eg]
      simp (disch := first | assumption | exact nar_b0 | exact nar_b1 | exact nar_b | exact Or.inl rfl | exact Or.inr rfl | exact zin_t (by omega) (by omega) | exact Nat.le_of_ble_eq_true rfl | (rw [nI_cl (by omega)]; assumption) | omega) only [↓reduceIte, reduceCtorEq, not_true_eq_false, not_false_eq_true, q47_0, q47_1, q47_4, q47_5, q47_8, q47_9, q47_10, q47_13, q47_14, q47_16, q47_19, q47_22, q47_23, q47_26, q47_27, q47_29, q47_31, q47_34, q47_35i, q47_35a, q47_36, q47_39, q47_40, q47_41, q47_44, q47_45, q47_48, q47_49, q47_52, q47_54, q47_55, q47_59, q47_63, q47_64, q47_67, q47_70, q47_71, q47_74, q47_76, q47_77, q47_79, q47_82, q47_83, q47_86, q47_88, q47_89, q47_91, q47_94, q47_96, q47_98, q47_99, q47_100, q47_103, q47_105, q47_106, q47_107, q47_109, q47_110, q47_113, q47_116, q47_118, q47_119i, q47_119a, q47_120, q47_123, q47_124, q47_125, q47_128, q47_131, q47_134, q47_135, q47_138, q47_140, q47_143, q47_144, q47_145, q47_146, q47_149, q47_152, q47_153, q47_154, q47_156, q47_159, q47_161, q47_162, q47_165, q47_167, q47_170, q47_171, q47_174, q47_175, q47_178, q47_179, q47_182, q47_183, q47_186, q47_187, q47_188, q47_189, q47_192, q47_195, q47_196, q47_199, q47_200, kl_int, kl_ref, kl_tok, cS_nil, cS_int, cS_ref, cS_long, tl_some, tl_none, List.cons_append, List.nil_append, nI_add, nI_ltb, nI_leb, nI_eqb, nI_cl, zin_nI, hsk, zk0_inl, h5, c0, hh, b2i_0]
      rfl
    · rw [hc] at hh
      have hlt : sk b n i < n := by unfold isH at hc; exact (of_decide_eq_true hc).1
      have eg : nG b n i true = sk b n (sk b n i + 1) := by unfold nG; rw [emi, hc]; rfl
      have hP3 : PCx (atM M (sk b n i + 1)) b n (sk b n i + 1) := hP.mv (by omega)
      have hsk2 := skipBlanks_ (d := d) (R := R) hS hP3
      rw [atM_at] at hsk2
      have hat : up2 (atM M (sk b n i)) 92 5 (nI (sk b n i + 1)) = atM M (sk b n i + 1) := atM_at
      have h5b : atM M (sk b n (sk b n i + 1)) 92 5 = nI (sk b n (sk b n i + 1)) := up2_at
      have ht : b2i true = nI 1 := rfl
      have z1 : ¬ 1 = 0 := by decide
      have hle2 := sk_le (b := b) (n := n) (i := sk b n i + 1) (by omega)
      rw [emi, hc, eg]
      simp (disch := first | assumption | exact nar_b0 | exact nar_b1 | exact nar_b | exact Or.inl rfl | exact Or.inr rfl | exact zin_t (by omega) (by omega) | exact Nat.le_of_ble_eq_true rfl | (rw [nI_cl (by omega)]; assumption) | omega) only [↓reduceIte, reduceCtorEq, not_true_eq_false, not_false_eq_true, q47_0, q47_1, q47_4, q47_5, q47_8, q47_9, q47_10, q47_13, q47_14, q47_16, q47_19, q47_22, q47_23, q47_26, q47_27, q47_29, q47_31, q47_34, q47_35i, q47_35a, q47_36, q47_39, q47_40, q47_41, q47_44, q47_45, q47_48, q47_49, q47_52, q47_54, q47_55, q47_59, q47_63, q47_64, q47_67, q47_70, q47_71, q47_74, q47_76, q47_77, q47_79, q47_82, q47_83, q47_86, q47_88, q47_89, q47_91, q47_94, q47_96, q47_98, q47_99, q47_100, q47_103, q47_105, q47_106, q47_107, q47_109, q47_110, q47_113, q47_116, q47_118, q47_119i, q47_119a, q47_120, q47_123, q47_124, q47_125, q47_128, q47_131, q47_134, q47_135, q47_138, q47_140, q47_143, q47_144, q47_145, q47_146, q47_149, q47_152, q47_153, q47_154, q47_156, q47_159, q47_161, q47_162, q47_165, q47_167, q47_170, q47_171, q47_174, q47_175, q47_178, q47_179, q47_182, q47_183, q47_186, q47_187, q47_188, q47_189, q47_192, q47_195, q47_196, q47_199, q47_200, kl_int, kl_ref, kl_tok, cS_nil, cS_int, cS_ref, cS_long, tl_some, tl_none, List.cons_append, List.nil_append, nI_add, nI_ltb, nI_leb, nI_eqb, nI_cl, zin_nI, hsk, zk0_inl, h5, c0, hh, b2i_0, z1, hat, hsk2, h5b, ht]
  · have es : sg = false := by rw [hsg]; exact decide_eq_false cl
    subst es
    have c0 : nI 0 ≤ lo' := by rw [hlo, nI_iI, iI_leb (by omega) (by omega) (by omega) (by omega)]; omega
    have emi : nMi b n i false = false := rfl
    have eg : nG b n i false = sk b n i := rfl
    rw [emi, eg]
    simp (disch := first | assumption | exact nar_b0 | exact nar_b1 | exact nar_b | exact Or.inl rfl | exact Or.inr rfl | exact zin_t (by omega) (by omega) | exact Nat.le_of_ble_eq_true rfl | (rw [nI_cl (by omega)]; assumption) | omega) only [↓reduceIte, reduceCtorEq, not_true_eq_false, not_false_eq_true, q47_0, q47_1, q47_4, q47_5, q47_8, q47_9, q47_10, q47_13, q47_14, q47_16, q47_19, q47_22, q47_23, q47_26, q47_27, q47_29, q47_31, q47_34, q47_35i, q47_35a, q47_36, q47_39, q47_40, q47_41, q47_44, q47_45, q47_48, q47_49, q47_52, q47_54, q47_55, q47_59, q47_63, q47_64, q47_67, q47_70, q47_71, q47_74, q47_76, q47_77, q47_79, q47_82, q47_83, q47_86, q47_88, q47_89, q47_91, q47_94, q47_96, q47_98, q47_99, q47_100, q47_103, q47_105, q47_106, q47_107, q47_109, q47_110, q47_113, q47_116, q47_118, q47_119i, q47_119a, q47_120, q47_123, q47_124, q47_125, q47_128, q47_131, q47_134, q47_135, q47_138, q47_140, q47_143, q47_144, q47_145, q47_146, q47_149, q47_152, q47_153, q47_154, q47_156, q47_159, q47_161, q47_162, q47_165, q47_167, q47_170, q47_171, q47_174, q47_175, q47_178, q47_179, q47_182, q47_183, q47_186, q47_187, q47_188, q47_189, q47_192, q47_195, q47_196, q47_199, q47_200, kl_int, kl_ref, kl_tok, cS_nil, cS_int, cS_ref, cS_long, tl_some, tl_none, List.cons_append, List.nil_append, nI_add, nI_ltb, nI_leb, nI_eqb, nI_cl, zin_nI, hsk, zk0_inl, h5, c0]
    rfl
theorem sgn_iff {mi : Bool} {v : Nat} {lo hi : Int} (hl : -1000 < lo) (hh : hi < 1000) : (lo ≤ sgn mi (min v 1000) ∧ sgn mi (min v 1000) ≤ hi) ↔ (lo ≤ sgn mi v ∧ sgn mi v ≤ hi) := by
  unfold sgn
  cases mi <;> simp <;> omega
theorem sgn_eq {mi : Bool} {v : Nat} {lo hi : Int} (hl : -1000 < lo) (hh : hi < 1000) (h : lo ≤ sgn mi v ∧ sgn mi v ≤ hi) : sgn mi (min v 1000) = sgn mi v := by
  unfold sgn at h ⊢
  cases mi <;> simp at h ⊢ <;> omega
theorem rn_mid {lo hi st : Int32} {mi : Bool} {g v i' : Nat} (hS : Sh R) (h5 : M 92 5 = nI i') (hne : ¬ i' = g) (hg : g < 1000) (hi' : i' < 1000) : exe (d + 1) 47 134 [.ref 92, .int lo, .int hi, .int st, .int (b2i mi), .int (nI g), .int (nI (min v 1000)), .int (nI i')] [] M R = exe (d + 1) 47 170 [.ref 92, .int lo, .int hi, .int st, .int (b2i mi), .int (nI g), .int (nI (min v 1000)), .int (nI i')] [] (up2 M 92 6 (iI (sgn mi (min v 1000)))) R := by
  obtain ⟨nN, k92, k93, l93, k94, k95, l95, k96, l96, k97, l97, k98, k99, l99, k100, l100, k101, l101, k102, k103, l103, k104, l104, k105, l105, f92_0, f92_1, f94_0, f94_1, f94_2, f92_2, f98_0, f98_1, f98_2, f92_3, f102_0, f102_1, f102_2⟩ := parF hS
  cases mi
  · have e : iI (sgn false (min v 1000)) = nI (min v 1000) := rfl
    rw [e]
    simp (disch := first | assumption | exact nar_b0 | exact nar_b1 | exact nar_b | exact Or.inl rfl | exact Or.inr rfl | exact zin_t (by omega) (by omega) | exact Nat.le_of_ble_eq_true rfl | (rw [nI_cl (by omega)]; assumption) | omega) only [↓reduceIte, reduceCtorEq, not_true_eq_false, not_false_eq_true, q47_0, q47_1, q47_4, q47_5, q47_8, q47_9, q47_10, q47_13, q47_14, q47_16, q47_19, q47_22, q47_23, q47_26, q47_27, q47_29, q47_31, q47_34, q47_35i, q47_35a, q47_36, q47_39, q47_40, q47_41, q47_44, q47_45, q47_48, q47_49, q47_52, q47_54, q47_55, q47_57, q47_59, q47_63, q47_64, q47_67, q47_70, q47_71, q47_74, q47_76, q47_77, q47_79, q47_82, q47_83, q47_86, q47_88, q47_89, q47_91, q47_94, q47_96, q47_98, q47_99, q47_100, q47_103, q47_105, q47_106, q47_107, q47_109, q47_110, q47_113, q47_116, q47_118, q47_119i, q47_119a, q47_120, q47_123, q47_124, q47_125, q47_128, q47_131, q47_134, q47_135, q47_138, q47_140, q47_143, q47_144, q47_145, q47_146, q47_149, q47_152, q47_153, q47_154, q47_156, q47_159, q47_161, q47_162, q47_165, q47_167, q47_171, q47_174, q47_175, q47_178, q47_179, q47_182, q47_183, q47_186, q47_187, q47_188, q47_189, q47_192, q47_195, q47_196, q47_199, q47_200, kl_int, kl_ref, kl_tok, cS_nil, cS_int, cS_ref, cS_long, tl_some, tl_none, List.cons_append, List.nil_append, nI_add, nI_ltb, nI_leb, nI_eqb, nI_cl, zin_nI, h5, hne, b2i_0]
  · have e : iI (sgn true (min v 1000)) = - nI (min v 1000) := by rw [nI_iI, iI_neg]; rfl
    rw [e]
    simp (disch := first | assumption | exact nar_b0 | exact nar_b1 | exact nar_b | exact Or.inl rfl | exact Or.inr rfl | exact zin_t (by omega) (by omega) | exact Nat.le_of_ble_eq_true rfl | (rw [nI_cl (by omega)]; assumption) | omega) only [↓reduceIte, reduceCtorEq, not_true_eq_false, not_false_eq_true, q47_0, q47_1, q47_4, q47_5, q47_8, q47_9, q47_10, q47_13, q47_14, q47_16, q47_19, q47_22, q47_23, q47_26, q47_27, q47_29, q47_31, q47_34, q47_35i, q47_35a, q47_36, q47_39, q47_40, q47_41, q47_44, q47_45, q47_48, q47_49, q47_52, q47_54, q47_55, q47_57, q47_59, q47_63, q47_64, q47_67, q47_70, q47_71, q47_74, q47_76, q47_77, q47_79, q47_82, q47_83, q47_86, q47_88, q47_89, q47_91, q47_94, q47_96, q47_98, q47_99, q47_100, q47_103, q47_105, q47_106, q47_107, q47_109, q47_110, q47_113, q47_116, q47_118, q47_119i, q47_119a, q47_120, q47_123, q47_124, q47_125, q47_128, q47_131, q47_134, q47_135, q47_138, q47_140, q47_143, q47_144, q47_145, q47_146, q47_149, q47_152, q47_153, q47_154, q47_156, q47_159, q47_161, q47_162, q47_165, q47_167, q47_171, q47_174, q47_175, q47_178, q47_179, q47_182, q47_183, q47_186, q47_187, q47_188, q47_189, q47_192, q47_195, q47_196, q47_199, q47_200, kl_int, kl_ref, kl_tok, cS_nil, cS_int, cS_ref, cS_long, tl_some, tl_none, List.cons_append, List.nil_append, nI_add, nI_ltb, nI_leb, nI_eqb, nI_cl, zin_nI, h5, hne, b2i_0]
theorem readNumber_t {lo hi v : Int} {lo' hi' : Int32} {sg : Bool} {i' : Nat} (hS : Sh R) (hP : PCx M b n i) (hlo : lo' = iI lo) (hhi : hi' = iI hi) (hl : -1000 < lo ∧ lo < 1000) (hh : -1000 < hi ∧ hi < 1000) (hsg : sg = decide (lo < 0)) (h : pNum b n i sg lo hi = .inr (v, i')) : cal (d + 1) 47 [.ref 92, .int lo', .int hi'] M R = some (.inl (some (.int (nI 1))), nmM M i' v, R) := by
  obtain ⟨nN, k92, k93, l93, k94, k95, l95, k96, l96, k97, l97, k98, k99, l99, k100, l100, k101, l101, k102, k103, l103, k104, l104, k105, l105, f92_0, f92_1, f94_0, f94_1, f94_2, f92_2, f98_0, f98_1, f98_2, f92_3, f102_0, f102_1, f102_2⟩ := parF hS
  have h500 := hP.2.2.1
  have nb := nG_le (b := b) (n := n) (i := i) (sg := sg) hP.2.2.1.1
  have db := dgs_le (b := b) nb.2
  unfold pNum at h
  by_cases c1 : (dgs b n (nG b n i sg)).1 = nG b n i sg
  · rw [if_pos c1] at h; cases h
  · rw [if_neg c1] at h
    by_cases c2 : lo ≤ sgn (nMi b n i sg) (dgs b n (nG b n i sg)).2 ∧ sgn (nMi b n i sg) (dgs b n (nG b n i sg)).2 ≤ hi
    · rw [if_pos c2] at h
      have e1 := sgn_eq hl.1 hh.2 c2
      obtain ⟨e2, e3⟩ := Prod.mk.inj (Sum.inr.inj h)
      rw [rn_start hS hP hlo hl hsg, rn_mid (M := atM M (dgs b n (nG b n i sg)).1) hS up2_at c1 (by omega) (by omega), e1]
      rw [e2] at c2
      rw [e2, e3]
      have y1 : ¬ iI v < lo' := by rw [hlo, iI_ltb (by omega) (by omega) (by omega) (by omega)]; omega
      have y2 : iI v ≤ hi' := by rw [hhi, iI_leb (by omega) (by omega) (by omega) (by omega)]; omega
      simp (disch := first | assumption | exact nar_b0 | exact nar_b1 | exact nar_b | exact Or.inl rfl | exact Or.inr rfl | exact zin_t (by omega) (by omega) | exact Nat.le_of_ble_eq_true rfl | (rw [nI_cl (by omega)]; assumption) | omega) only [↓reduceIte, reduceCtorEq, not_true_eq_false, not_false_eq_true, q47_0, q47_1, q47_4, q47_5, q47_8, q47_9, q47_10, q47_13, q47_14, q47_16, q47_19, q47_22, q47_23, q47_26, q47_27, q47_29, q47_31, q47_34, q47_35i, q47_35a, q47_36, q47_39, q47_40, q47_41, q47_44, q47_45, q47_48, q47_49, q47_52, q47_54, q47_55, q47_57, q47_59, q47_63, q47_64, q47_67, q47_70, q47_71, q47_74, q47_76, q47_77, q47_79, q47_82, q47_83, q47_86, q47_88, q47_89, q47_91, q47_94, q47_96, q47_98, q47_99, q47_100, q47_103, q47_105, q47_106, q47_107, q47_109, q47_110, q47_113, q47_116, q47_118, q47_119i, q47_119a, q47_120, q47_123, q47_124, q47_125, q47_128, q47_131, q47_134, q47_135, q47_138, q47_140, q47_143, q47_144, q47_145, q47_146, q47_149, q47_152, q47_153, q47_154, q47_156, q47_159, q47_161, q47_162, q47_165, q47_167, q47_170, q47_171, q47_174, q47_175, q47_178, q47_179, q47_182, q47_183, q47_186, q47_187, q47_188, q47_189, q47_192, q47_195, q47_196, q47_199, q47_200, kl_int, kl_ref, kl_tok, cS_nil, cS_int, cS_ref, cS_long, tl_some, tl_none, List.cons_append, List.nil_append, nI_add, nI_ltb, nI_leb, nI_eqb, nI_cl, zin_nI, up2_at, y1, y2]
      rfl
    · rw [if_neg c2] at h; cases h
theorem readNumber_f {lo hi : Int} {lo' hi' : Int32} {sg : Bool} {k p : Nat} (hS : Sh R) (hP : PCx M b n i) (hlo : lo' = iI lo) (hhi : hi' = iI hi) (hl : -1000 < lo ∧ lo < 1000) (hh : -1000 < hi ∧ hi < 1000) (hsg : sg = decide (lo < 0)) (h : pNum b n i sg lo hi = .inl (k, p)) : ∃ M', cal (d + 1) 47 [.ref 92, .int lo', .int hi'] M R = some (.inl (some (.int (nI 0))), M', R) ∧ CFt M' M k p := by
  obtain ⟨nN, k92, k93, l93, k94, k95, l95, k96, l96, k97, l97, k98, k99, l99, k100, l100, k101, l101, k102, k103, l103, k104, l104, k105, l105, f92_0, f92_1, f94_0, f94_1, f94_2, f92_2, f98_0, f98_1, f98_2, f92_3, f102_0, f102_1, f102_2⟩ := parF hS
  have h500 := hP.2.2.1
  have nb := nG_le (b := b) (n := n) (i := i) (sg := sg) hP.2.2.1.1
  have db := dgs_le (b := b) nb.2
  rw [rn_start hS hP hlo hl hsg]
  unfold pNum at h
  by_cases c1 : (dgs b n (nG b n i sg)).1 = nG b n i sg
  · rw [if_pos c1] at h
    obtain ⟨e2, e3⟩ := Prod.mk.inj (Sum.inl.inj h)
    subst e2
    subst e3
    rw [c1]
    have h5 : atM M (nG b n i sg) 92 5 = nI (nG b n i sg) := up2_at
    have hf := fail_ (d := d) (M := atM M (nG b n i sg)) (R := R) (k := nI 1) (p := nI (nG b n i sg)) hS
    refine ⟨_, ?_, CFt.mk' (M' := atM M (nG b n i sg)) (fun c hc => atM_c hc)⟩
    simp (disch := first | assumption | exact nar_b0 | exact nar_b1 | exact nar_b | exact Or.inl rfl | exact Or.inr rfl | exact zin_t (by omega) (by omega) | exact Nat.le_of_ble_eq_true rfl | (rw [nI_cl (by omega)]; assumption) | omega) only [↓reduceIte, reduceCtorEq, not_true_eq_false, not_false_eq_true, q47_0, q47_1, q47_4, q47_5, q47_8, q47_9, q47_10, q47_13, q47_14, q47_16, q47_19, q47_22, q47_23, q47_26, q47_27, q47_29, q47_31, q47_34, q47_35i, q47_35a, q47_36, q47_39, q47_40, q47_41, q47_44, q47_45, q47_48, q47_49, q47_52, q47_54, q47_55, q47_57, q47_59, q47_63, q47_64, q47_67, q47_70, q47_71, q47_74, q47_76, q47_77, q47_79, q47_82, q47_83, q47_86, q47_88, q47_89, q47_91, q47_94, q47_96, q47_98, q47_99, q47_100, q47_103, q47_105, q47_106, q47_107, q47_109, q47_110, q47_113, q47_116, q47_118, q47_119i, q47_119a, q47_120, q47_123, q47_124, q47_125, q47_128, q47_131, q47_134, q47_135, q47_138, q47_140, q47_143, q47_144, q47_145, q47_146, q47_149, q47_152, q47_153, q47_154, q47_156, q47_159, q47_161, q47_162, q47_165, q47_167, q47_170, q47_171, q47_174, q47_175, q47_178, q47_179, q47_182, q47_183, q47_186, q47_187, q47_188, q47_189, q47_192, q47_195, q47_196, q47_199, q47_200, kl_int, kl_ref, kl_tok, cS_nil, cS_int, cS_ref, cS_long, tl_some, tl_none, List.cons_append, List.nil_append, nI_add, nI_ltb, nI_leb, nI_eqb, nI_cl, zin_nI, h5, hf, zk0_inl]
  · rw [if_neg c1] at h
    by_cases c2 : lo ≤ sgn (nMi b n i sg) (dgs b n (nG b n i sg)).2 ∧ sgn (nMi b n i sg) (dgs b n (nG b n i sg)).2 ≤ hi
    · rw [if_pos c2] at h; cases h
    · rw [if_neg c2] at h
      obtain ⟨e2, e3⟩ := Prod.mk.inj (Sum.inl.inj h)
      subst e2
      subst e3
      rw [← sgn_iff hl.1 hh.2] at c2
      rw [rn_mid (M := atM M (dgs b n (nG b n i sg)).1) hS up2_at c1 (by omega) (by omega)]
      have hb : -1000 ≤ sgn (nMi b n i sg) (min (dgs b n (nG b n i sg)).2 1000) ∧ sgn (nMi b n i sg) (min (dgs b n (nG b n i sg)).2 1000) ≤ 1000 := by
        unfold sgn
        split <;> omega
      generalize sgn (nMi b n i sg) (min (dgs b n (nG b n i sg)).2 1000) = w at c2 hb
      have hf := fail_ (d := d) (M := up2 (atM M (dgs b n (nG b n i sg)).1) 92 6 (iI w)) (R := R) (k := nI 2) (p := nI (sk b n i)) hS
      refine ⟨_, ?_, CFt.mk' (M' := up2 (atM M (dgs b n (nG b n i sg)).1) 92 6 (iI w)) (fun c hc => by rw [up2_ne hc, atM_c hc])⟩
      by_cases y1 : iI w < lo'
      · simp (disch := first | assumption | exact nar_b0 | exact nar_b1 | exact nar_b | exact Or.inl rfl | exact Or.inr rfl | exact zin_t (by omega) (by omega) | exact Nat.le_of_ble_eq_true rfl | (rw [nI_cl (by omega)]; assumption) | omega) only [↓reduceIte, reduceCtorEq, not_true_eq_false, not_false_eq_true, q47_0, q47_1, q47_4, q47_5, q47_8, q47_9, q47_10, q47_13, q47_14, q47_16, q47_19, q47_22, q47_23, q47_26, q47_27, q47_29, q47_31, q47_34, q47_35i, q47_35a, q47_36, q47_39, q47_40, q47_41, q47_44, q47_45, q47_48, q47_49, q47_52, q47_54, q47_55, q47_57, q47_59, q47_63, q47_64, q47_67, q47_70, q47_71, q47_74, q47_76, q47_77, q47_79, q47_82, q47_83, q47_86, q47_88, q47_89, q47_91, q47_94, q47_96, q47_98, q47_99, q47_100, q47_103, q47_105, q47_106, q47_107, q47_109, q47_110, q47_113, q47_116, q47_118, q47_119i, q47_119a, q47_120, q47_123, q47_124, q47_125, q47_128, q47_131, q47_134, q47_135, q47_138, q47_140, q47_143, q47_144, q47_145, q47_146, q47_149, q47_152, q47_153, q47_154, q47_156, q47_159, q47_161, q47_162, q47_165, q47_167, q47_170, q47_171, q47_174, q47_175, q47_178, q47_179, q47_182, q47_183, q47_186, q47_187, q47_188, q47_189, q47_192, q47_195, q47_196, q47_199, q47_200, kl_int, kl_ref, kl_tok, cS_nil, cS_int, cS_ref, cS_long, tl_some, tl_none, List.cons_append, List.nil_append, nI_add, nI_ltb, nI_leb, nI_eqb, nI_cl, zin_nI, up2_at, y1, hf, zk0_inl]
      · have y2 : ¬ iI w ≤ hi' := by
          rw [hlo, iI_ltb (by omega) (by omega) (by omega) (by omega)] at y1
          rw [hhi, iI_leb (by omega) (by omega) (by omega) (by omega)]
          omega
        simp (disch := first | assumption | exact nar_b0 | exact nar_b1 | exact nar_b | exact Or.inl rfl | exact Or.inr rfl | exact zin_t (by omega) (by omega) | exact Nat.le_of_ble_eq_true rfl | (rw [nI_cl (by omega)]; assumption) | omega) only [↓reduceIte, reduceCtorEq, not_true_eq_false, not_false_eq_true, q47_0, q47_1, q47_4, q47_5, q47_8, q47_9, q47_10, q47_13, q47_14, q47_16, q47_19, q47_22, q47_23, q47_26, q47_27, q47_29, q47_31, q47_34, q47_35i, q47_35a, q47_36, q47_39, q47_40, q47_41, q47_44, q47_45, q47_48, q47_49, q47_52, q47_54, q47_55, q47_57, q47_59, q47_63, q47_64, q47_67, q47_70, q47_71, q47_74, q47_76, q47_77, q47_79, q47_82, q47_83, q47_86, q47_88, q47_89, q47_91, q47_94, q47_96, q47_98, q47_99, q47_100, q47_103, q47_105, q47_106, q47_107, q47_109, q47_110, q47_113, q47_116, q47_118, q47_119i, q47_119a, q47_120, q47_123, q47_124, q47_125, q47_128, q47_131, q47_134, q47_135, q47_138, q47_140, q47_143, q47_144, q47_145, q47_146, q47_149, q47_152, q47_153, q47_154, q47_156, q47_159, q47_161, q47_162, q47_165, q47_167, q47_170, q47_171, q47_174, q47_175, q47_178, q47_179, q47_182, q47_183, q47_186, q47_187, q47_188, q47_189, q47_192, q47_195, q47_196, q47_199, q47_200, kl_int, kl_ref, kl_tok, cS_nil, cS_int, cS_ref, cS_long, tl_some, tl_none, List.cons_append, List.nil_append, nI_add, nI_ltb, nI_leb, nI_eqb, nI_cl, zin_nI, up2_at, y1, y2, hf, zk0_inl]
theorem readSign_t {c : Int32} (hS : Sh R) (hP : PCx M b n i) (h : isH b n (sk b n i) c = true) : cal (d + 1) 48 [.ref 92, .int c] M R = some (.inl (some (.int (nI 1))), atM M (sk b n i + 1), R) := by
  obtain ⟨nN, k92, k93, l93, k94, k95, l95, k96, l96, k97, l97, k98, k99, l99, k100, l100, k101, l101, k102, k103, l103, k104, l104, k105, l105, f92_0, f92_1, f94_0, f94_1, f94_2, f92_2, f98_0, f98_1, f98_2, f92_3, f102_0, f102_1, f102_2⟩ := parF hS
  have hle := sk_le (b := b) hP.2.2.1.1
  have hsk := skipBlanks_ (d := d) (R := R) hS hP
  have hP2 : PCx (atM M (sk b n i)) b n (sk b n i) := hP.mv hle
  have h5 := hP2.2.1
  have hh := isHereC_ (d := d) (R := R) (c := c) hS hP2
  rw [h] at hh
  have hat : up2 (atM M (sk b n i)) 92 5 (nI (sk b n i + 1)) = atM M (sk b n i + 1) := atM_at
  rw [e48]
  simp (disch := first | assumption | exact nar_b0 | exact nar_b1 | exact nar_b | exact Or.inl rfl | exact Or.inr rfl | exact zin_t (by omega) (by omega) | exact Nat.le_of_ble_eq_true rfl | (rw [nI_cl (by omega)]; assumption) | omega) only [↓reduceIte, reduceCtorEq, not_true_eq_false, not_false_eq_true, q48_0, q48_1, q48_4, q48_5, q48_6, q48_9, q48_12, q48_13, q48_14, q48_15, q48_18, q48_21, q48_22, q48_23i, q48_23a, q48_24, q48_27, q48_28, q48_29, q48_32, q48_33, kl_int, kl_ref, kl_tok, cS_nil, cS_int, cS_ref, cS_long, tl_some, tl_none, List.cons_append, List.nil_append, nI_add, nI_ltb, nI_leb, nI_eqb, nI_cl, zin_nI, hsk, zk0_inl, hh, b2i_0, h5, hat]
theorem readSign_f {c : Int32} (hS : Sh R) (hP : PCx M b n i) (h : isH b n (sk b n i) c = false) : ∃ M', cal (d + 1) 48 [.ref 92, .int c] M R = some (.inl (some (.int (nI 0))), M', R) ∧ CFt M' M 1 (sk b n i) := by
  obtain ⟨nN, k92, k93, l93, k94, k95, l95, k96, l96, k97, l97, k98, k99, l99, k100, l100, k101, l101, k102, k103, l103, k104, l104, k105, l105, f92_0, f92_1, f94_0, f94_1, f94_2, f92_2, f98_0, f98_1, f98_2, f92_3, f102_0, f102_1, f102_2⟩ := parF hS
  have hle := sk_le (b := b) hP.2.2.1.1
  have hsk := skipBlanks_ (d := d) (R := R) hS hP
  have hP2 : PCx (atM M (sk b n i)) b n (sk b n i) := hP.mv hle
  have h5 := hP2.2.1
  have hh := isHereC_ (d := d) (R := R) (c := c) hS hP2
  rw [h] at hh
  have hf := fail_ (d := d) (M := atM M (sk b n i)) (R := R) (k := nI 1) (p := nI (sk b n i)) hS
  refine ⟨_, ?_, CFt.mk' (M' := atM M (sk b n i)) (fun c hc => atM_c hc)⟩
  rw [e48]
  simp (disch := first | assumption | exact nar_b0 | exact nar_b1 | exact nar_b | exact Or.inl rfl | exact Or.inr rfl | exact zin_t (by omega) (by omega) | exact Nat.le_of_ble_eq_true rfl | (rw [nI_cl (by omega)]; assumption) | omega) only [↓reduceIte, reduceCtorEq, not_true_eq_false, not_false_eq_true, q48_0, q48_1, q48_4, q48_5, q48_6, q48_9, q48_12, q48_13, q48_14, q48_15, q48_18, q48_21, q48_22, q48_23i, q48_23a, q48_24, q48_27, q48_28, q48_29, q48_32, q48_33, kl_int, kl_ref, kl_tok, cS_nil, cS_int, cS_ref, cS_long, tl_some, tl_none, List.cons_append, List.nil_append, nI_add, nI_ltb, nI_leb, nI_eqb, nI_cl, zin_nI, hsk, zk0_inl, hh, b2i_0, h5, hf]
end Nb
