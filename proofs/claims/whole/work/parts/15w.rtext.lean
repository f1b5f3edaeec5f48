-- the reference: text
theorem RPS.fr {M M' : ZM} {P : PS} {i : Nat} (h : RPS M P i) (hc : ∀ c, c = 130 ∨ c = 134 ∨ c = 135 ∨ c = 136 ∨ c = 137 → M' c = M c) (hs : ∀ q, q = 16 ∨ q = 20 ∨ q = 21 ∨ q = 23 → M' 127 q = M 127 q) : RPS M' P i := by
  refine ⟨?_, h.fil (hc _ (by omega)), ⟨?_, ?_, ?_⟩, h.2.2.2.fr (hs _ (by omega)) (hc _ (by omega)) (hc _ (by omega)) (hc _ (by omega)) (Nat.le_refl _)⟩
  · rw [hc _ (by omega)]; exact h.1
  · rw [hs _ (by omega)]; exact h.2.2.1.1
  · rw [hs _ (by omega)]; exact h.2.2.1.2.1
  · rw [hs _ (by omega)]; exact h.2.2.1.2.2
section Rw
variable {d n i : Nat} {M : ZM} {R : ZH} {b : Nat → Int32} {P : PS} {G : GS}
theorem bgn_L (hS : Sh R) : ∀ (m k : Nat) (M : ZM), k + m = 106 → (∀ j, j < k → M 130 j = if 64 ≤ j then -1 else nI 0) → ∃ M', exe d 110 2 [.ref 130, .int (nI k)] [] M R = some (.inl none, M', R) ∧ (∀ j, j < 106 → M' 130 j = rd0 j) ∧ ∀ c, c ≠ 130 → M' c = M c := by
  obtain ⟨nN, k127, k128, l128, k129, l129, k130, l130, k131, l131, k132, l132, k133, l133, k134, l134, k135, l135, k136, l136, k137, l137, k138, l138, k139, l139, k140, l140, k141, l141, k142, l142, k143, l143, k144, l144, k145, l145, k146, l146, f127_1, f127_2, f127_3, f127_4, f127_6, f127_7, f127_17, f127_18, f127_19, f127_22, f127_24, f127_25, f127_26, f127_29, f127_30, f127_31, f127_32, f127_33⟩ := modF hS
  intro m
  induction m with
  | zero =>
    intro k M hk h
    have e : k = 106 := by omega
    subst e
    refine ⟨up2 M 130 2 (nI 2), ?_, fun j hj => ?_, fun c hc => up2_ne hc⟩
    · rw [q110_2]
      simp (disch := first | assumption | exact nar_b0 | exact nar_b1 | exact nar_b | exact Or.inl rfl | exact Or.inr rfl | exact zin_t (by omega) (by omega) | exact Nat.le_of_ble_eq_true rfl | (rw [nI_cl (by omega)]; assumption) | omega) only [↓reduceIte, reduceCtorEq, not_true_eq_false, not_false_eq_true, q110_0, q110_1, q110_3, q110_5, q110_8, q110_9, q110_10, q110_11, q110_13, q110_16, q110_17, q110_20, q110_21, q110_22, q110_25, q110_28, q110_29, q110_30, q110_31, q110_32, kl_int, kl_ref, kl_tok, cS_nil, cS_int, cS_ref, cS_long, tl_some, tl_none, List.cons_append, List.nil_append, nI_add, nI_ltb, nI_leb, nI_eqb, nI_cl, zin_nI, Nat.le_refl]
    · unfold rd0
      by_cases c : j = 2
      · rw [if_pos c, c, up2_at]
      · rw [if_neg c, up2_s c]; exact h j hj
  | succ m ih =>
    intro k M hk h
    have z : ¬ 106 ≤ k := by omega
    by_cases c : k < 64
    · obtain ⟨M', g1, g2, g3⟩ := ih (k + 1) (up2 M 130 k (nI 0)) (by omega) (fun j hj => by
        by_cases e : j = k
        · rw [e, up2_at, if_neg (by omega)]
        · rw [up2_s e]; exact h j (by omega))
      refine ⟨M', ?_, g2, fun c hc => by rw [g3 c hc, up2_ne hc]⟩
      rw [← g1, q110_2]
      simp (disch := first | assumption | exact nar_b0 | exact nar_b1 | exact nar_b | exact Or.inl rfl | exact Or.inr rfl | exact zin_t (by omega) (by omega) | exact Nat.le_of_ble_eq_true rfl | (rw [nI_cl (by omega)]; assumption) | omega) only [↓reduceIte, reduceCtorEq, not_true_eq_false, not_false_eq_true, q110_0, q110_1, q110_3, q110_5, q110_8, q110_9, q110_10, q110_11, q110_13, q110_16, q110_17, q110_20, q110_21, q110_22, q110_25, q110_28, q110_29, q110_30, q110_31, q110_32, kl_int, kl_ref, kl_tok, cS_nil, cS_int, cS_ref, cS_long, tl_some, tl_none, List.cons_append, List.nil_append, nI_add, nI_ltb, nI_leb, nI_eqb, nI_cl, zin_nI, z, c]
    · obtain ⟨M', g1, g2, g3⟩ := ih (k + 1) (up2 M 130 k (-1)) (by omega) (fun j hj => by
        by_cases e : j = k
        · rw [e, up2_at, if_pos (by omega)]
        · rw [up2_s e]; exact h j (by omega))
      refine ⟨M', ?_, g2, fun c hc => by rw [g3 c hc, up2_ne hc]⟩
      rw [← g1, q110_2]
      simp (disch := first | assumption | exact nar_b0 | exact nar_b1 | exact nar_b | exact Or.inl rfl | exact Or.inr rfl | exact zin_t (by omega) (by omega) | exact Nat.le_of_ble_eq_true rfl | (rw [nI_cl (by omega)]; assumption) | omega) only [↓reduceIte, reduceCtorEq, not_true_eq_false, not_false_eq_true, q110_0, q110_1, q110_3, q110_5, q110_8, q110_9, q110_10, q110_11, q110_13, q110_16, q110_17, q110_20, q110_21, q110_22, q110_25, q110_28, q110_29, q110_30, q110_31, q110_32, kl_int, kl_ref, kl_tok, cS_nil, cS_int, cS_ref, cS_long, tl_some, tl_none, List.cons_append, List.nil_append, nI_add, nI_ltb, nI_leb, nI_eqb, nI_cl, zin_nI, z, c]
theorem begins_ (hS : Sh R) : ∃ M', cal d 110 [.ref 130] M R = some (.inl none, M', R) ∧ (∀ j, j < 106 → M' 130 j = rd0 j) ∧ ∀ c, c ≠ 130 → M' c = M c := by
  obtain ⟨nN, k127, k128, l128, k129, l129, k130, l130, k131, l131, k132, l132, k133, l133, k134, l134, k135, l135, k136, l136, k137, l137, k138, l138, k139, l139, k140, l140, k141, l141, k142, l142, k143, l143, k144, l144, k145, l145, k146, l146, f127_1, f127_2, f127_3, f127_4, f127_6, f127_7, f127_17, f127_18, f127_19, f127_22, f127_24, f127_25, f127_26, f127_29, f127_30, f127_31, f127_32, f127_33⟩ := modF hS
  obtain ⟨M', g1, g2, g3⟩ := bgn_L (d := d) hS 106 0 M (by omega) (fun j h => absurd h (Nat.not_lt_zero _))
  refine ⟨M', ?_, g2, g3⟩
  rw [← g1, e110]
  simp (disch := first | assumption | exact nar_b0 | exact nar_b1 | exact nar_b | exact Or.inl rfl | exact Or.inr rfl | exact zin_t (by omega) (by omega) | exact Nat.le_of_ble_eq_true rfl | (rw [nI_cl (by omega)]; assumption) | omega) only [↓reduceIte, reduceCtorEq, not_true_eq_false, not_false_eq_true, q110_0, q110_1, q110_3, q110_5, q110_8, q110_9, q110_10, q110_11, q110_13, q110_16, q110_17, q110_20, q110_21, q110_22, q110_25, q110_28, q110_29, q110_30, q110_31, q110_32, kl_int, kl_ref, kl_tok, cS_nil, cS_int, cS_ref, cS_long, tl_some, tl_none, List.cons_append, List.nil_append, nI_add, nI_ltb, nI_leb, nI_eqb, nI_cl, zin_nI]
theorem tcp_L (hS : Sh R) (hn : n ≤ 500) (hz : ∀ t, t < n → zi2b (b t) = b t) : ∀ (m k : Nat) (M : ZM), k + m = n → (∀ t, t < n → M 132 t = b t) → (∀ t, t < k → M 133 t = b t) → ∃ M', exe d 138 29 [.ref 127, .int (nI n), .int (nI k)] [] M R = exe d 138 52 [.ref 127, .int (nI n), .int (nI n)] [] M' R ∧ (∀ t, t < n → M' 133 t = b t) ∧ ∀ c, c ≠ 133 → M' c = M c := by
  obtain ⟨nN, k127, k128, l128, k129, l129, k130, l130, k131, l131, k132, l132, k133, l133, k134, l134, k135, l135, k136, l136, k137, l137, k138, l138, k139, l139, k140, l140, k141, l141, k142, l142, k143, l143, k144, l144, k145, l145, k146, l146, f127_1, f127_2, f127_3, f127_4, f127_6, f127_7, f127_17, f127_18, f127_19, f127_22, f127_24, f127_25, f127_26, f127_29, f127_30, f127_31, f127_32, f127_33⟩ := modF hS
  intro m
  induction m with
  | zero =>
    intro k M hk h1 h2
    have e : k = n := by omega
    subst e
    refine ⟨M, ?_, h2, fun _ _ => rfl⟩
    rw [q138_29]
    simp (disch := first | assumption | exact nar_b0 | exact nar_b1 | exact nar_b | exact Or.inl rfl | exact Or.inr rfl | exact zin_t (by omega) (by omega) | exact Nat.le_of_ble_eq_true rfl | (rw [nI_cl (by omega)]; assumption) | omega) only [↓reduceIte, reduceCtorEq, not_true_eq_false, not_false_eq_true, q138_0, q138_1, q138_2, q138_5, q138_6, q138_7, q138_8, q138_9, q138_10, q138_13, q138_14, q138_17, q138_18, q138_19, q138_22, q138_25, q138_26, q138_27, q138_28, q138_30, q138_31, q138_34, q138_35, q138_38, q138_39, q138_40, q138_43, q138_44, q138_45b, q138_45z, q138_46, q138_49, q138_53, q138_54, q138_57, q138_58, q138_59, q138_62, q138_63, q138_64, q138_67, q138_68, q138_69, q138_72, q138_73, q138_74, q138_77, q138_78, q138_80, q138_83, q138_84, q138_85, q138_88, q138_89, q138_90, q138_93, q138_94, q138_97, q138_101, q138_104, q138_107, q138_108, q138_111, q138_114, q138_115, q138_118, q138_119, q138_122, q138_125, q138_126, q138_129, q138_132, q138_133, q138_136, q138_139, q138_140, q138_143, q138_144, q138_145, q138_148, q138_149, q138_150, q138_151, q138_154, q138_157, q138_158, q138_159, q138_162, q138_165, q138_166, q138_169, q138_172, q138_173, q138_176, q138_177, q138_180, q138_183, q138_184, q138_187, q138_189, q138_190, q138_191, q138_192, q138_195, q138_196, q138_199, q138_200, q138_202, q138_204, q138_207, q138_208, q138_211, q138_212, q138_213, q138_216, q138_217, q138_218, q138_219, q138_222, q138_225, q138_226, q138_229, q138_231, q138_232, kl_int, kl_ref, kl_tok, cS_nil, cS_int, cS_ref, cS_long, tl_some, tl_none, List.cons_append, List.nil_append, nI_add, nI_ltb, nI_leb, nI_eqb, nI_cl, zin_nI, Nat.le_refl]
  | succ m ih =>
    intro k M hk h1 h2
    have z : ¬ n ≤ k := by omega
    have hb := h1 k (by omega)
    have hz' := hz k (by omega)
    obtain ⟨M', g1, g2, g3⟩ := ih (k + 1) (up2 M 133 k (b k)) (by omega) (fun t ht => by rw [up2_c (by decide)]; exact h1 t ht) (fun t ht => by
      by_cases e : t = k
      · rw [e, up2_at]
      · rw [up2_s e]; exact h2 t (by omega))
    refine ⟨M', ?_, g2, fun c hc => by rw [g3 c hc, up2_ne hc]⟩
    rw [← g1, q138_29]
    simp (disch := first | assumption | exact nar_b0 | exact nar_b1 | exact nar_b | exact Or.inl rfl | exact Or.inr rfl | exact zin_t (by omega) (by omega) | exact Nat.le_of_ble_eq_true rfl | (rw [nI_cl (by omega)]; assumption) | omega) only [↓reduceIte, reduceCtorEq, not_true_eq_false, not_false_eq_true, q138_0, q138_1, q138_2, q138_5, q138_6, q138_7, q138_8, q138_9, q138_10, q138_13, q138_14, q138_17, q138_18, q138_19, q138_22, q138_25, q138_26, q138_27, q138_28, q138_30, q138_31, q138_34, q138_35, q138_38, q138_39, q138_40, q138_43, q138_44, q138_45b, q138_45z, q138_46, q138_49, q138_53, q138_54, q138_57, q138_58, q138_59, q138_62, q138_63, q138_64, q138_67, q138_68, q138_69, q138_72, q138_73, q138_74, q138_77, q138_78, q138_80, q138_83, q138_84, q138_85, q138_88, q138_89, q138_90, q138_93, q138_94, q138_97, q138_101, q138_104, q138_107, q138_108, q138_111, q138_114, q138_115, q138_118, q138_119, q138_122, q138_125, q138_126, q138_129, q138_132, q138_133, q138_136, q138_139, q138_140, q138_143, q138_144, q138_145, q138_148, q138_149, q138_150, q138_151, q138_154, q138_157, q138_158, q138_159, q138_162, q138_165, q138_166, q138_169, q138_172, q138_173, q138_176, q138_177, q138_180, q138_183, q138_184, q138_187, q138_189, q138_190, q138_191, q138_192, q138_195, q138_196, q138_199, q138_200, q138_202, q138_204, q138_207, q138_208, q138_211, q138_212, q138_213, q138_216, q138_217, q138_218, q138_219, q138_222, q138_225, q138_226, q138_229, q138_231, q138_232, kl_int, kl_ref, kl_tok, cS_nil, cS_int, cS_ref, cS_long, tl_some, tl_none, List.cons_append, List.nil_append, nI_add, nI_ltb, nI_leb, nI_eqb, nI_cl, zin_nI, z, hb, hz']
def rsM (M : ZM) (n : Nat) : ZM := up2 (up2 (up2 (up2 (up2 (up2 (up2 (up2 M 127 8 (nI 0)) 127 9 (nI n)) 127 10 (nI 0)) 127 12 (nI 0)) 127 16 (nI 0)) 127 21 (nI 9)) 127 23 (nI 0)) 127 20 (nI 0)
theorem rsM_c {c : Nat} (h : c ≠ 127) : rsM M n c = M c := by
  unfold rsM
  rw [up2_ne h, up2_ne h, up2_ne h, up2_ne h, up2_ne h, up2_ne h, up2_ne h, up2_ne h]
theorem rsM_s {q : Nat} (h : q ≠ 8 ∧ q ≠ 9 ∧ q ≠ 10 ∧ q ≠ 12 ∧ q ≠ 16 ∧ q ≠ 20 ∧ q ≠ 21 ∧ q ≠ 23) : rsM M n 127 q = M 127 q := by
  obtain ⟨h1, h2, h3, h4, h5, h6, h7, h8⟩ := h
  unfold rsM
  rw [up2_s h6, up2_s h8, up2_s h7, up2_s h5, up2_s h4, up2_s h3, up2_s h2, up2_s h1]
theorem rsM_v : rsM M n 127 8 = nI 0 ∧ rsM M n 127 9 = nI n ∧ rsM M n 127 10 = nI 0 ∧ rsM M n 127 12 = nI 0 ∧ rsM M n 127 16 = nI 0 ∧ rsM M n 127 20 = nI 0 ∧ rsM M n 127 21 = nI 9 ∧ rsM M n 127 23 = nI 0 := by
  unfold rsM
  refine ⟨?_, ?_, ?_, ?_, ?_, up2_at, ?_, ?_⟩
  · rw [up2_s (by decide), up2_s (by decide), up2_s (by decide), up2_s (by decide), up2_s (by decide), up2_s (by decide), up2_s (by decide), up2_at]
  · rw [up2_s (by decide), up2_s (by decide), up2_s (by decide), up2_s (by decide), up2_s (by decide), up2_s (by decide), up2_at]
  · rw [up2_s (by decide), up2_s (by decide), up2_s (by decide), up2_s (by decide), up2_s (by decide), up2_at]
  · rw [up2_s (by decide), up2_s (by decide), up2_s (by decide), up2_s (by decide), up2_at]
  · rw [up2_s (by decide), up2_s (by decide), up2_s (by decide), up2_at]
  · rw [up2_s (by decide), up2_s (by decide), up2_at]
  · rw [up2_s (by decide), up2_at]
theorem tx_rng {x : Int32} (hW : WG G) : decide ((0 : Int) ≤ x.toInt ∧ x.toInt ≤ (nI (gT G)).toInt) = true ↔ ∃ n, n ≤ gT G ∧ x = nI n := by
  have h500 := hW.2.2.2.1
  rw [decide_eq_true_iff, nI_toInt (by omega)]
  constructor
  · intro ⟨h1, h2⟩
    exact ⟨x.toInt.toNat, by omega, by rw [nI_iI, Int.toNat_of_nonneg h1]; exact iI_of x⟩
  · intro ⟨n, h1, h2⟩
    rw [h2, nI_toInt (by omega)]
    omega
theorem m_text_f {x v : Int32} (hx : ¬ ∃ n, n ≤ gT G ∧ x = nI n) (hS : Sh R) (hW : WG G) (hM : MS M G) : OutM (cal (d + 26) 138 [.ref 127, .int x] M R) M R 1 v (rfA G) := by
  obtain ⟨nN, k127, k128, l128, k129, l129, k130, l130, k131, l131, k132, l132, k133, l133, k134, l134, k135, l135, k136, l136, k137, l137, k138, l138, k139, l139, k140, l140, k141, l141, k142, l142, k143, l143, k144, l144, k145, l145, k146, l146, f127_1, f127_2, f127_3, f127_4, f127_6, f127_7, f127_17, f127_18, f127_19, f127_22, f127_24, f127_25, f127_26, f127_29, f127_30, f127_31, f127_32, f127_33⟩ := modF hS
  have hf := isFine_f (d := d + 25) (M := up2 M 127 0 (nI 0)) (R := R) (c := 1) (k := 1) hS up2_at (by decide) (by decide)
  have w8 : up2 M 127 0 (nI 0) 127 8 = nI (gT G) := by rw [up2_s (by decide)]; exact hM.1.1
  have r1 : decide ((0 : Int) ≤ x.toInt ∧ x.toInt ≤ (nI (gT G)).toInt) = false := by
    rw [← Bool.not_eq_true, tx_rng hW]; exact hx
  refine OutM.rA (M' := up2 M 127 0 (nI 0)) (v' := nI 0) ?_ (by decide) hM.th (FrM.up (by decide) (by decide))
  rw [e138]
  simp (disch := first | assumption | exact nar_b0 | exact nar_b1 | exact nar_b | exact Or.inl rfl | exact Or.inr rfl | exact zin_t (by omega) (by omega) | exact Nat.le_of_ble_eq_true rfl | (rw [nI_cl (by omega)]; assumption) | omega) only [↓reduceIte, reduceCtorEq, not_true_eq_false, not_false_eq_true, q138_0, q138_1, q138_2, q138_5, q138_6, q138_7, q138_8, q138_9, q138_10, q138_13, q138_14, q138_17, q138_18, q138_19, q138_22, q138_25, q138_26, q138_27, q138_28, q138_30, q138_31, q138_34, q138_35, q138_38, q138_39, q138_40, q138_43, q138_44, q138_45b, q138_45z, q138_46, q138_49, q138_52, q138_53, q138_54, q138_57, q138_58, q138_59, q138_62, q138_63, q138_64, q138_67, q138_68, q138_69, q138_72, q138_73, q138_74, q138_77, q138_78, q138_80, q138_83, q138_84, q138_85, q138_88, q138_89, q138_90, q138_93, q138_94, q138_97, q138_101, q138_104, q138_107, q138_108, q138_111, q138_114, q138_115, q138_118, q138_119, q138_122, q138_125, q138_126, q138_129, q138_132, q138_133, q138_136, q138_139, q138_140, q138_143, q138_144, q138_145, q138_148, q138_149, q138_150, q138_151, q138_154, q138_157, q138_158, q138_159, q138_162, q138_165, q138_166, q138_169, q138_172, q138_173, q138_176, q138_177, q138_180, q138_183, q138_184, q138_187, q138_189, q138_190, q138_191, q138_192, q138_195, q138_196, q138_199, q138_200, q138_202, q138_204, q138_207, q138_208, q138_211, q138_212, q138_213, q138_216, q138_217, q138_218, q138_219, q138_222, q138_225, q138_226, q138_229, q138_231, q138_232, kl_int, kl_ref, kl_tok, cS_nil, cS_int, cS_ref, cS_long, tl_some, tl_none, List.cons_append, List.nil_append, nI_add, nI_ltb, nI_leb, nI_eqb, nI_cl, zin_nI, w8, lies_, Int32.toInt_toInt64, c64_0, r1, b2i_f, hf, zk0_inl]
theorem tx_start (hn : n ≤ gT G) (hS : Sh R) (hW : WG G) (hM : MS M G) : ∃ M4, cal (d + 26) 138 [.ref 127, .int (nI n)] M R = exe (d + 26) 138 100 [.ref 127, .int (nI n), .int (nI n)] [] M4 R ∧ RCx M4 (gB G) n 0 ∧ RPS M4 ps0 0 ∧ (∀ c, c ≠ 127 → c ≠ 130 → c ≠ 133 → M4 c = M c) ∧ (M4 127 0 = nI 0 ∧ M4 127 8 = nI 0 ∧ M4 127 5 = M 127 5) := by
  obtain ⟨nN, k127, k128, l128, k129, l129, k130, l130, k131, l131, k132, l132, k133, l133, k134, l134, k135, l135, k136, l136, k137, l137, k138, l138, k139, l139, k140, l140, k141, l141, k142, l142, k143, l143, k144, l144, k145, l145, k146, l146, f127_1, f127_2, f127_3, f127_4, f127_6, f127_7, f127_17, f127_18, f127_19, f127_22, f127_24, f127_25, f127_26, f127_29, f127_30, f127_31, f127_32, f127_33⟩ := modF hS
  have h500 := hW.2.2.2.1
  have hf := isFine_t (d := d + 25) (M := up2 M 127 0 (nI 0)) (R := R) (c := nI 1) (k := nI 1) hS up2_at
  have w8 : up2 M 127 0 (nI 0) 127 8 = nI (gT G) := by rw [up2_s (by decide)]; exact hM.1.1
  have r1 : decide ((0 : Int) ≤ (nI n).toInt ∧ (nI n).toInt ≤ (nI (gT G)).toInt) = true := (tx_rng hW).mpr ⟨n, hn, rfl⟩
  obtain ⟨M2, g1, g2, g3⟩ := tcp_L (d := d + 26) (b := gB G) (n := n) hS (by omega) (fun t ht => hW.2.2.2.2 t (by omega)) n 0 (up2 M 127 0 (nI 0)) (by omega) (fun t ht => by rw [up2_c (by decide)]; exact hM.2.1 t (by omega)) (fun t h => absurd h (Nat.not_lt_zero _))
  obtain ⟨M4, b1, b2, b3⟩ := begins_ (d := d + 25) (M := rsM M2 n) hS
  obtain ⟨v8, v9, v10, v12, v16, v20, v21, v23⟩ := rsM_v (M := M2) (n := n)
  have c4 : ∀ c, c ≠ 127 → c ≠ 130 → c ≠ 133 → M4 c = M c := fun c h1 h2 h3 => by rw [b3 c h2, rsM_c h1, g3 c h3, up2_ne h1]
  have s4 : ∀ q, M4 127 q = rsM M2 n 127 q := fun q => by rw [b3 _ (by decide)]
  refine ⟨M4, ?_, ⟨⟨?_, ?_, ⟨by omega, by omega⟩, ?_⟩, Nat.zero_le _, ?_⟩, ⟨b2, ?_, ⟨?_, ?_, ?_⟩, [], ⟨?_, ?_⟩, Nat.le_refl _, Or.inl rfl, Or.inl rfl, Or.inl rfl⟩, c4, ?_, ?_, ?_⟩
  · have hx : cal (d + 26) 138 [.ref 127, .int (nI n)] M R = exe (d + 26) 138 29 [.ref 127, .int (nI n), .int (nI 0)] [] (up2 M 127 0 (nI 0)) R := by
      rw [e138]
      simp (disch := first | assumption | exact nar_b0 | exact nar_b1 | exact nar_b | exact Or.inl rfl | exact Or.inr rfl | exact zin_t (by omega) (by omega) | exact Nat.le_of_ble_eq_true rfl | (rw [nI_cl (by omega)]; assumption) | omega) only [↓reduceIte, reduceCtorEq, not_true_eq_false, not_false_eq_true, q138_0, q138_1, q138_2, q138_5, q138_6, q138_7, q138_8, q138_9, q138_10, q138_13, q138_14, q138_17, q138_18, q138_19, q138_22, q138_25, q138_26, q138_27, q138_28, q138_30, q138_31, q138_34, q138_35, q138_38, q138_39, q138_40, q138_43, q138_44, q138_45b, q138_45z, q138_46, q138_49, q138_52, q138_53, q138_54, q138_57, q138_58, q138_59, q138_62, q138_63, q138_64, q138_67, q138_68, q138_69, q138_72, q138_73, q138_74, q138_77, q138_78, q138_80, q138_83, q138_84, q138_85, q138_88, q138_89, q138_90, q138_93, q138_94, q138_97, q138_101, q138_104, q138_107, q138_108, q138_111, q138_114, q138_115, q138_118, q138_119, q138_122, q138_125, q138_126, q138_129, q138_132, q138_133, q138_136, q138_139, q138_140, q138_143, q138_144, q138_145, q138_148, q138_149, q138_150, q138_151, q138_154, q138_157, q138_158, q138_159, q138_162, q138_165, q138_166, q138_169, q138_172, q138_173, q138_176, q138_177, q138_180, q138_183, q138_184, q138_187, q138_189, q138_190, q138_191, q138_192, q138_195, q138_196, q138_199, q138_200, q138_202, q138_204, q138_207, q138_208, q138_211, q138_212, q138_213, q138_216, q138_217, q138_218, q138_219, q138_222, q138_225, q138_226, q138_229, q138_231, q138_232, kl_int, kl_ref, kl_tok, cS_nil, cS_int, cS_ref, cS_long, tl_some, tl_none, List.cons_append, List.nil_append, nI_add, nI_ltb, nI_leb, nI_eqb, nI_cl, zin_nI, w8, lies_, Int32.toInt_toInt64, c64_0, r1, b2i_t, b2i_ne1, hf, zk0_inl]
    unfold rsM at b1
    rw [hx, g1]
    simp (disch := first | assumption | exact nar_b0 | exact nar_b1 | exact nar_b | exact Or.inl rfl | exact Or.inr rfl | exact zin_t (by omega) (by omega) | exact Nat.le_of_ble_eq_true rfl | (rw [nI_cl (by omega)]; assumption) | omega) only [↓reduceIte, reduceCtorEq, not_true_eq_false, not_false_eq_true, q138_0, q138_1, q138_2, q138_5, q138_6, q138_7, q138_8, q138_9, q138_10, q138_13, q138_14, q138_17, q138_18, q138_19, q138_22, q138_25, q138_26, q138_27, q138_28, q138_30, q138_31, q138_34, q138_35, q138_38, q138_39, q138_40, q138_43, q138_44, q138_45b, q138_45z, q138_46, q138_49, q138_52, q138_53, q138_54, q138_57, q138_58, q138_59, q138_62, q138_63, q138_64, q138_67, q138_68, q138_69, q138_72, q138_73, q138_74, q138_77, q138_78, q138_80, q138_83, q138_84, q138_85, q138_88, q138_89, q138_90, q138_93, q138_94, q138_97, q138_101, q138_104, q138_107, q138_108, q138_111, q138_114, q138_115, q138_118, q138_119, q138_122, q138_125, q138_126, q138_129, q138_132, q138_133, q138_136, q138_139, q138_140, q138_143, q138_144, q138_145, q138_148, q138_149, q138_150, q138_151, q138_154, q138_157, q138_158, q138_159, q138_162, q138_165, q138_166, q138_169, q138_172, q138_173, q138_176, q138_177, q138_180, q138_183, q138_184, q138_187, q138_189, q138_190, q138_191, q138_192, q138_195, q138_196, q138_199, q138_200, q138_202, q138_204, q138_207, q138_208, q138_211, q138_212, q138_213, q138_216, q138_217, q138_218, q138_219, q138_222, q138_225, q138_226, q138_229, q138_231, q138_232, kl_int, kl_ref, kl_tok, cS_nil, cS_int, cS_ref, cS_long, tl_some, tl_none, List.cons_append, List.nil_append, nI_add, nI_ltb, nI_leb, nI_eqb, nI_cl, zin_nI, b1, zk0_inl]
  · rw [s4]; exact v9
  · rw [s4]; exact v10
  · intro t ht; rw [b3 _ (by decide), rsM_c (by decide)]; exact g2 t ht
  · rw [s4]; exact v12
  · intro k hk; exact absurd hk (Nat.not_lt_zero k)
  · rw [s4]; exact v16
  · rw [s4]; exact v21
  · rw [s4]; exact v23
  · rw [s4]; exact v20
  · intro t ht; exact absurd ht (Nat.not_lt_zero t)
  · rw [s4, rsM_s (by omega), g3 _ (by decide)]; exact up2_at
  · rw [s4]; exact v8
  · rw [s4, rsM_s (by omega), g3 _ (by decide)]; exact up2_s (by decide)
/-- a fault is told -/
theorem tx_fault {k p : Nat} {M4 M5 : ZM} {v : Value} (hM : MS M G) (hS : Sh R) (hc : ∀ c, c ≠ 127 → c ≠ 130 → c ≠ 133 → M4 c = M c) (hs : M4 127 0 = nI 0 ∧ M4 127 8 = nI 0 ∧ M4 127 5 = M 127 5) (hf : RLf M4 M5) (hX : RFx 510 M5 b n k p) : exe d 138 157 [.ref 127, .int (nI n), v] [] M5 R = some (.inl (some (.int (nI k - nI 10))), up2 M5 127 14 (nI p), R) ∧ MS (up2 M5 127 14 (nI p)) (txE G (nI p)) ∧ up2 M5 127 14 (nI p) 127 0 = nI 0 ∧ FrM M (up2 M5 127 14 (nI p)) := by
  obtain ⟨nN, k127, k128, l128, k129, l129, k130, l130, k131, l131, k132, l132, k133, l133, k134, l134, k135, l135, k136, l136, k137, l137, k138, l138, k139, l139, k140, l140, k141, l141, k142, l142, k143, l143, k144, l144, k145, l145, k146, l146, f127_1, f127_2, f127_3, f127_4, f127_6, f127_7, f127_17, f127_18, f127_19, f127_22, f127_24, f127_25, f127_26, f127_29, f127_30, f127_31, f127_32, f127_33⟩ := modF hS
  obtain ⟨⟨x0, x1, x2⟩, -⟩ := hX
  obtain ⟨⟨a1, a2, a3, a4, a5, a6⟩, q1, q2, q3⟩ := hM
  have c5 : ∀ c, c ≠ 127 → c ≠ 130 → (c < 133 ∨ 137 < c) → up2 M5 127 14 (nI p) c = M c := fun c h1 h2 h3 => by rw [up2_ne h1, hf.1 c h1 h2 (by omega) (by omega) (by omega) (by omega), hc c h1 h2 (by omega)]
  have s5 : ∀ q, q = 0 ∨ q = 5 ∨ q = 8 → up2 M5 127 14 (nI p) 127 q = M4 127 q := fun q h => by rw [up2_s (by omega), hf.2 q (by omega) (by omega) (by omega) (by omega) (by omega) (by omega) (by omega) (by omega) (by omega)]
  have z : ¬ k ≤ 0 := by omega
  have w12 : up2 M5 127 14 (nI p) 127 12 = nI k := by rw [up2_s (by decide)]; exact x1
  refine ⟨?_, ⟨⟨?_, ?_, up2_at, ?_, ?_, ?_⟩, ?_, ?_, ?_⟩, ?_, fun c h => c5 c (by omega) (by omega) (by omega)⟩
  · simp (disch := first | assumption | exact nar_b0 | exact nar_b1 | exact nar_b | exact Or.inl rfl | exact Or.inr rfl | exact zin_t (by omega) (by omega) | exact Nat.le_of_ble_eq_true rfl | (rw [nI_cl (by omega)]; assumption) | omega) only [↓reduceIte, reduceCtorEq, not_true_eq_false, not_false_eq_true, q138_0, q138_1, q138_2, q138_5, q138_6, q138_7, q138_8, q138_9, q138_10, q138_13, q138_14, q138_17, q138_18, q138_19, q138_22, q138_25, q138_26, q138_27, q138_28, q138_30, q138_31, q138_34, q138_35, q138_38, q138_39, q138_40, q138_43, q138_44, q138_45b, q138_45z, q138_46, q138_49, q138_52, q138_53, q138_54, q138_57, q138_58, q138_59, q138_62, q138_63, q138_64, q138_67, q138_68, q138_69, q138_72, q138_73, q138_74, q138_77, q138_78, q138_80, q138_83, q138_84, q138_85, q138_88, q138_89, q138_90, q138_93, q138_94, q138_97, q138_101, q138_104, q138_107, q138_108, q138_111, q138_114, q138_115, q138_118, q138_119, q138_122, q138_125, q138_126, q138_129, q138_132, q138_133, q138_136, q138_139, q138_140, q138_143, q138_144, q138_145, q138_148, q138_149, q138_150, q138_151, q138_154, q138_157, q138_158, q138_159, q138_162, q138_165, q138_166, q138_169, q138_172, q138_173, q138_176, q138_177, q138_180, q138_183, q138_184, q138_187, q138_189, q138_190, q138_191, q138_192, q138_195, q138_196, q138_199, q138_200, q138_202, q138_204, q138_207, q138_208, q138_211, q138_212, q138_213, q138_216, q138_217, q138_218, q138_219, q138_222, q138_225, q138_226, q138_229, q138_231, q138_232, kl_int, kl_ref, kl_tok, cS_nil, cS_int, cS_ref, cS_long, tl_some, tl_none, List.cons_append, List.nil_append, nI_add, nI_ltb, nI_leb, nI_eqb, nI_cl, zin_nI, x1, x2, z, w12]
  · rw [s5 _ (by omega)]; exact hs.2.1
  · rw [s5 _ (by omega), hs.2.2]; exact a2
  · rw [c5 _ (by decide) (by decide) (by decide)]; exact a4
  · rw [c5 _ (by decide) (by decide) (by decide)]; exact a5
  · rw [c5 _ (by decide) (by decide) (by decide)]; exact a6
  · intro k hk; exact absurd hk (Nat.not_lt_zero k)
  · rw [c5 _ (by decide) (by decide) (by decide)]; exact q2
  · intro j hj k hk; rw [c5 _ (by decide) (by decide) (by decide)]; exact q3 j hj k hk
  · rw [s5 _ (by omega)]; exact hs.1
theorem QW.zero : QW ps0 := ⟨⟨rfl, by decide⟩, by decide, by decide⟩
theorem m_text_k {k p : Nat} (hn : n ≤ gT G) (hp : pText (gB G) n = .inl (k, p)) (hS : Sh R) (hF : FO M) (hW : WG G) (hM : MS M G) : OutM (cal (d + 26) 138 [.ref 127, .int (nI n)] M R) M R 0 (nI k - nI 10) (txE G (nI p)) := by
  obtain ⟨nN, k127, k128, l128, k129, l129, k130, l130, k131, l131, k132, l132, k133, l133, k134, l134, k135, l135, k136, l136, k137, l137, k138, l138, k139, l139, k140, l140, k141, l141, k142, l142, k143, l143, k144, l144, k145, l145, k146, l146, f127_1, f127_2, f127_3, f127_4, f127_6, f127_7, f127_17, f127_18, f127_19, f127_22, f127_24, f127_25, f127_26, f127_29, f127_30, f127_31, f127_32, f127_33⟩ := modF hS
  have h500 := hW.2.2.2.1
  obtain ⟨M4, e1, e2, e3, e4, e5⟩ := tx_start (d := d) hn hS hW hM
  have hF4 : FO M4 := fun j hj => by rw [e4 _ (by omega) (by omega) (by omega), e4 _ (by omega) (by omega) (by omega)]; exact hF j hj
  obtain ⟨t1, t2⟩ := text_L (d := d) (v := .int (nI n)) hS n 0 ps0 M4 (by omega) hF4 e2 QW.zero e3
  unfold pText at hp
  cases e : pAll (gB G) n n ps0 (sk (gB G) n 0) with
  | inl f =>
    rw [e] at hp
    cases hp
    obtain ⟨M5, g1, g2, g3⟩ := t2 _ _ e
    obtain ⟨k1, k2, k3, k4⟩ := tx_fault (d := d + 26) (v := .int (nI n)) hM hS e4 e5 g3 g2
    refine OutM.ok ?_ k2 k3 k4
    have y12 := g2.1.2.1
    have y0 := g2.1.1
    have z : ¬ k = 0 := by omega
    rw [e1, g1, ← k1]
    simp (disch := first | assumption | exact nar_b0 | exact nar_b1 | exact nar_b | exact Or.inl rfl | exact Or.inr rfl | exact zin_t (by omega) (by omega) | exact Nat.le_of_ble_eq_true rfl | (rw [nI_cl (by omega)]; assumption) | omega) only [↓reduceIte, reduceCtorEq, not_true_eq_false, not_false_eq_true, q138_0, q138_1, q138_2, q138_5, q138_6, q138_7, q138_8, q138_9, q138_10, q138_13, q138_14, q138_17, q138_18, q138_19, q138_22, q138_25, q138_26, q138_27, q138_28, q138_30, q138_31, q138_34, q138_35, q138_38, q138_39, q138_40, q138_43, q138_44, q138_45b, q138_45z, q138_46, q138_49, q138_52, q138_53, q138_54, q138_57, q138_58, q138_59, q138_62, q138_63, q138_64, q138_67, q138_68, q138_69, q138_72, q138_73, q138_74, q138_77, q138_78, q138_80, q138_83, q138_84, q138_85, q138_88, q138_89, q138_90, q138_93, q138_94, q138_97, q138_101, q138_104, q138_107, q138_108, q138_111, q138_114, q138_115, q138_118, q138_119, q138_122, q138_125, q138_126, q138_129, q138_132, q138_133, q138_136, q138_139, q138_140, q138_143, q138_144, q138_145, q138_148, q138_149, q138_150, q138_151, q138_154, q138_158, q138_159, q138_162, q138_165, q138_166, q138_169, q138_172, q138_173, q138_176, q138_177, q138_180, q138_183, q138_184, q138_187, q138_189, q138_190, q138_191, q138_192, q138_195, q138_196, q138_199, q138_200, q138_202, q138_204, q138_207, q138_208, q138_211, q138_212, q138_213, q138_216, q138_217, q138_218, q138_219, q138_222, q138_225, q138_226, q138_229, q138_231, q138_232, kl_int, kl_ref, kl_tok, cS_nil, cS_int, cS_ref, cS_long, tl_some, tl_none, List.cons_append, List.nil_append, nI_add, nI_ltb, nI_leb, nI_eqb, nI_cl, zin_nI, y12, z]
  | inr q =>
    obtain ⟨P, j⟩ := q
    rw [e] at hp
    dsimp only at hp
    split at hp
    · rename_i hj0
      cases hp
      obtain ⟨M5, g1, g2, g3, g4, g5⟩ := t1 _ _ e
      have y12 := g2.2.2
      have y9 := g2.1.1
      have y0 : M5 130 0 = nI 0 := by rw [g3.1 0 (by decide), g4.1.1, hj0]
      have hw0 := wrong_ (d := d + 25) (R := R) (k := nI 5) (p := nI n) hS y12
      have hX := RFx.wr (k := 5) (p := n) (u := 510) g2.1 (by have := g2.2.1; omega) (by decide)
      obtain ⟨k1, k2, k3, k4⟩ := tx_fault (d := d + 26) (v := .int (nI n)) hM hS e4 e5 (g5.trans RNf.wr.lf) hX
      refine OutM.ok ?_ k2 k3 k4
      rw [e1, g1, ← k1]
      simp (disch := first | assumption | exact nar_b0 | exact nar_b1 | exact nar_b | exact Or.inl rfl | exact Or.inr rfl | exact zin_t (by omega) (by omega) | exact Nat.le_of_ble_eq_true rfl | (rw [nI_cl (by omega)]; assumption) | omega) only [↓reduceIte, reduceCtorEq, not_true_eq_false, not_false_eq_true, q138_0, q138_1, q138_2, q138_5, q138_6, q138_7, q138_8, q138_9, q138_10, q138_13, q138_14, q138_17, q138_18, q138_19, q138_22, q138_25, q138_26, q138_27, q138_28, q138_30, q138_31, q138_34, q138_35, q138_38, q138_39, q138_40, q138_43, q138_44, q138_45b, q138_45z, q138_46, q138_49, q138_52, q138_53, q138_54, q138_57, q138_58, q138_59, q138_62, q138_63, q138_64, q138_67, q138_68, q138_69, q138_72, q138_73, q138_74, q138_77, q138_78, q138_80, q138_83, q138_84, q138_85, q138_88, q138_89, q138_90, q138_93, q138_94, q138_97, q138_101, q138_104, q138_107, q138_108, q138_111, q138_114, q138_115, q138_118, q138_119, q138_122, q138_125, q138_126, q138_129, q138_132, q138_133, q138_136, q138_139, q138_140, q138_143, q138_144, q138_145, q138_148, q138_149, q138_150, q138_151, q138_154, q138_158, q138_159, q138_162, q138_165, q138_166, q138_169, q138_172, q138_173, q138_176, q138_177, q138_180, q138_183, q138_184, q138_187, q138_189, q138_190, q138_191, q138_192, q138_195, q138_196, q138_199, q138_200, q138_202, q138_204, q138_207, q138_208, q138_211, q138_212, q138_213, q138_216, q138_217, q138_218, q138_219, q138_222, q138_225, q138_226, q138_229, q138_231, q138_232, kl_int, kl_ref, kl_tok, cS_nil, cS_int, cS_ref, cS_long, tl_some, tl_none, List.cons_append, List.nil_append, nI_add, nI_ltb, nI_leb, nI_eqb, nI_cl, zin_nI, y12, y0, y9, hw0, zk0_inl]
    · cases hp
theorem keeps_x (hS : Sh R) (hW : WG G) (hM : MS M G) : ∃ M', cal d 111 [.ref 127] M R = some (.inl none, M', R) ∧ (∀ c, c ≠ 127 → c ≠ 131 → M' c = M c) ∧ ∀ q, q ≠ 5 → M' 127 q = M 127 q := by
  obtain ⟨nN, k127, k128, l128, k129, l129, k130, l130, k131, l131, k132, l132, k133, l133, k134, l134, k135, l135, k136, l136, k137, l137, k138, l138, k139, l139, k140, l140, k141, l141, k142, l142, k143, l143, k144, l144, k145, l145, k146, l146, f127_1, f127_2, f127_3, f127_4, f127_6, f127_7, f127_17, f127_18, f127_19, f127_22, f127_24, f127_25, f127_26, f127_29, f127_30, f127_31, f127_32, f127_33⟩ := modF hS
  have hlen := hW.2.2.1
  obtain ⟨⟨a1, a2, a3, a4, a5, a6⟩, b, c, d1⟩ := hM
  by_cases h8 : (gK G).length < 8
  · obtain ⟨M', g1, g2, g3, g4, g5, g6⟩ := keeps_2 (d := d) (a := (gK G).length) (f := gF G) h8 hS 106 0 M (by omega) a2 c (fun j h => absurd h (Nat.not_lt_zero _))
    refine ⟨M', ?_, fun c h1 h2 => g6 c h2 h1, g5⟩
    have z : ¬ (gK G).length = 8 := by omega
    rw [e111]
    simp (disch := first | assumption | exact nar_b0 | exact nar_b1 | exact nar_b | exact Or.inl rfl | exact Or.inr rfl | exact zin_t (by omega) (by omega) | exact Nat.le_of_ble_eq_true rfl | (rw [nI_cl (by omega)]; assumption) | omega) only [↓reduceIte, reduceCtorEq, not_true_eq_false, not_false_eq_true, q111_0, q111_1, q111_4, q111_6, q111_9, q111_10, q111_12, q111_15, q111_18, q111_19, q111_22, q111_23, q111_24, q111_27, q111_28, q111_30, q111_31, q111_32, q111_33, q111_36, q111_39, q111_40i, q111_40a, q111_41, q111_44, q111_45, q111_46, q111_49, q111_50, q111_52, q111_54, q111_57, q111_58, q111_61, q111_63, q111_64, q111_67, q111_68, q111_69, q111_70, q111_71, q111_74, q111_75, q111_76, q111_77, q111_80, q111_83, q111_84i, q111_84a, q111_85, q111_88, q111_89, q111_90, q111_93, kl_int, kl_ref, kl_tok, cS_nil, cS_int, cS_ref, cS_long, tl_some, tl_none, List.cons_append, List.nil_append, nI_add, nI_ltb, nI_leb, nI_eqb, nI_cl, zin_nI, a2, z]
    exact g1
  · have e8 : (gK G).length = 8 := by omega
    obtain ⟨M1, k1, k2, k3⟩ := keeps_1 (d := d) (b := M 131) hS 742 0 M (by omega) (fun j h => absurd h (Nat.not_lt_zero _)) (fun j _ => rfl)
    generalize hM2 : up2 M1 127 5 (nI 7) = M2
    obtain ⟨M', g1, g2, g3, g4, g5, g6⟩ := keeps_2 (d := d) (a := 7) (f := gF G) (by decide) hS 106 0 M2 (by omega) (by rw [← hM2, up2_at]) (by rw [← hM2, up2_ne (by decide), k3 _ (by decide)]; exact c) (fun j h => absurd h (Nat.not_lt_zero _))
    refine ⟨M', ?_, fun c h h' => by rw [g6 c h' h, ← hM2, up2_ne h, k3 c h'], fun q h => by rw [g5 q h, ← hM2, up2_s h, k3 _ (by decide)]⟩
    have a2' : M 127 5 = nI 8 := by rw [a2, e8]
    have m5 : M1 127 5 = nI 8 := by rw [k3 _ (by decide)]; exact a2'
    have s1 : nI 8 - nI 1 = nI 7 := by decide +kernel
    rw [e111]
    simp (disch := first | assumption | exact nar_b0 | exact nar_b1 | exact nar_b | exact Or.inl rfl | exact Or.inr rfl | exact zin_t (by omega) (by omega) | exact Nat.le_of_ble_eq_true rfl | (rw [nI_cl (by omega)]; assumption) | omega) only [↓reduceIte, reduceCtorEq, not_true_eq_false, not_false_eq_true, q111_0, q111_1, q111_4, q111_6, q111_9, q111_10, q111_12, q111_15, q111_18, q111_19, q111_22, q111_23, q111_24, q111_27, q111_28, q111_30, q111_31, q111_32, q111_33, q111_36, q111_39, q111_40i, q111_40a, q111_41, q111_44, q111_45, q111_46, q111_49, q111_50, q111_52, q111_54, q111_57, q111_58, q111_61, q111_63, q111_64, q111_67, q111_68, q111_69, q111_70, q111_71, q111_74, q111_75, q111_76, q111_77, q111_80, q111_83, q111_84i, q111_84a, q111_85, q111_88, q111_89, q111_90, q111_93, kl_int, kl_ref, kl_tok, cS_nil, cS_int, cS_ref, cS_long, tl_some, tl_none, List.cons_append, List.nil_append, nI_add, nI_ltb, nI_leb, nI_eqb, nI_cl, zin_nI, a2']
    rw [k1]
    simp (disch := first | assumption | exact nar_b0 | exact nar_b1 | exact nar_b | exact Or.inl rfl | exact Or.inr rfl | exact zin_t (by omega) (by omega) | exact Nat.le_of_ble_eq_true rfl | (rw [nI_cl (by omega)]; assumption) | omega) only [↓reduceIte, reduceCtorEq, not_true_eq_false, not_false_eq_true, q111_0, q111_1, q111_4, q111_6, q111_9, q111_10, q111_12, q111_15, q111_18, q111_19, q111_22, q111_23, q111_24, q111_27, q111_28, q111_30, q111_31, q111_32, q111_33, q111_36, q111_39, q111_40i, q111_40a, q111_41, q111_44, q111_45, q111_46, q111_49, q111_50, q111_52, q111_54, q111_57, q111_58, q111_61, q111_63, q111_64, q111_67, q111_68, q111_69, q111_70, q111_71, q111_74, q111_75, q111_76, q111_77, q111_80, q111_83, q111_84i, q111_84a, q111_85, q111_88, q111_89, q111_90, q111_93, kl_int, kl_ref, kl_tok, cS_nil, cS_int, cS_ref, cS_long, tl_some, tl_none, List.cons_append, List.nil_append, nI_add, nI_ltb, nI_leb, nI_eqb, nI_cl, zin_nI, m5, s1, hM2]
    exact g1
theorem rcp_L {g f : Nat → Int32} {x : Int32} (hS : Sh R) : ∀ (m k : Nat) (M : ZM), k + m = 106 → (∀ j, j < 106 → M 130 j = g j) → (∀ j, M 129 j = if j < k then g j else f j) → ∃ M', exe d 138 201 [.ref 127, .int x, .int (nI k)] [] M R = some (.inl (some (.int (g 7))), M', R) ∧ M' 129 = unF g f ∧ ∀ c, c ≠ 129 → M' c = M c := by
  obtain ⟨nN, k127, k128, l128, k129, l129, k130, l130, k131, l131, k132, l132, k133, l133, k134, l134, k135, l135, k136, l136, k137, l137, k138, l138, k139, l139, k140, l140, k141, l141, k142, l142, k143, l143, k144, l144, k145, l145, k146, l146, f127_1, f127_2, f127_3, f127_4, f127_6, f127_7, f127_17, f127_18, f127_19, f127_22, f127_24, f127_25, f127_26, f127_29, f127_30, f127_31, f127_32, f127_33⟩ := modF hS
  intro m
  induction m with
  | zero =>
    intro k M hk h1 h2
    have e : k = 106 := by omega
    subst e
    have h7 : M 129 7 = g 7 := h2 7
    refine ⟨M, ?_, funext h2, fun _ _ => rfl⟩
    have z : 106 ≤ 106 := Nat.le_refl _
    rw [q138_201]
    simp (disch := first | assumption | exact nar_b0 | exact nar_b1 | exact nar_b | exact Or.inl rfl | exact Or.inr rfl | exact zin_t (by omega) (by omega) | exact Nat.le_of_ble_eq_true rfl | (rw [nI_cl (by omega)]; assumption) | omega) only [↓reduceIte, reduceCtorEq, not_true_eq_false, not_false_eq_true, q138_0, q138_1, q138_2, q138_5, q138_6, q138_7, q138_8, q138_9, q138_10, q138_13, q138_14, q138_17, q138_18, q138_19, q138_22, q138_25, q138_26, q138_27, q138_28, q138_30, q138_31, q138_34, q138_35, q138_38, q138_39, q138_40, q138_43, q138_44, q138_45b, q138_45z, q138_46, q138_49, q138_52, q138_53, q138_54, q138_57, q138_58, q138_59, q138_62, q138_63, q138_64, q138_67, q138_68, q138_69, q138_72, q138_73, q138_74, q138_77, q138_78, q138_80, q138_83, q138_84, q138_85, q138_88, q138_89, q138_90, q138_93, q138_94, q138_97, q138_101, q138_104, q138_107, q138_108, q138_111, q138_114, q138_115, q138_118, q138_119, q138_122, q138_125, q138_126, q138_129, q138_132, q138_133, q138_136, q138_139, q138_140, q138_143, q138_144, q138_145, q138_148, q138_149, q138_150, q138_151, q138_154, q138_157, q138_158, q138_159, q138_162, q138_165, q138_166, q138_169, q138_172, q138_173, q138_176, q138_177, q138_180, q138_183, q138_184, q138_187, q138_189, q138_190, q138_191, q138_192, q138_195, q138_196, q138_199, q138_200, q138_202, q138_204, q138_207, q138_208, q138_211, q138_212, q138_213, q138_216, q138_217, q138_218, q138_219, q138_222, q138_225, q138_226, q138_229, q138_231, q138_232, kl_int, kl_ref, kl_tok, cS_nil, cS_int, cS_ref, cS_long, tl_some, tl_none, List.cons_append, List.nil_append, nI_add, nI_ltb, nI_leb, nI_eqb, nI_cl, zin_nI, z, h7]
  | succ m ih =>
    intro k M hk h1 h2
    have z : ¬ 106 ≤ k := by omega
    have q := h1 k (by omega)
    obtain ⟨M', g1, g2, g3⟩ := ih (k + 1) (up2 M 129 k (g k)) (by omega) (fun j hj => by rw [up2_c (by decide)]; exact h1 j hj) (fun j => by
      by_cases e : j = k
      · subst e; rw [up2_at, if_pos (by omega)]
      · rw [up2_s e, h2 j]
        by_cases c : j < k
        · rw [if_pos c, if_pos (by omega)]
        · rw [if_neg c, if_neg (by omega)])
    refine ⟨M', ?_, g2, fun c h => by rw [g3 c h, up2_ne h]⟩
    rw [← g1]
    rw [q138_201]
    simp (disch := first | assumption | exact nar_b0 | exact nar_b1 | exact nar_b | exact Or.inl rfl | exact Or.inr rfl | exact zin_t (by omega) (by omega) | exact Nat.le_of_ble_eq_true rfl | (rw [nI_cl (by omega)]; assumption) | omega) only [↓reduceIte, reduceCtorEq, not_true_eq_false, not_false_eq_true, q138_0, q138_1, q138_2, q138_5, q138_6, q138_7, q138_8, q138_9, q138_10, q138_13, q138_14, q138_17, q138_18, q138_19, q138_22, q138_25, q138_26, q138_27, q138_28, q138_30, q138_31, q138_34, q138_35, q138_38, q138_39, q138_40, q138_43, q138_44, q138_45b, q138_45z, q138_46, q138_49, q138_52, q138_53, q138_54, q138_57, q138_58, q138_59, q138_62, q138_63, q138_64, q138_67, q138_68, q138_69, q138_72, q138_73, q138_74, q138_77, q138_78, q138_80, q138_83, q138_84, q138_85, q138_88, q138_89, q138_90, q138_93, q138_94, q138_97, q138_101, q138_104, q138_107, q138_108, q138_111, q138_114, q138_115, q138_118, q138_119, q138_122, q138_125, q138_126, q138_129, q138_132, q138_133, q138_136, q138_139, q138_140, q138_143, q138_144, q138_145, q138_148, q138_149, q138_150, q138_151, q138_154, q138_157, q138_158, q138_159, q138_162, q138_165, q138_166, q138_169, q138_172, q138_173, q138_176, q138_177, q138_180, q138_183, q138_184, q138_187, q138_189, q138_190, q138_191, q138_192, q138_195, q138_196, q138_199, q138_200, q138_202, q138_204, q138_207, q138_208, q138_211, q138_212, q138_213, q138_216, q138_217, q138_218, q138_219, q138_222, q138_225, q138_226, q138_229, q138_231, q138_232, kl_int, kl_ref, kl_tok, cS_nil, cS_int, cS_ref, cS_long, tl_some, tl_none, List.cons_append, List.nil_append, nI_add, nI_ltb, nI_leb, nI_eqb, nI_cl, zin_nI, z, q]
theorem m_text_t (hn : n ≤ gT G) (hp : pText (gB G) n = .inr P) (hPW : PW P) (hPE : PE (gB G) n P) (hS : Sh R) (hF : FO M) (hW : WG G) (hM : MS M G) : OutM (cal (d + 26) 138 [.ref 127, .int (nI n)] M R) M R 0 (nI (rowL P).length) (txG G P) := by
  obtain ⟨nN, k127, k128, l128, k129, l129, k130, l130, k131, l131, k132, l132, k133, l133, k134, l134, k135, l135, k136, l136, k137, l137, k138, l138, k139, l139, k140, l140, k141, l141, k142, l142, k143, l143, k144, l144, k145, l145, k146, l146, f127_1, f127_2, f127_3, f127_4, f127_6, f127_7, f127_17, f127_18, f127_19, f127_22, f127_24, f127_25, f127_26, f127_29, f127_30, f127_31, f127_32, f127_33⟩ := modF hS
  have h500 := hW.2.2.2.1
  obtain ⟨M4, e1, e2, e3, e4, e5⟩ := tx_start (d := d) hn hS hW hM
  have hF4 : FO M4 := fun j hj => by rw [e4 _ (by omega) (by omega) (by omega), e4 _ (by omega) (by omega) (by omega)]; exact hF j hj
  obtain ⟨t1, t2⟩ := text_L (d := d) (v := .int (nI n)) hS n 0 ps0 M4 (by omega) hF4 e2 QW.zero e3
  unfold pText at hp
  cases e : pAll (gB G) n n ps0 (sk (gB G) n 0) with
  | inl f => rw [e] at hp; cases hp
  | inr q =>
    obtain ⟨P', j⟩ := q
    rw [e] at hp
    dsimp only at hp
    split at hp
    · cases hp
    · rename_i hj0
      cases hp
      obtain ⟨M5, g1, g2, g3, g4, g5⟩ := t1 _ _ e
      have y12 := g2.2.2
      have hj := g2.2.1
      have y0 : M5 130 0 = nI (jn (rD P)) := by rw [g3.1 0 (by decide), g4.1.1]
      have hJ := hPW.1.1.2
      -- the place of the fault: none
      have c6 : ∀ c, c ≠ 127 → c ≠ 130 → (c < 133 ∨ 137 < c) → up2 M5 127 14 (-1) c = M c := fun c h1 h2 h3 => by rw [up2_ne h1, g5.1 c h1 h2 (by omega) (by omega) (by omega) (by omega), e4 c h1 h2 (by omega)]
      have s6 : ∀ q, q = 0 ∨ q = 5 ∨ q = 8 → up2 M5 127 14 (-1) 127 q = M4 127 q := fun q h => by rw [up2_s (by omega), g5.2 q (by omega) (by omega) (by omega) (by omega) (by omega) (by omega) (by omega) (by omega) (by omega)]
      have y12' : up2 M5 127 14 (-1) 127 12 = nI 0 := by rw [up2_s (by decide)]; exact y12
      have hM6 : MS (up2 M5 127 14 (-1)) (txE G (-1)) := by
        obtain ⟨⟨a1, a2, a3, a4, a5, a6⟩, q1, q2, q3⟩ := hM
        refine ⟨⟨?_, ?_, up2_at, ?_, ?_, ?_⟩, ?_, ?_, ?_⟩
        · rw [s6 _ (by omega)]; exact e5.2.1
        · rw [s6 _ (by omega), e5.2.2]; exact a2
        · rw [c6 _ (by decide) (by decide) (by decide)]; exact a4
        · rw [c6 _ (by decide) (by decide) (by decide)]; exact a5
        · rw [c6 _ (by decide) (by decide) (by decide)]; exact a6
        · intro k hk; exact absurd hk (Nat.not_lt_zero k)
        · rw [c6 _ (by decide) (by decide) (by decide)]; exact q2
        · intro j hj k hk; rw [c6 _ (by decide) (by decide) (by decide)]; exact q3 j hj k hk
      have h6 : RPS (up2 M5 127 14 (-1)) P j := g3.fr (fun c h => up2_ne (by omega)) (fun q h => up2_s (by omega))
      have fr6 : FrM M (up2 M5 127 14 (-1)) := fun c h => c6 c (by omega) (by omega) (by omega)
      have z6 : up2 M5 127 14 (-1) 127 0 = nI 0 := by rw [s6 _ (by omega)]; exact e5.1
      generalize hM6e : up2 M5 127 14 (-1) = M6 at y12' hM6 h6 fr6 z6
      obtain ⟨M7, p1, p2⟩ := lays_ (d := d + 23) (M := M6) (b := gB G) (n := n) (P := P) hS ⟨hPW, hPE, by omega, j, by omega, h6⟩
      have hM7 : MS M7 (txE G (-1)) := hM6.fr (fun c hc => p2.1 c (by omega) (by omega)) (by rw [p2.1 _ (by decide) (by decide)]) (by rw [p2.1 _ (by decide) (by decide)]) (by rw [p2.1 _ (by decide) (by decide)])
      obtain ⟨M8, k1, k2, k3, k4, k5⟩ := keeps_ (d := d + 25) hS (WG.tx (v := -1) hW) hM7
      obtain ⟨M8', l1, l2, l3⟩ := keeps_x (d := d + 25) hS (WG.tx (v := -1) hW) hM7
      have e77 : M8' = M8 := by
        rw [k1] at l1
        injection l1 with l1
        injection l1 with _ l1
        injection l1 with l1 _
        exact l1.symm
      subst e77
      have f129 : M8' 129 = gF G := by rw [k5]; exact hM7.2.2.1
      obtain ⟨M9, r1, r2, r3⟩ := rcp_L (d := d + 26) (g := laid P) (f := gF G) (x := nI n) hS 106 0 M8' (by omega) (fun t ht => by rw [l2 _ (by decide) (by decide)]; exact p2.2 t ht) (fun j => by rw [f129, if_neg (Nat.not_lt_zero _)])
      have hM9 : MS M9 (acG (txE G (-1)) (unF (laid P) (gF G))) := MS.row (G := txE G (-1)) k2 r2 r3
      have hv7 : laid P 7 = nI (rowL P).length := rfl
      refine OutM.ok (M' := M9) ?_ hM9 ?_ ?_
      · have z : ¬ jn (rD P) = 0 := hj0
        rw [← hv7, ← r1, e1, g1]
        simp (disch := first | assumption | exact nar_b0 | exact nar_b1 | exact nar_b | exact Or.inl rfl | exact Or.inr rfl | exact zin_t (by omega) (by omega) | exact Nat.le_of_ble_eq_true rfl | (rw [nI_cl (by omega)]; assumption) | omega) only [↓reduceIte, reduceCtorEq, not_true_eq_false, not_false_eq_true, q138_0, q138_1, q138_2, q138_5, q138_6, q138_7, q138_8, q138_9, q138_10, q138_13, q138_14, q138_17, q138_18, q138_19, q138_22, q138_25, q138_26, q138_27, q138_28, q138_30, q138_31, q138_34, q138_35, q138_38, q138_39, q138_40, q138_43, q138_44, q138_45b, q138_45z, q138_46, q138_49, q138_52, q138_53, q138_54, q138_57, q138_58, q138_59, q138_62, q138_63, q138_64, q138_67, q138_68, q138_69, q138_72, q138_73, q138_74, q138_77, q138_78, q138_80, q138_83, q138_84, q138_85, q138_88, q138_89, q138_90, q138_93, q138_94, q138_97, q138_101, q138_104, q138_107, q138_108, q138_111, q138_114, q138_115, q138_118, q138_119, q138_122, q138_125, q138_126, q138_129, q138_132, q138_133, q138_136, q138_139, q138_140, q138_143, q138_144, q138_145, q138_148, q138_149, q138_150, q138_151, q138_154, q138_157, q138_158, q138_159, q138_162, q138_165, q138_166, q138_169, q138_172, q138_173, q138_176, q138_177, q138_180, q138_183, q138_184, q138_187, q138_189, q138_190, q138_191, q138_192, q138_195, q138_196, q138_199, q138_200, q138_202, q138_204, q138_207, q138_208, q138_211, q138_212, q138_213, q138_216, q138_217, q138_218, q138_219, q138_222, q138_225, q138_226, q138_229, q138_231, q138_232, kl_int, kl_ref, kl_tok, cS_nil, cS_int, cS_ref, cS_long, tl_some, tl_none, List.cons_append, List.nil_append, nI_add, nI_ltb, nI_leb, nI_eqb, nI_cl, zin_nI, y12, y0, z, Nat.le_refl, hM6e, y12', k1, p1, zk0_inl]
      · rw [r3 _ (by decide), k3, p2.1 _ (by decide) (by decide)]; exact z6
      · intro c h
        rw [r3 c (by omega), k4 c h, p2.1 c (by omega) (by omega)]
        exact fr6 c h
end Rw
