-- the reference: acts
section Mu
variable {d : Nat} {M : ZM} {R : ZH} {G : GS}
theorem keeps_1 {b : Nat → Int32} (hS : Sh R) : ∀ (m k : Nat) (M : ZM), k + m = 742 → (∀ j, j < k → M 131 j = b (j + 106)) → (∀ j, k ≤ j → M 131 j = b j) → ∃ M', exe d 111 11 [.ref 127, .int (nI k)] [] M R = exe d 111 39 [.ref 127, .int (nI 742)] [] M' R ∧ (∀ j, j < 742 → M' 131 j = b (j + 106)) ∧ ∀ c, c ≠ 131 → M' c = M c := by
  obtain ⟨nN, k127, k128, l128, k129, l129, k130, l130, k131, l131, k132, l132, k133, l133, k134, l134, k135, l135, k136, l136, k137, l137, k138, l138, k139, l139, k140, l140, k141, l141, k142, l142, k143, l143, k144, l144, k145, l145, k146, l146, f127_1, f127_2, f127_3, f127_4, f127_6, f127_7, f127_17, f127_18, f127_19, f127_22, f127_24, f127_25, f127_26, f127_29, f127_30, f127_31, f127_32, f127_33⟩ := modF hS
  intro m
  induction m with
  | zero =>
    intro k M hk h1 h2
    have e : k = 742 := by omega
    subst e
    refine ⟨M, ?_, h1, fun _ _ => rfl⟩
    have z : 742 ≤ 742 := Nat.le_refl _
    rw [q111_11]
    simp (disch := first | assumption | exact nar_b0 | exact nar_b1 | exact nar_b | exact Or.inl rfl | exact Or.inr rfl | exact zin_t (by omega) (by omega) | exact Nat.le_of_ble_eq_true rfl | (rw [nI_cl (by omega)]; assumption) | omega) only [↓reduceIte, reduceCtorEq, not_true_eq_false, not_false_eq_true, q111_0, q111_1, q111_4, q111_6, q111_9, q111_10, q111_12, q111_15, q111_18, q111_19, q111_22, q111_23, q111_24, q111_27, q111_28, q111_30, q111_31, q111_32, q111_33, q111_36, q111_40i, q111_40a, q111_41, q111_44, q111_45, q111_46, q111_49, q111_50, q111_52, q111_54, q111_57, q111_58, q111_61, q111_63, q111_64, q111_67, q111_68, q111_69, q111_70, q111_71, q111_74, q111_75, q111_76, q111_77, q111_80, q111_83, q111_84i, q111_84a, q111_85, q111_88, q111_89, q111_90, q111_93, kl_int, kl_ref, kl_tok, cS_nil, cS_int, cS_ref, cS_long, tl_some, tl_none, List.cons_append, List.nil_append, nI_add, nI_ltb, nI_leb, nI_eqb, nI_cl, zin_nI, z]
  | succ m ih =>
    intro k M hk h1 h2
    have z : ¬ 742 ≤ k := by omega
    have q := h2 (k + 106) (by omega)
    obtain ⟨M', g1, g2, g3⟩ := ih (k + 1) (up2 M 131 k (b (k + 106))) (by omega) (fun j hj => by
      by_cases e : j = k
      · subst e; rw [up2_at]
      · rw [up2_s e]; exact h1 j (by omega)) (fun j hj => by rw [up2_s (by omega)]; exact h2 j (by omega))
    refine ⟨M', ?_, g2, fun c h => by rw [g3 c h, up2_ne h]⟩
    rw [← g1]
    rw [q111_11]
    simp (disch := first | assumption | exact nar_b0 | exact nar_b1 | exact nar_b | exact Or.inl rfl | exact Or.inr rfl | exact zin_t (by omega) (by omega) | exact Nat.le_of_ble_eq_true rfl | (rw [nI_cl (by omega)]; assumption) | omega) only [↓reduceIte, reduceCtorEq, not_true_eq_false, not_false_eq_true, q111_0, q111_1, q111_4, q111_6, q111_9, q111_10, q111_12, q111_15, q111_18, q111_19, q111_22, q111_23, q111_24, q111_27, q111_28, q111_30, q111_31, q111_32, q111_33, q111_36, q111_39, q111_40i, q111_40a, q111_41, q111_44, q111_45, q111_46, q111_49, q111_50, q111_52, q111_54, q111_57, q111_58, q111_61, q111_63, q111_64, q111_67, q111_68, q111_69, q111_70, q111_71, q111_74, q111_75, q111_76, q111_77, q111_80, q111_83, q111_84i, q111_84a, q111_85, q111_88, q111_89, q111_90, q111_93, kl_int, kl_ref, kl_tok, cS_nil, cS_int, cS_ref, cS_long, tl_some, tl_none, List.cons_append, List.nil_append, nI_add, nI_ltb, nI_leb, nI_eqb, nI_cl, zin_nI, z, q]
theorem keeps_2 {a : Nat} {f : Nat → Int32} (ha : a < 8) (hS : Sh R) : ∀ (m k : Nat) (M : ZM), k + m = 106 → M 127 5 = nI a → M 129 = f → (∀ j, j < k → M 131 (106 * a + j) = f j) → ∃ M', exe d 111 51 [.ref 127, .int (nI k)] [] M R = some (.inl none, M', R) ∧ (∀ j, j < 106 → M' 131 (106 * a + j) = f j) ∧ (∀ j, j < 106 * a → M' 131 j = M 131 j) ∧ M' 127 5 = nI (a + 1) ∧ (∀ q, q ≠ 5 → M' 127 q = M 127 q) ∧ ∀ c, c ≠ 131 → c ≠ 127 → M' c = M c := by
  obtain ⟨nN, k127, k128, l128, k129, l129, k130, l130, k131, l131, k132, l132, k133, l133, k134, l134, k135, l135, k136, l136, k137, l137, k138, l138, k139, l139, k140, l140, k141, l141, k142, l142, k143, l143, k144, l144, k145, l145, k146, l146, f127_1, f127_2, f127_3, f127_4, f127_6, f127_7, f127_17, f127_18, f127_19, f127_22, f127_24, f127_25, f127_26, f127_29, f127_30, f127_31, f127_32, f127_33⟩ := modF hS
  intro m
  induction m with
  | zero =>
    intro k M hk h5 h9 h1
    have e : k = 106 := by omega
    subst e
    refine ⟨up2 M 127 5 (nI (a + 1)), ?_, fun j hj => by rw [up2_c (by decide)]; exact h1 j hj, fun j hj => by rw [up2_c (by decide)], up2_at, fun q h => up2_s h, fun c h h' => up2_ne h'⟩
    have z : 106 ≤ 106 := Nat.le_refl _
    rw [q111_51]
    simp (disch := first | assumption | exact nar_b0 | exact nar_b1 | exact nar_b | exact Or.inl rfl | exact Or.inr rfl | exact zin_t (by omega) (by omega) | exact Nat.le_of_ble_eq_true rfl | (rw [nI_cl (by omega)]; assumption) | omega) only [↓reduceIte, reduceCtorEq, not_true_eq_false, not_false_eq_true, q111_0, q111_1, q111_4, q111_6, q111_9, q111_10, q111_12, q111_15, q111_18, q111_19, q111_22, q111_23, q111_24, q111_27, q111_28, q111_30, q111_31, q111_32, q111_33, q111_36, q111_39, q111_40i, q111_40a, q111_41, q111_44, q111_45, q111_46, q111_49, q111_50, q111_52, q111_54, q111_57, q111_58, q111_61, q111_63, q111_64, q111_67, q111_68, q111_69, q111_70, q111_71, q111_74, q111_75, q111_76, q111_77, q111_80, q111_83, q111_84i, q111_84a, q111_85, q111_88, q111_89, q111_90, q111_93, kl_int, kl_ref, kl_tok, cS_nil, cS_int, cS_ref, cS_long, tl_some, tl_none, List.cons_append, List.nil_append, nI_add, nI_ltb, nI_leb, nI_eqb, nI_cl, zin_nI, z, h5]
  | succ m ih =>
    intro k M hk h5 h9 h1
    have z : ¬ 106 ≤ k := by omega
    obtain ⟨M', g1, g2, g3, g4, g5, g6⟩ := ih (k + 1) (up2 M 131 (106 * a + k) (f k)) (by omega) (by rw [up2_c (by decide)]; exact h5) (by rw [up2_ne (by decide)]; exact h9) (fun j hj => by
      by_cases e : j = k
      · subst e; rw [up2_at]
      · rw [up2_s (by omega)]; exact h1 j (by omega))
    refine ⟨M', ?_, g2, fun j hj => by rw [g3 j hj, up2_s (by omega)], g4, fun q h => by rw [g5 q h, up2_c (by decide)], fun c h h' => by rw [g6 c h h', up2_ne h]⟩
    rw [← g1]
    rw [q111_51]
    simp (disch := first | assumption | exact nar_b0 | exact nar_b1 | exact nar_b | exact Or.inl rfl | exact Or.inr rfl | exact zin_t (by omega) (by omega) | exact Nat.le_of_ble_eq_true rfl | (rw [nI_cl (by omega)]; assumption) | omega) only [↓reduceIte, reduceCtorEq, not_true_eq_false, not_false_eq_true, q111_0, q111_1, q111_4, q111_6, q111_9, q111_10, q111_12, q111_15, q111_18, q111_19, q111_22, q111_23, q111_24, q111_27, q111_28, q111_30, q111_31, q111_32, q111_33, q111_36, q111_39, q111_40i, q111_40a, q111_41, q111_44, q111_45, q111_46, q111_49, q111_50, q111_52, q111_54, q111_57, q111_58, q111_61, q111_63, q111_64, q111_67, q111_68, q111_69, q111_70, q111_71, q111_74, q111_75, q111_76, q111_77, q111_80, q111_83, q111_84i, q111_84a, q111_85, q111_88, q111_89, q111_90, q111_93, kl_int, kl_ref, kl_tok, cS_nil, cS_int, cS_ref, cS_long, tl_some, tl_none, List.cons_append, List.nil_append, nI_add, nI_ltb, nI_leb, nI_eqb, nI_cl, zin_nI, z, h5, nI_mul, h9]
theorem keeps_ (hS : Sh R) (hW : WG G) (hM : MS M G) : ∃ M', cal d 111 [.ref 127] M R = some (.inl none, M', R) ∧ MS M' (acG G (gF G)) ∧ M' 127 0 = M 127 0 ∧ FrM M M' ∧ M' 129 = M 129 := by
  obtain ⟨nN, k127, k128, l128, k129, l129, k130, l130, k131, l131, k132, l132, k133, l133, k134, l134, k135, l135, k136, l136, k137, l137, k138, l138, k139, l139, k140, l140, k141, l141, k142, l142, k143, l143, k144, l144, k145, l145, k146, l146, f127_1, f127_2, f127_3, f127_4, f127_6, f127_7, f127_17, f127_18, f127_19, f127_22, f127_24, f127_25, f127_26, f127_29, f127_30, f127_31, f127_32, f127_33⟩ := modF hS
  have hlen := hW.2.2.1
  have hkl := kp_len (K := gK G) (f := gF G) hlen
  obtain ⟨⟨a1, a2, a3, a4, a5, a6⟩, b, c, d1⟩ := hM
  by_cases h8 : (gK G).length < 8
  · rw [if_pos h8] at hkl
    have e1 : kp (gK G) (gF G) = gK G ++ [gF G] := by unfold kp; rw [if_pos h8]
    obtain ⟨M', g1, g2, g3, g4, g5, g6⟩ := keeps_2 (d := d) (a := (gK G).length) (f := gF G) h8 hS 106 0 M (by omega) a2 c (fun j h => absurd h (Nat.not_lt_zero _))
    refine ⟨M', ?_, ⟨⟨?_, ?_, ?_, ?_, ?_, ?_⟩, ?_, ?_, ?_⟩, g5 _ (by decide), fun c h => g6 c (by omega) (by omega), g6 _ (by decide) (by decide)⟩
    · have z : ¬ (gK G).length = 8 := by omega
      rw [e111]
      simp (disch := first | assumption | exact nar_b0 | exact nar_b1 | exact nar_b | exact Or.inl rfl | exact Or.inr rfl | exact zin_t (by omega) (by omega) | exact Nat.le_of_ble_eq_true rfl | (rw [nI_cl (by omega)]; assumption) | omega) only [↓reduceIte, reduceCtorEq, not_true_eq_false, not_false_eq_true, q111_0, q111_1, q111_4, q111_6, q111_9, q111_10, q111_12, q111_15, q111_18, q111_19, q111_22, q111_23, q111_24, q111_27, q111_28, q111_30, q111_31, q111_32, q111_33, q111_36, q111_39, q111_40i, q111_40a, q111_41, q111_44, q111_45, q111_46, q111_49, q111_50, q111_52, q111_54, q111_57, q111_58, q111_61, q111_63, q111_64, q111_67, q111_68, q111_69, q111_70, q111_71, q111_74, q111_75, q111_76, q111_77, q111_80, q111_83, q111_84i, q111_84a, q111_85, q111_88, q111_89, q111_90, q111_93, kl_int, kl_ref, kl_tok, cS_nil, cS_int, cS_ref, cS_long, tl_some, tl_none, List.cons_append, List.nil_append, nI_add, nI_ltb, nI_leb, nI_eqb, nI_cl, zin_nI, a2, z]
      exact g1
    · rw [g5 _ (by decide)]; exact a1
    · rw [g4]; show _ = nI (kp (gK G) (gF G)).length; rw [hkl]
    · rw [g5 _ (by decide)]; exact a3
    · rw [g6 _ (by decide) (by decide)]; exact a4
    · rw [g6 _ (by decide) (by decide)]; exact a5
    · rw [g6 _ (by decide) (by decide)]; exact a6
    · intro k hk; rw [g6 _ (by decide) (by decide)]; exact b k hk
    · rw [g6 _ (by decide) (by decide)]; exact c
    · intro j hj k hk
      have hj2 : j < (kp (gK G) (gF G)).length := hj
      rw [hkl] at hj2
      by_cases e2 : j < (gK G).length
      · have e3 : (gK (acG G (gF G)))[j] = (gK G)[j] := by
          show (kp (gK G) (gF G))[j] = _
          simp only [e1]
          exact List.getElem_append_left e2
        rw [e3, g3 _ (by omega)]
        exact d1 j e2 k hk
      · have e4 : j = (gK G).length := by omega
        subst e4
        have e3 : (gK (acG G (gF G)))[(gK G).length] = gF G := by
          show (kp (gK G) (gF G))[(gK G).length]'(by omega) = _
          simp [e1]
        rw [e3]
        exact g2 k hk
  · rw [if_neg h8] at hkl
    have e8 : (gK G).length = 8 := by omega
    have e1 : kp (gK G) (gF G) = (gK G).drop 1 ++ [gF G] := by unfold kp; rw [if_neg h8]
    obtain ⟨M1, k1, k2, k3⟩ := keeps_1 (d := d) (b := M 131) hS 742 0 M (by omega) (fun j h => absurd h (Nat.not_lt_zero _)) (fun j _ => rfl)
    generalize hM2 : up2 M1 127 5 (nI 7) = M2
    obtain ⟨M', g1, g2, g3, g4, g5, g6⟩ := keeps_2 (d := d) (a := 7) (f := gF G) (by decide) hS 106 0 M2 (by omega) (by rw [← hM2, up2_at]) (by rw [← hM2, up2_ne (by decide), k3 _ (by decide)]; exact c) (fun j h => absurd h (Nat.not_lt_zero _))
    have fr : ∀ c, c ≠ 131 → c ≠ 127 → M' c = M c := fun c h h' => by rw [g6 c h h', ← hM2, up2_ne h', k3 c h]
    have frs : ∀ q, q ≠ 5 → M' 127 q = M 127 q := fun q h => by rw [g5 q h, ← hM2, up2_s h, k3 _ (by decide)]
    refine ⟨M', ?_, ⟨⟨?_, ?_, ?_, ?_, ?_, ?_⟩, ?_, ?_, ?_⟩, frs _ (by decide), fun c h => fr c (by omega) (by omega), fr _ (by decide) (by decide)⟩
    · have a2' : M 127 5 = nI 8 := by rw [a2, e8]
      have m5 : M1 127 5 = nI 8 := by rw [k3 _ (by decide)]; exact a2'
      have s1 : nI 8 - nI 1 = nI 7 := by decide +kernel
      rw [e111]
      simp (disch := first | assumption | exact nar_b0 | exact nar_b1 | exact nar_b | exact Or.inl rfl | exact Or.inr rfl | exact zin_t (by omega) (by omega) | exact Nat.le_of_ble_eq_true rfl | (rw [nI_cl (by omega)]; assumption) | omega) only [↓reduceIte, reduceCtorEq, not_true_eq_false, not_false_eq_true, q111_0, q111_1, q111_4, q111_6, q111_9, q111_10, q111_12, q111_15, q111_18, q111_19, q111_22, q111_23, q111_24, q111_27, q111_28, q111_30, q111_31, q111_32, q111_33, q111_36, q111_39, q111_40i, q111_40a, q111_41, q111_44, q111_45, q111_46, q111_49, q111_50, q111_52, q111_54, q111_57, q111_58, q111_61, q111_63, q111_64, q111_67, q111_68, q111_69, q111_70, q111_71, q111_74, q111_75, q111_76, q111_77, q111_80, q111_83, q111_84i, q111_84a, q111_85, q111_88, q111_89, q111_90, q111_93, kl_int, kl_ref, kl_tok, cS_nil, cS_int, cS_ref, cS_long, tl_some, tl_none, List.cons_append, List.nil_append, nI_add, nI_ltb, nI_leb, nI_eqb, nI_cl, zin_nI, a2']
      rw [k1]
      simp (disch := first | assumption | exact nar_b0 | exact nar_b1 | exact nar_b | exact Or.inl rfl | exact Or.inr rfl | exact zin_t (by omega) (by omega) | exact Nat.le_of_ble_eq_true rfl | (rw [nI_cl (by omega)]; assumption) | omega) only [↓reduceIte, reduceCtorEq, not_true_eq_false, not_false_eq_true, q111_0, q111_1, q111_4, q111_6, q111_9, q111_10, q111_12, q111_15, q111_18, q111_19, q111_22, q111_23, q111_24, q111_27, q111_28, q111_30, q111_31, q111_32, q111_33, q111_36, q111_39, q111_40i, q111_40a, q111_41, q111_44, q111_45, q111_46, q111_49, q111_50, q111_52, q111_54, q111_57, q111_58, q111_61, q111_63, q111_64, q111_67, q111_68, q111_69, q111_70, q111_71, q111_74, q111_75, q111_76, q111_77, q111_80, q111_83, q111_84i, q111_84a, q111_85, q111_88, q111_89, q111_90, q111_93, kl_int, kl_ref, kl_tok, cS_nil, cS_int, cS_ref, cS_long, tl_some, tl_none, List.cons_append, List.nil_append, nI_add, nI_ltb, nI_leb, nI_eqb, nI_cl, zin_nI, m5, s1, hM2]
      exact g1
    · rw [frs _ (by decide)]; exact a1
    · rw [g4]; show _ = nI (kp (gK G) (gF G)).length; rw [hkl]
    · rw [frs _ (by decide)]; exact a3
    · rw [fr _ (by decide) (by decide)]; exact a4
    · rw [fr _ (by decide) (by decide)]; exact a5
    · rw [fr _ (by decide) (by decide)]; exact a6
    · intro k hk; rw [fr _ (by decide) (by decide)]; exact b k hk
    · rw [fr _ (by decide) (by decide)]; exact c
    · intro j hj k hk
      have hj2 : j < (kp (gK G) (gF G)).length := hj
      rw [hkl] at hj2
      by_cases e2 : j < 7
      · have e3 : (gK (acG G (gF G)))[j] = (gK G)[j + 1]'(by omega) := by
          show (kp (gK G) (gF G))[j] = _
          simp only [e1]
          rw [List.getElem_append_left (by rw [List.length_drop]; omega), List.getElem_drop]
          congr 1
          omega
        rw [e3, g3 _ (by omega), ← hM2, up2_c (by decide), k2 _ (by omega), show 106 * j + k + 106 = 106 * (j + 1) + k by omega]
        exact d1 (j + 1) (by omega) k hk
      · have e4 : j = 7 := by omega
        subst e4
        have e3 : (gK (acG G (gF G)))[7] = gF G := by
          show (kp (gK G) (gF G))[7]'(by omega) = _
          simp only [e1]
          rw [List.getElem_append_right (by rw [List.length_drop]; omega)]
          simp [e8]
        rw [e3]
        exact g2 k hk
theorem MS.row {M M' : ZM} {f : Nat → Int32} (h : MS M (acG G (gF G))) (hf : M' 129 = f) (hc : ∀ c, c ≠ 129 → M' c = M c) : MS M' (acG G f) := by
  obtain ⟨a, b, c, d⟩ := h
  refine ⟨?_, ?_, hf, ?_⟩
  · rw [hc _ (by decide), hc _ (by decide)]; exact a
  · intro k hk; rw [hc _ (by decide)]; exact b k hk
  · intro j hj k hk; rw [hc _ (by decide)]; exact d j hj k hk
def goM (M : ZM) : ZM := up2 (up2 M 129 5 (M 129 5 - nI 1)) 129 6 (zshr (M 129 6) (nI 1))
theorem goM_row {M : ZM} : goM M 129 = paF (M 129) := by
  unfold goM paF
  rw [up2_rwf, up2_rwf]
theorem goM_c {M : ZM} {c : Nat} (h : c ≠ 129) : goM M c = M c := by
  unfold goM
  rw [up2_ne h, up2_ne h]
theorem goesOn_ (hS : Sh R) : cal d 158 [.ref 127] M R = some (.inl none, goM M, R) := by
  obtain ⟨nN, k127, k128, l128, k129, l129, k130, l130, k131, l131, k132, l132, k133, l133, k134, l134, k135, l135, k136, l136, k137, l137, k138, l138, k139, l139, k140, l140, k141, l141, k142, l142, k143, l143, k144, l144, k145, l145, k146, l146, f127_1, f127_2, f127_3, f127_4, f127_6, f127_7, f127_17, f127_18, f127_19, f127_22, f127_24, f127_25, f127_26, f127_29, f127_30, f127_31, f127_32, f127_33⟩ := modF hS
  rw [e158]
  simp (disch := first | assumption | exact nar_b0 | exact nar_b1 | exact nar_b | exact Or.inl rfl | exact Or.inr rfl | exact zin_t (by omega) (by omega) | exact Nat.le_of_ble_eq_true rfl | (rw [nI_cl (by omega)]; assumption) | omega) only [↓reduceIte, reduceCtorEq, not_true_eq_false, not_false_eq_true, q158_0, q158_1, q158_4, q158_5, q158_6, q158_7, q158_8, q158_9, q158_10, q158_11, q158_14, q158_16, q158_17, q158_18, q158_19, q158_20, q158_21, kl_int, kl_ref, kl_tok, cS_nil, cS_int, cS_ref, cS_long, tl_some, tl_none, List.cons_append, List.nil_append, nI_add, nI_ltb, nI_leb, nI_eqb, nI_cl, zin_nI, up2_s]
  rfl
theorem m_strike_t {x : Int32} {p : Nat} (hx : plI (gF G) x = some p) (hm : may (gF G) (rw (gF G) p) = true) (hS : Sh R) (hW : WG G) (hM : MS M G) : OutM (cal (d + 7) 159 [.ref 127, .int x] M R) M R 0 (nI (lf (gF G) - 1)) (acG G (stF (gF G) (rw (gF G) p))) := by
  obtain ⟨nN, k127, k128, l128, k129, l129, k130, l130, k131, l131, k132, l132, k133, l133, k134, l134, k135, l135, k136, l136, k137, l137, k138, l138, k139, l139, k140, l140, k141, l141, k142, l142, k143, l143, k144, l144, k145, l145, k146, l146, f127_1, f127_2, f127_3, f127_4, f127_6, f127_7, f127_17, f127_18, f127_19, f127_22, f127_24, f127_25, f127_26, f127_29, f127_30, f127_31, f127_32, f127_33⟩ := modF hS
  have hw := hW.1.nums
  obtain ⟨M0, c1, c2, c3, c4⟩ := isAct_t (d := d + 2) (M := up2 M 127 0 (nI 0)) hx hm hS hW hM.th up2_at
  obtain ⟨p1, rfl, p3, p4⟩ := plI_some hW.1 hx
  obtain ⟨m1, m2⟩ := may_iff hm
  obtain ⟨M1, a1, a2, a3, a4, a5⟩ := keeps_ (d := d + 6) hS hW c2
  have h9 := c2.2.2.1
  have h6 : M1 129 6 = gF G 6 := by rw [a5, h9]
  generalize hM2 : up2 M1 129 (78 + rw (gF G) p) (gF G 6 &&& nI 1) = M2
  have r2 : M2 129 = upf (gF G) (78 + rw (gF G) p) (gF G 6 &&& nI 1) := by rw [← hM2, up2_rwf, a5, h9]
  have f2 : ∀ c, c ≠ 129 → M2 c = M1 c := fun c h => by rw [← hM2, up2_ne h]
  have hg := goesOn_ (d := d + 6) (M := M2) (R := R) hS
  have r3 : goM M2 129 = stF (gF G) (rw (gF G) p) := by rw [goM_row, r2]; rfl
  have fr : ∀ c, c ≠ 129 → goM M2 c = M1 c := fun c h => by rw [goM_c h, f2 c h]
  have el : lf (upf (gF G) (78 + rw (gF G) p) (gF G 6 &&& nI 1)) = lf (gF G) := by unfold lf; rw [upf_ne (by omega)]
  have t5 : goM M2 129 5 = nI (lf (gF G) - 1) := by
    rw [r3]
    have := (paF_n (hW.1.s7 p1 (v := gF G 6 &&& nI 1)) (by rw [el]; exact m1)).1
    rw [el] at this
    exact this
  have z1 : ¬ 1 = 0 := by decide
  refine OutM.ok (M' := goM M2) ?_ (a2.row r3 fr) (by rw [fr _ (by decide), a3]; exact c3) (FrM.trans (FrM.trans (FrM.trans (FrM.up (by decide) (by decide)) c4) a4) (fun c h => fr c (by omega)))
  rw [e159]
  simp (disch := first | assumption | exact nar_b0 | exact nar_b1 | exact nar_b | exact Or.inl rfl | exact Or.inr rfl | exact zin_t (by omega) (by omega) | exact Nat.le_of_ble_eq_true rfl | (rw [nI_cl (by omega)]; assumption) | omega) only [↓reduceIte, reduceCtorEq, not_true_eq_false, not_false_eq_true, q159_0, q159_1, q159_2, q159_5, q159_6, q159_7, q159_10, q159_13, q159_14, q159_15, q159_16, q159_19, q159_20, q159_23, q159_25, q159_26, q159_27, q159_28, q159_31, q159_33, q159_34, q159_35, q159_36, q159_37, q159_38, q159_41, q159_42, q159_45, q159_46, q159_47, kl_int, kl_ref, kl_tok, cS_nil, cS_int, cS_ref, cS_long, tl_some, tl_none, List.cons_append, List.nil_append, nI_add, nI_ltb, nI_leb, nI_eqb, nI_cl, zin_nI, c1, zk0_inl, z1, a1, h6, hM2, hg, t5]
theorem m_strike_f1 {x v : Int32} (hx : plI (gF G) x = none) (hS : Sh R) (hW : WG G) (hM : MS M G) : OutM (cal (d + 7) 159 [.ref 127, .int x] M R) M R 1 v (rfN G) := by
  obtain ⟨nN, k127, k128, l128, k129, l129, k130, l130, k131, l131, k132, l132, k133, l133, k134, l134, k135, l135, k136, l136, k137, l137, k138, l138, k139, l139, k140, l140, k141, l141, k142, l142, k143, l143, k144, l144, k145, l145, k146, l146, f127_1, f127_2, f127_3, f127_4, f127_6, f127_7, f127_17, f127_18, f127_19, f127_22, f127_24, f127_25, f127_26, f127_29, f127_30, f127_31, f127_32, f127_33⟩ := modF hS
  have h1 := isAct_f1 (d := d + 2) (M := up2 M 127 0 (nI 0)) hx hS hW hM.th up2_at
  refine OutM.rN (M' := up2 M 127 0 (nI 0)) (v' := nI 0) ?_ (by decide) hM.th (FrM.up (by decide) (by decide))
  rw [e159]
  simp (disch := first | assumption | exact nar_b0 | exact nar_b1 | exact nar_b | exact Or.inl rfl | exact Or.inr rfl | exact zin_t (by omega) (by omega) | exact Nat.le_of_ble_eq_true rfl | (rw [nI_cl (by omega)]; assumption) | omega) only [↓reduceIte, reduceCtorEq, not_true_eq_false, not_false_eq_true, q159_0, q159_1, q159_2, q159_5, q159_6, q159_7, q159_10, q159_13, q159_14, q159_15, q159_16, q159_19, q159_20, q159_23, q159_25, q159_26, q159_27, q159_28, q159_31, q159_33, q159_34, q159_35, q159_36, q159_37, q159_38, q159_41, q159_42, q159_45, q159_46, q159_47, kl_int, kl_ref, kl_tok, cS_nil, cS_int, cS_ref, cS_long, tl_some, tl_none, List.cons_append, List.nil_append, nI_add, nI_ltb, nI_leb, nI_eqb, nI_cl, zin_nI, h1, zk0_inl]
theorem m_strike_f2 {x v : Int32} {p : Nat} (hx : plI (gF G) x = some p) (hm : may (gF G) (rw (gF G) p) = false) (hS : Sh R) (hW : WG G) (hM : MS M G) : OutM (cal (d + 7) 159 [.ref 127, .int x] M R) M R 2 v (rfS G) := by
  obtain ⟨nN, k127, k128, l128, k129, l129, k130, l130, k131, l131, k132, l132, k133, l133, k134, l134, k135, l135, k136, l136, k137, l137, k138, l138, k139, l139, k140, l140, k141, l141, k142, l142, k143, l143, k144, l144, k145, l145, k146, l146, f127_1, f127_2, f127_3, f127_4, f127_6, f127_7, f127_17, f127_18, f127_19, f127_22, f127_24, f127_25, f127_26, f127_29, f127_30, f127_31, f127_32, f127_33⟩ := modF hS
  obtain ⟨M1, h1, h2, h3⟩ := isAct_f2 (d := d + 2) (M := up2 M 127 0 (nI 0)) hx hm hS hW hM.th up2_at
  refine OutM.rS (M' := M1) (v' := nI 0) ?_ (by decide) h2 (FrM.trans (FrM.up (by decide) (by decide)) h3)
  rw [e159]
  simp (disch := first | assumption | exact nar_b0 | exact nar_b1 | exact nar_b | exact Or.inl rfl | exact Or.inr rfl | exact zin_t (by omega) (by omega) | exact Nat.le_of_ble_eq_true rfl | (rw [nI_cl (by omega)]; assumption) | omega) only [↓reduceIte, reduceCtorEq, not_true_eq_false, not_false_eq_true, q159_0, q159_1, q159_2, q159_5, q159_6, q159_7, q159_10, q159_13, q159_14, q159_15, q159_16, q159_19, q159_20, q159_23, q159_25, q159_26, q159_27, q159_28, q159_31, q159_33, q159_34, q159_35, q159_36, q159_37, q159_38, q159_41, q159_42, q159_45, q159_46, q159_47, kl_int, kl_ref, kl_tok, cS_nil, cS_int, cS_ref, cS_long, tl_some, tl_none, List.cons_append, List.nil_append, nI_add, nI_ltb, nI_leb, nI_eqb, nI_cl, zin_nI, h1, zk0_inl]
theorem m_pass_t (h0 : 0 < lf (gF G)) (hS : Sh R) (hW : WG G) (hM : MS M G) : OutM (cal (d + 7) 160 [.ref 127] M R) M R 0 (nI (lf (gF G) - 1)) (acG G (paF (gF G))) := by
  obtain ⟨nN, k127, k128, l128, k129, l129, k130, l130, k131, l131, k132, l132, k133, l133, k134, l134, k135, l135, k136, l136, k137, l137, k138, l138, k139, l139, k140, l140, k141, l141, k142, l142, k143, l143, k144, l144, k145, l145, k146, l146, f127_1, f127_2, f127_3, f127_4, f127_6, f127_7, f127_17, f127_18, f127_19, f127_22, f127_24, f127_25, f127_26, f127_29, f127_30, f127_31, f127_32, f127_33⟩ := modF hS
  have hw := hW.1.nums
  have hM0 : MS (up2 M 127 0 (nI 0)) G := hM.th
  have hf := isFine_t (d := d + 6) (M := up2 M 127 0 (nI 0)) (R := R) (c := nI 1) (k := nI 2) hS up2_at
  obtain ⟨M1, a1, a2, a3, a4, a5⟩ := keeps_ (d := d + 6) hS hW hM0
  rw [up2_at] at a3
  have hg := goesOn_ (d := d + 6) (M := M1) (R := R) hS
  have r3 : goM M1 129 = paF (gF G) := by rw [goM_row, a5, hM0.2.2.1]
  have n5 : up2 M 127 0 (nI 0) 129 5 = nI (lf (gF G)) := by rw [hM0.2.2.1]; exact hW.1.1.2.2.2.2.2.1.1
  have t5 : goM M1 129 5 = nI (lf (gF G) - 1) := by rw [r3]; exact (paF_n hW.1 h0).1
  have z1 : ¬ 1 = 0 := by decide
  have z2 : ¬ lf (gF G) ≤ 0 := by omega
  refine OutM.ok (M' := goM M1) ?_ (a2.row r3 (fun c h => goM_c h)) (by rw [goM_c (by decide)]; exact a3) (FrM.trans (FrM.trans (FrM.up (by decide) (by decide)) a4) (fun c h => goM_c (by omega)))
  rw [e160]
  simp (disch := first | assumption | exact nar_b0 | exact nar_b1 | exact nar_b | exact Or.inl rfl | exact Or.inr rfl | exact zin_t (by omega) (by omega) | exact Nat.le_of_ble_eq_true rfl | (rw [nI_cl (by omega)]; assumption) | omega) only [↓reduceIte, reduceCtorEq, not_true_eq_false, not_false_eq_true, q160_0, q160_1, q160_2, q160_5, q160_6, q160_7, q160_10, q160_11, q160_12, q160_15, q160_16, q160_19, q160_20, q160_21, q160_22, q160_25, q160_28, q160_29, q160_30, q160_31, q160_34, q160_35, q160_38, q160_39, q160_42, q160_43, q160_44, kl_int, kl_ref, kl_tok, cS_nil, cS_int, cS_ref, cS_long, tl_some, tl_none, List.cons_append, List.nil_append, nI_add, nI_ltb, nI_leb, nI_eqb, nI_cl, zin_nI, n5, z2, hf, zk0_inl, z1, a1, hg, t5]
theorem m_pass_f {v : Int32} (h0 : lf (gF G) = 0) (hS : Sh R) (hW : WG G) (hM : MS M G) : OutM (cal (d + 7) 160 [.ref 127] M R) M R 1 v (rfS G) := by
  obtain ⟨nN, k127, k128, l128, k129, l129, k130, l130, k131, l131, k132, l132, k133, l133, k134, l134, k135, l135, k136, l136, k137, l137, k138, l138, k139, l139, k140, l140, k141, l141, k142, l142, k143, l143, k144, l144, k145, l145, k146, l146, f127_1, f127_2, f127_3, f127_4, f127_6, f127_7, f127_17, f127_18, f127_19, f127_22, f127_24, f127_25, f127_26, f127_29, f127_30, f127_31, f127_32, f127_33⟩ := modF hS
  have hM0 : MS (up2 M 127 0 (nI 0)) G := hM.th
  have hf := isFine_f (d := d + 6) (M := up2 M 127 0 (nI 0)) (R := R) (c := 1) (k := 2) hS up2_at (by decide) (by decide)
  have n5 : up2 M 127 0 (nI 0) 129 5 = nI 0 := by rw [hM0.2.2.1, ← h0]; exact hW.1.1.2.2.2.2.2.1.1
  have z2 : 0 ≤ 0 := Nat.le_refl _
  refine OutM.rS (M' := up2 M 127 0 (nI 0)) (v' := nI 0) ?_ (by decide) hM0 (FrM.up (by decide) (by decide))
  rw [e160]
  simp (disch := first | assumption | exact nar_b0 | exact nar_b1 | exact nar_b | exact Or.inl rfl | exact Or.inr rfl | exact zin_t (by omega) (by omega) | exact Nat.le_of_ble_eq_true rfl | (rw [nI_cl (by omega)]; assumption) | omega) only [↓reduceIte, reduceCtorEq, not_true_eq_false, not_false_eq_true, q160_0, q160_1, q160_2, q160_5, q160_6, q160_7, q160_10, q160_11, q160_12, q160_15, q160_16, q160_19, q160_20, q160_21, q160_22, q160_25, q160_28, q160_29, q160_30, q160_31, q160_34, q160_35, q160_38, q160_39, q160_42, q160_43, q160_44, kl_int, kl_ref, kl_tok, cS_nil, cS_int, cS_ref, cS_long, tl_some, tl_none, List.cons_append, List.nil_append, nI_add, nI_ltb, nI_leb, nI_eqb, nI_cl, zin_nI, n5, z2, hf, zk0_inl]
end Mu
