-- the reference: all lines
theorem mp_pos {α : Type} {r : PR α} {f : α → PS} {P' : PS} {i i' n : Nat} (h : mp r f = .inr (P', i')) (hr : ∀ v i', r = .inr (v, i') → i ≤ i' ∧ i' ≤ n) : i ≤ i' ∧ i' ≤ n := by
  obtain ⟨v, e, -⟩ := mp_inr h
  exact hr v i' e
theorem pBody_ok {b : Nat → Int32} {n i i' : Nat} {P P' : PS} (hi : i ≤ n) (hQ : QW P) (h : pBody b n P i = .inr (P', i')) : (i ≤ i' ∧ i' ≤ n) ∧ QW P' := by
  obtain ⟨⟨q1, q2⟩, q3, q4⟩ := hQ
  have or8 : ∀ {t : Nat}, t < 256 → tL P ||| t < 256 := fun ht => Nat.or_lt_two_pow (n := 8) q4 ht
  have num : ∀ {lo hi' : Int} {v : Int} {i' : Nat}, i + 5 ≤ n → pNum b n (i + 5) false lo hi' = .inr (v, i') → i ≤ i' ∧ i' ≤ n := fun h5 e => by have := pNum_pos h5 e; omega
  have any : ∀ {s : Nat} {st : List CdS} {i' : Nat}, i ≤ s → s ≤ n → pAny (pOne b n 4) b n s = .inr (st, i') → i ≤ i' ∧ i' ≤ n := fun h1 h2 e => by
    have := ((pAny_c (b := b) (n := n) (pOne_c 4) _ h2).1 _ _ e).1
    omega
  unfold pBody at h
  cases w0 : wm b n i 0
  rotate_left
  · rw [w0, if_pos rfl] at h
    have hw := wm_le w0
    have l : wln 0 = 5 := rfl
    split at h
    · cases h
    · rename_i hj
      obtain ⟨q, e, rfl⟩ := mp_inr h
      have := pPer_pos (by omega) e
      have j1 : jn (rD (jurP P q)) = jn (rD P) + 1 := jn_up (by omega)
      have j0 : rD (jurP P q) 0 = nI (jn (rD P) + 1) := upf_at (f := up4 (rD P) (8 + 4 * jn (rD P)) q) (k := 0) (v := nI (jn (rD P) + 1))
      exact ⟨by omega, ⟨by rw [j1]; exact j0, by omega⟩, q3, q4⟩
  rw [w0, if_neg (by decide)] at h
  cases w1 : wm b n i 1
  rotate_left
  · rw [w1, if_pos rfl] at h
    have hw := wm_le w1
    have l : wln 1 = 5 := rfl
    split at h
    · cases h
    · rename_i hj
      obtain ⟨q, e, rfl⟩ := mp_inr h
      have := pPer_pos (by omega) e
      have j1 : jn (rD (talP P q)) = jn (rD P) := jn_up4 (by decide)
      exact ⟨by omega, ⟨by rw [j1]; show up4 (rD P) 60 q 0 = _; rw [up4_n (by omega)]; exact q1, by omega⟩, by show fN P + 1 ≤ 4; omega, q4⟩
  rw [w1, if_neg (by decide)] at h
  cases w2 : wm b n i 2
  rotate_left
  · rw [w2, if_pos rfl] at h
    have hw := wm_le w2
    have l : wln 2 = 5 := rfl
    obtain ⟨q, e, rfl⟩ := mp_inr (onc_inr h)
    have j1 : jn (rD (rdP P 2 (iI q) 1)) = jn (rD P) := jn_ne (by decide)
    exact ⟨num (by omega) e, ⟨by rw [j1, rdP_ne (by decide)]; exact q1, by omega⟩, q3, or8 (by decide)⟩
  rw [w2, if_neg (by decide)] at h
  cases w3 : wm b n i 3
  rotate_left
  · rw [w3, if_pos rfl] at h
    have hw := wm_le w3
    have l : wln 3 = 5 := rfl
    obtain ⟨q, e, rfl⟩ := mp_inr (onc_inr h)
    have j1 : jn (rD (rdP P 3 (iI q) 2)) = jn (rD P) := jn_ne (by decide)
    exact ⟨num (by omega) e, ⟨by rw [j1, rdP_ne (by decide)]; exact q1, by omega⟩, q3, or8 (by decide)⟩
  rw [w3, if_neg (by decide)] at h
  cases w4 : wm b n i 4
  rotate_left
  · rw [w4, if_pos rfl] at h
    have hw := wm_le w4
    have l : wln 4 = 5 := rfl
    have ep := tuF_pos (b := b) (n := n) 8 0 (i + 5) 0 (by omega) (by decide)
    have e := onc_inr h
    cases e
    generalize (tuF b n 8 0 (i + 5) 0).2.1 = c at ep ⊢
    generalize (tuF b n 8 0 (i + 5) 0).1 = B at ep ⊢
    have j1 : jn (rD (tuP P c B)) = jn (rD P) := by
      show jn (upf (upf (rD P) 5 (nI c)) 6 (nI B)) = _
      rw [jn_ne (by decide), jn_ne (by decide)]
    have j0 : rD (tuP P c B) 0 = nI (jn (rD P)) := ((upf_ne (f := upf (rD P) 5 (nI c)) (k := 6) (v := nI B) (j := 0) (by decide)).trans (upf_ne (by decide))).trans q1
    exact ⟨by omega, ⟨by rw [j1]; exact j0, by omega⟩, q3, or8 (by decide)⟩
  rw [w4, if_neg (by decide)] at h
  cases w5 : wm b n i 5
  rotate_left
  · rw [w5, if_pos rfl] at h
    have hw := wm_le w5
    have l : wln 5 = 3 := rfl
    have e := onc_inr h
    cases e
    have j1 : jn (rD (rdP P 4 (nI 1) 8)) = jn (rD P) := jn_ne (by decide)
    exact ⟨by omega, ⟨by rw [j1, rdP_ne (by decide)]; exact q1, by omega⟩, q3, or8 (by decide)⟩
  rw [w5, if_neg (by decide)] at h
  cases w6 : wm b n i 6
  rotate_left
  · rw [w6, if_pos rfl] at h
    have hw := wm_le w6
    have l : wln 6 = 5 := rfl
    have hge := sk_ge b n (i + 5)
    cases c1 : isH b n (sk b n (i + 5)) (nI 97)
    · cases c2 : isH b n (sk b n (i + 5)) (nI 98)
      · rw [c1, c2] at h; cases h
      · rw [c1, c2, if_neg (by decide), if_pos rfl] at h
        have hlt := isH_lt c2
        obtain ⟨q, e, rfl⟩ := mp_inr (onc_inr h)
        exact ⟨any (by omega) (by omega) e, ⟨q1, q2⟩, q3, or8 (t := 128) (by decide)⟩
    · rw [c1, if_pos rfl] at h
      have hlt := isH_lt c1
      obtain ⟨q, e, rfl⟩ := mp_inr (onc_inr h)
      exact ⟨any (by omega) (by omega) e, ⟨q1, q2⟩, q3, or8 (t := 64) (by decide)⟩
  rw [w6, if_neg (by decide)] at h
  cases w7 : wm b n i 7
  rotate_left
  · rw [w7, if_pos rfl] at h
    have hw := wm_le w7
    have l : wln 7 = 5 := rfl
    obtain ⟨q, e, rfl⟩ := mp_inr (onc_inr h)
    exact ⟨any (by omega) (by omega) e, ⟨q1, q2⟩, q3, or8 (by decide)⟩
  rw [w7, if_neg (by decide)] at h
  cases w8 : wm b n i 8
  rotate_left
  · rw [w8, if_pos rfl] at h
    have hw := wm_le w8
    have l : wln 8 = 5 := rfl
    obtain ⟨q, e, rfl⟩ := mp_inr (onc_inr h)
    exact ⟨num (by omega) e, ⟨q1, q2⟩, q3, or8 (by decide)⟩
  rw [w8, if_neg (by decide)] at h
  cases h
theorem pLine_ok {b : Nat → Int32} {n i i' : Nat} {P P' : PS} (hi : i ≤ n) (hQ : QW P) (h : pLine b n P i = .inr (P', i')) : i < i' ∧ QW P' := by
  unfold pLine at h
  split at h
  · cases h
  · rename_i P1 i1 e
    obtain ⟨a, q⟩ := pBody_ok hi hQ e
    have hge := sk_ge b n i1
    split at h
    · cases h
      exact ⟨by omega, q⟩
    · cases h
section Rs
variable {d n i : Nat} {M : ZM} {R : ZH} {b : Nat → Int32} {P : PS}
theorem text_L {v : Value} (hS : Sh R) : ∀ (m i : Nat) (P : PS) (M : ZM), n ≤ i + m → FO M → RCx M b n i → QW P → RPS M P i →
    (∀ P' j, pAll b n m P (sk b n i) = .inr (P', j) → ∃ M', exe (d + 26) 138 100 [.ref 127, .int (nI n), v] [] M R = exe (d + 26) 138 132 [.ref 127, .int (nI n), v] [] M' R ∧ RCx M' b n j ∧ RPS M' P' j ∧ QW P' ∧ RLf M M') ∧
    (∀ k p, pAll b n m P (sk b n i) = .inl (k, p) → ∃ M', exe (d + 26) 138 100 [.ref 127, .int (nI n), v] [] M R = exe (d + 26) 138 132 [.ref 127, .int (nI n), v] [] M' R ∧ RFx 510 M' b n k p ∧ RLf M M') := by
  obtain ⟨nN, k127, k128, l128, k129, l129, k130, l130, k131, l131, k132, l132, k133, l133, k134, l134, k135, l135, k136, l136, k137, l137, k138, l138, k139, l139, k140, l140, k141, l141, k142, l142, k143, l143, k144, l144, k145, l145, k146, l146, f127_1, f127_2, f127_3, f127_4, f127_6, f127_7, f127_17, f127_18, f127_19, f127_22, f127_24, f127_25, f127_26, f127_29, f127_30, f127_31, f127_32, f127_33⟩ := modF hS
  intro m
  induction m with
  | zero =>
    intro i P M hm hF hP hQ hR
    have hn := hP.1.2.2.1
    have hi := hP.2.1
    have e : i = n := by omega
    subst e
    have hs : sk b i i = i := sk_out (Nat.le_refl _)
    have h12 := hP.2.2
    have h9 := hP.1.1
    have h10 := hP.1.2.1
    have hsg := sign_ (d := d + 25) hS hP.1
    rw [hs, hrm_self h10, show chr b i i = nI 0 from if_neg (by omega)] at hsg
    refine ⟨fun P' j h => ?_, fun k p h => (by cases h)⟩
    rw [hs] at h
    cases h
    refine ⟨M, ?_, hP, hR, hQ, RLf.refl⟩
    rw [q138_100]
    simp (disch := first | assumption | exact nar_b0 | exact nar_b1 | exact nar_b | exact Or.inl rfl | exact Or.inr rfl | exact zin_t (by omega) (by omega) | exact Nat.le_of_ble_eq_true rfl | (rw [nI_cl (by omega)]; assumption) | omega) only [↓reduceIte, reduceCtorEq, not_true_eq_false, not_false_eq_true, q138_0, q138_1, q138_2, q138_5, q138_6, q138_7, q138_8, q138_9, q138_10, q138_13, q138_14, q138_17, q138_18, q138_19, q138_22, q138_25, q138_26, q138_27, q138_28, q138_30, q138_31, q138_34, q138_35, q138_38, q138_39, q138_40, q138_43, q138_44, q138_45b, q138_45z, q138_46, q138_49, q138_52, q138_53, q138_54, q138_57, q138_58, q138_59, q138_62, q138_63, q138_64, q138_67, q138_68, q138_69, q138_72, q138_73, q138_74, q138_77, q138_78, q138_80, q138_83, q138_84, q138_85, q138_88, q138_89, q138_90, q138_93, q138_94, q138_97, q138_101, q138_104, q138_107, q138_108, q138_111, q138_114, q138_115, q138_118, q138_119, q138_122, q138_125, q138_126, q138_129, q138_133, q138_136, q138_139, q138_140, q138_143, q138_144, q138_145, q138_148, q138_149, q138_150, q138_151, q138_154, q138_157, q138_158, q138_159, q138_162, q138_165, q138_166, q138_169, q138_172, q138_173, q138_176, q138_177, q138_180, q138_183, q138_184, q138_187, q138_189, q138_190, q138_191, q138_192, q138_195, q138_196, q138_199, q138_200, q138_202, q138_204, q138_207, q138_208, q138_211, q138_212, q138_213, q138_216, q138_217, q138_218, q138_219, q138_222, q138_225, q138_226, q138_229, q138_231, q138_232, kl_int, kl_ref, kl_tok, cS_nil, cS_int, cS_ref, cS_long, tl_some, tl_none, List.cons_append, List.nil_append, nI_add, nI_ltb, nI_leb, nI_eqb, nI_cl, zin_nI, h12, hsg, zk0_inl, h9, h10, Nat.le_refl]
  | succ m ih =>
    intro i P M hm hF hP hQ hR
    have hn := hP.1.2.2.1
    have hi := hP.2.1
    have h12 := hP.2.2
    have hge := sk_ge b n i
    have hle := sk_le (b := b) hi
    have hsg := sign_ (d := d + 25) hS hP.1
    have hP1 := hP.mv hle
    have h9 := hP1.1.1
    have h10 := hP1.1.2.1
    have hR1 := hR.hr hge
    have ea : pAll b n (m + 1) P (sk b n i) = if sk b n i < n then (match pLine b n P (sk b n i) with
      | .inl f => .inl f
      | .inr (P', i') => pAll b n m P' (sk b n i')) else .inr (P, sk b n i) := rfl
    rw [ea]
    by_cases c : sk b n i < n
    · rw [if_pos c]
      have z : ¬ n ≤ sk b n i := by omega
      obtain ⟨l1, l2⟩ := lineRead_ (d := d) hS (hF.lf RNf.hr.lf) hP1 (sk_sk hi) hQ hR1
      have hx : ∀ M2, cal (d + 25) 137 [.ref 127] (hrm M (sk b n i)) R = some (.inl none, M2, R) → exe (d + 26) 138 100 [.ref 127, .int (nI n), v] [] M R = exe (d + 26) 138 100 [.ref 127, .int (nI n), v] [] M2 R := by
        intro M2 e1
        rw [q138_100]
        by_cases y : chr b n (sk b n i) = nI 0
        · simp (disch := first | assumption | exact nar_b0 | exact nar_b1 | exact nar_b | exact Or.inl rfl | exact Or.inr rfl | exact zin_t (by omega) (by omega) | exact Nat.le_of_ble_eq_true rfl | (rw [nI_cl (by omega)]; assumption) | omega) only [↓reduceIte, reduceCtorEq, not_true_eq_false, not_false_eq_true, q138_0, q138_1, q138_2, q138_5, q138_6, q138_7, q138_8, q138_9, q138_10, q138_13, q138_14, q138_17, q138_18, q138_19, q138_22, q138_25, q138_26, q138_27, q138_28, q138_30, q138_31, q138_34, q138_35, q138_38, q138_39, q138_40, q138_43, q138_44, q138_45b, q138_45z, q138_46, q138_49, q138_52, q138_53, q138_54, q138_57, q138_58, q138_59, q138_62, q138_63, q138_64, q138_67, q138_68, q138_69, q138_72, q138_73, q138_74, q138_77, q138_78, q138_80, q138_83, q138_84, q138_85, q138_88, q138_89, q138_90, q138_93, q138_94, q138_97, q138_101, q138_104, q138_107, q138_108, q138_111, q138_114, q138_115, q138_118, q138_119, q138_122, q138_125, q138_126, q138_129, q138_133, q138_136, q138_139, q138_140, q138_143, q138_144, q138_145, q138_148, q138_149, q138_150, q138_151, q138_154, q138_157, q138_158, q138_159, q138_162, q138_165, q138_166, q138_169, q138_172, q138_173, q138_176, q138_177, q138_180, q138_183, q138_184, q138_187, q138_189, q138_190, q138_191, q138_192, q138_195, q138_196, q138_199, q138_200, q138_202, q138_204, q138_207, q138_208, q138_211, q138_212, q138_213, q138_216, q138_217, q138_218, q138_219, q138_222, q138_225, q138_226, q138_229, q138_231, q138_232, kl_int, kl_ref, kl_tok, cS_nil, cS_int, cS_ref, cS_long, tl_some, tl_none, List.cons_append, List.nil_append, nI_add, nI_ltb, nI_leb, nI_eqb, nI_cl, zin_nI, h12, hsg, zk0_inl, y, h9, h10, z, e1]
        · simp (disch := first | assumption | exact nar_b0 | exact nar_b1 | exact nar_b | exact Or.inl rfl | exact Or.inr rfl | exact zin_t (by omega) (by omega) | exact Nat.le_of_ble_eq_true rfl | (rw [nI_cl (by omega)]; assumption) | omega) only [↓reduceIte, reduceCtorEq, not_true_eq_false, not_false_eq_true, q138_0, q138_1, q138_2, q138_5, q138_6, q138_7, q138_8, q138_9, q138_10, q138_13, q138_14, q138_17, q138_18, q138_19, q138_22, q138_25, q138_26, q138_27, q138_28, q138_30, q138_31, q138_34, q138_35, q138_38, q138_39, q138_40, q138_43, q138_44, q138_45b, q138_45z, q138_46, q138_49, q138_52, q138_53, q138_54, q138_57, q138_58, q138_59, q138_62, q138_63, q138_64, q138_67, q138_68, q138_69, q138_72, q138_73, q138_74, q138_77, q138_78, q138_80, q138_83, q138_84, q138_85, q138_88, q138_89, q138_90, q138_93, q138_94, q138_97, q138_101, q138_104, q138_107, q138_108, q138_111, q138_114, q138_115, q138_118, q138_119, q138_122, q138_125, q138_126, q138_129, q138_133, q138_136, q138_139, q138_140, q138_143, q138_144, q138_145, q138_148, q138_149, q138_150, q138_151, q138_154, q138_157, q138_158, q138_159, q138_162, q138_165, q138_166, q138_169, q138_172, q138_173, q138_176, q138_177, q138_180, q138_183, q138_184, q138_187, q138_189, q138_190, q138_191, q138_192, q138_195, q138_196, q138_199, q138_200, q138_202, q138_204, q138_207, q138_208, q138_211, q138_212, q138_213, q138_216, q138_217, q138_218, q138_219, q138_222, q138_225, q138_226, q138_229, q138_231, q138_232, kl_int, kl_ref, kl_tok, cS_nil, cS_int, cS_ref, cS_long, tl_some, tl_none, List.cons_append, List.nil_append, nI_add, nI_ltb, nI_leb, nI_eqb, nI_cl, zin_nI, h12, hsg, zk0_inl, y, h9, h10, z, e1]
      cases e : pLine b n P (sk b n i) with
      | inl f =>
        refine ⟨fun P' j h => (by cases h), fun k p h => ?_⟩
        cases h
        obtain ⟨M2, e1, e2, e3⟩ := l2 _ _ e
        have y12 := e2.1.2.1
        have y0 := e2.1.1
        have z0 : ¬ k = 0 := by omega
        refine ⟨M2, ?_, e2, RNf.hr.lf.trans e3⟩
        rw [hx M2 e1, q138_100]
        simp (disch := first | assumption | exact nar_b0 | exact nar_b1 | exact nar_b | exact Or.inl rfl | exact Or.inr rfl | exact zin_t (by omega) (by omega) | exact Nat.le_of_ble_eq_true rfl | (rw [nI_cl (by omega)]; assumption) | omega) only [↓reduceIte, reduceCtorEq, not_true_eq_false, not_false_eq_true, q138_0, q138_1, q138_2, q138_5, q138_6, q138_7, q138_8, q138_9, q138_10, q138_13, q138_14, q138_17, q138_18, q138_19, q138_22, q138_25, q138_26, q138_27, q138_28, q138_30, q138_31, q138_34, q138_35, q138_38, q138_39, q138_40, q138_43, q138_44, q138_45b, q138_45z, q138_46, q138_49, q138_52, q138_53, q138_54, q138_57, q138_58, q138_59, q138_62, q138_63, q138_64, q138_67, q138_68, q138_69, q138_72, q138_73, q138_74, q138_77, q138_78, q138_80, q138_83, q138_84, q138_85, q138_88, q138_89, q138_90, q138_93, q138_94, q138_97, q138_101, q138_104, q138_107, q138_108, q138_111, q138_114, q138_115, q138_118, q138_119, q138_122, q138_125, q138_126, q138_129, q138_133, q138_136, q138_139, q138_140, q138_143, q138_144, q138_145, q138_148, q138_149, q138_150, q138_151, q138_154, q138_157, q138_158, q138_159, q138_162, q138_165, q138_166, q138_169, q138_172, q138_173, q138_176, q138_177, q138_180, q138_183, q138_184, q138_187, q138_189, q138_190, q138_191, q138_192, q138_195, q138_196, q138_199, q138_200, q138_202, q138_204, q138_207, q138_208, q138_211, q138_212, q138_213, q138_216, q138_217, q138_218, q138_219, q138_222, q138_225, q138_226, q138_229, q138_231, q138_232, kl_int, kl_ref, kl_tok, cS_nil, cS_int, cS_ref, cS_long, tl_some, tl_none, List.cons_append, List.nil_append, nI_add, nI_ltb, nI_leb, nI_eqb, nI_cl, zin_nI, y12, z0]
      | inr q =>
        obtain ⟨P1, i1⟩ := q
        obtain ⟨M2, e1, e2, e3, e4⟩ := l1 _ _ e
        obtain ⟨p1, p2⟩ := pLine_ok hle hQ e
        obtain ⟨r1, r2⟩ := ih i1 P1 M2 (by omega) (hF.lf (RNf.hr.lf.trans e4)) e2 p2 e3
        dsimp only
        refine ⟨fun P' j h => ?_, fun k p h => ?_⟩
        · obtain ⟨M', g1, g2, g3, g4, g5⟩ := r1 P' j h
          exact ⟨M', by rw [hx M2 e1]; exact g1, g2, g3, g4, (RNf.hr.lf.trans e4).trans g5⟩
        · obtain ⟨M', g1, g2, g3⟩ := r2 k p h
          exact ⟨M', by rw [hx M2 e1]; exact g1, g2, (RNf.hr.lf.trans e4).trans g3⟩
    · rw [if_neg c]
      have z : n ≤ sk b n i := by omega
      have y : chr b n (sk b n i) = nI 0 := if_neg c
      rw [y] at hsg
      refine ⟨fun P' j h => ?_, fun k p h => (by cases h)⟩
      cases h
      refine ⟨_, ?_, hP1, hR1, hQ, RNf.hr.lf⟩
      rw [q138_100]
      simp (disch := first | assumption | exact nar_b0 | exact nar_b1 | exact nar_b | exact Or.inl rfl | exact Or.inr rfl | exact zin_t (by omega) (by omega) | exact Nat.le_of_ble_eq_true rfl | (rw [nI_cl (by omega)]; assumption) | omega) only [↓reduceIte, reduceCtorEq, not_true_eq_false, not_false_eq_true, q138_0, q138_1, q138_2, q138_5, q138_6, q138_7, q138_8, q138_9, q138_10, q138_13, q138_14, q138_17, q138_18, q138_19, q138_22, q138_25, q138_26, q138_27, q138_28, q138_30, q138_31, q138_34, q138_35, q138_38, q138_39, q138_40, q138_43, q138_44, q138_45b, q138_45z, q138_46, q138_49, q138_52, q138_53, q138_54, q138_57, q138_58, q138_59, q138_62, q138_63, q138_64, q138_67, q138_68, q138_69, q138_72, q138_73, q138_74, q138_77, q138_78, q138_80, q138_83, q138_84, q138_85, q138_88, q138_89, q138_90, q138_93, q138_94, q138_97, q138_101, q138_104, q138_107, q138_108, q138_111, q138_114, q138_115, q138_118, q138_119, q138_122, q138_125, q138_126, q138_129, q138_133, q138_136, q138_139, q138_140, q138_143, q138_144, q138_145, q138_148, q138_149, q138_150, q138_151, q138_154, q138_157, q138_158, q138_159, q138_162, q138_165, q138_166, q138_169, q138_172, q138_173, q138_176, q138_177, q138_180, q138_183, q138_184, q138_187, q138_189, q138_190, q138_191, q138_192, q138_195, q138_196, q138_199, q138_200, q138_202, q138_204, q138_207, q138_208, q138_211, q138_212, q138_213, q138_216, q138_217, q138_218, q138_219, q138_222, q138_225, q138_226, q138_229, q138_231, q138_232, kl_int, kl_ref, kl_tok, cS_nil, cS_int, cS_ref, cS_long, tl_some, tl_none, List.cons_append, List.nil_append, nI_add, nI_ltb, nI_leb, nI_eqb, nI_cl, zin_nI, h12, hsg, zk0_inl, h9, h10, z]
end Rs
