-- the reference: causes, a line
section Rr
variable {d n i : Nat} {M : ZM} {R : ZH} {b : Nat → Int32} {P : PS}
theorem RPS.hr {j : Nat} (hR : RPS M P i) (hj : i ≤ j) : RPS (hrm M j) P j := hR.vf RNf.hr.vf (f := rD P) (by rw [hrm_c (by decide)]; exact hR.1) hj
theorem cause_n (hS : Sh R) (hP : RCx M b n i) (c1 : isH b n (sk b n i) (nI 97) = false) (c2 : isH b n (sk b n i) (nI 98) = false) : ∃ M', cal (d + 1) 136 [.ref 127] M R = some (.inl none, M', R) ∧ RFx 510 M' b n 1 (sk b n i) ∧ RLf M M' := by
  obtain ⟨nN, k127, k128, l128, k129, l129, k130, l130, k131, l131, k132, l132, k133, l133, k134, l134, k135, l135, k136, l136, k137, l137, k138, l138, k139, l139, k140, l140, k141, l141, k142, l142, k143, l143, k144, l144, k145, l145, k146, l146, f127_1, f127_2, f127_3, f127_4, f127_6, f127_7, f127_17, f127_18, f127_19, f127_22, f127_24, f127_25, f127_26, f127_29, f127_30, f127_31, f127_32, f127_33⟩ := modF hS
  have hn := hP.1.2.2.1
  have hle := sk_le (b := b) hP.2.1
  have hsg := sign_ (d := d) hS hP.1
  have hP1 := hP.mv hle
  have h10 := hP1.1.2.1
  have h12 := hP1.2.2
  have hw0 := wrong_ (d := d) (R := R) (k := nI 1) (p := nI (sk b n i)) hS h12
  have hX := RFx.wr (k := 1) (p := sk b n i) (u := 510) hP1.1 (by omega) (by decide)
  have fW : RNf M (up2 (up2 (hrm M (sk b n i)) 127 12 (nI 1)) 127 13 (nI (sk b n i))) := RNf.hr.trans RNf.wr
  generalize up2 (up2 (hrm M (sk b n i)) 127 12 (nI 1)) 127 13 (nI (sk b n i)) = W at hw0 hX fW
  have k12 := hX.1.2.1
  have z : ¬ 1 ≤ 0 := by decide
  have x1 : ¬ chr b n (sk b n i) = nI 97 := by
    unfold chr
    split
    · exact fun e => by rw [show isH b n (sk b n i) (nI 97) = true from decide_eq_true ⟨by assumption, e⟩] at c1; cases c1
    · decide +kernel
  have x2 : ¬ chr b n (sk b n i) = nI 98 := by
    unfold chr
    split
    · exact fun e => by rw [show isH b n (sk b n i) (nI 98) = true from decide_eq_true ⟨by assumption, e⟩] at c2; cases c2
    · decide +kernel
  refine ⟨W, ?_, hX, fW.lf⟩
  rw [e136]
  simp (disch := first | assumption | exact nar_b0 | exact nar_b1 | exact nar_b | exact Or.inl rfl | exact Or.inr rfl | exact zin_t (by omega) (by omega) | exact Nat.le_of_ble_eq_true rfl | (rw [nI_cl (by omega)]; assumption) | omega) only [↓reduceIte, reduceCtorEq, not_true_eq_false, not_false_eq_true, q136_0, q136_1, q136_4, q136_5, q136_6, q136_8, q136_11, q136_12, q136_15, q136_16, q136_18, q136_21, q136_22, q136_25, q136_26, q136_27, q136_28, q136_29, q136_32, q136_33, q136_36, q136_38, q136_39, q136_40, q136_43, q136_46, q136_47, q136_48, q136_49, q136_52, q136_55, q136_56, q136_59, q136_62, q136_63, q136_64i, q136_64a, q136_65, q136_68, q136_69, q136_71, q136_72, q136_73, q136_74, q136_75, q136_78, q136_79i, q136_79a, q136_80, q136_83, q136_84, q136_85, q136_88, q136_89, q136_90, q136_93, kl_int, kl_ref, kl_tok, cS_nil, cS_int, cS_ref, cS_long, tl_some, tl_none, List.cons_append, List.nil_append, nI_add, nI_ltb, nI_leb, nI_eqb, nI_cl, zin_nI, hsg, zk0_inl, x1, x2, h10, hw0, k12, z]
theorem cause_f {sd : Nat} (hsd : sd < 2) (hS : Sh R) (hP : RCx M b n i) (hlt : sk b n i < n) (hb : b (sk b n i) = nI (97 + sd)) {T : Nat} (h16 : M 127 16 = nI T) (hT : T < 256) (ht : T.testBit (6 + sd) = true) : ∃ M', cal (d + 1) 136 [.ref 127] M R = some (.inl none, M', R) ∧ RFx 510 M' b n 1 (sk b n i) ∧ RLf M M' := by
  obtain ⟨nN, k127, k128, l128, k129, l129, k130, l130, k131, l131, k132, l132, k133, l133, k134, l134, k135, l135, k136, l136, k137, l137, k138, l138, k139, l139, k140, l140, k141, l141, k142, l142, k143, l143, k144, l144, k145, l145, k146, l146, f127_1, f127_2, f127_3, f127_4, f127_6, f127_7, f127_17, f127_18, f127_19, f127_22, f127_24, f127_25, f127_26, f127_29, f127_30, f127_31, f127_32, f127_33⟩ := modF hS
  have hn := hP.1.2.2.1
  have hle := sk_le (b := b) hP.2.1
  have hsg := sign_ (d := d) hS hP.1
  rw [show chr b n (sk b n i) = nI (97 + sd) by rw [← hb]; exact if_pos hlt] at hsg
  have hP1 := hP.mv hle
  have h10 := hP1.1.2.1
  have h12 := hP1.2.2
  have h16' : hrm M (sk b n i) 127 16 = nI T := by rw [hrm_s (by decide)]; exact h16
  have g1 := has_ (d := d) (M := hrm M (sk b n i)) (R := R) (S := T) (k := 6 + sd) (by omega) (by omega)
  rw [ht] at g1
  have hw0 := wrong_ (d := d) (R := R) (k := nI 1) (p := nI (sk b n i)) hS h12
  have hX := RFx.wr (k := 1) (p := sk b n i) (u := 510) hP1.1 (by omega) (by decide)
  have fW : RNf M (up2 (up2 (hrm M (sk b n i)) 127 12 (nI 1)) 127 13 (nI (sk b n i))) := RNf.hr.trans RNf.wr
  generalize up2 (up2 (hrm M (sk b n i)) 127 12 (nI 1)) 127 13 (nI (sk b n i)) = W at hw0 hX fW
  have k12 := hX.1.2.1
  have z : ¬ 1 ≤ 0 := by decide
  refine ⟨W, ?_, hX, fW.lf⟩
  rw [e136]
  rcases (show sd = 0 ∨ sd = 1 by omega) with rfl | rfl
  · have g1' : cal d 108 [.int (nI T), .int (nI 6)] (hrm M (sk b n i)) R = some (.inl (some (.int (nI 1))), hrm M (sk b n i), R) := g1
    have y : (nI 0 = (-1 : Int32)) = False := by decide +kernel
    simp (disch := first | assumption | exact nar_b0 | exact nar_b1 | exact nar_b | exact Or.inl rfl | exact Or.inr rfl | exact zin_t (by omega) (by omega) | exact Nat.le_of_ble_eq_true rfl | (rw [nI_cl (by omega)]; assumption) | omega) only [↓reduceIte, reduceCtorEq, not_true_eq_false, not_false_eq_true, q136_0, q136_1, q136_4, q136_5, q136_6, q136_8, q136_11, q136_12, q136_15, q136_16, q136_18, q136_21, q136_22, q136_25, q136_26, q136_27, q136_28, q136_29, q136_32, q136_33, q136_36, q136_38, q136_39, q136_40, q136_43, q136_46, q136_47, q136_48, q136_49, q136_52, q136_55, q136_56, q136_59, q136_62, q136_63, q136_64i, q136_64a, q136_65, q136_68, q136_69, q136_71, q136_72, q136_73, q136_74, q136_75, q136_78, q136_79i, q136_79a, q136_80, q136_83, q136_84, q136_85, q136_88, q136_89, q136_90, q136_93, kl_int, kl_ref, kl_tok, cS_nil, cS_int, cS_ref, cS_long, tl_some, tl_none, List.cons_append, List.nil_append, nI_add, nI_ltb, nI_leb, nI_eqb, nI_cl, zin_nI, hsg, zk0_inl, y, h16', g1', b2i_ne1, h10, hw0, k12, z]
  · have g1' : cal d 108 [.int (nI T), .int (nI 7)] (hrm M (sk b n i)) R = some (.inl (some (.int (nI 1))), hrm M (sk b n i), R) := g1
    have y : (nI 1 = (-1 : Int32)) = False := by decide +kernel
    have hsg' : cal d 116 [.ref 127] M R = some (.inl (some (.int (nI 98))), hrm M (sk b n i), R) := hsg
    have z98 : ¬ 98 = 97 := by decide
    simp (disch := first | assumption | exact nar_b0 | exact nar_b1 | exact nar_b | exact Or.inl rfl | exact Or.inr rfl | exact zin_t (by omega) (by omega) | exact Nat.le_of_ble_eq_true rfl | (rw [nI_cl (by omega)]; assumption) | omega) only [↓reduceIte, reduceCtorEq, not_true_eq_false, not_false_eq_true, q136_0, q136_1, q136_4, q136_5, q136_6, q136_8, q136_11, q136_12, q136_15, q136_16, q136_18, q136_21, q136_22, q136_25, q136_26, q136_27, q136_28, q136_29, q136_32, q136_33, q136_36, q136_38, q136_39, q136_40, q136_43, q136_46, q136_47, q136_48, q136_49, q136_52, q136_55, q136_56, q136_59, q136_62, q136_63, q136_64i, q136_64a, q136_65, q136_68, q136_69, q136_71, q136_72, q136_73, q136_74, q136_75, q136_78, q136_79i, q136_79a, q136_80, q136_83, q136_84, q136_85, q136_88, q136_89, q136_90, q136_93, kl_int, kl_ref, kl_tok, cS_nil, cS_int, cS_ref, cS_long, tl_some, tl_none, List.cons_append, List.nil_append, nI_add, nI_ltb, nI_leb, nI_eqb, nI_cl, zin_nI, hsg', z98, zk0_inl, y, h16', g1', b2i_ne1, h10, hw0, k12, z]
theorem cause_t {sd : Nat} (hsd : sd < 2) (hS : Sh R) (hP : RCx M b n i) (hlt : sk b n i < n) (hb : b (sk b n i) = nI (97 + sd)) {T : Nat} (h16 : M 127 16 = nI T) (hT : T < 256) (ht : T.testBit (6 + sd) = false) {M2 : ZM} (hc : cal d 131 [.ref 127, .int (nI sd)] (onM (hrm M (sk b n i)) (T ||| 2 ^ (6 + sd)) (sk b n i + 1)) R = some (.inl none, M2, R)) : cal (d + 1) 136 [.ref 127] M R = some (.inl none, M2, R) := by
  obtain ⟨nN, k127, k128, l128, k129, l129, k130, l130, k131, l131, k132, l132, k133, l133, k134, l134, k135, l135, k136, l136, k137, l137, k138, l138, k139, l139, k140, l140, k141, l141, k142, l142, k143, l143, k144, l144, k145, l145, k146, l146, f127_1, f127_2, f127_3, f127_4, f127_6, f127_7, f127_17, f127_18, f127_19, f127_22, f127_24, f127_25, f127_26, f127_29, f127_30, f127_31, f127_32, f127_33⟩ := modF hS
  have hn := hP.1.2.2.1
  have hle := sk_le (b := b) hP.2.1
  have hsg := sign_ (d := d) hS hP.1
  rw [show chr b n (sk b n i) = nI (97 + sd) by rw [← hb]; exact if_pos hlt] at hsg
  have hP1 := hP.mv hle
  have h10 := hP1.1.2.1
  have h12 := hP1.2.2
  have h16' : hrm M (sk b n i) 127 16 = nI T := by rw [hrm_s (by decide)]; exact h16
  have g1 := has_ (d := d) (M := hrm M (sk b n i)) (R := R) (S := T) (k := 6 + sd) (by omega) (by omega)
  rw [ht] at g1
  have w10 : up2 (hrm M (sk b n i)) 127 16 (nI (T ||| 2 ^ (6 + sd))) 127 10 = nI (sk b n i) := by rw [up2_s (by decide)]; exact h10
  unfold onM at hc
  rw [e136]
  rcases (show sd = 0 ∨ sd = 1 by omega) with rfl | rfl
  · have g1' : cal d 108 [.int (nI T), .int (nI 6)] (hrm M (sk b n i)) R = some (.inl (some (.int (nI 0))), hrm M (sk b n i), R) := g1
    have y : (nI 0 = (-1 : Int32)) = False := by decide +kernel
    have w10' : up2 (hrm M (sk b n i)) 127 16 (nI (T ||| 2 ^ 6)) 127 10 = nI (sk b n i) := w10
    have hc' : cal d 131 [.ref 127, .int (nI 0)] (up2 (up2 (hrm M (sk b n i)) 127 16 (nI (T ||| 2 ^ 6))) 127 10 (nI (sk b n i + 1))) R = some (.inl none, M2, R) := hc
    simp (disch := first | assumption | exact nar_b0 | exact nar_b1 | exact nar_b | exact Or.inl rfl | exact Or.inr rfl | exact zin_t (by omega) (by omega) | exact Nat.le_of_ble_eq_true rfl | (rw [nI_cl (by omega)]; assumption) | omega) only [↓reduceIte, reduceCtorEq, not_true_eq_false, not_false_eq_true, q136_0, q136_1, q136_4, q136_5, q136_6, q136_8, q136_11, q136_12, q136_15, q136_16, q136_18, q136_21, q136_22, q136_25, q136_26, q136_27, q136_28, q136_29, q136_32, q136_33, q136_36, q136_38, q136_39, q136_40, q136_43, q136_46, q136_47, q136_48, q136_49, q136_52, q136_55, q136_56, q136_59, q136_62, q136_63, q136_64i, q136_64a, q136_65, q136_68, q136_69, q136_71, q136_72, q136_73, q136_74, q136_75, q136_78, q136_79i, q136_79a, q136_80, q136_83, q136_84, q136_85, q136_88, q136_89, q136_90, q136_93, kl_int, kl_ref, kl_tok, cS_nil, cS_int, cS_ref, cS_long, tl_some, tl_none, List.cons_append, List.nil_append, nI_add, nI_ltb, nI_leb, nI_eqb, nI_cl, zin_nI, hsg, zk0_inl, y, h16', g1', h10, h12, Nat.le_refl, nI_shl, nI_or, Nat.one_mul, w10', hc']
  · have g1' : cal d 108 [.int (nI T), .int (nI 7)] (hrm M (sk b n i)) R = some (.inl (some (.int (nI 0))), hrm M (sk b n i), R) := g1
    have y : (nI 1 = (-1 : Int32)) = False := by decide +kernel
    have hsg' : cal d 116 [.ref 127] M R = some (.inl (some (.int (nI 98))), hrm M (sk b n i), R) := hsg
    have z98 : ¬ 98 = 97 := by decide
    have w10' : up2 (hrm M (sk b n i)) 127 16 (nI (T ||| 2 ^ 7)) 127 10 = nI (sk b n i) := w10
    have hc' : cal d 131 [.ref 127, .int (nI 1)] (up2 (up2 (hrm M (sk b n i)) 127 16 (nI (T ||| 2 ^ 7))) 127 10 (nI (sk b n i + 1))) R = some (.inl none, M2, R) := hc
    simp (disch := first | assumption | exact nar_b0 | exact nar_b1 | exact nar_b | exact Or.inl rfl | exact Or.inr rfl | exact zin_t (by omega) (by omega) | exact Nat.le_of_ble_eq_true rfl | (rw [nI_cl (by omega)]; assumption) | omega) only [↓reduceIte, reduceCtorEq, not_true_eq_false, not_false_eq_true, q136_0, q136_1, q136_4, q136_5, q136_6, q136_8, q136_11, q136_12, q136_15, q136_16, q136_18, q136_21, q136_22, q136_25, q136_26, q136_27, q136_28, q136_29, q136_32, q136_33, q136_36, q136_38, q136_39, q136_40, q136_43, q136_46, q136_47, q136_48, q136_49, q136_52, q136_55, q136_56, q136_59, q136_62, q136_63, q136_64i, q136_64a, q136_65, q136_68, q136_69, q136_71, q136_72, q136_73, q136_74, q136_75, q136_78, q136_79i, q136_79a, q136_80, q136_83, q136_84, q136_85, q136_88, q136_89, q136_90, q136_93, kl_int, kl_ref, kl_tok, cS_nil, cS_int, cS_ref, cS_long, tl_some, tl_none, List.cons_append, List.nil_append, nI_add, nI_ltb, nI_leb, nI_eqb, nI_cl, zin_nI, hsg', z98, zk0_inl, y, h16', g1', h10, h12, Nat.le_refl, nI_shl, nI_or, Nat.one_mul, w10', hc']
def cse (b : Nat → Int32) (n : Nat) (P : PS) (i : Nat) : PR PS := if isH b n (sk b n i) (nI 97) then onc P 6 (sk b n i) (mp (pAny (pOne b n 4) b n (sk b n i + 1)) (caP P 0)) else if isH b n (sk b n i) (nI 98) then onc P 7 (sk b n i) (mp (pAny (pOne b n 4) b n (sk b n i + 1)) (caP P 1)) else .inl (1, sk b n i)
theorem causeRead_ (hS : Sh R) (hF : FO M) (hP : RCx M b n i) (hT : tL P < 256) (hR : RPS M P i) :
    (∀ P' i', cse b n P i = .inr (P', i') → ∃ M', cal (d + 24) 136 [.ref 127] M R = some (.inl none, M', R) ∧ RCx M' b n i' ∧ RPS M' P' i' ∧ RLf M M') ∧
    (∀ k p, cse b n P i = .inl (k, p) → ∃ M', cal (d + 24) 136 [.ref 127] M R = some (.inl none, M', R) ∧ RFx 510 M' b n k p ∧ RLf M M') := by
  have hle := sk_le (b := b) hP.2.1
  have hge := sk_ge b n i
  have key : ∀ (sd : Nat), sd < 2 → sk b n i < n → b (sk b n i) = nI (97 + sd) → ∀ r, r = onc P (6 + sd) (sk b n i) (mp (pAny (pOne b n 4) b n (sk b n i + 1)) (caP P sd)) →
      (∀ P' i', r = .inr (P', i') → ∃ M', cal (d + 24) 136 [.ref 127] M R = some (.inl none, M', R) ∧ RCx M' b n i' ∧ RPS M' P' i' ∧ RLf M M') ∧ (∀ k p, r = .inl (k, p) → ∃ M', cal (d + 24) 136 [.ref 127] M R = some (.inl none, M', R) ∧ RFx 510 M' b n k p ∧ RLf M M') := by
    intro sd hsd hlt hb r hr
    subst hr
    cases ht : (tL P).testBit (6 + sd)
    · rw [onc_f ht]
      have hR1 := (hR.hr hge).on (T := tL P ||| 2 ^ (6 + sd)) (h := sk b n i + 1) (by omega)
      have hP1 := onM_cx (T := tL P ||| 2 ^ (6 + sd)) (h := sk b n i + 1) (hP.mv hle) (by omega)
      have f1 : RLf M (onM (hrm M (sk b n i)) (tL P ||| 2 ^ (6 + sd)) (sk b n i + 1)) := RNf.hr.lf.trans onM_f
      obtain ⟨c1, c2⟩ := cond_rps (d := d) (s := sd) (by omega) hS (hF.lf f1) hP1 hR1
      cases e : pAny (pOne b n 4) b n (sk b n i + 1) with
      | inl f =>
        refine ⟨fun P' i' h => (by cases h), fun k p h => ?_⟩
        cases h
        obtain ⟨M2, e1, e2, e3⟩ := c2 _ _ e
        exact ⟨M2, cause_t hsd hS hP hlt hb hR.2.2.1.1 hT ht e1, e2, f1.trans e3.lf⟩
      | inr q =>
        obtain ⟨st, i'⟩ := q
        refine ⟨fun P' i' h => ?_, fun k p h => (by cases h)⟩
        cases h
        obtain ⟨M2, e1, e2, e3, e4⟩ := c1 _ _ e
        refine ⟨M2, cause_t hsd hS hP hlt hb hR.2.2.1.1 hT ht e1, e2, ?_, f1.trans e4.lf⟩
        rcases (show sd = 0 ∨ sd = 1 by omega) with rfl | rfl
        · exact e3
        · exact e3
    · rw [onc_t ht]
      refine ⟨fun P' i' h => (by cases h), fun k p h => ?_⟩
      cases h
      exact cause_f hsd hS hP hlt hb hR.2.2.1.1 hT ht
  unfold cse
  cases c1 : isH b n (sk b n i) (nI 97)
  · cases c2 : isH b n (sk b n i) (nI 98)
    · simp only [Bool.false_eq_true, if_false]
      refine ⟨fun P' i' h => (by cases h), fun k p h => ?_⟩
      cases h
      exact cause_n hS hP c1 c2
    · simp only [Bool.false_eq_true, if_false, if_true]
      have e := of_decide_eq_true c2
      exact key 1 (by decide) e.1 e.2 _ rfl
  · simp only [if_true]
    have e := of_decide_eq_true c1
    exact key 0 (by decide) e.1 e.2 _ rfl
theorem wm_1 {j : Nat} (hj : j < 17) (h : wm b n i j = true) : b i = zstb j 0 := by
  have hb := wln_b j hj
  obtain ⟨m, e⟩ : ∃ m, wln j = m + 1 := ⟨wln j - 1, by omega⟩
  unfold wm at h
  rw [Bool.and_eq_true, Bool.and_eq_true, e] at h
  have h2 := h.2.1
  unfold wmF at h2
  rw [Bool.and_eq_true] at h2
  exact of_decide_eq_true h2.1
theorem wm_x {j k : Nat} (hj : j < 17) (hk : k < 17) (h : wm b n i j = true) (hx : zstb j 0 ≠ zstb k 0) : wm b n i k = false := by
  cases c : wm b n i k
  · rfl
  · exact absurd ((wm_1 hj h).symm.trans (wm_1 hk c)) hx
theorem ln_cause (hS : Sh R) (hF : FO M) (hP : RCx M b n i) (hsk : sk b n i = i) (hQ : QW P) (hR : RPS M P i) (w0 : wm b n i 0 = false) (w1 : wm b n i 1 = false) (w2 : wm b n i 2 = false) (w3 : wm b n i 3 = false) (w4 : wm b n i 4 = false) (w5 : wm b n i 5 = false) (w : wm b n i 6 = true) : RBd R b n (d + 25) M (cse b n P (i + 5)) := by
  obtain ⟨nN, k127, k128, l128, k129, l129, k130, l130, k131, l131, k132, l132, k133, l133, k134, l134, k135, l135, k136, l136, k137, l137, k138, l138, k139, l139, k140, l140, k141, l141, k142, l142, k143, l143, k144, l144, k145, l145, k146, l146, f127_1, f127_2, f127_3, f127_4, f127_6, f127_7, f127_17, f127_18, f127_19, f127_22, f127_24, f127_25, f127_26, f127_29, f127_30, f127_31, f127_32, f127_33⟩ := modF hS
  have hwl := wm_le w
  have l5 : wln 6 = 5 := rfl
  have w7 : wm b n i 7 = false := wm_x (by decide) (by decide) w (by decide +kernel)
  have w8 : wm b n i 8 = false := wm_x (by decide) (by decide) w (by decide +kernel)
  have hp := passesWord_ (d := d + 19) (a := 1000007) (j := 6) rfl (by decide) hS hF hP
  rw [hsk, w] at hp
  have hp' : cal (d + 24) 120 [.ref 127, .ref 1000007] M R = some (.inl (some (.int (nI 1))), hrm M (i + 5), R) := hp
  obtain ⟨c1, c2⟩ := causeRead_ (d := d) hS (hF.lf RNf.hr.lf) (hP.mv (j := i + 5) (by omega)) hQ.2.2 (hR.hr (j := i + 5) (by omega))
  have hx : ∀ M2, cal (d + 24) 136 [.ref 127] (hrm M (i + 5)) R = some (.inl none, M2, R) → exe (d + 25) 137 0 [.ref 127] [] M R = exe (d + 25) 137 234 [.ref 127] [] M2 R := by
    intro M2 e1
    rw [pre_209 hS hF hP hsk w0 w1 w2 w3 w4 w5 w7 w8]
    simp (disch := first | assumption | exact nar_b0 | exact nar_b1 | exact nar_b | exact Or.inl rfl | exact Or.inr rfl | exact zin_t (by omega) (by omega) | exact Nat.le_of_ble_eq_true rfl | (rw [nI_cl (by omega)]; assumption) | omega) only [↓reduceIte, reduceCtorEq, not_true_eq_false, not_false_eq_true, q137_0, q137_1, q137_3, q137_6, q137_9, q137_10, q137_11, q137_12, q137_15, q137_16, q137_17, q137_19, q137_20, q137_23, q137_24, q137_25, q137_28, q137_29, q137_32, q137_33, q137_34, q137_35, q137_36, q137_37, q137_38, q137_41, q137_42, q137_44, q137_47, q137_50, q137_51, q137_52, q137_53, q137_56, q137_57, q137_59, q137_62, q137_63, q137_66, q137_69, q137_70, q137_73, q137_76, q137_77, q137_79, q137_80, q137_83, q137_86, q137_87, q137_90, q137_91, q137_92, q137_93, q137_94, q137_96, q137_99, q137_100, q137_103, q137_104, q137_106, q137_107, q137_110, q137_113, q137_114, q137_117, q137_118, q137_119, q137_120, q137_121, q137_122, q137_125, q137_126, q137_129, q137_130, q137_132, q137_133, q137_136, q137_139, q137_140, q137_143, q137_146, q137_147, q137_149, q137_150, q137_153, q137_156, q137_157, q137_160, q137_161, q137_162, q137_163, q137_166, q137_167, q137_169, q137_170, q137_173, q137_176, q137_177, q137_178, q137_181, q137_184, q137_185, q137_187, q137_188, q137_191, q137_194, q137_195, q137_196, q137_197, q137_198, q137_200, q137_203, q137_206, q137_209, q137_210, q137_212, q137_215, q137_218, q137_219, q137_222, q137_225, q137_226, q137_227, q137_228, q137_231, q137_235, q137_237, q137_240, kl_int, kl_ref, kl_tok, cS_nil, cS_int, cS_ref, cS_long, tl_some, tl_none, List.cons_append, List.nil_append, nI_add, nI_ltb, nI_leb, nI_eqb, nI_cl, zin_nI, hp', e1, zk0_inl, b2i_ne1]
  cases e : cse b n P (i + 5) with
  | inl f =>
    obtain ⟨M2, e1, e2, e3⟩ := c2 f.1 f.2 e
    exact RBd.f (hx M2 e1) (RNf.hr.lf.trans e3) e2
  | inr q =>
    obtain ⟨P', i'⟩ := q
    obtain ⟨M2, e1, e2, e3, e4⟩ := c1 P' i' e
    exact RBd.t (hx M2 e1) (RNf.hr.lf.trans e4) e2 e3
theorem ln_none (hS : Sh R) (hF : FO M) (hP : RCx M b n i) (hsk : sk b n i = i) (w0 : wm b n i 0 = false) (w1 : wm b n i 1 = false) (w2 : wm b n i 2 = false) (w3 : wm b n i 3 = false) (w4 : wm b n i 4 = false) (w5 : wm b n i 5 = false) (w6 : wm b n i 6 = false) (w7 : wm b n i 7 = false) (w8 : wm b n i 8 = false) : RBd R b n (d + 25) M (.inl (1, i)) := by
  obtain ⟨nN, k127, k128, l128, k129, l129, k130, l130, k131, l131, k132, l132, k133, l133, k134, l134, k135, l135, k136, l136, k137, l137, k138, l138, k139, l139, k140, l140, k141, l141, k142, l142, k143, l143, k144, l144, k145, l145, k146, l146, f127_1, f127_2, f127_3, f127_4, f127_6, f127_7, f127_17, f127_18, f127_19, f127_22, f127_24, f127_25, f127_26, f127_29, f127_30, f127_31, f127_32, f127_33⟩ := modF hS
  have hn := hP.1.2.2.1
  have h10 := hP.1.2.1
  have h12 := hP.2.2
  have hi := hP.2.1
  have hp := passesWord_ (d := d + 19) (a := 1000007) (j := 6) rfl (by decide) hS hF hP
  rw [hsk, w6] at hp
  have hp' : cal (d + 24) 120 [.ref 127, .ref 1000007] M R = some (.inl (some (.int (nI 0))), M, R) := by
    rw [hp]
    show some (_, hrm M i, R) = _
    rw [hrm_self h10]
    rfl
  have hw0 := wrong_ (d := d + 24) (R := R) (k := nI 1) (p := nI i) hS h12
  have hX := RFx.wr (k := 1) (p := i) (u := 510) hP.1 (by omega) (by decide)
  refine RBd.f ?_ RNf.wr.lf hX
  rw [pre_209 hS hF hP hsk w0 w1 w2 w3 w4 w5 w7 w8]
  simp (disch := first | assumption | exact nar_b0 | exact nar_b1 | exact nar_b | exact Or.inl rfl | exact Or.inr rfl | exact zin_t (by omega) (by omega) | exact Nat.le_of_ble_eq_true rfl | (rw [nI_cl (by omega)]; assumption) | omega) only [↓reduceIte, reduceCtorEq, not_true_eq_false, not_false_eq_true, q137_0, q137_1, q137_3, q137_6, q137_9, q137_10, q137_11, q137_12, q137_15, q137_16, q137_17, q137_19, q137_20, q137_23, q137_24, q137_25, q137_28, q137_29, q137_32, q137_33, q137_34, q137_35, q137_36, q137_37, q137_38, q137_41, q137_42, q137_44, q137_47, q137_50, q137_51, q137_52, q137_53, q137_56, q137_57, q137_59, q137_62, q137_63, q137_66, q137_69, q137_70, q137_73, q137_76, q137_77, q137_79, q137_80, q137_83, q137_86, q137_87, q137_90, q137_91, q137_92, q137_93, q137_94, q137_96, q137_99, q137_100, q137_103, q137_104, q137_106, q137_107, q137_110, q137_113, q137_114, q137_117, q137_118, q137_119, q137_120, q137_121, q137_122, q137_125, q137_126, q137_129, q137_130, q137_132, q137_133, q137_136, q137_139, q137_140, q137_143, q137_146, q137_147, q137_149, q137_150, q137_153, q137_156, q137_157, q137_160, q137_161, q137_162, q137_163, q137_166, q137_167, q137_169, q137_170, q137_173, q137_176, q137_177, q137_178, q137_181, q137_184, q137_185, q137_187, q137_188, q137_191, q137_194, q137_195, q137_196, q137_197, q137_198, q137_200, q137_203, q137_206, q137_209, q137_210, q137_212, q137_215, q137_218, q137_219, q137_222, q137_225, q137_226, q137_227, q137_228, q137_231, q137_235, q137_237, q137_240, kl_int, kl_ref, kl_tok, cS_nil, cS_int, cS_ref, cS_long, tl_some, tl_none, List.cons_append, List.nil_append, nI_add, nI_ltb, nI_leb, nI_eqb, nI_cl, zin_nI, hp', h10, hw0, zk0_inl]
theorem body_ (hS : Sh R) (hF : FO M) (hP : RCx M b n i) (hsk : sk b n i = i) (hQ : QW P) (hR : RPS M P i) : RBd R b n (d + 25) M (pBody b n P i) := by
  unfold pBody
  cases w0 : wm b n i 0
  rotate_left
  · rw [if_pos rfl]; exact ln_juror hS hF hP hsk hQ hR w0
  rw [if_neg (by decide)]
  cases w1 : wm b n i 1
  rotate_left
  · rw [if_pos rfl]; exact ln_tales hS hF hP hsk hQ hR w0 w1
  rw [if_neg (by decide)]
  cases w2 : wm b n i 2
  rotate_left
  · rw [if_pos rfl]; exact ln_seats hS hF hP hsk hQ hR w0 w1 w2
  rw [if_neg (by decide)]
  cases w3 : wm b n i 3
  rotate_left
  · rw [if_pos rfl]; exact ln_spare hS hF hP hsk hQ hR w0 w1 w2 w3
  rw [if_neg (by decide)]
  cases w4 : wm b n i 4
  rotate_left
  · rw [if_pos rfl]; exact ln_turns hS hF hP hsk hQ hR w0 w1 w2 w3 w4
  rw [if_neg (by decide)]
  cases w5 : wm b n i 5
  rotate_left
  · rw [if_pos rfl]; exact ln_box hS hF hP hsk hQ hR w0 w1 w2 w3 w4 w5
  rw [if_neg (by decide)]
  cases w6 : wm b n i 6
  rotate_left
  · rw [if_pos rfl]; exact ln_cause hS hF hP hsk hQ hR w0 w1 w2 w3 w4 w5 w6
  rw [if_neg (by decide)]
  cases w7 : wm b n i 7
  rotate_left
  · rw [if_pos rfl]; exact ln_bench hS hF hP hsk hQ hR w0 w1 w2 w3 w4 w5 w7
  rw [if_neg (by decide)]
  cases w8 : wm b n i 8
  rotate_left
  · rw [if_pos rfl]; exact ln_grant hS hF hP hsk hQ hR w0 w1 w2 w3 w4 w5 w7 w8
  rw [if_neg (by decide)]
  exact ln_none hS hF hP hsk w0 w1 w2 w3 w4 w5 w6 w7 w8
theorem lineRead_ (hS : Sh R) (hF : FO M) (hP : RCx M b n i) (hsk : sk b n i = i) (hQ : QW P) (hR : RPS M P i) :
    (∀ P' i', pLine b n P i = .inr (P', i') → ∃ M', cal (d + 25) 137 [.ref 127] M R = some (.inl none, M', R) ∧ RCx M' b n i' ∧ RPS M' P' i' ∧ RLf M M') ∧
    (∀ k p, pLine b n P i = .inl (k, p) → ∃ M', cal (d + 25) 137 [.ref 127] M R = some (.inl none, M', R) ∧ RFx 510 M' b n k p ∧ RLf M M') := by
  obtain ⟨nN, k127, k128, l128, k129, l129, k130, l130, k131, l131, k132, l132, k133, l133, k134, l134, k135, l135, k136, l136, k137, l137, k138, l138, k139, l139, k140, l140, k141, l141, k142, l142, k143, l143, k144, l144, k145, l145, k146, l146, f127_1, f127_2, f127_3, f127_4, f127_6, f127_7, f127_17, f127_18, f127_19, f127_22, f127_24, f127_25, f127_26, f127_29, f127_30, f127_31, f127_32, f127_33⟩ := modF hS
  obtain ⟨b1, b2⟩ := body_ (d := d) hS hF hP hsk hQ hR
  unfold pLine
  cases e : pBody b n P i with
  | inl f =>
    refine ⟨fun P' i' h => (by cases h), fun k p h => ?_⟩
    cases h
    obtain ⟨M1, g1, g2, g3⟩ := b2 _ _ e
    have gn := needs_no (d := d + 24) (c := nI 59) hS g3.1
    refine ⟨M1, ?_, g3, g2⟩
    rw [e137, g1]
    simp (disch := first | assumption | exact nar_b0 | exact nar_b1 | exact nar_b | exact Or.inl rfl | exact Or.inr rfl | exact zin_t (by omega) (by omega) | exact Nat.le_of_ble_eq_true rfl | (rw [nI_cl (by omega)]; assumption) | omega) only [↓reduceIte, reduceCtorEq, not_true_eq_false, not_false_eq_true, q137_0, q137_1, q137_3, q137_6, q137_9, q137_10, q137_11, q137_12, q137_15, q137_16, q137_17, q137_19, q137_20, q137_23, q137_24, q137_25, q137_28, q137_29, q137_32, q137_33, q137_34, q137_35, q137_36, q137_37, q137_38, q137_41, q137_42, q137_44, q137_47, q137_50, q137_51, q137_52, q137_53, q137_56, q137_57, q137_59, q137_62, q137_63, q137_66, q137_69, q137_70, q137_73, q137_76, q137_77, q137_79, q137_80, q137_83, q137_86, q137_87, q137_90, q137_91, q137_92, q137_93, q137_94, q137_96, q137_99, q137_100, q137_103, q137_104, q137_106, q137_107, q137_110, q137_113, q137_114, q137_117, q137_118, q137_119, q137_120, q137_121, q137_122, q137_125, q137_126, q137_129, q137_130, q137_132, q137_133, q137_136, q137_139, q137_140, q137_143, q137_146, q137_147, q137_149, q137_150, q137_153, q137_156, q137_157, q137_160, q137_161, q137_162, q137_163, q137_166, q137_167, q137_169, q137_170, q137_173, q137_176, q137_177, q137_178, q137_181, q137_184, q137_185, q137_187, q137_188, q137_191, q137_194, q137_195, q137_196, q137_197, q137_198, q137_200, q137_203, q137_206, q137_209, q137_210, q137_212, q137_215, q137_218, q137_219, q137_222, q137_225, q137_226, q137_227, q137_228, q137_231, q137_234, q137_235, q137_237, q137_240, kl_int, kl_ref, kl_tok, cS_nil, cS_int, cS_ref, cS_long, tl_some, tl_none, List.cons_append, List.nil_append, nI_add, nI_ltb, nI_leb, nI_eqb, nI_cl, zin_nI, gn, zk0_inl]
  | inr q =>
    obtain ⟨P1, i1⟩ := q
    obtain ⟨M1, g1, g2, g3⟩ := b1 P1 i1 e
    dsimp only
    rcases g3 with ⟨i2, s1, s2, s3⟩ | ⟨s1, s2⟩
    · rw [← s1]
      have hge := sk_ge b n i2
      have hle := sk_le (b := b) s2.2.1
      have hn := s2.1.2.2.1
      cases c : isH b n (sk b n i2) (nI 59)
      · rw [if_neg (by decide)]
        refine ⟨fun P' i' h => (by cases h), fun k p h => ?_⟩
        cases h
        have gn := needs_f (d := d + 22) hS s2 c
        have hX := RFx.wr (k := 1) (p := sk b n i2) (u := 510) (s2.mv hle).1 (by omega) (by decide)
        refine ⟨_, ?_, hX, g2.trans (RNf.hr.trans RNf.wr).lf⟩
        rw [e137, g1]
        simp (disch := first | assumption | exact nar_b0 | exact nar_b1 | exact nar_b | exact Or.inl rfl | exact Or.inr rfl | exact zin_t (by omega) (by omega) | exact Nat.le_of_ble_eq_true rfl | (rw [nI_cl (by omega)]; assumption) | omega) only [↓reduceIte, reduceCtorEq, not_true_eq_false, not_false_eq_true, q137_0, q137_1, q137_3, q137_6, q137_9, q137_10, q137_11, q137_12, q137_15, q137_16, q137_17, q137_19, q137_20, q137_23, q137_24, q137_25, q137_28, q137_29, q137_32, q137_33, q137_34, q137_35, q137_36, q137_37, q137_38, q137_41, q137_42, q137_44, q137_47, q137_50, q137_51, q137_52, q137_53, q137_56, q137_57, q137_59, q137_62, q137_63, q137_66, q137_69, q137_70, q137_73, q137_76, q137_77, q137_79, q137_80, q137_83, q137_86, q137_87, q137_90, q137_91, q137_92, q137_93, q137_94, q137_96, q137_99, q137_100, q137_103, q137_104, q137_106, q137_107, q137_110, q137_113, q137_114, q137_117, q137_118, q137_119, q137_120, q137_121, q137_122, q137_125, q137_126, q137_129, q137_130, q137_132, q137_133, q137_136, q137_139, q137_140, q137_143, q137_146, q137_147, q137_149, q137_150, q137_153, q137_156, q137_157, q137_160, q137_161, q137_162, q137_163, q137_166, q137_167, q137_169, q137_170, q137_173, q137_176, q137_177, q137_178, q137_181, q137_184, q137_185, q137_187, q137_188, q137_191, q137_194, q137_195, q137_196, q137_197, q137_198, q137_200, q137_203, q137_206, q137_209, q137_210, q137_212, q137_215, q137_218, q137_219, q137_222, q137_225, q137_226, q137_227, q137_228, q137_231, q137_234, q137_235, q137_237, q137_240, kl_int, kl_ref, kl_tok, cS_nil, cS_int, cS_ref, cS_long, tl_some, tl_none, List.cons_append, List.nil_append, nI_add, nI_ltb, nI_leb, nI_eqb, nI_cl, zin_nI, gn, zk0_inl]
      · rw [if_pos rfl]
        refine ⟨fun P' i' h => ?_, fun k p h => (by cases h)⟩
        cases h
        have gn := needs_t (d := d + 22) hS s2 c
        have hlt := isH_lt c
        refine ⟨_, ?_, s2.mv (j := sk b n i2 + 1) (by omega), s3.hr (by omega), g2.trans RNf.hr.lf⟩
        rw [e137, g1]
        simp (disch := first | assumption | exact nar_b0 | exact nar_b1 | exact nar_b | exact Or.inl rfl | exact Or.inr rfl | exact zin_t (by omega) (by omega) | exact Nat.le_of_ble_eq_true rfl | (rw [nI_cl (by omega)]; assumption) | omega) only [↓reduceIte, reduceCtorEq, not_true_eq_false, not_false_eq_true, q137_0, q137_1, q137_3, q137_6, q137_9, q137_10, q137_11, q137_12, q137_15, q137_16, q137_17, q137_19, q137_20, q137_23, q137_24, q137_25, q137_28, q137_29, q137_32, q137_33, q137_34, q137_35, q137_36, q137_37, q137_38, q137_41, q137_42, q137_44, q137_47, q137_50, q137_51, q137_52, q137_53, q137_56, q137_57, q137_59, q137_62, q137_63, q137_66, q137_69, q137_70, q137_73, q137_76, q137_77, q137_79, q137_80, q137_83, q137_86, q137_87, q137_90, q137_91, q137_92, q137_93, q137_94, q137_96, q137_99, q137_100, q137_103, q137_104, q137_106, q137_107, q137_110, q137_113, q137_114, q137_117, q137_118, q137_119, q137_120, q137_121, q137_122, q137_125, q137_126, q137_129, q137_130, q137_132, q137_133, q137_136, q137_139, q137_140, q137_143, q137_146, q137_147, q137_149, q137_150, q137_153, q137_156, q137_157, q137_160, q137_161, q137_162, q137_163, q137_166, q137_167, q137_169, q137_170, q137_173, q137_176, q137_177, q137_178, q137_181, q137_184, q137_185, q137_187, q137_188, q137_191, q137_194, q137_195, q137_196, q137_197, q137_198, q137_200, q137_203, q137_206, q137_209, q137_210, q137_212, q137_215, q137_218, q137_219, q137_222, q137_225, q137_226, q137_227, q137_228, q137_231, q137_234, q137_235, q137_237, q137_240, kl_int, kl_ref, kl_tok, cS_nil, cS_int, cS_ref, cS_long, tl_some, tl_none, List.cons_append, List.nil_append, nI_add, nI_ltb, nI_leb, nI_eqb, nI_cl, zin_nI, gn, zk0_inl]
    · rw [s1, if_neg (by decide)]
      refine ⟨fun P' i' h => (by cases h), fun k p h => ?_⟩
      cases h
      have gn := needs_no (d := d + 24) (c := nI 59) hS s2.1
      refine ⟨M1, ?_, s2, g2⟩
      rw [e137, g1]
      simp (disch := first | assumption | exact nar_b0 | exact nar_b1 | exact nar_b | exact Or.inl rfl | exact Or.inr rfl | exact zin_t (by omega) (by omega) | exact Nat.le_of_ble_eq_true rfl | (rw [nI_cl (by omega)]; assumption) | omega) only [↓reduceIte, reduceCtorEq, not_true_eq_false, not_false_eq_true, q137_0, q137_1, q137_3, q137_6, q137_9, q137_10, q137_11, q137_12, q137_15, q137_16, q137_17, q137_19, q137_20, q137_23, q137_24, q137_25, q137_28, q137_29, q137_32, q137_33, q137_34, q137_35, q137_36, q137_37, q137_38, q137_41, q137_42, q137_44, q137_47, q137_50, q137_51, q137_52, q137_53, q137_56, q137_57, q137_59, q137_62, q137_63, q137_66, q137_69, q137_70, q137_73, q137_76, q137_77, q137_79, q137_80, q137_83, q137_86, q137_87, q137_90, q137_91, q137_92, q137_93, q137_94, q137_96, q137_99, q137_100, q137_103, q137_104, q137_106, q137_107, q137_110, q137_113, q137_114, q137_117, q137_118, q137_119, q137_120, q137_121, q137_122, q137_125, q137_126, q137_129, q137_130, q137_132, q137_133, q137_136, q137_139, q137_140, q137_143, q137_146, q137_147, q137_149, q137_150, q137_153, q137_156, q137_157, q137_160, q137_161, q137_162, q137_163, q137_166, q137_167, q137_169, q137_170, q137_173, q137_176, q137_177, q137_178, q137_181, q137_184, q137_185, q137_187, q137_188, q137_191, q137_194, q137_195, q137_196, q137_197, q137_198, q137_200, q137_203, q137_206, q137_209, q137_210, q137_212, q137_215, q137_218, q137_219, q137_222, q137_225, q137_226, q137_227, q137_228, q137_231, q137_234, q137_235, q137_237, q137_240, kl_int, kl_ref, kl_tok, cS_nil, cS_int, cS_ref, cS_long, tl_some, tl_none, List.cons_append, List.nil_append, nI_add, nI_ltb, nI_leb, nI_eqb, nI_cl, zin_nI, gn, zk0_inl]
end Rr
