-- the reference: both, either
section Rh
variable {n : Nat} {R : ZH} {b : Nat → Int32}
theorem rloop_127 {lo o : Nat} {P : Nat → PR (List CdS)} (hS : Sh R) (hR : RdC R b n 129 lo o P) (hlo : 5 ≤ lo) : ∀ (m i e : Nat) (M : ZM) (acc : List CdS) (C : List Int), lo ≤ e → n ≤ i + m → FO M → RCx M b n i → CdM M (C ++ flat acc) → (C ++ flat acc).length ≤ i → M 127 15 = nI o →
    (∀ st i', lpW P b n 10 4 m i acc = .inr (st, i') → (i ≤ i' ∧ i' ≤ n ∧ (flat st).length ≤ (flat acc).length + (i' - i)) ∧ ∃ M', exe (e + 1) 127 4 [.ref 127] [] M R = some (.inl none, M', R) ∧ RCx M' b n i' ∧ CdM M' (C ++ flat st) ∧ M' 127 15 = M 127 15 ∧ RCf M M') ∧
    (∀ k p, lpW P b n 10 4 m i acc = .inl (k, p) → ∃ M', exe (e + 1) 127 4 [.ref 127] [] M R = some (.inl none, M', R) ∧ RFx 510 M' b n k p ∧ RCf M M') := by
  obtain ⟨nN, k127, k128, l128, k129, l129, k130, l130, k131, l131, k132, l132, k133, l133, k134, l134, k135, l135, k136, l136, k137, l137, k138, l138, k139, l139, k140, l140, k141, l141, k142, l142, k143, l143, k144, l144, k145, l145, k146, l146, f127_1, f127_2, f127_3, f127_4, f127_6, f127_7, f127_17, f127_18, f127_19, f127_22, f127_24, f127_25, f127_26, f127_29, f127_30, f127_31, f127_32, f127_33⟩ := modF hS
  intro m
  induction m with
  | zero =>
    intro i e M acc C he hm hF hP hC hl h15
    obtain ⟨d, rfl⟩ : ∃ d, e = d + 5 := ⟨e - 5, by omega⟩
    have hw := passesWord_ (d := d) (a := 1000011) (j := 10) rfl (by decide) hS hF hP
    have hge := sk_ge b n i
    have hle := sk_le (b := b) hP.2.1
    have c : wm b n (sk b n i) 10 = false := by
      cases c : wm b n (sk b n i) 10
      · rfl
      · have := wm_le c
        have l : wln 10 = 3 := rfl
        omega
    rw [c] at hw
    have hw' : cal (d + 5) 120 [.ref 127, .ref 1000011] M R = some (.inl (some (.int (nI 0))), hrm M (sk b n i), R) := hw
    refine ⟨fun st i' h => ?_, fun k p h => (by cases h)⟩
    cases h
    refine ⟨⟨hge, hle, by omega⟩, hrm M (sk b n i), ?_, hP.mv hle, hC.fr (hrm_s (by decide)) (hrm_c (by decide)), hrm_s (by decide), RNf.hr.cf⟩
    rw [q127_4]
    simp (disch := first | assumption | exact nar_b0 | exact nar_b1 | exact nar_b | exact Or.inl rfl | exact Or.inr rfl | exact zin_t (by omega) (by omega) | exact Nat.le_of_ble_eq_true rfl | (rw [nI_cl (by omega)]; assumption) | omega) only [↓reduceIte, reduceCtorEq, not_true_eq_false, not_false_eq_true, q127_0, q127_1, q127_5, q127_7, q127_10, q127_13, q127_14, q127_17, q127_18, q127_21, q127_24, q127_27, kl_int, kl_ref, kl_tok, cS_nil, cS_int, cS_ref, cS_long, tl_some, tl_none, List.cons_append, List.nil_append, nI_add, nI_ltb, nI_leb, nI_eqb, nI_cl, zin_nI, hw', zk0_inl]
  | succ m ih =>
    intro i e M acc C he hm hF hP hC hl h15
    obtain ⟨d, rfl⟩ : ∃ d, e = d + 5 := ⟨e - 5, by omega⟩
    have hn := hP.1.2.2.1
    have hw := passesWord_ (d := d) (a := 1000011) (j := 10) rfl (by decide) hS hF hP
    have hge := sk_ge b n i
    have hle := sk_le (b := b) hP.2.1
    unfold lpW
    cases c : wm b n (sk b n i) 10
    · rw [c] at hw
      have hw' : cal (d + 5) 120 [.ref 127, .ref 1000011] M R = some (.inl (some (.int (nI 0))), hrm M (sk b n i), R) := hw
      simp only [Bool.false_eq_true, if_false]
      refine ⟨fun st i' h => ?_, fun k p h => (by cases h)⟩
      cases h
      refine ⟨⟨hge, hle, by omega⟩, hrm M (sk b n i), ?_, hP.mv hle, hC.fr (hrm_s (by decide)) (hrm_c (by decide)), hrm_s (by decide), RNf.hr.cf⟩
      rw [q127_4]
      simp (disch := first | assumption | exact nar_b0 | exact nar_b1 | exact nar_b | exact Or.inl rfl | exact Or.inr rfl | exact zin_t (by omega) (by omega) | exact Nat.le_of_ble_eq_true rfl | (rw [nI_cl (by omega)]; assumption) | omega) only [↓reduceIte, reduceCtorEq, not_true_eq_false, not_false_eq_true, q127_0, q127_1, q127_5, q127_7, q127_10, q127_13, q127_14, q127_17, q127_18, q127_21, q127_24, q127_27, kl_int, kl_ref, kl_tok, cS_nil, cS_int, cS_ref, cS_long, tl_some, tl_none, List.cons_append, List.nil_append, nI_add, nI_ltb, nI_leb, nI_eqb, nI_cl, zin_nI, hw', zk0_inl]
    · rw [c] at hw
      have hwl := wm_le c
      have l : wln 10 = 3 := rfl
      have hw' : cal (d + 5) 120 [.ref 127, .ref 1000011] M R = some (.inl (some (.int (nI 1))), hrm M (sk b n i + wln 10), R) := hw
      have hP1 := hP.mv hwl
      have f1 : RCf M (hrm M (sk b n i + wln 10)) := RNf.hr.cf
      have hC1 : CdM (hrm M (sk b n i + wln 10)) (C ++ flat acc) := hC.fr (hrm_s (by decide)) (hrm_c (by decide))
      have h151 : hrm M (sk b n i + wln 10) 127 15 = nI o := by rw [hrm_s (by decide)]; exact h15
      obtain ⟨r1, r2⟩ := hR (d + 5) (hrm M (sk b n i + wln 10)) (sk b n i + wln 10) (C ++ flat acc) he (hF.rf f1) hP1 hC1 (by omega) h151
      simp only [if_true]
      cases hp : P (sk b n i + wln 10) with
      | inl f =>
        obtain ⟨k, p⟩ := f
        obtain ⟨M2, g1, g2, g3⟩ := r2 k p hp
        refine ⟨fun st i' h => (by cases h), fun k' p' h => ?_⟩
        cases h
        have g4 := adds_no (d := d + 5) (x := nI 2004) hS g2.1
        have g5 := passesWord_no (d := d + 5) (w := tok) (a := 1000011) hS g2.1
        refine ⟨M2, ?_, g2, f1.trans g3⟩
        have h4 : exe (d + 5 + 1) 127 4 [.ref 127] [] M R = exe (d + 5 + 1) 127 4 [.ref 127] [] M2 R := by
          rw [q127_4]
          simp (disch := first | assumption | exact nar_b0 | exact nar_b1 | exact nar_b | exact Or.inl rfl | exact Or.inr rfl | exact zin_t (by omega) (by omega) | exact Nat.le_of_ble_eq_true rfl | (rw [nI_cl (by omega)]; assumption) | omega) only [↓reduceIte, reduceCtorEq, not_true_eq_false, not_false_eq_true, q127_0, q127_1, q127_5, q127_7, q127_10, q127_13, q127_14, q127_17, q127_18, q127_21, q127_24, q127_27, kl_int, kl_ref, kl_tok, cS_nil, cS_int, cS_ref, cS_long, tl_some, tl_none, List.cons_append, List.nil_append, nI_add, nI_ltb, nI_leb, nI_eqb, nI_cl, zin_nI, hw', zk0_inl, b2i_ne1, g1, g4]
        rw [h4, q127_4]
        simp (disch := first | assumption | exact nar_b0 | exact nar_b1 | exact nar_b | exact Or.inl rfl | exact Or.inr rfl | exact zin_t (by omega) (by omega) | exact Nat.le_of_ble_eq_true rfl | (rw [nI_cl (by omega)]; assumption) | omega) only [↓reduceIte, reduceCtorEq, not_true_eq_false, not_false_eq_true, q127_0, q127_1, q127_5, q127_7, q127_10, q127_13, q127_14, q127_17, q127_18, q127_21, q127_24, q127_27, kl_int, kl_ref, kl_tok, cS_nil, cS_int, cS_ref, cS_long, tl_some, tl_none, List.cons_append, List.nil_append, nI_add, nI_ltb, nI_leb, nI_eqb, nI_cl, zin_nI, g5, zk0_inl]
      | inr w =>
        obtain ⟨st, i1⟩ := w
        obtain ⟨⟨p1, p2, p3⟩, M2, g1, g2, g3, g4, g5⟩ := r1 st i1 hp
        have hl2 : (C ++ flat acc ++ flat st).length = (C ++ flat acc).length + (flat st).length := List.length_append
        have ga := adds_ (d := d + 5) (x := 2004) hS g2.2.2 g3 (by omega)
        have ga' : cal (d + 5) 124 [.ref 127, .int (nI 2004)] M2 R = some (.inl none, adR M2 (C ++ flat acc ++ flat st).length 2004, R) := ga
        have hC3 := g3.ad (x := 2004)
        have hP3 : RCx (adR M2 (C ++ flat acc ++ flat st).length 2004) b n i1 := adR_cx g2
        have f3 : RCf M (adR M2 (C ++ flat acc ++ flat st).length 2004) := (f1.trans g5).trans adR_f
        have h153 : adR M2 (C ++ flat acc ++ flat st).length 2004 127 15 = M 127 15 := by unfold adR; rw [up2_s (by decide), up2_ne (by decide), g4, hrm_s (by decide)]
        have hx : exe (d + 5 + 1) 127 4 [.ref 127] [] M R = exe (d + 5 + 1) 127 4 [.ref 127] [] (adR M2 (C ++ flat acc ++ flat st).length 2004) R := by
          rw [q127_4]
          simp (disch := first | assumption | exact nar_b0 | exact nar_b1 | exact nar_b | exact Or.inl rfl | exact Or.inr rfl | exact zin_t (by omega) (by omega) | exact Nat.le_of_ble_eq_true rfl | (rw [nI_cl (by omega)]; assumption) | omega) only [↓reduceIte, reduceCtorEq, not_true_eq_false, not_false_eq_true, q127_0, q127_1, q127_5, q127_7, q127_10, q127_13, q127_14, q127_17, q127_18, q127_21, q127_24, q127_27, kl_int, kl_ref, kl_tok, cS_nil, cS_int, cS_ref, cS_long, tl_some, tl_none, List.cons_append, List.nil_append, nI_add, nI_ltb, nI_leb, nI_eqb, nI_cl, zin_nI, hw', zk0_inl, b2i_ne1, g1, ga']
        generalize adR M2 (C ++ flat acc ++ flat st).length 2004 = M3 at hC3 hP3 f3 h153 hx
        have ef : flat (acc ++ st ++ [((4, 0, 0) : CdS)]) = flat acc ++ flat st ++ [2004] := by rw [flat_app, flat_app, flat_op (by decide)]; rfl
        have efl : (flat (acc ++ st ++ [((4, 0, 0) : CdS)])).length = (flat acc).length + (flat st).length + 1 := by rw [ef]; simp; omega
        have eC : C ++ flat acc ++ flat st ++ [2004] = C ++ flat (acc ++ st ++ [((4, 0, 0) : CdS)]) := by rw [ef]; simp
        have hCl : (C ++ flat acc).length = C.length + (flat acc).length := List.length_append
        have hCl2 : (C ++ flat (acc ++ st ++ [((4, 0, 0) : CdS)])).length = C.length + (flat (acc ++ st ++ [((4, 0, 0) : CdS)])).length := List.length_append
        rw [eC] at hC3
        obtain ⟨u1, u2⟩ := ih i1 (d + 5) M3 (acc ++ st ++ [(4, 0, 0)]) C he (by omega) (hF.rf f3) hP3 hC3 (by omega) (by rw [h153]; exact h15)
        rw [hx]
        refine ⟨fun st' i' h => ?_, fun k p h => ?_⟩
        · obtain ⟨⟨x1, x2, x3⟩, M', a1, a2, a3, a4, a5⟩ := u1 st' i' h
          exact ⟨⟨by omega, x2, by omega⟩, M', a1, a2, a3, by rw [a4, h153], f3.trans a5⟩
        · obtain ⟨M', a1, a2, a3⟩ := u2 k p h
          exact ⟨M', a1, a2, f3.trans a3⟩
theorem rdC_127 {lo o : Nat} {P : Nat → PR (List CdS)} (hS : Sh R) (hR : RdC R b n 129 lo o P) (hlo : 5 ≤ lo) : RdC R b n 127 (lo + 1) o (pLoop P b n 10 4) := by
  obtain ⟨nN, k127, k128, l128, k129, l129, k130, l130, k131, l131, k132, l132, k133, l133, k134, l134, k135, l135, k136, l136, k137, l137, k138, l138, k139, l139, k140, l140, k141, l141, k142, l142, k143, l143, k144, l144, k145, l145, k146, l146, f127_1, f127_2, f127_3, f127_4, f127_6, f127_7, f127_17, f127_18, f127_19, f127_22, f127_24, f127_25, f127_26, f127_29, f127_30, f127_31, f127_32, f127_33⟩ := modF hS
  intro e M i C he hF hP hC hl h15
  obtain ⟨d, rfl⟩ : ∃ d, e = d + 5 + 1 := ⟨e - 6, by omega⟩
  obtain ⟨r1, r2⟩ := hR (d + 5) M i C (by omega) hF hP hC hl h15
  unfold pLoop
  cases hp : P i with
  | inl f =>
    obtain ⟨k, p⟩ := f
    obtain ⟨M2, g1, g2, g3⟩ := r2 k p hp
    refine ⟨fun st i' h => (by cases h), fun k' p' h => ?_⟩
    cases h
    have g5 := passesWord_no (d := d + 5) (w := tok) (a := 1000011) hS g2.1
    refine ⟨M2, ?_, g2, g3⟩
    rw [e127]
    simp (disch := first | assumption | exact nar_b0 | exact nar_b1 | exact nar_b | exact Or.inl rfl | exact Or.inr rfl | exact zin_t (by omega) (by omega) | exact Nat.le_of_ble_eq_true rfl | (rw [nI_cl (by omega)]; assumption) | omega) only [↓reduceIte, reduceCtorEq, not_true_eq_false, not_false_eq_true, q127_0, q127_1, q127_5, q127_7, q127_10, q127_13, q127_14, q127_17, q127_18, q127_21, q127_24, q127_27, kl_int, kl_ref, kl_tok, cS_nil, cS_int, cS_ref, cS_long, tl_some, tl_none, List.cons_append, List.nil_append, nI_add, nI_ltb, nI_leb, nI_eqb, nI_cl, zin_nI, g1, zk0_inl]
    rw [q127_4]
    simp (disch := first | assumption | exact nar_b0 | exact nar_b1 | exact nar_b | exact Or.inl rfl | exact Or.inr rfl | exact zin_t (by omega) (by omega) | exact Nat.le_of_ble_eq_true rfl | (rw [nI_cl (by omega)]; assumption) | omega) only [↓reduceIte, reduceCtorEq, not_true_eq_false, not_false_eq_true, q127_0, q127_1, q127_5, q127_7, q127_10, q127_13, q127_14, q127_17, q127_18, q127_21, q127_24, q127_27, kl_int, kl_ref, kl_tok, cS_nil, cS_int, cS_ref, cS_long, tl_some, tl_none, List.cons_append, List.nil_append, nI_add, nI_ltb, nI_leb, nI_eqb, nI_cl, zin_nI, g5, zk0_inl]
  | inr w =>
    obtain ⟨st, i1⟩ := w
    obtain ⟨⟨p1, p2, p3⟩, M2, g1, g2, g3, g4, g5⟩ := r1 st i1 hp
    have hl2 : (C ++ flat st).length = C.length + (flat st).length := List.length_append
    obtain ⟨u1, u2⟩ := rloop_127 hS hR hlo (n - i1) i1 (d + 5) M2 st C (by omega) (by omega) (hF.rf g5) g2 g3 (by omega) (by rw [g4]; exact h15)
    have hx : cal (d + 5 + 1) 127 [.ref 127] M R = exe (d + 5 + 1) 127 4 [.ref 127] [] M2 R := by
      rw [e127]
      simp (disch := first | assumption | exact nar_b0 | exact nar_b1 | exact nar_b | exact Or.inl rfl | exact Or.inr rfl | exact zin_t (by omega) (by omega) | exact Nat.le_of_ble_eq_true rfl | (rw [nI_cl (by omega)]; assumption) | omega) only [↓reduceIte, reduceCtorEq, not_true_eq_false, not_false_eq_true, q127_0, q127_1, q127_5, q127_7, q127_10, q127_13, q127_14, q127_17, q127_18, q127_21, q127_24, q127_27, kl_int, kl_ref, kl_tok, cS_nil, cS_int, cS_ref, cS_long, tl_some, tl_none, List.cons_append, List.nil_append, nI_add, nI_ltb, nI_leb, nI_eqb, nI_cl, zin_nI, g1, zk0_inl]
    rw [hx]
    refine ⟨fun st' i' h => ?_, fun k p h => ?_⟩
    · obtain ⟨⟨x1, x2, x3⟩, M', a1, a2, a3, a4, a5⟩ := u1 st' i' h
      exact ⟨⟨by omega, x2, by omega⟩, M', a1, a2, a3, by rw [a4, g4], g5.trans a5⟩
    · obtain ⟨M', a1, a2, a3⟩ := u2 k p h
      exact ⟨M', a1, a2, g5.trans a3⟩
theorem rloop_126 {lo o : Nat} {P : Nat → PR (List CdS)} (hS : Sh R) (hR : RdC R b n 127 lo o P) (hlo : 5 ≤ lo) : ∀ (m i e : Nat) (M : ZM) (acc : List CdS) (C : List Int), lo ≤ e → n ≤ i + m → FO M → RCx M b n i → CdM M (C ++ flat acc) → (C ++ flat acc).length ≤ i → M 127 15 = nI o →
    (∀ st i', lpW P b n 9 5 m i acc = .inr (st, i') → (i ≤ i' ∧ i' ≤ n ∧ (flat st).length ≤ (flat acc).length + (i' - i)) ∧ ∃ M', exe (e + 1) 126 4 [.ref 127] [] M R = some (.inl none, M', R) ∧ RCx M' b n i' ∧ CdM M' (C ++ flat st) ∧ M' 127 15 = M 127 15 ∧ RCf M M') ∧
    (∀ k p, lpW P b n 9 5 m i acc = .inl (k, p) → ∃ M', exe (e + 1) 126 4 [.ref 127] [] M R = some (.inl none, M', R) ∧ RFx 510 M' b n k p ∧ RCf M M') := by
  obtain ⟨nN, k127, k128, l128, k129, l129, k130, l130, k131, l131, k132, l132, k133, l133, k134, l134, k135, l135, k136, l136, k137, l137, k138, l138, k139, l139, k140, l140, k141, l141, k142, l142, k143, l143, k144, l144, k145, l145, k146, l146, f127_1, f127_2, f127_3, f127_4, f127_6, f127_7, f127_17, f127_18, f127_19, f127_22, f127_24, f127_25, f127_26, f127_29, f127_30, f127_31, f127_32, f127_33⟩ := modF hS
  intro m
  induction m with
  | zero =>
    intro i e M acc C he hm hF hP hC hl h15
    obtain ⟨d, rfl⟩ : ∃ d, e = d + 5 := ⟨e - 5, by omega⟩
    have hw := passesWord_ (d := d) (a := 1000010) (j := 9) rfl (by decide) hS hF hP
    have hge := sk_ge b n i
    have hle := sk_le (b := b) hP.2.1
    have c : wm b n (sk b n i) 9 = false := by
      cases c : wm b n (sk b n i) 9
      · rfl
      · have := wm_le c
        have l : wln 9 = 2 := rfl
        omega
    rw [c] at hw
    have hw' : cal (d + 5) 120 [.ref 127, .ref 1000010] M R = some (.inl (some (.int (nI 0))), hrm M (sk b n i), R) := hw
    refine ⟨fun st i' h => ?_, fun k p h => (by cases h)⟩
    cases h
    refine ⟨⟨hge, hle, by omega⟩, hrm M (sk b n i), ?_, hP.mv hle, hC.fr (hrm_s (by decide)) (hrm_c (by decide)), hrm_s (by decide), RNf.hr.cf⟩
    rw [q126_4]
    simp (disch := first | assumption | exact nar_b0 | exact nar_b1 | exact nar_b | exact Or.inl rfl | exact Or.inr rfl | exact zin_t (by omega) (by omega) | exact Nat.le_of_ble_eq_true rfl | (rw [nI_cl (by omega)]; assumption) | omega) only [↓reduceIte, reduceCtorEq, not_true_eq_false, not_false_eq_true, q126_0, q126_1, q126_5, q126_7, q126_10, q126_13, q126_14, q126_17, q126_18, q126_21, q126_24, q126_27, kl_int, kl_ref, kl_tok, cS_nil, cS_int, cS_ref, cS_long, tl_some, tl_none, List.cons_append, List.nil_append, nI_add, nI_ltb, nI_leb, nI_eqb, nI_cl, zin_nI, hw', zk0_inl]
  | succ m ih =>
    intro i e M acc C he hm hF hP hC hl h15
    obtain ⟨d, rfl⟩ : ∃ d, e = d + 5 := ⟨e - 5, by omega⟩
    have hn := hP.1.2.2.1
    have hw := passesWord_ (d := d) (a := 1000010) (j := 9) rfl (by decide) hS hF hP
    have hge := sk_ge b n i
    have hle := sk_le (b := b) hP.2.1
    unfold lpW
    cases c : wm b n (sk b n i) 9
    · rw [c] at hw
      have hw' : cal (d + 5) 120 [.ref 127, .ref 1000010] M R = some (.inl (some (.int (nI 0))), hrm M (sk b n i), R) := hw
      simp only [Bool.false_eq_true, if_false]
      refine ⟨fun st i' h => ?_, fun k p h => (by cases h)⟩
      cases h
      refine ⟨⟨hge, hle, by omega⟩, hrm M (sk b n i), ?_, hP.mv hle, hC.fr (hrm_s (by decide)) (hrm_c (by decide)), hrm_s (by decide), RNf.hr.cf⟩
      rw [q126_4]
      simp (disch := first | assumption | exact nar_b0 | exact nar_b1 | exact nar_b | exact Or.inl rfl | exact Or.inr rfl | exact zin_t (by omega) (by omega) | exact Nat.le_of_ble_eq_true rfl | (rw [nI_cl (by omega)]; assumption) | omega) only [↓reduceIte, reduceCtorEq, not_true_eq_false, not_false_eq_true, q126_0, q126_1, q126_5, q126_7, q126_10, q126_13, q126_14, q126_17, q126_18, q126_21, q126_24, q126_27, kl_int, kl_ref, kl_tok, cS_nil, cS_int, cS_ref, cS_long, tl_some, tl_none, List.cons_append, List.nil_append, nI_add, nI_ltb, nI_leb, nI_eqb, nI_cl, zin_nI, hw', zk0_inl]
    · rw [c] at hw
      have hwl := wm_le c
      have l : wln 9 = 2 := rfl
      have hw' : cal (d + 5) 120 [.ref 127, .ref 1000010] M R = some (.inl (some (.int (nI 1))), hrm M (sk b n i + wln 9), R) := hw
      have hP1 := hP.mv hwl
      have f1 : RCf M (hrm M (sk b n i + wln 9)) := RNf.hr.cf
      have hC1 : CdM (hrm M (sk b n i + wln 9)) (C ++ flat acc) := hC.fr (hrm_s (by decide)) (hrm_c (by decide))
      have h151 : hrm M (sk b n i + wln 9) 127 15 = nI o := by rw [hrm_s (by decide)]; exact h15
      obtain ⟨r1, r2⟩ := hR (d + 5) (hrm M (sk b n i + wln 9)) (sk b n i + wln 9) (C ++ flat acc) he (hF.rf f1) hP1 hC1 (by omega) h151
      simp only [if_true]
      cases hp : P (sk b n i + wln 9) with
      | inl f =>
        obtain ⟨k, p⟩ := f
        obtain ⟨M2, g1, g2, g3⟩ := r2 k p hp
        refine ⟨fun st i' h => (by cases h), fun k' p' h => ?_⟩
        cases h
        have g4 := adds_no (d := d + 5) (x := nI 2005) hS g2.1
        have g5 := passesWord_no (d := d + 5) (w := tok) (a := 1000010) hS g2.1
        refine ⟨M2, ?_, g2, f1.trans g3⟩
        have h4 : exe (d + 5 + 1) 126 4 [.ref 127] [] M R = exe (d + 5 + 1) 126 4 [.ref 127] [] M2 R := by
          rw [q126_4]
          simp (disch := first | assumption | exact nar_b0 | exact nar_b1 | exact nar_b | exact Or.inl rfl | exact Or.inr rfl | exact zin_t (by omega) (by omega) | exact Nat.le_of_ble_eq_true rfl | (rw [nI_cl (by omega)]; assumption) | omega) only [↓reduceIte, reduceCtorEq, not_true_eq_false, not_false_eq_true, q126_0, q126_1, q126_5, q126_7, q126_10, q126_13, q126_14, q126_17, q126_18, q126_21, q126_24, q126_27, kl_int, kl_ref, kl_tok, cS_nil, cS_int, cS_ref, cS_long, tl_some, tl_none, List.cons_append, List.nil_append, nI_add, nI_ltb, nI_leb, nI_eqb, nI_cl, zin_nI, hw', zk0_inl, b2i_ne1, g1, g4]
        rw [h4, q126_4]
        simp (disch := first | assumption | exact nar_b0 | exact nar_b1 | exact nar_b | exact Or.inl rfl | exact Or.inr rfl | exact zin_t (by omega) (by omega) | exact Nat.le_of_ble_eq_true rfl | (rw [nI_cl (by omega)]; assumption) | omega) only [↓reduceIte, reduceCtorEq, not_true_eq_false, not_false_eq_true, q126_0, q126_1, q126_5, q126_7, q126_10, q126_13, q126_14, q126_17, q126_18, q126_21, q126_24, q126_27, kl_int, kl_ref, kl_tok, cS_nil, cS_int, cS_ref, cS_long, tl_some, tl_none, List.cons_append, List.nil_append, nI_add, nI_ltb, nI_leb, nI_eqb, nI_cl, zin_nI, g5, zk0_inl]
      | inr w =>
        obtain ⟨st, i1⟩ := w
        obtain ⟨⟨p1, p2, p3⟩, M2, g1, g2, g3, g4, g5⟩ := r1 st i1 hp
        have hl2 : (C ++ flat acc ++ flat st).length = (C ++ flat acc).length + (flat st).length := List.length_append
        have ga := adds_ (d := d + 5) (x := 2005) hS g2.2.2 g3 (by omega)
        have ga' : cal (d + 5) 124 [.ref 127, .int (nI 2005)] M2 R = some (.inl none, adR M2 (C ++ flat acc ++ flat st).length 2005, R) := ga
        have hC3 := g3.ad (x := 2005)
        have hP3 : RCx (adR M2 (C ++ flat acc ++ flat st).length 2005) b n i1 := adR_cx g2
        have f3 : RCf M (adR M2 (C ++ flat acc ++ flat st).length 2005) := (f1.trans g5).trans adR_f
        have h153 : adR M2 (C ++ flat acc ++ flat st).length 2005 127 15 = M 127 15 := by unfold adR; rw [up2_s (by decide), up2_ne (by decide), g4, hrm_s (by decide)]
        have hx : exe (d + 5 + 1) 126 4 [.ref 127] [] M R = exe (d + 5 + 1) 126 4 [.ref 127] [] (adR M2 (C ++ flat acc ++ flat st).length 2005) R := by
          rw [q126_4]
          simp (disch := first | assumption | exact nar_b0 | exact nar_b1 | exact nar_b | exact Or.inl rfl | exact Or.inr rfl | exact zin_t (by omega) (by omega) | exact Nat.le_of_ble_eq_true rfl | (rw [nI_cl (by omega)]; assumption) | omega) only [↓reduceIte, reduceCtorEq, not_true_eq_false, not_false_eq_true, q126_0, q126_1, q126_5, q126_7, q126_10, q126_13, q126_14, q126_17, q126_18, q126_21, q126_24, q126_27, kl_int, kl_ref, kl_tok, cS_nil, cS_int, cS_ref, cS_long, tl_some, tl_none, List.cons_append, List.nil_append, nI_add, nI_ltb, nI_leb, nI_eqb, nI_cl, zin_nI, hw', zk0_inl, b2i_ne1, g1, ga']
        generalize adR M2 (C ++ flat acc ++ flat st).length 2005 = M3 at hC3 hP3 f3 h153 hx
        have ef : flat (acc ++ st ++ [((5, 0, 0) : CdS)]) = flat acc ++ flat st ++ [2005] := by rw [flat_app, flat_app, flat_op (by decide)]; rfl
        have efl : (flat (acc ++ st ++ [((5, 0, 0) : CdS)])).length = (flat acc).length + (flat st).length + 1 := by rw [ef]; simp; omega
        have eC : C ++ flat acc ++ flat st ++ [2005] = C ++ flat (acc ++ st ++ [((5, 0, 0) : CdS)]) := by rw [ef]; simp
        have hCl : (C ++ flat acc).length = C.length + (flat acc).length := List.length_append
        have hCl2 : (C ++ flat (acc ++ st ++ [((5, 0, 0) : CdS)])).length = C.length + (flat (acc ++ st ++ [((5, 0, 0) : CdS)])).length := List.length_append
        rw [eC] at hC3
        obtain ⟨u1, u2⟩ := ih i1 (d + 5) M3 (acc ++ st ++ [(5, 0, 0)]) C he (by omega) (hF.rf f3) hP3 hC3 (by omega) (by rw [h153]; exact h15)
        rw [hx]
        refine ⟨fun st' i' h => ?_, fun k p h => ?_⟩
        · obtain ⟨⟨x1, x2, x3⟩, M', a1, a2, a3, a4, a5⟩ := u1 st' i' h
          exact ⟨⟨by omega, x2, by omega⟩, M', a1, a2, a3, by rw [a4, h153], f3.trans a5⟩
        · obtain ⟨M', a1, a2, a3⟩ := u2 k p h
          exact ⟨M', a1, a2, f3.trans a3⟩
theorem rdC_126 {lo o : Nat} {P : Nat → PR (List CdS)} (hS : Sh R) (hR : RdC R b n 127 lo o P) (hlo : 5 ≤ lo) : RdC R b n 126 (lo + 1) o (pLoop P b n 9 5) := by
  obtain ⟨nN, k127, k128, l128, k129, l129, k130, l130, k131, l131, k132, l132, k133, l133, k134, l134, k135, l135, k136, l136, k137, l137, k138, l138, k139, l139, k140, l140, k141, l141, k142, l142, k143, l143, k144, l144, k145, l145, k146, l146, f127_1, f127_2, f127_3, f127_4, f127_6, f127_7, f127_17, f127_18, f127_19, f127_22, f127_24, f127_25, f127_26, f127_29, f127_30, f127_31, f127_32, f127_33⟩ := modF hS
  intro e M i C he hF hP hC hl h15
  obtain ⟨d, rfl⟩ : ∃ d, e = d + 5 + 1 := ⟨e - 6, by omega⟩
  obtain ⟨r1, r2⟩ := hR (d + 5) M i C (by omega) hF hP hC hl h15
  unfold pLoop
  cases hp : P i with
  | inl f =>
    obtain ⟨k, p⟩ := f
    obtain ⟨M2, g1, g2, g3⟩ := r2 k p hp
    refine ⟨fun st i' h => (by cases h), fun k' p' h => ?_⟩
    cases h
    have g5 := passesWord_no (d := d + 5) (w := tok) (a := 1000010) hS g2.1
    refine ⟨M2, ?_, g2, g3⟩
    rw [e126]
    simp (disch := first | assumption | exact nar_b0 | exact nar_b1 | exact nar_b | exact Or.inl rfl | exact Or.inr rfl | exact zin_t (by omega) (by omega) | exact Nat.le_of_ble_eq_true rfl | (rw [nI_cl (by omega)]; assumption) | omega) only [↓reduceIte, reduceCtorEq, not_true_eq_false, not_false_eq_true, q126_0, q126_1, q126_5, q126_7, q126_10, q126_13, q126_14, q126_17, q126_18, q126_21, q126_24, q126_27, kl_int, kl_ref, kl_tok, cS_nil, cS_int, cS_ref, cS_long, tl_some, tl_none, List.cons_append, List.nil_append, nI_add, nI_ltb, nI_leb, nI_eqb, nI_cl, zin_nI, g1, zk0_inl]
    rw [q126_4]
    simp (disch := first | assumption | exact nar_b0 | exact nar_b1 | exact nar_b | exact Or.inl rfl | exact Or.inr rfl | exact zin_t (by omega) (by omega) | exact Nat.le_of_ble_eq_true rfl | (rw [nI_cl (by omega)]; assumption) | omega) only [↓reduceIte, reduceCtorEq, not_true_eq_false, not_false_eq_true, q126_0, q126_1, q126_5, q126_7, q126_10, q126_13, q126_14, q126_17, q126_18, q126_21, q126_24, q126_27, kl_int, kl_ref, kl_tok, cS_nil, cS_int, cS_ref, cS_long, tl_some, tl_none, List.cons_append, List.nil_append, nI_add, nI_ltb, nI_leb, nI_eqb, nI_cl, zin_nI, g5, zk0_inl]
  | inr w =>
    obtain ⟨st, i1⟩ := w
    obtain ⟨⟨p1, p2, p3⟩, M2, g1, g2, g3, g4, g5⟩ := r1 st i1 hp
    have hl2 : (C ++ flat st).length = C.length + (flat st).length := List.length_append
    obtain ⟨u1, u2⟩ := rloop_126 hS hR hlo (n - i1) i1 (d + 5) M2 st C (by omega) (by omega) (hF.rf g5) g2 g3 (by omega) (by rw [g4]; exact h15)
    have hx : cal (d + 5 + 1) 126 [.ref 127] M R = exe (d + 5 + 1) 126 4 [.ref 127] [] M2 R := by
      rw [e126]
      simp (disch := first | assumption | exact nar_b0 | exact nar_b1 | exact nar_b | exact Or.inl rfl | exact Or.inr rfl | exact zin_t (by omega) (by omega) | exact Nat.le_of_ble_eq_true rfl | (rw [nI_cl (by omega)]; assumption) | omega) only [↓reduceIte, reduceCtorEq, not_true_eq_false, not_false_eq_true, q126_0, q126_1, q126_5, q126_7, q126_10, q126_13, q126_14, q126_17, q126_18, q126_21, q126_24, q126_27, kl_int, kl_ref, kl_tok, cS_nil, cS_int, cS_ref, cS_long, tl_some, tl_none, List.cons_append, List.nil_append, nI_add, nI_ltb, nI_leb, nI_eqb, nI_cl, zin_nI, g1, zk0_inl]
    rw [hx]
    refine ⟨fun st' i' h => ?_, fun k p h => ?_⟩
    · obtain ⟨⟨x1, x2, x3⟩, M', a1, a2, a3, a4, a5⟩ := u1 st' i' h
      exact ⟨⟨by omega, x2, by omega⟩, M', a1, a2, a3, by rw [a4, g4], g5.trans a5⟩
    · obtain ⟨M', a1, a2, a3⟩ := u2 k p h
      exact ⟨M', a1, a2, g5.trans a3⟩
end Rh
