-- the reference reads a quantity
def pOpF (b : Nat → Int32) (n s : Nat) : Nat → Nat → PR Int
  | 0, _ => pNum b n s true (-99) 99
  | m + 1, k => if wm b n s (12 + k) then .inr (100 + (k : Int), s + wln (12 + k)) else pOpF b n s m (k + 1)
theorem pOpF_eq {b : Nat → Int32} {n i : Nat} : pOpF b n (sk b n i) 5 0 = pOp b n i := by
  unfold pOp pOpF pOpF pOpF pOpF pOpF pOpF
  rfl
section Rf
variable {d n i : Nat} {M : ZM} {R : ZH} {b : Nat → Int32} {C : List Int}
theorem quan_L {s : Nat} (hS : Sh R) : ∀ (m k i : Nat) (M : ZM), sk b n i = s → k + m = 5 → FO M → RCx M b n i → CdM M C → C.length ≤ i →
    (∀ v i', pOpF b n s m k = .inr (v, i') → ∃ M', exe (d + 6) 130 10 [.ref 127, .int (nI k)] [] M R = some (.inl none, M', R) ∧ RCx M' b n i' ∧ CdM M' (C ++ [opc v]) ∧ M' 127 15 = M 127 15 ∧ RCf M M') ∧
    (∀ k' p, pOpF b n s m k = .inl (k', p) → ∃ M', exe (d + 6) 130 10 [.ref 127, .int (nI k)] [] M R = some (.inl none, M', R) ∧ RFx 500 M' b n k' p ∧ M' 127 15 = M 127 15 ∧ RCf M M') := by
  obtain ⟨nN, k127, k128, l128, k129, l129, k130, l130, k131, l131, k132, l132, k133, l133, k134, l134, k135, l135, k136, l136, k137, l137, k138, l138, k139, l139, k140, l140, k141, l141, k142, l142, k143, l143, k144, l144, k145, l145, k146, l146, f127_1, f127_2, f127_3, f127_4, f127_6, f127_7, f127_17, f127_18, f127_19, f127_22, f127_24, f127_25, f127_26, f127_29, f127_30, f127_31, f127_32, f127_33⟩ := modF hS
  intro m
  induction m with
  | zero =>
    intro k i M hs hk hF hP hC hl
    have hn := hP.1.2.2.1
    have hsn := hP.2.1
    have z : 5 ≤ k := by omega
    obtain ⟨q1, q2⟩ := number_ (d := d + 3) (sg := true) (lo := -99) (hi := 99) hS hP (by decide) (by decide)
    have ep : pOpF b n s 0 k = pNum b n i true (-99) 99 := by unfold pOpF; rw [← hs, pNum_sk hsn]
    rw [ep]
    refine ⟨fun v i' h => ?_, fun k' p h => ?_⟩
    · have g1 := q1 v i' h
      have hp := pNum_pos hsn h
      have hP1 := (bgM_cx hP (sk_le (b := b) hsn)).mv hp.2.1
      have hC1 : CdM (hrm (bgM M (sk b n i)) i') C := hC.fr (by rw [hrm_s (by decide)]; unfold bgM; rw [up2_s (by decide), hrm_s (by decide)]) (by rw [hrm_c (by decide)]; unfold bgM; rw [up2_ne (by decide), hrm_c (by decide)])
      have h15 : hrm (bgM M (sk b n i)) i' 127 15 = M 127 15 := by rw [hrm_s (by decide)]; unfold bgM; rw [up2_s (by decide), hrm_s (by decide)]
      have f1 : RCf M (hrm (bgM M (sk b n i)) i') := (RNf.trans RNf.bg RNf.hr).cf
      generalize hrm (bgM M (sk b n i)) i' = N at g1 hP1 hC1 h15 f1
      have g2 := adds_ (d := d + 5) (x := v) hS hP1.2.2 hC1 (by omega)
      have ev : opc v = v := by unfold opc; rw [if_pos (by omega)]
      rw [ev]
      refine ⟨adR N C.length v, ?_, adR_cx hP1, hC1.ad, ?_, f1.trans adR_f⟩
      · have g1' : cal (d + 5) 123 [.ref 127, .int (nI 1), .int (-99), .int (nI 99)] M R = some (.inl (some (.int (iI v))), N, R) := by
          rw [show (-99 : Int32) = iI (-99) by decide +kernel]; exact g1
        rw [q130_10]
        simp (disch := first | assumption | exact nar_b0 | exact nar_b1 | exact nar_b | exact Or.inl rfl | exact Or.inr rfl | exact zin_t (by omega) (by omega) | exact Nat.le_of_ble_eq_true rfl | (rw [nI_cl (by omega)]; assumption) | omega) only [↓reduceIte, reduceCtorEq, not_true_eq_false, not_false_eq_true, q130_0, q130_1, q130_4, q130_7, q130_8, q130_9, q130_11, q130_12, q130_15, q130_16, q130_17, q130_20, q130_23, q130_26, q130_29, q130_30, q130_33, q130_34, q130_35, q130_38, q130_39, q130_42, q130_45, q130_46, q130_47, q130_48, q130_50, q130_52, q130_55, q130_58, kl_int, kl_ref, kl_tok, cS_nil, cS_int, cS_ref, cS_long, tl_some, tl_none, List.cons_append, List.nil_append, nI_add, nI_ltb, nI_leb, nI_eqb, nI_cl, zin_nI, z, g1', g2, zk0_inl]
      · unfold adR; rw [up2_s (by decide), up2_ne (by decide)]; exact h15
    · obtain ⟨x, M1, g1, g2, g3⟩ := q2 k' p h
      have g4 := adds_no (d := d + 5) (x := x) hS g2.1
      refine ⟨M1, ?_, g2, g3.2 _ (by decide) (by decide) (by decide) (by decide), g3.cf⟩
      have g1' : cal (d + 5) 123 [.ref 127, .int (nI 1), .int (-99), .int (nI 99)] M R = some (.inl (some (.int x)), M1, R) := by
        rw [show (-99 : Int32) = iI (-99) by decide +kernel]; exact g1
      rw [q130_10]
      simp (disch := first | assumption | exact nar_b0 | exact nar_b1 | exact nar_b | exact Or.inl rfl | exact Or.inr rfl | exact zin_t (by omega) (by omega) | exact Nat.le_of_ble_eq_true rfl | (rw [nI_cl (by omega)]; assumption) | omega) only [↓reduceIte, reduceCtorEq, not_true_eq_false, not_false_eq_true, q130_0, q130_1, q130_4, q130_7, q130_8, q130_9, q130_11, q130_12, q130_15, q130_16, q130_17, q130_20, q130_23, q130_26, q130_29, q130_30, q130_33, q130_34, q130_35, q130_38, q130_39, q130_42, q130_45, q130_46, q130_47, q130_48, q130_50, q130_52, q130_55, q130_58, kl_int, kl_ref, kl_tok, cS_nil, cS_int, cS_ref, cS_long, tl_some, tl_none, List.cons_append, List.nil_append, nI_add, nI_ltb, nI_leb, nI_eqb, nI_cl, zin_nI, z, g1', g4, zk0_inl]
  | succ m ih =>
    intro k i M hs hk hF hP hC hl
    have hn := hP.1.2.2.1
    have hsn := hP.2.1
    have z : ¬ 5 ≤ k := by omega
    have hf := field_ (d := d + 5) (M := M) (R := R) (k := k) (by omega)
    have hw := passesWord_ (d := d) (a := 1000001 + (12 + k)) (j := 12 + k) rfl (by omega) hS hF hP
    rw [hs] at hw
    unfold pOpF
    cases c : wm b n s (12 + k)
    · rw [c] at hw
      have hle := sk_le (b := b) hsn
      have hge := sk_ge b n i
      rw [hs] at hle hge
      have hw' : cal (d + 5) 120 [.ref 127, .ref (1000001 + (12 + k))] M R = some (.inl (some (.int (nI 0))), hrm M s, R) := by rw [hw]; simp only [Bool.false_eq_true, if_false]; rfl
      have hx : exe (d + 6) 130 10 [.ref 127, .int (nI k)] [] M R = exe (d + 6) 130 10 [.ref 127, .int (nI (k + 1))] [] (hrm M s) R := by
        rw [q130_10]
        simp (disch := first | assumption | exact nar_b0 | exact nar_b1 | exact nar_b | exact Or.inl rfl | exact Or.inr rfl | exact zin_t (by omega) (by omega) | exact Nat.le_of_ble_eq_true rfl | (rw [nI_cl (by omega)]; assumption) | omega) only [↓reduceIte, reduceCtorEq, not_true_eq_false, not_false_eq_true, q130_0, q130_1, q130_4, q130_7, q130_8, q130_9, q130_11, q130_12, q130_15, q130_16, q130_17, q130_20, q130_23, q130_26, q130_29, q130_30, q130_33, q130_34, q130_35, q130_38, q130_39, q130_42, q130_45, q130_46, q130_47, q130_48, q130_50, q130_52, q130_55, q130_58, kl_int, kl_ref, kl_tok, cS_nil, cS_int, cS_ref, cS_long, tl_some, tl_none, List.cons_append, List.nil_append, nI_add, nI_ltb, nI_leb, nI_eqb, nI_cl, zin_nI, z, hf, hw', zk0_inl]
      rw [hx]
      simp only [Bool.false_eq_true, if_false]
      have hF2 : FO (hrm M s) := fun j hj => by rw [hrm_c (by omega), hrm_c (by omega)]; exact hF j hj
      obtain ⟨u1, u2⟩ := ih (k + 1) s (hrm M s) (by rw [← hs]; exact sk_sk hsn) (by omega) hF2 (hP.mv hle) (hC.fr (hrm_s (by decide)) (hrm_c (by decide))) (by omega)
      refine ⟨fun v i' h => ?_, fun k' p h => ?_⟩
      · obtain ⟨M', a1, a2, a3, a4, a5⟩ := u1 v i' h
        exact ⟨M', a1, a2, a3, by rw [a4, hrm_s (by decide)], RNf.hr.cf.trans a5⟩
      · obtain ⟨M', a1, a2, a4, a5⟩ := u2 k' p h
        exact ⟨M', a1, a2, by rw [a4, hrm_s (by decide)], RNf.hr.cf.trans a5⟩
    · rw [c] at hw
      have hle := wm_le c
      have hw' : cal (d + 5) 120 [.ref 127, .ref (1000001 + (12 + k))] M R = some (.inl (some (.int (nI 1))), hrm M (s + wln (12 + k)), R) := by rw [hw]; simp only [if_true]; rfl
      have hP1 := hP.mv hle
      have hC1 : CdM (hrm M (s + wln (12 + k))) C := hC.fr (hrm_s (by decide)) (hrm_c (by decide))
      have g2 := adds_ (d := d + 5) (x := 1000 + (k : Int)) hS hP1.2.2 hC1 (by omega)
      have e2 : iI (1000 + (k : Int)) = nI (1000 + k) := by rw [nI_iI]; congr 1
      rw [e2] at g2
      simp only [if_true]
      refine ⟨fun v i' h => ?_, fun k' p h => (by cases h)⟩
      cases h
      have ev : opc (100 + (k : Int)) = 1000 + (k : Int) := by unfold opc; rw [if_neg (by omega)]; omega
      rw [ev]
      refine ⟨adR (hrm M (s + wln (12 + k))) C.length (1000 + (k : Int)), ?_, adR_cx hP1, hC1.ad, ?_, (RNf.hr.cf).trans adR_f⟩
      · rw [q130_10]
        simp (disch := first | assumption | exact nar_b0 | exact nar_b1 | exact nar_b | exact Or.inl rfl | exact Or.inr rfl | exact zin_t (by omega) (by omega) | exact Nat.le_of_ble_eq_true rfl | (rw [nI_cl (by omega)]; assumption) | omega) only [↓reduceIte, reduceCtorEq, not_true_eq_false, not_false_eq_true, q130_0, q130_1, q130_4, q130_7, q130_8, q130_9, q130_11, q130_12, q130_15, q130_16, q130_17, q130_20, q130_23, q130_26, q130_29, q130_30, q130_33, q130_34, q130_35, q130_38, q130_39, q130_42, q130_45, q130_46, q130_47, q130_48, q130_50, q130_52, q130_55, q130_58, kl_int, kl_ref, kl_tok, cS_nil, cS_int, cS_ref, cS_long, tl_some, tl_none, List.cons_append, List.nil_append, nI_add, nI_ltb, nI_leb, nI_eqb, nI_cl, zin_nI, z, hf, hw', zk0_inl, b2i_ne1, g2]
      · unfold adR; rw [up2_s (by decide), up2_ne (by decide), hrm_s (by decide)]
theorem quantity_no {k p : Nat} (hS : Sh R) (h : RFt M k p) : cal d 130 [.ref 127] M R = some (.inl none, M, R) := by
  obtain ⟨nN, k127, k128, l128, k129, l129, k130, l130, k131, l131, k132, l132, k133, l133, k134, l134, k135, l135, k136, l136, k137, l137, k138, l138, k139, l139, k140, l140, k141, l141, k142, l142, k143, l143, k144, l144, k145, l145, k146, l146, f127_1, f127_2, f127_3, f127_4, f127_6, f127_7, f127_17, f127_18, f127_19, f127_22, f127_24, f127_25, f127_26, f127_29, f127_30, f127_31, f127_32, f127_33⟩ := modF hS
  obtain ⟨h0, h1, h2⟩ := h
  have z : ¬ k ≤ 0 := by omega
  rw [e130]
  simp (disch := first | assumption | exact nar_b0 | exact nar_b1 | exact nar_b | exact Or.inl rfl | exact Or.inr rfl | exact zin_t (by omega) (by omega) | exact Nat.le_of_ble_eq_true rfl | (rw [nI_cl (by omega)]; assumption) | omega) only [↓reduceIte, reduceCtorEq, not_true_eq_false, not_false_eq_true, q130_0, q130_1, q130_4, q130_7, q130_8, q130_9, q130_11, q130_12, q130_15, q130_16, q130_17, q130_20, q130_23, q130_26, q130_29, q130_30, q130_33, q130_34, q130_35, q130_38, q130_39, q130_42, q130_45, q130_46, q130_47, q130_48, q130_50, q130_52, q130_55, q130_58, kl_int, kl_ref, kl_tok, cS_nil, cS_int, cS_ref, cS_long, tl_some, tl_none, List.cons_append, List.nil_append, nI_add, nI_ltb, nI_leb, nI_eqb, nI_cl, zin_nI, h1, z]
theorem quantity_ (hS : Sh R) (hF : FO M) (hP : RCx M b n i) (hC : CdM M C) (hl : C.length ≤ i) :
    (∀ v i', pOp b n i = .inr (v, i') → ∃ M', cal (d + 6) 130 [.ref 127] M R = some (.inl none, M', R) ∧ RCx M' b n i' ∧ CdM M' (C ++ [opc v]) ∧ M' 127 15 = M 127 15 ∧ RCf M M') ∧
    (∀ k' p, pOp b n i = .inl (k', p) → ∃ M', cal (d + 6) 130 [.ref 127] M R = some (.inl none, M', R) ∧ RFx 500 M' b n k' p ∧ M' 127 15 = M 127 15 ∧ RCf M M') := by
  obtain ⟨nN, k127, k128, l128, k129, l129, k130, l130, k131, l131, k132, l132, k133, l133, k134, l134, k135, l135, k136, l136, k137, l137, k138, l138, k139, l139, k140, l140, k141, l141, k142, l142, k143, l143, k144, l144, k145, l145, k146, l146, f127_1, f127_2, f127_3, f127_4, f127_6, f127_7, f127_17, f127_18, f127_19, f127_22, f127_24, f127_25, f127_26, f127_29, f127_30, f127_31, f127_32, f127_33⟩ := modF hS
  have h12 := hP.2.2
  have h := quan_L (d := d) hS 5 0 i M rfl rfl hF hP hC hl
  rw [pOpF_eq] at h
  have hx : cal (d + 6) 130 [.ref 127] M R = exe (d + 6) 130 10 [.ref 127, .int (nI 0)] [] M R := by
    rw [e130]
    simp (disch := first | assumption | exact nar_b0 | exact nar_b1 | exact nar_b | exact Or.inl rfl | exact Or.inr rfl | exact zin_t (by omega) (by omega) | exact Nat.le_of_ble_eq_true rfl | (rw [nI_cl (by omega)]; assumption) | omega) only [↓reduceIte, reduceCtorEq, not_true_eq_false, not_false_eq_true, q130_0, q130_1, q130_4, q130_7, q130_8, q130_9, q130_11, q130_12, q130_15, q130_16, q130_17, q130_20, q130_23, q130_26, q130_29, q130_30, q130_33, q130_34, q130_35, q130_38, q130_39, q130_42, q130_45, q130_46, q130_47, q130_48, q130_50, q130_52, q130_55, q130_58, kl_int, kl_ref, kl_tok, cS_nil, cS_int, cS_ref, cS_long, tl_some, tl_none, List.cons_append, List.nil_append, nI_add, nI_ltb, nI_leb, nI_eqb, nI_cl, zin_nI, h12, Nat.le_refl]
  rw [hx]
  exact h
end Rf
