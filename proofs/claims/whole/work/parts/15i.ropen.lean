-- the reference opens
section Ri
variable {d n i : Nat} {M : ZM} {R : ZH} {b : Nat → Int32} {C : List Int}
def opM (M : ZM) (o h : Nat) : ZM := up2 (up2 M 127 15 (nI o)) 127 10 (nI h)
theorem opM_f {o h : Nat} : RCf M (opM M o h) := ⟨fun c a _ => by unfold opM; rw [up2_ne a, up2_ne a], fun q a _ _ _ e _ => by unfold opM; rw [up2_s a, up2_s e]⟩
theorem opM_s {o h q : Nat} (h1 : q ≠ 10) (h2 : q ≠ 15) : opM M o h 127 q = M 127 q := by unfold opM; rw [up2_s h1, up2_s h2]
theorem opM_c {o h c : Nat} (h1 : c ≠ 127) : opM M o h c = M c := by unfold opM; rw [up2_ne h1, up2_ne h1]
theorem opM_rb {o h : Nat} (hP : RB M b n i) (hh : h ≤ 600) : RB (opM M o h) b n h := by
  obtain ⟨h1, h2, h3, h4⟩ := hP
  refine ⟨by rw [opM_s (by decide) (by decide)]; exact h1, up2_at, ⟨h3.1, hh⟩, fun k hk => ?_⟩
  rw [opM_c (by decide)]
  exact h4 k hk
theorem opM_cx {o h : Nat} (hP : RCx M b n i) (hh : h ≤ n) : RCx (opM M o h) b n h := ⟨opM_rb hP.1 (by have := hP.1.2.2.1; omega), hh, by rw [opM_s (by decide) (by decide)]; exact hP.2.2⟩
theorem opM_cd {o h : Nat} (hC : CdM M C) : CdM (opM M o h) C := hC.fr (opM_s (by decide) (by decide)) (opM_c (by decide))
theorem opens_t {o w : Nat} (ho : o < 4) (hw : w ≤ 10) (hS : Sh R) (hP : RCx M b n i) (h15 : M 127 15 = nI o) : cal (d + 1) 128 [.ref 127, .int (nI w)] M R = some (.inl (some (.int (nI 1))), opM M (o + 1) (i + w), R) := by
  obtain ⟨nN, k127, k128, l128, k129, l129, k130, l130, k131, l131, k132, l132, k133, l133, k134, l134, k135, l135, k136, l136, k137, l137, k138, l138, k139, l139, k140, l140, k141, l141, k142, l142, k143, l143, k144, l144, k145, l145, k146, l146, f127_1, f127_2, f127_3, f127_4, f127_6, f127_7, f127_17, f127_18, f127_19, f127_22, f127_24, f127_25, f127_26, f127_29, f127_30, f127_31, f127_32, f127_33⟩ := modF hS
  have h10 := hP.1.2.1
  have h12 := hP.2.2
  have hn := hP.1.2.2.1
  have z : ¬ o = 4 := by omega
  have w10 : up2 M 127 15 (nI (o + 1)) 127 10 = nI i := by rw [up2_s (by decide)]; exact h10
  have w12 : up2 (up2 M 127 15 (nI (o + 1))) 127 10 (nI (i + w)) 127 12 = nI 0 := by rw [up2_s (by decide), up2_s (by decide)]; exact h12
  rw [e128]
  simp (disch := first | assumption | exact nar_b0 | exact nar_b1 | exact nar_b | exact Or.inl rfl | exact Or.inr rfl | exact zin_t (by omega) (by omega) | exact Nat.le_of_ble_eq_true rfl | (rw [nI_cl (by omega)]; assumption) | omega) only [↓reduceIte, reduceCtorEq, not_true_eq_false, not_false_eq_true, q128_0, q128_1, q128_4, q128_5, q128_8, q128_9, q128_10, q128_11, q128_14, q128_17, q128_18i, q128_18a, q128_19, q128_22, q128_23, q128_24, q128_27, q128_28i, q128_28a, q128_29, q128_32, q128_33, q128_34, q128_37, q128_38, q128_41, q128_44, q128_45, q128_48, q128_49, kl_int, kl_ref, kl_tok, cS_nil, cS_int, cS_ref, cS_long, tl_some, tl_none, List.cons_append, List.nil_append, nI_add, nI_ltb, nI_leb, nI_eqb, nI_cl, zin_nI, h15, z, w10, w12]
  rfl
theorem opens_f {w : Nat} (hw : w ≤ 10) (hS : Sh R) (hP : RCx M b n i) (h15 : M 127 15 = nI 4) : ∃ M', cal (d + 1) 128 [.ref 127, .int (nI w)] M R = some (.inl (some (.int (nI 0))), M', R) ∧ RFx 510 M' b n 4 i ∧ RCf M M' := by
  obtain ⟨nN, k127, k128, l128, k129, l129, k130, l130, k131, l131, k132, l132, k133, l133, k134, l134, k135, l135, k136, l136, k137, l137, k138, l138, k139, l139, k140, l140, k141, l141, k142, l142, k143, l143, k144, l144, k145, l145, k146, l146, f127_1, f127_2, f127_3, f127_4, f127_6, f127_7, f127_17, f127_18, f127_19, f127_22, f127_24, f127_25, f127_26, f127_29, f127_30, f127_31, f127_32, f127_33⟩ := modF hS
  have h10 := hP.1.2.1
  have h12 := hP.2.2
  have hn := hP.1.2.2.1
  have hw0 := wrong_ (d := d) (R := R) (k := nI 4) (p := nI i) hS h12
  have hX := RFx.wr (k := 4) (p := i) (u := 500) hP.1 (by have := hP.2.1; omega) (by decide)
  have fW : RCf M (up2 (up2 M 127 12 (nI 4)) 127 13 (nI i)) := RNf.wr.cf
  have k15 : up2 (up2 M 127 12 (nI 4)) 127 13 (nI i) 127 15 = nI 4 := by rw [up2_s (by decide), up2_s (by decide)]; exact h15
  have k10 : up2 (up2 M 127 12 (nI 4)) 127 13 (nI i) 127 10 = nI i := by rw [up2_s (by decide), up2_s (by decide)]; exact h10
  generalize up2 (up2 M 127 12 (nI 4)) 127 13 (nI i) = W at hw0 hX fW k15 k10
  have w12 := hX.1.2.1
  have w10 : up2 W 127 15 (nI 5) 127 10 = nI i := by rw [up2_s (by decide)]; exact k10
  have w12' : up2 (up2 W 127 15 (nI 5)) 127 10 (nI (i + w)) 127 12 = nI 4 := by rw [up2_s (by decide), up2_s (by decide)]; exact w12
  obtain ⟨⟨x0, x1, x2⟩, j, hj, hB⟩ := hX
  have hi := hP.2.1
  have y4 : (nI 4 = nI 0) = False := by decide +kernel
  refine ⟨opM W 5 (i + w), ?_, ⟨⟨x0, by rw [opM_s (by decide) (by decide)]; exact x1, by rw [opM_s (by decide) (by decide)]; exact x2⟩, i + w, by omega, opM_rb hB (by omega)⟩, fW.trans opM_f⟩
  rw [e128]
  simp (disch := first | assumption | exact nar_b0 | exact nar_b1 | exact nar_b | exact Or.inl rfl | exact Or.inr rfl | exact zin_t (by omega) (by omega) | exact Nat.le_of_ble_eq_true rfl | (rw [nI_cl (by omega)]; assumption) | omega) only [↓reduceIte, reduceCtorEq, not_true_eq_false, not_false_eq_true, q128_0, q128_1, q128_4, q128_5, q128_8, q128_9, q128_10, q128_11, q128_14, q128_17, q128_18i, q128_18a, q128_19, q128_22, q128_23, q128_24, q128_27, q128_28i, q128_28a, q128_29, q128_32, q128_33, q128_34, q128_37, q128_38, q128_41, q128_44, q128_45, q128_48, q128_49, kl_int, kl_ref, kl_tok, cS_nil, cS_int, cS_ref, cS_long, tl_some, tl_none, List.cons_append, List.nil_append, nI_add, nI_ltb, nI_leb, nI_eqb, nI_cl, zin_nI, h15, h10, hw0, zk0_inl, k15, w10, w12', y4]
  rfl
end Ri
