-- the reference: part
section Rk
variable {d n i : Nat} {M : ZM} {R : ZH} {b : Nat → Int32} {C : List Int}
theorem RFx.u15 {u k p : Nat} {v : Int32} (h : RFx u M b n k p) : RFx u (up2 M 127 15 v) b n k p := by
  obtain ⟨⟨x0, x1, x2⟩, j, hj, h1, h2, h3, h4⟩ := h
  refine ⟨⟨x0, by rw [up2_s (by decide)]; exact x1, by rw [up2_s (by decide)]; exact x2⟩, j, hj, by rw [up2_s (by decide)]; exact h1, by rw [up2_s (by decide)]; exact h2, h3, fun k hk => by rw [up2_c (by decide)]; exact h4 k hk⟩
theorem RCf.u15 {v : Int32} : RCf M (up2 M 127 15 v) := ⟨fun c a _ => up2_ne a, fun q _ _ _ _ e _ => up2_s e⟩
theorem RCx.u15 {v : Int32} (h : RCx M b n i) : RCx (up2 M 127 15 v) b n i := by
  obtain ⟨⟨h1, h2, h3, h4⟩, h5, h6⟩ := h
  exact ⟨⟨by rw [up2_s (by decide)]; exact h1, by rw [up2_s (by decide)]; exact h2, h3, fun k hk => by rw [up2_c (by decide)]; exact h4 k hk⟩, h5, by rw [up2_s (by decide)]; exact h6⟩
/-- no 'not', no bracket -/
theorem part_c (hS : Sh R) (hF : FO M) (hP : RCx M b n i) (hC : CdM M C) (hl : C.length ≤ i) (c1 : wm b n (sk b n i) 11 = false) (c2 : isH b n (sk b n i) (nI 40) = false) : RdO R b n (cal (d + 7) 129 [.ref 127] M R) M i C (pCmp b n (sk b n i)) := by
  obtain ⟨nN, k127, k128, l128, k129, l129, k130, l130, k131, l131, k132, l132, k133, l133, k134, l134, k135, l135, k136, l136, k137, l137, k138, l138, k139, l139, k140, l140, k141, l141, k142, l142, k143, l143, k144, l144, k145, l145, k146, l146, f127_1, f127_2, f127_3, f127_4, f127_6, f127_7, f127_17, f127_18, f127_19, f127_22, f127_24, f127_25, f127_26, f127_29, f127_30, f127_31, f127_32, f127_33⟩ := modF hS
  have hn := hP.1.2.2.1
  have h12 := hP.2.2
  have hge := sk_ge b n i
  have hle := sk_le (b := b) hP.2.1
  have hh := isHere_ (d := d + 2) (a := 1000012) (j := 11) rfl (by decide) hS hF hP.1
  rw [c1] at hh
  have hh' : cal (d + 6) 119 [.ref 127, .ref 1000012] M R = some (.inl (some (.int (nI 0))), hrm M (sk b n i), R) := hh
  have hP1 := hP.mv hle
  have hsg := sign_ (d := d + 6) hS hP1.1
  rw [sk_sk hP.2.1, hrm_at] at hsg
  have f1 : RCf M (hrm M (sk b n i)) := RNf.hr.cf
  have hC1 : CdM (hrm M (sk b n i)) C := hC.fr (hrm_s (by decide)) (hrm_c (by decide))
  have h15 : hrm M (sk b n i) 127 15 = M 127 15 := hrm_s (by decide)
  have hc := cmp_ (d := d) (v := tok) hS (hF.rf f1) hP1 hC1 (by omega)
  have hx : cal (d + 7) 129 [.ref 127] M R = exe (d + 7) 129 98 [.ref 127, tok] [] (hrm M (sk b n i)) R := by
    have z : ¬ chr b n (sk b n i) = nI 40 := by
      intro e
      by_cases q : sk b n i < n
      · rw [show chr b n (sk b n i) = b (sk b n i) from if_pos q] at e
        rw [show isH b n (sk b n i) (nI 40) = true from decide_eq_true ⟨q, e⟩] at c2
        cases c2
      · rw [show chr b n (sk b n i) = nI 0 from if_neg q] at e
        exact absurd e (by decide +kernel)
    rw [e129]
    simp (disch := first | assumption | exact nar_b0 | exact nar_b1 | exact nar_b | exact Or.inl rfl | exact Or.inr rfl | exact zin_t (by omega) (by omega) | exact Nat.le_of_ble_eq_true rfl | (rw [nI_cl (by omega)]; assumption) | omega) only [↓reduceIte, reduceCtorEq, not_true_eq_false, not_false_eq_true, q129_0, q129_1, q129_4, q129_7, q129_8, q129_9, q129_11, q129_14, q129_17, q129_18, q129_19, q129_22, q129_25, q129_26, q129_27, q129_30, q129_31i, q129_31a, q129_32, q129_35, q129_36, q129_37, q129_40, q129_41, q129_44, q129_47, q129_48, q129_49, q129_52, q129_54, q129_57, q129_58, q129_61, q129_62, q129_65, q129_68, q129_69, q129_70, q129_73, q129_76, q129_77, q129_78, q129_81, q129_82, q129_84, q129_87, q129_88i, q129_88a, q129_89, q129_92, q129_93, q129_94, q129_97, q129_99, q129_102, q129_103, q129_106, q129_109, q129_110, q129_113, q129_116, q129_117, q129_118, q129_119, q129_122, q129_125, q129_126, q129_129, q129_130, q129_133, q129_136, q129_137, q129_139, q129_142, q129_143, q129_145, q129_148, q129_149, q129_151, q129_154, q129_155, q129_156, q129_157, q129_160, q129_163, q129_164i, q129_164a, q129_165, q129_168, q129_169, q129_170, q129_173, q129_174, q129_177, q129_178, q129_181, q129_182, q129_183, q129_186, kl_int, kl_ref, kl_tok, cS_nil, cS_int, cS_ref, cS_long, tl_some, tl_none, List.cons_append, List.nil_append, nI_add, nI_ltb, nI_leb, nI_eqb, nI_cl, zin_nI, h12, Nat.le_refl, hh', hsg, zk0_inl, z]
  rw [hx]
  obtain ⟨r1, r2⟩ := hc
  refine ⟨fun st i' h => ?_, fun k p h => ?_⟩
  · obtain ⟨⟨x1, x2, x3⟩, M', a1, a2, a3, a4, a5⟩ := r1 st i' h
    exact ⟨⟨by omega, x2, by omega⟩, M', a1, a2, a3, by rw [a4, h15], f1.trans a5⟩
  · obtain ⟨M', a1, a2, a3⟩ := r2 k p h
    exact ⟨M', a1, a2, f1.trans a3⟩
end Rk
