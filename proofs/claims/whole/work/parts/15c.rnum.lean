-- the reference reads numbers
theorem minw {v x : Nat} (h1 : 48 ≤ x) (h2 : x ≤ 57) : (if 100000 < 10 * min v 100000 + x - 48 then nI 100000 else nI (10 * min v 100000 + x - 48)) = nI (min (10 * v + (x - 48)) 100000) := by
  by_cases c : 100000 < 10 * min v 100000 + x - 48
  · rw [if_pos c]
    congr 1
    omega
  · rw [if_neg c]
    congr 1
    omega
section Rc
variable {d n i : Nat} {M : ZM} {R : ZH} {b : Nat → Int32}
theorem rdg_L {sv lv hv : Value} {mi : Int32} (hS : Sh R) : ∀ (m i v : Nat) (M : ZM), n - i = m → RCx M b n i → exe (d + 1) 123 70 [.ref 127, sv, lv, hv, .int mi, .int (nI (min v 100000))] [] M R = exe (d + 1) 123 126 [.ref 127, sv, lv, hv, .int mi, .int (nI (min (dgF b m i v).2 100000))] [] (hrm M (dgF b m i v).1) R := by
  obtain ⟨nN, k127, k128, l128, k129, l129, k130, l130, k131, l131, k132, l132, k133, l133, k134, l134, k135, l135, k136, l136, k137, l137, k138, l138, k139, l139, k140, l140, k141, l141, k142, l142, k143, l143, k144, l144, k145, l145, k146, l146, f127_1, f127_2, f127_3, f127_4, f127_6, f127_7, f127_17, f127_18, f127_19, f127_22, f127_24, f127_25, f127_26, f127_29, f127_30, f127_31, f127_32, f127_33⟩ := modF hS
  intro m
  induction m with
  | zero =>
    intro i v M hm hP
    have h10 := hP.1.2.1
    have h12 := hP.2.2
    have hn := hP.1.2.2.1
    have e : dgF b 0 i v = (i, v) := rfl
    have hf := isFigure_ (d := d) (k := i) hS hP.1 (by omega)
    rw [decide_eq_false (by omega)] at hf
    rw [e]
    show _ = exe (d + 1) 123 126 [.ref 127, sv, lv, hv, .int mi, .int (nI (min v 100000))] [] (hrm M i) R
    rw [hrm_self h10, q123_70]
    simp (disch := first | assumption | exact nar_b0 | exact nar_b1 | exact nar_b | exact Or.inl rfl | exact Or.inr rfl | exact zin_t (by omega) (by omega) | exact Nat.le_of_ble_eq_true rfl | (rw [nI_cl (by omega)]; assumption) | omega) only [↓reduceIte, reduceCtorEq, not_true_eq_false, not_false_eq_true, q123_0, q123_1, q123_4i, q123_4a, q123_5, q123_6, q123_9, q123_12, q123_13, q123_14, q123_15, q123_16, q123_19, q123_22, q123_23, q123_26, q123_27, q123_29, q123_32, q123_35, q123_36, q123_39, q123_40, q123_42, q123_43, q123_46i, q123_46a, q123_47, q123_48, q123_49, q123_52, q123_55, q123_58, q123_59, q123_60, q123_61, q123_64, q123_67, q123_68, q123_71, q123_74, q123_77, q123_78, q123_79, q123_82, q123_85, q123_88, q123_90, q123_92, q123_93, q123_94, q123_97, q123_98, q123_101, q123_102, q123_103, q123_105, q123_106, q123_108, q123_111, q123_113, q123_114i, q123_114a, q123_115, q123_118, q123_119, q123_120, q123_123, q123_128, q123_131, q123_133, q123_134, q123_137, q123_139, q123_141, q123_143, q123_144, q123_145, q123_146, q123_147, q123_148, q123_151, q123_154, q123_155, q123_156, q123_157, q123_160, q123_163, q123_165, kl_int, kl_ref, kl_tok, cS_nil, cS_int, cS_ref, cS_long, tl_some, tl_none, List.cons_append, List.nil_append, nI_add, nI_ltb, nI_leb, nI_eqb, nI_cl, zin_nI, h10, h12, hf, zk0_inl, b2i_f]
  | succ m ih =>
    intro i v M hm hP
    have h10 := hP.1.2.1
    have h12 := hP.2.2
    have hn := hP.1.2.2.1
    have hb := hP.1.2.2.2 i (by omega)
    have hf := isFigure_ (d := d) (k := i) hS hP.1 (by omega)
    have y1 : (nI 1 = nI 0) = False := by decide +kernel
    rw [dgF]
    by_cases c : nI 48 ≤ b i ∧ b i ≤ nI 57
    · rw [if_pos c]
      rw [decide_eq_true ⟨by omega, c⟩] at hf
      obtain ⟨x, hx, x1, x2⟩ := dig c
      have g1 := ih (i + 1) (10 * v + ((b i).toNatClampNeg - 48)) (hrm M (i + 1)) (by omega) (hP.mv (by omega))
      rw [hrm_at] at g1
      rw [← g1]
      have hcl : (b i).toNatClampNeg = x := by rw [hx, nI_cl (by omega)]
      rw [hcl]
      have hm := minw (v := v) x1 x2
      have hsub : nI (10 * min v 100000 + x) - nI 48 = nI (10 * min v 100000 + x - 48) := nI_subn (by omega)
      rw [hx] at hb
      rw [q123_70]
      simp (disch := first | assumption | exact nar_b0 | exact nar_b1 | exact nar_b | exact Or.inl rfl | exact Or.inr rfl | exact zin_t (by omega) (by omega) | exact Nat.le_of_ble_eq_true rfl | (rw [nI_cl (by omega)]; assumption) | omega) only [↓reduceIte, reduceCtorEq, not_true_eq_false, not_false_eq_true, q123_0, q123_1, q123_4i, q123_4a, q123_5, q123_6, q123_9, q123_12, q123_13, q123_14, q123_15, q123_16, q123_19, q123_22, q123_23, q123_26, q123_27, q123_29, q123_32, q123_35, q123_36, q123_39, q123_40, q123_42, q123_43, q123_46i, q123_46a, q123_47, q123_48, q123_49, q123_52, q123_55, q123_58, q123_59, q123_60, q123_61, q123_64, q123_67, q123_68, q123_71, q123_74, q123_77, q123_78, q123_79, q123_82, q123_85, q123_88, q123_90, q123_92, q123_93, q123_94, q123_97, q123_98, q123_101, q123_102, q123_103, q123_105, q123_106, q123_108, q123_111, q123_113, q123_114i, q123_114a, q123_115, q123_118, q123_119, q123_120, q123_123, q123_128, q123_131, q123_133, q123_134, q123_137, q123_139, q123_141, q123_143, q123_144, q123_145, q123_146, q123_147, q123_148, q123_151, q123_154, q123_155, q123_156, q123_157, q123_160, q123_163, q123_165, kl_int, kl_ref, kl_tok, cS_nil, cS_int, cS_ref, cS_long, tl_some, tl_none, List.cons_append, List.nil_append, nI_add, nI_ltb, nI_leb, nI_eqb, nI_cl, zin_nI, h10, h12, hf, zk0_inl, b2i_t, y1, hb, nI_mul, hsub, hm]
      rfl
    · rw [if_neg c]
      rw [decide_eq_false (fun e => c e.2)] at hf
      show _ = exe (d + 1) 123 126 [.ref 127, sv, lv, hv, .int mi, .int (nI (min v 100000))] [] (hrm M i) R
      rw [hrm_self h10, q123_70]
      simp (disch := first | assumption | exact nar_b0 | exact nar_b1 | exact nar_b | exact Or.inl rfl | exact Or.inr rfl | exact zin_t (by omega) (by omega) | exact Nat.le_of_ble_eq_true rfl | (rw [nI_cl (by omega)]; assumption) | omega) only [↓reduceIte, reduceCtorEq, not_true_eq_false, not_false_eq_true, q123_0, q123_1, q123_4i, q123_4a, q123_5, q123_6, q123_9, q123_12, q123_13, q123_14, q123_15, q123_16, q123_19, q123_22, q123_23, q123_26, q123_27, q123_29, q123_32, q123_35, q123_36, q123_39, q123_40, q123_42, q123_43, q123_46i, q123_46a, q123_47, q123_48, q123_49, q123_52, q123_55, q123_58, q123_59, q123_60, q123_61, q123_64, q123_67, q123_68, q123_71, q123_74, q123_77, q123_78, q123_79, q123_82, q123_85, q123_88, q123_90, q123_92, q123_93, q123_94, q123_97, q123_98, q123_101, q123_102, q123_103, q123_105, q123_106, q123_108, q123_111, q123_113, q123_114i, q123_114a, q123_115, q123_118, q123_119, q123_120, q123_123, q123_128, q123_131, q123_133, q123_134, q123_137, q123_139, q123_141, q123_143, q123_144, q123_145, q123_146, q123_147, q123_148, q123_151, q123_154, q123_155, q123_156, q123_157, q123_160, q123_163, q123_165, kl_int, kl_ref, kl_tok, cS_nil, cS_int, cS_ref, cS_long, tl_some, tl_none, List.cons_append, List.nil_append, nI_add, nI_ltb, nI_leb, nI_eqb, nI_cl, zin_nI, h10, h12, hf, zk0_inl, b2i_f]
def bgM (M : ZM) (s : Nat) : ZM := up2 (hrm M s) 127 11 (nI s)
theorem bgM_cx {s : Nat} (hP : RCx M b n i) (hs : s ≤ n) : RCx (bgM M s) b n s := by
  obtain ⟨⟨h1, h2, h3, h4⟩, h5, h6⟩ := hP
  refine ⟨⟨?_, ?_, ⟨h3.1, by omega⟩, ?_⟩, hs, ?_⟩
  · unfold bgM; rw [up2_s (by decide), hrm_s (by decide)]; exact h1
  · unfold bgM; rw [up2_s (by decide)]; exact up2_at
  · intro k hk; unfold bgM; rw [up2_c (by decide), hrm_c (by decide)]; exact h4 k hk
  · unfold bgM; rw [up2_s (by decide), hrm_s (by decide)]; exact h6
/-- up to the figures -/
theorem num_start {sg : Bool} {lo hi : Int32} (hS : Sh R) (hP : RCx M b n i) : cal (d + 2) 123 [.ref 127, .int (b2i sg), .int lo, .int hi] M R = exe (d + 2) 123 47 [.ref 127, .int (b2i sg), .int lo, .int hi, .int (b2i (nMi b n i sg)), tok] [] (hrm (bgM M (sk b n i)) (nG b n i sg)) R := by
  obtain ⟨nN, k127, k128, l128, k129, l129, k130, l130, k131, l131, k132, l132, k133, l133, k134, l134, k135, l135, k136, l136, k137, l137, k138, l138, k139, l139, k140, l140, k141, l141, k142, l142, k143, l143, k144, l144, k145, l145, k146, l146, f127_1, f127_2, f127_3, f127_4, f127_6, f127_7, f127_17, f127_18, f127_19, f127_22, f127_24, f127_25, f127_26, f127_29, f127_30, f127_31, f127_32, f127_33⟩ := modF hS
  have h1 := sign_ (d := d + 1) hS hP.1
  have hle := sk_le (b := b) hP.2.1
  have hn := hP.1.2.2.1
  have h12 : hrm M (sk b n i) 127 12 = nI 0 := by rw [hrm_s (by decide)]; exact hP.2.2
  have h10 : hrm M (sk b n i) 127 10 = nI (sk b n i) := up2_at
  have hB := bgM_cx hP hle
  have hp := passes_ (d := d) (c := nI 45) hS hB
  rw [sk_sk hP.2.1] at hp
  have eB : up2 (hrm M (sk b n i)) 127 11 (nI (sk b n i)) = bgM M (sk b n i) := rfl
  have y1 : (nI 1 = nI 0) = False := by decide +kernel
  rw [e123]
  cases sg
  · have e0 : nMi b n i false = false := rfl
    have e1 : nG b n i false = sk b n i := rfl
    have h2 := sign_ (d := d + 1) hS hB.1
    rw [sk_sk hP.2.1] at h2
    rw [e0, e1]
    simp (disch := first | assumption | exact nar_b0 | exact nar_b1 | exact nar_b | exact Or.inl rfl | exact Or.inr rfl | exact zin_t (by omega) (by omega) | exact Nat.le_of_ble_eq_true rfl | (rw [nI_cl (by omega)]; assumption) | omega) only [↓reduceIte, reduceCtorEq, not_true_eq_false, not_false_eq_true, q123_0, q123_1, q123_4i, q123_4a, q123_5, q123_6, q123_9, q123_12, q123_13, q123_14, q123_15, q123_16, q123_19, q123_22, q123_23, q123_26, q123_27, q123_29, q123_32, q123_35, q123_36, q123_39, q123_40, q123_42, q123_43, q123_46i, q123_46a, q123_48, q123_49, q123_52, q123_55, q123_58, q123_59, q123_60, q123_61, q123_64, q123_67, q123_68, q123_71, q123_74, q123_77, q123_78, q123_79, q123_82, q123_85, q123_88, q123_90, q123_92, q123_93, q123_94, q123_97, q123_98, q123_101, q123_102, q123_103, q123_105, q123_106, q123_108, q123_111, q123_113, q123_114i, q123_114a, q123_115, q123_118, q123_119, q123_120, q123_123, q123_126, q123_128, q123_131, q123_133, q123_134, q123_137, q123_139, q123_141, q123_143, q123_144, q123_145, q123_146, q123_147, q123_148, q123_151, q123_154, q123_155, q123_156, q123_157, q123_160, q123_163, q123_165, kl_int, kl_ref, kl_tok, cS_nil, cS_int, cS_ref, cS_long, tl_some, tl_none, List.cons_append, List.nil_append, nI_add, nI_ltb, nI_leb, nI_eqb, nI_cl, zin_nI, h1, h12, h10, zk0_inl, Nat.le_refl, b2i_f, eB, h2]
  · cases c : isH b n (sk b n i) (nI 45)
    · have e0 : nMi b n i true = false := by unfold nMi; rw [c]; rfl
      have e1 : nG b n i true = sk b n i := by unfold nG; rw [e0]; rfl
      rw [c] at hp
      have hp' : cal (d + 1) 121 [.ref 127, .int (nI 45)] (bgM M (sk b n i)) R = some (.inl (some (.int (nI 0))), hrm (bgM M (sk b n i)) (sk b n i), R) := hp
      have h2 := sign_ (d := d + 1) (M := hrm (bgM M (sk b n i)) (sk b n i)) hS (hB.mv hle).1
      rw [sk_sk hP.2.1, hrm_at] at h2
      rw [e0, e1]
      simp (disch := first | assumption | exact nar_b0 | exact nar_b1 | exact nar_b | exact Or.inl rfl | exact Or.inr rfl | exact zin_t (by omega) (by omega) | exact Nat.le_of_ble_eq_true rfl | (rw [nI_cl (by omega)]; assumption) | omega) only [↓reduceIte, reduceCtorEq, not_true_eq_false, not_false_eq_true, q123_0, q123_1, q123_4i, q123_4a, q123_5, q123_6, q123_9, q123_12, q123_13, q123_14, q123_15, q123_16, q123_19, q123_22, q123_23, q123_26, q123_27, q123_29, q123_32, q123_35, q123_36, q123_39, q123_40, q123_42, q123_43, q123_46i, q123_46a, q123_48, q123_49, q123_52, q123_55, q123_58, q123_59, q123_60, q123_61, q123_64, q123_67, q123_68, q123_71, q123_74, q123_77, q123_78, q123_79, q123_82, q123_85, q123_88, q123_90, q123_92, q123_93, q123_94, q123_97, q123_98, q123_101, q123_102, q123_103, q123_105, q123_106, q123_108, q123_111, q123_113, q123_114i, q123_114a, q123_115, q123_118, q123_119, q123_120, q123_123, q123_126, q123_128, q123_131, q123_133, q123_134, q123_137, q123_139, q123_141, q123_143, q123_144, q123_145, q123_146, q123_147, q123_148, q123_151, q123_154, q123_155, q123_156, q123_157, q123_160, q123_163, q123_165, kl_int, kl_ref, kl_tok, cS_nil, cS_int, cS_ref, cS_long, tl_some, tl_none, List.cons_append, List.nil_append, nI_add, nI_ltb, nI_leb, nI_eqb, nI_cl, zin_nI, h1, h12, h10, zk0_inl, Nat.le_refl, b2i_t, y1, eB, hp', h2]
      rfl
    · have e0 : nMi b n i true = true := by unfold nMi; rw [c]; rfl
      have e1 : nG b n i true = sk b n (sk b n i + 1) := by unfold nG; rw [e0]; rfl
      have hlt := isH_lt c
      rw [c] at hp
      have hp' : cal (d + 1) 121 [.ref 127, .int (nI 45)] (bgM M (sk b n i)) R = some (.inl (some (.int (nI 1))), hrm (bgM M (sk b n i)) (sk b n i + 1), R) := hp
      have h2 := sign_ (d := d + 1) (M := hrm (bgM M (sk b n i)) (sk b n i + 1)) hS (hB.mv (by omega)).1
      rw [hrm_at] at h2
      rw [e0, e1]
      simp (disch := first | assumption | exact nar_b0 | exact nar_b1 | exact nar_b | exact Or.inl rfl | exact Or.inr rfl | exact zin_t (by omega) (by omega) | exact Nat.le_of_ble_eq_true rfl | (rw [nI_cl (by omega)]; assumption) | omega) only [↓reduceIte, reduceCtorEq, not_true_eq_false, not_false_eq_true, q123_0, q123_1, q123_4i, q123_4a, q123_5, q123_6, q123_9, q123_12, q123_13, q123_14, q123_15, q123_16, q123_19, q123_22, q123_23, q123_26, q123_27, q123_29, q123_32, q123_35, q123_36, q123_39, q123_40, q123_42, q123_43, q123_46i, q123_46a, q123_48, q123_49, q123_52, q123_55, q123_58, q123_59, q123_60, q123_61, q123_64, q123_67, q123_68, q123_71, q123_74, q123_77, q123_78, q123_79, q123_82, q123_85, q123_88, q123_90, q123_92, q123_93, q123_94, q123_97, q123_98, q123_101, q123_102, q123_103, q123_105, q123_106, q123_108, q123_111, q123_113, q123_114i, q123_114a, q123_115, q123_118, q123_119, q123_120, q123_123, q123_126, q123_128, q123_131, q123_133, q123_134, q123_137, q123_139, q123_141, q123_143, q123_144, q123_145, q123_146, q123_147, q123_148, q123_151, q123_154, q123_155, q123_156, q123_157, q123_160, q123_163, q123_165, kl_int, kl_ref, kl_tok, cS_nil, cS_int, cS_ref, cS_long, tl_some, tl_none, List.cons_append, List.nil_append, nI_add, nI_ltb, nI_leb, nI_eqb, nI_cl, zin_nI, h1, h12, h10, zk0_inl, Nat.le_refl, b2i_t, y1, eB, hp', h2]
/-- what reading changes -/
def RNf (M M' : ZM) : Prop := (∀ c, c ≠ 127 → M' c = M c) ∧ ∀ q, q ≠ 10 → q ≠ 11 → q ≠ 12 → q ≠ 13 → M' 127 q = M 127 q
theorem RNf.refl : RNf M M := ⟨fun _ _ => rfl, fun _ _ _ _ _ => rfl⟩
theorem RNf.trans {M1 M2 : ZM} (h1 : RNf M M1) (h2 : RNf M1 M2) : RNf M M2 := ⟨fun c h => by rw [h2.1 c h, h1.1 c h], fun q a b c e => by rw [h2.2 q a b c e, h1.2 q a b c e]⟩
theorem RNf.hr {i : Nat} : RNf M (hrm M i) := ⟨fun c h => hrm_c h, fun q a _ _ _ => hrm_s a⟩
theorem RNf.bg {i : Nat} : RNf M (bgM M i) := RNf.trans RNf.hr ⟨fun c h => up2_ne h, fun q _ a _ _ => up2_s a⟩
theorem RNf.wr {x y : Int32} : RNf M (up2 (up2 M 127 12 x) 127 13 y) := ⟨fun c h => by rw [up2_ne h, up2_ne h], fun q _ _ a b => by rw [up2_s b, up2_s a]⟩
/-- a fault stands, and where the reader is -/
def RFx (u : Nat) (M : ZM) (b : Nat → Int32) (n k p : Nat) : Prop := RFt M k p ∧ ∃ i, i ≤ u ∧ RB M b n i
theorem RFx.wr {k p u : Nat} (hP : RB M b n i) (hi : i ≤ u) (hk : 1 ≤ k ∧ k ≤ 5) : RFx u (up2 (up2 M 127 12 (nI k)) 127 13 (nI p)) b n k p := by
  obtain ⟨h1, h2, h3, h4⟩ := hP
  refine ⟨⟨hk, by rw [up2_s (by decide), up2_at], up2_at⟩, i, hi, ?_, ?_, h3, ?_⟩
  · rw [up2_s (by decide), up2_s (by decide)]; exact h1
  · rw [up2_s (by decide), up2_s (by decide)]; exact h2
  · intro k hk; rw [up2_c (by decide), up2_c (by decide)]; exact h4 k hk
theorem number_no {k p : Nat} {x y z : Int32} (hS : Sh R) (h : RFt M k p) (hP : RB M b n i) : cal (d + 1) 123 [.ref 127, .int x, .int y, .int z] M R = some (.inl (some (.int (nI 0))), hrm M (sk b n i), R) := by
  obtain ⟨nN, k127, k128, l128, k129, l129, k130, l130, k131, l131, k132, l132, k133, l133, k134, l134, k135, l135, k136, l136, k137, l137, k138, l138, k139, l139, k140, l140, k141, l141, k142, l142, k143, l143, k144, l144, k145, l145, k146, l146, f127_1, f127_2, f127_3, f127_4, f127_6, f127_7, f127_17, f127_18, f127_19, f127_22, f127_24, f127_25, f127_26, f127_29, f127_30, f127_31, f127_32, f127_33⟩ := modF hS
  have h1 := sign_ (d := d) hS hP
  obtain ⟨h0, h2, h3⟩ := h
  have h12 : hrm M (sk b n i) 127 12 = nI k := by rw [hrm_s (by decide)]; exact h2
  have w : ¬ k ≤ 0 := by omega
  rw [e123]
  simp (disch := first | assumption | exact nar_b0 | exact nar_b1 | exact nar_b | exact Or.inl rfl | exact Or.inr rfl | exact zin_t (by omega) (by omega) | exact Nat.le_of_ble_eq_true rfl | (rw [nI_cl (by omega)]; assumption) | omega) only [↓reduceIte, reduceCtorEq, not_true_eq_false, not_false_eq_true, q123_0, q123_1, q123_4i, q123_4a, q123_5, q123_6, q123_9, q123_12, q123_13, q123_14, q123_15, q123_16, q123_19, q123_22, q123_23, q123_26, q123_27, q123_29, q123_32, q123_35, q123_36, q123_39, q123_40, q123_42, q123_43, q123_46i, q123_46a, q123_47, q123_48, q123_49, q123_52, q123_55, q123_58, q123_59, q123_60, q123_61, q123_64, q123_67, q123_68, q123_71, q123_74, q123_77, q123_78, q123_79, q123_82, q123_85, q123_88, q123_90, q123_92, q123_93, q123_94, q123_97, q123_98, q123_101, q123_102, q123_103, q123_105, q123_106, q123_108, q123_111, q123_113, q123_114i, q123_114a, q123_115, q123_118, q123_119, q123_120, q123_123, q123_126, q123_128, q123_131, q123_133, q123_134, q123_137, q123_139, q123_141, q123_143, q123_144, q123_145, q123_146, q123_147, q123_148, q123_151, q123_154, q123_155, q123_156, q123_157, q123_160, q123_163, q123_165, kl_int, kl_ref, kl_tok, cS_nil, cS_int, cS_ref, cS_long, tl_some, tl_none, List.cons_append, List.nil_append, nI_add, nI_ltb, nI_leb, nI_eqb, nI_cl, zin_nI, h1, zk0_inl, h12, w]
end Rc
