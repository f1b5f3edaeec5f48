-- the reference: line, plain, cost, states
theorem may_cnS {f : Nat → Int32} (hW : Wf f) {p : Nat} (hp : p < ln f) : may f (rw f p) = (decide (0 < lf f) && cnS (bn f) (sn f) (stS f) p) := by
  have hw := hW.nums
  unfold may cnS
  congr 1
  rw [stS_bit hp]
  cases hs : stk f (rw f p)
  · have hb : ((UL f).take (sn f)).contains (rw f p) = decide (cnt (stS f) p < sn f) := by
      rw [Bool.eq_iff_iff, box_iff hW, decide_eq_true_iff]
      constructor
      · rintro ⟨q, h1, h2, h3, h4⟩
        rw [rw_inj hW h1 hp h2] at h4
        exact h4
      · intro h
        exact ⟨p, hp, rfl, hs, h⟩
    rw [hb]
    have e : decide (bn f = 0) = decide (bn f ≠ 1) := by
      rw [decide_eq_decide]
      omega
    rw [e]
  · rfl
section Mp
variable {d : Nat} {M : ZM} {R : ZH} {G : GS}
theorem placeOfR_L {x : Int32} {f : Nat → Int32} (hS : Sh R) (hW : Wf f) (h9 : M 129 = f) : ∀ (m k : Nat), k + m = ln f → exe d 156 2 [.ref 127, .int x, .int (nI k)] [] M R = some (.inl (some (.int (oI (plc (fun k => f (92 + k)) x m k)))), M, R) := by
  obtain ⟨nN, k127, k128, l128, k129, l129, k130, l130, k131, l131, k132, l132, k133, l133, k134, l134, k135, l135, k136, l136, k137, l137, k138, l138, k139, l139, k140, l140, k141, l141, k142, l142, k143, l143, k144, l144, k145, l145, k146, l146, f127_1, f127_2, f127_3, f127_4, f127_6, f127_7, f127_17, f127_18, f127_19, f127_22, f127_24, f127_25, f127_26, f127_29, f127_30, f127_31, f127_32, f127_33⟩ := modF hS
  have hw := hW.nums
  have h7 : f 7 = nI (ln f) := hW.1.2.2.2.2.2.2.2.1
  intro m
  induction m with
  | zero =>
    intro k hk
    have z1 : ln f ≤ k := by omega
    rw [q156_2]
    simp (disch := first | assumption | exact nar_b0 | exact nar_b1 | exact nar_b | exact Or.inl rfl | exact Or.inr rfl | exact zin_t (by omega) (by omega) | exact Nat.le_of_ble_eq_true rfl | (rw [nI_cl (by omega)]; assumption) | omega) only [↓reduceIte, reduceCtorEq, not_true_eq_false, not_false_eq_true, q156_0, q156_1, q156_3, q156_4, q156_7, q156_9, q156_10, q156_13, q156_14, q156_17, q156_19, q156_20, q156_21, q156_22, q156_23, q156_26, q156_27, q156_28, q156_31, q156_34, q156_35, kl_int, kl_ref, kl_tok, cS_nil, cS_int, cS_ref, cS_long, tl_some, tl_none, List.cons_append, List.nil_append, nI_add, nI_ltb, nI_leb, nI_eqb, nI_cl, zin_nI, h9, h7, z1]
    rfl
  | succ m ih =>
    intro k hk
    have z1 : ¬ ln f ≤ k := by omega
    rw [q156_2]
    simp (disch := first | assumption | exact nar_b0 | exact nar_b1 | exact nar_b | exact Or.inl rfl | exact Or.inr rfl | exact zin_t (by omega) (by omega) | exact Nat.le_of_ble_eq_true rfl | (rw [nI_cl (by omega)]; assumption) | omega) only [↓reduceIte, reduceCtorEq, not_true_eq_false, not_false_eq_true, q156_0, q156_1, q156_3, q156_4, q156_7, q156_9, q156_10, q156_13, q156_14, q156_17, q156_19, q156_20, q156_21, q156_22, q156_23, q156_26, q156_27, q156_28, q156_31, q156_34, q156_35, kl_int, kl_ref, kl_tok, cS_nil, cS_int, cS_ref, cS_long, tl_some, tl_none, List.cons_append, List.nil_append, nI_add, nI_ltb, nI_leb, nI_eqb, nI_cl, zin_nI, h9, h7, z1, ih]
    rw [plc]
    by_cases e : f (92 + k) = x
    · simp [e, oI]
    · simp [e]
theorem placeOfR_ {x : Int32} (hS : Sh R) (hW : WG G) (hM : MS M G) : cal d 156 [.ref 127, .int x] M R = some (.inl (some (.int (oI (plI (gF G) x)))), M, R) := by
  rw [e156]
  simp (disch := first | assumption | exact nar_b0 | exact nar_b1 | exact nar_b | exact Or.inl rfl | exact Or.inr rfl | exact zin_t (by omega) (by omega) | exact Nat.le_of_ble_eq_true rfl | (rw [nI_cl (by omega)]; assumption) | omega) only [↓reduceIte, reduceCtorEq, not_true_eq_false, not_false_eq_true, q156_0, q156_1, q156_3, q156_4, q156_7, q156_9, q156_10, q156_13, q156_14, q156_17, q156_19, q156_20, q156_21, q156_22, q156_23, q156_26, q156_27, q156_28, q156_31, q156_34, q156_35, kl_int, kl_ref, kl_tok, cS_nil, cS_int, cS_ref, cS_long, tl_some, tl_none, List.cons_append, List.nil_append, nI_add, nI_ltb, nI_leb, nI_eqb, nI_cl, zin_nI]
  exact placeOfR_L hS hW.1 hM.2.2.1 (ln (gF G)) 0 (by omega)
theorem lineAt_ {k : Nat} (hk : k < 2147483648) (hS : Sh R) (hW : WG G) (hM : MS M G) : ∃ M', cal (d + 7) 172 [.ref 127, .int (nI k)] M R = some (.inl (some (.int (gLn G k))), M', R) ∧ MS M' G ∧ M' 127 0 = M 127 0 ∧ FrM M M' := by
  obtain ⟨nN, k127, k128, l128, k129, l129, k130, l130, k131, l131, k132, l132, k133, l133, k134, l134, k135, l135, k136, l136, k137, l137, k138, l138, k139, l139, k140, l140, k141, l141, k142, l142, k143, l143, k144, l144, k145, l145, k146, l146, f127_1, f127_2, f127_3, f127_4, f127_6, f127_7, f127_17, f127_18, f127_19, f127_22, f127_24, f127_25, f127_26, f127_29, f127_30, f127_31, f127_32, f127_33⟩ := modF hS
  have hw := hW.1.nums
  have h9 := hM.2.2.1
  have h5 : gF G 5 = nI (lf (gF G)) := hW.1.1.2.2.2.2.2.1.1
  have hlen : (gTs G).length = lf (gF G) := tsl_len
  by_cases e : k < lf (gF G)
  · obtain ⟨M1, a1, a2, a6, a3, a4, a5⟩ := WN (d := d) hS hW hM
    have h2 := SN (d := d + 6) hS a3 a2
    have h3 := lineAt_L (d := d + 7) (i := k) (by rw [hlen]; exact e) hS a2 a6 k 0 (stS (gF G)) (-1) (by omega) stS_row
    rw [List.drop_zero, Un_rem hW.1] at h3
    refine ⟨M1, ?_, a3, a4, a5⟩
    rw [e172]
    simp (disch := first | assumption | exact nar_b0 | exact nar_b1 | exact nar_b | exact Or.inl rfl | exact Or.inr rfl | exact zin_t (by omega) (by omega) | exact Nat.le_of_ble_eq_true rfl | (rw [nI_cl (by omega)]; assumption) | omega) only [↓reduceIte, reduceCtorEq, not_true_eq_false, not_false_eq_true, q172_0, q172_1, q172_2, q172_5, q172_6, q172_7, q172_10, q172_13, q172_14, q172_15, q172_18, q172_19, q172_22, q172_23, q172_24, q172_25, q172_26, q172_30, q172_31, q172_34, q172_35, q172_38, q172_41, q172_43, q172_44, q172_45, q172_46, q172_47, q172_48, q172_49, q172_50, q172_53, q172_54, q172_57, q172_58, q172_59, q172_60, q172_61, q172_62, q172_63, q172_66, q172_69, q172_70, q172_71, q172_74, q172_75, q172_78, q172_79, q172_82, q172_83, q172_84, kl_int, kl_ref, kl_tok, cS_nil, cS_int, cS_ref, cS_long, tl_some, tl_none, List.cons_append, List.nil_append, nI_add, nI_ltb, nI_leb, nI_eqb, nI_cl, zin_nI, h9, h5, e, a1, zk0_inl, h2]
    rw [h3]
    unfold gLn lnA
    rw [if_pos (by rw [hlen]; exact e)]
  · refine ⟨M, ?_, hM, rfl, FrM.refl⟩
    have hnb : (-100000 : Int32) = nob := rfl
    rw [e172]
    simp (disch := first | assumption | exact nar_b0 | exact nar_b1 | exact nar_b | exact Or.inl rfl | exact Or.inr rfl | exact zin_t (by omega) (by omega) | exact Nat.le_of_ble_eq_true rfl | (rw [nI_cl (by omega)]; assumption) | omega) only [↓reduceIte, reduceCtorEq, not_true_eq_false, not_false_eq_true, q172_0, q172_1, q172_2, q172_5, q172_6, q172_7, q172_10, q172_13, q172_14, q172_15, q172_18, q172_19, q172_22, q172_23, q172_24, q172_25, q172_26, q172_30, q172_31, q172_34, q172_35, q172_38, q172_41, q172_43, q172_44, q172_45, q172_46, q172_47, q172_48, q172_49, q172_50, q172_53, q172_54, q172_57, q172_58, q172_59, q172_60, q172_61, q172_62, q172_63, q172_66, q172_69, q172_70, q172_71, q172_74, q172_75, q172_78, q172_79, q172_82, q172_83, q172_84, kl_int, kl_ref, kl_tok, cS_nil, cS_int, cS_ref, cS_long, tl_some, tl_none, List.cons_append, List.nil_append, nI_add, nI_ltb, nI_leb, nI_eqb, nI_cl, zin_nI, h9, h5, e, hnb]
    unfold gLn lnA
    rw [if_neg (by rw [hlen]; exact e)]
theorem m_best (hS : Sh R) (hW : WG G) (hM : MS M G) : OutM (cal (d + 8) 173 [.ref 127] M R) M R 0 (gLn G 0) G := by
  obtain ⟨nN, k127, k128, l128, k129, l129, k130, l130, k131, l131, k132, l132, k133, l133, k134, l134, k135, l135, k136, l136, k137, l137, k138, l138, k139, l139, k140, l140, k141, l141, k142, l142, k143, l143, k144, l144, k145, l145, k146, l146, f127_1, f127_2, f127_3, f127_4, f127_6, f127_7, f127_17, f127_18, f127_19, f127_22, f127_24, f127_25, f127_26, f127_29, f127_30, f127_31, f127_32, f127_33⟩ := modF hS
  obtain ⟨M1, a1, a2, a3, a4⟩ := lineAt_ (d := d) (M := up2 M 127 0 (nI 0)) (k := 0) (by decide) hS hW hM.th
  refine OutM.ok (M' := M1) ?_ a2 (by rw [a3, up2_at]) (FrM.trans (FrM.up (by decide) (by decide)) a4)
  rw [e173]
  simp (disch := first | assumption | exact nar_b0 | exact nar_b1 | exact nar_b | exact Or.inl rfl | exact Or.inr rfl | exact zin_t (by omega) (by omega) | exact Nat.le_of_ble_eq_true rfl | (rw [nI_cl (by omega)]; assumption) | omega) only [↓reduceIte, reduceCtorEq, not_true_eq_false, not_false_eq_true, q173_0, q173_1, q173_2, q173_5, q173_6, q173_7, q173_10, kl_int, kl_ref, kl_tok, cS_nil, cS_int, cS_ref, cS_long, tl_some, tl_none, List.cons_append, List.nil_append, nI_add, nI_ltb, nI_leb, nI_eqb, nI_cl, zin_nI, a1, zk0_inl]
theorem m_line_t {k : Nat} (hk : k < 2147483648) (hS : Sh R) (hW : WG G) (hM : MS M G) : OutM (cal (d + 8) 174 [.ref 127, .int (nI k)] M R) M R 0 (gLn G k) G := by
  obtain ⟨nN, k127, k128, l128, k129, l129, k130, l130, k131, l131, k132, l132, k133, l133, k134, l134, k135, l135, k136, l136, k137, l137, k138, l138, k139, l139, k140, l140, k141, l141, k142, l142, k143, l143, k144, l144, k145, l145, k146, l146, f127_1, f127_2, f127_3, f127_4, f127_6, f127_7, f127_17, f127_18, f127_19, f127_22, f127_24, f127_25, f127_26, f127_29, f127_30, f127_31, f127_32, f127_33⟩ := modF hS
  obtain ⟨M1, a1, a2, a3, a4⟩ := lineAt_ (d := d) (M := up2 M 127 0 (nI 0)) (k := k) hk hS hW hM.th
  have h1 := isFine_t (d := d + 7) (M := up2 M 127 0 (nI 0)) (R := R) (c := nI 1) (k := nI 1) hS up2_at
  have z0 : ¬ k < 0 := by omega
  have z1 : ¬ 1 = 0 := by decide
  refine OutM.ok (M' := M1) ?_ a2 (by rw [a3, up2_at]) (FrM.trans (FrM.up (by decide) (by decide)) a4)
  rw [e174]
  simp (disch := first | assumption | exact nar_b0 | exact nar_b1 | exact nar_b | exact Or.inl rfl | exact Or.inr rfl | exact zin_t (by omega) (by omega) | exact Nat.le_of_ble_eq_true rfl | (rw [nI_cl (by omega)]; assumption) | omega) only [↓reduceIte, reduceCtorEq, not_true_eq_false, not_false_eq_true, q174_0, q174_1, q174_2, q174_5, q174_6, q174_7, q174_10, q174_11, q174_14, q174_15, q174_16, q174_17, q174_20, q174_23, q174_24, q174_25, q174_28, q174_31, q174_32, kl_int, kl_ref, kl_tok, cS_nil, cS_int, cS_ref, cS_long, tl_some, tl_none, List.cons_append, List.nil_append, nI_add, nI_ltb, nI_leb, nI_eqb, nI_cl, zin_nI, z0, h1, zk0_inl, z1, a1]
theorem m_line_f {x v : Int32} (h : x < nI 0) (hS : Sh R) (hM : MS M G) : OutM (cal (d + 8) 174 [.ref 127, .int x] M R) M R 1 v (rfA G) := by
  obtain ⟨nN, k127, k128, l128, k129, l129, k130, l130, k131, l131, k132, l132, k133, l133, k134, l134, k135, l135, k136, l136, k137, l137, k138, l138, k139, l139, k140, l140, k141, l141, k142, l142, k143, l143, k144, l144, k145, l145, k146, l146, f127_1, f127_2, f127_3, f127_4, f127_6, f127_7, f127_17, f127_18, f127_19, f127_22, f127_24, f127_25, f127_26, f127_29, f127_30, f127_31, f127_32, f127_33⟩ := modF hS
  have h1 := isFine_f (d := d + 7) (M := up2 M 127 0 (nI 0)) (R := R) (c := 1) (k := 1) hS up2_at (by decide) (by decide)
  refine OutM.rA (M' := up2 M 127 0 (nI 0)) (v' := nI 0) ?_ (by decide) hM.th (FrM.up (by decide) (by decide))
  rw [e174]
  simp (disch := first | assumption | exact nar_b0 | exact nar_b1 | exact nar_b | exact Or.inl rfl | exact Or.inr rfl | exact zin_t (by omega) (by omega) | exact Nat.le_of_ble_eq_true rfl | (rw [nI_cl (by omega)]; assumption) | omega) only [↓reduceIte, reduceCtorEq, not_true_eq_false, not_false_eq_true, q174_0, q174_1, q174_2, q174_5, q174_6, q174_7, q174_10, q174_11, q174_14, q174_15, q174_16, q174_17, q174_20, q174_23, q174_24, q174_25, q174_28, q174_31, q174_32, kl_int, kl_ref, kl_tok, cS_nil, cS_int, cS_ref, cS_long, tl_some, tl_none, List.cons_append, List.nil_append, nI_add, nI_ltb, nI_leb, nI_eqb, nI_cl, zin_nI, h, h1, zk0_inl]
theorem m_plain_t {s pl : Nat} (hs : s < 2) (hp : pl < 4) (hS : Sh R) (hW : WG G) (hM : MS M G) : OutM (cal (d + 7) 181 [.ref 127, .int (nI s), .int (nI pl)] M R) M R 0 (gPl G s pl) G := by
  obtain ⟨nN, k127, k128, l128, k129, l129, k130, l130, k131, l131, k132, l132, k133, l133, k134, l134, k135, l135, k136, l136, k137, l137, k138, l138, k139, l139, k140, l140, k141, l141, k142, l142, k143, l143, k144, l144, k145, l145, k146, l146, f127_1, f127_2, f127_3, f127_4, f127_6, f127_7, f127_17, f127_18, f127_19, f127_22, f127_24, f127_25, f127_26, f127_29, f127_30, f127_31, f127_32, f127_33⟩ := modF hS
  have r1 := rng_t (x := nI s) (n := 2) (c := 1) (by decide) ⟨s, hs, rfl⟩ (by decide)
  have r2 := rng_t (x := nI pl) (n := 4) (c := 3) (by decide) ⟨pl, hp, rfl⟩ (by decide)
  have h1 := isFine_t (d := d + 6) (M := up2 M 127 0 (nI 0)) (R := R) (c := nI 1) (k := nI 1) hS up2_at
  obtain ⟨M1, a1, a2, a6, a3, a4, a5⟩ := WN (d := d) (M := up2 M 127 0 (nI 0)) hS hW hM.th
  have h2 := SN (d := d + 6) hS a3 a2
  have h3 := plain_L (d := d + 3) (pl := pl) (sd := s) hp hs hS a2 a6 (gTs G).length 0 (stS (gF G)) tok (by omega) stS_row
  have hlen : (gTs G).length = lf (gF G) := tsl_len
  rw [List.drop_zero, Un_rem hW.1, Nat.sub_zero, hlen] at h3
  have z1 : ¬ 1 = 0 := by decide
  refine OutM.ok (M' := M1) ?_ a3 (by rw [a4, up2_at]) (FrM.trans (FrM.up (by decide) (by decide)) a5)
  rw [e181]
  simp (disch := first | assumption | exact nar_b0 | exact nar_b1 | exact nar_b | exact Or.inl rfl | exact Or.inr rfl | exact zin_t (by omega) (by omega) | exact Nat.le_of_ble_eq_true rfl | (rw [nI_cl (by omega)]; assumption) | omega) only [↓reduceIte, reduceCtorEq, not_true_eq_false, not_false_eq_true, q181_0, q181_1, q181_2, q181_5, q181_6, q181_7, q181_8, q181_9, q181_10, q181_13, q181_16, q181_17, q181_18, q181_19, q181_22, q181_25, q181_28, q181_29, q181_32, q181_33, q181_34, q181_35, q181_38, q181_41, q181_42, q181_43, q181_44, q181_47, q181_48, q181_51, q181_52, q181_53, q181_57, q181_58, q181_61, q181_64, q181_65, q181_66, q181_69, q181_71, q181_72, q181_75, q181_78, q181_79, q181_80, q181_81, q181_84, q181_86, q181_87, q181_90, q181_93, q181_94, q181_97, q181_100, q181_102, q181_103, q181_104, q181_105, q181_106, q181_108, q181_110, q181_111, q181_114, q181_115, q181_118, q181_119, q181_120, q181_122, q181_123, q181_124, q181_125, q181_128, q181_131, q181_132, q181_133, q181_134, q181_137, kl_int, kl_ref, kl_tok, cS_nil, cS_int, cS_ref, cS_long, tl_some, tl_none, List.cons_append, List.nil_append, nI_add, nI_ltb, nI_leb, nI_eqb, nI_cl, zin_nI, lies_, Int32.toInt_toInt64, c64_0, c64_1, c64_3, r1, r2, b2i_t, h1, zk0_inl, z1, a1, h2]
  rw [h3]
  rfl
theorem m_plain_f {x y v : Int32} (h : ¬ ((∃ k, k < 2 ∧ x = nI k) ∧ ∃ k, k < 4 ∧ y = nI k)) (hS : Sh R) (hM : MS M G) : OutM (cal (d + 7) 181 [.ref 127, .int x, .int y] M R) M R 1 v (rfA G) := by
  obtain ⟨nN, k127, k128, l128, k129, l129, k130, l130, k131, l131, k132, l132, k133, l133, k134, l134, k135, l135, k136, l136, k137, l137, k138, l138, k139, l139, k140, l140, k141, l141, k142, l142, k143, l143, k144, l144, k145, l145, k146, l146, f127_1, f127_2, f127_3, f127_4, f127_6, f127_7, f127_17, f127_18, f127_19, f127_22, f127_24, f127_25, f127_26, f127_29, f127_30, f127_31, f127_32, f127_33⟩ := modF hS
  have h1 := isFine_f (d := d + 6) (M := up2 M 127 0 (nI 0)) (R := R) (c := 1) (k := 1) hS up2_at (by decide) (by decide)
  refine OutM.rA (M' := up2 M 127 0 (nI 0)) (v' := nI 0) ?_ (by decide) hM.th (FrM.up (by decide) (by decide))
  rw [e181]
  by_cases hx : ∃ k, k < 2 ∧ x = nI k
  · have r1 := rng_t (n := 2) (c := 1) (by decide) hx (by decide)
    have r2 := rng_f (x := y) (n := 4) (c := 3) (by decide) (fun q => h ⟨hx, q⟩) (by decide)
    have z1 : ¬ 1 = 0 := by decide
    simp (disch := first | assumption | exact nar_b0 | exact nar_b1 | exact nar_b | exact Or.inl rfl | exact Or.inr rfl | exact zin_t (by omega) (by omega) | exact Nat.le_of_ble_eq_true rfl | (rw [nI_cl (by omega)]; assumption) | omega) only [↓reduceIte, reduceCtorEq, not_true_eq_false, not_false_eq_true, q181_0, q181_1, q181_2, q181_5, q181_6, q181_7, q181_8, q181_9, q181_10, q181_13, q181_16, q181_17, q181_18, q181_19, q181_22, q181_25, q181_28, q181_29, q181_32, q181_33, q181_34, q181_35, q181_38, q181_41, q181_42, q181_43, q181_44, q181_47, q181_48, q181_51, q181_52, q181_53, q181_57, q181_58, q181_61, q181_64, q181_65, q181_66, q181_69, q181_71, q181_72, q181_75, q181_78, q181_79, q181_80, q181_81, q181_84, q181_86, q181_87, q181_90, q181_93, q181_94, q181_97, q181_100, q181_102, q181_103, q181_104, q181_105, q181_106, q181_108, q181_110, q181_111, q181_114, q181_115, q181_118, q181_119, q181_120, q181_122, q181_123, q181_124, q181_125, q181_128, q181_131, q181_132, q181_133, q181_134, q181_137, kl_int, kl_ref, kl_tok, cS_nil, cS_int, cS_ref, cS_long, tl_some, tl_none, List.cons_append, List.nil_append, nI_add, nI_ltb, nI_leb, nI_eqb, nI_cl, zin_nI, lies_, Int32.toInt_toInt64, c64_0, c64_1, c64_3, r1, r2, b2i_t, b2i_f, h1, zk0_inl, z1]
  · have r1 := rng_f (n := 2) (c := 1) (by decide) hx (by decide)
    simp (disch := first | assumption | exact nar_b0 | exact nar_b1 | exact nar_b | exact Or.inl rfl | exact Or.inr rfl | exact zin_t (by omega) (by omega) | exact Nat.le_of_ble_eq_true rfl | (rw [nI_cl (by omega)]; assumption) | omega) only [↓reduceIte, reduceCtorEq, not_true_eq_false, not_false_eq_true, q181_0, q181_1, q181_2, q181_5, q181_6, q181_7, q181_8, q181_9, q181_10, q181_13, q181_16, q181_17, q181_18, q181_19, q181_22, q181_25, q181_28, q181_29, q181_32, q181_33, q181_34, q181_35, q181_38, q181_41, q181_42, q181_43, q181_44, q181_47, q181_48, q181_51, q181_52, q181_53, q181_57, q181_58, q181_61, q181_64, q181_65, q181_66, q181_69, q181_71, q181_72, q181_75, q181_78, q181_79, q181_80, q181_81, q181_84, q181_86, q181_87, q181_90, q181_93, q181_94, q181_97, q181_100, q181_102, q181_103, q181_104, q181_105, q181_106, q181_108, q181_110, q181_111, q181_114, q181_115, q181_118, q181_119, q181_120, q181_122, q181_123, q181_124, q181_125, q181_128, q181_131, q181_132, q181_133, q181_134, q181_137, kl_int, kl_ref, kl_tok, cS_nil, cS_int, cS_ref, cS_long, tl_some, tl_none, List.cons_append, List.nil_append, nI_add, nI_ltb, nI_leb, nI_eqb, nI_cl, zin_nI, lies_, Int32.toInt_toInt64, c64_0, c64_1, r1, b2i_f, h1, zk0_inl]
theorem isAct_t {x : Int32} {p : Nat} (hx : plI (gF G) x = some p) (hm : may (gF G) (rw (gF G) p) = true) (hS : Sh R) (hW : WG G) (hM : MS M G) (h0 : M 127 0 = nI 0) : ∃ M', cal (d + 4) 157 [.ref 127, .int x] M R = some (.inl (some (.int (nI 1))), M', R) ∧ MS M' G ∧ M' 127 0 = nI 0 ∧ FrM M M' := by
  obtain ⟨nN, k127, k128, l128, k129, l129, k130, l130, k131, l131, k132, l132, k133, l133, k134, l134, k135, l135, k136, l136, k137, l137, k138, l138, k139, l139, k140, l140, k141, l141, k142, l142, k143, l143, k144, l144, k145, l145, k146, l146, f127_1, f127_2, f127_3, f127_4, f127_6, f127_7, f127_17, f127_18, f127_19, f127_22, f127_24, f127_25, f127_26, f127_29, f127_30, f127_31, f127_32, f127_33⟩ := modF hS
  have hw := hW.1.nums
  obtain ⟨p1, rfl, p3, p4⟩ := plI_some hW.1 hx
  have h1 := placeOfR_ (d := d + 3) (x := nI (rw (gF G) p)) hS hW hM
  rw [hx] at h1
  have h2 := isFine_t (d := d + 3) (c := nI 1) (k := nI 0) hS h0
  obtain ⟨M1, a1, a2, a3, a4, a5⟩ := LG (d := d + 2) hS hW hM
  rw [h0] at a4
  have h3 := placeOfR_ (d := d + 3) (x := nI (rw (gF G) p)) hS hW a3
  rw [hx] at h3
  have h4 := SN (d := d + 3) hS a3 a2
  have h5 := canStrike_ (d := d) (M := M1) (R := R) (S := stS (gF G)) (p := p) (se := sn (gF G)) (bx := bn (gF G)) (by have := stS_1024 hW; omega) (by omega) hS a2.1.2.2.1 a2.1.2.2.2.2 (by omega) (by omega)
  rw [may_cnS hW.1 p1, Bool.and_eq_true, decide_eq_true_iff] at hm
  rw [hm.2] at h5
  have h6 := isFine_t (d := d + 3) (c := nI 2) (k := nI 2) hS a4
  have n5 : M1 129 5 = nI (lf (gF G)) := by rw [a3.2.2.1]; exact hW.1.1.2.2.2.2.2.1.1
  have z1 : ¬ nI p = -1 := by rw [nI_m1 (by omega)]; exact id
  have z2 : ¬ lf (gF G) ≤ 0 := by omega
  have z3 : ¬ 1 = 0 := by decide
  refine ⟨M1, ?_, a3, a4, a5⟩
  rw [e157]
  simp (disch := first | assumption | exact nar_b0 | exact nar_b1 | exact nar_b | exact Or.inl rfl | exact Or.inr rfl | exact zin_t (by omega) (by omega) | exact Nat.le_of_ble_eq_true rfl | (rw [nI_cl (by omega)]; assumption) | omega) only [↓reduceIte, reduceCtorEq, not_true_eq_false, not_false_eq_true, q157_0, q157_1, q157_2, q157_3, q157_6, q157_7, q157_10, q157_11, q157_14, q157_15, q157_16, q157_17, q157_20, q157_23, q157_24, q157_25, q157_26, q157_29, q157_30, q157_31, q157_34, q157_35, q157_36, q157_39, q157_40, q157_41, q157_42, q157_45, q157_46, q157_49, q157_52, q157_55, q157_56, q157_59, q157_60, q157_61, q157_62, q157_65, kl_int, kl_ref, kl_tok, cS_nil, cS_int, cS_ref, cS_long, tl_some, tl_none, List.cons_append, List.nil_append, nI_add, nI_ltb, nI_leb, nI_eqb, nI_cl, zin_nI, h1, oI, z1, h2, zk0_inl, z3, a1, n5, z2, h3, h4, h5, b2i_0, h6]
theorem isAct_f1 {x : Int32} (hx : plI (gF G) x = none) (hS : Sh R) (hW : WG G) (hM : MS M G) (h0 : M 127 0 = nI 0) : cal (d + 4) 157 [.ref 127, .int x] M R = some (.inl (some (.int (nI 0))), fineM M 1 0, R) := by
  obtain ⟨nN, k127, k128, l128, k129, l129, k130, l130, k131, l131, k132, l132, k133, l133, k134, l134, k135, l135, k136, l136, k137, l137, k138, l138, k139, l139, k140, l140, k141, l141, k142, l142, k143, l143, k144, l144, k145, l145, k146, l146, f127_1, f127_2, f127_3, f127_4, f127_6, f127_7, f127_17, f127_18, f127_19, f127_22, f127_24, f127_25, f127_26, f127_29, f127_30, f127_31, f127_32, f127_33⟩ := modF hS
  have h1 := placeOfR_ (d := d + 3) (x := x) hS hW hM
  rw [hx] at h1
  have h2 := isFine_f (d := d + 3) (c := 1) (k := 0) hS h0 (by decide) (by decide)
  rw [e157]
  simp (disch := first | assumption | exact nar_b0 | exact nar_b1 | exact nar_b | exact Or.inl rfl | exact Or.inr rfl | exact zin_t (by omega) (by omega) | exact Nat.le_of_ble_eq_true rfl | (rw [nI_cl (by omega)]; assumption) | omega) only [↓reduceIte, reduceCtorEq, not_true_eq_false, not_false_eq_true, q157_0, q157_1, q157_2, q157_3, q157_6, q157_7, q157_10, q157_11, q157_14, q157_15, q157_16, q157_17, q157_20, q157_23, q157_24, q157_25, q157_26, q157_29, q157_30, q157_31, q157_34, q157_35, q157_36, q157_39, q157_40, q157_41, q157_42, q157_45, q157_46, q157_49, q157_52, q157_55, q157_56, q157_59, q157_60, q157_61, q157_62, q157_65, kl_int, kl_ref, kl_tok, cS_nil, cS_int, cS_ref, cS_long, tl_some, tl_none, List.cons_append, List.nil_append, nI_add, nI_ltb, nI_leb, nI_eqb, nI_cl, zin_nI, h1, oI, h2, zk0_inl]
theorem isAct_f2 {x : Int32} {p : Nat} (hx : plI (gF G) x = some p) (hm : may (gF G) (rw (gF G) p) = false) (hS : Sh R) (hW : WG G) (hM : MS M G) (h0 : M 127 0 = nI 0) : ∃ M', cal (d + 4) 157 [.ref 127, .int x] M R = some (.inl (some (.int (nI 0))), fineM M' 2 2, R) ∧ MS M' G ∧ FrM M M' := by
  obtain ⟨nN, k127, k128, l128, k129, l129, k130, l130, k131, l131, k132, l132, k133, l133, k134, l134, k135, l135, k136, l136, k137, l137, k138, l138, k139, l139, k140, l140, k141, l141, k142, l142, k143, l143, k144, l144, k145, l145, k146, l146, f127_1, f127_2, f127_3, f127_4, f127_6, f127_7, f127_17, f127_18, f127_19, f127_22, f127_24, f127_25, f127_26, f127_29, f127_30, f127_31, f127_32, f127_33⟩ := modF hS
  have hw := hW.1.nums
  obtain ⟨p1, rfl, p3, p4⟩ := plI_some hW.1 hx
  have h1 := placeOfR_ (d := d + 3) (x := nI (rw (gF G) p)) hS hW hM
  rw [hx] at h1
  have h2 := isFine_t (d := d + 3) (c := nI 1) (k := nI 0) hS h0
  obtain ⟨M1, a1, a2, a3, a4, a5⟩ := LG (d := d + 2) hS hW hM
  rw [h0] at a4
  have h3 := placeOfR_ (d := d + 3) (x := nI (rw (gF G) p)) hS hW a3
  rw [hx] at h3
  have h4 := SN (d := d + 3) hS a3 a2
  have h5 := canStrike_ (d := d) (M := M1) (R := R) (S := stS (gF G)) (p := p) (se := sn (gF G)) (bx := bn (gF G)) (by have := stS_1024 hW; omega) (by omega) hS a2.1.2.2.1 a2.1.2.2.2.2 (by omega) (by omega)
  rw [may_cnS hW.1 p1] at hm
  have h6 := isFine_f (d := d + 3) (c := 2) (k := 2) hS a4 (by decide) (by decide)
  have n5 : M1 129 5 = nI (lf (gF G)) := by rw [a3.2.2.1]; exact hW.1.1.2.2.2.2.2.1.1
  have z1 : ¬ nI p = -1 := by rw [nI_m1 (by omega)]; exact id
  have z3 : ¬ 1 = 0 := by decide
  refine ⟨M1, ?_, a3, a5⟩
  rw [e157]
  by_cases z2 : lf (gF G) ≤ 0
  · simp (disch := first | assumption | exact nar_b0 | exact nar_b1 | exact nar_b | exact Or.inl rfl | exact Or.inr rfl | exact zin_t (by omega) (by omega) | exact Nat.le_of_ble_eq_true rfl | (rw [nI_cl (by omega)]; assumption) | omega) only [↓reduceIte, reduceCtorEq, not_true_eq_false, not_false_eq_true, q157_0, q157_1, q157_2, q157_3, q157_6, q157_7, q157_10, q157_11, q157_14, q157_15, q157_16, q157_17, q157_20, q157_23, q157_24, q157_25, q157_26, q157_29, q157_30, q157_31, q157_34, q157_35, q157_36, q157_39, q157_40, q157_41, q157_42, q157_45, q157_46, q157_49, q157_52, q157_55, q157_56, q157_59, q157_60, q157_61, q157_62, q157_65, kl_int, kl_ref, kl_tok, cS_nil, cS_int, cS_ref, cS_long, tl_some, tl_none, List.cons_append, List.nil_append, nI_add, nI_ltb, nI_leb, nI_eqb, nI_cl, zin_nI, h1, oI, z1, h2, zk0_inl, z3, a1, n5, z2, h6]
  · rw [decide_eq_true (by omega), Bool.true_and] at hm
    rw [hm] at h5
    simp (disch := first | assumption | exact nar_b0 | exact nar_b1 | exact nar_b | exact Or.inl rfl | exact Or.inr rfl | exact zin_t (by omega) (by omega) | exact Nat.le_of_ble_eq_true rfl | (rw [nI_cl (by omega)]; assumption) | omega) only [↓reduceIte, reduceCtorEq, not_true_eq_false, not_false_eq_true, q157_0, q157_1, q157_2, q157_3, q157_6, q157_7, q157_10, q157_11, q157_14, q157_15, q157_16, q157_17, q157_20, q157_23, q157_24, q157_25, q157_26, q157_29, q157_30, q157_31, q157_34, q157_35, q157_36, q157_39, q157_40, q157_41, q157_42, q157_45, q157_46, q157_49, q157_52, q157_55, q157_56, q157_59, q157_60, q157_61, q157_62, q157_65, kl_int, kl_ref, kl_tok, cS_nil, cS_int, cS_ref, cS_long, tl_some, tl_none, List.cons_append, List.nil_append, nI_add, nI_ltb, nI_leb, nI_eqb, nI_cl, zin_nI, h1, oI, z1, h2, zk0_inl, z3, a1, n5, z2, h3, h4, h5, b2i_0, h6]
theorem m_cost_t {x : Int32} {p : Nat} (hx : plI (gF G) x = some p) (hm : may (gF G) (rw (gF G) p) = true) (hS : Sh R) (hW : WG G) (hM : MS M G) : OutM (cal (d + 7) 175 [.ref 127, .int x] M R) M R 0 (gC G (Tk (gF G) x)) G := by
  obtain ⟨nN, k127, k128, l128, k129, l129, k130, l130, k131, l131, k132, l132, k133, l133, k134, l134, k135, l135, k136, l136, k137, l137, k138, l138, k139, l139, k140, l140, k141, l141, k142, l142, k143, l143, k144, l144, k145, l145, k146, l146, f127_1, f127_2, f127_3, f127_4, f127_6, f127_7, f127_17, f127_18, f127_19, f127_22, f127_24, f127_25, f127_26, f127_29, f127_30, f127_31, f127_32, f127_33⟩ := modF hS
  have hw := hW.1.nums
  obtain ⟨M0, c1, c2, c3, c4⟩ := isAct_t (d := d + 2) (M := up2 M 127 0 (nI 0)) hx hm hS hW hM.th up2_at
  obtain ⟨M1, a1, a2, a6, a3, a4, a5⟩ := WN (d := d) hS hW c2
  rw [c3] at a4
  obtain ⟨p1, rfl, p3, p4⟩ := plI_some hW.1 hx
  obtain ⟨m1, m2⟩ := may_iff hm
  have h2 := SN (d := d + 6) hS a3 a2
  have hlen : (gTs G).length = lf (gF G) := tsl_len
  have t0 := a2.2.2.1 0 (by rw [hlen]; exact m1)
  have ts0 : (gTs G)[0]'(by rw [hlen]; exact m1) = sbit (bs (gF G)) 0 := tsl_get _
  rw [ts0] at t0
  have hs := sbit2 (bs (gF G)) 0
  have hor : stS (gF G) ||| 2 ^ p < 2 ^ (RowL (gF G)).length := or_lt stS_row (by rw [RowL_len]; exact p1)
  have hp10 := pow10 a2.2.2.2.1.1
  have h3 := valueAt_ (d := d + 6) (M := M1) (R := R) (t := 0) (S := stS (gF G)) (q := sbit (bs (gF G)) 0) (by decide) (stS_1024 hW) hs hS
  rw [a6.val (Nat.zero_le _) stS_row hs, Un_rem hW.1] at h3
  have h4 := valueAt_ (d := d + 6) (M := M1) (R := R) (t := 1) (S := stS (gF G) ||| 2 ^ p) (q := sbit (bs (gF G)) 0) (by decide) (by omega) hs hS
  rw [a6.val (by rw [hlen]; exact m1) hor hs, Tk_rem hW.1 p1] at h4
  have h5 := placeOfR_ (d := d + 6) (x := nI (rw (gF G) p)) hS hW a3
  rw [hx] at h5
  have z1 : ¬ nI (rw (gF G) p) = -1 := by rw [nI_m1 (by omega)]; exact id
  have z3 : ¬ 1 = 0 := by decide
  refine OutM.ok (M' := M1) ?_ a3 a4 (FrM.trans (FrM.trans (FrM.up (by decide) (by decide)) c4) a5)
  rw [e175]
  simp (disch := first | assumption | exact nar_b0 | exact nar_b1 | exact nar_b | exact Or.inl rfl | exact Or.inr rfl | exact zin_t (by omega) (by omega) | exact Nat.le_of_ble_eq_true rfl | (rw [nI_cl (by omega)]; assumption) | omega) only [↓reduceIte, reduceCtorEq, not_true_eq_false, not_false_eq_true, q175_0, q175_1, q175_2, q175_5, q175_6, q175_7, q175_10, q175_11, q175_12, q175_15, q175_16, q175_17, q175_20, q175_21, q175_24, q175_25, q175_26, q175_27, q175_30, q175_33, q175_36, q175_37, q175_38, q175_41, q175_44, q175_45, q175_46, q175_47, q175_50, q175_51, q175_54, q175_55, q175_56, q175_59, q175_60, q175_61, q175_62, q175_63, q175_64, q175_65, q175_66, q175_69, q175_70, q175_71, q175_72, q175_73, q175_76, q175_77, q175_80, q175_81, q175_82, q175_83, q175_84, q175_87, q175_88, q175_89, q175_90, q175_93, q175_94, kl_int, kl_ref, kl_tok, cS_nil, cS_int, cS_ref, cS_long, tl_some, tl_none, List.cons_append, List.nil_append, nI_add, nI_ltb, nI_leb, nI_eqb, nI_cl, zin_nI, z1, c1, zk0_inl, z3, a1, h2, t0, h3, h5, oI, nI_shl, Nat.one_mul, nI_or, h4]
  rfl
theorem m_cost_n (h0 : 0 < lf (gF G)) (hS : Sh R) (hW : WG G) (hM : MS M G) : OutM (cal (d + 7) 175 [.ref 127, .int (-1)] M R) M R 0 (gC G (Un (gF G))) G := by
  obtain ⟨nN, k127, k128, l128, k129, l129, k130, l130, k131, l131, k132, l132, k133, l133, k134, l134, k135, l135, k136, l136, k137, l137, k138, l138, k139, l139, k140, l140, k141, l141, k142, l142, k143, l143, k144, l144, k145, l145, k146, l146, f127_1, f127_2, f127_3, f127_4, f127_6, f127_7, f127_17, f127_18, f127_19, f127_22, f127_24, f127_25, f127_26, f127_29, f127_30, f127_31, f127_32, f127_33⟩ := modF hS
  have hw := hW.1.nums
  have h1 := isFine_t (d := d + 6) (M := up2 M 127 0 (nI 0)) (R := R) (c := nI 2) (k := nI 2) hS up2_at
  obtain ⟨M1, a1, a2, a6, a3, a4, a5⟩ := WN (d := d) (M := up2 M 127 0 (nI 0)) hS hW hM.th
  rw [up2_at] at a4
  have h2 := SN (d := d + 6) hS a3 a2
  have hlen : (gTs G).length = lf (gF G) := tsl_len
  have t0 := a2.2.2.1 0 (by rw [hlen]; exact h0)
  have ts0 : (gTs G)[0]'(by rw [hlen]; exact h0) = sbit (bs (gF G)) 0 := tsl_get _
  rw [ts0] at t0
  have hs := sbit2 (bs (gF G)) 0
  have h3 := valueAt_ (d := d + 6) (M := M1) (R := R) (t := 0) (S := stS (gF G)) (q := sbit (bs (gF G)) 0) (by decide) (stS_1024 hW) hs hS
  rw [a6.val (Nat.zero_le _) stS_row hs, Un_rem hW.1] at h3
  have h4 := valueAt_ (d := d + 6) (M := M1) (R := R) (t := 1) (S := stS (gF G)) (q := sbit (bs (gF G)) 0) (by decide) (stS_1024 hW) hs hS
  rw [a6.val (by rw [hlen]; exact h0) stS_row hs, Un_rem hW.1] at h4
  have n5 : up2 M 127 0 (nI 0) 129 5 = nI (lf (gF G)) := by rw [up2_c (by decide), hM.2.2.1]; exact hW.1.1.2.2.2.2.2.1.1
  have z2 : ¬ lf (gF G) ≤ 0 := by omega
  have z3 : ¬ 1 = 0 := by decide
  refine OutM.ok (M' := M1) ?_ a3 a4 (FrM.trans (FrM.up (by decide) (by decide)) a5)
  rw [e175]
  simp (disch := first | assumption | exact nar_b0 | exact nar_b1 | exact nar_b | exact Or.inl rfl | exact Or.inr rfl | exact zin_t (by omega) (by omega) | exact Nat.le_of_ble_eq_true rfl | (rw [nI_cl (by omega)]; assumption) | omega) only [↓reduceIte, reduceCtorEq, not_true_eq_false, not_false_eq_true, q175_0, q175_1, q175_2, q175_5, q175_6, q175_7, q175_10, q175_11, q175_12, q175_15, q175_16, q175_17, q175_20, q175_21, q175_24, q175_25, q175_26, q175_27, q175_30, q175_33, q175_36, q175_37, q175_38, q175_41, q175_44, q175_45, q175_46, q175_47, q175_50, q175_51, q175_54, q175_55, q175_56, q175_59, q175_60, q175_61, q175_62, q175_63, q175_64, q175_65, q175_66, q175_69, q175_70, q175_71, q175_72, q175_73, q175_76, q175_77, q175_80, q175_81, q175_82, q175_83, q175_84, q175_87, q175_88, q175_89, q175_90, q175_93, q175_94, kl_int, kl_ref, kl_tok, cS_nil, cS_int, cS_ref, cS_long, tl_some, tl_none, List.cons_append, List.nil_append, nI_add, nI_ltb, nI_leb, nI_eqb, nI_cl, zin_nI, n5, z2, h1, zk0_inl, z3, a1, h2, t0, h3, h4]
  rfl
theorem m_cost_f1 {x v : Int32} (hx : plI (gF G) x = none) (hx1 : ¬ x = -1) (hS : Sh R) (hW : WG G) (hM : MS M G) : OutM (cal (d + 7) 175 [.ref 127, .int x] M R) M R 1 v (rfN G) := by
  obtain ⟨nN, k127, k128, l128, k129, l129, k130, l130, k131, l131, k132, l132, k133, l133, k134, l134, k135, l135, k136, l136, k137, l137, k138, l138, k139, l139, k140, l140, k141, l141, k142, l142, k143, l143, k144, l144, k145, l145, k146, l146, f127_1, f127_2, f127_3, f127_4, f127_6, f127_7, f127_17, f127_18, f127_19, f127_22, f127_24, f127_25, f127_26, f127_29, f127_30, f127_31, f127_32, f127_33⟩ := modF hS
  have h1 := isAct_f1 (d := d + 2) (M := up2 M 127 0 (nI 0)) hx hS hW hM.th up2_at
  refine OutM.rN (M' := up2 M 127 0 (nI 0)) (v' := nI 0) ?_ (by decide) hM.th (FrM.up (by decide) (by decide))
  rw [e175]
  simp (disch := first | assumption | exact nar_b0 | exact nar_b1 | exact nar_b | exact Or.inl rfl | exact Or.inr rfl | exact zin_t (by omega) (by omega) | exact Nat.le_of_ble_eq_true rfl | (rw [nI_cl (by omega)]; assumption) | omega) only [↓reduceIte, reduceCtorEq, not_true_eq_false, not_false_eq_true, q175_0, q175_1, q175_2, q175_5, q175_6, q175_7, q175_10, q175_11, q175_12, q175_15, q175_16, q175_17, q175_20, q175_21, q175_24, q175_25, q175_26, q175_27, q175_30, q175_33, q175_36, q175_37, q175_38, q175_41, q175_44, q175_45, q175_46, q175_47, q175_50, q175_51, q175_54, q175_55, q175_56, q175_59, q175_60, q175_61, q175_62, q175_63, q175_64, q175_65, q175_66, q175_69, q175_70, q175_71, q175_72, q175_73, q175_76, q175_77, q175_80, q175_81, q175_82, q175_83, q175_84, q175_87, q175_88, q175_89, q175_90, q175_93, q175_94, kl_int, kl_ref, kl_tok, cS_nil, cS_int, cS_ref, cS_long, tl_some, tl_none, List.cons_append, List.nil_append, nI_add, nI_ltb, nI_leb, nI_eqb, nI_cl, zin_nI, hx1, h1, zk0_inl]
theorem m_cost_f2 {x v : Int32} {p : Nat} (hx : plI (gF G) x = some p) (hm : may (gF G) (rw (gF G) p) = false) (hS : Sh R) (hW : WG G) (hM : MS M G) : OutM (cal (d + 7) 175 [.ref 127, .int x] M R) M R 2 v (rfS G) := by
  obtain ⟨nN, k127, k128, l128, k129, l129, k130, l130, k131, l131, k132, l132, k133, l133, k134, l134, k135, l135, k136, l136, k137, l137, k138, l138, k139, l139, k140, l140, k141, l141, k142, l142, k143, l143, k144, l144, k145, l145, k146, l146, f127_1, f127_2, f127_3, f127_4, f127_6, f127_7, f127_17, f127_18, f127_19, f127_22, f127_24, f127_25, f127_26, f127_29, f127_30, f127_31, f127_32, f127_33⟩ := modF hS
  have hw := hW.1.nums
  obtain ⟨p1, p2, p3, p4⟩ := plI_some hW.1 hx
  obtain ⟨M1, h1, h2, h3⟩ := isAct_f2 (d := d + 2) (M := up2 M 127 0 (nI 0)) hx hm hS hW hM.th up2_at
  have z1 : ¬ x = -1 := by rw [p2, nI_m1 (by omega)]; exact id
  refine OutM.rS (M' := M1) (v' := nI 0) ?_ (by decide) h2 (FrM.trans (FrM.up (by decide) (by decide)) h3)
  rw [e175]
  simp (disch := first | assumption | exact nar_b0 | exact nar_b1 | exact nar_b | exact Or.inl rfl | exact Or.inr rfl | exact zin_t (by omega) (by omega) | exact Nat.le_of_ble_eq_true rfl | (rw [nI_cl (by omega)]; assumption) | omega) only [↓reduceIte, reduceCtorEq, not_true_eq_false, not_false_eq_true, q175_0, q175_1, q175_2, q175_5, q175_6, q175_7, q175_10, q175_11, q175_12, q175_15, q175_16, q175_17, q175_20, q175_21, q175_24, q175_25, q175_26, q175_27, q175_30, q175_33, q175_36, q175_37, q175_38, q175_41, q175_44, q175_45, q175_46, q175_47, q175_50, q175_51, q175_54, q175_55, q175_56, q175_59, q175_60, q175_61, q175_62, q175_63, q175_64, q175_65, q175_66, q175_69, q175_70, q175_71, q175_72, q175_73, q175_76, q175_77, q175_80, q175_81, q175_82, q175_83, q175_84, q175_87, q175_88, q175_89, q175_90, q175_93, q175_94, kl_int, kl_ref, kl_tok, cS_nil, cS_int, cS_ref, cS_long, tl_some, tl_none, List.cons_append, List.nil_append, nI_add, nI_ltb, nI_leb, nI_eqb, nI_cl, zin_nI, z1, h1, zk0_inl]
theorem m_cost_f3 {v : Int32} (h0 : lf (gF G) = 0) (hS : Sh R) (hW : WG G) (hM : MS M G) : OutM (cal (d + 7) 175 [.ref 127, .int (-1)] M R) M R 2 v (rfS G) := by
  obtain ⟨nN, k127, k128, l128, k129, l129, k130, l130, k131, l131, k132, l132, k133, l133, k134, l134, k135, l135, k136, l136, k137, l137, k138, l138, k139, l139, k140, l140, k141, l141, k142, l142, k143, l143, k144, l144, k145, l145, k146, l146, f127_1, f127_2, f127_3, f127_4, f127_6, f127_7, f127_17, f127_18, f127_19, f127_22, f127_24, f127_25, f127_26, f127_29, f127_30, f127_31, f127_32, f127_33⟩ := modF hS
  have h1 := isFine_f (d := d + 6) (M := up2 M 127 0 (nI 0)) (R := R) (c := 2) (k := 2) hS up2_at (by decide) (by decide)
  have n5 : up2 M 127 0 (nI 0) 129 5 = nI 0 := by rw [up2_c (by decide), hM.2.2.1, ← h0]; exact hW.1.1.2.2.2.2.2.1.1
  have z2 : 0 ≤ 0 := Nat.le_refl _
  refine OutM.rS (M' := up2 M 127 0 (nI 0)) (v' := nI 0) ?_ (by decide) hM.th (FrM.up (by decide) (by decide))
  rw [e175]
  simp (disch := first | assumption | exact nar_b0 | exact nar_b1 | exact nar_b | exact Or.inl rfl | exact Or.inr rfl | exact zin_t (by omega) (by omega) | exact Nat.le_of_ble_eq_true rfl | (rw [nI_cl (by omega)]; assumption) | omega) only [↓reduceIte, reduceCtorEq, not_true_eq_false, not_false_eq_true, q175_0, q175_1, q175_2, q175_5, q175_6, q175_7, q175_10, q175_11, q175_12, q175_15, q175_16, q175_17, q175_20, q175_21, q175_24, q175_25, q175_26, q175_27, q175_30, q175_33, q175_36, q175_37, q175_38, q175_41, q175_44, q175_45, q175_46, q175_47, q175_50, q175_51, q175_54, q175_55, q175_56, q175_59, q175_60, q175_61, q175_62, q175_63, q175_64, q175_65, q175_66, q175_69, q175_70, q175_71, q175_72, q175_73, q175_76, q175_77, q175_80, q175_81, q175_82, q175_83, q175_84, q175_87, q175_88, q175_89, q175_90, q175_93, q175_94, kl_int, kl_ref, kl_tok, cS_nil, cS_int, cS_ref, cS_long, tl_some, tl_none, List.cons_append, List.nil_append, nI_add, nI_ltb, nI_leb, nI_eqb, nI_cl, zin_nI, n5, z2, h1, zk0_inl]
theorem m_states (hS : Sh R) (hW : WG G) (hM : MS M G) : OutM (cal (d + 7) 176 [.ref 127] M R) M R 0 (nI (totS (bn (gF G)) (sn (gF G)) (Un (gF G)).length (lf (gF G)))) G := by
  obtain ⟨nN, k127, k128, l128, k129, l129, k130, l130, k131, l131, k132, l132, k133, l133, k134, l134, k135, l135, k136, l136, k137, l137, k138, l138, k139, l139, k140, l140, k141, l141, k142, l142, k143, l143, k144, l144, k145, l145, k146, l146, f127_1, f127_2, f127_3, f127_4, f127_6, f127_7, f127_17, f127_18, f127_19, f127_22, f127_24, f127_25, f127_26, f127_29, f127_30, f127_31, f127_32, f127_33⟩ := modF hS
  have hw := hW.1.nums
  obtain ⟨M1, a1, a2, a3, a4, a5⟩ := LG (d := d + 5) (M := up2 M 127 0 (nI 0)) hS hW hM.th
  rw [up2_at] at a4
  obtain ⟨M2, b1, b2, b3⟩ := statR_0 (d := d + 3) hS 9216 0 tok tok tok M1 (by omega) (fun j h => absurd h (Nat.not_lt_zero _))
  have hM2 : MS M2 G := a3.fr (fun c hc => b3 c (by omega)) (by rw [b3 _ (by decide)]) (by rw [b3 _ (by decide)]) (by rw [b3 _ (by decide)])
  have hG2 : GmR M2 (sn (gF G)) (pn (gF G)) (bn (gF G)) (RowL (gF G)) (gTs G) := a2.frame (by rw [b3 _ (by decide)]) (by rw [b3 _ (by decide)]) (b3 _ (by decide)) (b3 _ (by decide)) (b3 _ (by decide))
  have h2 := SN (d := d + 6) hS hM2 hG2
  have hlen : (gTs G).length = lf (gF G) := tsl_len
  have s1024 := stS_1024 hW
  generalize hM3 : up2 M2 143 (stS (gF G)) (nI 1) = M3
  have f3 : ∀ c, c ≠ 143 → M3 c = M2 c := fun c h => by rw [← hM3]; exact up2_ne h
  have hG3 : GmR M3 (sn (gF G)) (pn (gF G)) (bn (gF G)) (RowL (gF G)) (gTs G) := hG2.frame (by rw [f3 _ (by decide)]) (by rw [f3 _ (by decide)]) (f3 _ (by decide)) (f3 _ (by decide)) (f3 _ (by decide))
  have hp10 := pow10 hG3.2.2.2.1.1
  obtain ⟨M4, c1, c2⟩ := statR_3 (d := d + 3) (S0 := stS (gF G)) hS ((gTs G).length + 1) 0 tok tok M3 (by omega) hG3 (fun _ S' h => by
    rw [Nat.mul_zero, Nat.zero_add, ← hM3]
    show _ = b2i (decide (S' = stS (gF G)))
    by_cases e : S' = stS (gF G)
    · subst e; rw [up2_at]; simp [b2i]
    · rw [up2_s e, b2 _ (by omega)]; simp [e, b2i]) (fun j h1 h2 => by rw [← hM3, up2_s (by omega)]; exact b2 j h2) (by omega)
  have tot : totR (bn (gF G)) (sn (gF G)) (RowL (gF G)).length (stS (gF G)) ((gTs G).length + 1) = totS (bn (gF G)) (sn (gF G)) (Un (gF G)).length (lf (gF G)) := by
    rw [totR_eq stS_row, hlen, ← Un_rem hW.1, rem_len]
  rw [tot] at c1
  have fr : ∀ c, c ≠ 143 → M4 c = M1 c := fun c h => by rw [c2 c h, f3 c h, b3 c h]
  refine OutM.ok (M' := M4) ?_ (a3.fr (fun c hc => fr c (by omega)) (by rw [fr _ (by decide)]) (by rw [fr _ (by decide)]) (by rw [fr _ (by decide)])) (by rw [fr _ (by decide)]; exact a4) (FrM.trans (FrM.trans (FrM.up (by decide) (by decide)) a5) (fun c h => fr c (by omega)))
  rw [e176]
  simp (disch := first | assumption | exact nar_b0 | exact nar_b1 | exact nar_b | exact Or.inl rfl | exact Or.inr rfl | exact zin_t (by omega) (by omega) | exact Nat.le_of_ble_eq_true rfl | (rw [nI_cl (by omega)]; assumption) | omega) only [↓reduceIte, reduceCtorEq, not_true_eq_false, not_false_eq_true, q176_0, q176_1, q176_2, q176_5, q176_6, q176_9, q176_10, q176_12, q176_15, q176_18, q176_19, q176_22, q176_23, q176_24b, q176_24z, q176_25, q176_28, q176_31, q176_32, q176_35, q176_36, q176_39, q176_40b, q176_40z, q176_41, q176_42, q176_43, q176_44, q176_46, q176_47, q176_50, q176_53, q176_54, q176_56, q176_57, q176_58, q176_61, q176_62, q176_65, q176_66, q176_69, q176_72, q176_73, q176_74, q176_75, q176_76, q176_77, q176_80, q176_83, q176_86, q176_87, q176_88, q176_91, q176_94, q176_97, q176_98, q176_101, q176_104, q176_105, q176_106, q176_107, q176_108, q176_109, q176_110, q176_111b, q176_111z, q176_112, q176_113, q176_117, q176_118, q176_121, q176_124, q176_125, q176_127, q176_128, q176_131, q176_134, q176_135, q176_138, q176_141, q176_142, q176_143, q176_144, q176_145, q176_146, q176_147, q176_149, q176_150, q176_151, q176_152, q176_153b, q176_153z, q176_154, q176_157, q176_160, q176_163, q176_166, q176_169, q176_172, q176_173, kl_int, kl_ref, kl_tok, cS_nil, cS_int, cS_ref, cS_long, tl_some, tl_none, List.cons_append, List.nil_append, nI_add, nI_ltb, nI_leb, nI_eqb, nI_cl, zin_nI, a1, zk0_inl]
  rw [b1]
  simp (disch := first | assumption | exact nar_b0 | exact nar_b1 | exact nar_b | exact Or.inl rfl | exact Or.inr rfl | exact zin_t (by omega) (by omega) | exact Nat.le_of_ble_eq_true rfl | (rw [nI_cl (by omega)]; assumption) | omega) only [↓reduceIte, reduceCtorEq, not_true_eq_false, not_false_eq_true, q176_0, q176_1, q176_2, q176_5, q176_6, q176_9, q176_10, q176_12, q176_15, q176_18, q176_19, q176_22, q176_23, q176_24b, q176_24z, q176_25, q176_28, q176_31, q176_32, q176_35, q176_36, q176_39, q176_40b, q176_40z, q176_41, q176_42, q176_43, q176_44, q176_46, q176_47, q176_50, q176_53, q176_54, q176_56, q176_57, q176_58, q176_61, q176_62, q176_65, q176_66, q176_69, q176_72, q176_73, q176_74, q176_75, q176_76, q176_77, q176_80, q176_83, q176_86, q176_87, q176_88, q176_91, q176_94, q176_97, q176_98, q176_101, q176_104, q176_105, q176_106, q176_107, q176_108, q176_109, q176_110, q176_111b, q176_111z, q176_112, q176_113, q176_117, q176_118, q176_121, q176_124, q176_125, q176_127, q176_128, q176_131, q176_134, q176_135, q176_138, q176_141, q176_142, q176_143, q176_144, q176_145, q176_146, q176_147, q176_149, q176_150, q176_151, q176_152, q176_153b, q176_153z, q176_154, q176_157, q176_160, q176_163, q176_166, q176_169, q176_172, q176_173, kl_int, kl_ref, kl_tok, cS_nil, cS_int, cS_ref, cS_long, tl_some, tl_none, List.cons_append, List.nil_append, nI_add, nI_ltb, nI_leb, nI_eqb, nI_cl, zin_nI, h2, zk0_inl, vpb1, hM3]
  exact c1
end Mp
