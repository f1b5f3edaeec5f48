-- the reference reads words
def rmF (b : Nat → Int32) (n s j : Nat) : Nat → Nat → Bool
  | 0, _ => !sml b n (s + wln j)
  | m + 1, k => sml b n (s + k) && (decide (b (s + k) = zstb j k) && rmF b n s j m (k + 1))
theorem zst_sm : ∀ j, j < 17 → ∀ k, k < wln j → nI 97 ≤ zstb j k ∧ zstb j k ≤ nI 122 := by decide +kernel
theorem rmF_wm {b : Nat → Int32} {n s j : Nat} (hj : j < 17) : ∀ (m k : Nat), k + m = wln j → rmF b n s j m k = (decide (m = 0 ∨ s + wln j ≤ n) && (wmF b s j m k && !sml b n (s + wln j)))
  | 0, k, hk => by
    unfold rmF wmF
    rw [decide_eq_true (Or.inl rfl), Bool.true_and, Bool.true_and]
  | m + 1, k, hk => by
    unfold rmF wmF
    rw [rmF_wm hj m (k + 1) (by omega)]
    by_cases c : b (s + k) = zstb j k
    · have hz := zst_sm j hj k (by omega)
      have es : sml b n (s + k) = decide (s + k < n) := by
        unfold sml
        rw [c]
        by_cases c2 : s + k < n
        · rw [decide_eq_true c2, decide_eq_true ⟨c2, hz⟩]
        · rw [decide_eq_false c2, decide_eq_false (fun e => c2 e.1)]
      rw [es, decide_eq_true c, Bool.true_and, Bool.true_and, ← Bool.and_assoc]
      congr 1
      rw [← Bool.decide_and]
      congr 1
      exact propext ⟨fun h => by omega, fun h => by omega⟩
    · rw [decide_eq_false c]
      simp
theorem rmF_all {b : Nat → Int32} {n s j : Nat} (hj : j < 17) : rmF b n s j (wln j) 0 = wm b n s j := by
  have := wln_b j hj
  rw [rmF_wm hj _ _ (by omega)]
  unfold wm
  congr 1
  congr 1
  exact propext ⟨fun h => by omega, fun h => Or.inr h⟩
/-- no fault yet -/
def RCx (M : ZM) (b : Nat → Int32) (n i : Nat) : Prop := RB M b n i ∧ i ≤ n ∧ M 127 12 = nI 0
theorem RCx.mv {M : ZM} {b : Nat → Int32} {n i j : Nat} (h : RCx M b n i) (hj : j ≤ n) : RCx (hrm M j) b n j := ⟨h.1.mv (by have := h.1.2.2.1; omega), hj, by rw [hrm_s (by decide)]; exact h.2.2⟩
section Rb
variable {d n i : Nat} {M : ZM} {R : ZH} {b : Nat → Int32}
theorem isHere_L {j s : Nat} (hj : j < 17) (hS : Sh R) (hF : FO M) (hP : RB M b n s) : ∀ (m k : Nat), k + m = wln j → exe (d + 4) 119 7 [.ref 127, .ref (1000001 + j), .int (nI k)] [] M R = some (.inl (some (.int (b2i (rmF b n s j m k)))), M, R) := by
  obtain ⟨nN, k127, k128, l128, k129, l129, k130, l130, k131, l131, k132, l132, k133, l133, k134, l134, k135, l135, k136, l136, k137, l137, k138, l138, k139, l139, k140, l140, k141, l141, k142, l142, k143, l143, k144, l144, k145, l145, k146, l146, f127_1, f127_2, f127_3, f127_4, f127_6, f127_7, f127_17, f127_18, f127_19, f127_22, f127_24, f127_25, f127_26, f127_29, f127_30, f127_31, f127_32, f127_33⟩ := modF hS
  have hP' := hP
  obtain ⟨h9, h10, h6, h7⟩ := hP
  have hl := wln_b j hj
  have ks := KS hS hj
  have hlen := length_ (d := d + 2) (j := j) hS hF hj
  have hlen2 : zstL.getD j 0 = wln j := rfl
  rw [hlen2] at hlen
  have y1 : (nI 1 = nI 0) = False := by decide +kernel
  intro m
  induction m with
  | zero =>
    intro k hk
    have z : wln j ≤ k := by omega
    have h17 := isSmall_ (d := d + 3) (k := s + wln j) hS hP' (by omega)
    unfold rmF
    rw [q119_7]
    cases c : sml b n (s + wln j)
    · rw [c] at h17
      simp (disch := first | assumption | exact nar_b0 | exact nar_b1 | exact nar_b | exact Or.inl rfl | exact Or.inr rfl | exact zin_t (by omega) (by omega) | exact Nat.le_of_ble_eq_true rfl | (rw [nI_cl (by omega)]; assumption) | omega) only [↓reduceIte, reduceCtorEq, not_true_eq_false, not_false_eq_true, q119_0, q119_1, q119_4i, q119_4a, q119_5, q119_6, q119_8, q119_9, q119_12, q119_15, q119_16, q119_17, q119_20, q119_21, q119_22, q119_25, q119_28, q119_29, q119_32, q119_33, q119_36, q119_37, q119_38, q119_39, q119_40, q119_41, q119_44, q119_47, q119_48, q119_49, q119_52, q119_55, q119_56, q119_57, q119_60, q119_61, q119_64, q119_65, q119_68, q119_71, q119_72, q119_75, q119_76, kl_int, kl_ref, kl_tok, cS_nil, cS_int, cS_ref, cS_long, tl_some, tl_none, List.cons_append, List.nil_append, nI_add, nI_ltb, nI_leb, nI_eqb, nI_cl, zin_nI, hlen, zk0_inl, z, h10, h17, b2i_f, b2i_t, y1]
      rfl
    · rw [c] at h17
      simp (disch := first | assumption | exact nar_b0 | exact nar_b1 | exact nar_b | exact Or.inl rfl | exact Or.inr rfl | exact zin_t (by omega) (by omega) | exact Nat.le_of_ble_eq_true rfl | (rw [nI_cl (by omega)]; assumption) | omega) only [↓reduceIte, reduceCtorEq, not_true_eq_false, not_false_eq_true, q119_0, q119_1, q119_4i, q119_4a, q119_5, q119_6, q119_8, q119_9, q119_12, q119_15, q119_16, q119_17, q119_20, q119_21, q119_22, q119_25, q119_28, q119_29, q119_32, q119_33, q119_36, q119_37, q119_38, q119_39, q119_40, q119_41, q119_44, q119_47, q119_48, q119_49, q119_52, q119_55, q119_56, q119_57, q119_60, q119_61, q119_64, q119_65, q119_68, q119_71, q119_72, q119_75, q119_76, kl_int, kl_ref, kl_tok, cS_nil, cS_int, cS_ref, cS_long, tl_some, tl_none, List.cons_append, List.nil_append, nI_add, nI_ltb, nI_leb, nI_eqb, nI_cl, zin_nI, hlen, zk0_inl, z, h10, h17, b2i_f, b2i_t, y1]
      rfl
  | succ m ih =>
    intro k hk
    have z : ¬ wln j ≤ k := by omega
    have h17 := isSmall_ (d := d + 3) (k := s + k) hS hP' (by omega)
    have hc := charAt_ (d := d) (M := M) (R := R) (j := j) (k := k) hS hF hj (by unfold wln at hk; omega)
    have ih' := ih (k + 1) (by omega)
    rw [rmF]
    cases c : sml b n (s + k)
    · rw [c] at h17
      rw [Bool.false_and, q119_7]
      simp (disch := first | assumption | exact nar_b0 | exact nar_b1 | exact nar_b | exact Or.inl rfl | exact Or.inr rfl | exact zin_t (by omega) (by omega) | exact Nat.le_of_ble_eq_true rfl | (rw [nI_cl (by omega)]; assumption) | omega) only [↓reduceIte, reduceCtorEq, not_true_eq_false, not_false_eq_true, q119_0, q119_1, q119_4i, q119_4a, q119_5, q119_6, q119_8, q119_9, q119_12, q119_15, q119_16, q119_17, q119_20, q119_21, q119_22, q119_25, q119_28, q119_29, q119_32, q119_33, q119_36, q119_37, q119_38, q119_39, q119_40, q119_41, q119_44, q119_47, q119_48, q119_49, q119_52, q119_55, q119_56, q119_57, q119_60, q119_61, q119_64, q119_65, q119_68, q119_71, q119_72, q119_75, q119_76, kl_int, kl_ref, kl_tok, cS_nil, cS_int, cS_ref, cS_long, tl_some, tl_none, List.cons_append, List.nil_append, nI_add, nI_ltb, nI_leb, nI_eqb, nI_cl, zin_nI, hlen, zk0_inl, z, h10, h17, b2i_f, b2i_t, y1]
    · rw [c] at h17
      have hlt : s + k < n := by
        unfold sml at c
        exact (of_decide_eq_true c).1
      have hb := h7 (s + k) hlt
      rw [Bool.true_and]
      by_cases c2 : b (s + k) = zstb j k
      · rw [decide_eq_true c2, Bool.true_and, ← ih', q119_7]
        simp (disch := first | assumption | exact nar_b0 | exact nar_b1 | exact nar_b | exact Or.inl rfl | exact Or.inr rfl | exact zin_t (by omega) (by omega) | exact Nat.le_of_ble_eq_true rfl | (rw [nI_cl (by omega)]; assumption) | omega) only [↓reduceIte, reduceCtorEq, not_true_eq_false, not_false_eq_true, q119_0, q119_1, q119_4i, q119_4a, q119_5, q119_6, q119_8, q119_9, q119_12, q119_15, q119_16, q119_17, q119_20, q119_21, q119_22, q119_25, q119_28, q119_29, q119_32, q119_33, q119_36, q119_37, q119_38, q119_39, q119_40, q119_41, q119_44, q119_47, q119_48, q119_49, q119_52, q119_55, q119_56, q119_57, q119_60, q119_61, q119_64, q119_65, q119_68, q119_71, q119_72, q119_75, q119_76, kl_int, kl_ref, kl_tok, cS_nil, cS_int, cS_ref, cS_long, tl_some, tl_none, List.cons_append, List.nil_append, nI_add, nI_ltb, nI_leb, nI_eqb, nI_cl, zin_nI, hlen, zk0_inl, z, h10, h17, b2i_f, b2i_t, y1, hb, hc, c2]
      · rw [decide_eq_false c2, Bool.false_and, q119_7]
        simp (disch := first | assumption | exact nar_b0 | exact nar_b1 | exact nar_b | exact Or.inl rfl | exact Or.inr rfl | exact zin_t (by omega) (by omega) | exact Nat.le_of_ble_eq_true rfl | (rw [nI_cl (by omega)]; assumption) | omega) only [↓reduceIte, reduceCtorEq, not_true_eq_false, not_false_eq_true, q119_0, q119_1, q119_4i, q119_4a, q119_5, q119_6, q119_8, q119_9, q119_12, q119_15, q119_16, q119_17, q119_20, q119_21, q119_22, q119_25, q119_28, q119_29, q119_32, q119_33, q119_36, q119_37, q119_38, q119_39, q119_40, q119_41, q119_44, q119_47, q119_48, q119_49, q119_52, q119_55, q119_56, q119_57, q119_60, q119_61, q119_64, q119_65, q119_68, q119_71, q119_72, q119_75, q119_76, kl_int, kl_ref, kl_tok, cS_nil, cS_int, cS_ref, cS_long, tl_some, tl_none, List.cons_append, List.nil_append, nI_add, nI_ltb, nI_leb, nI_eqb, nI_cl, zin_nI, hlen, zk0_inl, z, h10, h17, b2i_f, b2i_t, y1, hb, hc, c2]
theorem isHere_ {a j : Nat} (ha : a = 1000001 + j) (hj : j < 17) (hS : Sh R) (hF : FO M) (hP : RB M b n i) : cal (d + 4) 119 [.ref 127, .ref a] M R = some (.inl (some (.int (b2i (wm b n (sk b n i) j)))), hrm M (sk b n i), R) := by
  subst ha
  obtain ⟨nN, k127, k128, l128, k129, l129, k130, l130, k131, l131, k132, l132, k133, l133, k134, l134, k135, l135, k136, l136, k137, l137, k138, l138, k139, l139, k140, l140, k141, l141, k142, l142, k143, l143, k144, l144, k145, l145, k146, l146, f127_1, f127_2, f127_3, f127_4, f127_6, f127_7, f127_17, f127_18, f127_19, f127_22, f127_24, f127_25, f127_26, f127_29, f127_30, f127_31, f127_32, f127_33⟩ := modF hS
  have h1 := sign_ (d := d + 3) hS hP
  have hP2 := hP.mv (sk_le6 (b := b) hP.2.2.1.1 hP.2.2.1.2)
  have hF2 : FO (hrm M (sk b n i)) := fun j hj => by rw [hrm_c (by omega), hrm_c (by omega)]; exact hF j hj
  have h2 := isHere_L (d := d) hj hS hF2 hP2 (wln j) 0 (by omega)
  rw [rmF_all hj] at h2
  rw [e119]
  simp (disch := first | assumption | exact nar_b0 | exact nar_b1 | exact nar_b | exact Or.inl rfl | exact Or.inr rfl | exact zin_t (by omega) (by omega) | exact Nat.le_of_ble_eq_true rfl | (rw [nI_cl (by omega)]; assumption) | omega) only [↓reduceIte, reduceCtorEq, not_true_eq_false, not_false_eq_true, q119_0, q119_1, q119_4i, q119_4a, q119_5, q119_6, q119_8, q119_9, q119_12, q119_15, q119_16, q119_17, q119_20, q119_21, q119_22, q119_25, q119_28, q119_29, q119_32, q119_33, q119_36, q119_37, q119_38, q119_39, q119_40, q119_41, q119_44, q119_47, q119_48, q119_49, q119_52, q119_55, q119_56, q119_57, q119_60, q119_61, q119_64, q119_65, q119_68, q119_71, q119_72, q119_75, q119_76, kl_int, kl_ref, kl_tok, cS_nil, cS_int, cS_ref, cS_long, tl_some, tl_none, List.cons_append, List.nil_append, nI_add, nI_ltb, nI_leb, nI_eqb, nI_cl, zin_nI, h1, zk0_inl]
  exact h2
theorem passesWord_ {a j : Nat} (ha : a = 1000001 + j) (hj : j < 17) (hS : Sh R) (hF : FO M) (hP : RCx M b n i) : cal (d + 5) 120 [.ref 127, .ref a] M R = some (.inl (some (.int (b2i (wm b n (sk b n i) j)))), hrm M (if wm b n (sk b n i) j then sk b n i + wln j else sk b n i), R) := by
  obtain ⟨nN, k127, k128, l128, k129, l129, k130, l130, k131, l131, k132, l132, k133, l133, k134, l134, k135, l135, k136, l136, k137, l137, k138, l138, k139, l139, k140, l140, k141, l141, k142, l142, k143, l143, k144, l144, k145, l145, k146, l146, f127_1, f127_2, f127_3, f127_4, f127_6, f127_7, f127_17, f127_18, f127_19, f127_22, f127_24, f127_25, f127_26, f127_29, f127_30, f127_31, f127_32, f127_33⟩ := modF hS
  have h1 := isHere_ (d := d) ha hj hS hF hP.1
  have hF2 : FO (hrm M (sk b n i)) := fun j hj => by rw [hrm_c (by omega), hrm_c (by omega)]; exact hF j hj
  have h12 := hP.2.2
  have hl := wln_b j hj
  have hlen := length_ (d := d + 3) (j := j) hS hF2 hj
  have hlen2 : zstL.getD j 0 = wln j := rfl
  rw [hlen2] at hlen
  subst ha
  have ks := KS hS hj
  have h10 : hrm M (sk b n i) 127 10 = nI (sk b n i) := up2_at
  have hle := sk_le (b := b) hP.2.1
  have hn := hP.1.2.2.1
  have y1 : (nI 1 = nI 0) = False := by decide +kernel
  have y0 : ¬ 0 < 0 := by decide
  rw [e120]
  cases c : wm b n (sk b n i) j
  · rw [c] at h1
    simp (disch := first | assumption | exact nar_b0 | exact nar_b1 | exact nar_b | exact Or.inl rfl | exact Or.inr rfl | exact zin_t (by omega) (by omega) | exact Nat.le_of_ble_eq_true rfl | (rw [nI_cl (by omega)]; assumption) | omega) only [↓reduceIte, reduceCtorEq, not_true_eq_false, not_false_eq_true, q120_0, q120_1, q120_4, q120_7, q120_8, q120_9, q120_12, q120_15, q120_16, q120_17, q120_18i, q120_18a, q120_19, q120_22, q120_23, q120_26, q120_27, q120_30, q120_31, kl_int, kl_ref, kl_tok, cS_nil, cS_int, cS_ref, cS_long, tl_some, tl_none, List.cons_append, List.nil_append, nI_add, nI_ltb, nI_leb, nI_eqb, nI_cl, zin_nI, h12, y0, h1, zk0_inl, b2i_f, b2i_t, y1]
  · rw [c] at h1
    simp (disch := first | assumption | exact nar_b0 | exact nar_b1 | exact nar_b | exact Or.inl rfl | exact Or.inr rfl | exact zin_t (by omega) (by omega) | exact Nat.le_of_ble_eq_true rfl | (rw [nI_cl (by omega)]; assumption) | omega) only [↓reduceIte, reduceCtorEq, not_true_eq_false, not_false_eq_true, q120_0, q120_1, q120_4, q120_7, q120_8, q120_9, q120_12, q120_15, q120_16, q120_17, q120_18i, q120_18a, q120_19, q120_22, q120_23, q120_26, q120_27, q120_30, q120_31, kl_int, kl_ref, kl_tok, cS_nil, cS_int, cS_ref, cS_long, tl_some, tl_none, List.cons_append, List.nil_append, nI_add, nI_ltb, nI_leb, nI_eqb, nI_cl, zin_nI, h12, y0, h1, zk0_inl, b2i_f, b2i_t, y1, hlen, h10]
    unfold hrm
    rw [up2_twice]
theorem wrong_ {k p : Int32} (hS : Sh R) (h : M 127 12 = nI 0) : cal d 115 [.ref 127, .int k, .int p] M R = some (.inl none, up2 (up2 M 127 12 k) 127 13 p, R) := by
  obtain ⟨nN, k127, k128, l128, k129, l129, k130, l130, k131, l131, k132, l132, k133, l133, k134, l134, k135, l135, k136, l136, k137, l137, k138, l138, k139, l139, k140, l140, k141, l141, k142, l142, k143, l143, k144, l144, k145, l145, k146, l146, f127_1, f127_2, f127_3, f127_4, f127_6, f127_7, f127_17, f127_18, f127_19, f127_22, f127_24, f127_25, f127_26, f127_29, f127_30, f127_31, f127_32, f127_33⟩ := modF hS
  rw [e115]
  simp (disch := first | assumption | exact nar_b0 | exact nar_b1 | exact nar_b | exact Or.inl rfl | exact Or.inr rfl | exact zin_t (by omega) (by omega) | exact Nat.le_of_ble_eq_true rfl | (rw [nI_cl (by omega)]; assumption) | omega) only [↓reduceIte, reduceCtorEq, not_true_eq_false, not_false_eq_true, q115_0, q115_1, q115_4, q115_7, q115_8, q115_9, q115_10, q115_13, q115_14, q115_15, q115_18, kl_int, kl_ref, kl_tok, cS_nil, cS_int, cS_ref, cS_long, tl_some, tl_none, List.cons_append, List.nil_append, nI_add, nI_ltb, nI_leb, nI_eqb, nI_cl, zin_nI, h, Nat.le_refl]
/-- a fault stands -/
def RFt (M : ZM) (k p : Nat) : Prop := (1 ≤ k ∧ k ≤ 5) ∧ M 127 12 = nI k ∧ M 127 13 = nI p
theorem wrong_no {k p : Nat} {x y : Int32} (hS : Sh R) (h : RFt M k p) : cal d 115 [.ref 127, .int x, .int y] M R = some (.inl none, M, R) := by
  obtain ⟨nN, k127, k128, l128, k129, l129, k130, l130, k131, l131, k132, l132, k133, l133, k134, l134, k135, l135, k136, l136, k137, l137, k138, l138, k139, l139, k140, l140, k141, l141, k142, l142, k143, l143, k144, l144, k145, l145, k146, l146, f127_1, f127_2, f127_3, f127_4, f127_6, f127_7, f127_17, f127_18, f127_19, f127_22, f127_24, f127_25, f127_26, f127_29, f127_30, f127_31, f127_32, f127_33⟩ := modF hS
  obtain ⟨h0, h1, h2⟩ := h
  have z : ¬ k ≤ 0 := by omega
  rw [e115]
  simp (disch := first | assumption | exact nar_b0 | exact nar_b1 | exact nar_b | exact Or.inl rfl | exact Or.inr rfl | exact zin_t (by omega) (by omega) | exact Nat.le_of_ble_eq_true rfl | (rw [nI_cl (by omega)]; assumption) | omega) only [↓reduceIte, reduceCtorEq, not_true_eq_false, not_false_eq_true, q115_0, q115_1, q115_4, q115_7, q115_8, q115_9, q115_10, q115_13, q115_14, q115_15, q115_18, kl_int, kl_ref, kl_tok, cS_nil, cS_int, cS_ref, cS_long, tl_some, tl_none, List.cons_append, List.nil_append, nI_add, nI_ltb, nI_leb, nI_eqb, nI_cl, zin_nI, h1, z]
theorem passesWord_no {k p : Nat} {w : Value} (hS : Sh R) (h : RFt M k p) {a : Nat} : cal d 120 [.ref 127, .ref a] M R = some (.inl (some (.int (nI 0))), M, R) := by
  obtain ⟨nN, k127, k128, l128, k129, l129, k130, l130, k131, l131, k132, l132, k133, l133, k134, l134, k135, l135, k136, l136, k137, l137, k138, l138, k139, l139, k140, l140, k141, l141, k142, l142, k143, l143, k144, l144, k145, l145, k146, l146, f127_1, f127_2, f127_3, f127_4, f127_6, f127_7, f127_17, f127_18, f127_19, f127_22, f127_24, f127_25, f127_26, f127_29, f127_30, f127_31, f127_32, f127_33⟩ := modF hS
  obtain ⟨h0, h1, h2⟩ := h
  have z : 0 < k := by omega
  rw [e120]
  simp (disch := first | assumption | exact nar_b0 | exact nar_b1 | exact nar_b | exact Or.inl rfl | exact Or.inr rfl | exact zin_t (by omega) (by omega) | exact Nat.le_of_ble_eq_true rfl | (rw [nI_cl (by omega)]; assumption) | omega) only [↓reduceIte, reduceCtorEq, not_true_eq_false, not_false_eq_true, q120_0, q120_1, q120_4, q120_7, q120_8, q120_9, q120_12, q120_15, q120_16, q120_17, q120_18i, q120_18a, q120_19, q120_22, q120_23, q120_26, q120_27, q120_30, q120_31, kl_int, kl_ref, kl_tok, cS_nil, cS_int, cS_ref, cS_long, tl_some, tl_none, List.cons_append, List.nil_append, nI_add, nI_ltb, nI_leb, nI_eqb, nI_cl, zin_nI, h1, z]
theorem passes_ {c : Int32} (hS : Sh R) (hP : RCx M b n i) : cal (d + 1) 121 [.ref 127, .int c] M R = some (.inl (some (.int (b2i (isH b n (sk b n i) c)))), hrm M (if isH b n (sk b n i) c then sk b n i + 1 else sk b n i), R) := by
  obtain ⟨nN, k127, k128, l128, k129, l129, k130, l130, k131, l131, k132, l132, k133, l133, k134, l134, k135, l135, k136, l136, k137, l137, k138, l138, k139, l139, k140, l140, k141, l141, k142, l142, k143, l143, k144, l144, k145, l145, k146, l146, f127_1, f127_2, f127_3, f127_4, f127_6, f127_7, f127_17, f127_18, f127_19, f127_22, f127_24, f127_25, f127_26, f127_29, f127_30, f127_31, f127_32, f127_33⟩ := modF hS
  have h1 := sign_ (d := d) hS hP.1
  have h12 := hP.2.2
  have h10 : hrm M (sk b n i) 127 10 = nI (sk b n i) := up2_at
  have h9 : hrm M (sk b n i) 127 9 = nI n := by rw [hrm_s (by decide)]; exact hP.1.1
  have hle := sk_le (b := b) hP.2.1
  have hn := hP.1.2.2.1
  have y0 : ¬ 0 < 0 := by decide
  rw [e121]
  by_cases z : sk b n i < n
  · have e : chr b n (sk b n i) = b (sk b n i) := if_pos z
    rw [e] at h1
    by_cases c1 : b (sk b n i) = c
    · rw [show isH b n (sk b n i) c = true from decide_eq_true ⟨z, c1⟩]
      simp (disch := first | assumption | exact nar_b0 | exact nar_b1 | exact nar_b | exact Or.inl rfl | exact Or.inr rfl | exact zin_t (by omega) (by omega) | exact Nat.le_of_ble_eq_true rfl | (rw [nI_cl (by omega)]; assumption) | omega) only [↓reduceIte, reduceCtorEq, not_true_eq_false, not_false_eq_true, q121_0, q121_1, q121_4, q121_7, q121_8, q121_11, q121_12, q121_15, q121_16, q121_19, q121_20, q121_23, q121_26, q121_27, q121_28, q121_29i, q121_29a, q121_30, q121_33, q121_34, q121_35, q121_38, q121_39, kl_int, kl_ref, kl_tok, cS_nil, cS_int, cS_ref, cS_long, tl_some, tl_none, List.cons_append, List.nil_append, nI_add, nI_ltb, nI_leb, nI_eqb, nI_cl, zin_nI, h12, y0, h1, zk0_inl, c1, h10, h9, z]
      unfold hrm
      rw [up2_twice]
      rfl
    · rw [show isH b n (sk b n i) c = false from decide_eq_false (fun e => c1 e.2)]
      simp (disch := first | assumption | exact nar_b0 | exact nar_b1 | exact nar_b | exact Or.inl rfl | exact Or.inr rfl | exact zin_t (by omega) (by omega) | exact Nat.le_of_ble_eq_true rfl | (rw [nI_cl (by omega)]; assumption) | omega) only [↓reduceIte, reduceCtorEq, not_true_eq_false, not_false_eq_true, q121_0, q121_1, q121_4, q121_7, q121_8, q121_11, q121_12, q121_15, q121_16, q121_19, q121_20, q121_23, q121_26, q121_27, q121_28, q121_29i, q121_29a, q121_30, q121_33, q121_34, q121_35, q121_38, q121_39, kl_int, kl_ref, kl_tok, cS_nil, cS_int, cS_ref, cS_long, tl_some, tl_none, List.cons_append, List.nil_append, nI_add, nI_ltb, nI_leb, nI_eqb, nI_cl, zin_nI, h12, y0, h1, zk0_inl, c1]
      rfl
  · have e : chr b n (sk b n i) = nI 0 := if_neg z
    rw [e] at h1
    rw [show isH b n (sk b n i) c = false from decide_eq_false (fun e => z e.1)]
    by_cases c1 : nI 0 = c
    · subst c1
      simp (disch := first | assumption | exact nar_b0 | exact nar_b1 | exact nar_b | exact Or.inl rfl | exact Or.inr rfl | exact zin_t (by omega) (by omega) | exact Nat.le_of_ble_eq_true rfl | (rw [nI_cl (by omega)]; assumption) | omega) only [↓reduceIte, reduceCtorEq, not_true_eq_false, not_false_eq_true, q121_0, q121_1, q121_4, q121_7, q121_8, q121_11, q121_12, q121_15, q121_16, q121_19, q121_20, q121_23, q121_26, q121_27, q121_28, q121_29i, q121_29a, q121_30, q121_33, q121_34, q121_35, q121_38, q121_39, kl_int, kl_ref, kl_tok, cS_nil, cS_int, cS_ref, cS_long, tl_some, tl_none, List.cons_append, List.nil_append, nI_add, nI_ltb, nI_leb, nI_eqb, nI_cl, zin_nI, h12, y0, h1, zk0_inl, h10, h9, z]
      rfl
    · simp (disch := first | assumption | exact nar_b0 | exact nar_b1 | exact nar_b | exact Or.inl rfl | exact Or.inr rfl | exact zin_t (by omega) (by omega) | exact Nat.le_of_ble_eq_true rfl | (rw [nI_cl (by omega)]; assumption) | omega) only [↓reduceIte, reduceCtorEq, not_true_eq_false, not_false_eq_true, q121_0, q121_1, q121_4, q121_7, q121_8, q121_11, q121_12, q121_15, q121_16, q121_19, q121_20, q121_23, q121_26, q121_27, q121_28, q121_29i, q121_29a, q121_30, q121_33, q121_34, q121_35, q121_38, q121_39, kl_int, kl_ref, kl_tok, cS_nil, cS_int, cS_ref, cS_long, tl_some, tl_none, List.cons_append, List.nil_append, nI_add, nI_ltb, nI_leb, nI_eqb, nI_cl, zin_nI, h12, y0, h1, zk0_inl, c1]
      rfl
theorem needs_no {k p : Nat} {c : Int32} (hS : Sh R) (h : RFt M k p) : cal d 122 [.ref 127, .int c] M R = some (.inl none, M, R) := by
  obtain ⟨nN, k127, k128, l128, k129, l129, k130, l130, k131, l131, k132, l132, k133, l133, k134, l134, k135, l135, k136, l136, k137, l137, k138, l138, k139, l139, k140, l140, k141, l141, k142, l142, k143, l143, k144, l144, k145, l145, k146, l146, f127_1, f127_2, f127_3, f127_4, f127_6, f127_7, f127_17, f127_18, f127_19, f127_22, f127_24, f127_25, f127_26, f127_29, f127_30, f127_31, f127_32, f127_33⟩ := modF hS
  obtain ⟨h0, h1, h2⟩ := h
  have z : ¬ k = 0 := by omega
  rw [e122]
  simp (disch := first | assumption | exact nar_b0 | exact nar_b1 | exact nar_b | exact Or.inl rfl | exact Or.inr rfl | exact zin_t (by omega) (by omega) | exact Nat.le_of_ble_eq_true rfl | (rw [nI_cl (by omega)]; assumption) | omega) only [↓reduceIte, reduceCtorEq, not_true_eq_false, not_false_eq_true, q122_0, q122_1, q122_4, q122_7, q122_8, q122_9, q122_12, q122_15, q122_16, q122_17, q122_18, q122_21, q122_24, kl_int, kl_ref, kl_tok, cS_nil, cS_int, cS_ref, cS_long, tl_some, tl_none, List.cons_append, List.nil_append, nI_add, nI_ltb, nI_leb, nI_eqb, nI_cl, zin_nI, h1, z]
theorem needs_t {c : Int32} (hS : Sh R) (hP : RCx M b n i) (h : isH b n (sk b n i) c = true) : cal (d + 2) 122 [.ref 127, .int c] M R = some (.inl none, hrm M (sk b n i + 1), R) := by
  obtain ⟨nN, k127, k128, l128, k129, l129, k130, l130, k131, l131, k132, l132, k133, l133, k134, l134, k135, l135, k136, l136, k137, l137, k138, l138, k139, l139, k140, l140, k141, l141, k142, l142, k143, l143, k144, l144, k145, l145, k146, l146, f127_1, f127_2, f127_3, f127_4, f127_6, f127_7, f127_17, f127_18, f127_19, f127_22, f127_24, f127_25, f127_26, f127_29, f127_30, f127_31, f127_32, f127_33⟩ := modF hS
  have h1 := passes_ (d := d) (c := c) hS hP
  have h12 := hP.2.2
  have y1 : (nI 1 = nI 0) = False := by decide +kernel
  rw [h] at h1
  rw [e122]
  simp (disch := first | assumption | exact nar_b0 | exact nar_b1 | exact nar_b | exact Or.inl rfl | exact Or.inr rfl | exact zin_t (by omega) (by omega) | exact Nat.le_of_ble_eq_true rfl | (rw [nI_cl (by omega)]; assumption) | omega) only [↓reduceIte, reduceCtorEq, not_true_eq_false, not_false_eq_true, q122_0, q122_1, q122_4, q122_7, q122_8, q122_9, q122_12, q122_15, q122_16, q122_17, q122_18, q122_21, q122_24, kl_int, kl_ref, kl_tok, cS_nil, cS_int, cS_ref, cS_long, tl_some, tl_none, List.cons_append, List.nil_append, nI_add, nI_ltb, nI_leb, nI_eqb, nI_cl, zin_nI, h12, h1, zk0_inl, b2i_t, y1]
theorem needs_f {c : Int32} (hS : Sh R) (hP : RCx M b n i) (h : isH b n (sk b n i) c = false) : cal (d + 2) 122 [.ref 127, .int c] M R = some (.inl none, up2 (up2 (hrm M (sk b n i)) 127 12 (nI 1)) 127 13 (nI (sk b n i)), R) := by
  obtain ⟨nN, k127, k128, l128, k129, l129, k130, l130, k131, l131, k132, l132, k133, l133, k134, l134, k135, l135, k136, l136, k137, l137, k138, l138, k139, l139, k140, l140, k141, l141, k142, l142, k143, l143, k144, l144, k145, l145, k146, l146, f127_1, f127_2, f127_3, f127_4, f127_6, f127_7, f127_17, f127_18, f127_19, f127_22, f127_24, f127_25, f127_26, f127_29, f127_30, f127_31, f127_32, f127_33⟩ := modF hS
  have h1 := passes_ (d := d) (c := c) hS hP
  have h12 := hP.2.2
  have h12' : hrm M (sk b n i) 127 12 = nI 0 := by rw [hrm_s (by decide)]; exact h12
  have h10 : hrm M (sk b n i) 127 10 = nI (sk b n i) := up2_at
  have h2 := wrong_ (d := d + 1) (R := R) (k := nI 1) (p := nI (sk b n i)) hS h12'
  rw [h] at h1
  have h1' : cal (d + 1) 121 [.ref 127, .int c] M R = some (.inl (some (.int (nI 0))), hrm M (sk b n i), R) := h1
  rw [e122]
  simp (disch := first | assumption | exact nar_b0 | exact nar_b1 | exact nar_b | exact Or.inl rfl | exact Or.inr rfl | exact zin_t (by omega) (by omega) | exact Nat.le_of_ble_eq_true rfl | (rw [nI_cl (by omega)]; assumption) | omega) only [↓reduceIte, reduceCtorEq, not_true_eq_false, not_false_eq_true, q122_0, q122_1, q122_4, q122_7, q122_8, q122_9, q122_12, q122_15, q122_16, q122_17, q122_18, q122_21, q122_24, kl_int, kl_ref, kl_tok, cS_nil, cS_int, cS_ref, cS_long, tl_some, tl_none, List.cons_append, List.nil_append, nI_add, nI_ltb, nI_leb, nI_eqb, nI_cl, zin_nI, h12, h1', zk0_inl, h10, h2]
end Rb
