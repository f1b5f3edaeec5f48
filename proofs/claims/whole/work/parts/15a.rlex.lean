-- the reference reads: signs, words
def RB (M : ZM) (b : Nat → Int32) (n i : Nat) : Prop := M 127 9 = nI n ∧ M 127 10 = nI i ∧ (n ≤ 500 ∧ i ≤ 600) ∧ ∀ k, k < n → M 133 k = b k
def hrm (M : ZM) (i : Nat) : ZM := up2 M 127 10 (nI i)
def chr (b : Nat → Int32) (n s : Nat) : Int32 := if s < n then b s else nI 0
theorem hrm_at {M : ZM} {i j : Nat} : hrm (hrm M i) j = hrm M j := up2_twice
theorem hrm_c {M : ZM} {i c : Nat} (h : c ≠ 127) : hrm M i c = M c := up2_ne h
theorem hrm_s {M : ZM} {i q : Nat} (h : q ≠ 10) : hrm M i 127 q = M 127 q := up2_s h
theorem hrm_self {M : ZM} {i : Nat} (h : M 127 10 = nI i) : hrm M i = M := by
  funext c q
  unfold hrm up2
  split
  · rename_i e
    rw [e.1, e.2, h]
  · rfl
theorem RB.mv {M : ZM} {b : Nat → Int32} {n i j : Nat} (h : RB M b n i) (hj : j ≤ 600) : RB (hrm M j) b n j := by
  obtain ⟨h1, h2, h3, h4⟩ := h
  refine ⟨?_, up2_at, ⟨h3.1, hj⟩, ?_⟩
  · rw [hrm_s (by decide)]; exact h1
  · intro k hk; rw [hrm_c (by decide)]; exact h4 k hk
theorem sk_out {b : Nat → Int32} {n i : Nat} (h : n ≤ i) : sk b n i = i := sk_id (fun e => by omega)
theorem sk_le6 {b : Nat → Int32} {n i : Nat} (h : n ≤ 500) (hi : i ≤ 600) : sk b n i ≤ 600 := by
  by_cases c : i ≤ n
  · have := sk_le (b := b) c; omega
  · rw [sk_out (by omega)]; exact hi
section Ra
variable {d n i : Nat} {M : ZM} {R : ZH} {b : Nat → Int32}
theorem sign_L (hS : Sh R) : ∀ (m i : Nat) (M : ZM), n - i = m → RB M b n i → exe d 116 0 [.ref 127] [] M R = some (.inl (some (.int (chr b n (sk b n i)))), hrm M (sk b n i), R) := by
  obtain ⟨nN, k127, k128, l128, k129, l129, k130, l130, k131, l131, k132, l132, k133, l133, k134, l134, k135, l135, k136, l136, k137, l137, k138, l138, k139, l139, k140, l140, k141, l141, k142, l142, k143, l143, k144, l144, k145, l145, k146, l146, f127_1, f127_2, f127_3, f127_4, f127_6, f127_7, f127_17, f127_18, f127_19, f127_22, f127_24, f127_25, f127_26, f127_29, f127_30, f127_31, f127_32, f127_33⟩ := modF hS
  intro m
  induction m with
  | zero =>
    intro i M hm hP
    obtain ⟨h9, h10, h6, h7⟩ := hP
    have z : n ≤ i := by omega
    rw [sk_out z, hrm_self h10, show chr b n i = nI 0 from if_neg (by omega), q116_0]
    simp (disch := first | assumption | exact nar_b0 | exact nar_b1 | exact nar_b | exact Or.inl rfl | exact Or.inr rfl | exact zin_t (by omega) (by omega) | exact Nat.le_of_ble_eq_true rfl | (rw [nI_cl (by omega)]; assumption) | omega) only [↓reduceIte, reduceCtorEq, not_true_eq_false, not_false_eq_true, q116_1, q116_4, q116_5, q116_8, q116_11, q116_12, q116_15, q116_16, q116_19, q116_20, q116_22, q116_25, q116_26i, q116_26a, q116_27, q116_30, q116_31, q116_32, q116_35, q116_38, q116_39, q116_42, q116_43, q116_46, q116_49, q116_50, q116_53, q116_54, q116_57, q116_58, q116_61, q116_62, kl_int, kl_ref, kl_tok, cS_nil, cS_int, cS_ref, cS_long, tl_some, tl_none, List.cons_append, List.nil_append, nI_add, nI_ltb, nI_leb, nI_eqb, nI_cl, zin_nI, h9, h10, z]
  | succ m ih =>
    intro i M hm hP
    have hP' := hP
    obtain ⟨h9, h10, h6, h7⟩ := hP
    have z : ¬ n ≤ i := by omega
    have hb := h7 i (by omega)
    by_cases c : b i = nI 32
    · rw [sk_step (by omega) c, ← hrm_at (M := M) (i := i + 1), ← ih (i + 1) (hrm M (i + 1)) (by omega) (hP'.mv (by omega))]
      rw [q116_0]
      simp (disch := first | assumption | exact nar_b0 | exact nar_b1 | exact nar_b | exact Or.inl rfl | exact Or.inr rfl | exact zin_t (by omega) (by omega) | exact Nat.le_of_ble_eq_true rfl | (rw [nI_cl (by omega)]; assumption) | omega) only [↓reduceIte, reduceCtorEq, not_true_eq_false, not_false_eq_true, q116_1, q116_4, q116_5, q116_8, q116_11, q116_12, q116_15, q116_16, q116_19, q116_20, q116_22, q116_25, q116_26i, q116_26a, q116_27, q116_30, q116_31, q116_32, q116_35, q116_38, q116_39, q116_42, q116_43, q116_46, q116_49, q116_50, q116_53, q116_54, q116_57, q116_58, q116_61, q116_62, kl_int, kl_ref, kl_tok, cS_nil, cS_int, cS_ref, cS_long, tl_some, tl_none, List.cons_append, List.nil_append, nI_add, nI_ltb, nI_leb, nI_eqb, nI_cl, zin_nI, h9, h10, z, hb, c]
      rfl
    · rw [sk_id (fun e => c e.2), hrm_self h10, show chr b n i = b i from if_pos (by omega), q116_0]
      simp (disch := first | assumption | exact nar_b0 | exact nar_b1 | exact nar_b | exact Or.inl rfl | exact Or.inr rfl | exact zin_t (by omega) (by omega) | exact Nat.le_of_ble_eq_true rfl | (rw [nI_cl (by omega)]; assumption) | omega) only [↓reduceIte, reduceCtorEq, not_true_eq_false, not_false_eq_true, q116_1, q116_4, q116_5, q116_8, q116_11, q116_12, q116_15, q116_16, q116_19, q116_20, q116_22, q116_25, q116_26i, q116_26a, q116_27, q116_30, q116_31, q116_32, q116_35, q116_38, q116_39, q116_42, q116_43, q116_46, q116_49, q116_50, q116_53, q116_54, q116_57, q116_58, q116_61, q116_62, kl_int, kl_ref, kl_tok, cS_nil, cS_int, cS_ref, cS_long, tl_some, tl_none, List.cons_append, List.nil_append, nI_add, nI_ltb, nI_leb, nI_eqb, nI_cl, zin_nI, h9, h10, z, hb, c]
theorem sign_ (hS : Sh R) (hP : RB M b n i) : cal d 116 [.ref 127] M R = some (.inl (some (.int (chr b n (sk b n i)))), hrm M (sk b n i), R) := by
  rw [e116]
  exact sign_L hS _ i M rfl hP
theorem isSmall_ {k : Nat} (hS : Sh R) (hP : RB M b n i) (hk : k ≤ 1000) : cal d 117 [.ref 127, .int (nI k)] M R = some (.inl (some (.int (b2i (sml b n k)))), M, R) := by
  obtain ⟨nN, k127, k128, l128, k129, l129, k130, l130, k131, l131, k132, l132, k133, l133, k134, l134, k135, l135, k136, l136, k137, l137, k138, l138, k139, l139, k140, l140, k141, l141, k142, l142, k143, l143, k144, l144, k145, l145, k146, l146, f127_1, f127_2, f127_3, f127_4, f127_6, f127_7, f127_17, f127_18, f127_19, f127_22, f127_24, f127_25, f127_26, f127_29, f127_30, f127_31, f127_32, f127_33⟩ := modF hS
  obtain ⟨h9, h10, h6, h7⟩ := hP
  unfold sml
  rw [e117]
  by_cases z : n ≤ k
  · rw [decide_eq_false (by omega)]
    simp (disch := first | assumption | exact nar_b0 | exact nar_b1 | exact nar_b | exact Or.inl rfl | exact Or.inr rfl | exact zin_t (by omega) (by omega) | exact Nat.le_of_ble_eq_true rfl | (rw [nI_cl (by omega)]; assumption) | omega) only [↓reduceIte, reduceCtorEq, not_true_eq_false, not_false_eq_true, q117_0, q117_1, q117_2, q117_5, q117_8, q117_9, q117_12, q117_13, q117_14, q117_16, q117_19, q117_20, q117_23, q117_24, q117_25, q117_27, q117_30, q117_31, q117_34, q117_35, kl_int, kl_ref, kl_tok, cS_nil, cS_int, cS_ref, cS_long, tl_some, tl_none, List.cons_append, List.nil_append, nI_add, nI_ltb, nI_leb, nI_eqb, nI_cl, zin_nI, h9, z]
    rfl
  · have hb := h7 k (by omega)
    by_cases z1 : b k < nI 97
    · rw [decide_eq_false (fun e => absurd e.2.1 (Int32.not_le.mpr z1))]
      simp (disch := first | assumption | exact nar_b0 | exact nar_b1 | exact nar_b | exact Or.inl rfl | exact Or.inr rfl | exact zin_t (by omega) (by omega) | exact Nat.le_of_ble_eq_true rfl | (rw [nI_cl (by omega)]; assumption) | omega) only [↓reduceIte, reduceCtorEq, not_true_eq_false, not_false_eq_true, q117_0, q117_1, q117_2, q117_5, q117_8, q117_9, q117_12, q117_13, q117_14, q117_16, q117_19, q117_20, q117_23, q117_24, q117_25, q117_27, q117_30, q117_31, q117_34, q117_35, kl_int, kl_ref, kl_tok, cS_nil, cS_int, cS_ref, cS_long, tl_some, tl_none, List.cons_append, List.nil_append, nI_add, nI_ltb, nI_leb, nI_eqb, nI_cl, zin_nI, h9, z, hb, z1]
      rfl
    · by_cases z2 : nI 122 < b k
      · rw [decide_eq_false (fun e => absurd e.2.2 (Int32.not_le.mpr z2))]
        simp (disch := first | assumption | exact nar_b0 | exact nar_b1 | exact nar_b | exact Or.inl rfl | exact Or.inr rfl | exact zin_t (by omega) (by omega) | exact Nat.le_of_ble_eq_true rfl | (rw [nI_cl (by omega)]; assumption) | omega) only [↓reduceIte, reduceCtorEq, not_true_eq_false, not_false_eq_true, q117_0, q117_1, q117_2, q117_5, q117_8, q117_9, q117_12, q117_13, q117_14, q117_16, q117_19, q117_20, q117_23, q117_24, q117_25, q117_27, q117_30, q117_31, q117_34, q117_35, kl_int, kl_ref, kl_tok, cS_nil, cS_int, cS_ref, cS_long, tl_some, tl_none, List.cons_append, List.nil_append, nI_add, nI_ltb, nI_leb, nI_eqb, nI_cl, zin_nI, h9, z, hb, z1, z2]
        rfl
      · rw [decide_eq_true ⟨by omega, Int32.not_lt.mp z1, Int32.not_lt.mp z2⟩]
        simp (disch := first | assumption | exact nar_b0 | exact nar_b1 | exact nar_b | exact Or.inl rfl | exact Or.inr rfl | exact zin_t (by omega) (by omega) | exact Nat.le_of_ble_eq_true rfl | (rw [nI_cl (by omega)]; assumption) | omega) only [↓reduceIte, reduceCtorEq, not_true_eq_false, not_false_eq_true, q117_0, q117_1, q117_2, q117_5, q117_8, q117_9, q117_12, q117_13, q117_14, q117_16, q117_19, q117_20, q117_23, q117_24, q117_25, q117_27, q117_30, q117_31, q117_34, q117_35, kl_int, kl_ref, kl_tok, cS_nil, cS_int, cS_ref, cS_long, tl_some, tl_none, List.cons_append, List.nil_append, nI_add, nI_ltb, nI_leb, nI_eqb, nI_cl, zin_nI, h9, z, hb, z1, z2]
        rfl
theorem isFigure_ {k : Nat} (hS : Sh R) (hP : RB M b n i) (hk : k ≤ 1000) : cal d 118 [.ref 127, .int (nI k)] M R = some (.inl (some (.int (b2i (decide (k < n ∧ nI 48 ≤ b k ∧ b k ≤ nI 57))))), M, R) := by
  obtain ⟨nN, k127, k128, l128, k129, l129, k130, l130, k131, l131, k132, l132, k133, l133, k134, l134, k135, l135, k136, l136, k137, l137, k138, l138, k139, l139, k140, l140, k141, l141, k142, l142, k143, l143, k144, l144, k145, l145, k146, l146, f127_1, f127_2, f127_3, f127_4, f127_6, f127_7, f127_17, f127_18, f127_19, f127_22, f127_24, f127_25, f127_26, f127_29, f127_30, f127_31, f127_32, f127_33⟩ := modF hS
  obtain ⟨h9, h10, h6, h7⟩ := hP
  rw [e118]
  by_cases z : n ≤ k
  · rw [decide_eq_false (by omega)]
    simp (disch := first | assumption | exact nar_b0 | exact nar_b1 | exact nar_b | exact Or.inl rfl | exact Or.inr rfl | exact zin_t (by omega) (by omega) | exact Nat.le_of_ble_eq_true rfl | (rw [nI_cl (by omega)]; assumption) | omega) only [↓reduceIte, reduceCtorEq, not_true_eq_false, not_false_eq_true, q118_0, q118_1, q118_2, q118_5, q118_8, q118_9, q118_12, q118_13, q118_14, q118_16, q118_19, q118_20, q118_23, q118_24, q118_25, q118_27, q118_30, q118_31, q118_34, q118_35, kl_int, kl_ref, kl_tok, cS_nil, cS_int, cS_ref, cS_long, tl_some, tl_none, List.cons_append, List.nil_append, nI_add, nI_ltb, nI_leb, nI_eqb, nI_cl, zin_nI, h9, z]
    rfl
  · have hb := h7 k (by omega)
    by_cases z1 : b k < nI 48
    · rw [decide_eq_false (fun e => absurd e.2.1 (Int32.not_le.mpr z1))]
      simp (disch := first | assumption | exact nar_b0 | exact nar_b1 | exact nar_b | exact Or.inl rfl | exact Or.inr rfl | exact zin_t (by omega) (by omega) | exact Nat.le_of_ble_eq_true rfl | (rw [nI_cl (by omega)]; assumption) | omega) only [↓reduceIte, reduceCtorEq, not_true_eq_false, not_false_eq_true, q118_0, q118_1, q118_2, q118_5, q118_8, q118_9, q118_12, q118_13, q118_14, q118_16, q118_19, q118_20, q118_23, q118_24, q118_25, q118_27, q118_30, q118_31, q118_34, q118_35, kl_int, kl_ref, kl_tok, cS_nil, cS_int, cS_ref, cS_long, tl_some, tl_none, List.cons_append, List.nil_append, nI_add, nI_ltb, nI_leb, nI_eqb, nI_cl, zin_nI, h9, z, hb, z1]
      rfl
    · by_cases z2 : nI 57 < b k
      · rw [decide_eq_false (fun e => absurd e.2.2 (Int32.not_le.mpr z2))]
        simp (disch := first | assumption | exact nar_b0 | exact nar_b1 | exact nar_b | exact Or.inl rfl | exact Or.inr rfl | exact zin_t (by omega) (by omega) | exact Nat.le_of_ble_eq_true rfl | (rw [nI_cl (by omega)]; assumption) | omega) only [↓reduceIte, reduceCtorEq, not_true_eq_false, not_false_eq_true, q118_0, q118_1, q118_2, q118_5, q118_8, q118_9, q118_12, q118_13, q118_14, q118_16, q118_19, q118_20, q118_23, q118_24, q118_25, q118_27, q118_30, q118_31, q118_34, q118_35, kl_int, kl_ref, kl_tok, cS_nil, cS_int, cS_ref, cS_long, tl_some, tl_none, List.cons_append, List.nil_append, nI_add, nI_ltb, nI_leb, nI_eqb, nI_cl, zin_nI, h9, z, hb, z1, z2]
        rfl
      · rw [decide_eq_true ⟨by omega, Int32.not_lt.mp z1, Int32.not_lt.mp z2⟩]
        simp (disch := first | assumption | exact nar_b0 | exact nar_b1 | exact nar_b | exact Or.inl rfl | exact Or.inr rfl | exact zin_t (by omega) (by omega) | exact Nat.le_of_ble_eq_true rfl | (rw [nI_cl (by omega)]; assumption) | omega) only [↓reduceIte, reduceCtorEq, not_true_eq_false, not_false_eq_true, q118_0, q118_1, q118_2, q118_5, q118_8, q118_9, q118_12, q118_13, q118_14, q118_16, q118_19, q118_20, q118_23, q118_24, q118_25, q118_27, q118_30, q118_31, q118_34, q118_35, kl_int, kl_ref, kl_tok, cS_nil, cS_int, cS_ref, cS_long, tl_some, tl_none, List.cons_append, List.nil_append, nI_add, nI_ltb, nI_leb, nI_eqb, nI_cl, zin_nI, h9, z, hb, z1, z2]
        rfl
end Ra
