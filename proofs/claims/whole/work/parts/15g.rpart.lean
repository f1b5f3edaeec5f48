-- the reference reads conditions
theorem fl_cmp {k : Nat} {l r : Int} (hk : k < 3) : flat [((k, l, r) : CdS)] = [opc l, opc r, 2060 + (k : Int)] := by
  unfold flat fl1
  simp [hk]
def RdO (R : ZH) (b : Nat → Int32) (n : Nat) (q : Option ZO) (M : ZM) (i : Nat) (C : List Int) (r : PR (List CdS)) : Prop :=
  (∀ st i', r = .inr (st, i') → (i ≤ i' ∧ i' ≤ n ∧ (flat st).length ≤ i' - i) ∧ ∃ M', q = some (.inl none, M', R) ∧ RCx M' b n i' ∧ CdM M' (C ++ flat st) ∧ M' 127 15 = M 127 15 ∧ RCf M M') ∧
  (∀ k p, r = .inl (k, p) → ∃ M', q = some (.inl none, M', R) ∧ RFx 510 M' b n k p ∧ RCf M M')
def RdC (R : ZH) (b : Nat → Int32) (n mi lo o : Nat) (P : Nat → PR (List CdS)) : Prop := ∀ (e : Nat) (M : ZM) (i : Nat) (C : List Int), lo ≤ e → FO M → RCx M b n i → CdM M C → C.length ≤ i → M 127 15 = nI o → RdO R b n (cal e mi [.ref 127] M R) M i C (P i)
theorem FO.rf {M M' : ZM} (h : FO M) (hf : RCf M M') : FO M' := fun j hj => by rw [hf.1 _ (by omega) (by omega), hf.1 _ (by omega) (by omega)]; exact h j hj
section Rg
variable {d n i : Nat} {M : ZM} {R : ZH} {b : Nat → Int32} {C : List Int}
theorem part_no {k p : Nat} (hS : Sh R) (h : RFt M k p) : cal d 129 [.ref 127] M R = some (.inl none, M, R) := by
  obtain ⟨nN, k127, k128, l128, k129, l129, k130, l130, k131, l131, k132, l132, k133, l133, k134, l134, k135, l135, k136, l136, k137, l137, k138, l138, k139, l139, k140, l140, k141, l141, k142, l142, k143, l143, k144, l144, k145, l145, k146, l146, f127_1, f127_2, f127_3, f127_4, f127_6, f127_7, f127_17, f127_18, f127_19, f127_22, f127_24, f127_25, f127_26, f127_29, f127_30, f127_31, f127_32, f127_33⟩ := modF hS
  obtain ⟨h0, h1, h2⟩ := h
  have z : ¬ k ≤ 0 := by omega
  rw [e129]
  simp (disch := first | assumption | exact nar_b0 | exact nar_b1 | exact nar_b | exact Or.inl rfl | exact Or.inr rfl | exact zin_t (by omega) (by omega) | exact Nat.le_of_ble_eq_true rfl | (rw [nI_cl (by omega)]; assumption) | omega) only [↓reduceIte, reduceCtorEq, not_true_eq_false, not_false_eq_true, q129_0, q129_1, q129_4, q129_7, q129_8, q129_9, q129_11, q129_14, q129_17, q129_18, q129_19, q129_22, q129_25, q129_26, q129_27, q129_30, q129_31i, q129_31a, q129_32, q129_35, q129_36, q129_37, q129_40, q129_41, q129_44, q129_47, q129_48, q129_49, q129_52, q129_54, q129_57, q129_58, q129_61, q129_62, q129_65, q129_68, q129_69, q129_70, q129_73, q129_76, q129_77, q129_78, q129_81, q129_82, q129_84, q129_87, q129_88i, q129_88a, q129_89, q129_92, q129_93, q129_94, q129_97, q129_98, q129_99, q129_102, q129_103, q129_106, q129_109, q129_110, q129_113, q129_116, q129_117, q129_118, q129_119, q129_122, q129_125, q129_126, q129_129, q129_130, q129_133, q129_136, q129_137, q129_139, q129_142, q129_143, q129_145, q129_148, q129_149, q129_151, q129_154, q129_155, q129_156, q129_157, q129_160, q129_163, q129_164i, q129_164a, q129_165, q129_168, q129_169, q129_170, q129_173, q129_174, q129_177, q129_178, q129_181, q129_182, q129_183, q129_186, kl_int, kl_ref, kl_tok, cS_nil, cS_int, cS_ref, cS_long, tl_some, tl_none, List.cons_append, List.nil_append, nI_add, nI_ltb, nI_leb, nI_eqb, nI_cl, zin_nI, h1, z]
theorem both_no {k p : Nat} (hS : Sh R) (h : RFt M k p) : cal (d + 1) 127 [.ref 127] M R = some (.inl none, M, R) := by
  obtain ⟨nN, k127, k128, l128, k129, l129, k130, l130, k131, l131, k132, l132, k133, l133, k134, l134, k135, l135, k136, l136, k137, l137, k138, l138, k139, l139, k140, l140, k141, l141, k142, l142, k143, l143, k144, l144, k145, l145, k146, l146, f127_1, f127_2, f127_3, f127_4, f127_6, f127_7, f127_17, f127_18, f127_19, f127_22, f127_24, f127_25, f127_26, f127_29, f127_30, f127_31, f127_32, f127_33⟩ := modF hS
  have h1 := part_no (d := d) hS h
  have h2 := passesWord_no (d := d) (w := tok) (a := 1000001 + 10) hS h
  have h2' : cal d 120 [.ref 127, .ref 1000011] M R = some (.inl (some (.int (nI 0))), M, R) := h2
  rw [e127]
  simp (disch := first | assumption | exact nar_b0 | exact nar_b1 | exact nar_b | exact Or.inl rfl | exact Or.inr rfl | exact zin_t (by omega) (by omega) | exact Nat.le_of_ble_eq_true rfl | (rw [nI_cl (by omega)]; assumption) | omega) only [↓reduceIte, reduceCtorEq, not_true_eq_false, not_false_eq_true, q127_0, q127_1, q127_5, q127_7, q127_10, q127_13, q127_14, q127_17, q127_18, q127_21, q127_24, q127_27, kl_int, kl_ref, kl_tok, cS_nil, cS_int, cS_ref, cS_long, tl_some, tl_none, List.cons_append, List.nil_append, nI_add, nI_ltb, nI_leb, nI_eqb, nI_cl, zin_nI, h1, zk0_inl]
  rw [q127_4]
  simp (disch := first | assumption | exact nar_b0 | exact nar_b1 | exact nar_b | exact Or.inl rfl | exact Or.inr rfl | exact zin_t (by omega) (by omega) | exact Nat.le_of_ble_eq_true rfl | (rw [nI_cl (by omega)]; assumption) | omega) only [↓reduceIte, reduceCtorEq, not_true_eq_false, not_false_eq_true, q127_0, q127_1, q127_5, q127_7, q127_10, q127_13, q127_14, q127_17, q127_18, q127_21, q127_24, q127_27, kl_int, kl_ref, kl_tok, cS_nil, cS_int, cS_ref, cS_long, tl_some, tl_none, List.cons_append, List.nil_append, nI_add, nI_ltb, nI_leb, nI_eqb, nI_cl, zin_nI, h2', zk0_inl]
theorem either_no {k p : Nat} (hS : Sh R) (h : RFt M k p) : cal (d + 2) 126 [.ref 127] M R = some (.inl none, M, R) := by
  obtain ⟨nN, k127, k128, l128, k129, l129, k130, l130, k131, l131, k132, l132, k133, l133, k134, l134, k135, l135, k136, l136, k137, l137, k138, l138, k139, l139, k140, l140, k141, l141, k142, l142, k143, l143, k144, l144, k145, l145, k146, l146, f127_1, f127_2, f127_3, f127_4, f127_6, f127_7, f127_17, f127_18, f127_19, f127_22, f127_24, f127_25, f127_26, f127_29, f127_30, f127_31, f127_32, f127_33⟩ := modF hS
  have h1 := both_no (d := d) hS h
  have h2 := passesWord_no (d := d + 1) (w := tok) (a := 1000001 + 9) hS h
  have h2' : cal (d + 1) 120 [.ref 127, .ref 1000010] M R = some (.inl (some (.int (nI 0))), M, R) := h2
  rw [e126]
  simp (disch := first | assumption | exact nar_b0 | exact nar_b1 | exact nar_b | exact Or.inl rfl | exact Or.inr rfl | exact zin_t (by omega) (by omega) | exact Nat.le_of_ble_eq_true rfl | (rw [nI_cl (by omega)]; assumption) | omega) only [↓reduceIte, reduceCtorEq, not_true_eq_false, not_false_eq_true, q126_0, q126_1, q126_5, q126_7, q126_10, q126_13, q126_14, q126_17, q126_18, q126_21, q126_24, q126_27, kl_int, kl_ref, kl_tok, cS_nil, cS_int, cS_ref, cS_long, tl_some, tl_none, List.cons_append, List.nil_append, nI_add, nI_ltb, nI_leb, nI_eqb, nI_cl, zin_nI, h1, zk0_inl]
  rw [q126_4]
  simp (disch := first | assumption | exact nar_b0 | exact nar_b1 | exact nar_b | exact Or.inl rfl | exact Or.inr rfl | exact zin_t (by omega) (by omega) | exact Nat.le_of_ble_eq_true rfl | (rw [nI_cl (by omega)]; assumption) | omega) only [↓reduceIte, reduceCtorEq, not_true_eq_false, not_false_eq_true, q126_0, q126_1, q126_5, q126_7, q126_10, q126_13, q126_14, q126_17, q126_18, q126_21, q126_24, q126_27, kl_int, kl_ref, kl_tok, cS_nil, cS_int, cS_ref, cS_long, tl_some, tl_none, List.cons_append, List.nil_append, nI_add, nI_ltb, nI_leb, nI_eqb, nI_cl, zin_nI, h2', zk0_inl]
end Rg
