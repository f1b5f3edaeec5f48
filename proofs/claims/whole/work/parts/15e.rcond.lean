-- the reference's codes
def opc (x : Int) : Int := if x < 100 then x else x + 900
def fl1 (c : CdS) : List Int := if c.1 < 3 then [opc c.2.1, opc c.2.2, 2060 + (c.1 : Int)] else [2000 + (c.1 : Int)]
def flat (L : List CdS) : List Int := L.flatMap fl1
theorem flat_app {L L' : List CdS} : flat (L ++ L') = flat L ++ flat L' := List.flatMap_append
theorem flat_op {k : Nat} (h : 3 ≤ k) : flat [((k, 0, 0) : CdS)] = [2000 + (k : Int)] := by
  unfold flat fl1
  simp
  omega
/-- the codes so far -/
def CdM (M : ZM) (C : List Int) : Prop := M 127 20 = nI C.length ∧ ∀ (t : Nat) (h : t < C.length), M 134 t = iI C[t]
theorem CdM.fr {M M' : ZM} {C : List Int} (h : CdM M C) (h20 : M' 127 20 = M 127 20) (h134 : M' 134 = M 134) : CdM M' C := by
  unfold CdM
  rw [h20, h134]
  exact h
/-- what reading a condition changes -/
def RCf (M M' : ZM) : Prop := (∀ c, c ≠ 127 → c ≠ 134 → M' c = M c) ∧ ∀ q, q ≠ 10 → q ≠ 11 → q ≠ 12 → q ≠ 13 → q ≠ 15 → q ≠ 20 → M' 127 q = M 127 q
theorem RCf.refl {M : ZM} : RCf M M := ⟨fun _ _ _ => rfl, fun _ _ _ _ _ _ _ => rfl⟩
theorem RCf.trans {M M1 M2 : ZM} (h1 : RCf M M1) (h2 : RCf M1 M2) : RCf M M2 := ⟨fun c h h' => by rw [h2.1 c h h', h1.1 c h h'], fun q a b c e f g => by rw [h2.2 q a b c e f g, h1.2 q a b c e f g]⟩
theorem RNf.cf {M M' : ZM} (h : RNf M M') : RCf M M' := ⟨fun c a _ => h.1 c a, fun q a b c e _ _ => h.2 q a b c e⟩
def adR (M : ZM) (c : Nat) (x : Int) : ZM := up2 (up2 M 134 c (iI x)) 127 20 (nI (c + 1))
section Re
variable {d n i : Nat} {M : ZM} {R : ZH} {b : Nat → Int32} {C : List Int}
theorem adds_ {x : Int} (hS : Sh R) (h0 : M 127 12 = nI 0) (hC : CdM M C) (hl : C.length ≤ 510) : cal d 124 [.ref 127, .int (iI x)] M R = some (.inl none, adR M C.length x, R) := by
  obtain ⟨nN, k127, k128, l128, k129, l129, k130, l130, k131, l131, k132, l132, k133, l133, k134, l134, k135, l135, k136, l136, k137, l137, k138, l138, k139, l139, k140, l140, k141, l141, k142, l142, k143, l143, k144, l144, k145, l145, k146, l146, f127_1, f127_2, f127_3, f127_4, f127_6, f127_7, f127_17, f127_18, f127_19, f127_22, f127_24, f127_25, f127_26, f127_29, f127_30, f127_31, f127_32, f127_33⟩ := modF hS
  have h20 := hC.1
  have w20 : up2 M 134 C.length (iI x) 127 20 = nI C.length := by rw [up2_c (by decide)]; exact h20
  rw [e124]
  simp (disch := first | assumption | exact nar_b0 | exact nar_b1 | exact nar_b | exact Or.inl rfl | exact Or.inr rfl | exact zin_t (by omega) (by omega) | exact Nat.le_of_ble_eq_true rfl | (rw [nI_cl (by omega)]; assumption) | omega) only [↓reduceIte, reduceCtorEq, not_true_eq_false, not_false_eq_true, q124_0, q124_1, q124_4, q124_7, q124_8, q124_9, q124_12, q124_13, q124_16, q124_17, q124_18, q124_19i, q124_19a, q124_20, q124_23, q124_24, q124_25, q124_28, kl_int, kl_ref, kl_tok, cS_nil, cS_int, cS_ref, cS_long, tl_some, tl_none, List.cons_append, List.nil_append, nI_add, nI_ltb, nI_leb, nI_eqb, nI_cl, zin_nI, h0, Nat.le_refl, h20, w20]
  rfl
theorem adds_no {k p : Nat} {x : Int32} (hS : Sh R) (h : RFt M k p) : cal d 124 [.ref 127, .int x] M R = some (.inl none, M, R) := by
  obtain ⟨nN, k127, k128, l128, k129, l129, k130, l130, k131, l131, k132, l132, k133, l133, k134, l134, k135, l135, k136, l136, k137, l137, k138, l138, k139, l139, k140, l140, k141, l141, k142, l142, k143, l143, k144, l144, k145, l145, k146, l146, f127_1, f127_2, f127_3, f127_4, f127_6, f127_7, f127_17, f127_18, f127_19, f127_22, f127_24, f127_25, f127_26, f127_29, f127_30, f127_31, f127_32, f127_33⟩ := modF hS
  obtain ⟨h0, h1, h2⟩ := h
  have z : ¬ k ≤ 0 := by omega
  rw [e124]
  simp (disch := first | assumption | exact nar_b0 | exact nar_b1 | exact nar_b | exact Or.inl rfl | exact Or.inr rfl | exact zin_t (by omega) (by omega) | exact Nat.le_of_ble_eq_true rfl | (rw [nI_cl (by omega)]; assumption) | omega) only [↓reduceIte, reduceCtorEq, not_true_eq_false, not_false_eq_true, q124_0, q124_1, q124_4, q124_7, q124_8, q124_9, q124_12, q124_13, q124_16, q124_17, q124_18, q124_19i, q124_19a, q124_20, q124_23, q124_24, q124_25, q124_28, kl_int, kl_ref, kl_tok, cS_nil, cS_int, cS_ref, cS_long, tl_some, tl_none, List.cons_append, List.nil_append, nI_add, nI_ltb, nI_leb, nI_eqb, nI_cl, zin_nI, h1, z]
theorem CdM.ad {x : Int} (hC : CdM M C) : CdM (adR M C.length x) (C ++ [x]) := by
  have hl : (C ++ [x]).length = C.length + 1 := by simp
  refine ⟨by unfold adR; rw [up2_at, hl], fun t ht => ?_⟩
  unfold adR
  rw [up2_c (by decide)]
  by_cases e : t = C.length
  · subst e
    rw [up2_at]
    simp
  · rw [up2_s e, List.getElem_append_left (by omega)]
    exact hC.2 t (by omega)
theorem adR_f {c : Nat} {x : Int} : RCf M (adR M c x) := ⟨fun q a e => by unfold adR; rw [up2_ne a, up2_ne e], fun q _ _ _ _ _ g => by unfold adR; rw [up2_s g, up2_ne (by decide)]⟩
theorem adR_cx {c : Nat} {x : Int} (hP : RCx M b n i) : RCx (adR M c x) b n i := by
  obtain ⟨⟨h1, h2, h3, h4⟩, h5, h6⟩ := hP
  have g : ∀ q, q ≠ 20 → adR M c x 127 q = M 127 q := fun q h => by unfold adR; rw [up2_s h, up2_ne (by decide)]
  refine ⟨⟨?_, ?_, h3, ?_⟩, h5, ?_⟩
  · rw [g _ (by decide)]; exact h1
  · rw [g _ (by decide)]; exact h2
  · intro k hk; unfold adR; rw [up2_ne (by decide), up2_ne (by decide)]; exact h4 k hk
  · rw [g _ (by decide)]; exact h6
theorem field_ {k : Nat} (hk : k < 5) : cal d 125 [.int (nI k)] M R = some (.inl (some (.ref (1000001 + (12 + k)))), M, R) := by
  rw [e125]
  rcases (show k = 0 ∨ k = 1 ∨ k = 2 ∨ k = 3 ∨ k = 4 by omega) with rfl | rfl | rfl | rfl | rfl
  · simp (disch := first | assumption | exact nar_b0 | exact nar_b1 | exact nar_b | exact Or.inl rfl | exact Or.inr rfl | exact zin_t (by omega) (by omega) | exact Nat.le_of_ble_eq_true rfl | (rw [nI_cl (by omega)]; assumption) | omega) only [↓reduceIte, reduceCtorEq, not_true_eq_false, not_false_eq_true, q125_0, q125_1c0, q125_1c1, q125_1c2, q125_1c3, q125_1d, q125_32, q125_34, q125_35, q125_37, q125_38, q125_40, q125_41, q125_43, q125_44, q125_46, kl_int, kl_ref, kl_tok, cS_nil, cS_int, cS_ref, cS_long, tl_some, tl_none, List.cons_append, List.nil_append, nI_add, nI_ltb, nI_leb, nI_eqb, nI_cl, zin_nI]
  · simp (disch := first | assumption | exact nar_b0 | exact nar_b1 | exact nar_b | exact Or.inl rfl | exact Or.inr rfl | exact zin_t (by omega) (by omega) | exact Nat.le_of_ble_eq_true rfl | (rw [nI_cl (by omega)]; assumption) | omega) only [↓reduceIte, reduceCtorEq, not_true_eq_false, not_false_eq_true, q125_0, q125_1c0, q125_1c1, q125_1c2, q125_1c3, q125_1d, q125_32, q125_34, q125_35, q125_37, q125_38, q125_40, q125_41, q125_43, q125_44, q125_46, kl_int, kl_ref, kl_tok, cS_nil, cS_int, cS_ref, cS_long, tl_some, tl_none, List.cons_append, List.nil_append, nI_add, nI_ltb, nI_leb, nI_eqb, nI_cl, zin_nI]
  · simp (disch := first | assumption | exact nar_b0 | exact nar_b1 | exact nar_b | exact Or.inl rfl | exact Or.inr rfl | exact zin_t (by omega) (by omega) | exact Nat.le_of_ble_eq_true rfl | (rw [nI_cl (by omega)]; assumption) | omega) only [↓reduceIte, reduceCtorEq, not_true_eq_false, not_false_eq_true, q125_0, q125_1c0, q125_1c1, q125_1c2, q125_1c3, q125_1d, q125_32, q125_34, q125_35, q125_37, q125_38, q125_40, q125_41, q125_43, q125_44, q125_46, kl_int, kl_ref, kl_tok, cS_nil, cS_int, cS_ref, cS_long, tl_some, tl_none, List.cons_append, List.nil_append, nI_add, nI_ltb, nI_leb, nI_eqb, nI_cl, zin_nI]
  · simp (disch := first | assumption | exact nar_b0 | exact nar_b1 | exact nar_b | exact Or.inl rfl | exact Or.inr rfl | exact zin_t (by omega) (by omega) | exact Nat.le_of_ble_eq_true rfl | (rw [nI_cl (by omega)]; assumption) | omega) only [↓reduceIte, reduceCtorEq, not_true_eq_false, not_false_eq_true, q125_0, q125_1c0, q125_1c1, q125_1c2, q125_1c3, q125_1d, q125_32, q125_34, q125_35, q125_37, q125_38, q125_40, q125_41, q125_43, q125_44, q125_46, kl_int, kl_ref, kl_tok, cS_nil, cS_int, cS_ref, cS_long, tl_some, tl_none, List.cons_append, List.nil_append, nI_add, nI_ltb, nI_leb, nI_eqb, nI_cl, zin_nI]
  · have z : (nI 4).toInt < 0 ∨ 3 < (nI 4).toInt := Or.inr (by decide +kernel)
    simp (disch := first | assumption | exact nar_b0 | exact nar_b1 | exact nar_b | exact Or.inl rfl | exact Or.inr rfl | exact zin_t (by omega) (by omega) | exact Nat.le_of_ble_eq_true rfl | (rw [nI_cl (by omega)]; assumption) | omega) only [↓reduceIte, reduceCtorEq, not_true_eq_false, not_false_eq_true, q125_0, q125_1c0, q125_1c1, q125_1c2, q125_1c3, q125_1d, q125_32, q125_34, q125_35, q125_37, q125_38, q125_40, q125_41, q125_43, q125_44, q125_46, kl_int, kl_ref, kl_tok, cS_nil, cS_int, cS_ref, cS_long, tl_some, tl_none, List.cons_append, List.nil_append, nI_add, nI_ltb, nI_leb, nI_eqb, nI_cl, zin_nI]
end Re
