-- the class reads conditions
theorem pCmp_pos {b : Nat → Int32} {n i i' : Nat} {st : List CdS} (hi : i ≤ n) (h : pCmp b n i = .inr (st, i')) : i ≤ i' ∧ i' ≤ n ∧ 2 * st.length ≤ i' - i ∧ 2 ≤ i' - i := by
  unfold pCmp at h
  split at h
  · cases h
  · rename_i l i1 e1
    have p1 := pOp_pos hi e1
    have s1 := sk_ge b n i1
    have s2 := sk_le (b := b) p1.2.1
    split at h
    · cases h
    · rename_i c
      have hlt : sk b n i1 < n := by
        by_cases q : sk b n i1 < n
        · exact q
        · exfalso
          apply c
          have z : ∀ x, isH b n (sk b n i1) x = false := fun x => decide_eq_false (fun r => q r.1)
          unfold kOf
          rw [z, z, z]
          simp
      split at h
      · cases h
      · rename_i r i2 e2
        have p2 := pOp_pos (by omega) e2
        cases h
        simp
        omega
def CdR (R : ZH) (b : Nat → Int32) (n a mi lo nst : Nat) (P : Nat → PR (List CdS)) : Prop := ∀ (e : Nat) (M : ZM) (i : Nat) (acc : List CdS), lo ≤ e → PCx M b n i → FO M → ClR M a acc → 2 * acc.length ≤ i →
  (∀ st i', P i = .inr (st, i') → i ≤ i' ∧ i' ≤ n ∧ 2 * st.length ≤ i' - i ∧ ∃ M', cal e mi [.ref 92, .ref a, .int (nI nst)] M R = some (.inl (some (.int (nI 1))), M', R) ∧ PCx M' b n i' ∧ ClR M' a (acc ++ st) ∧ CdF a M M') ∧
  (∀ k p, P i = .inl (k, p) → ∃ M', cal e mi [.ref 92, .ref a, .int (nI nst)] M R = some (.inl (some (.int (nI 0))), M', R) ∧ CdE a M M' k p)
theorem isCl_n {a : Nat} (h : isCl a) : a ≠ 92 ∧ a ≠ 93 ∧ 94 ≤ a ∧ a + 3 ≤ 105 := by rcases h with rfl | rfl | rfl <;> decide
theorem FO.cd {M M' : ZM} {a : Nat} (h : FO M) (ha : isCl a) (hM : ∀ c, c ≠ 92 → (c < a ∨ a + 3 < c) → M' c = M c) : FO M' := h.fr (fun c hc => hM c (by omega) (by have := isCl_n ha; omega))
section Ce
variable {d n i a : Nat} {M : ZM} {R : ZH} {b : Nat → Int32}
theorem cmp_1 {e l : Nat} {acc : List CdS} {v : Int} {i1 : Nat} (ha : isCl a) (he : 6 ≤ e) (hS : Sh R) (hP : PCx M b n i1) (h6 : M 92 6 = iI v) (hc : ¬ (kOf b n (sk b n i1) = 2 ∧ isH b n (sk b n i1) (nI 62) = false)) : sk b n i1 < n ∧ exe e 45 9 [.ref 92, .ref a, tok, tok] [] M R = exe e 45 80 [.ref 92, .ref a, .int (iI v), .int (nI (kOf b n (sk b n i1)))] [] (atM M (sk b n i1 + 1)) R := by
  obtain ⟨d, rfl⟩ : ∃ d, e = d + 6 := ⟨e - 6, by omega⟩
  obtain ⟨nN, k92, k93, l93, k94, k95, l95, k96, l96, k97, l97, k98, k99, l99, k100, l100, k101, l101, k102, k103, l103, k104, l104, k105, l105, f92_0, f92_1, f94_0, f94_1, f94_2, f92_2, f98_0, f98_1, f98_2, f92_3, f102_0, f102_1, f102_2⟩ := parF hS
  have hle := sk_le (b := b) hP.2.2.1.1
  have hsk := skipBlanks_ (d := d + 5) (R := R) hS hP
  have hP2 : PCx (atM M (sk b n i1)) b n (sk b n i1) := hP.mv hle
  have h5 := hP2.2.1
  have h60 := isHereC_ (d := d + 5) (R := R) (c := nI 60) hS hP2
  have h61 := isHereC_ (d := d + 5) (R := R) (c := nI 61) hS hP2
  have h62 := isHereC_ (d := d + 5) (R := R) (c := nI 62) hS hP2
  have hat : up2 (atM M (sk b n i1)) 92 5 (nI (sk b n i1 + 1)) = atM M (sk b n i1 + 1) := atM_at
  have z0 : ¬ 0 = 2 := by decide
  have z1 : ¬ 1 = 2 := by decide
  unfold kOf at hc ⊢
  cases c60 : isH b n (sk b n i1) (nI 60)
  · rw [c60] at h60 hc
    cases c61 : isH b n (sk b n i1) (nI 61)
    · rw [c61] at h61 hc
      cases c62 : isH b n (sk b n i1) (nI 62)
      · rw [c62] at hc
        exact absurd ⟨rfl, rfl⟩ hc
      · rw [c62] at h62
        refine ⟨isH_lt c62, ?_⟩
        simp (disch := first | assumption | exact nar_b0 | exact nar_b1 | exact nar_b | exact Or.inl rfl | exact Or.inr rfl | exact zin_t (by omega) (by omega) | exact Nat.le_of_ble_eq_true rfl | (rw [nI_cl (by omega)]; assumption) | omega) only [↓reduceIte, reduceCtorEq, not_true_eq_false, not_false_eq_true, q45_0, q45_1, q45_4, q45_7, q45_8, q45_9, q45_10, q45_13, q45_14, q45_15, q45_18, q45_19, q45_21, q45_24, q45_27, q45_28, q45_31, q45_32, q45_34, q45_37, q45_40, q45_41, q45_44, q45_45, q45_46, q45_47, q45_48, q45_51, q45_52, q45_54, q45_57, q45_60, q45_61, q45_62, q45_63, q45_66, q45_69, q45_70, q45_71i, q45_71a, q45_72, q45_75, q45_76, q45_77, q45_81, q45_84, q45_87, q45_88, q45_89, q45_90, q45_91, q45_92, q45_93, q45_96, q45_99, q45_100, kl_int, kl_ref, kl_tok, cS_nil, cS_int, cS_ref, cS_long, tl_some, tl_none, List.cons_append, List.nil_append, nI_add, nI_ltb, nI_leb, nI_eqb, nI_cl, zin_nI, h6, hsk, zk0_inl, h60, h61, h62, b2i_0, h5, hat, Bool.false_eq_true]
    · rw [c61] at h61
      refine ⟨isH_lt c61, ?_⟩
      simp (disch := first | assumption | exact nar_b0 | exact nar_b1 | exact nar_b | exact Or.inl rfl | exact Or.inr rfl | exact zin_t (by omega) (by omega) | exact Nat.le_of_ble_eq_true rfl | (rw [nI_cl (by omega)]; assumption) | omega) only [↓reduceIte, reduceCtorEq, not_true_eq_false, not_false_eq_true, q45_0, q45_1, q45_4, q45_7, q45_8, q45_9, q45_10, q45_13, q45_14, q45_15, q45_18, q45_19, q45_21, q45_24, q45_27, q45_28, q45_31, q45_32, q45_34, q45_37, q45_40, q45_41, q45_44, q45_45, q45_46, q45_47, q45_48, q45_51, q45_52, q45_54, q45_57, q45_60, q45_61, q45_62, q45_63, q45_66, q45_69, q45_70, q45_71i, q45_71a, q45_72, q45_75, q45_76, q45_77, q45_81, q45_84, q45_87, q45_88, q45_89, q45_90, q45_91, q45_92, q45_93, q45_96, q45_99, q45_100, kl_int, kl_ref, kl_tok, cS_nil, cS_int, cS_ref, cS_long, tl_some, tl_none, List.cons_append, List.nil_append, nI_add, nI_ltb, nI_leb, nI_eqb, nI_cl, zin_nI, h6, hsk, zk0_inl, h60, h61, b2i_0, h5, hat, Bool.false_eq_true, z1]
  · rw [c60] at h60
    refine ⟨isH_lt c60, ?_⟩
    simp (disch := first | assumption | exact nar_b0 | exact nar_b1 | exact nar_b | exact Or.inl rfl | exact Or.inr rfl | exact zin_t (by omega) (by omega) | exact Nat.le_of_ble_eq_true rfl | (rw [nI_cl (by omega)]; assumption) | omega) only [↓reduceIte, reduceCtorEq, not_true_eq_false, not_false_eq_true, q45_0, q45_1, q45_4, q45_7, q45_8, q45_9, q45_10, q45_13, q45_14, q45_15, q45_18, q45_19, q45_21, q45_24, q45_27, q45_28, q45_31, q45_32, q45_34, q45_37, q45_40, q45_41, q45_44, q45_45, q45_46, q45_47, q45_48, q45_51, q45_52, q45_54, q45_57, q45_60, q45_61, q45_62, q45_63, q45_66, q45_69, q45_70, q45_71i, q45_71a, q45_72, q45_75, q45_76, q45_77, q45_81, q45_84, q45_87, q45_88, q45_89, q45_90, q45_91, q45_92, q45_93, q45_96, q45_99, q45_100, kl_int, kl_ref, kl_tok, cS_nil, cS_int, cS_ref, cS_long, tl_some, tl_none, List.cons_append, List.nil_append, nI_add, nI_ltb, nI_leb, nI_eqb, nI_cl, zin_nI, h6, hsk, zk0_inl, h60, b2i_0, h5, hat, Bool.false_eq_true, z0]
theorem cmp_2 {e : Nat} {v : Int} {i1 : Nat} (he : 6 ≤ e) (hS : Sh R) (hP : PCx M b n i1) (h6 : M 92 6 = iI v) (hc : kOf b n (sk b n i1) = 2 ∧ isH b n (sk b n i1) (nI 62) = false) : ∃ M', exe e 45 9 [.ref 92, .ref a, tok, tok] [] M R = some (.inl (some (.int (nI 0))), M', R) ∧ CFt M' M 1 (sk b n i1) := by
  obtain ⟨d, rfl⟩ : ∃ d, e = d + 6 := ⟨e - 6, by omega⟩
  obtain ⟨nN, k92, k93, l93, k94, k95, l95, k96, l96, k97, l97, k98, k99, l99, k100, l100, k101, l101, k102, k103, l103, k104, l104, k105, l105, f92_0, f92_1, f94_0, f94_1, f94_2, f92_2, f98_0, f98_1, f98_2, f92_3, f102_0, f102_1, f102_2⟩ := parF hS
  have hle := sk_le (b := b) hP.2.2.1.1
  have hsk := skipBlanks_ (d := d + 5) (R := R) hS hP
  have hP2 : PCx (atM M (sk b n i1)) b n (sk b n i1) := hP.mv hle
  have h5 := hP2.2.1
  have h60 := isHereC_ (d := d + 5) (R := R) (c := nI 60) hS hP2
  have h61 := isHereC_ (d := d + 5) (R := R) (c := nI 61) hS hP2
  have h62 := isHereC_ (d := d + 5) (R := R) (c := nI 62) hS hP2
  have hf := fail_ (d := d + 5) (M := atM M (sk b n i1)) (R := R) (k := nI 1) (p := nI (sk b n i1)) hS
  have c60 : isH b n (sk b n i1) (nI 60) = false := by
    cases q : isH b n (sk b n i1) (nI 60)
    · rfl
    · have := hc.1
      unfold kOf at this
      rw [q] at this
      simp at this
  have c61 : isH b n (sk b n i1) (nI 61) = false := by
    cases q : isH b n (sk b n i1) (nI 61)
    · rfl
    · have := hc.1
      unfold kOf at this
      rw [c60, q] at this
      simp at this
  rw [c60] at h60
  rw [c61] at h61
  rw [hc.2] at h62
  refine ⟨_, ?_, CFt.mk' (M' := atM M (sk b n i1)) (fun c hc => atM_c hc)⟩
  simp (disch := first | assumption | exact nar_b0 | exact nar_b1 | exact nar_b | exact Or.inl rfl | exact Or.inr rfl | exact zin_t (by omega) (by omega) | exact Nat.le_of_ble_eq_true rfl | (rw [nI_cl (by omega)]; assumption) | omega) only [↓reduceIte, reduceCtorEq, not_true_eq_false, not_false_eq_true, q45_0, q45_1, q45_4, q45_7, q45_8, q45_9, q45_10, q45_13, q45_14, q45_15, q45_18, q45_19, q45_21, q45_24, q45_27, q45_28, q45_31, q45_32, q45_34, q45_37, q45_40, q45_41, q45_44, q45_45, q45_46, q45_47, q45_48, q45_51, q45_52, q45_54, q45_57, q45_60, q45_61, q45_62, q45_63, q45_66, q45_69, q45_70, q45_71i, q45_71a, q45_72, q45_75, q45_76, q45_77, q45_80, q45_81, q45_84, q45_87, q45_88, q45_89, q45_90, q45_91, q45_92, q45_93, q45_96, q45_99, q45_100, kl_int, kl_ref, kl_tok, cS_nil, cS_int, cS_ref, cS_long, tl_some, tl_none, List.cons_append, List.nil_append, nI_add, nI_ltb, nI_leb, nI_eqb, nI_cl, zin_nI, h6, hsk, zk0_inl, h60, h61, h62, b2i_0, h5, hf]
theorem readCmp_ {e : Nat} {acc : List CdS} (ha : isCl a) (he : 6 ≤ e) (hS : Sh R) (hF : FO M) (hP : PCx M b n i) (hC : ClR M a acc) (hl : 2 * acc.length ≤ i) :
    (∀ st i', pCmp b n i = .inr (st, i') → ∃ M', cal e 45 [.ref 92, .ref a] M R = some (.inl (some (.int (nI 1))), M', R) ∧ PCx M' b n i' ∧ ClR M' a (acc ++ st) ∧ CdF a M M') ∧
    (∀ k p, pCmp b n i = .inl (k, p) → ∃ M', cal e 45 [.ref 92, .ref a] M R = some (.inl (some (.int (nI 0))), M', R) ∧ CdE a M M' k p) := by
  obtain ⟨d, rfl⟩ : ∃ d, e = d + 6 := ⟨e - 6, by omega⟩
  obtain ⟨nN, k92, k93, l93, k94, k95, l95, k96, l96, k97, l97, k98, k99, l99, k100, l100, k101, l101, k102, k103, l103, k104, l104, k105, l105, f92_0, f92_1, f94_0, f94_1, f94_2, f92_2, f98_0, f98_1, f98_2, f92_3, f102_0, f102_1, f102_2⟩ := parF hS
  have hn := hP.2.2.1
  have han := isCl_n ha
  obtain ⟨q1, -⟩ := clK hS ha
  obtain ⟨o1, o2⟩ := readOperand_ (e := d + 5) (by omega) hS hF hP
  have z1 : ¬ 1 = 0 := by decide
  unfold pCmp
  cases ho : pOp b n i with
  | inl f =>
    obtain ⟨k, p⟩ := f
    obtain ⟨M1, g1, g2⟩ := o2 k p ho
    refine ⟨fun st i' h => (by cases h), fun k' p' h => ?_⟩
    cases h
    refine ⟨M1, ?_, g2.cd ha hC (by omega)⟩
    rw [e45]
    simp (disch := first | assumption | exact nar_b0 | exact nar_b1 | exact nar_b | exact Or.inl rfl | exact Or.inr rfl | exact zin_t (by omega) (by omega) | exact Nat.le_of_ble_eq_true rfl | (rw [nI_cl (by omega)]; assumption) | omega) only [↓reduceIte, reduceCtorEq, not_true_eq_false, not_false_eq_true, q45_0, q45_1, q45_4, q45_7, q45_8, q45_9, q45_10, q45_13, q45_14, q45_15, q45_18, q45_19, q45_21, q45_24, q45_27, q45_28, q45_31, q45_32, q45_34, q45_37, q45_40, q45_41, q45_44, q45_45, q45_46, q45_47, q45_48, q45_51, q45_52, q45_54, q45_57, q45_60, q45_61, q45_62, q45_63, q45_66, q45_69, q45_70, q45_71i, q45_71a, q45_72, q45_75, q45_76, q45_77, q45_80, q45_81, q45_84, q45_87, q45_88, q45_89, q45_90, q45_91, q45_92, q45_93, q45_96, q45_99, q45_100, kl_int, kl_ref, kl_tok, cS_nil, cS_int, cS_ref, cS_long, tl_some, tl_none, List.cons_append, List.nil_append, nI_add, nI_ltb, nI_leb, nI_eqb, nI_cl, zin_nI, g1, zk0_inl]
  | inr w =>
    obtain ⟨v, i1⟩ := w
    have p1 := pOp_pos hn.1 ho
    have g1 := o1 v i1 ho
    have hP1 : PCx (nmM M i1 v) b n i1 := hP.nm p1.2.1
    have e9 : cal (d + 6) 45 [.ref 92, .ref a] M R = exe (d + 6) 45 9 [.ref 92, .ref a, tok, tok] [] (nmM M i1 v) R := by
      rw [e45]
      simp (disch := first | assumption | exact nar_b0 | exact nar_b1 | exact nar_b | exact Or.inl rfl | exact Or.inr rfl | exact zin_t (by omega) (by omega) | exact Nat.le_of_ble_eq_true rfl | (rw [nI_cl (by omega)]; assumption) | omega) only [↓reduceIte, reduceCtorEq, not_true_eq_false, not_false_eq_true, q45_0, q45_1, q45_4, q45_7, q45_8, q45_10, q45_13, q45_14, q45_15, q45_18, q45_19, q45_21, q45_24, q45_27, q45_28, q45_31, q45_32, q45_34, q45_37, q45_40, q45_41, q45_44, q45_45, q45_46, q45_47, q45_48, q45_51, q45_52, q45_54, q45_57, q45_60, q45_61, q45_62, q45_63, q45_66, q45_69, q45_70, q45_71i, q45_71a, q45_72, q45_75, q45_76, q45_77, q45_80, q45_81, q45_84, q45_87, q45_88, q45_89, q45_90, q45_91, q45_92, q45_93, q45_96, q45_99, q45_100, kl_int, kl_ref, kl_tok, cS_nil, cS_int, cS_ref, cS_long, tl_some, tl_none, List.cons_append, List.nil_append, nI_add, nI_ltb, nI_leb, nI_eqb, nI_cl, zin_nI, g1, zk0_inl, z1]
    show (∀ st i', (if kOf b n (sk b n i1) = 2 ∧ isH b n (sk b n i1) (nI 62) = false then Sum.inl (1, sk b n i1) else match pOp b n (sk b n i1 + 1) with
      | .inl f => .inl f
      | .inr (r, i2) => .inr ([(kOf b n (sk b n i1), v, r)], i2) : PR (List CdS)) = .inr (st, i') → _) ∧ (∀ k p, (if kOf b n (sk b n i1) = 2 ∧ isH b n (sk b n i1) (nI 62) = false then Sum.inl (1, sk b n i1) else match pOp b n (sk b n i1 + 1) with
      | .inl f => .inl f
      | .inr (r, i2) => .inr ([(kOf b n (sk b n i1), v, r)], i2) : PR (List CdS)) = .inl (k, p) → _)
    by_cases c : kOf b n (sk b n i1) = 2 ∧ isH b n (sk b n i1) (nI 62) = false
    · rw [if_pos c]
      obtain ⟨M2, h1, h2⟩ := cmp_2 (e := d + 6) (a := a) (by omega) hS hP1 nmM_6 c
      refine ⟨fun st i' h => (by cases h), fun k' p' h => ?_⟩
      cases h
      refine ⟨M2, by rw [e9]; exact h1, CdE.after CdF.nm (h2.cd ha (hC.fr (fun c h1 h2 => nmM_c (by omega))) (by omega))⟩
    · rw [if_neg c]
      obtain ⟨hlt, e80⟩ := cmp_1 (e := d + 6) (l := 0) (acc := acc) ha (by omega) hS hP1 nmM_6 c
      have hP2 : PCx (atM (nmM M i1 v) (sk b n i1 + 1)) b n (sk b n i1 + 1) := hP1.mv (by omega)
      have f2 : CdF a M (atM (nmM M i1 v) (sk b n i1 + 1)) := CdF.trans CdF.nm CdF.at
      have hF2 : FO (atM (nmM M i1 v) (sk b n i1 + 1)) := hF.cd ha f2.1
      have hC2 : ClR (atM (nmM M i1 v) (sk b n i1 + 1)) a acc := hC.fr (fun c h1 h2 => by rw [atM_c (by omega), nmM_c (by omega)])
      obtain ⟨r1, r2⟩ := readOperand_ (e := d + 5) (by omega) hS hF2 hP2
      cases ho2 : pOp b n (sk b n i1 + 1) with
      | inl f =>
        obtain ⟨k, p⟩ := f
        obtain ⟨M3, g3, g4⟩ := r2 k p ho2
        refine ⟨fun st i' h => (by cases h), fun k' p' h => ?_⟩
        cases h
        refine ⟨M3, ?_, CdE.after f2 (g4.cd ha hC2 (by omega))⟩
        rw [e9, e80]
        simp (disch := first | assumption | exact nar_b0 | exact nar_b1 | exact nar_b | exact Or.inl rfl | exact Or.inr rfl | exact zin_t (by omega) (by omega) | exact Nat.le_of_ble_eq_true rfl | (rw [nI_cl (by omega)]; assumption) | omega) only [↓reduceIte, reduceCtorEq, not_true_eq_false, not_false_eq_true, q45_0, q45_1, q45_4, q45_7, q45_8, q45_9, q45_10, q45_13, q45_14, q45_15, q45_18, q45_19, q45_21, q45_24, q45_27, q45_28, q45_31, q45_32, q45_34, q45_37, q45_40, q45_41, q45_44, q45_45, q45_46, q45_47, q45_48, q45_51, q45_52, q45_54, q45_57, q45_60, q45_61, q45_62, q45_63, q45_66, q45_69, q45_70, q45_71i, q45_71a, q45_72, q45_75, q45_76, q45_77, q45_80, q45_81, q45_84, q45_87, q45_88, q45_89, q45_90, q45_91, q45_92, q45_93, q45_96, q45_99, q45_100, kl_int, kl_ref, kl_tok, cS_nil, cS_int, cS_ref, cS_long, tl_some, tl_none, List.cons_append, List.nil_append, nI_add, nI_ltb, nI_leb, nI_eqb, nI_cl, zin_nI, g3, zk0_inl]
      | inr w =>
        obtain ⟨r, i2⟩ := w
        have p2 := pOp_pos (by omega) ho2
        have g3 := r1 r i2 ho2
        generalize hM3 : nmM (atM (nmM M i1 v) (sk b n i1 + 1)) i2 r = M3 at g3
        have f3 : CdF a M M3 := by rw [← hM3]; exact CdF.trans f2 CdF.nm
        have hP3 : PCx M3 b n i2 := by rw [← hM3]; exact hP2.nm p2.2.1
        have hC3 : ClR M3 a acc := by rw [← hM3]; exact hC2.fr (fun c h1 h2 => nmM_c (by omega))
        have h6 : M3 92 6 = iI r := by rw [← hM3]; exact nmM_6
        have hadd := add_ (d := d + 5) (s := nI (kOf b n (sk b n i1))) (l := iI v) (r := iI r) ha hS hC3.1 (by omega)
        refine ⟨fun st i' h => ?_, fun k' p' h => by cases h⟩
        cases h
        refine ⟨_, ?_, hP3.fr (by rw [adM_c (by omega)]) (by rw [adM_c (by omega)]) (by rw [adM_c (by omega)]) (adM_c (by omega)), hC3.add, CdF.trans f3 ⟨fun c h1 h2 => adM_c h2, fun q h1 h2 => by rw [adM_c (by omega)]⟩⟩
        rw [e9, e80]
        simp (disch := first | assumption | exact nar_b0 | exact nar_b1 | exact nar_b | exact Or.inl rfl | exact Or.inr rfl | exact zin_t (by omega) (by omega) | exact Nat.le_of_ble_eq_true rfl | (rw [nI_cl (by omega)]; assumption) | omega) only [↓reduceIte, reduceCtorEq, not_true_eq_false, not_false_eq_true, q45_0, q45_1, q45_4, q45_7, q45_8, q45_9, q45_10, q45_13, q45_14, q45_15, q45_18, q45_19, q45_21, q45_24, q45_27, q45_28, q45_31, q45_32, q45_34, q45_37, q45_40, q45_41, q45_44, q45_45, q45_46, q45_47, q45_48, q45_51, q45_52, q45_54, q45_57, q45_60, q45_61, q45_62, q45_63, q45_66, q45_69, q45_70, q45_71i, q45_71a, q45_72, q45_75, q45_76, q45_77, q45_80, q45_81, q45_84, q45_87, q45_88, q45_89, q45_90, q45_91, q45_92, q45_93, q45_96, q45_99, q45_100, kl_int, kl_ref, kl_tok, cS_nil, cS_int, cS_ref, cS_long, tl_some, tl_none, List.cons_append, List.nil_append, nI_add, nI_ltb, nI_leb, nI_eqb, nI_cl, zin_nI, g3, zk0_inl, z1, h6, hadd]
end Ce
