-- the class: one line
def CdO (b : Nat → Int32) (n : Nat) (st : List CdS) : Prop := ∃ i i', i ≤ n ∧ pAny (pOne b n 4) b n i = .inr (st, i')
def PE (b : Nat → Int32) (n : Nat) (P : PS) : Prop := (((tL P).testBit 6 = false → cA P = []) ∧ ((tL P).testBit 6 = true → CdO b n (cA P))) ∧ (((tL P).testBit 7 = false → cB P = []) ∧ ((tL P).testBit 7 = true → CdO b n (cB P))) ∧ (((tL P).testBit 4 = false → cC P = []) ∧ ((tL P).testBit 4 = true → CdO b n (cC P)))
theorem PE.or {b : Nat → Int32} {n : Nat} {P P' : PS} {k : Nat} (h : PE b n P) (ht : tL P' = tL P ||| 2 ^ k) (h6 : k ≠ 6) (h7 : k ≠ 7) (h4 : k ≠ 4) (ha : cA P' = cA P) (hb : cB P' = cB P) (hc : cC P' = cC P) : PE b n P' := by
  unfold PE
  rw [ht, ha, hb, hc, tb_or, tb_or, tb_or, decide_eq_false h6, decide_eq_false h7, decide_eq_false h4, Bool.or_false, Bool.or_false, Bool.or_false]
  exact h
def LnO (R : ZH) (b : Nat → Int32) (n j e mi : Nat) (as : List Value) (M : ZM) (i : Nat) (r : PR PS) : Prop :=
  (∀ P' i', r = .inr (P', i') → i ≤ i' ∧ i' ≤ n ∧ PW P' ∧ PE b n P' ∧ ∃ M', cal e mi as M R = some (.inl (some (.int (nI 1))), M', R) ∧ PCx M' b n i' ∧ PSC M' j P' ∧ LnF j M M') ∧
  (∀ k p, r = .inl (k, p) → ∃ M', cal e mi as M R = some (.inl (some (.int (nI 0))), M', R) ∧ LnE j M M' k p)
section Lm
variable {d n i j : Nat} {M : ZM} {R : ZH} {b : Nat → Int32} {P : PS}
theorem readJuror_ (hS : Sh R) (hj : j < 10) (hP : PCx M b n i) (hC : PSC M j P) (hW : PW P) (hE : PE b n P) {w : Nat} : LnO R b n j (d + 3) 34 [.ref 92, .ref (tb j), .int (nI w)] M i (if 10 ≤ jn (rD P) then .inl (3, w) else mp (pPer b n i) (jurP P)) := by
  obtain ⟨nN, k92, k93, l93, k94, k95, l95, k96, l96, k97, l97, k98, k99, l99, k100, l100, k101, l101, k102, k103, l103, k104, l104, k105, l105, f92_0, f92_1, f94_0, f94_1, f94_2, f92_2, f98_0, f98_1, f98_2, f92_3, f102_0, f102_1, f102_2⟩ := parF hS
  obtain ⟨nN_j, tlt_j, kt0_j, kt1_j, lt1_j, kt2_j, lt2_j, kt3_j, lt3_j, kt4_j, lt4_j, kt5_j, lt5_j, kt6_j, lt6_j, kt7_j, lt7_j, kt8_j, lt8_j, ft0_0_j, ft1_0_j, ft1_1_j, ft0_1_j, ft0_2_j, ft0_3_j, ft0_4_j, ft0_5_j⟩ := tabF hS hj
  have htj := tb_lt hj
  have hn := hP.2.2.1
  have h6 : M (tb j) 6 = nI (jn (rD P)) := by rw [hC.1.1]; exact hW.1.1.1
  by_cases c : 10 ≤ jn (rD P)
  · rw [if_pos c]
    have hf := fail_ (d := d + 2) (M := M) (R := R) (k := nI 3) (p := nI w) hS
    have z : ¬ jn (rD P) < 10 := by omega
    have hb := hW.1.1.2
    refine ⟨fun P' i' h => (by cases h), fun k p h => ?_⟩
    cases h
    refine ⟨_, ?_, (CFt.mk' (M' := M) (fun c hc => rfl)).ln⟩
    rw [e34]
    simp (disch := first | assumption | exact nar_b0 | exact nar_b1 | exact nar_b | exact Or.inl rfl | exact Or.inr rfl | exact zin_t (by omega) (by omega) | exact Nat.le_of_ble_eq_true rfl | (rw [nI_cl (by omega)]; assumption) | omega) only [↓reduceIte, reduceCtorEq, not_true_eq_false, not_false_eq_true, q34_0, q34_1, q34_4, q34_6, q34_9, q34_10, q34_11, q34_12, q34_15, q34_16, q34_17, q34_18, q34_19, q34_22, q34_25, q34_26, q34_27i, q34_27a, q34_28, q34_31, q34_32, q34_33, q34_36, q34_37, kl_int, kl_ref, kl_tok, cS_nil, cS_int, cS_ref, cS_long, tl_some, tl_none, List.cons_append, List.nil_append, nI_add, nI_ltb, nI_leb, nI_eqb, nI_cl, zin_nI, h6, z, hf, zk0_inl]
  · rw [if_neg c]
    have z : jn (rD P) < 10 := by omega
    obtain ⟨r1, r2⟩ := readPerson_ (d := d) (R := R) (j := j) (pl := jn (rD P)) (by omega) hS hj hP
    unfold mp
    cases hp : pPer b n i with
    | inl f =>
      obtain ⟨k, p⟩ := f
      obtain ⟨M1, g1, g2⟩ := r2 k p hp
      refine ⟨fun P' i' h => (by cases h), fun k' p' h => ?_⟩
      cases h
      refine ⟨up2 M1 (tb j) 6 (M1 (tb j) 6 + nI 1), ?_, ?_, ?_, g2.2.2.trans (LnF.up (by omega) (by omega))⟩
      · rw [e34]
        simp (disch := first | assumption | exact nar_b0 | exact nar_b1 | exact nar_b | exact Or.inl rfl | exact Or.inr rfl | exact zin_t (by omega) (by omega) | exact Nat.le_of_ble_eq_true rfl | (rw [nI_cl (by omega)]; assumption) | omega) only [↓reduceIte, reduceCtorEq, not_true_eq_false, not_false_eq_true, q34_0, q34_1, q34_4, q34_6, q34_9, q34_10, q34_11, q34_12, q34_15, q34_16, q34_17, q34_18, q34_19, q34_22, q34_25, q34_26, q34_27i, q34_27a, q34_28, q34_31, q34_32, q34_33, q34_36, q34_37, kl_int, kl_ref, kl_tok, cS_nil, cS_int, cS_ref, cS_long, tl_some, tl_none, List.cons_append, List.nil_append, nI_add, nI_ltb, nI_leb, nI_eqb, nI_cl, zin_nI, h6, z, zk0_inl, g1]
      · rw [up2_c (by omega)]; exact g2.1
      · rw [up2_c (by omega)]; exact g2.2.1
    | inr w2 =>
      obtain ⟨q, i1⟩ := w2
      have g1 := r1 q i1 hp
      have pp := pPer_pos hn.1 hp
      have m6 : perM M j (jn (rD P)) q i1 (tb j) 6 = nI (jn (rD P)) := by rw [perM_c (by omega) (by omega)]; exact h6
      refine ⟨fun P' i' h => ?_, fun k p h => (by cases h)⟩
      cases h
      refine ⟨pp.1, pp.2.1, hW.jur (by omega) ⟨pp.2.2.1, pp.2.2.2.1⟩, hE, up2 (perM M j (jn (rD P)) q i1) (tb j) 6 (nI (jn (rD P) + 1)), ?_, ?_, ?_, ?_⟩
      · rw [e34]
        simp (disch := first | assumption | exact nar_b0 | exact nar_b1 | exact nar_b | exact Or.inl rfl | exact Or.inr rfl | exact zin_t (by omega) (by omega) | exact Nat.le_of_ble_eq_true rfl | (rw [nI_cl (by omega)]; assumption) | omega) only [↓reduceIte, reduceCtorEq, not_true_eq_false, not_false_eq_true, q34_0, q34_1, q34_4, q34_6, q34_9, q34_10, q34_11, q34_12, q34_15, q34_16, q34_17, q34_18, q34_19, q34_22, q34_25, q34_26, q34_27i, q34_27a, q34_28, q34_31, q34_32, q34_33, q34_36, q34_37, kl_int, kl_ref, kl_tok, cS_nil, cS_int, cS_ref, cS_long, tl_some, tl_none, List.cons_append, List.nil_append, nI_add, nI_ltb, nI_leb, nI_eqb, nI_cl, zin_nI, h6, z, zk0_inl, g1, m6]
      · refine (hP.nm (v := q.2.2.2) pp.2.1).fr ?_ ?_ ?_ ?_
        · rw [up2_c (by omega), perM_92 hj]
        · rw [up2_c (by omega), perM_92 hj]
        · rw [up2_c (by omega), perM_92 hj]
        · rw [up2_ne (by omega), perM_c (by omega) (by omega), nmM_c (by decide)]
      · obtain ⟨⟨t1, t2, t3, t4, t5, t6, t7, t8, t9⟩, u1, u2, u3, u4, u5⟩ := hC
        have jj : jn (rD (jurP P q)) = jn (rD P) + 1 := jn_up (by omega)
        have g : ∀ k, k ≠ 0 → (k < 8 + 4 * jn (rD P) ∨ 8 + 4 * jn (rD P) + 3 < k) → rD (jurP P q) k = rD P k := fun k h0 h1 => by
          show upf (up4 (rD P) (8 + 4 * jn (rD P)) q) 0 (nI (jn (rD P) + 1)) k = _
          rw [upf_ne h0, up4_n h1]
        have g0 : ∀ k, k ≠ 0 → rD (jurP P q) k = up4 (rD P) (8 + 4 * jn (rD P)) q k := fun k h0 => upf_ne h0
        have u := up4_0 (f := rD P) (k := 8 + 4 * jn (rD P)) (q := q)
        refine ⟨⟨?_, ?_, ?_, ?_, ?_, ?_, ?_, ?_, ?_⟩, ?_, ?_, ?_, ?_, ?_⟩
        · rw [up2_at]
          show _ = upf (up4 (rD P) (8 + 4 * jn (rD P)) q) 0 (nI (jn (rD P) + 1)) 0
          rw [upf_at]
        · rw [up2_s (by decide), perM_c (by omega) (by omega)]; exact t2
        · rw [up2_s (by decide), perM_c (by omega) (by omega)]; exact t3
        · rw [up2_s (by decide), perM_c (by omega) (by omega)]; exact t4
        · rw [up2_s (by decide), perM_c (by omega) (by omega), g _ (by decide) (by omega)]; exact t5
        · rw [up2_s (by decide), perM_c (by omega) (by omega), g _ (by decide) (by omega)]; exact t6
        · rw [up2_s (by decide), perM_c (by omega) (by omega), g _ (by decide) (by omega)]; exact t7
        · rw [up2_s (by decide), perM_c (by omega) (by omega), g _ (by decide) (by omega)]; exact t8
        · rw [up2_s (by decide), perM_c (by omega) (by omega), g _ (by decide) (by omega)]; exact t9
        · intro k hk
          rw [jj] at hk
          obtain ⟨v1, v2, v3, v4⟩ := perM_v (M := M) (pl := jn (rD P)) (i' := i1) (k := k) (q := q) hj
          rw [up2_c (by omega), up2_c (by omega), up2_c (by omega), up2_c (by omega), v1, v2, v3, v4]
          by_cases e : k = jn (rD P)
          · subst e
            rw [if_pos rfl, if_pos rfl, if_pos rfl, if_pos rfl, g0 _ (by omega), g0 _ (by omega), g0 _ (by omega), g0 _ (by omega)]
            rw [show 9 + 4 * jn (rD P) = 8 + 4 * jn (rD P) + 1 by omega, show 10 + 4 * jn (rD P) = 8 + 4 * jn (rD P) + 2 by omega, show 11 + 4 * jn (rD P) = 8 + 4 * jn (rD P) + 3 by omega]
            exact ⟨u.1.symm, u.2.1.symm, u.2.2.1.symm, u.2.2.2.symm⟩
          · rw [if_neg e, if_neg e, if_neg e, if_neg e, g _ (by omega) (by omega), g _ (by omega) (by omega), g _ (by omega) (by omega), g _ (by omega) (by omega)]
            exact u1 k (by omega)
        · intro k hk
          obtain ⟨v1, v2, v3, v4⟩ := perM_v (M := M) (pl := jn (rD P)) (i' := i1) (k := 10 + k) (q := q) hj
          rw [up2_c (by omega), up2_c (by omega), up2_c (by omega), up2_c (by omega), v1, v2, v3, v4, if_neg (by omega), if_neg (by omega), if_neg (by omega), if_neg (by omega)]
          exact u2 k hk
        · intro k hk
          rw [up2_c (by omega), up2_c (by omega), perM_c (by omega) (by omega), perM_c (by omega) (by omega)]
          exact u3 k hk
        · rw [up2_c (by omega), up2_c (by omega), perM_92 hj, perM_92 hj, nmM_s (by decide) (by decide), nmM_s (by decide) (by decide)]
          exact u4
        · have gg : ∀ c, 94 ≤ c → up2 (perM M j (jn (rD P)) q i1) (tb j) 6 (nI (jn (rD P) + 1)) c = M c := fun c hc => by rw [up2_ne (by omega), perM_c (by omega) (by omega)]
          exact ⟨u5.1.fr (fun c h1 h2 => gg c (by omega)), u5.2.1.fr (fun c h1 h2 => gg c (by omega)), u5.2.2.fr (fun c h1 h2 => gg c (by omega))⟩
      · intro c c1 c2 c3
        rw [up2_ne (by omega), perM_c c1 (by omega)]
theorem readTales_ (hS : Sh R) (hj : j < 10) (hP : PCx M b n i) (hC : PSC M j P) (hW : PW P) (hE : PE b n P) {w : Nat} : LnO R b n j (d + 3) 35 [.ref 92, .ref (tb j), .int (nI w)] M i (if 4 ≤ fN P then .inl (3, w) else mp (pPer b n i) (talP P)) := by
  obtain ⟨nN, k92, k93, l93, k94, k95, l95, k96, l96, k97, l97, k98, k99, l99, k100, l100, k101, l101, k102, k103, l103, k104, l104, k105, l105, f92_0, f92_1, f94_0, f94_1, f94_2, f92_2, f98_0, f98_1, f98_2, f92_3, f102_0, f102_1, f102_2⟩ := parF hS
  obtain ⟨nN_j, tlt_j, kt0_j, kt1_j, lt1_j, kt2_j, lt2_j, kt3_j, lt3_j, kt4_j, lt4_j, kt5_j, lt5_j, kt6_j, lt6_j, kt7_j, lt7_j, kt8_j, lt8_j, ft0_0_j, ft1_0_j, ft1_1_j, ft0_1_j, ft0_2_j, ft0_3_j, ft0_4_j, ft0_5_j⟩ := tabF hS hj
  have htj := tb_lt hj
  have hn := hP.2.2.1
  have h7 : M (tb j) 7 = nI (fN P) := hC.1.2.1
  have hb := hW.2.2.2.2.1
  by_cases c : 4 ≤ fN P
  · rw [if_pos c]
    have hf := fail_ (d := d + 2) (M := M) (R := R) (k := nI 3) (p := nI w) hS
    have z : ¬ fN P < 4 := by omega
    refine ⟨fun P' i' h => (by cases h), fun k p h => ?_⟩
    cases h
    refine ⟨_, ?_, (CFt.mk' (M' := M) (fun c hc => rfl)).ln⟩
    rw [e35]
    simp (disch := first | assumption | exact nar_b0 | exact nar_b1 | exact nar_b | exact Or.inl rfl | exact Or.inr rfl | exact zin_t (by omega) (by omega) | exact Nat.le_of_ble_eq_true rfl | (rw [nI_cl (by omega)]; assumption) | omega) only [↓reduceIte, reduceCtorEq, not_true_eq_false, not_false_eq_true, q35_0, q35_1, q35_4, q35_5, q35_8, q35_9, q35_10, q35_11, q35_14, q35_15, q35_16, q35_17, q35_19, q35_20, q35_23, q35_24, q35_27, q35_28, q35_29i, q35_29a, q35_30, q35_33, q35_34, q35_35, q35_38, q35_39, kl_int, kl_ref, kl_tok, cS_nil, cS_int, cS_ref, cS_long, tl_some, tl_none, List.cons_append, List.nil_append, nI_add, nI_ltb, nI_leb, nI_eqb, nI_cl, zin_nI, h7, z, hf, zk0_inl]
  · rw [if_neg c]
    have z : fN P < 4 := by omega
    obtain ⟨r1, r2⟩ := readPerson_ (d := d) (R := R) (j := j) (pl := 10 + fN P) (by omega) hS hj hP
    unfold mp
    cases hp : pPer b n i with
    | inl f =>
      obtain ⟨k, p⟩ := f
      obtain ⟨M1, g1, g2⟩ := r2 k p hp
      refine ⟨fun P' i' h => (by cases h), fun k' p' h => ?_⟩
      cases h
      refine ⟨up2 M1 (tb j) 7 (M1 (tb j) 7 + nI 1), ?_, ?_, ?_, g2.2.2.trans (LnF.up (by omega) (by omega))⟩
      · rw [e35]
        simp (disch := first | assumption | exact nar_b0 | exact nar_b1 | exact nar_b | exact Or.inl rfl | exact Or.inr rfl | exact zin_t (by omega) (by omega) | exact Nat.le_of_ble_eq_true rfl | (rw [nI_cl (by omega)]; assumption) | omega) only [↓reduceIte, reduceCtorEq, not_true_eq_false, not_false_eq_true, q35_0, q35_1, q35_4, q35_5, q35_8, q35_9, q35_10, q35_11, q35_14, q35_15, q35_16, q35_17, q35_19, q35_20, q35_23, q35_24, q35_27, q35_28, q35_29i, q35_29a, q35_30, q35_33, q35_34, q35_35, q35_38, q35_39, kl_int, kl_ref, kl_tok, cS_nil, cS_int, cS_ref, cS_long, tl_some, tl_none, List.cons_append, List.nil_append, nI_add, nI_ltb, nI_leb, nI_eqb, nI_cl, zin_nI, h7, z, zk0_inl, g1]
      · rw [up2_c (by omega)]; exact g2.1
      · rw [up2_c (by omega)]; exact g2.2.1
    | inr w2 =>
      obtain ⟨q, i1⟩ := w2
      have g1 := r1 q i1 hp
      have pp := pPer_pos hn.1 hp
      have m7 : perM M j (10 + fN P) q i1 (tb j) 7 = nI (fN P) := by rw [perM_c (by omega) (by omega)]; exact h7
      refine ⟨fun P' i' h => ?_, fun k p h => (by cases h)⟩
      cases h
      refine ⟨pp.1, pp.2.1, hW.tal (by omega) ⟨pp.2.2.1, pp.2.2.2.1⟩, hE, up2 (perM M j (10 + fN P) q i1) (tb j) 7 (nI (fN P + 1)), ?_, ?_, ?_, ?_⟩
      · rw [e35]
        simp (disch := first | assumption | exact nar_b0 | exact nar_b1 | exact nar_b | exact Or.inl rfl | exact Or.inr rfl | exact zin_t (by omega) (by omega) | exact Nat.le_of_ble_eq_true rfl | (rw [nI_cl (by omega)]; assumption) | omega) only [↓reduceIte, reduceCtorEq, not_true_eq_false, not_false_eq_true, q35_0, q35_1, q35_4, q35_5, q35_8, q35_9, q35_10, q35_11, q35_14, q35_15, q35_16, q35_17, q35_19, q35_20, q35_23, q35_24, q35_27, q35_28, q35_29i, q35_29a, q35_30, q35_33, q35_34, q35_35, q35_38, q35_39, kl_int, kl_ref, kl_tok, cS_nil, cS_int, cS_ref, cS_long, tl_some, tl_none, List.cons_append, List.nil_append, nI_add, nI_ltb, nI_leb, nI_eqb, nI_cl, zin_nI, h7, z, zk0_inl, g1, m7]
      · refine (hP.nm (v := q.2.2.2) pp.2.1).fr ?_ ?_ ?_ ?_
        · rw [up2_c (by omega), perM_92 hj]
        · rw [up2_c (by omega), perM_92 hj]
        · rw [up2_c (by omega), perM_92 hj]
        · rw [up2_ne (by omega), perM_c (by omega) (by omega), nmM_c (by decide)]
      · obtain ⟨⟨t1, t2, t3, t4, t5, t6, t7, t8, t9⟩, u1, u2, u3, u4, u5⟩ := hC
        have hj10 := hW.1.1.2
        have jj : jn (rD (talP P q)) = jn (rD P) := jn_up4 (by decide)
        have g : ∀ k, (k < 60 ∨ 63 < k) → rD (talP P q) k = rD P k := fun k h1 => up4_n h1
        have u := up4_0 (f := fI P) (k := 4 * fN P) (q := q)
        refine ⟨⟨?_, ?_, ?_, ?_, ?_, ?_, ?_, ?_, ?_⟩, ?_, ?_, ?_, ?_, ?_⟩
        · rw [up2_s (by decide), perM_c (by omega) (by omega), g _ (by omega)]; exact t1
        · rw [up2_at]; rfl
        · rw [up2_s (by decide), perM_c (by omega) (by omega)]; exact t3
        · rw [up2_s (by decide), perM_c (by omega) (by omega)]; exact t4
        · rw [up2_s (by decide), perM_c (by omega) (by omega), g _ (by omega)]; exact t5
        · rw [up2_s (by decide), perM_c (by omega) (by omega), g _ (by omega)]; exact t6
        · rw [up2_s (by decide), perM_c (by omega) (by omega), g _ (by omega)]; exact t7
        · rw [up2_s (by decide), perM_c (by omega) (by omega), g _ (by omega)]; exact t8
        · rw [up2_s (by decide), perM_c (by omega) (by omega), g _ (by omega)]; exact t9
        · intro k hk
          rw [jj] at hk
          obtain ⟨v1, v2, v3, v4⟩ := perM_v (M := M) (pl := 10 + fN P) (i' := i1) (k := k) (q := q) hj
          rw [up2_c (by omega), up2_c (by omega), up2_c (by omega), up2_c (by omega), v1, v2, v3, v4, if_neg (by omega), if_neg (by omega), if_neg (by omega), if_neg (by omega), g _ (by omega), g _ (by omega), g _ (by omega), g _ (by omega)]
          exact u1 k hk
        · intro k hk
          have hk2 : k < fN P + 1 := hk
          obtain ⟨v1, v2, v3, v4⟩ := perM_v (M := M) (pl := 10 + fN P) (i' := i1) (k := 10 + k) (q := q) hj
          rw [up2_c (by omega), up2_c (by omega), up2_c (by omega), up2_c (by omega), v1, v2, v3, v4]
          by_cases e : k = fN P
          · subst e
            rw [if_pos rfl, if_pos rfl, if_pos rfl, if_pos rfl]
            exact ⟨u.1.symm, u.2.1.symm, u.2.2.1.symm, u.2.2.2.symm⟩
          · have g2 : ∀ x, x < 4 * fN P → fI (talP P q) x = fI P x := fun x hx => up4_n (Or.inl hx)
            rw [if_neg (by omega), if_neg (by omega), if_neg (by omega), if_neg (by omega), g2 _ (by omega), g2 _ (by omega), g2 _ (by omega), g2 _ (by omega)]
            exact u2 k (by omega)
        · intro k hk
          rw [up2_c (by omega), up2_c (by omega), perM_c (by omega) (by omega), perM_c (by omega) (by omega)]
          exact u3 k hk
        · rw [up2_c (by omega), up2_c (by omega), perM_92 hj, perM_92 hj, nmM_s (by decide) (by decide), nmM_s (by decide) (by decide)]
          exact u4
        · have gg : ∀ c, 94 ≤ c → up2 (perM M j (10 + fN P) q i1) (tb j) 7 (nI (fN P + 1)) c = M c := fun c hc => by rw [up2_ne (by omega), perM_c (by omega) (by omega)]
          exact ⟨u5.1.fr (fun c h1 h2 => gg c (by omega)), u5.2.1.fr (fun c h1 h2 => gg c (by omega)), u5.2.2.fr (fun c h1 h2 => gg c (by omega))⟩
      · intro c c1 c2 c3
        rw [up2_ne (by omega), perM_c c1 (by omega)]
end Lm
