-- the class: a text
theorem PT.or {P P' : PS} {k : Nat} (h : PT P) (ht : tL P' = tL P ||| 2 ^ k) (h5 : rD P' 5 = rD P 5) (h6 : rD P' 6 = rD P 6) : PT P' := by
  unfold PT
  rw [ht, tb_or, h5, h6]
  intro e
  rw [Bool.or_eq_false_iff] at e
  exact h e.1
theorem rdP_ne {P : PS} {k x t : Nat} {v : Int32} (h : x ≠ k) : rD (rdP P k v t) x = rD P x := upf_ne h
theorem mp_inr {α : Type} {r : PR α} {f : α → PS} {P' : PS} {i' : Nat} (h : mp r f = .inr (P', i')) : ∃ v, r = .inr (v, i') ∧ f v = P' := by
  unfold mp at h
  split at h
  · cases h
  · cases h
    exact ⟨_, rfl, rfl⟩
theorem onc_inr {P P' : PS} {bit i i' : Nat} {r : PR PS} (h : onc P bit i r = .inr (P', i')) : r = .inr (P', i') := by
  unfold onc at h
  split at h
  · cases h
  · exact h
theorem pBody_PT {b : Nat → Int32} {n i i' : Nat} {P P' : PS} (hT : PT P) (h : pBody b n P i = .inr (P', i')) : PT P' := by
  unfold pBody at h
  split at h
  · split at h
    · cases h
    · obtain ⟨q, _, rfl⟩ := mp_inr h
      intro e
      have := hT e
      show upf (up4 (rD P) (8 + 4 * jn (rD P)) q) 0 (nI (jn (rD P) + 1)) 5 = _ ∧ upf (up4 (rD P) (8 + 4 * jn (rD P)) q) 0 (nI (jn (rD P) + 1)) 6 = _
      rw [upf_ne (by decide), upf_ne (by decide), up4_n (by omega), up4_n (by omega)]
      exact this
  · split at h
    · split at h
      · cases h
      · obtain ⟨q, _, rfl⟩ := mp_inr h
        intro e
        have := hT e
        show up4 (rD P) 60 q 5 = _ ∧ up4 (rD P) 60 q 6 = _
        rw [up4_n (by omega), up4_n (by omega)]
        exact this
    · split at h
      · obtain ⟨q, _, rfl⟩ := mp_inr (onc_inr h)
        exact hT.or (k := 0) rfl (rdP_ne (by decide)) (rdP_ne (by decide))
      · split at h
        · obtain ⟨q, _, rfl⟩ := mp_inr (onc_inr h)
          exact hT.or (k := 1) rfl (rdP_ne (by decide)) (rdP_ne (by decide))
        · split at h
          · cases onc_inr h
            intro e
            have e2 : tL (tuP P (tuF b n 8 0 (i + 5) 0).2.1 (tuF b n 8 0 (i + 5) 0).1) = tL P ||| 2 ^ 2 := rfl
            rw [e2, tb_or, decide_eq_true rfl, Bool.or_true] at e
            cases e
          · split at h
            · cases onc_inr h
              exact hT.or (k := 3) rfl (rdP_ne (by decide)) (rdP_ne (by decide))
            · split at h
              · split at h
                · obtain ⟨q, _, rfl⟩ := mp_inr (onc_inr h)
                  exact hT.or (k := 6) rfl rfl rfl
                · split at h
                  · obtain ⟨q, _, rfl⟩ := mp_inr (onc_inr h)
                    exact hT.or (k := 7) rfl rfl rfl
                  · cases h
              · split at h
                · obtain ⟨q, _, rfl⟩ := mp_inr (onc_inr h)
                  exact hT.or (k := 4) rfl rfl rfl
                · split at h
                  · obtain ⟨q, _, rfl⟩ := mp_inr (onc_inr h)
                    exact hT.or (k := 5) rfl rfl rfl
                  · cases h
theorem PT.zero : PT ps0 := fun _ => ⟨rfl, rfl⟩
theorem PE.zero {b : Nat → Int32} {n : Nat} : PE b n ps0 := ⟨⟨fun _ => rfl, fun h => by have : (0 : Nat).testBit 6 = true := h; simp at this⟩, ⟨fun _ => rfl, fun h => by have : (0 : Nat).testBit 7 = true := h; simp at this⟩, ⟨fun _ => rfl, fun h => by have : (0 : Nat).testBit 4 = true := h; simp at this⟩⟩
def clM (M : ZM) (j : Nat) : ZM := up2 (up2 (up2 (up2 (up2 (up2 (up2 (up2 (up2 (filM (filM M (tb j + 6) 14 (-1)) (tb j + 7) 14 (-1)) (tb j) 6 (nI 0)) (tb j) 7 (nI 0)) (tb j) 8 (nI 0)) (tb j) 9 (nI 0)) (tb j) 10 (nI 2)) (tb j) 11 (nI 0)) (tb j) 12 (nI 0)) (tb j) 13 (nI 0)) (tb j) 14 (nI 0)
theorem filM_c {M : ZM} {a n c : Nat} {x : Int32} (h : c ≠ a) : filM M a n x c = M c := by
  funext q
  exact if_neg (fun e => h e.1)
theorem filM_v {M : ZM} {a n k : Nat} {x : Int32} (h : k < n) : filM M a n x a k = x := if_pos ⟨rfl, h⟩
theorem clM_c {M : ZM} {j c : Nat} (h : c < tb j ∨ tb j + 8 < c) : clM M j c = M c := by
  unfold clM
  rw [up2_ne (by omega), up2_ne (by omega), up2_ne (by omega), up2_ne (by omega), up2_ne (by omega), up2_ne (by omega), up2_ne (by omega), up2_ne (by omega), up2_ne (by omega), filM_c (by omega), filM_c (by omega)]
section Lt
variable {d n i j : Nat} {M : ZM} {R : ZH} {b : Nat → Int32} {P : PS}
theorem clear_ (hS : Sh R) (hj : j < 10) : cal (d + 1) 54 [.ref (tb j)] M R = some (.inl none, clM M j, R) := by
  obtain ⟨nN_j, tlt_j, kt0_j, kt1_j, lt1_j, kt2_j, lt2_j, kt3_j, lt3_j, kt4_j, lt4_j, kt5_j, lt5_j, kt6_j, lt6_j, kt7_j, lt7_j, kt8_j, lt8_j, ft0_0_j, ft1_0_j, ft1_1_j, ft0_1_j, ft0_2_j, ft0_3_j, ft0_4_j, ft0_5_j⟩ := tabF hS hj
  have htj := tb_lt hj
  have f6 : ∀ M, cal d 198 [.ref (tb j + 6), .int (-1)] M R = some (.inl none, filM M (tb j + 6) 14 (-1), R) := fun M => fill_ kt6_j lt6_j (by decide) (by omega)
  have f7 : ∀ M, cal d 198 [.ref (tb j + 7), .int (-1)] M R = some (.inl none, filM M (tb j + 7) 14 (-1), R) := fun M => fill_ kt7_j lt7_j (by decide) (by omega)
  rw [e54]
  simp (disch := first | assumption | exact nar_b0 | exact nar_b1 | exact nar_b | exact Or.inl rfl | exact Or.inr rfl | exact zin_t (by omega) (by omega) | exact Nat.le_of_ble_eq_true rfl | (rw [nI_cl (by omega)]; assumption) | omega) only [↓reduceIte, reduceCtorEq, not_true_eq_false, not_false_eq_true, q54_0, q54_1, q54_4, q54_5, q54_8, q54_9, q54_12, q54_13, q54_16, q54_17, q54_18, q54_21, q54_22, q54_23, q54_26, q54_27, q54_28, q54_31, q54_32, q54_33, q54_36, q54_37, q54_38, q54_41, q54_42, q54_43, q54_46, q54_47, q54_48, q54_51, q54_52, q54_53, q54_56, q54_57, q54_58, q54_61, kl_int, kl_ref, kl_tok, cS_nil, cS_int, cS_ref, cS_long, tl_some, tl_none, List.cons_append, List.nil_append, nI_add, nI_ltb, nI_leb, nI_eqb, nI_cl, zin_nI, f6, f7, zk0_inl]
  rfl
def rpM (M : ZM) (n : Nat) : ZM := up2 (up2 (up2 (up2 (up2 (up2 (up2 (up2 M 92 4 (nI n)) 92 5 (nI 0)) 92 7 (nI 0)) 92 8 (nI 9)) 92 9 (nI 0)) 94 3 (nI 0)) 98 3 (nI 0)) 102 3 (nI 0)
theorem rpM_c {c : Nat} (h : c ≠ 92) (h1 : c ≠ 94) (h2 : c ≠ 98) (h3 : c ≠ 102) : rpM M n c = M c := by
  unfold rpM
  rw [up2_ne h3, up2_ne h2, up2_ne h1, up2_ne h, up2_ne h, up2_ne h, up2_ne h, up2_ne h]
theorem rp_cx (hj : j < 10) (hn : n ≤ 500) (hb : ∀ k, k < n → M 93 k = b k) : PCx (clM (rpM M n) j) b n 0 := by
  have htj := tb_lt hj
  unfold PCx
  rw [clM_c (by omega), clM_c (by omega), rpM_c (c := 93) (by decide) (by decide) (by decide) (by decide)]
  unfold rpM
  rw [up2_ne (by decide), up2_ne (by decide), up2_ne (by decide)]
  refine ⟨?_, ?_, ⟨Nat.zero_le _, hn⟩, hb, ?_⟩
  · rw [up2_s (by decide), up2_s (by decide), up2_s (by decide), up2_s (by decide), up2_at]
  · rw [up2_s (by decide), up2_s (by decide), up2_s (by decide), up2_at]
  · rw [up2_at]
theorem rp_sc (hj : j < 10) : PSC (clM (rpM M n) j) j ps0 := by
  have htj := tb_lt hj
  have j0 : jn (rD ps0) = 0 := rfl
  have n0 : fN ps0 = 0 := rfl
  refine ⟨⟨?_, ?_, ?_, ?_, ?_, ?_, ?_, ?_, ?_⟩, ?_, ?_, ?_, ?_, ?_⟩
  · show _ = nI 0
    unfold clM
    rw [up2_s (by decide), up2_s (by decide), up2_s (by decide), up2_s (by decide), up2_s (by decide), up2_s (by decide), up2_s (by decide), up2_s (by decide), up2_at]
  · show _ = nI 0
    unfold clM
    rw [up2_s (by decide), up2_s (by decide), up2_s (by decide), up2_s (by decide), up2_s (by decide), up2_s (by decide), up2_s (by decide), up2_at]
  · unfold clM
    rw [up2_s (by decide), up2_s (by decide), up2_s (by decide), up2_s (by decide), up2_s (by decide), up2_s (by decide), up2_at]
  · unfold clM
    rw [up2_s (by decide), up2_s (by decide), up2_s (by decide), up2_s (by decide), up2_s (by decide), up2_at]
  · show _ = nI 2
    unfold clM
    rw [up2_s (by decide), up2_s (by decide), up2_s (by decide), up2_s (by decide), up2_at]
  · show _ = nI 0
    unfold clM
    rw [up2_s (by decide), up2_s (by decide), up2_s (by decide), up2_at]
  · show _ = nI 0
    unfold clM
    rw [up2_s (by decide), up2_s (by decide), up2_at]
  · show _ = nI 0
    unfold clM
    rw [up2_s (by decide), up2_at]
  · show _ = nI 0
    unfold clM
    rw [up2_at]
  · intro k hk; omega
  · intro k hk; omega
  · intro k hk
    unfold clM
    rw [up2_ne (by omega), up2_ne (by omega), up2_ne (by omega), up2_ne (by omega), up2_ne (by omega), up2_ne (by omega), up2_ne (by omega), up2_ne (by omega), up2_ne (by omega)]
    rw [up2_ne (by omega), up2_ne (by omega), up2_ne (by omega), up2_ne (by omega), up2_ne (by omega), up2_ne (by omega), up2_ne (by omega), up2_ne (by omega), up2_ne (by omega)]
    rw [filM_v hk, filM_c (by omega), filM_v hk]
    exact ⟨rfl, rfl⟩
  · rw [clM_c (by omega)]
    unfold rpM
    rw [up2_ne (by decide), up2_ne (by decide), up2_ne (by decide)]
    refine ⟨?_, ?_⟩
    · rw [up2_s (by decide), up2_s (by decide), up2_at]; rfl
    · rw [up2_s (by decide), up2_at]; rfl
  · refine ⟨⟨?_, fun k h => absurd h (Nat.not_lt_zero k)⟩, ⟨?_, fun k h => absurd h (Nat.not_lt_zero k)⟩, ⟨?_, fun k h => absurd h (Nat.not_lt_zero k)⟩⟩
    · rw [clM_c (by omega)]
      unfold rpM
      rw [up2_ne (by decide), up2_ne (by decide), up2_at]; rfl
    · rw [clM_c (by omega)]
      unfold rpM
      rw [up2_ne (by decide), up2_at]; rfl
    · rw [clM_c (by omega)]
      unfold rpM
      rw [up2_at]; rfl
/-- what reading a text comes to -/
def RdQ (R : ZH) (j : Nat) (q : Option ZO) (M : ZM) (b : Nat → Int32) (n : Nat) (r : (Nat × Nat) ⊕ PS) : Prop :=
  (∀ P, r = .inr P → PW P ∧ PE b n P ∧ jn (rD P) ≠ 0 ∧ ∃ M', q = some (.inl (some (.int (nI 0))), M', R) ∧ PSC M' j P ∧ LnF j M M') ∧
  (∀ k p, r = .inl (k, p) → ∃ M', q = some (.inl (some (.int (nI k))), M', R) ∧ LnE j M M' k p)
def pEnd (n : Nat) (r : PR PS) : (Nat × Nat) ⊕ PS := match r with
  | .inl f => .inl f
  | .inr (P, _) => if jn (rD P) = 0 then .inl (5, n) else .inr P
theorem rd_L (hS : Sh R) (hj : j < 10) : ∀ (m k i : Nat) (P : PS) (M : ZM), k + m = n → k ≤ i → sk b n i = i → FO M → PCx M b n i → PSC M j P → PW P → PE b n P → PT P → RdQ R j (exe (d + 23) 28 60 [.ref 92, .ref (tb j), .int (nI n), .int (nI k)] [] M R) M b n (pEnd n (pAll b n m P i)) := by
  obtain ⟨nN, k92, k93, l93, k94, k95, l95, k96, l96, k97, l97, k98, k99, l99, k100, l100, k101, l101, k102, k103, l103, k104, l104, k105, l105, f92_0, f92_1, f94_0, f94_1, f94_2, f92_2, f98_0, f98_1, f98_2, f92_3, f102_0, f102_1, f102_2⟩ := parF hS
  obtain ⟨nN_j, tlt_j, kt0_j, kt1_j, lt1_j, kt2_j, lt2_j, kt3_j, lt3_j, kt4_j, lt4_j, kt5_j, lt5_j, kt6_j, lt6_j, kt7_j, lt7_j, kt8_j, lt8_j, ft0_0_j, ft1_0_j, ft1_1_j, ft0_1_j, ft0_2_j, ft0_3_j, ft0_4_j, ft0_5_j⟩ := tabF hS hj
  have htj := tb_lt hj
  intro m
  have fin : ∀ (k i : Nat) (P : PS) (M : ZM), PCx M b n i → PSC M j P → PW P → PE b n P → RdQ R j (exe (d + 23) 28 110 [.ref 92, .ref (tb j), .int (nI n), .int (nI k)] [] M R) M b n (pEnd n (.inr (P, i))) := by
    intro k i P M hP hC hW hE
    have h6 : M (tb j) 6 = nI (jn (rD P)) := by rw [hC.1.1]; exact hW.1.1.1
    have h4 := hP.1
    have h9 := hP.2.2.2.2
    have hb := hW.1.1.2
    unfold pEnd
    by_cases c : jn (rD P) = 0
    · have hf := fail_ (d := d + 22) (M := M) (R := R) (k := nI 5) (p := nI n) hS
      have h9' : up2 (up2 M 92 9 (nI 5)) 92 10 (nI n) 92 9 = nI 5 := by rw [up2_s (by decide), up2_at]
      simp only [c, if_true]
      refine ⟨fun P' h => (by cases h), fun k' p h => ?_⟩
      cases h
      refine ⟨_, ?_, (CFt.mk' (M' := M) (fun c hc => rfl)).ln⟩
      simp (disch := first | assumption | exact nar_b0 | exact nar_b1 | exact nar_b | exact Or.inl rfl | exact Or.inr rfl | exact zin_t (by omega) (by omega) | exact Nat.le_of_ble_eq_true rfl | (rw [nI_cl (by omega)]; assumption) | omega) only [↓reduceIte, reduceCtorEq, not_true_eq_false, not_false_eq_true, q28_0, q28_1, q28_2, q28_5, q28_6, q28_7, q28_10, q28_11, q28_12, q28_15, q28_16, q28_18, q28_21, q28_22, q28_23, q28_26, q28_27, q28_30, q28_31, q28_34, q28_35, q28_38, q28_39, q28_42, q28_43, q28_46, q28_47, q28_50, q28_51, q28_54, q28_55, q28_58, q28_59, q28_61, q28_64, q28_67, q28_68, q28_71, q28_72, q28_75, q28_78, q28_79, q28_80, q28_83, q28_86, q28_87, q28_89, q28_92, q28_95, q28_96, q28_99, q28_100, q28_101, q28_104, q28_107, q28_110, q28_111, q28_114, q28_117, q28_118, q28_119, q28_120, q28_123, q28_126i, q28_126a, q28_127, q28_128, q28_131, kl_int, kl_ref, kl_tok, cS_nil, cS_int, cS_ref, cS_long, tl_some, tl_none, List.cons_append, List.nil_append, nI_add, nI_ltb, nI_leb, nI_eqb, nI_cl, zin_nI, h6, c, h4, hf, h9', zk0_inl]
    · simp only [c, if_false]
      refine ⟨fun P' h => ?_, fun k' p h => (by cases h)⟩
      cases h
      refine ⟨hW, hE, c, M, ?_, hC, LnF.refl⟩
      simp (disch := first | assumption | exact nar_b0 | exact nar_b1 | exact nar_b | exact Or.inl rfl | exact Or.inr rfl | exact zin_t (by omega) (by omega) | exact Nat.le_of_ble_eq_true rfl | (rw [nI_cl (by omega)]; assumption) | omega) only [↓reduceIte, reduceCtorEq, not_true_eq_false, not_false_eq_true, q28_0, q28_1, q28_2, q28_5, q28_6, q28_7, q28_10, q28_11, q28_12, q28_15, q28_16, q28_18, q28_21, q28_22, q28_23, q28_26, q28_27, q28_30, q28_31, q28_34, q28_35, q28_38, q28_39, q28_42, q28_43, q28_46, q28_47, q28_50, q28_51, q28_54, q28_55, q28_58, q28_59, q28_61, q28_64, q28_67, q28_68, q28_71, q28_72, q28_75, q28_78, q28_79, q28_80, q28_83, q28_86, q28_87, q28_89, q28_92, q28_95, q28_96, q28_99, q28_100, q28_101, q28_104, q28_107, q28_110, q28_111, q28_114, q28_117, q28_118, q28_119, q28_120, q28_123, q28_126i, q28_126a, q28_127, q28_128, q28_131, kl_int, kl_ref, kl_tok, cS_nil, cS_int, cS_ref, cS_long, tl_some, tl_none, List.cons_append, List.nil_append, nI_add, nI_ltb, nI_leb, nI_eqb, nI_cl, zin_nI, h6, c, h9, zk0_inl]
  induction m with
  | zero =>
    intro k i P M hk hki hsk hF hP hC hW hE hT
    have hn := hP.2.2.1
    have h4 := hP.1
    have h5 := hP.2.1
    have := fin k i P M hP hC hW hE
    unfold pAll
    rw [q28_60]
    have z2 : n ≤ i := by omega
    by_cases z1 : 500 ≤ k
    · simp (disch := first | assumption | exact nar_b0 | exact nar_b1 | exact nar_b | exact Or.inl rfl | exact Or.inr rfl | exact zin_t (by omega) (by omega) | exact Nat.le_of_ble_eq_true rfl | (rw [nI_cl (by omega)]; assumption) | omega) only [↓reduceIte, reduceCtorEq, not_true_eq_false, not_false_eq_true, q28_0, q28_1, q28_2, q28_5, q28_6, q28_7, q28_10, q28_11, q28_12, q28_15, q28_16, q28_18, q28_21, q28_22, q28_23, q28_26, q28_27, q28_30, q28_31, q28_34, q28_35, q28_38, q28_39, q28_42, q28_43, q28_46, q28_47, q28_50, q28_51, q28_54, q28_55, q28_58, q28_59, q28_61, q28_64, q28_67, q28_68, q28_71, q28_72, q28_75, q28_78, q28_79, q28_80, q28_83, q28_86, q28_87, q28_89, q28_92, q28_95, q28_96, q28_99, q28_100, q28_101, q28_104, q28_107, q28_111, q28_114, q28_117, q28_118, q28_119, q28_120, q28_123, q28_126i, q28_126a, q28_127, q28_128, q28_131, kl_int, kl_ref, kl_tok, cS_nil, cS_int, cS_ref, cS_long, tl_some, tl_none, List.cons_append, List.nil_append, nI_add, nI_ltb, nI_leb, nI_eqb, nI_cl, zin_nI, z1]
      exact this
    · simp (disch := first | assumption | exact nar_b0 | exact nar_b1 | exact nar_b | exact Or.inl rfl | exact Or.inr rfl | exact zin_t (by omega) (by omega) | exact Nat.le_of_ble_eq_true rfl | (rw [nI_cl (by omega)]; assumption) | omega) only [↓reduceIte, reduceCtorEq, not_true_eq_false, not_false_eq_true, q28_0, q28_1, q28_2, q28_5, q28_6, q28_7, q28_10, q28_11, q28_12, q28_15, q28_16, q28_18, q28_21, q28_22, q28_23, q28_26, q28_27, q28_30, q28_31, q28_34, q28_35, q28_38, q28_39, q28_42, q28_43, q28_46, q28_47, q28_50, q28_51, q28_54, q28_55, q28_58, q28_59, q28_61, q28_64, q28_67, q28_68, q28_71, q28_72, q28_75, q28_78, q28_79, q28_80, q28_83, q28_86, q28_87, q28_89, q28_92, q28_95, q28_96, q28_99, q28_100, q28_101, q28_104, q28_107, q28_111, q28_114, q28_117, q28_118, q28_119, q28_120, q28_123, q28_126i, q28_126a, q28_127, q28_128, q28_131, kl_int, kl_ref, kl_tok, cS_nil, cS_int, cS_ref, cS_long, tl_some, tl_none, List.cons_append, List.nil_append, nI_add, nI_ltb, nI_leb, nI_eqb, nI_cl, zin_nI, h4, h5, z1, z2]
      exact this
  | succ m ih =>
    intro k i P M hk hki hsk hF hP hC hW hE hT
    have hn := hP.2.2.1
    have h4 := hP.1
    have h5 := hP.2.1
    have z1 : ¬ 500 ≤ k := by omega
    unfold pAll
    by_cases z : i < n
    · rw [if_pos z]
      have z2 : ¬ n ≤ i := by omega
      obtain ⟨l1, l2⟩ := readLine_ (d := d) hS hF hj hP hsk hC hW hE hT
      unfold pLine
      cases hb : pBody b n P i with
      | inl f =>
        obtain ⟨k', p'⟩ := f
        obtain ⟨M1, g1, g2⟩ := l2 k' p' hb
        have g9 := g2.1
        refine ⟨fun P' h => (by cases h), fun k2 p2 h => ?_⟩
        cases h
        refine ⟨M1, ?_, g2⟩
        rw [q28_60]
        simp (disch := first | assumption | exact nar_b0 | exact nar_b1 | exact nar_b | exact Or.inl rfl | exact Or.inr rfl | exact zin_t (by omega) (by omega) | exact Nat.le_of_ble_eq_true rfl | (rw [nI_cl (by omega)]; assumption) | omega) only [↓reduceIte, reduceCtorEq, not_true_eq_false, not_false_eq_true, q28_0, q28_1, q28_2, q28_5, q28_6, q28_7, q28_10, q28_11, q28_12, q28_15, q28_16, q28_18, q28_21, q28_22, q28_23, q28_26, q28_27, q28_30, q28_31, q28_34, q28_35, q28_38, q28_39, q28_42, q28_43, q28_46, q28_47, q28_50, q28_51, q28_54, q28_55, q28_58, q28_59, q28_61, q28_64, q28_67, q28_68, q28_71, q28_72, q28_75, q28_78, q28_79, q28_80, q28_83, q28_86, q28_87, q28_89, q28_92, q28_95, q28_96, q28_99, q28_100, q28_101, q28_104, q28_107, q28_110, q28_111, q28_114, q28_117, q28_118, q28_119, q28_120, q28_123, q28_126i, q28_126a, q28_127, q28_128, q28_131, kl_int, kl_ref, kl_tok, cS_nil, cS_int, cS_ref, cS_long, tl_some, tl_none, List.cons_append, List.nil_append, nI_add, nI_ltb, nI_leb, nI_eqb, nI_cl, zin_nI, h4, h5, z1, z2, g1, g9, zk0_inl]
      | inr w =>
        obtain ⟨P1, i1⟩ := w
        obtain ⟨p1, p2, p3, p4, M1, g1, g2, g3, g4⟩ := l1 P1 i1 hb
        have hT1 := pBody_PT hT hb
        cases hs : isH b n (sk b n i1) (nI 59)
        · obtain ⟨M2, q1, q2⟩ := readSign_f (d := d + 21) (R := R) hS g2 hs
          have g9 := q2.1
          simp only [hs, Bool.false_eq_true, if_false]
          refine ⟨fun P' h => (by cases h), fun k2 p2 h => ?_⟩
          cases h
          refine ⟨M2, ?_, LnE.after g4 q2.ln⟩
          rw [q28_60]
          simp (disch := first | assumption | exact nar_b0 | exact nar_b1 | exact nar_b | exact Or.inl rfl | exact Or.inr rfl | exact zin_t (by omega) (by omega) | exact Nat.le_of_ble_eq_true rfl | (rw [nI_cl (by omega)]; assumption) | omega) only [↓reduceIte, reduceCtorEq, not_true_eq_false, not_false_eq_true, q28_0, q28_1, q28_2, q28_5, q28_6, q28_7, q28_10, q28_11, q28_12, q28_15, q28_16, q28_18, q28_21, q28_22, q28_23, q28_26, q28_27, q28_30, q28_31, q28_34, q28_35, q28_38, q28_39, q28_42, q28_43, q28_46, q28_47, q28_50, q28_51, q28_54, q28_55, q28_58, q28_59, q28_61, q28_64, q28_67, q28_68, q28_71, q28_72, q28_75, q28_78, q28_79, q28_80, q28_83, q28_86, q28_87, q28_89, q28_92, q28_95, q28_96, q28_99, q28_100, q28_101, q28_104, q28_107, q28_110, q28_111, q28_114, q28_117, q28_118, q28_119, q28_120, q28_123, q28_126i, q28_126a, q28_127, q28_128, q28_131, kl_int, kl_ref, kl_tok, cS_nil, cS_int, cS_ref, cS_long, tl_some, tl_none, List.cons_append, List.nil_append, nI_add, nI_ltb, nI_leb, nI_eqb, nI_cl, zin_nI, h4, h5, z1, z2, g1, q1, g9, zk0_inl]
        · have q1 := readSign_t (d := d + 21) (R := R) hS g2 hs
          have hlt := isH_lt hs
          have hge := sk_ge b n i1
          have hP2 : PCx (atM M1 (sk b n i1 + 1)) b n (sk b n i1 + 1) := g2.mv (by omega)
          have q2 := skipBlanks_ (d := d + 22) (R := R) hS hP2
          rw [atM_at] at q2
          have hge2 := sk_ge b n (sk b n i1 + 1)
          have hle2 := sk_le (b := b) (n := n) (i := sk b n i1 + 1) (by omega)
          have hF1 : FO (atM M1 (sk b n (sk b n i1 + 1))) := hF.fr (fun c h => by rw [atM_c (by omega), g4 c (by omega) (by omega) (by omega)])
          have ih' := ih (k + 1) (sk b n (sk b n i1 + 1)) P1 (atM M1 (sk b n (sk b n i1 + 1))) (by omega) (by omega) (sk_sk (by omega)) hF1 (g2.mv hle2) (g3.at hj) p3 p4 hT1
          have hf : LnF j M (atM M1 (sk b n (sk b n i1 + 1))) := g4.trans LnF.at
          have hx : exe (d + 23) 28 60 [.ref 92, .ref (tb j), .int (nI n), .int (nI k)] [] M R = exe (d + 23) 28 60 [.ref 92, .ref (tb j), .int (nI n), .int (nI (k + 1))] [] (atM M1 (sk b n (sk b n i1 + 1))) R := by
            rw [q28_60]
            simp (disch := first | assumption | exact nar_b0 | exact nar_b1 | exact nar_b | exact Or.inl rfl | exact Or.inr rfl | exact zin_t (by omega) (by omega) | exact Nat.le_of_ble_eq_true rfl | (rw [nI_cl (by omega)]; assumption) | omega) only [↓reduceIte, reduceCtorEq, not_true_eq_false, not_false_eq_true, q28_0, q28_1, q28_2, q28_5, q28_6, q28_7, q28_10, q28_11, q28_12, q28_15, q28_16, q28_18, q28_21, q28_22, q28_23, q28_26, q28_27, q28_30, q28_31, q28_34, q28_35, q28_38, q28_39, q28_42, q28_43, q28_46, q28_47, q28_50, q28_51, q28_54, q28_55, q28_58, q28_59, q28_61, q28_64, q28_67, q28_68, q28_71, q28_72, q28_75, q28_78, q28_79, q28_80, q28_83, q28_86, q28_87, q28_89, q28_92, q28_95, q28_96, q28_99, q28_100, q28_101, q28_104, q28_107, q28_110, q28_111, q28_114, q28_117, q28_118, q28_119, q28_120, q28_123, q28_126i, q28_126a, q28_127, q28_128, q28_131, kl_int, kl_ref, kl_tok, cS_nil, cS_int, cS_ref, cS_long, tl_some, tl_none, List.cons_append, List.nil_append, nI_add, nI_ltb, nI_leb, nI_eqb, nI_cl, zin_nI, h4, h5, z1, z2, g1, q1, q2, zk0_inl]
          rw [hx]
          simp only [hs, if_true]
          refine ⟨fun P' h => ?_, fun k2 p2 h => ?_⟩
          · obtain ⟨a1, a2, a3, M', a4, a5, a6⟩ := ih'.1 P' h
            exact ⟨a1, a2, a3, M', a4, a5, hf.trans a6⟩
          · obtain ⟨M', a4, a5⟩ := ih'.2 k2 p2 h
            exact ⟨M', a4, LnE.after hf a5⟩
    · rw [if_neg z]
      have z2 : n ≤ i := by omega
      have := fin k i P M hP hC hW hE
      rw [q28_60]
      simp (disch := first | assumption | exact nar_b0 | exact nar_b1 | exact nar_b | exact Or.inl rfl | exact Or.inr rfl | exact zin_t (by omega) (by omega) | exact Nat.le_of_ble_eq_true rfl | (rw [nI_cl (by omega)]; assumption) | omega) only [↓reduceIte, reduceCtorEq, not_true_eq_false, not_false_eq_true, q28_0, q28_1, q28_2, q28_5, q28_6, q28_7, q28_10, q28_11, q28_12, q28_15, q28_16, q28_18, q28_21, q28_22, q28_23, q28_26, q28_27, q28_30, q28_31, q28_34, q28_35, q28_38, q28_39, q28_42, q28_43, q28_46, q28_47, q28_50, q28_51, q28_54, q28_55, q28_58, q28_59, q28_61, q28_64, q28_67, q28_68, q28_71, q28_72, q28_75, q28_78, q28_79, q28_80, q28_83, q28_86, q28_87, q28_89, q28_92, q28_95, q28_96, q28_99, q28_100, q28_101, q28_104, q28_107, q28_111, q28_114, q28_117, q28_118, q28_119, q28_120, q28_123, q28_126i, q28_126a, q28_127, q28_128, q28_131, kl_int, kl_ref, kl_tok, cS_nil, cS_int, cS_ref, cS_long, tl_some, tl_none, List.cons_append, List.nil_append, nI_add, nI_ltb, nI_leb, nI_eqb, nI_cl, zin_nI, h4, h5, z1, z2]
      exact this
theorem read_ (hS : Sh R) (hj : j < 10) (hF : FO M) (hn : n ≤ 500) (hb : ∀ k, k < n → M 93 k = b k) : RdQ R j (cal (d + 23) 28 [.ref 92, .ref (tb j), .int (nI n)] M R) M b n (pText b n) := by
  obtain ⟨nN, k92, k93, l93, k94, k95, l95, k96, l96, k97, l97, k98, k99, l99, k100, l100, k101, l101, k102, k103, l103, k104, l104, k105, l105, f92_0, f92_1, f94_0, f94_1, f94_2, f92_2, f98_0, f98_1, f98_2, f92_3, f102_0, f102_1, f102_2⟩ := parF hS
  obtain ⟨nN_j, tlt_j, kt0_j, kt1_j, lt1_j, kt2_j, lt2_j, kt3_j, lt3_j, kt4_j, lt4_j, kt5_j, lt5_j, kt6_j, lt6_j, kt7_j, lt7_j, kt8_j, lt8_j, ft0_0_j, ft1_0_j, ft1_1_j, ft0_1_j, ft0_2_j, ft0_3_j, ft0_4_j, ft0_5_j⟩ := tabF hS hj
  have htj := tb_lt hj
  have hP := rp_cx (b := b) hj hn hb
  have hC := rp_sc (M := M) (n := n) hj
  have c1 := clear_ (d := d + 21) (M := rpM M n) hS hj
  have c2 := skipBlanks_ (d := d + 22) (R := R) hS hP
  have hge := sk_ge b n 0
  have hle := sk_le (b := b) (Nat.zero_le n)
  have hF1 : FO (atM (clM (rpM M n) j) (sk b n 0)) := hF.fr (fun c h => by rw [atM_c (by omega), clM_c (by omega), rpM_c (by omega) (by omega) (by omega) (by omega)])
  have h := rd_L (d := d) hS hj n 0 (sk b n 0) ps0 (atM (clM (rpM M n) j) (sk b n 0)) (by omega) hge (sk_sk (Nat.zero_le _)) hF1 (hP.mv hle) (hC.at hj) PW.zero PE.zero PT.zero
  have hf : LnF j M (atM (clM (rpM M n) j) (sk b n 0)) := fun c a1 a2 a3 => by rw [atM_c a1, clM_c a3, rpM_c a1 (by omega) (by omega) (by omega)]
  have hx : cal (d + 23) 28 [.ref 92, .ref (tb j), .int (nI n)] M R = exe (d + 23) 28 60 [.ref 92, .ref (tb j), .int (nI n), .int (nI 0)] [] (atM (clM (rpM M n) j) (sk b n 0)) R := by
    rw [e28]
    unfold rpM at c1 c2 ⊢
    simp (disch := first | assumption | exact nar_b0 | exact nar_b1 | exact nar_b | exact Or.inl rfl | exact Or.inr rfl | exact zin_t (by omega) (by omega) | exact Nat.le_of_ble_eq_true rfl | (rw [nI_cl (by omega)]; assumption) | omega) only [↓reduceIte, reduceCtorEq, not_true_eq_false, not_false_eq_true, q28_0, q28_1, q28_2, q28_5, q28_6, q28_7, q28_10, q28_11, q28_12, q28_15, q28_16, q28_18, q28_21, q28_22, q28_23, q28_26, q28_27, q28_30, q28_31, q28_34, q28_35, q28_38, q28_39, q28_42, q28_43, q28_46, q28_47, q28_50, q28_51, q28_54, q28_55, q28_58, q28_59, q28_61, q28_64, q28_67, q28_68, q28_71, q28_72, q28_75, q28_78, q28_79, q28_80, q28_83, q28_86, q28_87, q28_89, q28_92, q28_95, q28_96, q28_99, q28_100, q28_101, q28_104, q28_107, q28_110, q28_111, q28_114, q28_117, q28_118, q28_119, q28_120, q28_123, q28_126i, q28_126a, q28_127, q28_128, q28_131, kl_int, kl_ref, kl_tok, cS_nil, cS_int, cS_ref, cS_long, tl_some, tl_none, List.cons_append, List.nil_append, nI_add, nI_ltb, nI_leb, nI_eqb, nI_cl, zin_nI, c1, c2, zk0_inl]
  have he : pText b n = pEnd n (pAll b n n ps0 (sk b n 0)) := rfl
  rw [hx, he]
  refine ⟨fun P' h' => ?_, fun k2 p2 h' => ?_⟩
  · obtain ⟨a1, a2, a3, M', a4, a5, a6⟩ := h.1 P' h'
    exact ⟨a1, a2, a3, M', a4, a5, hf.trans a6⟩
  · obtain ⟨M', a4, a5⟩ := h.2 k2 p2 h'
    exact ⟨M', a4, LnE.after hf a5⟩
end Lt
