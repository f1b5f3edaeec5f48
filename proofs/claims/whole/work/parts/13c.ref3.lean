-- the reference: a turn more, another order, one less, at once
theorem remI_shift {α : Type} : ∀ (l : List α) (S S' i j : Nat), (∀ k, k < l.length → S'.testBit (i + k) = S.testBit (j + k)) → remI l S' i = remI l S j
  | [], _, _, _, _, _ => rfl
  | x :: l, S, S', i, j, h => by
    have h0 := h 0 (by simp)
    rw [Nat.add_zero, Nat.add_zero] at h0
    rw [remI, remI, h0, remI_shift l S S' (i + 1) (j + 1) (fun k hk => by
      have := h (k + 1) (by simpa using hk)
      rw [show i + 1 + k = i + (k + 1) by omega, show j + 1 + k = j + (k + 1) by omega]
      exact this)]
theorem remI_erase {α : Type} : ∀ (l : List α) (p i S S' : Nat), p < l.length → (∀ k, k < p → S'.testBit (i + k) = S.testBit (i + k)) → (∀ k, p ≤ k → k + 1 < l.length → S'.testBit (i + k) = S.testBit (i + k + 1)) → S.testBit (i + p) = true → remI (l.eraseIdx p) S' i = remI l S i
  | [], _, _, _, _, h, _, _, _ => absurd h (Nat.not_lt_zero _)
  | x :: l, 0, i, S, S', _, _, h2, h3 => by
    rw [Nat.add_zero] at h3
    rw [List.eraseIdx_zero, List.tail_cons, remI, h3, if_pos rfl]
    exact remI_shift l S S' i (i + 1) (fun k hk => by
      rw [h2 k (Nat.zero_le _) (by simpa using hk), show i + k + 1 = i + 1 + k by omega])
  | x :: l, p + 1, i, S, S', h, h1, h2, h3 => by
    rw [List.eraseIdx_cons_succ, remI, remI, remI_erase l p (i + 1) S S' (by simpa using h) (fun k hk => by
      have := h1 (k + 1) (by omega)
      rw [show i + 1 + k = i + (k + 1) by omega]
      exact this) (fun k hk hl => by
      have := h2 (k + 1) (by omega) (by simpa using hl)
      rw [show i + 1 + k = i + (k + 1) by omega]
      exact this) (by rw [show i + 1 + p = i + (p + 1) by omega]; exact h3)]
    have := h1 0 (by omega)
    rw [Nat.add_zero] at this
    rw [this]
theorem Tk_erase {f : Nat → Int32} (hW : Wf f) {p : Nat} (hp : p < ln f) : rem ((RowL f).eraseIdx p) (stN f ((RowL f).eraseIdx p)) = Tk f (nI (rw f p)) := by
  rw [← Tk_rem hW hp]
  have hl : ((RowL f).eraseIdx p).length = ln f - 1 := by
    rw [List.length_eraseIdx_of_lt (by rw [RowL_len]; exact hp), RowL_len]
  have hb : ∀ k, k < ln f - 1 → (stN f ((RowL f).eraseIdx p)).testBit k = stk f (nmK ((RowL f).eraseIdx p) k) := by
    intro k hk
    unfold stN
    rw [setB_bit, hl, decide_eq_true hk, Bool.true_and]
  have hn : ∀ k (h : k < ((RowL f).eraseIdx p).length), nmK ((RowL f).eraseIdx p) k = rw f (if k < p then k else k + 1) := by
    intro k h
    unfold nmK
    rw [getD_lt h, List.getElem_eraseIdx]
    split
    · rw [RowL_get]; rfl
    · rw [RowL_get]; rfl
  refine remI_erase (RowL f) p 0 (stS f ||| 2 ^ p) _ (by rw [RowL_len]; exact hp) ?_ ?_ ?_
  · intro k hk
    rw [Nat.zero_add, hb k (by omega), hn k (by omega), if_pos hk, tb_or, decide_eq_false (by omega), Bool.or_false, stS_bit (by omega)]
  · intro k hk hl2
    rw [RowL_len] at hl2
    rw [Nat.zero_add, hb k (by omega), hn k (by omega), if_neg (by omega), tb_or, decide_eq_false (by omega), Bool.or_false, stS_bit (by omega)]
  · rw [Nat.zero_add, tb_or]
    simp
section Mq
variable {d : Nat} {M : ZM} {R : ZH} {G : GS}
theorem more_L {s : Nat} {y : Int32} {ts : List Nat} (hs : s < 2) (hS : Sh R) (hT : ts.length ≤ 8) : ∀ (t : Nat) (M : ZM), t ≤ ts.length → (∀ (k : Nat) (h : k < ts.length), k < t → M 140 k = nI ts[k]) → (∀ (k : Nat) (h : k < ts.length), t ≤ k → M 140 (k + 1) = nI ts[k]) →
    ∃ M', exe (d + 7) 177 29 [.ref 127, .int (nI s), .int y, .int (nI t)] [] M R = exe (d + 7) 177 53 [.ref 127, .int (nI s), .int y, .int (nI 0)] [] M' R ∧ (∀ (k : Nat) (h : k < ts.length), M' 140 (k + 1) = nI ts[k]) ∧ ∀ c, c ≠ 140 → M' c = M c := by
  obtain ⟨nN, k127, k128, l128, k129, l129, k130, l130, k131, l131, k132, l132, k133, l133, k134, l134, k135, l135, k136, l136, k137, l137, k138, l138, k139, l139, k140, l140, k141, l141, k142, l142, k143, l143, k144, l144, k145, l145, k146, l146, f127_1, f127_2, f127_3, f127_4, f127_6, f127_7, f127_17, f127_18, f127_19, f127_22, f127_24, f127_25, f127_26, f127_29, f127_30, f127_31, f127_32, f127_33⟩ := modF hS
  intro t
  induction t with
  | zero =>
    intro M ht h1 h2
    refine ⟨M, ?_, fun k h => h2 k h (Nat.zero_le _), fun _ _ => rfl⟩
    have z : 0 ≤ 0 := Nat.le_refl _
    rw [q177_29]
    simp (disch := first | assumption | exact nar_b0 | exact nar_b1 | exact nar_b | exact Or.inl rfl | exact Or.inr rfl | exact zin_t (by omega) (by omega) | exact Nat.le_of_ble_eq_true rfl | (rw [nI_cl (by omega)]; assumption) | omega) only [↓reduceIte, reduceCtorEq, not_true_eq_false, not_false_eq_true, q177_0, q177_1, q177_2, q177_5, q177_6, q177_7, q177_8, q177_11, q177_14, q177_15, q177_16, q177_17, q177_20, q177_21, q177_24, q177_25, q177_28, q177_30, q177_33, q177_34, q177_37, q177_38, q177_39, q177_42, q177_43, q177_44, q177_45, q177_46, q177_47, q177_50, q177_54, q177_57, q177_58, q177_61, q177_62, q177_65, q177_66, q177_69, q177_70, q177_71, q177_72i, q177_72a, q177_73, q177_76, q177_77, q177_78, q177_81, q177_82, q177_85, q177_86, q177_87, q177_88, q177_91, q177_92, q177_95, kl_int, kl_ref, kl_tok, cS_nil, cS_int, cS_ref, cS_long, tl_some, tl_none, List.cons_append, List.nil_append, nI_add, nI_ltb, nI_leb, nI_eqb, nI_cl, zin_nI, z]
  | succ t ih =>
    intro M ht h1 h2
    obtain ⟨M', g1, g2, g3⟩ := ih (up2 M 140 (t + 1) (nI ts[t])) (by omega) (fun k h hk => by rw [up2_s (by omega)]; exact h1 k h (by omega)) (fun k h hk => by
      by_cases e : k = t
      · subst e; rw [up2_at]
      · rw [up2_s (by omega)]; exact h2 k h (by omega))
    refine ⟨M', ?_, g2, fun c h => by rw [g3 c h, up2_ne h]⟩
    have z : ¬ t + 1 ≤ 0 := by omega
    have q := h1 t (by omega) (by omega)
    have e1 : nI (t + 1) - nI 1 = nI t := nI_pred t
    rw [← g1]
    rw [q177_29]
    simp (disch := first | assumption | exact nar_b0 | exact nar_b1 | exact nar_b | exact Or.inl rfl | exact Or.inr rfl | exact zin_t (by omega) (by omega) | exact Nat.le_of_ble_eq_true rfl | (rw [nI_cl (by omega)]; assumption) | omega) only [↓reduceIte, reduceCtorEq, not_true_eq_false, not_false_eq_true, q177_0, q177_1, q177_2, q177_5, q177_6, q177_7, q177_8, q177_11, q177_14, q177_15, q177_16, q177_17, q177_20, q177_21, q177_24, q177_25, q177_28, q177_30, q177_33, q177_34, q177_37, q177_38, q177_39, q177_42, q177_43, q177_44, q177_45, q177_46, q177_47, q177_50, q177_53, q177_54, q177_57, q177_58, q177_61, q177_62, q177_65, q177_66, q177_69, q177_70, q177_71, q177_72i, q177_72a, q177_73, q177_76, q177_77, q177_78, q177_81, q177_82, q177_85, q177_86, q177_87, q177_88, q177_91, q177_92, q177_95, kl_int, kl_ref, kl_tok, cS_nil, cS_int, cS_ref, cS_long, tl_some, tl_none, List.cons_append, List.nil_append, nI_add, nI_ltb, nI_leb, nI_eqb, nI_cl, zin_nI, z, e1, q]
theorem VN {se sp bx s : Nat} {ts : List Nat} {f : Nat → Int32} (hs : s < 2) (hS : Sh R) (hG : GmR M se sp bx (RowL f) ts) (hW : Wf f) : ∃ M', cal (d + 5) 152 [.ref 127] M R = some (.inl none, M', R) ∧ GmR M' se sp bx (RowL f) ts ∧ (∀ d, cal d 153 [.ref 127, .int (nI 0), .int (nI (stS f)), .int (nI s)] M' R = some (.inl (some (.int (iI (sdV s (VV bx se sp ts (Un f)))))), M', R)) ∧ ∀ c, c ≠ 141 → c ≠ 142 → M' c = M c := by
  obtain ⟨M', a1, a2, a3, a4⟩ := works_ (d := d) hS hG
  refine ⟨M', a1, a2, fun d => ?_, a4⟩
  have hp := pow10 hG.2.2.2.1.1
  have := stS_row (f := f)
  have h3 := valueAt_ (d := d) (M := M') (R := R) (t := 0) (S := stS f) (q := s) (by decide) (by omega) hs hS
  rw [a3.val (Nat.zero_le _) stS_row hs, Un_rem hW, List.drop_zero] at h3
  exact h3
theorem m_more_t {s : Nat} {b : Bool} (hs : s < 2) (hS : Sh R) (hW : WG G) (hM : MS M G) : OutM (cal (d + 7) 177 [.ref 127, .int (nI s), .int (b2i b)] M R) M R 0 (gV G s (if b then s :: gTs G else gTs G ++ [s]) (Un (gF G))) G := by
  obtain ⟨nN, k127, k128, l128, k129, l129, k130, l130, k131, l131, k132, l132, k133, l133, k134, l134, k135, l135, k136, l136, k137, l137, k138, l138, k139, l139, k140, l140, k141, l141, k142, l142, k143, l143, k144, l144, k145, l145, k146, l146, f127_1, f127_2, f127_3, f127_4, f127_6, f127_7, f127_17, f127_18, f127_19, f127_22, f127_24, f127_25, f127_26, f127_29, f127_30, f127_31, f127_32, f127_33⟩ := modF hS
  have hw := hW.1.nums
  have h1 := isSide_t (d := d + 5) (M := up2 M 127 0 (nI 0)) (R := R) (x := nI s) (c := nI 1) hS up2_at ⟨s, hs, rfl⟩
  obtain ⟨M1, a1, a2, a3, a4, a5⟩ := LG (d := d + 5) (M := up2 M 127 0 (nI 0)) hS hW hM.th
  rw [up2_at] at a4
  have hlen : (gTs G).length = lf (gF G) := tsl_len
  have h28 := a2.1.2.1
  have z1 : ¬ 1 = 0 := by decide
  have hts : ∀ q ∈ gTs G, q < 2 := a2.2.2.2.2.2.2
  have fin : ∀ (M2 : ZM) (ts : List Nat) (lv : List Value), (∀ c, c ≠ 140 → c ≠ 127 → M2 c = M1 c) → (∀ q, q ≠ 28 → M2 127 q = M1 127 q) → M2 127 28 = nI ts.length → ts.length ≤ 9 → (∀ (t : Nat) (h : t < ts.length), M2 140 t = nI ts[t]) → (∀ q ∈ ts, q < 2) → OutM (exe (d + 7) 177 81 (.ref 127 :: .int (nI s) :: lv) [] M2 R) M R 0 (gV G s ts (Un (gF G))) G := by
    intro M2 ts lv f1 f2 f3 f4 f5 f6
    obtain ⟨q1, q2, q3, q4, q5, q6, q7⟩ := a2
    have hG2 : GmR M2 (sn (gF G)) (pn (gF G)) (bn (gF G)) (RowL (gF G)) ts := by
      refine ⟨⟨by rw [f2 _ (by decide)]; exact q1.1, f3, ?_⟩, ?_, f5, ⟨q4.1, f4, q4.2.2⟩, q5, q6, f6⟩
      · rw [f1 _ (by decide) (by decide)]; exact q1.2.2
      · intro j h; rw [f1 _ (by decide) (by decide), f1 _ (by decide) (by decide)]; exact q2 j h
    have hM2 : MS M2 G := a3.fr (fun c hc => f1 c (by omega) (by omega)) (f2 _ (by decide)) (f2 _ (by decide)) (f2 _ (by decide))
    obtain ⟨M3, w1, w2, w3, w4⟩ := VN (d := d + 1) hs hS hG2 hW.1
    have hM3 : MS M3 G := hM2.fr (fun c hc => w4 c (by omega) (by omega)) (by rw [w4 _ (by decide) (by decide)]) (by rw [w4 _ (by decide) (by decide)]) (by rw [w4 _ (by decide) (by decide)])
    have h2 := SN (d := d + 6) hS hM3 w2
    have w3' := w3 (d + 6)
    refine OutM.ok (M' := M3) ?_ hM3 (by rw [w4 _ (by decide) (by decide), f2 _ (by decide)]; exact a4) (FrM.trans (FrM.trans (FrM.up (by decide) (by decide)) a5) (fun c h => by rw [w4 c (by omega) (by omega), f1 c (by omega) (by omega)]))
    simp (disch := first | assumption | exact nar_b0 | exact nar_b1 | exact nar_b | exact Or.inl rfl | exact Or.inr rfl | exact zin_t (by omega) (by omega) | exact Nat.le_of_ble_eq_true rfl | (rw [nI_cl (by omega)]; assumption) | omega) only [↓reduceIte, reduceCtorEq, not_true_eq_false, not_false_eq_true, q177_0, q177_1, q177_2, q177_5, q177_6, q177_7, q177_8, q177_11, q177_14, q177_15, q177_16, q177_17, q177_20, q177_21, q177_24, q177_25, q177_28, q177_30, q177_33, q177_34, q177_37, q177_38, q177_39, q177_42, q177_43, q177_44, q177_45, q177_46, q177_47, q177_50, q177_53, q177_54, q177_57, q177_58, q177_61, q177_62, q177_65, q177_66, q177_69, q177_70, q177_71, q177_72i, q177_72a, q177_73, q177_76, q177_77, q177_78, q177_81, q177_82, q177_85, q177_86, q177_87, q177_88, q177_91, q177_92, q177_95, kl_int, kl_ref, kl_tok, cS_nil, cS_int, cS_ref, cS_long, tl_some, tl_none, List.cons_append, List.nil_append, nI_add, nI_ltb, nI_leb, nI_eqb, nI_cl, zin_nI, w1, zk0_inl, h2, w3']
    rfl
  cases b
  · have hz : b2i false = nI 0 := rfl
    have e81 : cal (d + 7) 177 [.ref 127, .int (nI s), .int (b2i false)] M R = exe (d + 7) 177 81 [.ref 127, .int (nI s), .int (nI 0), tok] [] (up2 (up2 M1 140 (gTs G).length (nI s)) 127 28 (nI ((gTs G).length + 1))) R := by
      have h28' : up2 M1 140 (gTs G).length (nI s) 127 28 = nI (gTs G).length := by rw [up2_c (by decide)]; exact h28
      rw [e177]
      simp (disch := first | assumption | exact nar_b0 | exact nar_b1 | exact nar_b | exact Or.inl rfl | exact Or.inr rfl | exact zin_t (by omega) (by omega) | exact Nat.le_of_ble_eq_true rfl | (rw [nI_cl (by omega)]; assumption) | omega) only [↓reduceIte, reduceCtorEq, not_true_eq_false, not_false_eq_true, q177_0, q177_1, q177_2, q177_5, q177_6, q177_7, q177_8, q177_11, q177_14, q177_15, q177_16, q177_17, q177_20, q177_21, q177_24, q177_25, q177_28, q177_30, q177_33, q177_34, q177_37, q177_38, q177_39, q177_42, q177_43, q177_44, q177_45, q177_46, q177_47, q177_50, q177_53, q177_54, q177_57, q177_58, q177_61, q177_62, q177_65, q177_66, q177_69, q177_70, q177_71, q177_72i, q177_72a, q177_73, q177_76, q177_77, q177_78, q177_82, q177_85, q177_86, q177_87, q177_88, q177_91, q177_92, q177_95, kl_int, kl_ref, kl_tok, cS_nil, cS_int, cS_ref, cS_long, tl_some, tl_none, List.cons_append, List.nil_append, nI_add, nI_ltb, nI_leb, nI_eqb, nI_cl, zin_nI, h1, zk0_inl, z1, a1, hz, h28, h28']
    rw [e81]
    refine fin _ _ _ (fun c h1 h2 => by rw [up2_ne h2, up2_ne h1]) (fun q h => by rw [up2_s h, up2_c (by decide)]) (by rw [up2_at]; simp) (by simp; omega) ?_ ?_
    · intro t ht
      rw [up2_c (by decide)]
      simp only [Bool.false_eq_true, if_false] at ht ⊢
      by_cases e : t < (gTs G).length
      · rw [up2_s (by omega), List.getElem_append_left e]
        exact a2.2.2.1 t e
      · have e2 : t = (gTs G).length := by simp at ht; omega
        subst e2
        rw [up2_at]
        simp
    · intro q hq
      simp only [Bool.false_eq_true, if_false] at hq
      rcases List.mem_append.mp hq with h | h
      · exact hts q h
      · rw [List.mem_singleton] at h; omega
  · have hz : b2i true = nI 1 := rfl
    obtain ⟨M2, g1, g2, g3⟩ := more_L (d := d) (s := s) (y := nI 1) (ts := gTs G) hs hS (by omega) (gTs G).length M1 (Nat.le_refl _) (fun k h _ => a2.2.2.1 k h) (fun k h hk => absurd h (by omega))
    have h28' : up2 M2 140 0 (nI s) 127 28 = nI (gTs G).length := by rw [up2_c (by decide), g3 _ (by decide)]; exact h28
    have e81 : cal (d + 7) 177 [.ref 127, .int (nI s), .int (b2i true)] M R = exe (d + 7) 177 81 [.ref 127, .int (nI s), .int (nI 1), .int (nI 0)] [] (up2 (up2 M2 140 0 (nI s)) 127 28 (nI ((gTs G).length + 1))) R := by
      rw [e177]
      simp (disch := first | assumption | exact nar_b0 | exact nar_b1 | exact nar_b | exact Or.inl rfl | exact Or.inr rfl | exact zin_t (by omega) (by omega) | exact Nat.le_of_ble_eq_true rfl | (rw [nI_cl (by omega)]; assumption) | omega) only [↓reduceIte, reduceCtorEq, not_true_eq_false, not_false_eq_true, q177_0, q177_1, q177_2, q177_5, q177_6, q177_7, q177_8, q177_11, q177_14, q177_15, q177_16, q177_17, q177_20, q177_21, q177_24, q177_25, q177_28, q177_30, q177_33, q177_34, q177_37, q177_38, q177_39, q177_42, q177_43, q177_44, q177_45, q177_46, q177_47, q177_50, q177_53, q177_54, q177_57, q177_58, q177_61, q177_62, q177_65, q177_66, q177_69, q177_70, q177_71, q177_72i, q177_72a, q177_73, q177_76, q177_77, q177_78, q177_82, q177_85, q177_86, q177_87, q177_88, q177_91, q177_92, q177_95, kl_int, kl_ref, kl_tok, cS_nil, cS_int, cS_ref, cS_long, tl_some, tl_none, List.cons_append, List.nil_append, nI_add, nI_ltb, nI_leb, nI_eqb, nI_cl, zin_nI, h1, zk0_inl, z1, a1, hz, h28]
      rw [g1]
      simp (disch := first | assumption | exact nar_b0 | exact nar_b1 | exact nar_b | exact Or.inl rfl | exact Or.inr rfl | exact zin_t (by omega) (by omega) | exact Nat.le_of_ble_eq_true rfl | (rw [nI_cl (by omega)]; assumption) | omega) only [↓reduceIte, reduceCtorEq, not_true_eq_false, not_false_eq_true, q177_0, q177_1, q177_2, q177_5, q177_6, q177_7, q177_8, q177_11, q177_14, q177_15, q177_16, q177_17, q177_20, q177_21, q177_24, q177_25, q177_28, q177_30, q177_33, q177_34, q177_37, q177_38, q177_39, q177_42, q177_43, q177_44, q177_45, q177_46, q177_47, q177_50, q177_53, q177_54, q177_57, q177_58, q177_61, q177_62, q177_65, q177_66, q177_69, q177_70, q177_71, q177_72i, q177_72a, q177_73, q177_76, q177_77, q177_78, q177_82, q177_85, q177_86, q177_87, q177_88, q177_91, q177_92, q177_95, kl_int, kl_ref, kl_tok, cS_nil, cS_int, cS_ref, cS_long, tl_some, tl_none, List.cons_append, List.nil_append, nI_add, nI_ltb, nI_leb, nI_eqb, nI_cl, zin_nI, z1, h28']
    rw [e81]
    refine fin _ _ _ (fun c h1 h2 => by rw [up2_ne h2, up2_ne h1, g3 c h1]) (fun q h => by rw [up2_s h, up2_c (by decide), g3 _ (by decide)]) (by rw [up2_at]; simp) (by simp; omega) ?_ ?_
    · intro t ht
      rw [up2_c (by decide)]
      simp only [if_true] at ht ⊢
      cases t with
      | zero => rw [up2_at]; rfl
      | succ t => rw [up2_s (by omega), List.getElem_cons_succ]; exact g2 t (by simpa using ht)
    · intro q hq
      simp only [if_true] at hq
      rcases List.mem_cons.mp hq with h | h
      · omega
      · exact hts q h
theorem m_more_f {x y v : Int32} (hx : ¬ ∃ k, k < 2 ∧ x = nI k) (hS : Sh R) (hM : MS M G) : OutM (cal (d + 7) 177 [.ref 127, .int x, .int y] M R) M R 1 v (rfA G) := by
  obtain ⟨nN, k127, k128, l128, k129, l129, k130, l130, k131, l131, k132, l132, k133, l133, k134, l134, k135, l135, k136, l136, k137, l137, k138, l138, k139, l139, k140, l140, k141, l141, k142, l142, k143, l143, k144, l144, k145, l145, k146, l146, f127_1, f127_2, f127_3, f127_4, f127_6, f127_7, f127_17, f127_18, f127_19, f127_22, f127_24, f127_25, f127_26, f127_29, f127_30, f127_31, f127_32, f127_33⟩ := modF hS
  have h1 := isSide_f (d := d + 5) (M := up2 M 127 0 (nI 0)) (R := R) (x := x) (c := 1) hS up2_at (by decide) hx
  refine OutM.rA (M' := up2 M 127 0 (nI 0)) (v' := nI 0) ?_ (by decide) hM.th (FrM.up (by decide) (by decide))
  rw [e177]
  simp (disch := first | assumption | exact nar_b0 | exact nar_b1 | exact nar_b | exact Or.inl rfl | exact Or.inr rfl | exact zin_t (by omega) (by omega) | exact Nat.le_of_ble_eq_true rfl | (rw [nI_cl (by omega)]; assumption) | omega) only [↓reduceIte, reduceCtorEq, not_true_eq_false, not_false_eq_true, q177_0, q177_1, q177_2, q177_5, q177_6, q177_7, q177_8, q177_11, q177_14, q177_15, q177_16, q177_17, q177_20, q177_21, q177_24, q177_25, q177_28, q177_30, q177_33, q177_34, q177_37, q177_38, q177_39, q177_42, q177_43, q177_44, q177_45, q177_46, q177_47, q177_50, q177_53, q177_54, q177_57, q177_58, q177_61, q177_62, q177_65, q177_66, q177_69, q177_70, q177_71, q177_72i, q177_72a, q177_73, q177_76, q177_77, q177_78, q177_81, q177_82, q177_85, q177_86, q177_87, q177_88, q177_91, q177_92, q177_95, kl_int, kl_ref, kl_tok, cS_nil, cS_int, cS_ref, cS_long, tl_some, tl_none, List.cons_append, List.nil_append, nI_add, nI_ltb, nI_leb, nI_eqb, nI_cl, zin_nI, h1, zk0_inl]
theorem lf_i64 (hW : WG G) (hM : MS M G) : (up2 M 127 0 (nI 0) 129 5 - nI 1).toInt = (lf (gF G) : Int) - 1 := by
  have hw := hW.1.nums
  rw [up2_c (by decide), hM.2.2.1, hW.1.1.2.2.2.2.2.1.1, nI_m, iI_toInt (by omega) (by omega)]
theorem m_other_t {s k : Nat} (hs : s < 2) (hk : k < lf (gF G)) (hS : Sh R) (hW : WG G) (hM : MS M G) : OutM (cal (d + 7) 178 [.ref 127, .int (nI s), .int (nI k)] M R) M R 0 (gV G s ((gTs G).set k (1 - sbit (bs (gF G)) k)) (Un (gF G))) G := by
  obtain ⟨nN, k127, k128, l128, k129, l129, k130, l130, k131, l131, k132, l132, k133, l133, k134, l134, k135, l135, k136, l136, k137, l137, k138, l138, k139, l139, k140, l140, k141, l141, k142, l142, k143, l143, k144, l144, k145, l145, k146, l146, f127_1, f127_2, f127_3, f127_4, f127_6, f127_7, f127_17, f127_18, f127_19, f127_22, f127_24, f127_25, f127_26, f127_29, f127_30, f127_31, f127_32, f127_33⟩ := modF hS
  have hw := hW.1.nums
  have h0 := isSide_t (d := d + 5) (M := up2 M 127 0 (nI 0)) (R := R) (x := nI s) (c := nI 2) hS up2_at ⟨s, hs, rfl⟩
  have hf := isFine_t (d := d + 6) (M := up2 M 127 0 (nI 0)) (R := R) (c := nI 1) (k := nI 0) hS up2_at
  have r1 := rng_t (x := nI k) (n := lf (gF G)) (c := (lf (gF G) : Int) - 1) (by omega) ⟨k, hk, rfl⟩ rfl
  have l1 := lf_i64 hW hM
  obtain ⟨M1, a1, a2, a3, a4, a5⟩ := LG (d := d + 5) (M := up2 M 127 0 (nI 0)) hS hW hM.th
  rw [up2_at] at a4
  have hlen : (gTs G).length = lf (gF G) := tsl_len
  have tk := a2.2.2.1 k (by omega)
  have tk2 : (gTs G)[k]'(by omega) = sbit (bs (gF G)) k := tsl_get _
  rw [tk2] at tk
  have hsb := sbit2 (bs (gF G)) k
  generalize hM2 : up2 M1 140 k (nI (1 - sbit (bs (gF G)) k)) = M2
  have f1 : ∀ c, c ≠ 140 → M2 c = M1 c := fun c h => by rw [← hM2]; exact up2_ne h
  have hG2 : GmR M2 (sn (gF G)) (pn (gF G)) (bn (gF G)) (RowL (gF G)) ((gTs G).set k (1 - sbit (bs (gF G)) k)) := by
    obtain ⟨q1, q2, q3, q4, q5, q6, q7⟩ := a2
    refine ⟨⟨by rw [f1 _ (by decide)]; exact q1.1, by rw [f1 _ (by decide), List.length_set]; exact q1.2.1, by rw [f1 _ (by decide)]; exact q1.2.2⟩, ?_, ?_, ⟨q4.1, by rw [List.length_set]; exact q4.2.1, q4.2.2⟩, q5, q6, ?_⟩
    · intro j h; rw [f1 _ (by decide), f1 _ (by decide)]; exact q2 j h
    · intro t ht
      rw [List.getElem_set, ← hM2]
      by_cases e : k = t
      · subst e; rw [if_pos rfl, up2_at]
      · rw [if_neg e, up2_s (fun q => e q.symm)]
        exact q3 t (by rw [List.length_set] at ht; exact ht)
    · intro q hq
      rcases List.mem_or_eq_of_mem_set hq with h | h
      · exact q7 q h
      · omega
  have hM2' : MS M2 G := a3.fr (fun c hc => f1 c (by omega)) (by rw [f1 _ (by decide)]) (by rw [f1 _ (by decide)]) (by rw [f1 _ (by decide)])
  obtain ⟨M3, w1, w2, w3, w4⟩ := VN (d := d + 1) hs hS hG2 hW.1
  have hM3 : MS M3 G := hM2'.fr (fun c hc => w4 c (by omega) (by omega)) (by rw [w4 _ (by decide) (by decide)]) (by rw [w4 _ (by decide) (by decide)]) (by rw [w4 _ (by decide) (by decide)])
  have h2 := SN (d := d + 6) hS hM3 w2
  have w3' := w3 (d + 6)
  have z1 : ¬ 1 = 0 := by decide
  refine OutM.ok (M' := M3) ?_ hM3 (by rw [w4 _ (by decide) (by decide), f1 _ (by decide)]; exact a4) (FrM.trans (FrM.trans (FrM.up (by decide) (by decide)) a5) (fun c h => by rw [w4 c (by omega) (by omega), f1 c (by omega)]))
  rw [e178]
  simp (disch := first | assumption | exact nar_b0 | exact nar_b1 | exact nar_b | exact Or.inl rfl | exact Or.inr rfl | exact zin_t (by omega) (by omega) | exact Nat.le_of_ble_eq_true rfl | (rw [nI_cl (by omega)]; assumption) | omega) only [↓reduceIte, reduceCtorEq, not_true_eq_false, not_false_eq_true, q178_0, q178_1, q178_2, q178_5, q178_6, q178_7, q178_8, q178_9, q178_10, q178_13, q178_14, q178_15, q178_16, q178_17, q178_18, q178_21, q178_22, q178_23, q178_26, q178_29, q178_30, q178_31, q178_32, q178_35, q178_38, q178_39, q178_40, q178_41, q178_44, q178_45, q178_48, q178_49, q178_50, q178_51, q178_54, q178_55, q178_56, q178_57, q178_58, q178_59, q178_62, q178_63, q178_64, q178_65, q178_68, q178_69, q178_72, kl_int, kl_ref, kl_tok, cS_nil, cS_int, cS_ref, cS_long, tl_some, tl_none, List.cons_append, List.nil_append, nI_add, nI_ltb, nI_leb, nI_eqb, nI_cl, zin_nI, lies_, Int32.toInt_toInt64, c64_0, l1, r1, b2i_t, hf, h0, zk0_inl, z1, a1, tk, nI1s, hM2, w1, h2, w3']
  rfl
theorem m_other_f1 {x y v : Int32} (hy : ¬ ∃ k, k < lf (gF G) ∧ y = nI k) (hS : Sh R) (hW : WG G) (hM : MS M G) : OutM (cal (d + 7) 178 [.ref 127, .int x, .int y] M R) M R 1 v (rfN G) := by
  obtain ⟨nN, k127, k128, l128, k129, l129, k130, l130, k131, l131, k132, l132, k133, l133, k134, l134, k135, l135, k136, l136, k137, l137, k138, l138, k139, l139, k140, l140, k141, l141, k142, l142, k143, l143, k144, l144, k145, l145, k146, l146, f127_1, f127_2, f127_3, f127_4, f127_6, f127_7, f127_17, f127_18, f127_19, f127_22, f127_24, f127_25, f127_26, f127_29, f127_30, f127_31, f127_32, f127_33⟩ := modF hS
  have hw := hW.1.nums
  have hf := isFine_f (d := d + 6) (M := up2 M 127 0 (nI 0)) (R := R) (c := 1) (k := 0) hS up2_at (by decide) (by decide)
  have r1 := rng_f (x := y) (n := lf (gF G)) (c := (lf (gF G) : Int) - 1) (by omega) hy rfl
  have l1 := lf_i64 hW hM
  refine OutM.rN (M' := up2 M 127 0 (nI 0)) (v' := nI 0) ?_ (by decide) hM.th (FrM.up (by decide) (by decide))
  rw [e178]
  simp (disch := first | assumption | exact nar_b0 | exact nar_b1 | exact nar_b | exact Or.inl rfl | exact Or.inr rfl | exact zin_t (by omega) (by omega) | exact Nat.le_of_ble_eq_true rfl | (rw [nI_cl (by omega)]; assumption) | omega) only [↓reduceIte, reduceCtorEq, not_true_eq_false, not_false_eq_true, q178_0, q178_1, q178_2, q178_5, q178_6, q178_7, q178_8, q178_9, q178_10, q178_13, q178_14, q178_15, q178_16, q178_17, q178_18, q178_21, q178_22, q178_23, q178_26, q178_29, q178_30, q178_31, q178_32, q178_35, q178_38, q178_39, q178_40, q178_41, q178_44, q178_45, q178_48, q178_49, q178_50, q178_51, q178_54, q178_55, q178_56, q178_57, q178_58, q178_59, q178_62, q178_63, q178_64, q178_65, q178_68, q178_69, q178_72, kl_int, kl_ref, kl_tok, cS_nil, cS_int, cS_ref, cS_long, tl_some, tl_none, List.cons_append, List.nil_append, nI_add, nI_ltb, nI_leb, nI_eqb, nI_cl, zin_nI, lies_, Int32.toInt_toInt64, c64_0, l1, r1, b2i_f, hf, zk0_inl]
theorem m_other_f2 {x v : Int32} {k : Nat} (hk : k < lf (gF G)) (hx : ¬ ∃ k, k < 2 ∧ x = nI k) (hS : Sh R) (hW : WG G) (hM : MS M G) : OutM (cal (d + 7) 178 [.ref 127, .int x, .int (nI k)] M R) M R 2 v (rfA G) := by
  obtain ⟨nN, k127, k128, l128, k129, l129, k130, l130, k131, l131, k132, l132, k133, l133, k134, l134, k135, l135, k136, l136, k137, l137, k138, l138, k139, l139, k140, l140, k141, l141, k142, l142, k143, l143, k144, l144, k145, l145, k146, l146, f127_1, f127_2, f127_3, f127_4, f127_6, f127_7, f127_17, f127_18, f127_19, f127_22, f127_24, f127_25, f127_26, f127_29, f127_30, f127_31, f127_32, f127_33⟩ := modF hS
  have hw := hW.1.nums
  have h0 := isSide_f (d := d + 5) (M := up2 M 127 0 (nI 0)) (R := R) (x := x) (c := 2) hS up2_at (by decide) hx
  have hf := isFine_t (d := d + 6) (M := up2 M 127 0 (nI 0)) (R := R) (c := nI 1) (k := nI 0) hS up2_at
  have r1 := rng_t (x := nI k) (n := lf (gF G)) (c := (lf (gF G) : Int) - 1) (by omega) ⟨k, hk, rfl⟩ rfl
  have l1 := lf_i64 hW hM
  have z1 : ¬ 1 = 0 := by decide
  refine OutM.rA (M' := up2 M 127 0 (nI 0)) (v' := nI 0) ?_ (by decide) hM.th (FrM.up (by decide) (by decide))
  rw [e178]
  simp (disch := first | assumption | exact nar_b0 | exact nar_b1 | exact nar_b | exact Or.inl rfl | exact Or.inr rfl | exact zin_t (by omega) (by omega) | exact Nat.le_of_ble_eq_true rfl | (rw [nI_cl (by omega)]; assumption) | omega) only [↓reduceIte, reduceCtorEq, not_true_eq_false, not_false_eq_true, q178_0, q178_1, q178_2, q178_5, q178_6, q178_7, q178_8, q178_9, q178_10, q178_13, q178_14, q178_15, q178_16, q178_17, q178_18, q178_21, q178_22, q178_23, q178_26, q178_29, q178_30, q178_31, q178_32, q178_35, q178_38, q178_39, q178_40, q178_41, q178_44, q178_45, q178_48, q178_49, q178_50, q178_51, q178_54, q178_55, q178_56, q178_57, q178_58, q178_59, q178_62, q178_63, q178_64, q178_65, q178_68, q178_69, q178_72, kl_int, kl_ref, kl_tok, cS_nil, cS_int, cS_ref, cS_long, tl_some, tl_none, List.cons_append, List.nil_append, nI_add, nI_ltb, nI_leb, nI_eqb, nI_cl, zin_nI, lies_, Int32.toInt_toInt64, c64_0, l1, r1, b2i_t, hf, h0, zk0_inl, z1]
theorem wo_L {s p : Nat} {x : Value} {Rw : List P3} (hS : Sh R) (hp : p < Rw.length) (hl : Rw.length ≤ 10) : ∀ (m k : Nat) (M : ZM), k + m = Rw.length - 1 → p ≤ k → M 127 27 = nI (Rw.length - 1) → (∀ (j : Nat) (h : j < (Rw.eraseIdx p).length), j < k → M 139 j = nI ((Rw.eraseIdx p)[j]).1) → (∀ (j : Nat) (h : j < Rw.length), k < j → M 139 j = nI (Rw[j]).1) →
    ∃ M', exe (d + 7) 179 85 [.ref 127, .int (nI s), x, .int (nI p), .int (nI k)] [] M R = exe (d + 7) 179 116 [.ref 127, .int (nI s), x, .int (nI p), .int (nI (Rw.length - 1))] [] M' R ∧ (∀ (j : Nat) (h : j < (Rw.eraseIdx p).length), M' 139 j = nI ((Rw.eraseIdx p)[j]).1) ∧ ∀ c, c ≠ 139 → M' c = M c := by
  obtain ⟨nN, k127, k128, l128, k129, l129, k130, l130, k131, l131, k132, l132, k133, l133, k134, l134, k135, l135, k136, l136, k137, l137, k138, l138, k139, l139, k140, l140, k141, l141, k142, l142, k143, l143, k144, l144, k145, l145, k146, l146, f127_1, f127_2, f127_3, f127_4, f127_6, f127_7, f127_17, f127_18, f127_19, f127_22, f127_24, f127_25, f127_26, f127_29, f127_30, f127_31, f127_32, f127_33⟩ := modF hS
  have hel : (Rw.eraseIdx p).length = Rw.length - 1 := List.length_eraseIdx_of_lt hp
  intro m
  induction m with
  | zero =>
    intro k M hk hpk h27 h1 h2
    have e : k = Rw.length - 1 := by omega
    subst e
    refine ⟨M, ?_, fun j h => h1 j h (by omega), fun _ _ => rfl⟩
    have z : Rw.length - 1 ≤ Rw.length - 1 := Nat.le_refl _
    rw [q179_85]
    simp (disch := first | assumption | exact nar_b0 | exact nar_b1 | exact nar_b | exact Or.inl rfl | exact Or.inr rfl | exact zin_t (by omega) (by omega) | exact Nat.le_of_ble_eq_true rfl | (rw [nI_cl (by omega)]; assumption) | omega) only [↓reduceIte, reduceCtorEq, not_true_eq_false, not_false_eq_true, q179_0, q179_1, q179_2, q179_5, q179_6, q179_7, q179_10, q179_11, q179_12, q179_13, q179_14, q179_17, q179_18, q179_21, q179_22, q179_23, q179_24, q179_27, q179_30, q179_31, q179_32, q179_33, q179_36, q179_39, q179_40, q179_41, q179_44, q179_46, q179_47, q179_48, q179_49, q179_50, q179_53, q179_54, q179_57, q179_58, q179_59, q179_60, q179_63, q179_66, q179_67, q179_68, q179_69, q179_72, q179_73i, q179_73a, q179_74, q179_77, q179_78, q179_79, q179_82, q179_83, q179_87, q179_88, q179_91, q179_94, q179_95, q179_98, q179_100, q179_101, q179_104, q179_106, q179_107, q179_108, q179_109, q179_110, q179_113, q179_117, q179_120, q179_121, q179_122, q179_123, q179_126, q179_127, q179_130, kl_int, kl_ref, kl_tok, cS_nil, cS_int, cS_ref, cS_long, tl_some, tl_none, List.cons_append, List.nil_append, nI_add, nI_ltb, nI_leb, nI_eqb, nI_cl, zin_nI, h27, z]
  | succ m ih =>
    intro k M hk hpk h27 h1 h2
    have q := h2 (k + 1) (by omega) (by omega)
    have z : ¬ Rw.length - 1 ≤ k := by omega
    obtain ⟨M', g1, g2, g3⟩ := ih (k + 1) (up2 M 139 k (nI (Rw[k + 1]'(by omega)).1)) (by omega) (by omega) (by rw [up2_c (by decide)]; exact h27) (fun j h hj => by
      by_cases e : j = k
      · subst e
        rw [up2_at, List.getElem_eraseIdx_of_ge _ hpk]
      · rw [up2_s e]; exact h1 j h (by omega)) (fun j h hj => by rw [up2_s (by omega)]; exact h2 j h (by omega))
    refine ⟨M', ?_, g2, fun c h => by rw [g3 c h, up2_ne h]⟩
    rw [← g1]
    rw [q179_85]
    simp (disch := first | assumption | exact nar_b0 | exact nar_b1 | exact nar_b | exact Or.inl rfl | exact Or.inr rfl | exact zin_t (by omega) (by omega) | exact Nat.le_of_ble_eq_true rfl | (rw [nI_cl (by omega)]; assumption) | omega) only [↓reduceIte, reduceCtorEq, not_true_eq_false, not_false_eq_true, q179_0, q179_1, q179_2, q179_5, q179_6, q179_7, q179_10, q179_11, q179_12, q179_13, q179_14, q179_17, q179_18, q179_21, q179_22, q179_23, q179_24, q179_27, q179_30, q179_31, q179_32, q179_33, q179_36, q179_39, q179_40, q179_41, q179_44, q179_46, q179_47, q179_48, q179_49, q179_50, q179_53, q179_54, q179_57, q179_58, q179_59, q179_60, q179_63, q179_66, q179_67, q179_68, q179_69, q179_72, q179_73i, q179_73a, q179_74, q179_77, q179_78, q179_79, q179_82, q179_83, q179_87, q179_88, q179_91, q179_94, q179_95, q179_98, q179_100, q179_101, q179_104, q179_106, q179_107, q179_108, q179_109, q179_110, q179_113, q179_116, q179_117, q179_120, q179_121, q179_122, q179_123, q179_126, q179_127, q179_130, kl_int, kl_ref, kl_tok, cS_nil, cS_int, cS_ref, cS_long, tl_some, tl_none, List.cons_append, List.nil_append, nI_add, nI_ltb, nI_leb, nI_eqb, nI_cl, zin_nI, h27, z, q]
theorem stk_m {M : ZM} {p : Nat} (hW : WG G) (hM : MS M G) : M 129 (78 + rw (gF G) p) = gF G (78 + rw (gF G) p) := by rw [hM.2.2.1]
theorem m_wo_t {s p : Nat} {x : Int32} (hs : s < 2) (hx : plI (gF G) x = some p) (hu : stk (gF G) (rw (gF G) p) = false) (hS : Sh R) (hW : WG G) (hM : MS M G) : OutM (cal (d + 7) 179 [.ref 127, .int (nI s), .int x] M R) M R 0 (gV G s (gTs G) (Tk (gF G) x)) G := by
  obtain ⟨nN, k127, k128, l128, k129, l129, k130, l130, k131, l131, k132, l132, k133, l133, k134, l134, k135, l135, k136, l136, k137, l137, k138, l138, k139, l139, k140, l140, k141, l141, k142, l142, k143, l143, k144, l144, k145, l145, k146, l146, f127_1, f127_2, f127_3, f127_4, f127_6, f127_7, f127_17, f127_18, f127_19, f127_22, f127_24, f127_25, f127_26, f127_29, f127_30, f127_31, f127_32, f127_33⟩ := modF hS
  have hw := hW.1.nums
  obtain ⟨p1, rfl, p3, p4⟩ := plI_some hW.1 hx
  have hM0 : MS (up2 M 127 0 (nI 0)) G := hM.th
  have h0 := placeOfR_ (d := d + 6) (x := nI (rw (gF G) p)) hS hW hM0
  rw [hx] at h0
  have hf1 := isFine_t (d := d + 6) (M := up2 M 127 0 (nI 0)) (R := R) (c := nI 1) (k := nI 0) hS up2_at
  have hf2 := isSide_t (d := d + 5) (M := up2 M 127 0 (nI 0)) (R := R) (x := nI s) (c := nI 2) hS up2_at ⟨s, hs, rfl⟩
  have hf3 := isFine_t (d := d + 6) (M := up2 M 127 0 (nI 0)) (R := R) (c := nI 3) (k := nI 2) hS up2_at
  have hst : up2 M 127 0 (nI 0) 129 (78 + rw (gF G) p) = -1 := by
    rw [hM0.2.2.1]
    unfold stk at hu
    simpa using hu
  obtain ⟨M1, a1, a2, a3, a4, a5⟩ := LG (d := d + 5) (M := up2 M 127 0 (nI 0)) hS hW hM0
  rw [up2_at] at a4
  have hpl : p < (RowL (gF G)).length := by rw [RowL_len]; exact p1
  have h27 := a2.1.1
  have hl10 := a2.2.2.2.1.1
  generalize hM2 : up2 M1 127 27 (nI ((RowL (gF G)).length - 1)) = M2
  have f2 : ∀ c, c ≠ 127 → M2 c = M1 c := fun c h => by rw [← hM2]; exact up2_ne h
  obtain ⟨M3, g1, g2, g3⟩ := wo_L (d := d) (s := s) (p := p) (x := .int (nI (rw (gF G) p))) (Rw := RowL (gF G)) hS hpl hl10 ((RowL (gF G)).length - 1 - p) p M2 (by omega) (Nat.le_refl _) (by rw [← hM2, up2_at]) (fun j h hj => by
    rw [f2 _ (by decide), List.getElem_eraseIdx_of_lt _ hj]
    exact (a2.2.1 j (by omega)).1) (fun j h hj => by rw [f2 _ (by decide)]; exact (a2.2.1 j h).1)
  have f3 : ∀ c, c ≠ 127 → c ≠ 139 → M3 c = M1 c := fun c h h' => by rw [g3 c h', f2 c h]
  have f3s : ∀ q, q ≠ 27 → M3 127 q = M1 127 q := fun q h => by rw [g3 _ (by decide), ← hM2, up2_s h]
  have hel : ((RowL (gF G)).eraseIdx p).length = (RowL (gF G)).length - 1 := List.length_eraseIdx_of_lt hpl
  have hG3 : GmR M3 (sn (gF G)) (pn (gF G)) (bn (gF G)) ((RowL (gF G)).eraseIdx p) (gTs G) := by
    obtain ⟨q1, q2, q3, q4, q5, q6, q7⟩ := a2
    refine ⟨⟨by rw [g3 _ (by decide), ← hM2, up2_at, hel], by rw [f3s _ (by decide)]; exact q1.2.1, by rw [f3 _ (by decide) (by decide)]; exact q1.2.2⟩, ?_, ?_, ⟨by omega, q4.2⟩, fun q hq => q5 q (List.mem_of_mem_eraseIdx hq), ?_, q7⟩
    · intro j h
      refine ⟨g2 j h, ?_⟩
      rw [f3 _ (by decide) (by decide)]
      by_cases e : j < p
      · rw [List.getElem_eraseIdx_of_lt _ e]; exact (q2 j (by omega)).2
      · rw [List.getElem_eraseIdx_of_ge _ (by omega)]; exact (q2 (j + 1) (by omega)).2
    · intro t h; rw [f3 _ (by decide) (by decide)]; exact q3 t h
    · intro i j hij h
      by_cases e : j < p
      · rw [List.getElem_eraseIdx_of_lt _ e, List.getElem_eraseIdx_of_lt _ (by omega)]; exact q6 i j hij (by omega)
      · rw [List.getElem_eraseIdx_of_ge h (by omega)]
        by_cases e2 : i < p
        · rw [List.getElem_eraseIdx_of_lt _ e2]; exact q6 i (j + 1) (by omega) (by omega)
        · rw [List.getElem_eraseIdx_of_ge _ (by omega)]; exact q6 (i + 1) (j + 1) (by omega) (by omega)
  have hM3 : MS M3 G := a3.fr (fun c hc => f3 c (by omega) (by omega)) (f3s _ (by decide)) (f3s _ (by decide)) (f3s _ (by decide))
  obtain ⟨M4, w1, w2, w3, w4⟩ := works_ (d := d + 1) hS hG3
  have hM4 : MS M4 G := hM3.fr (fun c hc => w4 c (by omega) (by omega)) (by rw [w4 _ (by decide) (by decide)]) (by rw [w4 _ (by decide) (by decide)]) (by rw [w4 _ (by decide) (by decide)])
  have h2 := struckNow_ (d := d + 6) hS w2
  rw [hM4.2.2.1] at h2
  have hSl : stN (gF G) ((RowL (gF G)).eraseIdx p) < 2 ^ ((RowL (gF G)).eraseIdx p).length := setB_lt _ _
  have hp10 := pow10 w2.2.2.2.1.1
  have h3 := valueAt_ (d := d + 6) (M := M4) (R := R) (t := 0) (S := stN (gF G) ((RowL (gF G)).eraseIdx p)) (q := s) (by decide) (by omega) hs hS
  rw [w3.val (Nat.zero_le _) hSl hs, Tk_erase hW.1 p1, List.drop_zero] at h3
  have z0 : ¬ nI p = -1 := by rw [nI_m1 (by omega)]; exact id
  have z1 : ¬ 1 = 0 := by decide
  have hge : 1 ≤ (RowL (gF G)).length := by omega
  refine OutM.ok (M' := M4) ?_ hM4 (by rw [w4 _ (by decide) (by decide), f3s _ (by decide)]; exact a4) (FrM.trans (FrM.trans (FrM.up (by decide) (by decide)) a5) (fun c h => by rw [w4 c (by omega) (by omega), f3 c (by omega) (by omega)]))
  rw [e179]
  simp (disch := first | assumption | exact nar_b0 | exact nar_b1 | exact nar_b | exact Or.inl rfl | exact Or.inr rfl | exact zin_t (by omega) (by omega) | exact Nat.le_of_ble_eq_true rfl | (rw [nI_cl (by omega)]; assumption) | omega) only [↓reduceIte, reduceCtorEq, not_true_eq_false, not_false_eq_true, q179_0, q179_1, q179_2, q179_5, q179_6, q179_7, q179_10, q179_11, q179_12, q179_13, q179_14, q179_17, q179_18, q179_21, q179_22, q179_23, q179_24, q179_27, q179_30, q179_31, q179_32, q179_33, q179_36, q179_39, q179_40, q179_41, q179_44, q179_46, q179_47, q179_48, q179_49, q179_50, q179_53, q179_54, q179_57, q179_58, q179_59, q179_60, q179_63, q179_66, q179_67, q179_68, q179_69, q179_72, q179_73i, q179_73a, q179_74, q179_77, q179_78, q179_79, q179_82, q179_83, q179_87, q179_88, q179_91, q179_94, q179_95, q179_98, q179_100, q179_101, q179_104, q179_106, q179_107, q179_108, q179_109, q179_110, q179_113, q179_116, q179_117, q179_120, q179_121, q179_122, q179_123, q179_126, q179_127, q179_130, kl_int, kl_ref, kl_tok, cS_nil, cS_int, cS_ref, cS_long, tl_some, tl_none, List.cons_append, List.nil_append, nI_add, nI_ltb, nI_leb, nI_eqb, nI_cl, zin_nI, h0, oI, z0, hf1, hf2, zk0_inl, z1, hst, hf3, a1, h27, nI_sub1, hM2]
  rw [g1]
  simp (disch := first | assumption | exact nar_b0 | exact nar_b1 | exact nar_b | exact Or.inl rfl | exact Or.inr rfl | exact zin_t (by omega) (by omega) | exact Nat.le_of_ble_eq_true rfl | (rw [nI_cl (by omega)]; assumption) | omega) only [↓reduceIte, reduceCtorEq, not_true_eq_false, not_false_eq_true, q179_0, q179_1, q179_2, q179_5, q179_6, q179_7, q179_10, q179_11, q179_12, q179_13, q179_14, q179_17, q179_18, q179_21, q179_22, q179_23, q179_24, q179_27, q179_30, q179_31, q179_32, q179_33, q179_36, q179_39, q179_40, q179_41, q179_44, q179_46, q179_47, q179_48, q179_49, q179_50, q179_53, q179_54, q179_57, q179_58, q179_59, q179_60, q179_63, q179_66, q179_67, q179_68, q179_69, q179_72, q179_73i, q179_73a, q179_74, q179_77, q179_78, q179_79, q179_82, q179_83, q179_87, q179_88, q179_91, q179_94, q179_95, q179_98, q179_100, q179_101, q179_104, q179_106, q179_107, q179_108, q179_109, q179_110, q179_113, q179_116, q179_117, q179_120, q179_121, q179_122, q179_123, q179_126, q179_127, q179_130, kl_int, kl_ref, kl_tok, cS_nil, cS_int, cS_ref, cS_long, tl_some, tl_none, List.cons_append, List.nil_append, nI_add, nI_ltb, nI_leb, nI_eqb, nI_cl, zin_nI, w1, zk0_inl, h2, h3]
  rfl
theorem m_wo_f1 {x y v : Int32} (hx : plI (gF G) x = none) (hS : Sh R) (hW : WG G) (hM : MS M G) : OutM (cal (d + 7) 179 [.ref 127, .int y, .int x] M R) M R 1 v (rfN G) := by
  obtain ⟨nN, k127, k128, l128, k129, l129, k130, l130, k131, l131, k132, l132, k133, l133, k134, l134, k135, l135, k136, l136, k137, l137, k138, l138, k139, l139, k140, l140, k141, l141, k142, l142, k143, l143, k144, l144, k145, l145, k146, l146, f127_1, f127_2, f127_3, f127_4, f127_6, f127_7, f127_17, f127_18, f127_19, f127_22, f127_24, f127_25, f127_26, f127_29, f127_30, f127_31, f127_32, f127_33⟩ := modF hS
  have hM0 : MS (up2 M 127 0 (nI 0)) G := hM.th
  have h0 := placeOfR_ (d := d + 6) (x := x) hS hW hM0
  rw [hx] at h0
  have hf1 := isFine_f (d := d + 6) (M := up2 M 127 0 (nI 0)) (R := R) (c := 1) (k := 0) hS up2_at (by decide) (by decide)
  refine OutM.rN (M' := up2 M 127 0 (nI 0)) (v' := nI 0) ?_ (by decide) hM0 (FrM.up (by decide) (by decide))
  rw [e179]
  simp (disch := first | assumption | exact nar_b0 | exact nar_b1 | exact nar_b | exact Or.inl rfl | exact Or.inr rfl | exact zin_t (by omega) (by omega) | exact Nat.le_of_ble_eq_true rfl | (rw [nI_cl (by omega)]; assumption) | omega) only [↓reduceIte, reduceCtorEq, not_true_eq_false, not_false_eq_true, q179_0, q179_1, q179_2, q179_5, q179_6, q179_7, q179_10, q179_11, q179_12, q179_13, q179_14, q179_17, q179_18, q179_21, q179_22, q179_23, q179_24, q179_27, q179_30, q179_31, q179_32, q179_33, q179_36, q179_39, q179_40, q179_41, q179_44, q179_46, q179_47, q179_48, q179_49, q179_50, q179_53, q179_54, q179_57, q179_58, q179_59, q179_60, q179_63, q179_66, q179_67, q179_68, q179_69, q179_72, q179_73i, q179_73a, q179_74, q179_77, q179_78, q179_79, q179_82, q179_83, q179_87, q179_88, q179_91, q179_94, q179_95, q179_98, q179_100, q179_101, q179_104, q179_106, q179_107, q179_108, q179_109, q179_110, q179_113, q179_116, q179_117, q179_120, q179_121, q179_122, q179_123, q179_126, q179_127, q179_130, kl_int, kl_ref, kl_tok, cS_nil, cS_int, cS_ref, cS_long, tl_some, tl_none, List.cons_append, List.nil_append, nI_add, nI_ltb, nI_leb, nI_eqb, nI_cl, zin_nI, h0, oI, hf1, zk0_inl]
theorem m_wo_f2 {x y v : Int32} {p : Nat} (hx : plI (gF G) x = some p) (hy : ¬ ∃ k, k < 2 ∧ y = nI k) (hS : Sh R) (hW : WG G) (hM : MS M G) : OutM (cal (d + 7) 179 [.ref 127, .int y, .int x] M R) M R 2 v (rfA G) := by
  obtain ⟨nN, k127, k128, l128, k129, l129, k130, l130, k131, l131, k132, l132, k133, l133, k134, l134, k135, l135, k136, l136, k137, l137, k138, l138, k139, l139, k140, l140, k141, l141, k142, l142, k143, l143, k144, l144, k145, l145, k146, l146, f127_1, f127_2, f127_3, f127_4, f127_6, f127_7, f127_17, f127_18, f127_19, f127_22, f127_24, f127_25, f127_26, f127_29, f127_30, f127_31, f127_32, f127_33⟩ := modF hS
  have hw := hW.1.nums
  obtain ⟨p1, p2, p3, p4⟩ := plI_some hW.1 hx
  have hM0 : MS (up2 M 127 0 (nI 0)) G := hM.th
  have h0 := placeOfR_ (d := d + 6) (x := x) hS hW hM0
  rw [hx] at h0
  have hf1 := isFine_t (d := d + 6) (M := up2 M 127 0 (nI 0)) (R := R) (c := nI 1) (k := nI 0) hS up2_at
  have hf2 := isSide_f (d := d + 5) (M := up2 M 127 0 (nI 0)) (R := R) (x := y) (c := 2) hS up2_at (by decide) hy
  have z0 : ¬ nI p = -1 := by rw [nI_m1 (by omega)]; exact id
  have z1 : ¬ 1 = 0 := by decide
  refine OutM.rA (M' := up2 M 127 0 (nI 0)) (v' := nI 0) ?_ (by decide) hM0 (FrM.up (by decide) (by decide))
  rw [e179]
  simp (disch := first | assumption | exact nar_b0 | exact nar_b1 | exact nar_b | exact Or.inl rfl | exact Or.inr rfl | exact zin_t (by omega) (by omega) | exact Nat.le_of_ble_eq_true rfl | (rw [nI_cl (by omega)]; assumption) | omega) only [↓reduceIte, reduceCtorEq, not_true_eq_false, not_false_eq_true, q179_0, q179_1, q179_2, q179_5, q179_6, q179_7, q179_10, q179_11, q179_12, q179_13, q179_14, q179_17, q179_18, q179_21, q179_22, q179_23, q179_24, q179_27, q179_30, q179_31, q179_32, q179_33, q179_36, q179_39, q179_40, q179_41, q179_44, q179_46, q179_47, q179_48, q179_49, q179_50, q179_53, q179_54, q179_57, q179_58, q179_59, q179_60, q179_63, q179_66, q179_67, q179_68, q179_69, q179_72, q179_73i, q179_73a, q179_74, q179_77, q179_78, q179_79, q179_82, q179_83, q179_87, q179_88, q179_91, q179_94, q179_95, q179_98, q179_100, q179_101, q179_104, q179_106, q179_107, q179_108, q179_109, q179_110, q179_113, q179_116, q179_117, q179_120, q179_121, q179_122, q179_123, q179_126, q179_127, q179_130, kl_int, kl_ref, kl_tok, cS_nil, cS_int, cS_ref, cS_long, tl_some, tl_none, List.cons_append, List.nil_append, nI_add, nI_ltb, nI_leb, nI_eqb, nI_cl, zin_nI, h0, oI, z0, hf1, hf2, zk0_inl, z1]
theorem m_wo_f3 {s p : Nat} {x v : Int32} (hs : s < 2) (hx : plI (gF G) x = some p) (hu : stk (gF G) (rw (gF G) p) = true) (hS : Sh R) (hW : WG G) (hM : MS M G) : OutM (cal (d + 7) 179 [.ref 127, .int (nI s), .int x] M R) M R 3 v (rfS G) := by
  obtain ⟨nN, k127, k128, l128, k129, l129, k130, l130, k131, l131, k132, l132, k133, l133, k134, l134, k135, l135, k136, l136, k137, l137, k138, l138, k139, l139, k140, l140, k141, l141, k142, l142, k143, l143, k144, l144, k145, l145, k146, l146, f127_1, f127_2, f127_3, f127_4, f127_6, f127_7, f127_17, f127_18, f127_19, f127_22, f127_24, f127_25, f127_26, f127_29, f127_30, f127_31, f127_32, f127_33⟩ := modF hS
  have hw := hW.1.nums
  obtain ⟨p1, rfl, p3, p4⟩ := plI_some hW.1 hx
  have hM0 : MS (up2 M 127 0 (nI 0)) G := hM.th
  have h0 := placeOfR_ (d := d + 6) (x := nI (rw (gF G) p)) hS hW hM0
  rw [hx] at h0
  have hf1 := isFine_t (d := d + 6) (M := up2 M 127 0 (nI 0)) (R := R) (c := nI 1) (k := nI 0) hS up2_at
  have hf2 := isSide_t (d := d + 5) (M := up2 M 127 0 (nI 0)) (R := R) (x := nI s) (c := nI 2) hS up2_at ⟨s, hs, rfl⟩
  have hf3 := isFine_f (d := d + 6) (M := up2 M 127 0 (nI 0)) (R := R) (c := 3) (k := 2) hS up2_at (by decide) (by decide)
  have hst : ¬ up2 M 127 0 (nI 0) 129 (78 + rw (gF G) p) = -1 := by
    rw [hM0.2.2.1]
    unfold stk at hu
    simpa using hu
  have z0 : ¬ nI p = -1 := by rw [nI_m1 (by omega)]; exact id
  have z1 : ¬ 1 = 0 := by decide
  refine OutM.rS (M' := up2 M 127 0 (nI 0)) (v' := nI 0) ?_ (by decide) hM0 (FrM.up (by decide) (by decide))
  rw [e179]
  simp (disch := first | assumption | exact nar_b0 | exact nar_b1 | exact nar_b | exact Or.inl rfl | exact Or.inr rfl | exact zin_t (by omega) (by omega) | exact Nat.le_of_ble_eq_true rfl | (rw [nI_cl (by omega)]; assumption) | omega) only [↓reduceIte, reduceCtorEq, not_true_eq_false, not_false_eq_true, q179_0, q179_1, q179_2, q179_5, q179_6, q179_7, q179_10, q179_11, q179_12, q179_13, q179_14, q179_17, q179_18, q179_21, q179_22, q179_23, q179_24, q179_27, q179_30, q179_31, q179_32, q179_33, q179_36, q179_39, q179_40, q179_41, q179_44, q179_46, q179_47, q179_48, q179_49, q179_50, q179_53, q179_54, q179_57, q179_58, q179_59, q179_60, q179_63, q179_66, q179_67, q179_68, q179_69, q179_72, q179_73i, q179_73a, q179_74, q179_77, q179_78, q179_79, q179_82, q179_83, q179_87, q179_88, q179_91, q179_94, q179_95, q179_98, q179_100, q179_101, q179_104, q179_106, q179_107, q179_108, q179_109, q179_110, q179_113, q179_116, q179_117, q179_120, q179_121, q179_122, q179_123, q179_126, q179_127, q179_130, kl_int, kl_ref, kl_tok, cS_nil, cS_int, cS_ref, cS_long, tl_some, tl_none, List.cons_append, List.nil_append, nI_add, nI_ltb, nI_leb, nI_eqb, nI_cl, zin_nI, h0, oI, z0, hf1, hf2, zk0_inl, z1, hst, hf3]
end Mq
