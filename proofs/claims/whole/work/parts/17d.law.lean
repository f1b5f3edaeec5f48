-- the law
section Lx
variable {d i L k : Nat} {M : ZM} {R : ZH} {xs : Nat → Int32}
theorem law_exit {v5 v6 : Value} (hi : L < i + 6) (hL : L ≤ 3072) (hi2 : i ≤ 100000) (h : LI xs L M R k) : exe (d + 30) 219 23 [.ref 1000000, .ref 0, .ref 127, .ref 146, .int (nI i), v5, v6] [] M R = some (.inl (some (.int (nI 1))), M, R) := by
  obtain ⟨G, j, hC, hM, hW, hx, hl, h6, h7⟩ := h
  have hS := hC.1.1
  have ks := hS.2.2.2.1
  have ka : 11 ≤ zK R 1000000 ∧ zK R 1000000 ≤ 16 := by omega
  have z : (nI L - nI 6 < nI i) = True := by rw [sub6 hL hi2]; exact eq_true hi
  simp (disch := first | assumption | exact nar_b0 | exact nar_b1 | exact nar_b | exact Or.inl rfl | exact Or.inr rfl | exact zin_t (by omega) (by omega) | exact Nat.le_of_ble_eq_true rfl | (rw [nI_cl (by omega)]; assumption) | omega) only [↓reduceIte, reduceCtorEq, not_true_eq_false, not_false_eq_true, q219_23, q219_25, q219_26, q219_27, q219_29, q219_30, q219_33, q219_34, q219_36, q219_37, q219_39, q219_1522, q219_1523, kl_int, kl_ref, kl_tok, cS_nil, cS_int, cS_ref, cS_long, tl_some, tl_none, List.cons_append, List.nil_append, nI_add, nI_ltb, nI_leb, nI_eqb, nI_cl, zin_nI, hl, z]
theorem law_head {v5 v6 : Value} (hi : i + 6 ≤ L) (hL : L ≤ 3072) (h : LI xs L M R k) : exe (d + 30) 219 23 [.ref 1000000, .ref 0, .ref 127, .ref 146, .int (nI i), v5, v6] [] M R = exe (d + 30) 219 40 [.ref 1000000, .ref 0, .ref 127, .ref 146, .int (nI i), v5, v6] [.int (xs i &&& nI 31)] M R := by
  obtain ⟨G, j, hC, hM, hW, hx, hl, h6, h7⟩ := h
  have hS := hC.1.1
  have ks := hS.2.2.2.1
  have ka : 11 ≤ zK R 1000000 ∧ zK R 1000000 ≤ 16 := by omega
  have z : (nI L - nI 6 < nI i) = False := by rw [sub6 hL (by omega)]; exact eq_false (by omega)
  simp (disch := first | assumption | exact nar_b0 | exact nar_b1 | exact nar_b | exact Or.inl rfl | exact Or.inr rfl | exact zin_t (by omega) (by omega) | exact Nat.le_of_ble_eq_true rfl | (rw [nI_cl (by omega)]; assumption) | omega) only [↓reduceIte, reduceCtorEq, not_true_eq_false, not_false_eq_true, q219_23, q219_25, q219_26, q219_27, q219_29, q219_30, q219_33, q219_34, q219_36, q219_37, q219_39, kl_int, kl_ref, kl_tok, cS_nil, cS_int, cS_ref, cS_long, tl_some, tl_none, List.cons_append, List.nil_append, nI_add, nI_ltb, nI_leb, nI_eqb, nI_cl, zin_nI, hl, z, hx]
theorem law_case {v5 v6 : Value} (hi : i + 6 ≤ L) (hL : L ≤ 3072) (h : LI xs L M R k) : LoS d xs L i M R k 23 v5 v6 := by
  have h0 := law_head (d := d) (v5 := v5) (v6 := v6) hi hL h
  obtain ⟨w, hw, ew⟩ := and31 (xs i)
  rw [ew] at h0
  have fin : ∀ pc, exe (d + 30) 219 40 [.ref 1000000, .ref 0, .ref 127, .ref 146, .int (nI i), v5, v6] [.int (nI w)] M R = exe (d + 30) 219 pc [.ref 1000000, .ref 0, .ref 127, .ref 146, .int (nI i), v5, v6] [] M R → LoS d xs L i M R k pc v5 v6 → LoS d xs L i M R k 23 v5 v6 := by
    intro pc e1 ⟨M', R', a5, a6, e2, e3⟩
    exact ⟨M', R', a5, a6, by rw [h0, e1, e2], e3⟩
  by_cases c : w < 26
  · match w, c with
    | 0, _ => exact fin 160 q219_40c0 (s_0 hi hL h)
    | 1, _ => exact fin 233 q219_40c1 (s_1 hi hL h)
    | 2, _ => exact fin 289 q219_40c2 (s_2 hi hL h)
    | 3, _ => exact fin 302 q219_40c3 (s_3 hi hL h)
    | 4, _ => exact fin 358 q219_40c4 (s_4 hi hL h)
    | 5, _ => exact fin 402 q219_40c5 (s_5 hi hL h)
    | 6, _ => exact fin 470 q219_40c6 (s_6 hi hL h)
    | 7, _ => exact fin 538 q219_40c7 (s_7 hi hL h)
    | 8, _ => exact fin 551 q219_40c8 (s_8 hi hL h)
    | 9, _ => exact fin 607 q219_40c9 (s_9 hi hL h)
    | 10, _ => exact fin 675 q219_40c10 (s_10 hi hL h)
    | 11, _ => exact fin 759 q219_40c11 (s_11 hi hL h)
    | 12, _ => exact fin 815 q219_40c12 (s_12 hi hL h)
    | 13, _ => exact fin 871 q219_40c13 (s_13 hi hL h)
    | 14, _ => exact fin 927 q219_40c14 (s_14 hi hL h)
    | 15, _ => exact fin 940 q219_40c15 (s_15 hi hL h)
    | 16, _ => exact fin 996 q219_40c16 (s_16 hi hL h)
    | 17, _ => exact fin 1052 q219_40c17 (s_17 hi hL h)
    | 18, _ => exact fin 1065 q219_40c18 (s_18 hi hL h)
    | 19, _ => exact fin 1149 q219_40c19 (s_19 hi hL h)
    | 20, _ => exact fin 1217 q219_40c20 (s_20 hi hL h)
    | 21, _ => exact fin 1285 q219_40c21 (s_21 hi hL h)
    | 22, _ => exact fin 1353 q219_40c22 (s_22 hi hL h)
    | 23, _ => exact fin 1409 q219_40c23 (s_23 hi hL h)
    | 24, _ => exact fin 1477 q219_40c24 (s_24 hi hL h)
    | 25, _ => exact fin 1491 q219_40c25 (s_25 hi hL h)
    | n + 26, q => omega
  · refine fin 1516 (q219_40d (Or.inr ?_)) ⟨M, R, v5, v6, rfl, h.mono (by omega)⟩
    rw [nI_toInt (by omega)]
    omega
theorem law_L (hL : L ≤ 3072) : ∀ (m i k : Nat) (M : ZM) (R : ZH) (v5 v6 : Value), L < i + 6 + 6 * m → i ≤ 6 * k → k + m ≤ 600 → LI xs L M R k → ∃ M' R', exe (d + 30) 219 23 [.ref 1000000, .ref 0, .ref 127, .ref 146, .int (nI i), v5, v6] [] M R = some (.inl (some (.int (nI 1))), M', R') ∧ zC R' ≤ 747 ∧ zL R' ≤ 69876 := by
  intro m
  induction m with
  | zero =>
    intro i k M R v5 v6 hi hk hm h
    refine ⟨M, R, law_exit (by omega) hL (by omega) h, ?_⟩
    obtain ⟨G, j, hC, hM, hW, hx, hl, h6, h7⟩ := h
    omega
  | succ m ih =>
    intro i k M R v5 v6 hi hk hm h
    by_cases c : L < i + 6
    · refine ⟨M, R, law_exit c hL (by omega) h, ?_⟩
      obtain ⟨G, j, hC, hM, hW, hx, hl, h6, h7⟩ := h
      omega
    · obtain ⟨M1, R1, a5, a6, e1, e2⟩ := law_case (d := d) (i := i) (v5 := v5) (v6 := v6) (by omega) hL h
      obtain ⟨M', R', g1, g2⟩ := ih (i + 6) (k + 1) M1 R1 a5 a6 (by omega) (by omega) (by omega) e2
      refine ⟨M', R', ?_, g2⟩
      rw [e1, ← g1]
      simp (disch := first | assumption | exact nar_b0 | exact nar_b1 | exact nar_b | exact Or.inl rfl | exact Or.inr rfl | exact zin_t (by omega) (by omega) | exact Nat.le_of_ble_eq_true rfl | (rw [nI_cl (by omega)]; assumption) | omega) only [↓reduceIte, reduceCtorEq, not_true_eq_false, not_false_eq_true, q219_1516, q219_1519, kl_int, kl_ref, kl_tok, cS_nil, cS_int, cS_ref, cS_long, tl_some, tl_none, List.cons_append, List.nil_append, nI_add, nI_ltb, nI_leb, nI_eqb, nI_cl, zin_nI, Nat.reduceAdd]
theorem law_runs (hL : L ≤ 3072) : ∃ M' R', exe 30 219 0 [.ref 1000000, tok, tok, tok, tok, tok, tok] [] (FM0 xs) (FS0 L) = some (.inl (some (.int 1)), M', R') ∧ zC R' ≤ 601024 ∧ zL R' ≤ 7293034 := by
  obtain ⟨N, e1, h⟩ := law_start (d := 25) (L := L) (xs := xs)
  obtain ⟨r1, r2, r3⟩ := room_0 (L := L)
  have hI : LI xs L N (tbR L 147 147) 0 := ⟨G00, 0, CS_0 h, MS_0 h, WG_0, scr_0 h, r3, by rw [r1]; omega, by rw [r2]; omega⟩
  obtain ⟨M', R', g1, g2, g3⟩ := law_L (d := 0) hL 512 0 0 N (tbR L 147 147) tok tok (by omega) (by omega) (by omega) hI
  exact ⟨M', R', e1.trans g1, by omega, by omega⟩
end Lx
