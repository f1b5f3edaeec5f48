-- the class: turns, box, causes, bench
def PT (P : PS) : Prop := (tL P).testBit 2 = false → rD P 5 = nI 0 ∧ rD P 6 = nI 0
theorem PSC.clA {M M' : ZM} {j : Nat} {P : PS} {st : List CdS} (h : PSC M j P) (hj : j < 10) (hM : ∀ c, c ≠ 92 → (c < 94 ∨ 97 < c) → M' c = M c) (h7 : M' 92 7 = M 92 7) (h8 : M' 92 8 = M 92 8) (hc : ClR M' 94 st) : PSC M' j (rD P, fI P, fN P, tL P, gR P, st, cB P, cC P) := by
  have htj := tb_lt hj
  obtain ⟨a, b, c, d, e, f⟩ := h
  refine ⟨?_, ?_, ?_, ?_, ?_, hc, ?_, ?_⟩
  · rw [hM _ (by omega) (by omega)]; exact a
  · intro k hk; rw [hM _ (by omega) (by omega), hM _ (by omega) (by omega), hM _ (by omega) (by omega), hM _ (by omega) (by omega)]; exact b k hk
  · intro k hk; rw [hM _ (by omega) (by omega), hM _ (by omega) (by omega), hM _ (by omega) (by omega), hM _ (by omega) (by omega)]; exact c k hk
  · intro k hk; rw [hM _ (by omega) (by omega), hM _ (by omega) (by omega)]; exact d k hk
  · rw [h7, h8]; exact e
  · exact f.2.1.fr (fun c h1 h2 => hM c (by omega) (by omega))
  · exact f.2.2.fr (fun c h1 h2 => hM c (by omega) (by omega))
theorem PSC.clB {M M' : ZM} {j : Nat} {P : PS} {st : List CdS} (h : PSC M j P) (hj : j < 10) (hM : ∀ c, c ≠ 92 → (c < 98 ∨ 101 < c) → M' c = M c) (h7 : M' 92 7 = M 92 7) (h8 : M' 92 8 = M 92 8) (hc : ClR M' 98 st) : PSC M' j (rD P, fI P, fN P, tL P, gR P, cA P, st, cC P) := by
  have htj := tb_lt hj
  obtain ⟨a, b, c, d, e, f⟩ := h
  refine ⟨?_, ?_, ?_, ?_, ?_, ?_, hc, ?_⟩
  · rw [hM _ (by omega) (by omega)]; exact a
  · intro k hk; rw [hM _ (by omega) (by omega), hM _ (by omega) (by omega), hM _ (by omega) (by omega), hM _ (by omega) (by omega)]; exact b k hk
  · intro k hk; rw [hM _ (by omega) (by omega), hM _ (by omega) (by omega), hM _ (by omega) (by omega), hM _ (by omega) (by omega)]; exact c k hk
  · intro k hk; rw [hM _ (by omega) (by omega), hM _ (by omega) (by omega)]; exact d k hk
  · rw [h7, h8]; exact e
  · exact f.1.fr (fun c h1 h2 => hM c (by omega) (by omega))
  · exact f.2.2.fr (fun c h1 h2 => hM c (by omega) (by omega))
theorem PSC.clC {M M' : ZM} {j : Nat} {P : PS} {st : List CdS} (h : PSC M j P) (hj : j < 10) (hM : ∀ c, c ≠ 92 → (c < 102 ∨ 105 < c) → M' c = M c) (h7 : M' 92 7 = M 92 7) (h8 : M' 92 8 = M 92 8) (hc : ClR M' 102 st) : PSC M' j (rD P, fI P, fN P, tL P, gR P, cA P, cB P, st) := by
  have htj := tb_lt hj
  obtain ⟨a, b, c, d, e, f⟩ := h
  refine ⟨?_, ?_, ?_, ?_, ?_, ?_, ?_, hc⟩
  · rw [hM _ (by omega) (by omega)]; exact a
  · intro k hk; rw [hM _ (by omega) (by omega), hM _ (by omega) (by omega), hM _ (by omega) (by omega), hM _ (by omega) (by omega)]; exact b k hk
  · intro k hk; rw [hM _ (by omega) (by omega), hM _ (by omega) (by omega), hM _ (by omega) (by omega), hM _ (by omega) (by omega)]; exact c k hk
  · intro k hk; rw [hM _ (by omega) (by omega), hM _ (by omega) (by omega)]; exact d k hk
  · rw [h7, h8]; exact e
  · exact f.1.fr (fun c h1 h2 => hM c (by omega) (by omega))
  · exact f.2.1.fr (fun c h1 h2 => hM c (by omega) (by omega))
section Lq
variable {d n i j : Nat} {M : ZM} {R : ZH} {b : Nat → Int32} {P : PS}
def sdI (b : Nat → Int32) (n i : Nat) : Int32 := if isH b n i (nI 97) then nI 0 else if isH b n i (nI 98) then nI 1 else -1
theorem sideHere_ (hS : Sh R) (hP : PCx M b n i) : cal (d + 1) 51 [.ref 92] M R = some (.inl (some (.int (sdI b n i))), M, R) := by
  obtain ⟨nN, k92, k93, l93, k94, k95, l95, k96, l96, k97, l97, k98, k99, l99, k100, l100, k101, l101, k102, k103, l103, k104, l104, k105, l105, f92_0, f92_1, f94_0, f94_1, f94_2, f92_2, f98_0, f98_1, f98_2, f92_3, f102_0, f102_1, f102_2⟩ := parF hS
  have h1 := isHereC_ (d := d) (R := R) (c := nI 97) hS hP
  have h2 := isHereC_ (d := d) (R := R) (c := nI 98) hS hP
  unfold sdI
  rw [e51]
  cases c1 : isH b n i (nI 97)
  · rw [c1] at h1
    cases c2 : isH b n i (nI 98)
    · rw [c2] at h2
      simp (disch := first | assumption | exact nar_b0 | exact nar_b1 | exact nar_b | exact Or.inl rfl | exact Or.inr rfl | exact zin_t (by omega) (by omega) | exact Nat.le_of_ble_eq_true rfl | (rw [nI_cl (by omega)]; assumption) | omega) only [↓reduceIte, reduceCtorEq, not_true_eq_false, not_false_eq_true, q51_0, q51_1, q51_3, q51_6, q51_9, q51_10, q51_13, q51_14, q51_16, q51_19, q51_22, q51_23, q51_26, q51_27, kl_int, kl_ref, kl_tok, cS_nil, cS_int, cS_ref, cS_long, tl_some, tl_none, List.cons_append, List.nil_append, nI_add, nI_ltb, nI_leb, nI_eqb, nI_cl, zin_nI, h1, h2, zk0_inl, b2i_0, Bool.false_eq_true]
    · rw [c2] at h2
      simp (disch := first | assumption | exact nar_b0 | exact nar_b1 | exact nar_b | exact Or.inl rfl | exact Or.inr rfl | exact zin_t (by omega) (by omega) | exact Nat.le_of_ble_eq_true rfl | (rw [nI_cl (by omega)]; assumption) | omega) only [↓reduceIte, reduceCtorEq, not_true_eq_false, not_false_eq_true, q51_0, q51_1, q51_3, q51_6, q51_9, q51_10, q51_13, q51_14, q51_16, q51_19, q51_22, q51_23, q51_26, q51_27, kl_int, kl_ref, kl_tok, cS_nil, cS_int, cS_ref, cS_long, tl_some, tl_none, List.cons_append, List.nil_append, nI_add, nI_ltb, nI_leb, nI_eqb, nI_cl, zin_nI, h1, h2, zk0_inl, b2i_0, Bool.false_eq_true]
  · rw [c1] at h1
    simp (disch := first | assumption | exact nar_b0 | exact nar_b1 | exact nar_b | exact Or.inl rfl | exact Or.inr rfl | exact zin_t (by omega) (by omega) | exact Nat.le_of_ble_eq_true rfl | (rw [nI_cl (by omega)]; assumption) | omega) only [↓reduceIte, reduceCtorEq, not_true_eq_false, not_false_eq_true, q51_0, q51_1, q51_3, q51_6, q51_9, q51_10, q51_13, q51_14, q51_16, q51_19, q51_22, q51_23, q51_26, q51_27, kl_int, kl_ref, kl_tok, cS_nil, cS_int, cS_ref, cS_long, tl_some, tl_none, List.cons_append, List.nil_append, nI_add, nI_ltb, nI_leb, nI_eqb, nI_cl, zin_nI, h1, zk0_inl, b2i_0]
theorem tu_L (hS : Sh R) (hj : j < 10) : ∀ (m c i B : Nat) (sd : Value) (M : ZM), c + m = 8 → PCx M b n i → M (tb j) 13 = nI c → M (tb j) 14 = nI B → B < 2 ^ c →
    ∃ M', exe (d + 2) 40 2 [.ref 92, .ref (tb j), .int (nI c), sd] [] M R = some (.inl (some (.int (nI 1))), M', R) ∧ PCx M' b n (tuF b n m c i B).2.2 ∧ M' (tb j) 13 = nI (tuF b n m c i B).2.1 ∧ M' (tb j) 14 = nI (tuF b n m c i B).1 ∧ (∀ q, q ≠ 13 → q ≠ 14 → M' (tb j) q = M (tb j) q) ∧ (∀ q, q ≠ 5 → M' 92 q = M 92 q) ∧ ∀ c, c ≠ 92 → c ≠ tb j → M' c = M c := by
  obtain ⟨nN, k92, k93, l93, k94, k95, l95, k96, l96, k97, l97, k98, k99, l99, k100, l100, k101, l101, k102, k103, l103, k104, l104, k105, l105, f92_0, f92_1, f94_0, f94_1, f94_2, f92_2, f98_0, f98_1, f98_2, f92_3, f102_0, f102_1, f102_2⟩ := parF hS
  obtain ⟨nN_j, tlt_j, kt0_j, kt1_j, lt1_j, kt2_j, lt2_j, kt3_j, lt3_j, kt4_j, lt4_j, kt5_j, lt5_j, kt6_j, lt6_j, kt7_j, lt7_j, kt8_j, lt8_j, ft0_0_j, ft1_0_j, ft1_1_j, ft0_1_j, ft0_2_j, ft0_3_j, ft0_4_j, ft0_5_j⟩ := tabF hS hj
  have htj := tb_lt hj
  intro m
  induction m with
  | zero =>
    intro c i B sd M hc hP h13 h14 hB
    refine ⟨M, ?_, hP, h13, h14, fun _ _ _ => rfl, fun _ _ => rfl, fun _ _ _ => rfl⟩
    have z : 8 ≤ c := by omega
    rw [q40_2]
    simp (disch := first | assumption | exact nar_b0 | exact nar_b1 | exact nar_b | exact Or.inl rfl | exact Or.inr rfl | exact zin_t (by omega) (by omega) | exact Nat.le_of_ble_eq_true rfl | (rw [nI_cl (by omega)]; assumption) | omega) only [↓reduceIte, reduceCtorEq, not_true_eq_false, not_false_eq_true, q40_0, q40_1, q40_3, q40_5, q40_8, q40_9, q40_12, q40_13, q40_16, q40_17, q40_18, q40_19, q40_22, q40_23, q40_24, q40_25i, q40_25a, q40_26, q40_29, q40_30, q40_31, q40_34, q40_35i, q40_35a, q40_36, q40_39, q40_40, q40_41, q40_42, q40_43, q40_46, q40_47i, q40_47a, q40_48, q40_51, q40_52, q40_53, q40_56, q40_59, q40_62, q40_63, kl_int, kl_ref, kl_tok, cS_nil, cS_int, cS_ref, cS_long, tl_some, tl_none, List.cons_append, List.nil_append, nI_add, nI_ltb, nI_leb, nI_eqb, nI_cl, zin_nI, z]
  | succ m ih =>
    intro c i B sd M hc hP h13 h14 hB
    have z : ¬ 8 ≤ c := by omega
    have hn := hP.2.2.1
    have hle := sk_le (b := b) hn.1
    have hsk := skipBlanks_ (d := d + 1) (R := R) hS hP
    have hP2 : PCx (atM M (sk b n i)) b n (sk b n i) := hP.mv hle
    have hsd := sideHere_ (d := d) (R := R) hS hP2
    have h5 := hP2.2.1
    have hp8 : 2 ^ c ≤ 2 ^ 8 := Nat.pow_le_pow_right (by decide) (by omega)
    have hpc : 2 ^ c < 2 ^ (c + 1) := Nat.pow_lt_pow_right (by decide) (by omega)
    rw [tuF]
    have step : ∀ (s : Nat), s < 2 → sk b n i < n → sdI b n (sk b n i) = nI s → ∃ M2, exe (d + 2) 40 2 [.ref 92, .ref (tb j), .int (nI c), sd] [] M R = exe (d + 2) 40 2 [.ref 92, .ref (tb j), .int (nI (c + 1)), .int (nI s)] [] M2 R ∧ PCx M2 b n (sk b n i + 1) ∧ M2 (tb j) 13 = nI (c + 1) ∧ M2 (tb j) 14 = nI (B ||| s * 2 ^ c) ∧ (∀ q, q ≠ 13 → q ≠ 14 → M2 (tb j) q = M (tb j) q) ∧ (∀ q, q ≠ 5 → M2 92 q = M 92 q) ∧ ∀ c, c ≠ 92 → c ≠ tb j → M2 c = M c := by
      intro s hs hlt hsi
      rw [hsi] at hsd
      have hat : up2 (atM M (sk b n i)) 92 5 (nI (sk b n i + 1)) = atM M (sk b n i + 1) := atM_at
      have k14 : atM M (sk b n i + 1) (tb j) 14 = nI B := by rw [atM_c (by omega)]; exact h14
      have k13 : up2 (atM M (sk b n i + 1)) (tb j) 14 (nI (B ||| s * 2 ^ c)) (tb j) 13 = nI c := by rw [up2_s (by decide), atM_c (by omega)]; exact h13
      have z2 : ¬ nI s = -1 := by rw [nI_m1 (by omega)]; exact id
      have hmul : s * 2 ^ c < 1024 := by
        rcases (show s = 0 ∨ s = 1 by omega) with rfl | rfl <;> omega
      refine ⟨up2 (up2 (atM M (sk b n i + 1)) (tb j) 14 (nI (B ||| s * 2 ^ c))) (tb j) 13 (nI (c + 1)), ?_, ?_, up2_at, ?_, ?_, ?_, ?_⟩
      · rw [q40_2]
        simp (disch := first | assumption | exact nar_b0 | exact nar_b1 | exact nar_b | exact Or.inl rfl | exact Or.inr rfl | exact zin_t (by omega) (by omega) | exact Nat.le_of_ble_eq_true rfl | (rw [nI_cl (by omega)]; assumption) | omega) only [↓reduceIte, reduceCtorEq, not_true_eq_false, not_false_eq_true, q40_0, q40_1, q40_3, q40_5, q40_8, q40_9, q40_12, q40_13, q40_16, q40_17, q40_18, q40_19, q40_22, q40_23, q40_24, q40_25i, q40_25a, q40_26, q40_29, q40_30, q40_31, q40_34, q40_35i, q40_35a, q40_36, q40_39, q40_40, q40_41, q40_42, q40_43, q40_46, q40_47i, q40_47a, q40_48, q40_51, q40_52, q40_53, q40_56, q40_59, q40_62, q40_63, kl_int, kl_ref, kl_tok, cS_nil, cS_int, cS_ref, cS_long, tl_some, tl_none, List.cons_append, List.nil_append, nI_add, nI_ltb, nI_leb, nI_eqb, nI_cl, zin_nI, z, hsk, zk0_inl, hsd, z2, h5, hat, k14, nI_shl, nI_or, k13]
      · exact (hP.mv (j := sk b n i + 1) (by omega)).fr (by rw [up2_c (by omega), up2_c (by omega)]) (by rw [up2_c (by omega), up2_c (by omega)]) (by rw [up2_c (by omega), up2_c (by omega)]) (by rw [up2_ne (by omega), up2_ne (by omega)])
      · rw [up2_s (by decide), up2_at]
      · intro q h1 h2; rw [up2_s h1, up2_s h2, atM_c (by omega)]
      · intro q h1; rw [up2_c (by omega), up2_c (by omega), atM_s h1]
      · intro x h1 h2; rw [up2_ne h2, up2_ne h2, atM_c h1]
    unfold sdI at step hsd
    cases c1 : isH b n (sk b n i) (nI 97)
    · cases c2 : isH b n (sk b n i) (nI 98)
      · rw [c1, c2] at hsd
        refine ⟨atM M (sk b n i), ?_, hP2, ?_, ?_, ?_, ?_, ?_⟩
        · have hsd' : cal (d + 1) 51 [.ref 92] (atM M (sk b n i)) R = some (.inl (some (.int (-1))), atM M (sk b n i), R) := hsd
          rw [q40_2]
          simp (disch := first | assumption | exact nar_b0 | exact nar_b1 | exact nar_b | exact Or.inl rfl | exact Or.inr rfl | exact zin_t (by omega) (by omega) | exact Nat.le_of_ble_eq_true rfl | (rw [nI_cl (by omega)]; assumption) | omega) only [↓reduceIte, reduceCtorEq, not_true_eq_false, not_false_eq_true, q40_0, q40_1, q40_3, q40_5, q40_8, q40_9, q40_12, q40_13, q40_16, q40_17, q40_18, q40_19, q40_22, q40_23, q40_24, q40_25i, q40_25a, q40_26, q40_29, q40_30, q40_31, q40_34, q40_35i, q40_35a, q40_36, q40_39, q40_40, q40_41, q40_42, q40_43, q40_46, q40_47i, q40_47a, q40_48, q40_51, q40_52, q40_53, q40_56, q40_59, q40_62, q40_63, kl_int, kl_ref, kl_tok, cS_nil, cS_int, cS_ref, cS_long, tl_some, tl_none, List.cons_append, List.nil_append, nI_add, nI_ltb, nI_leb, nI_eqb, nI_cl, zin_nI, z, hsk, zk0_inl, hsd']
        · show atM M (sk b n i) (tb j) 13 = nI c
          rw [atM_c (by omega)]; exact h13
        · show atM M (sk b n i) (tb j) 14 = nI B
          rw [atM_c (by omega)]; exact h14
        · intro q _ _; rw [atM_c (by omega)]
        · intro q h; exact atM_s h
        · intro x h _; exact atM_c h
      · obtain ⟨M2, g1, g2, g3, g4, g5, g6, g7⟩ := step 1 (by decide) (isH_lt c2) (by rw [c1, c2]; rfl)
        rw [Nat.one_mul] at g4
        obtain ⟨M', k1, k2, k3, k4, k5, k6, k7⟩ := ih (c + 1) (sk b n i + 1) (B ||| 2 ^ c) (.int (nI 1)) M2 (by omega) g2 g3 g4 (Nat.or_lt_two_pow (by omega) hpc)
        exact ⟨M', by rw [g1]; exact k1, k2, k3, k4, fun q h1 h2 => by rw [k5 q h1 h2, g5 q h1 h2], fun q h => by rw [k6 q h, g6 q h], fun x h1 h2 => by rw [k7 x h1 h2, g7 x h1 h2]⟩
    · obtain ⟨M2, g1, g2, g3, g4, g5, g6, g7⟩ := step 0 (by decide) (isH_lt c1) (by rw [c1]; rfl)
      rw [Nat.zero_mul, Nat.or_zero] at g4
      obtain ⟨M', k1, k2, k3, k4, k5, k6, k7⟩ := ih (c + 1) (sk b n i + 1) B (.int (nI 0)) M2 (by omega) g2 g3 g4 (by omega)
      exact ⟨M', by rw [g1]; exact k1, k2, k3, k4, fun q h1 h2 => by rw [k5 q h1 h2, g5 q h1 h2], fun q h => by rw [k6 q h, g6 q h], fun x h1 h2 => by rw [k7 x h1 h2, g7 x h1 h2]⟩
theorem lnTurns_ {w : Nat} (hS : Sh R) (hj : j < 10) (hP : PCx M b n i) (hC : PSC M j P) (hW : PW P) (hE : PE b n P) (hT : PT P) : LnQ R b n j (exe (d + 4) 32 110 [.ref 92, .ref (tb j), .int (nI w)] [] M R) M i (onc P 2 w (.inr (tuP P (tuF b n 8 0 i 0).2.1 (tuF b n 8 0 i 0).1, (tuF b n 8 0 i 0).2.2))) := by
  obtain ⟨nN, k92, k93, l93, k94, k95, l95, k96, l96, k97, l97, k98, k99, l99, k100, l100, k101, l101, k102, k103, l103, k104, l104, k105, l105, f92_0, f92_1, f94_0, f94_1, f94_2, f92_2, f98_0, f98_1, f98_2, f92_3, f102_0, f102_1, f102_2⟩ := parF hS
  obtain ⟨nN_j, tlt_j, kt0_j, kt1_j, lt1_j, kt2_j, lt2_j, kt3_j, lt3_j, kt4_j, lt4_j, kt5_j, lt5_j, kt6_j, lt6_j, kt7_j, lt7_j, kt8_j, lt8_j, ft0_0_j, ft1_0_j, ft1_1_j, ft0_1_j, ft0_2_j, ft0_3_j, ft0_4_j, ft0_5_j⟩ := tabF hS hj
  have htj := tb_lt hj
  have hn := hP.2.2.1
  have h7 : M 92 7 = nI (tL P) := hC.2.2.2.2.1.1
  have ht := hW.2.2.2.2.2.1
  have z1 : ¬ 1 = 0 := by decide
  unfold onc
  cases c : (tL P).testBit 2
  · have hf := isFirst_t (d := d + 2) (M := M) (R := R) (t := tL P) (k := 2) (p := nI w) hS h7 ht (by decide) c
    have e2 : (2 : Nat) ^ 2 = 4 := by decide
    rw [e2] at hf
    generalize hM1 : up2 M 92 7 (nI (tL P ||| 4)) = M1 at hf
    have hP1 : PCx M1 b n i := by rw [← hM1]; exact hP.u7
    have hC1 : PSC M1 j (rD P, fI P, fN P, tL P ||| 4, gR P, cA P, cB P, cC P) := by rw [← hM1]; exact hC.tl hj
    have f1 : LnF j M M1 := by rw [← hM1]; exact fun c a _ _ => up2_ne a
    obtain ⟨y5, y6⟩ := hT c
    obtain ⟨⟨t1, t2, t3, t4, t5, t6, t7, t8, t9⟩, u1, u2, u3, u4, u5⟩ := hC1
    obtain ⟨M2, g1, g2, g3, g4, g5, g6, g7⟩ := tu_L (d := d + 1) hS hj 8 0 i 0 tok M1 (by omega) hP1 (by rw [t8]; exact y5) (by rw [t9]; exact y6) (by decide)
    have pp := tuF_pos (b := b) (n := n) 8 0 i 0 hn.1 (by decide)
    have hr : cal (d + 3) 40 [.ref 92, .ref (tb j)] M1 R = some (.inl (some (.int (nI 1))), M2, R) := by
      rw [e40]
      simp (disch := first | assumption | exact nar_b0 | exact nar_b1 | exact nar_b | exact Or.inl rfl | exact Or.inr rfl | exact zin_t (by omega) (by omega) | exact Nat.le_of_ble_eq_true rfl | (rw [nI_cl (by omega)]; assumption) | omega) only [↓reduceIte, reduceCtorEq, not_true_eq_false, not_false_eq_true, q40_0, q40_1, q40_3, q40_5, q40_8, q40_9, q40_12, q40_13, q40_16, q40_17, q40_18, q40_19, q40_22, q40_23, q40_24, q40_25i, q40_25a, q40_26, q40_29, q40_30, q40_31, q40_34, q40_35i, q40_35a, q40_36, q40_39, q40_40, q40_41, q40_42, q40_43, q40_46, q40_47i, q40_47a, q40_48, q40_51, q40_52, q40_53, q40_56, q40_59, q40_62, q40_63, kl_int, kl_ref, kl_tok, cS_nil, cS_int, cS_ref, cS_long, tl_some, tl_none, List.cons_append, List.nil_append, nI_add, nI_ltb, nI_leb, nI_eqb, nI_cl, zin_nI]
      exact g1
    generalize tuF b n 8 0 i 0 = T at g2 g3 g4 pp
    have g : ∀ x, x ≠ 5 → x ≠ 6 → rD (tuP P T.2.1 T.1) x = rD P x := fun x h5 h6 => by
      show upf (upf (rD P) 5 (nI T.2.1)) 6 (nI T.1) x = _
      rw [upf_ne h6, upf_ne h5]
    have jj : jn (rD (tuP P T.2.1 T.1)) = jn (rD P) := by unfold jn; rw [g _ (by decide) (by decide)]
    have hj10 := hW.1.1.2
    simp only [Bool.false_eq_true, if_false]
    refine ⟨fun P' i' h => ?_, fun k p h => (by cases h)⟩
    cases h
    refine ⟨pp.1, pp.2.1, hW.tu (by omega) pp.2.2.2.2, hE.or (k := 2) rfl (by decide) (by decide) (by decide) rfl rfl rfl, M2, ?_, g2, ⟨⟨?_, ?_, ?_, ?_, ?_, ?_, ?_, ?_, ?_⟩, ?_, ?_, ?_, ?_, ?_⟩, ?_⟩
    · simp (disch := first | assumption | exact nar_b0 | exact nar_b1 | exact nar_b | exact Or.inl rfl | exact Or.inr rfl | exact zin_t (by omega) (by omega) | exact Nat.le_of_ble_eq_true rfl | (rw [nI_cl (by omega)]; assumption) | omega) only [↓reduceIte, reduceCtorEq, not_true_eq_false, not_false_eq_true, q32_0, q32_1, q32_4, q32_5, q32_6, q32_8, q32_11, q32_14, q32_15, q32_16, q32_17, q32_20, q32_21, q32_22, q32_24, q32_27, q32_30, q32_31, q32_32, q32_33, q32_36, q32_37, q32_38, q32_40, q32_43, q32_46, q32_47, q32_48, q32_49, q32_52, q32_55, q32_56, q32_57, q32_60, q32_63, q32_64, q32_67, q32_68, q32_69, q32_70, q32_72, q32_75, q32_78, q32_79, q32_80, q32_81, q32_84, q32_87, q32_88, q32_89, q32_92, q32_95, q32_96, q32_99, q32_100, q32_101, q32_102, q32_104, q32_107, q32_110, q32_111, q32_112, q32_113, q32_116, q32_119, q32_120, q32_121, q32_124, q32_127, q32_128, q32_131, q32_132, q32_133, q32_134, q32_136, q32_139, q32_142, q32_143, q32_144, q32_147, q32_148, q32_150, q32_151, q32_154, q32_155, q32_156, q32_158, q32_161, q32_164, q32_165, q32_168, q32_171, q32_172, q32_173, q32_176, q32_179, q32_180, q32_183, q32_186, q32_187, q32_190, q32_191, q32_194, q32_197, q32_198, q32_201, q32_202, q32_203, q32_204, q32_206, q32_209, q32_212, q32_213, q32_215, q32_216, q32_219, q32_222, q32_223, q32_224, q32_227, q32_228, q32_231, q32_234, q32_235, q32_238, q32_239, q32_240, q32_241, q32_243, q32_246, q32_249, q32_250, q32_252, q32_253, q32_256, q32_259, q32_260, q32_263, q32_266, q32_267, q32_270, q32_271, q32_272, q32_273, q32_274, q32_275, q32_278, kl_int, kl_ref, kl_tok, cS_nil, cS_int, cS_ref, cS_long, tl_some, tl_none, List.cons_append, List.nil_append, nI_add, nI_ltb, nI_leb, nI_eqb, nI_cl, zin_nI, hf, hr, zk0_inl, z1]
    · rw [g5 _ (by decide) (by decide), g _ (by decide) (by decide)]; exact t1
    · rw [g5 _ (by decide) (by decide)]; exact t2
    · rw [g5 _ (by decide) (by decide)]; exact t3
    · rw [g5 _ (by decide) (by decide)]; exact t4
    · rw [g5 _ (by decide) (by decide), g _ (by decide) (by decide)]; exact t5
    · rw [g5 _ (by decide) (by decide), g _ (by decide) (by decide)]; exact t6
    · rw [g5 _ (by decide) (by decide), g _ (by decide) (by decide)]; exact t7
    · rw [g3]
      show _ = upf (upf (rD P) 5 (nI T.2.1)) 6 (nI T.1) 5
      rw [upf_ne (by decide), upf_at]
    · rw [g4]
      show _ = upf (upf (rD P) 5 (nI T.2.1)) 6 (nI T.1) 6
      rw [upf_at]
    · intro k hk
      rw [jj] at hk
      rw [g7 _ (by omega) (by omega), g7 _ (by omega) (by omega), g7 _ (by omega) (by omega), g7 _ (by omega) (by omega), g _ (by omega) (by omega), g _ (by omega) (by omega), g _ (by omega) (by omega), g _ (by omega) (by omega)]
      exact u1 k hk
    · intro k hk
      rw [g7 _ (by omega) (by omega), g7 _ (by omega) (by omega), g7 _ (by omega) (by omega), g7 _ (by omega) (by omega)]
      exact u2 k hk
    · intro k hk
      rw [g7 _ (by omega) (by omega), g7 _ (by omega) (by omega)]
      exact u3 k hk
    · rw [g6 _ (by decide), g6 _ (by decide)]; exact u4
    · exact ⟨u5.1.fr (fun c h1 h2 => g7 c (by omega) (by omega)), u5.2.1.fr (fun c h1 h2 => g7 c (by omega) (by omega)), u5.2.2.fr (fun c h1 h2 => g7 c (by omega) (by omega))⟩
    · exact f1.trans (fun c c1 c2 c3 => g7 c c1 (by omega))
  · have e2 : (2 : Nat) ^ 2 = 4 := by decide
    obtain ⟨M1, hf, hc⟩ := isFirst_f (d := d + 2) (M := M) (R := R) (t := tL P) (k := 2) (p := w) hS h7 ht (by decide) c
    rw [e2] at hf
    refine ⟨fun P' i' h => (by cases h), fun k' p' h => ?_⟩
    cases h
    refine ⟨M1, ?_, hc.ln⟩
    simp (disch := first | assumption | exact nar_b0 | exact nar_b1 | exact nar_b | exact Or.inl rfl | exact Or.inr rfl | exact zin_t (by omega) (by omega) | exact Nat.le_of_ble_eq_true rfl | (rw [nI_cl (by omega)]; assumption) | omega) only [↓reduceIte, reduceCtorEq, not_true_eq_false, not_false_eq_true, q32_0, q32_1, q32_4, q32_5, q32_6, q32_8, q32_11, q32_14, q32_15, q32_16, q32_17, q32_20, q32_21, q32_22, q32_24, q32_27, q32_30, q32_31, q32_32, q32_33, q32_36, q32_37, q32_38, q32_40, q32_43, q32_46, q32_47, q32_48, q32_49, q32_52, q32_55, q32_56, q32_57, q32_60, q32_63, q32_64, q32_67, q32_68, q32_69, q32_70, q32_72, q32_75, q32_78, q32_79, q32_80, q32_81, q32_84, q32_87, q32_88, q32_89, q32_92, q32_95, q32_96, q32_99, q32_100, q32_101, q32_102, q32_104, q32_107, q32_110, q32_111, q32_112, q32_113, q32_116, q32_119, q32_120, q32_121, q32_124, q32_127, q32_128, q32_131, q32_132, q32_133, q32_134, q32_136, q32_139, q32_142, q32_143, q32_144, q32_147, q32_148, q32_150, q32_151, q32_154, q32_155, q32_156, q32_158, q32_161, q32_164, q32_165, q32_168, q32_171, q32_172, q32_173, q32_176, q32_179, q32_180, q32_183, q32_186, q32_187, q32_190, q32_191, q32_194, q32_197, q32_198, q32_201, q32_202, q32_203, q32_204, q32_206, q32_209, q32_212, q32_213, q32_215, q32_216, q32_219, q32_222, q32_223, q32_224, q32_227, q32_228, q32_231, q32_234, q32_235, q32_238, q32_239, q32_240, q32_241, q32_243, q32_246, q32_249, q32_250, q32_252, q32_253, q32_256, q32_259, q32_260, q32_263, q32_266, q32_267, q32_270, q32_271, q32_272, q32_273, q32_274, q32_275, q32_278, kl_int, kl_ref, kl_tok, cS_nil, cS_int, cS_ref, cS_long, tl_some, tl_none, List.cons_append, List.nil_append, nI_add, nI_ltb, nI_leb, nI_eqb, nI_cl, zin_nI, hf, zk0_inl]
theorem lnBox_ {w : Nat} (hS : Sh R) (hj : j < 10) (hP : PCx M b n i) (hC : PSC M j P) (hW : PW P) (hE : PE b n P) : LnQ R b n j (exe (d + 4) 32 142 [.ref 92, .ref (tb j), .int (nI w)] [] M R) M i (onc P 3 w (.inr (rdP P 4 (nI 1) 8, i))) := by
  obtain ⟨nN, k92, k93, l93, k94, k95, l95, k96, l96, k97, l97, k98, k99, l99, k100, l100, k101, l101, k102, k103, l103, k104, l104, k105, l105, f92_0, f92_1, f94_0, f94_1, f94_2, f92_2, f98_0, f98_1, f98_2, f92_3, f102_0, f102_1, f102_2⟩ := parF hS
  obtain ⟨nN_j, tlt_j, kt0_j, kt1_j, lt1_j, kt2_j, lt2_j, kt3_j, lt3_j, kt4_j, lt4_j, kt5_j, lt5_j, kt6_j, lt6_j, kt7_j, lt7_j, kt8_j, lt8_j, ft0_0_j, ft1_0_j, ft1_1_j, ft0_1_j, ft0_2_j, ft0_3_j, ft0_4_j, ft0_5_j⟩ := tabF hS hj
  have htj := tb_lt hj
  have hn := hP.2.2.1
  have ht := hW.2.2.2.2.2.1
  generalize hM0 : up2 M (tb j) 12 (nI 1) = M0
  have h7 : M0 92 7 = nI (tL P) := by rw [← hM0, up2_c (by omega)]; exact hC.2.2.2.2.1.1
  have f0 : LnF j M M0 := by rw [← hM0]; exact LnF.up (by omega) (by omega)
  have e2 : (2 : Nat) ^ 3 = 8 := by decide
  unfold onc
  cases c : (tL P).testBit 3
  · have hf := isFirst_t (d := d + 2) (M := M0) (R := R) (t := tL P) (k := 3) (p := nI w) hS h7 ht (by decide) c
    rw [e2] at hf
    obtain ⟨⟨t1, t2, t3, t4, t5, t6, t7, t8, t9⟩, u1, u2, u3, u4, u5⟩ := hC
    have g : ∀ x, x ≠ 4 → rD (rdP P 4 (nI 1) 8) x = rD P x := fun x hx => upf_ne hx
    have jj : jn (rD (rdP P 4 (nI 1) 8)) = jn (rD P) := jn_ne (by decide)
    have hj10 := hW.1.1.2
    have m0 : ∀ q, q ≠ 12 → up2 M0 92 7 (nI (tL P ||| 8)) (tb j) q = M (tb j) q := fun q hq => by rw [up2_c (by omega), ← hM0, up2_s hq]
    have mc : ∀ x, x ≠ 92 → x ≠ tb j → up2 M0 92 7 (nI (tL P ||| 8)) x = M x := fun x h1 h2 => by rw [up2_ne h1, ← hM0, up2_ne h2]
    simp only [Bool.false_eq_true, if_false]
    refine ⟨fun P' i' h => ?_, fun k p h => (by cases h)⟩
    cases h
    refine ⟨Nat.le_refl _, hn.1, hW.rd (by decide) (Or.inr (Or.inr ⟨rfl, 1, rfl, by decide⟩)), hE.or (k := 3) rfl (by decide) (by decide) (by decide) rfl rfl rfl, up2 M0 92 7 (nI (tL P ||| 8)), ?_, ?_, ⟨⟨?_, ?_, ?_, ?_, ?_, ?_, ?_, ?_, ?_⟩, ?_, ?_, ?_, ?_, ?_⟩, ?_⟩
    · simp (disch := first | assumption | exact nar_b0 | exact nar_b1 | exact nar_b | exact Or.inl rfl | exact Or.inr rfl | exact zin_t (by omega) (by omega) | exact Nat.le_of_ble_eq_true rfl | (rw [nI_cl (by omega)]; assumption) | omega) only [↓reduceIte, reduceCtorEq, not_true_eq_false, not_false_eq_true, q32_0, q32_1, q32_4, q32_5, q32_6, q32_8, q32_11, q32_14, q32_15, q32_16, q32_17, q32_20, q32_21, q32_22, q32_24, q32_27, q32_30, q32_31, q32_32, q32_33, q32_36, q32_37, q32_38, q32_40, q32_43, q32_46, q32_47, q32_48, q32_49, q32_52, q32_55, q32_56, q32_57, q32_60, q32_63, q32_64, q32_67, q32_68, q32_69, q32_70, q32_72, q32_75, q32_78, q32_79, q32_80, q32_81, q32_84, q32_87, q32_88, q32_89, q32_92, q32_95, q32_96, q32_99, q32_100, q32_101, q32_102, q32_104, q32_107, q32_110, q32_111, q32_112, q32_113, q32_116, q32_119, q32_120, q32_121, q32_124, q32_127, q32_128, q32_131, q32_132, q32_133, q32_134, q32_136, q32_139, q32_142, q32_143, q32_144, q32_147, q32_148, q32_150, q32_151, q32_154, q32_155, q32_156, q32_158, q32_161, q32_164, q32_165, q32_168, q32_171, q32_172, q32_173, q32_176, q32_179, q32_180, q32_183, q32_186, q32_187, q32_190, q32_191, q32_194, q32_197, q32_198, q32_201, q32_202, q32_203, q32_204, q32_206, q32_209, q32_212, q32_213, q32_215, q32_216, q32_219, q32_222, q32_223, q32_224, q32_227, q32_228, q32_231, q32_234, q32_235, q32_238, q32_239, q32_240, q32_241, q32_243, q32_246, q32_249, q32_250, q32_252, q32_253, q32_256, q32_259, q32_260, q32_263, q32_266, q32_267, q32_270, q32_271, q32_272, q32_273, q32_274, q32_275, q32_278, kl_int, kl_ref, kl_tok, cS_nil, cS_int, cS_ref, cS_long, tl_some, tl_none, List.cons_append, List.nil_append, nI_add, nI_ltb, nI_leb, nI_eqb, nI_cl, zin_nI, hM0, hf, zk0_inl]
    · exact (hP.fr (by rw [← hM0, up2_c (by omega)]) (by rw [← hM0, up2_c (by omega)]) (by rw [← hM0, up2_c (by omega)]) (by rw [← hM0, up2_ne (by omega)])).u7
    · rw [m0 _ (by decide), g _ (by decide)]; exact t1
    · rw [m0 _ (by decide)]; exact t2
    · rw [m0 _ (by decide)]; exact t3
    · rw [m0 _ (by decide)]; exact t4
    · rw [m0 _ (by decide), g _ (by decide)]; exact t5
    · rw [m0 _ (by decide), g _ (by decide)]; exact t6
    · rw [up2_c (by omega), ← hM0, up2_at]
      show _ = upf (rD P) 4 (nI 1) 4
      rw [upf_at]
    · rw [m0 _ (by decide), g _ (by decide)]; exact t8
    · rw [m0 _ (by decide), g _ (by decide)]; exact t9
    · intro k hk
      rw [jj] at hk
      rw [mc _ (by omega) (by omega), mc _ (by omega) (by omega), mc _ (by omega) (by omega), mc _ (by omega) (by omega), g _ (by omega), g _ (by omega), g _ (by omega), g _ (by omega)]
      exact u1 k hk
    · intro k hk
      rw [mc _ (by omega) (by omega), mc _ (by omega) (by omega), mc _ (by omega) (by omega), mc _ (by omega) (by omega)]
      exact u2 k hk
    · intro k hk
      rw [mc _ (by omega) (by omega), mc _ (by omega) (by omega)]
      exact u3 k hk
    · exact ⟨up2_at, by rw [up2_s (by decide), ← hM0, up2_c (by omega)]; exact u4.2⟩
    · exact ⟨u5.1.fr (fun c h1 h2 => mc c (by omega) (by omega)), u5.2.1.fr (fun c h1 h2 => mc c (by omega) (by omega)), u5.2.2.fr (fun c h1 h2 => mc c (by omega) (by omega))⟩
    · exact fun c c1 c2 c3 => mc c c1 (by omega)
  · obtain ⟨M1, hf, hc⟩ := isFirst_f (d := d + 2) (M := M0) (R := R) (t := tL P) (k := 3) (p := w) hS h7 ht (by decide) c
    rw [e2] at hf
    refine ⟨fun P' i' h => (by cases h), fun k' p' h => ?_⟩
    cases h
    refine ⟨M1, ?_, LnE.after f0 hc.ln⟩
    simp (disch := first | assumption | exact nar_b0 | exact nar_b1 | exact nar_b | exact Or.inl rfl | exact Or.inr rfl | exact zin_t (by omega) (by omega) | exact Nat.le_of_ble_eq_true rfl | (rw [nI_cl (by omega)]; assumption) | omega) only [↓reduceIte, reduceCtorEq, not_true_eq_false, not_false_eq_true, q32_0, q32_1, q32_4, q32_5, q32_6, q32_8, q32_11, q32_14, q32_15, q32_16, q32_17, q32_20, q32_21, q32_22, q32_24, q32_27, q32_30, q32_31, q32_32, q32_33, q32_36, q32_37, q32_38, q32_40, q32_43, q32_46, q32_47, q32_48, q32_49, q32_52, q32_55, q32_56, q32_57, q32_60, q32_63, q32_64, q32_67, q32_68, q32_69, q32_70, q32_72, q32_75, q32_78, q32_79, q32_80, q32_81, q32_84, q32_87, q32_88, q32_89, q32_92, q32_95, q32_96, q32_99, q32_100, q32_101, q32_102, q32_104, q32_107, q32_110, q32_111, q32_112, q32_113, q32_116, q32_119, q32_120, q32_121, q32_124, q32_127, q32_128, q32_131, q32_132, q32_133, q32_134, q32_136, q32_139, q32_142, q32_143, q32_144, q32_147, q32_148, q32_150, q32_151, q32_154, q32_155, q32_156, q32_158, q32_161, q32_164, q32_165, q32_168, q32_171, q32_172, q32_173, q32_176, q32_179, q32_180, q32_183, q32_186, q32_187, q32_190, q32_191, q32_194, q32_197, q32_198, q32_201, q32_202, q32_203, q32_204, q32_206, q32_209, q32_212, q32_213, q32_215, q32_216, q32_219, q32_222, q32_223, q32_224, q32_227, q32_228, q32_231, q32_234, q32_235, q32_238, q32_239, q32_240, q32_241, q32_243, q32_246, q32_249, q32_250, q32_252, q32_253, q32_256, q32_259, q32_260, q32_263, q32_266, q32_267, q32_270, q32_271, q32_272, q32_273, q32_274, q32_275, q32_278, kl_int, kl_ref, kl_tok, cS_nil, cS_int, cS_ref, cS_long, tl_some, tl_none, List.cons_append, List.nil_append, nI_add, nI_ltb, nI_leb, nI_eqb, nI_cl, zin_nI, hM0, hf, zk0_inl]
end Lq
