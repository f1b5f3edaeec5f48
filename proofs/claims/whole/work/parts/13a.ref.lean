-- what calls of the reference come to
def OutM (r : Option ZO) (M : ZM) (R : ZH) (c : Nat) (v : Int32) (G' : GS) : Prop := ∃ M' v', r = some (.inl (some (.int v')), M', R) ∧ (c = 0 → v' = v) ∧ MS M' G' ∧ M' 127 0 = nI c ∧ FrM M M'
theorem c64_0 : (0 : Int64).toInt = 0 := by decide +kernel
theorem c64_1 : (1 : Int64).toInt = 1 := by decide +kernel
theorem c64_2 : (2 : Int64).toInt = 2 := by decide +kernel
theorem c64_3 : (3 : Int64).toInt = 3 := by decide +kernel
theorem c64_4 : (4 : Int64).toInt = 4 := by decide +kernel
theorem c64_6 : (6 : Int64).toInt = 6 := by decide +kernel
theorem c64_7 : (7 : Int64).toInt = 7 := by decide +kernel
theorem c64_8 : (8 : Int64).toInt = 8 := by decide +kernel
theorem c64_11 : (11 : Int64).toInt = 11 := by decide +kernel
theorem rng_t {x : Int32} {n : Nat} {c : Int} (hn : n < 2147483648) (h : ∃ k, k < n ∧ x = nI k) (hc : c = (n : Int) - 1) : decide (0 ≤ x.toInt ∧ x.toInt ≤ c) = true := by
  obtain ⟨k, hk, rfl⟩ := h
  rw [nI_toInt (by omega)]
  exact decide_eq_true (by omega)
theorem rng_f {x : Int32} {n : Nat} {c : Int} (hn : n < 2147483648) (h : ¬ ∃ k, k < n ∧ x = nI k) (hc : c = (n : Int) - 1) : decide (0 ≤ x.toInt ∧ x.toInt ≤ c) = false := by
  refine decide_eq_false (fun ⟨h1, h2⟩ => h ⟨x.toInt.toNat, by omega, ?_⟩)
  rw [nI_iI, Int.toNat_of_nonneg h1]
  exact iI_of x
theorem side_iff {x : Int32} : (¬ x = nI 0 ∧ ¬ x = nI 1) ↔ ¬ ∃ k, k < 2 ∧ x = nI k := by
  constructor
  · rintro ⟨h0, h1⟩ ⟨k, hk, rfl⟩
    rcases (show k = 0 ∨ k = 1 by omega) with rfl | rfl
    · exact h0 rfl
    · exact h1 rfl
  · intro h
    exact ⟨fun e => h ⟨0, by omega, e⟩, fun e => h ⟨1, by omega, e⟩⟩
theorem i64i {x : Int} (h1 : -2147483648 ≤ x) (h2 : x < 2147483648) : (iI x).toInt64.toInt = x := by
  rw [Int32.toInt_toInt64, iI_toInt h1 h2]
theorem MS.fr {M M' : ZM} {G : GS} (h : MS M G) (hM : ∀ c, c = 128 ∨ c = 129 ∨ c = 131 ∨ c = 132 → M' c = M c) (h8 : M' 127 8 = M 127 8) (h5 : M' 127 5 = M 127 5) (h14 : M' 127 14 = M 127 14) : MS M' G := by
  obtain ⟨a, b, c, d⟩ := h
  refine ⟨?_, ?_, ?_, ?_⟩
  · rw [h8, h5, h14, hM 128 (by omega)]; exact a
  · intro k hk; rw [hM 132 (by omega)]; exact b k hk
  · rw [hM 129 (by omega)]; exact c
  · intro j hj k hk; rw [hM 131 (by omega)]; exact d j hj k hk
theorem MS.th {M : ZM} {G : GS} {v : Int32} (h : MS M G) : MS (up2 M 127 0 v) G := h.fr (fun c hc => up2_ne (by omega)) (up2_s (by decide)) (up2_s (by decide)) (up2_s (by decide))
theorem fineM_0 {M : ZM} {c k : Nat} : fineM M c k 127 0 = nI c := by
  unfold fineM
  rw [up2_c (by decide), up2_at]
theorem fineM_fr {M : ZM} {c k q : Nat} (h1 : q ≠ 127) (h2 : q ≠ 128) : fineM M c k q = M q := by
  unfold fineM
  rw [up2_ne h2, up2_ne h1]
theorem fineM_s {M : ZM} {c k q : Nat} (h : q ≠ 0) : fineM M c k 127 q = M 127 q := by
  unfold fineM
  rw [up2_c (by decide), up2_s h]
theorem fineM_128 {M : ZM} {c k q : Nat} : fineM M c k 128 q = if q = k then M 128 k + nI 1 else M 128 q := by
  unfold fineM
  by_cases e : q = k
  · subst e
    rw [if_pos rfl, up2_at]
  · rw [if_neg e, up2_s e, up2_c (by decide)]
theorem MS.rN {M : ZM} {G : GS} {c : Nat} (h : MS M G) : MS (fineM M c 0) (rfN G) := by
  obtain ⟨⟨a1, a2, a3, a4, a5, a6⟩, b, c, d⟩ := h
  refine ⟨⟨?_, ?_, ?_, ?_, ?_, ?_⟩, ?_, ?_, ?_⟩
  · rw [fineM_s (by decide)]; exact a1
  · rw [fineM_s (by decide)]; exact a2
  · rw [fineM_s (by decide)]; exact a3
  · rw [fineM_128, if_pos rfl, a4]; rfl
  · rw [fineM_128, if_neg (by decide)]; exact a5
  · rw [fineM_128, if_neg (by decide)]; exact a6
  · intro k hk; rw [fineM_fr (by decide) (by decide)]; exact b k hk
  · rw [fineM_fr (by decide) (by decide)]; exact c
  · intro j hj k hk; rw [fineM_fr (by decide) (by decide)]; exact d j hj k hk
theorem MS.rA {M : ZM} {G : GS} {c : Nat} (h : MS M G) : MS (fineM M c 1) (rfA G) := by
  obtain ⟨⟨a1, a2, a3, a4, a5, a6⟩, b, c, d⟩ := h
  refine ⟨⟨?_, ?_, ?_, ?_, ?_, ?_⟩, ?_, ?_, ?_⟩
  · rw [fineM_s (by decide)]; exact a1
  · rw [fineM_s (by decide)]; exact a2
  · rw [fineM_s (by decide)]; exact a3
  · rw [fineM_128, if_neg (by decide)]; exact a4
  · rw [fineM_128, if_pos rfl, a5]; rfl
  · rw [fineM_128, if_neg (by decide)]; exact a6
  · intro k hk; rw [fineM_fr (by decide) (by decide)]; exact b k hk
  · rw [fineM_fr (by decide) (by decide)]; exact c
  · intro j hj k hk; rw [fineM_fr (by decide) (by decide)]; exact d j hj k hk
theorem MS.rS {M : ZM} {G : GS} {c : Nat} (h : MS M G) : MS (fineM M c 2) (rfS G) := by
  obtain ⟨⟨a1, a2, a3, a4, a5, a6⟩, b, c, d⟩ := h
  refine ⟨⟨?_, ?_, ?_, ?_, ?_, ?_⟩, ?_, ?_, ?_⟩
  · rw [fineM_s (by decide)]; exact a1
  · rw [fineM_s (by decide)]; exact a2
  · rw [fineM_s (by decide)]; exact a3
  · rw [fineM_128, if_neg (by decide)]; exact a4
  · rw [fineM_128, if_neg (by decide)]; exact a5
  · rw [fineM_128, if_pos rfl, a6]; rfl
  · intro k hk; rw [fineM_fr (by decide) (by decide)]; exact b k hk
  · rw [fineM_fr (by decide) (by decide)]; exact c
  · intro j hj k hk; rw [fineM_fr (by decide) (by decide)]; exact d j hj k hk
theorem FrM.refl {M : ZM} : FrM M M := fun _ _ => rfl
theorem FrM.trans {M M' M2 : ZM} (h1 : FrM M M') (h2 : FrM M' M2) : FrM M M2 := fun c h => by rw [h2 c h, h1 c h]
theorem FrM.up {M : ZM} {c k : Nat} {v : Int32} (h1 : 127 ≤ c) (h2 : c < 146) : FrM M (up2 M c k v) := fun q h => up2_ne (by omega)
theorem FrM.fine {M M' : ZM} {c k : Nat} (h : FrM M M') : FrM M (fineM M' c k) := fun q hq => by rw [fineM_fr (by omega) (by omega)]; exact h q hq
theorem OutM.rN {r : Option ZO} {M M' : ZM} {R : ZH} {c : Nat} {v v' : Int32} {G : GS} (h1 : r = some (.inl (some (.int v')), fineM M' c 0, R)) (hc : c ≠ 0) (h2 : MS M' G) (h3 : FrM M M') : OutM r M R c v (rfN G) := ⟨_, v', h1, fun e => absurd e hc, h2.rN, fineM_0, h3.fine⟩
theorem OutM.rA {r : Option ZO} {M M' : ZM} {R : ZH} {c : Nat} {v v' : Int32} {G : GS} (h1 : r = some (.inl (some (.int v')), fineM M' c 1, R)) (hc : c ≠ 0) (h2 : MS M' G) (h3 : FrM M M') : OutM r M R c v (rfA G) := ⟨_, v', h1, fun e => absurd e hc, h2.rA, fineM_0, h3.fine⟩
theorem OutM.rS {r : Option ZO} {M M' : ZM} {R : ZH} {c : Nat} {v v' : Int32} {G : GS} (h1 : r = some (.inl (some (.int v')), fineM M' c 2, R)) (hc : c ≠ 0) (h2 : MS M' G) (h3 : FrM M M') : OutM r M R c v (rfS G) := ⟨_, v', h1, fun e => absurd e hc, h2.rS, fineM_0, h3.fine⟩
theorem OutM.ok {r : Option ZO} {M M' : ZM} {R : ZH} {v : Int32} {G' : GS} (h1 : r = some (.inl (some (.int v)), M', R)) (h2 : MS M' G') (h3 : M' 127 0 = nI 0) (h4 : FrM M M') : OutM r M R 0 v G' := ⟨M', v, h1, fun _ => rfl, h2, h3, h4⟩
section Mo
variable {d : Nat} {M : ZM} {R : ZH} {G : GS}
theorem isSide_t {x : Int32} {c : Int32} (hS : Sh R) (h0 : M 127 0 = nI 0) (hx : ∃ k, k < 2 ∧ x = nI k) : cal (d + 1) 169 [.ref 127, .int x, .int c] M R = some (.inl (some (.int (nI 1))), M, R) := by
  obtain ⟨nN, k127, k128, l128, k129, l129, k130, l130, k131, l131, k132, l132, k133, l133, k134, l134, k135, l135, k136, l136, k137, l137, k138, l138, k139, l139, k140, l140, k141, l141, k142, l142, k143, l143, k144, l144, k145, l145, k146, l146, f127_1, f127_2, f127_3, f127_4, f127_6, f127_7, f127_17, f127_18, f127_19, f127_22, f127_24, f127_25, f127_26, f127_29, f127_30, f127_31, f127_32, f127_33⟩ := modF hS
  have h1 := rng_t (c := 1) (by decide) hx (by decide)
  have h2 := isFine_t (d := d) (c := c) (k := nI 1) hS h0
  rw [e169]
  simp (disch := first | assumption | exact nar_b0 | exact nar_b1 | exact nar_b | exact Or.inl rfl | exact Or.inr rfl | exact zin_t (by omega) (by omega) | exact Nat.le_of_ble_eq_true rfl | (rw [nI_cl (by omega)]; assumption) | omega) only [↓reduceIte, reduceCtorEq, not_true_eq_false, not_false_eq_true, q169_0, q169_1, q169_2, q169_3, q169_4, q169_5, q169_8, q169_9, q169_10, q169_13, kl_int, kl_ref, kl_tok, cS_nil, cS_int, cS_ref, cS_long, tl_some, tl_none, List.cons_append, List.nil_append, nI_add, nI_ltb, nI_leb, nI_eqb, nI_cl, zin_nI, lies_, Int32.toInt_toInt64, c64_0, c64_1, h1, b2i_t, zk0_inl, h2]
theorem isSide_f {x : Int32} {c : Nat} (hS : Sh R) (h0 : M 127 0 = nI 0) (hc : 1 ≤ c ∧ c ≤ 3) (hx : ¬ ∃ k, k < 2 ∧ x = nI k) : cal (d + 1) 169 [.ref 127, .int x, .int (nI c)] M R = some (.inl (some (.int (nI 0))), fineM M c 1, R) := by
  obtain ⟨nN, k127, k128, l128, k129, l129, k130, l130, k131, l131, k132, l132, k133, l133, k134, l134, k135, l135, k136, l136, k137, l137, k138, l138, k139, l139, k140, l140, k141, l141, k142, l142, k143, l143, k144, l144, k145, l145, k146, l146, f127_1, f127_2, f127_3, f127_4, f127_6, f127_7, f127_17, f127_18, f127_19, f127_22, f127_24, f127_25, f127_26, f127_29, f127_30, f127_31, f127_32, f127_33⟩ := modF hS
  have h1 := rng_f (c := 1) (by decide) hx (by decide)
  have h2 := isFine_f (d := d) (c := c) (k := 1) hS h0 hc (by decide)
  rw [e169]
  simp (disch := first | assumption | exact nar_b0 | exact nar_b1 | exact nar_b | exact Or.inl rfl | exact Or.inr rfl | exact zin_t (by omega) (by omega) | exact Nat.le_of_ble_eq_true rfl | (rw [nI_cl (by omega)]; assumption) | omega) only [↓reduceIte, reduceCtorEq, not_true_eq_false, not_false_eq_true, q169_0, q169_1, q169_2, q169_3, q169_4, q169_5, q169_8, q169_9, q169_10, q169_13, kl_int, kl_ref, kl_tok, cS_nil, cS_int, cS_ref, cS_long, tl_some, tl_none, List.cons_append, List.nil_append, nI_add, nI_ltb, nI_leb, nI_eqb, nI_cl, zin_nI, lies_, Int32.toInt_toInt64, c64_0, c64_1, h1, b2i_f, zk0_inl, h2]
theorem LG (hS : Sh R) (hW : WG G) (hM : MS M G) : ∃ M', cal (d + 1) 144 [.ref 127] M R = some (.inl none, M', R) ∧ GmR M' (sn (gF G)) (pn (gF G)) (bn (gF G)) (RowL (gF G)) (gTs G) ∧ MS M' G ∧ M' 127 0 = M 127 0 ∧ FrM M M' := by
  have h9 := hM.2.2.1
  obtain ⟨M', a1, a2, a3, a4⟩ := laysGame_ (d := d) (M := M) hS (by rw [h9]; exact hW.1)
  rw [h9] at a2
  exact ⟨M', a1, a2, hM.fr (fun c hc => a3 c (by omega) (by omega) (by omega)) (a4 _ (by decide) (by decide)) (a4 _ (by decide) (by decide)) (a4 _ (by decide) (by decide)), a4 _ (by decide) (by decide), fun c h => a3 c (by omega) (by omega) (by omega)⟩
theorem SN {se sp bx : Nat} {ts : List Nat} (hS : Sh R) (hM : MS M G) (hG : GmR M se sp bx (RowL (gF G)) ts) : cal d 145 [.ref 127] M R = some (.inl (some (.int (nI (stS (gF G))))), M, R) := by
  have h := struckNow_ (d := d) hS hG
  rw [hM.2.2.1, stN_eq] at h
  exact h
theorem WN (hS : Sh R) (hW : WG G) (hM : MS M G) : ∃ M', cal (d + 6) 155 [.ref 127] M R = some (.inl none, M', R) ∧ GmR M' (sn (gF G)) (pn (gF G)) (bn (gF G)) (RowL (gF G)) (gTs G) ∧ WkA M' (bn (gF G)) (sn (gF G)) (pn (gF G)) (RowL (gF G)) (gTs G) 0 (2 ^ (RowL (gF G)).length) ∧ MS M' G ∧ M' 127 0 = M 127 0 ∧ FrM M M' := by
  obtain ⟨nN, k127, k128, l128, k129, l129, k130, l130, k131, l131, k132, l132, k133, l133, k134, l134, k135, l135, k136, l136, k137, l137, k138, l138, k139, l139, k140, l140, k141, l141, k142, l142, k143, l143, k144, l144, k145, l145, k146, l146, f127_1, f127_2, f127_3, f127_4, f127_6, f127_7, f127_17, f127_18, f127_19, f127_22, f127_24, f127_25, f127_26, f127_29, f127_30, f127_31, f127_32, f127_33⟩ := modF hS
  obtain ⟨M1, a1, a2, a3, a4, a5⟩ := LG (d := d + 4) hS hW hM
  obtain ⟨M2, b1, b2, b3, b4⟩ := works_ (d := d) hS a2
  refine ⟨M2, ?_, b2, b3, a3.fr (fun c hc => b4 c (by omega) (by omega)) (by rw [b4 _ (by decide) (by decide)]) (by rw [b4 _ (by decide) (by decide)]) (by rw [b4 _ (by decide) (by decide)]), by rw [b4 _ (by decide) (by decide)]; exact a4, fun c h => by rw [b4 c (by omega) (by omega)]; exact a5 c h⟩
  rw [e155]
  simp (disch := first | assumption | exact nar_b0 | exact nar_b1 | exact nar_b | exact Or.inl rfl | exact Or.inr rfl | exact zin_t (by omega) (by omega) | exact Nat.le_of_ble_eq_true rfl | (rw [nI_cl (by omega)]; assumption) | omega) only [↓reduceIte, reduceCtorEq, not_true_eq_false, not_false_eq_true, q155_0, q155_1, q155_4, q155_5, q155_8, kl_int, kl_ref, kl_tok, cS_nil, cS_int, cS_ref, cS_long, tl_some, tl_none, List.cons_append, List.nil_append, nI_add, nI_ltb, nI_leb, nI_eqb, nI_cl, zin_nI, a1, b1, zk0_inl]
theorem stS_row {f : Nat → Int32} : stS f < 2 ^ (RowL f).length := by rw [RowL_len]; exact stS_lt
theorem stS_1024 (hW : WG G) : stS (gF G) < 1024 := by
  have h1 := stS_lt (f := gF G)
  have h2 := pow10 hW.1.nums.2.2.2.2.2.2.2.2.2
  omega
theorem m_worth_t {s : Nat} (hs : s < 2) (hS : Sh R) (hW : WG G) (hM : MS M G) : OutM (cal (d + 7) 170 [.ref 127, .int (nI s)] M R) M R 0 (gE G s (Un (gF G))) G := by
  obtain ⟨nN, k127, k128, l128, k129, l129, k130, l130, k131, l131, k132, l132, k133, l133, k134, l134, k135, l135, k136, l136, k137, l137, k138, l138, k139, l139, k140, l140, k141, l141, k142, l142, k143, l143, k144, l144, k145, l145, k146, l146, f127_1, f127_2, f127_3, f127_4, f127_6, f127_7, f127_17, f127_18, f127_19, f127_22, f127_24, f127_25, f127_26, f127_29, f127_30, f127_31, f127_32, f127_33⟩ := modF hS
  have h1 := isSide_t (d := d + 5) (M := up2 M 127 0 (nI 0)) (R := R) (x := nI s) (c := nI 1) hS up2_at ⟨s, hs, rfl⟩
  obtain ⟨M1, a1, a2, a3, a4, a5⟩ := LG (d := d + 5) (M := up2 M 127 0 (nI 0)) hS hW hM.th
  have h2 := SN (d := d + 6) hS a3 a2
  have h3 := endWR_ (d := d + 3) (s := s) (S := stS (gF G)) hs (stS_1024 hW) hS a2
  rw [Un_rem hW.1] at h3
  have z1 : ¬ 1 = 0 := by decide
  refine OutM.ok (M' := M1) ?_ a3 (by rw [a4, up2_at]) (FrM.trans (FrM.up (by decide) (by decide)) a5)
  rw [e170]
  simp (disch := first | assumption | exact nar_b0 | exact nar_b1 | exact nar_b | exact Or.inl rfl | exact Or.inr rfl | exact zin_t (by omega) (by omega) | exact Nat.le_of_ble_eq_true rfl | (rw [nI_cl (by omega)]; assumption) | omega) only [↓reduceIte, reduceCtorEq, not_true_eq_false, not_false_eq_true, q170_0, q170_1, q170_2, q170_5, q170_6, q170_7, q170_8, q170_11, q170_14, q170_15, q170_16, q170_17, q170_20, q170_21, q170_22, q170_25, q170_26, q170_29, kl_int, kl_ref, kl_tok, cS_nil, cS_int, cS_ref, cS_long, tl_some, tl_none, List.cons_append, List.nil_append, nI_add, nI_ltb, nI_leb, nI_eqb, nI_cl, zin_nI, h1, zk0_inl, z1, a1, h2, h3]
  rfl
theorem m_worth_f {x v : Int32} (hx : ¬ ∃ k, k < 2 ∧ x = nI k) (hS : Sh R) (hM : MS M G) : OutM (cal (d + 7) 170 [.ref 127, .int x] M R) M R 1 v (rfA G) := by
  obtain ⟨nN, k127, k128, l128, k129, l129, k130, l130, k131, l131, k132, l132, k133, l133, k134, l134, k135, l135, k136, l136, k137, l137, k138, l138, k139, l139, k140, l140, k141, l141, k142, l142, k143, l143, k144, l144, k145, l145, k146, l146, f127_1, f127_2, f127_3, f127_4, f127_6, f127_7, f127_17, f127_18, f127_19, f127_22, f127_24, f127_25, f127_26, f127_29, f127_30, f127_31, f127_32, f127_33⟩ := modF hS
  have h1 := isSide_f (d := d + 5) (M := up2 M 127 0 (nI 0)) (R := R) (x := x) (c := 1) hS up2_at (by decide) hx
  refine OutM.rA (M' := up2 M 127 0 (nI 0)) (v' := nI 0) ?_ (by decide) hM.th (FrM.up (by decide) (by decide))
  rw [e170]
  simp (disch := first | assumption | exact nar_b0 | exact nar_b1 | exact nar_b | exact Or.inl rfl | exact Or.inr rfl | exact zin_t (by omega) (by omega) | exact Nat.le_of_ble_eq_true rfl | (rw [nI_cl (by omega)]; assumption) | omega) only [↓reduceIte, reduceCtorEq, not_true_eq_false, not_false_eq_true, q170_0, q170_1, q170_2, q170_5, q170_6, q170_7, q170_8, q170_11, q170_14, q170_15, q170_16, q170_17, q170_20, q170_21, q170_22, q170_25, q170_26, q170_29, kl_int, kl_ref, kl_tok, cS_nil, cS_int, cS_ref, cS_long, tl_some, tl_none, List.cons_append, List.nil_append, nI_add, nI_ltb, nI_leb, nI_eqb, nI_cl, zin_nI, h1, zk0_inl]
theorem m_value_t {s : Nat} (hs : s < 2) (hS : Sh R) (hW : WG G) (hM : MS M G) : OutM (cal (d + 7) 171 [.ref 127, .int (nI s)] M R) M R 0 (gV G s (gTs G) (Un (gF G))) G := by
  obtain ⟨nN, k127, k128, l128, k129, l129, k130, l130, k131, l131, k132, l132, k133, l133, k134, l134, k135, l135, k136, l136, k137, l137, k138, l138, k139, l139, k140, l140, k141, l141, k142, l142, k143, l143, k144, l144, k145, l145, k146, l146, f127_1, f127_2, f127_3, f127_4, f127_6, f127_7, f127_17, f127_18, f127_19, f127_22, f127_24, f127_25, f127_26, f127_29, f127_30, f127_31, f127_32, f127_33⟩ := modF hS
  have h1 := isSide_t (d := d + 5) (M := up2 M 127 0 (nI 0)) (R := R) (x := nI s) (c := nI 1) hS up2_at ⟨s, hs, rfl⟩
  obtain ⟨M1, a1, a2, a6, a3, a4, a5⟩ := WN (d := d) (M := up2 M 127 0 (nI 0)) hS hW hM.th
  have h2 := SN (d := d + 6) hS a3 a2
  have h3 := valueAt_ (d := d + 6) (M := M1) (R := R) (t := 0) (S := stS (gF G)) (q := s) (by decide) (stS_1024 hW) hs hS
  rw [a6.val (Nat.zero_le _) stS_row hs, Un_rem hW.1] at h3
  have z1 : ¬ 1 = 0 := by decide
  refine OutM.ok (M' := M1) ?_ a3 (by rw [a4, up2_at]) (FrM.trans (FrM.up (by decide) (by decide)) a5)
  rw [e171]
  simp (disch := first | assumption | exact nar_b0 | exact nar_b1 | exact nar_b | exact Or.inl rfl | exact Or.inr rfl | exact zin_t (by omega) (by omega) | exact Nat.le_of_ble_eq_true rfl | (rw [nI_cl (by omega)]; assumption) | omega) only [↓reduceIte, reduceCtorEq, not_true_eq_false, not_false_eq_true, q171_0, q171_1, q171_2, q171_5, q171_6, q171_7, q171_8, q171_11, q171_14, q171_15, q171_16, q171_17, q171_20, q171_21, q171_22, q171_23, q171_26, q171_27, q171_30, kl_int, kl_ref, kl_tok, cS_nil, cS_int, cS_ref, cS_long, tl_some, tl_none, List.cons_append, List.nil_append, nI_add, nI_ltb, nI_leb, nI_eqb, nI_cl, zin_nI, h1, zk0_inl, z1, a1, h2, h3]
  rfl
theorem m_value_f {x v : Int32} (hx : ¬ ∃ k, k < 2 ∧ x = nI k) (hS : Sh R) (hM : MS M G) : OutM (cal (d + 7) 171 [.ref 127, .int x] M R) M R 1 v (rfA G) := by
  obtain ⟨nN, k127, k128, l128, k129, l129, k130, l130, k131, l131, k132, l132, k133, l133, k134, l134, k135, l135, k136, l136, k137, l137, k138, l138, k139, l139, k140, l140, k141, l141, k142, l142, k143, l143, k144, l144, k145, l145, k146, l146, f127_1, f127_2, f127_3, f127_4, f127_6, f127_7, f127_17, f127_18, f127_19, f127_22, f127_24, f127_25, f127_26, f127_29, f127_30, f127_31, f127_32, f127_33⟩ := modF hS
  have h1 := isSide_f (d := d + 5) (M := up2 M 127 0 (nI 0)) (R := R) (x := x) (c := 1) hS up2_at (by decide) hx
  refine OutM.rA (M' := up2 M 127 0 (nI 0)) (v' := nI 0) ?_ (by decide) hM.th (FrM.up (by decide) (by decide))
  rw [e171]
  simp (disch := first | assumption | exact nar_b0 | exact nar_b1 | exact nar_b | exact Or.inl rfl | exact Or.inr rfl | exact zin_t (by omega) (by omega) | exact Nat.le_of_ble_eq_true rfl | (rw [nI_cl (by omega)]; assumption) | omega) only [↓reduceIte, reduceCtorEq, not_true_eq_false, not_false_eq_true, q171_0, q171_1, q171_2, q171_5, q171_6, q171_7, q171_8, q171_11, q171_14, q171_15, q171_16, q171_17, q171_20, q171_21, q171_22, q171_23, q171_26, q171_27, q171_30, kl_int, kl_ref, kl_tok, cS_nil, cS_int, cS_ref, cS_long, tl_some, tl_none, List.cons_append, List.nil_append, nI_add, nI_ltb, nI_leb, nI_eqb, nI_cl, zin_nI, h1, zk0_inl]
end Mo
