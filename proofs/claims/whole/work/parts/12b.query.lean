-- what calls of the class come to: a code (0: an answer), which exception, the answer, what is then
def RmR (R R' : ZH) : Prop := zC R' ≤ zC R + 1 ∧ zL R' ≤ zL R + 6 ∧ zLn R' 1000000 = zLn R 1000000
theorem RmR.rfl {R : ZH} : RmR R R := ⟨Nat.le_succ _, by omega, _root_.rfl⟩
theorem RmR.thr {R : ZH} : RmR R (thR R) := ⟨Nat.le_refl _, Nat.le_refl _, _root_.rfl⟩
theorem RmR.now {R : ZH} {v : Option Nat} : RmR R (sRf R 0 4 v) := ⟨Nat.le_succ _, by show zL R ≤ zL R + 6; omega, _root_.rfl⟩
def OutC (r : Option ZO) (M : ZM) (R : ZH) (c e : Nat) (v : Int32) (G' : GS) : Prop := ∃ M' R' i', r = (if c = 0 then some (.inl (some (.int v)), M', R') else some (.inr (zE e), M', R')) ∧ CS M' R' i' G' ∧ FrC M M' ∧ RmR R R'
theorem OutC.ok {r : Option ZO} {M M' : ZM} {R : ZH} {i e : Nat} {v : Int32} {G' : GS} (h1 : r = some (.inl (some (.int v)), M', R)) (h2 : CS M' R i G') (h3 : FrC M M') : OutC r M R 0 e v G' := ⟨M', R, i, by rw [h1, if_pos _root_.rfl], h2, h3, RmR.rfl⟩
theorem RmR.j {R : ZH} {J : Nat → Nat → Int64} : RmR R (jR R J) := ⟨Nat.le_succ _, by show zL R ≤ zL R + 6; omega, _root_.rfl⟩
theorem OutC.okJ {r : Option ZO} {M M' : ZM} {R : ZH} {J' : Nat → Nat → Int64} {i e : Nat} {v : Int32} {G' : GS} (h1 : r = some (.inl (some (.int v)), M', jR R J')) (h2 : CS M' (jR R J') i G') (h3 : FrC M M') : OutC r M R 0 e v G' := ⟨M', jR R J', i, by rw [h1, if_pos _root_.rfl], h2, h3, RmR.j⟩
theorem FrC.refl {M : ZM} : FrC M M := fun _ _ => rfl
theorem FrC.up {M M' : ZM} {k : Nat} {v : Int32} (h : FrC M M') : FrC M (up2 M' 0 k v) := fun c hc => by rw [up2_ne (by omega)]; exact h c hc
theorem OutC.rN {r : Option ZO} {M M' : ZM} {R : ZH} {i c : Nat} {v : Int32} {G : GS} (h1 : r = some (.inr (zE 0), up2 M' 0 7 (gN G + nI 1), thR R)) (hc : c ≠ 0) (h2 : CS M' R i G) (h3 : FrC M M') : OutC r M R c 0 v (rfN G) := ⟨_, _, i, by rw [h1, if_neg hc], h2.rN, h3.up, RmR.thr⟩
theorem OutC.rA {r : Option ZO} {M M' : ZM} {R : ZH} {i c : Nat} {v : Int32} {G : GS} (h1 : r = some (.inr (zE 1), up2 M' 0 8 (gA G + nI 1), thR R)) (hc : c ≠ 0) (h2 : CS M' R i G) (h3 : FrC M M') : OutC r M R c 1 v (rfA G) := ⟨_, _, i, by rw [h1, if_neg hc], h2.rA, h3.up, RmR.thr⟩
theorem OutC.rS {r : Option ZO} {M M' : ZM} {R : ZH} {i c : Nat} {v : Int32} {G : GS} (h1 : r = some (.inr (zE 2), up2 M' 0 9 (gS G + nI 1), thR R)) (hc : c ≠ 0) (h2 : CS M' R i G) (h3 : FrC M M') : OutC r M R c 2 v (rfS G) := ⟨_, _, i, by rw [h1, if_neg hc], h2.rS, h3.up, RmR.thr⟩
theorem nneg {x : Int32} (h : ¬ x < nI 0) : ∃ k, k < 2147483648 ∧ x = nI k := by
  have e0 : ¬ x.toInt < 0 := fun q => h (by rw [Int32.lt_iff_toInt_lt, nI_toInt (by decide)]; exact q)
  have h2 := Int32.toInt_lt x
  refine ⟨x.toInt.toNat, by omega, ?_⟩
  rw [nI_iI, Int.toNat_of_nonneg (by omega)]
  exact iI_of x
def gTs (G : GS) : List Nat := tsl (bs (gF G)) (lf (gF G))
def gV (G : GS) (s : Nat) (ts : List Nat) (X : List P3) : Int32 := iI (sdV s (VV (bn (gF G)) (sn (gF G)) (pn (gF G)) ts X))
def gE (G : GS) (s : Nat) (X : List P3) : Int32 := iI (endF (sn (gF G)) (pn (gF G)) 0 (X.map (wS s)))
section Qu
variable {d i : Nat} {M : ZM} {R : ZH} {G : GS}
theorem c_worth_t {s : Nat} (hs : s < 2) (hW : WG G) (hC : CS M R i G) : OutC (cal (d + 4) 80 [.ref 0, .int (nI s)] M R) M R 0 0 (gE G s (Un (gF G))) G := by
  have hS := hC.1.1
  obtain ⟨nN, k0, k1, l1, f0_2, f0_10, f0_0, f0_12, f0_11, f0_14⟩ := benF hS
  obtain ⟨nN, k107, k108, l108, k109, l109, k110, l110, k111, l111, f107_0, f107_1, f109_0, f109_1⟩ := fldF hS
  have h1 := needSide_t (d := d + 3) hs hC
  obtain ⟨M1, a1, a2, a3, a4, -⟩ := seeField_ (d := d + 1) hW hC
  have h2 := endWorth_ (d := d + 3) (s := s) (S := 0) hs (by omega) hS a3
  rw [rem_zero] at h2
  refine OutC.ok (M' := M1) ?_ a2 a4
  rw [e80]
  simp (disch := first | assumption | exact nar_b0 | exact nar_b1 | exact nar_b | exact Or.inl rfl | exact Or.inr rfl | exact zin_t (by omega) (by omega) | exact Nat.le_of_ble_eq_true rfl | (rw [nI_cl (by omega)]; assumption) | omega) only [↓reduceIte, reduceCtorEq, not_true_eq_false, not_false_eq_true, q80_0, q80_1, q80_2, q80_5, q80_6, q80_9, q80_10, q80_13, q80_14, q80_15, q80_18, kl_int, kl_ref, kl_tok, cS_nil, cS_int, cS_ref, cS_long, tl_some, tl_none, List.cons_append, List.nil_append, nI_add, nI_ltb, nI_leb, nI_eqb, nI_cl, zin_nI, h1, zk0_inl, a1, h2]
  rfl
theorem c_side_f {x : Int32} {mi : Nat} (h0 : ¬ x = nI 0) (h1 : ¬ x = nI 1) (hC : CS M R i G) : cal d 94 [.ref 0, .int x] M R = some (.inr (zE 1), up2 M 0 8 (gA G + nI 1), thR R) := needSide_f h0 h1 hC
theorem c_worth_f {x v : Int32} (h0 : ¬ x = nI 0) (h1 : ¬ x = nI 1) (hC : CS M R i G) : OutC (cal (d + 4) 80 [.ref 0, .int x] M R) M R 1 1 v (rfA G) := by
  have hS := hC.1.1
  obtain ⟨nN, k0, k1, l1, f0_2, f0_10, f0_0, f0_12, f0_11, f0_14⟩ := benF hS
  have h1 := needSide_f (d := d + 3) h0 h1 hC
  refine OutC.rA ?_ (by decide) hC FrC.refl
  rw [e80]
  simp (disch := first | assumption | exact nar_b0 | exact nar_b1 | exact nar_b | exact Or.inl rfl | exact Or.inr rfl | exact zin_t (by omega) (by omega) | exact Nat.le_of_ble_eq_true rfl | (rw [nI_cl (by omega)]; assumption) | omega) only [↓reduceIte, reduceCtorEq, not_true_eq_false, not_false_eq_true, q80_0, q80_1, q80_2, q80_5, q80_6, q80_9, q80_10, q80_13, q80_14, q80_15, q80_18, kl_int, kl_ref, kl_tok, cS_nil, cS_int, cS_ref, cS_long, tl_some, tl_none, List.cons_append, List.nil_append, nI_add, nI_ltb, nI_leb, nI_eqb, nI_cl, zin_nI, h1, zk0_inr]
theorem c_value_t {s : Nat} (hs : s < 2) (hW : WG G) (hC : CS M R i G) : OutC (cal (d + 4) 81 [.ref 0, .int (nI s)] M R) M R 0 0 (gV G s (gTs G) (Un (gF G))) G := by
  have hS := hC.1.1
  obtain ⟨nN, k0, k1, l1, f0_2, f0_10, f0_0, f0_12, f0_11, f0_14⟩ := benF hS
  obtain ⟨nN, k106, k107, k108, l108, k109, l109, k110, l110, k111, l111, k112, l112, k113, l113, k114, l114, k115, l115, k116, l116, k117, l117, f106_0, f107_0, f107_1, f109_0, f109_1, f106_1, f112_0, f112_1, f106_2, f106_3, f106_4⟩ := lokF hS
  obtain ⟨ks, ls, fs⟩ := KVs hS hs
  have h1 := needSide_t (d := d + 3) hs hC
  obtain ⟨M1, J1, a1, a2, a3, a4⟩ := lookAhead_ (d := d) hW hC
  have hSJ : Sh (jR R J1) := hS.j
  obtain ⟨nN_2, k0_2, k1_2, l1_2, f0_2_2, f0_10_2, f0_0_2, f0_12_2, f0_11_2, f0_14_2⟩ := benF hSJ
  obtain ⟨nN_2, k106_2, k107_2, k108_2, l108_2, k109_2, l109_2, k110_2, l110_2, k111_2, l111_2, k112_2, l112_2, k113_2, l113_2, k114_2, l114_2, k115_2, l115_2, k116_2, l116_2, k117_2, l117_2, f106_0_2, f107_0_2, f107_1_2, f109_0_2, f109_1_2, f106_1_2, f112_0_2, f112_1_2, f106_2_2, f106_3_2, f106_4_2⟩ := lokF hSJ
  obtain ⟨ks_2, ls_2, fs_2⟩ := KVs hSJ hs
  have h2 := a3.val hs
  refine OutC.okJ (M' := M1) ?_ a2 a4
  rw [e81]
  simp (disch := first | assumption | exact nar_b0 | exact nar_b1 | exact nar_b | exact Or.inl rfl | exact Or.inr rfl | exact zin_t (by omega) (by omega) | exact Nat.le_of_ble_eq_true rfl | (rw [nI_cl (by omega)]; assumption) | omega) only [↓reduceIte, reduceCtorEq, not_true_eq_false, not_false_eq_true, q81_0, q81_1, q81_2, q81_5, q81_6, q81_9, q81_10, q81_13, q81_16, q81_17, q81_18, q81_19, q81_20, kl_int, kl_ref, kl_tok, cS_nil, cS_int, cS_ref, cS_long, tl_some, tl_none, List.cons_append, List.nil_append, nI_add, nI_ltb, nI_leb, nI_eqb, nI_cl, zin_nI, h1, zk0_inl, a1, h2]
  rfl
theorem c_value_f {x v : Int32} (h0 : ¬ x = nI 0) (h1 : ¬ x = nI 1) (hC : CS M R i G) : OutC (cal (d + 4) 81 [.ref 0, .int x] M R) M R 1 1 v (rfA G) := by
  have hS := hC.1.1
  obtain ⟨nN, k0, k1, l1, f0_2, f0_10, f0_0, f0_12, f0_11, f0_14⟩ := benF hS
  have h1 := needSide_f (d := d + 3) h0 h1 hC
  refine OutC.rA ?_ (by decide) hC FrC.refl
  rw [e81]
  simp (disch := first | assumption | exact nar_b0 | exact nar_b1 | exact nar_b | exact Or.inl rfl | exact Or.inr rfl | exact zin_t (by omega) (by omega) | exact Nat.le_of_ble_eq_true rfl | (rw [nI_cl (by omega)]; assumption) | omega) only [↓reduceIte, reduceCtorEq, not_true_eq_false, not_false_eq_true, q81_0, q81_1, q81_2, q81_5, q81_6, q81_9, q81_10, q81_13, q81_16, q81_17, q81_18, q81_19, q81_20, kl_int, kl_ref, kl_tok, cS_nil, cS_int, cS_ref, cS_long, tl_some, tl_none, List.cons_append, List.nil_append, nI_add, nI_ltb, nI_leb, nI_eqb, nI_cl, zin_nI, h1, zk0_inr]
def gLn (G : GS) (k : Nat) : Int32 := lnA (bn (gF G)) (sn (gF G)) (pn (gF G)) (gTs G) k (Un (gF G))
theorem gLn_eq {k : Nat} : gLn G k = if k < lf (gF G) then whoI (runX (bn (gF G)) (sn (gF G)) (pn (gF G)) 0 k (gTs G) (Un (gF G))) (bst (bn (gF G)) (sn (gF G)) (VV (bn (gF G)) (sn (gF G)) (pn (gF G)) ((tsl (bs (gF G)) (lf (gF G))).drop (k + 1))) (sbit (bs (gF G)) k) (runX (bn (gF G)) (sn (gF G)) (pn (gF G)) 0 k (gTs G) (Un (gF G)))) else nob := by
  unfold gLn lnA gTs
  rw [tsl_len]
  by_cases h : k < lf (gF G)
  · rw [if_pos h, if_pos h, getD_lt (by rw [tsl_len]; exact h), tsl_get]
  · rw [if_neg h, if_neg h]
theorem c_best (hW : WG G) (hC : CS M R i G) : OutC (cal (d + 4) 82 [.ref 0] M R) M R 0 0 (gLn G 0) G := by
  have hS := hC.1.1
  obtain ⟨nN, k0, k1, l1, f0_2, f0_10, f0_0, f0_12, f0_11, f0_14⟩ := benF hS
  obtain ⟨nN, k106, k107, k108, l108, k109, l109, k110, l110, k111, l111, k112, l112, k113, l113, k114, l114, k115, l115, k116, l116, k117, l117, f106_0, f107_0, f107_1, f109_0, f109_1, f106_1, f112_0, f112_1, f106_2, f106_3, f106_4⟩ := lokF hS
  obtain ⟨M1, J1, a1, a2, a3, a4⟩ := lookAhead_ (d := d) hW hC
  have hSJ : Sh (jR R J1) := hS.j
  obtain ⟨nN_2, k0_2, k1_2, l1_2, f0_2_2, f0_10_2, f0_0_2, f0_12_2, f0_11_2, f0_14_2⟩ := benF hSJ
  obtain ⟨nN_2, k106_2, k107_2, k108_2, l108_2, k109_2, l109_2, k110_2, l110_2, k111_2, l111_2, k112_2, l112_2, k113_2, l113_2, k114_2, l114_2, k115_2, l115_2, k116_2, l116_2, k117_2, l117_2, f106_0_2, f107_0_2, f107_1_2, f109_0_2, f109_1_2, f106_1_2, f112_0_2, f112_1_2, f106_2_2, f106_3_2, f106_4_2⟩ := lokF hSJ
  have h2 := whom_ (d := d + 2) (i := 0) (S := 0) (by omega) hSJ a3 (Nat.two_pow_pos _) (by rw [pop_zero]; exact Nat.zero_le _)
  rw [rem_zero] at h2
  refine OutC.okJ (M' := M1) ?_ a2 a4
  rw [e82, gLn_eq]
  simp (disch := first | assumption | exact nar_b0 | exact nar_b1 | exact nar_b | exact Or.inl rfl | exact Or.inr rfl | exact zin_t (by omega) (by omega) | exact Nat.le_of_ble_eq_true rfl | (rw [nI_cl (by omega)]; assumption) | omega) only [q82_0, q82_1, q82_4, q82_5, q82_8, q82_9, q82_10, q82_13, kl_int, kl_ref, kl_tok, cS_nil, cS_int, cS_ref, cS_long, tl_some, tl_none, List.cons_append, List.nil_append, nI_add, nI_ltb, nI_leb, nI_eqb, nI_cl, zin_nI, zk0_inl, a1, h2]
  rfl
theorem c_line_t {k : Nat} (hk : k < 2147483648) (hW : WG G) (hC : CS M R i G) : OutC (cal (d + 4) 83 [.ref 0, .int (nI k)] M R) M R 0 0 (gLn G k) G := by
  have hS := hC.1.1
  obtain ⟨nN, k0, k1, l1, f0_2, f0_10, f0_0, f0_12, f0_11, f0_14⟩ := benF hS
  obtain ⟨nN, k106, k107, k108, l108, k109, l109, k110, l110, k111, l111, k112, l112, k113, l113, k114, l114, k115, l115, k116, l116, k117, l117, f106_0, f107_0, f107_1, f109_0, f109_1, f106_1, f112_0, f112_1, f106_2, f106_3, f106_4⟩ := lokF hS
  obtain ⟨M1, J1, a1, a2, a3, a4⟩ := lookAhead_ (d := d) hW hC
  have hSJ : Sh (jR R J1) := hS.j
  obtain ⟨nN_2, k0_2, k1_2, l1_2, f0_2_2, f0_10_2, f0_0_2, f0_12_2, f0_11_2, f0_14_2⟩ := benF hSJ
  obtain ⟨nN_2, k106_2, k107_2, k108_2, l108_2, k109_2, l109_2, k110_2, l110_2, k111_2, l111_2, k112_2, l112_2, k113_2, l113_2, k114_2, l114_2, k115_2, l115_2, k116_2, l116_2, k117_2, l117_2, f106_0_2, f107_0_2, f107_1_2, f109_0_2, f109_1_2, f106_1_2, f112_0_2, f112_1_2, f106_2_2, f106_3_2, f106_4_2⟩ := lokF hSJ
  obtain ⟨S', b1, b2, b3, b4⟩ := struckAfter_ (d := d + 2) (k := k) (pl := 0) hk (by omega) hSJ a3
  have h2 := whom_ (d := d + 2) (i := k) (S := S') hk hSJ a3 b2 (by omega)
  rw [b4] at h2
  have h0 : 0 ≤ k := Nat.zero_le _
  refine OutC.okJ (M' := M1) ?_ a2 a4
  rw [e83, gLn_eq]
  simp (disch := first | assumption | exact nar_b0 | exact nar_b1 | exact nar_b | exact Or.inl rfl | exact Or.inr rfl | exact zin_t (by omega) (by omega) | exact Nat.le_of_ble_eq_true rfl | (rw [nI_cl (by omega)]; assumption) | omega) only [↓reduceIte, reduceCtorEq, not_true_eq_false, not_false_eq_true, q83_0, q83_1, q83_4, q83_5i, q83_5a, q83_6, q83_9, q83_10, q83_11, q83_14, q83_17i, q83_17a, q83_24, q83_25, q83_28, q83_29, q83_32, q83_33, q83_34, q83_37, q83_38, q83_39, q83_42, q83_45, kl_int, kl_ref, kl_tok, cS_nil, cS_int, cS_ref, cS_long, tl_some, tl_none, List.cons_append, List.nil_append, nI_add, nI_ltb, nI_leb, nI_eqb, nI_cl, zin_nI, h0, zk0_inl, a1, b1]
  simp (disch := first | assumption | exact nar_b0 | exact nar_b1 | exact nar_b | exact Or.inl rfl | exact Or.inr rfl | exact zin_t (by omega) (by omega) | exact Nat.le_of_ble_eq_true rfl | (rw [nI_cl (by omega)]; assumption) | omega) only [q83_0, q83_1, q83_4, q83_5i, q83_5a, q83_6, q83_9, q83_10, q83_11, q83_14, q83_17i, q83_17a, q83_24, q83_25, q83_28, q83_29, q83_32, q83_33, q83_34, q83_37, q83_38, q83_39, q83_42, q83_45, kl_int, kl_ref, kl_tok, cS_nil, cS_int, cS_ref, cS_long, tl_some, tl_none, List.cons_append, List.nil_append, nI_add, nI_ltb, nI_leb, nI_eqb, nI_cl, zin_nI, h2, zk0_inl]
  rfl
theorem c_line_f {x v : Int32} (h : x < nI 0) (hC : CS M R i G) : OutC (cal (d + 4) 83 [.ref 0, .int x] M R) M R 1 1 v (rfA G) := by
  have hS := hC.1.1
  obtain ⟨nN, k0, k1, l1, f0_2, f0_10, f0_0, f0_12, f0_11, f0_14⟩ := benF hS
  have h8 := hC.2.1.2.2.2.2.2.1
  have h0 : ¬ nI 0 ≤ x := by
    intro q
    rw [Int32.le_iff_toInt_le] at q
    rw [Int32.lt_iff_toInt_lt] at h
    omega
  refine OutC.rA ?_ (by decide) hC FrC.refl
  rw [e83]
  simp (disch := first | assumption | exact nar_b0 | exact nar_b1 | exact nar_b | exact Or.inl rfl | exact Or.inr rfl | exact zin_t (by omega) (by omega) | exact Nat.le_of_ble_eq_true rfl | (rw [nI_cl (by omega)]; assumption) | omega) only [↓reduceIte, reduceCtorEq, not_true_eq_false, not_false_eq_true, q83_0, q83_1, q83_4, q83_5i, q83_5a, q83_6, q83_9, q83_10, q83_11, q83_14, q83_17i, q83_17a, q83_24, q83_25, q83_28, q83_29, q83_32, q83_33, q83_34, q83_37, q83_38, q83_39, q83_42, q83_45, kl_int, kl_ref, kl_tok, cS_nil, cS_int, cS_ref, cS_long, tl_some, tl_none, List.cons_append, List.nil_append, nI_add, nI_ltb, nI_leb, nI_eqb, nI_cl, zin_nI, h0, h8]
def gPl (G : GS) (s pl : Nat) : Int32 := gE G s (runX (bn (gF G)) (sn (gF G)) (pn (gF G)) pl (lf (gF G)) (gTs G) (Un (gF G)))
theorem c_plain_t {s pl : Nat} (hs : s < 2) (hp : pl < 4) (hW : WG G) (hC : CS M R i G) : OutC (cal (d + 4) 89 [.ref 0, .int (nI s), .int (nI pl)] M R) M R 0 0 (gPl G s pl) G := by
  have hS := hC.1.1
  obtain ⟨nN, k0, k1, l1, f0_2, f0_10, f0_0, f0_12, f0_11, f0_14⟩ := benF hS
  obtain ⟨nN, k106, k107, k108, l108, k109, l109, k110, l110, k111, l111, k112, l112, k113, l113, k114, l114, k115, l115, k116, l116, k117, l117, f106_0, f107_0, f107_1, f109_0, f109_1, f106_1, f112_0, f112_1, f106_2, f106_3, f106_4⟩ := lokF hS
  have hw := hW.1.nums
  have h1 := needSide_t (d := d + 3) hs hC
  obtain ⟨M1, J1, a1, a2, a3, a4⟩ := lookAhead_ (d := d) hW hC
  have hSJ : Sh (jR R J1) := hS.j
  obtain ⟨nN_2, k0_2, k1_2, l1_2, f0_2_2, f0_10_2, f0_0_2, f0_12_2, f0_11_2, f0_14_2⟩ := benF hSJ
  obtain ⟨nN_2, k106_2, k107_2, k108_2, l108_2, k109_2, l109_2, k110_2, l110_2, k111_2, l111_2, k112_2, l112_2, k113_2, l113_2, k114_2, l114_2, k115_2, l115_2, k116_2, l116_2, k117_2, l117_2, f106_0_2, f107_0_2, f107_1_2, f109_0_2, f109_1_2, f106_1_2, f112_0_2, f112_1_2, f106_2_2, f106_3_2, f106_4_2⟩ := lokF hSJ
  obtain ⟨S', b1, b2, b3, b4⟩ := struckAfter_ (d := d + 2) (k := lf (gF G)) (pl := pl) (by omega) hp hSJ a3
  have hp10 := pow10 a3.1.2.2.1.1
  have h2 := endWorth_ (d := d + 3) (s := s) (S := S') hs (by omega) hSJ a3.1
  rw [b4] at h2
  have h5 := a3.2.1.1
  have h0 : ¬ pl < 0 := by omega
  have h3 : pl ≤ 3 := by omega
  refine OutC.okJ (M' := M1) ?_ a2 a4
  rw [e89]
  simp (disch := first | assumption | exact nar_b0 | exact nar_b1 | exact nar_b | exact Or.inl rfl | exact Or.inr rfl | exact zin_t (by omega) (by omega) | exact Nat.le_of_ble_eq_true rfl | (rw [nI_cl (by omega)]; assumption) | omega) only [↓reduceIte, reduceCtorEq, not_true_eq_false, not_false_eq_true, q89_0, q89_1, q89_2, q89_5, q89_6, q89_9, q89_10, q89_11, q89_14, q89_15i, q89_15a, q89_16, q89_19, q89_20, q89_21, q89_24, q89_27i, q89_27a, q89_35, q89_36, q89_39, q89_40, q89_43, q89_44, q89_45, q89_48, q89_49, q89_52, q89_55, q89_56, q89_59, q89_62, kl_int, kl_ref, kl_tok, cS_nil, cS_int, cS_ref, cS_long, tl_some, tl_none, List.cons_append, List.nil_append, nI_add, nI_ltb, nI_leb, nI_eqb, nI_cl, zin_nI, h1, zk0_inl, h0, h3, a1, h5, b1, h2]
  rfl
theorem c_plain_f1 {x y v : Int32} (h0 : ¬ x = nI 0) (h1 : ¬ x = nI 1) (hC : CS M R i G) : OutC (cal (d + 4) 89 [.ref 0, .int x, .int y] M R) M R 1 1 v (rfA G) := by
  have hS := hC.1.1
  obtain ⟨nN, k0, k1, l1, f0_2, f0_10, f0_0, f0_12, f0_11, f0_14⟩ := benF hS
  have h1 := needSide_f (d := d + 3) h0 h1 hC
  refine OutC.rA ?_ (by decide) hC FrC.refl
  rw [e89]
  simp (disch := first | assumption | exact nar_b0 | exact nar_b1 | exact nar_b | exact Or.inl rfl | exact Or.inr rfl | exact zin_t (by omega) (by omega) | exact Nat.le_of_ble_eq_true rfl | (rw [nI_cl (by omega)]; assumption) | omega) only [↓reduceIte, reduceCtorEq, not_true_eq_false, not_false_eq_true, q89_0, q89_1, q89_2, q89_5, q89_6, q89_9, q89_10, q89_11, q89_14, q89_15i, q89_15a, q89_16, q89_19, q89_20, q89_21, q89_24, q89_27i, q89_27a, q89_35, q89_36, q89_39, q89_40, q89_43, q89_44, q89_45, q89_48, q89_49, q89_52, q89_55, q89_56, q89_59, q89_62, kl_int, kl_ref, kl_tok, cS_nil, cS_int, cS_ref, cS_long, tl_some, tl_none, List.cons_append, List.nil_append, nI_add, nI_ltb, nI_leb, nI_eqb, nI_cl, zin_nI, h1, zk0_inr]
theorem c_plain_f2 {s : Nat} {y v : Int32} (hs : s < 2) (hy : ¬ ∃ k, k < 4 ∧ y = nI k) (hC : CS M R i G) : OutC (cal (d + 4) 89 [.ref 0, .int (nI s), .int y] M R) M R 1 1 v (rfA G) := by
  have hS := hC.1.1
  obtain ⟨nN, k0, k1, l1, f0_2, f0_10, f0_0, f0_12, f0_11, f0_14⟩ := benF hS
  have h1 := needSide_t (d := d + 3) hs hC
  have h8 := hC.2.1.2.2.2.2.2.1
  refine OutC.rA ?_ (by decide) hC FrC.refl
  rw [e89]
  by_cases h0 : y < nI 0
  · simp (disch := first | assumption | exact nar_b0 | exact nar_b1 | exact nar_b | exact Or.inl rfl | exact Or.inr rfl | exact zin_t (by omega) (by omega) | exact Nat.le_of_ble_eq_true rfl | (rw [nI_cl (by omega)]; assumption) | omega) only [↓reduceIte, reduceCtorEq, not_true_eq_false, not_false_eq_true, q89_0, q89_1, q89_2, q89_5, q89_6, q89_9, q89_10, q89_11, q89_14, q89_15i, q89_15a, q89_16, q89_19, q89_20, q89_21, q89_24, q89_27i, q89_27a, q89_35, q89_36, q89_39, q89_40, q89_43, q89_44, q89_45, q89_48, q89_49, q89_52, q89_55, q89_56, q89_59, q89_62, kl_int, kl_ref, kl_tok, cS_nil, cS_int, cS_ref, cS_long, tl_some, tl_none, List.cons_append, List.nil_append, nI_add, nI_ltb, nI_leb, nI_eqb, nI_cl, zin_nI, h1, zk0_inl, h0, h8]
  · obtain ⟨k, hk, rfl⟩ := nneg h0
    have h3 : ¬ k ≤ 3 := fun q => hy ⟨k, by omega, rfl⟩
    have h00 : ¬ k < 0 := by omega
    simp (disch := first | assumption | exact nar_b0 | exact nar_b1 | exact nar_b | exact Or.inl rfl | exact Or.inr rfl | exact zin_t (by omega) (by omega) | exact Nat.le_of_ble_eq_true rfl | (rw [nI_cl (by omega)]; assumption) | omega) only [↓reduceIte, reduceCtorEq, not_true_eq_false, not_false_eq_true, q89_0, q89_1, q89_2, q89_5, q89_6, q89_9, q89_10, q89_11, q89_14, q89_15i, q89_15a, q89_16, q89_19, q89_20, q89_21, q89_24, q89_27i, q89_27a, q89_35, q89_36, q89_39, q89_40, q89_43, q89_44, q89_45, q89_48, q89_49, q89_52, q89_55, q89_56, q89_59, q89_62, kl_int, kl_ref, kl_tok, cS_nil, cS_int, cS_ref, cS_long, tl_some, tl_none, List.cons_append, List.nil_append, nI_add, nI_ltb, nI_leb, nI_eqb, nI_cl, zin_nI, h1, zk0_inl, h00, h3, h8]
theorem c_states (hW : WG G) (hC : CS M R i G) : OutC (cal (d + 4) 85 [.ref 0] M R) M R 0 0 (nI (totS (bn (gF G)) (sn (gF G)) (Un (gF G)).length (lf (gF G)))) G := by
  have hS := hC.1.1
  have hi := hC.1.2.2.2
  have hnow := hC.1.2.2.1
  obtain ⟨nN, k0, k1, l1, f0_2, f0_10, f0_0, f0_12, f0_11, f0_14⟩ := benF hS
  obtain ⟨nN, tlt, kt0, kt1, lt1, kt2, lt2, kt3, lt3, kt4, lt4, kt5, lt5, kt6, lt6, kt7, lt7, kt8, lt8, ft0_0, ft1_0, ft1_1, ft0_1, ft0_2, ft0_3, ft0_4, ft0_5⟩ := tabF hS hi
  obtain ⟨nN, k106, k107, k108, l108, k109, l109, k110, l110, k111, l111, k112, l112, k113, l113, k114, l114, k115, l115, k116, l116, k117, l117, f106_0, f107_0, f107_1, f109_0, f109_1, f106_1, f112_0, f112_1, f106_2, f106_3, f106_4⟩ := lokF hS
  have hw := hW.1.nums
  obtain ⟨M1, a1, a2, a3, a4, a5⟩ := seeField_ (d := d + 1) hW hC
  have n13 := (a2.2.2.2.1.nums hW.1).2.2.2.2.2.2.2.1
  obtain ⟨M2, b1, b2⟩ := howManyStates_ (d := d) (T := lf (gF G)) hS a3 (by omega)
  obtain ⟨p1, p2⟩ := a2.2.2.2.2.2
  refine OutC.ok (M' := M2) (i := i) ?_ ?_ (fun c h => by rw [b2 c (by omega)]; exact a4 c h)
  · rw [e85]
    simp (disch := first | assumption | exact nar_b0 | exact nar_b1 | exact nar_b | exact Or.inl rfl | exact Or.inr rfl | exact zin_t (by omega) (by omega) | exact Nat.le_of_ble_eq_true rfl | (rw [nI_cl (by omega)]; assumption) | omega) only [↓reduceIte, reduceCtorEq, not_true_eq_false, not_false_eq_true, q85_0, q85_1, q85_4, q85_5, q85_8, q85_9, q85_12, q85_15, q85_18, kl_int, kl_ref, kl_tok, cS_nil, cS_int, cS_ref, cS_long, tl_some, tl_none, List.cons_append, List.nil_append, nI_add, nI_ltb, nI_leb, nI_eqb, nI_cl, zin_nI, zk0_inl, a1, n13, b1]
  · refine a2.fr (fun c h => b2 c (by omega)) (fun c h1 h2 => b2 c (by omega)) (fun j h1 h2 => by rw [b2 _ (by decide)]) ⟨?_, ?_⟩
    · rw [b2 _ (by decide)]
      exact p1.imp id (fun ⟨p, q⟩ => ⟨p, q.fr (fun c h1 h2 => b2 c (by omega))⟩)
    · rw [b2 _ (by decide)]
      exact p2.imp id (fun ⟨p, q⟩ => ⟨p, q.fr (b2 _ (by decide))⟩)
end Qu
