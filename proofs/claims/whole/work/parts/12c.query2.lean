-- more of the class's questions
theorem nI_subn {a b : Nat} (h : b ≤ a) : nI a - nI b = nI (a - b) := by
  rw [nI_iI, nI_iI, iI_sub, nI_iI, Int.ofNat_sub h]
theorem or_two {B s : Nat} (hs : s < 2) : B * 2 ||| s = 2 * B + s := by
  have h := Nat.two_pow_add_eq_or_of_lt (i := 1) (b := s) (by simpa using hs) B
  rw [Nat.pow_one] at h
  rw [Nat.mul_comm B 2, ← h]
theorem tsl_first {B T s : Nat} (hs : s < 2) : tsl (B * 2 ||| s) (T + 1) = s :: tsl B T := by
  rw [or_two hs]
  unfold tsl
  rw [List.range_succ_eq_map, List.map_cons, List.map_map]
  congr 1
  · unfold sbit
    rw [Nat.testBit_zero]
    rcases (show s = 0 ∨ s = 1 by omega) with rfl | rfl
    · rw [if_neg]
      simp
    · rw [if_pos]
      simp
  · apply List.map_congr_left
    intro t _
    simp only [Function.comp]
    unfold sbit
    rw [Nat.testBit_succ, show (2 * B + s) / 2 = B by omega]
theorem tsl_last {B T s : Nat} (hs : s < 2) (hB : B < 2 ^ T) : tsl (B ||| s * 2 ^ T) (T + 1) = tsl B T ++ [s] := by
  unfold tsl
  rw [List.range_succ, List.map_append]
  rcases (show s = 0 ∨ s = 1 by omega) with rfl | rfl
  · rw [Nat.zero_mul, Nat.or_zero]
    congr 1
    simp only [List.map_cons, List.map_nil]
    unfold sbit
    rw [lt_bit hB (Nat.le_refl _)]
    rfl
  · rw [Nat.one_mul]
    congr 1
    · apply List.map_congr_left
      intro t ht
      have := List.mem_range.mp ht
      unfold sbit
      rw [tb_or, decide_eq_false (by omega), Bool.or_false]
    · simp only [List.map_cons, List.map_nil]
      unfold sbit
      rw [tb_or]
      simp
theorem tsl_flip {B T k : Nat} (hk : k < T) : tsl (B ^^^ 2 ^ k) T = (tsl B T).set k (1 - sbit B k) := by
  apply List.ext_getElem
  · rw [List.length_set, tsl_len, tsl_len]
  · intro t h1 h2
    rw [List.getElem_set, tsl_get, tsl_get]
    unfold sbit
    rw [Nat.testBit_xor, Nat.testBit_two_pow]
    by_cases e : k = t
    · subst e
      rw [if_pos rfl]
      cases B.testBit k <;> simp
    · rw [if_neg e, decide_eq_false e, Bool.xor_false]
theorem lt_or {a b n : Nat} (ha : a < 2 ^ n) (hb : b < 2 ^ n) : a ||| b < 2 ^ n := Nat.or_lt_two_pow ha hb
section Qv
variable {d i : Nat} {M : ZM} {R : ZH} {G : GS}
theorem c_more_t {s : Nat} {b : Bool} (hs : s < 2) (hW : WG G) (hC : CS M R i G) : OutC (cal (d + 4) 86 [.ref 0, .int (nI s), .int (b2i b)] M R) M R 0 0 (gV G s (if b then s :: gTs G else gTs G ++ [s]) (Un (gF G))) G := by
  have hS := hC.1.1
  have hi := hC.1.2.2.2
  have hnow := hC.1.2.2.1
  obtain ⟨nN, k0, k1, l1, f0_2, f0_10, f0_0, f0_12, f0_11, f0_14⟩ := benF hS
  obtain ⟨nN, tlt, kt0, kt1, lt1, kt2, lt2, kt3, lt3, kt4, lt4, kt5, lt5, kt6, lt6, kt7, lt7, kt8, lt8, ft0_0, ft1_0, ft1_1, ft0_1, ft0_2, ft0_3, ft0_4, ft0_5⟩ := tabF hS hi
  have hn := hC.2.2.2.1.nums hW.1
  have hw := hW.1.nums
  have h1 := needSide_t (d := d + 3) hs hC
  have hT := Tk_m1 hW.1
  cases b
  · have hb : bs (gF G) ||| s * 2 ^ lf (gF G) < 1024 := by
      refine lt_or (n := 10) (by omega) ?_
      have : 2 ^ lf (gF G) ≤ 2 ^ 8 := Nat.pow_le_pow_right (by decide) hw.2.2.2.2.2.2.1
      rcases (show s = 0 ∨ s = 1 by omega) with rfl | rfl <;> omega
    obtain ⟨M', J1, a1, a2, a3⟩ := valueIf_ (d := d) (x := -1) (T := lf (gF G) + 1) hs (by omega) hb hW hC
    rw [hT, tsl_last hs hw.2.2.2.2.2.2.2.2.1] at a1
    have hN : zN (jR R J1) = zN R := rfl
    refine OutC.okJ (M' := M') ?_ a2 a3
    have hz : b2i false = nI 0 := rfl
    rw [e86]
    simp (disch := first | assumption | exact nar_b0 | exact nar_b1 | exact nar_b | exact Or.inl rfl | exact Or.inr rfl | exact zin_t (by omega) (by omega) | exact Nat.le_of_ble_eq_true rfl | (rw [nI_cl (by omega)]; assumption) | omega) only [↓reduceIte, reduceCtorEq, not_true_eq_false, not_false_eq_true, q86_0, q86_1, q86_2, q86_5, q86_6, q86_9, q86_10, q86_13, q86_16, q86_17, q86_18, q86_19, q86_20, q86_23, q86_24, q86_27, q86_30, q86_31, q86_32, q86_35, q86_38, q86_39, q86_40, q86_41, q86_42, q86_43, q86_44, q86_45, q86_48, q86_51, q86_52, q86_53, q86_54, q86_57, kl_int, kl_ref, kl_tok, cS_nil, cS_int, cS_ref, cS_long, tl_some, tl_none, List.cons_append, List.nil_append, nI_add, nI_ltb, nI_leb, nI_eqb, nI_cl, zin_nI, h1, zk0_inl, hz, hn.2.2.2.2.2.2.2.1, hn.2.2.2.2.2.2.2.2, nI_shl, nI_or, a1]
    rfl
  · have hb : bs (gF G) * 2 ||| s < 1024 := lt_or (n := 10) (by omega) (by omega)
    obtain ⟨M', J1, a1, a2, a3⟩ := valueIf_ (d := d) (x := -1) (T := lf (gF G) + 1) hs (by omega) hb hW hC
    rw [hT, tsl_first hs] at a1
    have hN : zN (jR R J1) = zN R := rfl
    refine OutC.okJ (M' := M') ?_ a2 a3
    have hz : b2i true = nI 1 := rfl
    have z1 : ¬ 1 = 0 := by decide
    have hs1 : zshl (nI (bs (gF G))) (nI 1) = nI (bs (gF G) * 2) := nI_shl _ (by decide)
    rw [e86]
    simp (disch := first | assumption | exact nar_b0 | exact nar_b1 | exact nar_b | exact Or.inl rfl | exact Or.inr rfl | exact zin_t (by omega) (by omega) | exact Nat.le_of_ble_eq_true rfl | (rw [nI_cl (by omega)]; assumption) | omega) only [↓reduceIte, reduceCtorEq, not_true_eq_false, not_false_eq_true, q86_0, q86_1, q86_2, q86_5, q86_6, q86_9, q86_10, q86_13, q86_16, q86_17, q86_18, q86_19, q86_20, q86_23, q86_24, q86_27, q86_30, q86_31, q86_32, q86_35, q86_38, q86_39, q86_40, q86_41, q86_42, q86_43, q86_44, q86_45, q86_48, q86_51, q86_52, q86_53, q86_54, q86_57, kl_int, kl_ref, kl_tok, cS_nil, cS_int, cS_ref, cS_long, tl_some, tl_none, List.cons_append, List.nil_append, nI_add, nI_ltb, nI_leb, nI_eqb, nI_cl, zin_nI, h1, zk0_inl, hz, z1, hn.2.2.2.2.2.2.2.1, hn.2.2.2.2.2.2.2.2, hs1, nI_or, a1]
    rfl
theorem c_more_f {x y v : Int32} (h0 : ¬ x = nI 0) (h1 : ¬ x = nI 1) (hC : CS M R i G) : OutC (cal (d + 4) 86 [.ref 0, .int x, .int y] M R) M R 1 1 v (rfA G) := by
  have hS := hC.1.1
  obtain ⟨nN, k0, k1, l1, f0_2, f0_10, f0_0, f0_12, f0_11, f0_14⟩ := benF hS
  have h1 := needSide_f (d := d + 3) h0 h1 hC
  refine OutC.rA ?_ (by decide) hC FrC.refl
  rw [e86]
  simp (disch := first | assumption | exact nar_b0 | exact nar_b1 | exact nar_b | exact Or.inl rfl | exact Or.inr rfl | exact zin_t (by omega) (by omega) | exact Nat.le_of_ble_eq_true rfl | (rw [nI_cl (by omega)]; assumption) | omega) only [↓reduceIte, reduceCtorEq, not_true_eq_false, not_false_eq_true, q86_0, q86_1, q86_2, q86_5, q86_6, q86_9, q86_10, q86_13, q86_16, q86_17, q86_18, q86_19, q86_20, q86_23, q86_24, q86_27, q86_30, q86_31, q86_32, q86_35, q86_38, q86_39, q86_40, q86_41, q86_42, q86_43, q86_44, q86_45, q86_48, q86_51, q86_52, q86_53, q86_54, q86_57, kl_int, kl_ref, kl_tok, cS_nil, cS_int, cS_ref, cS_long, tl_some, tl_none, List.cons_append, List.nil_append, nI_add, nI_ltb, nI_leb, nI_eqb, nI_cl, zin_nI, h1, zk0_inr]
theorem c_other_t {s k : Nat} (hs : s < 2) (hk : k < lf (gF G)) (hW : WG G) (hC : CS M R i G) : OutC (cal (d + 4) 87 [.ref 0, .int (nI s), .int (nI k)] M R) M R 0 0 (gV G s ((gTs G).set k (1 - sbit (bs (gF G)) k)) (Un (gF G))) G := by
  have hS := hC.1.1
  have hi := hC.1.2.2.2
  have hnow := hC.1.2.2.1
  obtain ⟨nN, k0, k1, l1, f0_2, f0_10, f0_0, f0_12, f0_11, f0_14⟩ := benF hS
  obtain ⟨nN, tlt, kt0, kt1, lt1, kt2, lt2, kt3, lt3, kt4, lt4, kt5, lt5, kt6, lt6, kt7, lt7, kt8, lt8, ft0_0, ft1_0, ft1_1, ft0_1, ft0_2, ft0_3, ft0_4, ft0_5⟩ := tabF hS hi
  have hn := hC.2.2.2.1.nums hW.1
  have hw := hW.1.nums
  have h1 := needSide_t (d := d + 3) hs hC
  have h2 := needTurn_t (d := d + 3) hk hW hC
  have hT := Tk_m1 hW.1
  have hb : bs (gF G) ^^^ 2 ^ k < 1024 := by
    refine Nat.xor_lt_two_pow (n := 10) (by omega) ?_
    have : 2 ^ k ≤ 2 ^ 8 := Nat.pow_le_pow_right (by decide) (by omega)
    omega
  obtain ⟨M', J1, a1, a2, a3⟩ := valueIf_ (d := d) (x := -1) (T := lf (gF G)) hs (by omega) hb hW hC
  rw [hT, tsl_flip hk] at a1
  have hN : zN (jR R J1) = zN R := rfl
  refine OutC.okJ (M' := M') ?_ a2 a3
  rw [e87]
  simp (disch := first | assumption | exact nar_b0 | exact nar_b1 | exact nar_b | exact Or.inl rfl | exact Or.inr rfl | exact zin_t (by omega) (by omega) | exact Nat.le_of_ble_eq_true rfl | (rw [nI_cl (by omega)]; assumption) | omega) only [↓reduceIte, reduceCtorEq, not_true_eq_false, not_false_eq_true, q87_0, q87_1, q87_2, q87_5, q87_6, q87_7, q87_10, q87_11, q87_12, q87_13, q87_14, q87_17, q87_20, q87_21, q87_24, q87_27, q87_28, q87_29, q87_30, q87_31, q87_34, kl_int, kl_ref, kl_tok, cS_nil, cS_int, cS_ref, cS_long, tl_some, tl_none, List.cons_append, List.nil_append, nI_add, nI_ltb, nI_leb, nI_eqb, nI_cl, zin_nI, h1, h2, zk0_inl, hn.2.2.2.2.2.2.2.1, hn.2.2.2.2.2.2.2.2, nI_shl, Nat.one_mul, nI_xor, a1]
  rfl
theorem c_other_f1 {x y v : Int32} (hy : ¬ ∃ k, k < lf (gF G) ∧ y = nI k) (hW : WG G) (hC : CS M R i G) : OutC (cal (d + 4) 87 [.ref 0, .int x, .int y] M R) M R 1 0 v (rfN G) := by
  have hS := hC.1.1
  obtain ⟨nN, k0, k1, l1, f0_2, f0_10, f0_0, f0_12, f0_11, f0_14⟩ := benF hS
  have h1 := needTurn_f (d := d + 3) hy hW hC
  refine OutC.rN ?_ (by decide) hC FrC.refl
  rw [e87]
  simp (disch := first | assumption | exact nar_b0 | exact nar_b1 | exact nar_b | exact Or.inl rfl | exact Or.inr rfl | exact zin_t (by omega) (by omega) | exact Nat.le_of_ble_eq_true rfl | (rw [nI_cl (by omega)]; assumption) | omega) only [↓reduceIte, reduceCtorEq, not_true_eq_false, not_false_eq_true, q87_0, q87_1, q87_2, q87_5, q87_6, q87_7, q87_10, q87_11, q87_12, q87_13, q87_14, q87_17, q87_20, q87_21, q87_24, q87_27, q87_28, q87_29, q87_30, q87_31, q87_34, kl_int, kl_ref, kl_tok, cS_nil, cS_int, cS_ref, cS_long, tl_some, tl_none, List.cons_append, List.nil_append, nI_add, nI_ltb, nI_leb, nI_eqb, nI_cl, zin_nI, h1, zk0_inr]
theorem c_other_f2 {x v : Int32} {k : Nat} (hk : k < lf (gF G)) (h0 : ¬ x = nI 0) (h1 : ¬ x = nI 1) (hW : WG G) (hC : CS M R i G) : OutC (cal (d + 4) 87 [.ref 0, .int x, .int (nI k)] M R) M R 2 1 v (rfA G) := by
  have hS := hC.1.1
  obtain ⟨nN, k0, k1, l1, f0_2, f0_10, f0_0, f0_12, f0_11, f0_14⟩ := benF hS
  have h1 := needSide_f (d := d + 3) h0 h1 hC
  have h2 := needTurn_t (d := d + 3) hk hW hC
  refine OutC.rA ?_ (by decide) hC FrC.refl
  rw [e87]
  simp (disch := first | assumption | exact nar_b0 | exact nar_b1 | exact nar_b | exact Or.inl rfl | exact Or.inr rfl | exact zin_t (by omega) (by omega) | exact Nat.le_of_ble_eq_true rfl | (rw [nI_cl (by omega)]; assumption) | omega) only [↓reduceIte, reduceCtorEq, not_true_eq_false, not_false_eq_true, q87_0, q87_1, q87_2, q87_5, q87_6, q87_7, q87_10, q87_11, q87_12, q87_13, q87_14, q87_17, q87_20, q87_21, q87_24, q87_27, q87_28, q87_29, q87_30, q87_31, q87_34, kl_int, kl_ref, kl_tok, cS_nil, cS_int, cS_ref, cS_long, tl_some, tl_none, List.cons_append, List.nil_append, nI_add, nI_ltb, nI_leb, nI_eqb, nI_cl, zin_nI, h2, zk0_inl, h1, zk0_inr]
theorem c_wo_t {s p : Nat} {x : Int32} (hs : s < 2) (hx : plI (gF G) x = some p) (hu : stk (gF G) (rw (gF G) p) = false) (hW : WG G) (hC : CS M R i G) : OutC (cal (d + 4) 88 [.ref 0, .int (nI s), .int x] M R) M R 0 0 (gV G s (gTs G) (Tk (gF G) x)) G := by
  have hS := hC.1.1
  have hi := hC.1.2.2.2
  have hnow := hC.1.2.2.1
  obtain ⟨nN, k0, k1, l1, f0_2, f0_10, f0_0, f0_12, f0_11, f0_14⟩ := benF hS
  obtain ⟨nN, tlt, kt0, kt1, lt1, kt2, lt2, kt3, lt3, kt4, lt4, kt5, lt5, kt6, lt6, kt7, lt7, kt8, lt8, ft0_0, ft1_0, ft1_1, ft0_1, ft0_2, ft0_3, ft0_4, ft0_5⟩ := tabF hS hi
  have hn := hC.2.2.2.1.nums hW.1
  have hw := hW.1.nums
  have h1 := needSide_t (d := d + 3) hs hC
  have h2 := needInRow_t (d := d + 2) hx hW hC
  have hp := plI_some hW.1 hx
  have h3 := isStruck_ (d := d + 3) (k := rw (gF G) p) hS hi hC.2.2.2.1 hp.2.2.2
  rw [hu, ← hp.2.1] at h3
  obtain ⟨M', J1, a1, a2, a3⟩ := valueIf_ (d := d) (x := x) (T := lf (gF G)) (bits := bs (gF G)) hs (by omega) (by omega) hW hC
  have hN : zN (jR R J1) = zN R := rfl
  refine OutC.okJ (M' := M') ?_ a2 a3
  rw [e88]
  simp (disch := first | assumption | exact nar_b0 | exact nar_b1 | exact nar_b | exact Or.inl rfl | exact Or.inr rfl | exact zin_t (by omega) (by omega) | exact Nat.le_of_ble_eq_true rfl | (rw [nI_cl (by omega)]; assumption) | omega) only [↓reduceIte, reduceCtorEq, not_true_eq_false, not_false_eq_true, q88_0, q88_1, q88_2, q88_5, q88_6, q88_7, q88_10, q88_11, q88_14, q88_15, q88_18, q88_21, q88_22i, q88_22a, q88_23, q88_26, q88_27, q88_28, q88_31, q88_34i, q88_34a, q88_42, q88_43, q88_44, q88_45, q88_46, q88_49, q88_52, q88_53, q88_56, q88_59, q88_62, kl_int, kl_ref, kl_tok, cS_nil, cS_int, cS_ref, cS_long, tl_some, tl_none, List.cons_append, List.nil_append, nI_add, nI_ltb, nI_leb, nI_eqb, nI_cl, zin_nI, h1, h2, h3, b2i_0, zk0_inl, hn.2.2.2.2.2.2.2.1, hn.2.2.2.2.2.2.2.2, a1]
  rfl
theorem c_wo_f1 {x y v : Int32} (hx : plI (gF G) x = none) (hW : WG G) (hC : CS M R i G) : OutC (cal (d + 4) 88 [.ref 0, .int y, .int x] M R) M R 1 0 v (rfN G) := by
  have hS := hC.1.1
  obtain ⟨nN, k0, k1, l1, f0_2, f0_10, f0_0, f0_12, f0_11, f0_14⟩ := benF hS
  have h1 := needInRow_f (d := d + 2) hx hW hC
  refine OutC.rN ?_ (by decide) hC FrC.refl
  rw [e88]
  simp (disch := first | assumption | exact nar_b0 | exact nar_b1 | exact nar_b | exact Or.inl rfl | exact Or.inr rfl | exact zin_t (by omega) (by omega) | exact Nat.le_of_ble_eq_true rfl | (rw [nI_cl (by omega)]; assumption) | omega) only [↓reduceIte, reduceCtorEq, not_true_eq_false, not_false_eq_true, q88_0, q88_1, q88_2, q88_5, q88_6, q88_7, q88_10, q88_11, q88_14, q88_15, q88_18, q88_21, q88_22i, q88_22a, q88_23, q88_26, q88_27, q88_28, q88_31, q88_34i, q88_34a, q88_42, q88_43, q88_44, q88_45, q88_46, q88_49, q88_52, q88_53, q88_56, q88_59, q88_62, kl_int, kl_ref, kl_tok, cS_nil, cS_int, cS_ref, cS_long, tl_some, tl_none, List.cons_append, List.nil_append, nI_add, nI_ltb, nI_leb, nI_eqb, nI_cl, zin_nI, h1, zk0_inr]
theorem c_wo_f2 {x y v : Int32} {p : Nat} (hx : plI (gF G) x = some p) (h0 : ¬ y = nI 0) (h1 : ¬ y = nI 1) (hW : WG G) (hC : CS M R i G) : OutC (cal (d + 4) 88 [.ref 0, .int y, .int x] M R) M R 2 1 v (rfA G) := by
  have hS := hC.1.1
  obtain ⟨nN, k0, k1, l1, f0_2, f0_10, f0_0, f0_12, f0_11, f0_14⟩ := benF hS
  have h1 := needSide_f (d := d + 3) h0 h1 hC
  have h2 := needInRow_t (d := d + 2) hx hW hC
  refine OutC.rA ?_ (by decide) hC FrC.refl
  rw [e88]
  simp (disch := first | assumption | exact nar_b0 | exact nar_b1 | exact nar_b | exact Or.inl rfl | exact Or.inr rfl | exact zin_t (by omega) (by omega) | exact Nat.le_of_ble_eq_true rfl | (rw [nI_cl (by omega)]; assumption) | omega) only [↓reduceIte, reduceCtorEq, not_true_eq_false, not_false_eq_true, q88_0, q88_1, q88_2, q88_5, q88_6, q88_7, q88_10, q88_11, q88_14, q88_15, q88_18, q88_21, q88_22i, q88_22a, q88_23, q88_26, q88_27, q88_28, q88_31, q88_34i, q88_34a, q88_42, q88_43, q88_44, q88_45, q88_46, q88_49, q88_52, q88_53, q88_56, q88_59, q88_62, kl_int, kl_ref, kl_tok, cS_nil, cS_int, cS_ref, cS_long, tl_some, tl_none, List.cons_append, List.nil_append, nI_add, nI_ltb, nI_leb, nI_eqb, nI_cl, zin_nI, h2, zk0_inl, h1, zk0_inr]
theorem c_wo_f3 {s p : Nat} {x v : Int32} (hs : s < 2) (hx : plI (gF G) x = some p) (hu : stk (gF G) (rw (gF G) p) = true) (hW : WG G) (hC : CS M R i G) : OutC (cal (d + 4) 88 [.ref 0, .int (nI s), .int x] M R) M R 3 2 v (rfS G) := by
  have hS := hC.1.1
  have hi := hC.1.2.2.2
  have hnow := hC.1.2.2.1
  obtain ⟨nN, k0, k1, l1, f0_2, f0_10, f0_0, f0_12, f0_11, f0_14⟩ := benF hS
  obtain ⟨nN, tlt, kt0, kt1, lt1, kt2, lt2, kt3, lt3, kt4, lt4, kt5, lt5, kt6, lt6, kt7, lt7, kt8, lt8, ft0_0, ft1_0, ft1_1, ft0_1, ft0_2, ft0_3, ft0_4, ft0_5⟩ := tabF hS hi
  have h1 := needSide_t (d := d + 3) hs hC
  have h2 := needInRow_t (d := d + 2) hx hW hC
  have hp := plI_some hW.1 hx
  have h3 := isStruck_ (d := d + 3) (k := rw (gF G) p) hS hi hC.2.2.2.1 hp.2.2.2
  rw [hu, ← hp.2.1] at h3
  have h9 := hC.2.1.2.2.2.2.2.2
  refine OutC.rS ?_ (by decide) hC FrC.refl
  rw [e88]
  simp (disch := first | assumption | exact nar_b0 | exact nar_b1 | exact nar_b | exact Or.inl rfl | exact Or.inr rfl | exact zin_t (by omega) (by omega) | exact Nat.le_of_ble_eq_true rfl | (rw [nI_cl (by omega)]; assumption) | omega) only [↓reduceIte, reduceCtorEq, not_true_eq_false, not_false_eq_true, q88_0, q88_1, q88_2, q88_5, q88_6, q88_7, q88_10, q88_11, q88_14, q88_15, q88_18, q88_21, q88_22i, q88_22a, q88_23, q88_26, q88_27, q88_28, q88_31, q88_34i, q88_34a, q88_42, q88_43, q88_44, q88_45, q88_46, q88_49, q88_52, q88_53, q88_56, q88_59, q88_62, kl_int, kl_ref, kl_tok, cS_nil, cS_int, cS_ref, cS_long, tl_some, tl_none, List.cons_append, List.nil_append, nI_add, nI_ltb, nI_leb, nI_eqb, nI_cl, zin_nI, h1, h2, h3, b2i_0, zk0_inl, h9]
theorem onK_b {f : Nat → Int32} (hW : Wf f) : pop 10 (bs f) = onK f 1 ∧ lf f - pop 10 (bs f) = onK f 0 ∧ pop 10 (bs f) ≤ lf f := by
  have hw := hW.nums
  have h1 := pop_ten hw.2.2.2.2.2.2.2.2.1 (by omega)
  have h2 := pop_le (bs f) (lf f)
  refine ⟨h1, ?_, by omega⟩
  rw [h1]
  rfl
theorem c_once_t {w : Nat} (hw5 : w < 5) (hk0 : onK (gF G) 0 ≤ 3) (hk1 : onK (gF G) 1 ≤ 3) (hW : WG G) (hC : CS M R i G) : OutC (cal (d + 4) 90 [.ref 0, .int (nI w)] M R) M R 0 0 (ansW ((Un (gF G)).map (fun p => p.1)) (vE (sn (gF G)) (pn (gF G)) (Un (gF G)) 0) (vE (sn (gF G)) (pn (gF G)) (Un (gF G)) 1) (onL (gF G)) w) G := by
  have hS := hC.1.1
  have hi := hC.1.2.2.2
  have hnow := hC.1.2.2.1
  obtain ⟨nN, k0, k1, l1, f0_2, f0_10, f0_0, f0_12, f0_11, f0_14⟩ := benF hS
  obtain ⟨nN, tlt, kt0, kt1, lt1, kt2, lt2, kt3, lt3, kt4, lt4, kt5, lt5, kt6, lt6, kt7, lt7, kt8, lt8, ft0_0, ft1_0, ft1_1, ft0_1, ft0_2, ft0_3, ft0_4, ft0_5⟩ := tabF hS hi
  obtain ⟨nN, k118, k119, l119, k120, l120, k121, l121, k122, l122, k123, l123, k124, l124, k125, l125, k126, l126, f118_0, f119_0, f119_1, f118_1, f118_2, f118_3, f118_4, f118_5⟩ := oncF hS
  have hn := hC.2.2.2.1.nums hW.1
  have hw := hW.1.nums
  obtain ⟨o1, o2, o3⟩ := onK_b hW.1
  have hbc := bitCount_ (d := d + 3) (S := bs (gF G)) (M := M) (R := R) (by omega)
  rw [o1] at hbc o2 o3
  have h0 : ¬ w < 0 := by omega
  have h4 : w ≤ 4 := by omega
  have n0 : ¬ 3 < onK (gF G) 0 := by omega
  have hsub : nI (lf (gF G)) - nI (onK (gF G) 1) = nI (onK (gF G) 0) := by rw [nI_subn o3, o2]
  have e82 : cal (d + 4) 90 [.ref 0, .int (nI w)] M R = exe (d + 4) 90 82 [.ref 0, .int (nI w), .int (nI (onK (gF G) 1)), .int (nI (onK (gF G) 0))] [] M R := by
    rw [e90]
    simp (disch := first | assumption | exact nar_b0 | exact nar_b1 | exact nar_b | exact Or.inl rfl | exact Or.inr rfl | exact zin_t (by omega) (by omega) | exact Nat.le_of_ble_eq_true rfl | (rw [nI_cl (by omega)]; assumption) | omega) only [↓reduceIte, reduceCtorEq, not_true_eq_false, not_false_eq_true, q90_0, q90_1, q90_4, q90_5, q90_6, q90_9, q90_10i, q90_10a, q90_11, q90_14, q90_15, q90_16, q90_19, q90_22i, q90_22a, q90_30, q90_31, q90_34, q90_37, q90_40, q90_41, q90_42, q90_45, q90_48, q90_49, q90_50, q90_51, q90_52, q90_53, q90_56, q90_57, q90_58, q90_61, q90_62i, q90_62a, q90_63, q90_66, q90_67, q90_68, q90_71, q90_74i, q90_74a, q90_83, q90_86, q90_89, q90_90, q90_93, q90_94, q90_97, q90_98, q90_101, q90_102, q90_103, q90_106, q90_107, q90_108, q90_111, q90_112, q90_115, q90_118, q90_119, q90_120, kl_int, kl_ref, kl_tok, cS_nil, cS_int, cS_ref, cS_long, tl_some, tl_none, List.cons_append, List.nil_append, nI_add, nI_ltb, nI_leb, nI_eqb, nI_cl, zin_nI, h0, h4, hn.2.2.2.2.2.2.2.1, hn.2.2.2.2.2.2.2.2, hbc, zk0_inl, hsub, n0, hk1]
  rw [e82]
  rcases hC.2.2.2.2.2.2 with hf | ⟨hf, hon⟩
  · obtain ⟨M1, a1, a2, a3, a4, a5⟩ := seeField_ (d := d + 1) hW hC
    obtain ⟨M2, b1, b2, b3⟩ := seek_ (d := d + 1) (k1 := onK (gF G) 0) (k2 := onK (gF G) 1) hk0 hk1 hS a3
    have hon : OnR (up2 M2 0 15 (nI 1)) (gF G) := OnR.fr (M := M2) b2 (up2_ne (by decide))
    obtain ⟨p1, -⟩ := a2.2.2.2.2.2
    have hg := AnsRel.get hw5 hon
    refine OutC.ok (M' := up2 M2 0 15 (nI 1)) (i := i) ?_ ?_ ?_
    · simp (disch := first | assumption | exact nar_b0 | exact nar_b1 | exact nar_b | exact Or.inl rfl | exact Or.inr rfl | exact zin_t (by omega) (by omega) | exact Nat.le_of_ble_eq_true rfl | (rw [nI_cl (by omega)]; assumption) | omega) only [↓reduceIte, reduceCtorEq, not_true_eq_false, not_false_eq_true, q90_0, q90_1, q90_4, q90_5, q90_6, q90_9, q90_10i, q90_10a, q90_11, q90_14, q90_15, q90_16, q90_19, q90_22i, q90_22a, q90_30, q90_31, q90_34, q90_37, q90_40, q90_41, q90_42, q90_45, q90_48, q90_49, q90_50, q90_51, q90_52, q90_53, q90_56, q90_57, q90_58, q90_61, q90_62i, q90_62a, q90_63, q90_66, q90_67, q90_68, q90_71, q90_74i, q90_74a, q90_82, q90_83, q90_86, q90_89, q90_90, q90_93, q90_94, q90_97, q90_98, q90_101, q90_102, q90_103, q90_106, q90_107, q90_108, q90_111, q90_112, q90_115, q90_118, q90_119, q90_120, kl_int, kl_ref, kl_tok, cS_nil, cS_int, cS_ref, cS_long, tl_some, tl_none, List.cons_append, List.nil_append, nI_add, nI_ltb, nI_leb, nI_eqb, nI_cl, zin_nI, hf, a1, zk0_inl, b1, hg]
    · refine a2.fr (fun c h => by rw [up2_ne (by omega), b3 c (by omega)]) (fun c h1 h2 => by rw [up2_ne (by omega), b3 c (by omega)]) (fun j h1 h2 => by rw [up2_s h2, b3 _ (by omega)]) ⟨?_, Or.inr ⟨up2_at, hon⟩⟩
      rw [up2_s (by decide), b3 _ (by omega)]
      exact p1.imp id (fun ⟨p, q⟩ => ⟨p, q.fr (fun c h1 h2 => by rw [up2_ne (by omega), b3 c (by omega)])⟩)
    · intro c h
      rw [up2_ne (by omega), b3 c (by omega)]
      exact a4 c h
  · have hg := AnsRel.get hw5 hon
    refine OutC.ok (M' := M) ?_ hC FrC.refl
    have z1 : ¬ 1 = 0 := by decide
    simp (disch := first | assumption | exact nar_b0 | exact nar_b1 | exact nar_b | exact Or.inl rfl | exact Or.inr rfl | exact zin_t (by omega) (by omega) | exact Nat.le_of_ble_eq_true rfl | (rw [nI_cl (by omega)]; assumption) | omega) only [↓reduceIte, reduceCtorEq, not_true_eq_false, not_false_eq_true, q90_0, q90_1, q90_4, q90_5, q90_6, q90_9, q90_10i, q90_10a, q90_11, q90_14, q90_15, q90_16, q90_19, q90_22i, q90_22a, q90_30, q90_31, q90_34, q90_37, q90_40, q90_41, q90_42, q90_45, q90_48, q90_49, q90_50, q90_51, q90_52, q90_53, q90_56, q90_57, q90_58, q90_61, q90_62i, q90_62a, q90_63, q90_66, q90_67, q90_68, q90_71, q90_74i, q90_74a, q90_82, q90_83, q90_86, q90_89, q90_90, q90_93, q90_94, q90_97, q90_98, q90_101, q90_102, q90_103, q90_106, q90_107, q90_108, q90_111, q90_112, q90_115, q90_118, q90_119, q90_120, kl_int, kl_ref, kl_tok, cS_nil, cS_int, cS_ref, cS_long, tl_some, tl_none, List.cons_append, List.nil_append, nI_add, nI_ltb, nI_leb, nI_eqb, nI_cl, zin_nI, hf, z1, hg]
theorem c_once_f1 {x v : Int32} (hx : ¬ ∃ k, k < 5 ∧ x = nI k) (hC : CS M R i G) : OutC (cal (d + 4) 90 [.ref 0, .int x] M R) M R 1 1 v (rfA G) := by
  have hS := hC.1.1
  obtain ⟨nN, k0, k1, l1, f0_2, f0_10, f0_0, f0_12, f0_11, f0_14⟩ := benF hS
  have h8 := hC.2.1.2.2.2.2.2.1
  refine OutC.rA ?_ (by decide) hC FrC.refl
  rw [e90]
  by_cases h0 : x < nI 0
  · simp (disch := first | assumption | exact nar_b0 | exact nar_b1 | exact nar_b | exact Or.inl rfl | exact Or.inr rfl | exact zin_t (by omega) (by omega) | exact Nat.le_of_ble_eq_true rfl | (rw [nI_cl (by omega)]; assumption) | omega) only [↓reduceIte, reduceCtorEq, not_true_eq_false, not_false_eq_true, q90_0, q90_1, q90_4, q90_5, q90_6, q90_9, q90_10i, q90_10a, q90_11, q90_14, q90_15, q90_16, q90_19, q90_22i, q90_22a, q90_30, q90_31, q90_34, q90_37, q90_40, q90_41, q90_42, q90_45, q90_48, q90_49, q90_50, q90_51, q90_52, q90_53, q90_56, q90_57, q90_58, q90_61, q90_62i, q90_62a, q90_63, q90_66, q90_67, q90_68, q90_71, q90_74i, q90_74a, q90_82, q90_83, q90_86, q90_89, q90_90, q90_93, q90_94, q90_97, q90_98, q90_101, q90_102, q90_103, q90_106, q90_107, q90_108, q90_111, q90_112, q90_115, q90_118, q90_119, q90_120, kl_int, kl_ref, kl_tok, cS_nil, cS_int, cS_ref, cS_long, tl_some, tl_none, List.cons_append, List.nil_append, nI_add, nI_ltb, nI_leb, nI_eqb, nI_cl, zin_nI, h0, h8]
  · obtain ⟨k, hk, rfl⟩ := nneg h0
    have h3 : ¬ k ≤ 4 := fun q => hx ⟨k, by omega, rfl⟩
    have h00 : ¬ k < 0 := by omega
    simp (disch := first | assumption | exact nar_b0 | exact nar_b1 | exact nar_b | exact Or.inl rfl | exact Or.inr rfl | exact zin_t (by omega) (by omega) | exact Nat.le_of_ble_eq_true rfl | (rw [nI_cl (by omega)]; assumption) | omega) only [↓reduceIte, reduceCtorEq, not_true_eq_false, not_false_eq_true, q90_0, q90_1, q90_4, q90_5, q90_6, q90_9, q90_10i, q90_10a, q90_11, q90_14, q90_15, q90_16, q90_19, q90_22i, q90_22a, q90_30, q90_31, q90_34, q90_37, q90_40, q90_41, q90_42, q90_45, q90_48, q90_49, q90_50, q90_51, q90_52, q90_53, q90_56, q90_57, q90_58, q90_61, q90_62i, q90_62a, q90_63, q90_66, q90_67, q90_68, q90_71, q90_74i, q90_74a, q90_82, q90_83, q90_86, q90_89, q90_90, q90_93, q90_94, q90_97, q90_98, q90_101, q90_102, q90_103, q90_106, q90_107, q90_108, q90_111, q90_112, q90_115, q90_118, q90_119, q90_120, kl_int, kl_ref, kl_tok, cS_nil, cS_int, cS_ref, cS_long, tl_some, tl_none, List.cons_append, List.nil_append, nI_add, nI_ltb, nI_leb, nI_eqb, nI_cl, zin_nI, h00, h3, h8]
theorem c_once_f2 {w : Nat} {v : Int32} (hw5 : w < 5) (hk : ¬ (onK (gF G) 0 ≤ 3 ∧ onK (gF G) 1 ≤ 3)) (hW : WG G) (hC : CS M R i G) : OutC (cal (d + 4) 90 [.ref 0, .int (nI w)] M R) M R 2 2 v (rfS G) := by
  have hS := hC.1.1
  have hi := hC.1.2.2.2
  have hnow := hC.1.2.2.1
  obtain ⟨nN, k0, k1, l1, f0_2, f0_10, f0_0, f0_12, f0_11, f0_14⟩ := benF hS
  obtain ⟨nN, tlt, kt0, kt1, lt1, kt2, lt2, kt3, lt3, kt4, lt4, kt5, lt5, kt6, lt6, kt7, lt7, kt8, lt8, ft0_0, ft1_0, ft1_1, ft0_1, ft0_2, ft0_3, ft0_4, ft0_5⟩ := tabF hS hi
  obtain ⟨nN, k118, k119, l119, k120, l120, k121, l121, k122, l122, k123, l123, k124, l124, k125, l125, k126, l126, f118_0, f119_0, f119_1, f118_1, f118_2, f118_3, f118_4, f118_5⟩ := oncF hS
  have hn := hC.2.2.2.1.nums hW.1
  have hw := hW.1.nums
  have h9 := hC.2.1.2.2.2.2.2.2
  obtain ⟨o1, o2, o3⟩ := onK_b hW.1
  have hbc := bitCount_ (d := d + 3) (S := bs (gF G)) (M := M) (R := R) (by omega)
  rw [o1] at hbc o2 o3
  have h0 : ¬ w < 0 := by omega
  have h4 : w ≤ 4 := by omega
  have hsub : nI (lf (gF G)) - nI (onK (gF G) 1) = nI (onK (gF G) 0) := by rw [nI_subn o3, o2]
  refine OutC.rS ?_ (by decide) hC FrC.refl
  rw [e90]
  by_cases n0 : 3 < onK (gF G) 0
  · simp (disch := first | assumption | exact nar_b0 | exact nar_b1 | exact nar_b | exact Or.inl rfl | exact Or.inr rfl | exact zin_t (by omega) (by omega) | exact Nat.le_of_ble_eq_true rfl | (rw [nI_cl (by omega)]; assumption) | omega) only [↓reduceIte, reduceCtorEq, not_true_eq_false, not_false_eq_true, q90_0, q90_1, q90_4, q90_5, q90_6, q90_9, q90_10i, q90_10a, q90_11, q90_14, q90_15, q90_16, q90_19, q90_22i, q90_22a, q90_30, q90_31, q90_34, q90_37, q90_40, q90_41, q90_42, q90_45, q90_48, q90_49, q90_50, q90_51, q90_52, q90_53, q90_56, q90_57, q90_58, q90_61, q90_62i, q90_62a, q90_63, q90_66, q90_67, q90_68, q90_71, q90_74i, q90_74a, q90_82, q90_83, q90_86, q90_89, q90_90, q90_93, q90_94, q90_97, q90_98, q90_101, q90_102, q90_103, q90_106, q90_107, q90_108, q90_111, q90_112, q90_115, q90_118, q90_119, q90_120, kl_int, kl_ref, kl_tok, cS_nil, cS_int, cS_ref, cS_long, tl_some, tl_none, List.cons_append, List.nil_append, nI_add, nI_ltb, nI_leb, nI_eqb, nI_cl, zin_nI, h0, h4, hn.2.2.2.2.2.2.2.1, hn.2.2.2.2.2.2.2.2, hbc, zk0_inl, hsub, n0, h9]
  · have n1 : ¬ onK (gF G) 1 ≤ 3 := fun q => hk ⟨by omega, q⟩
    simp (disch := first | assumption | exact nar_b0 | exact nar_b1 | exact nar_b | exact Or.inl rfl | exact Or.inr rfl | exact zin_t (by omega) (by omega) | exact Nat.le_of_ble_eq_true rfl | (rw [nI_cl (by omega)]; assumption) | omega) only [↓reduceIte, reduceCtorEq, not_true_eq_false, not_false_eq_true, q90_0, q90_1, q90_4, q90_5, q90_6, q90_9, q90_10i, q90_10a, q90_11, q90_14, q90_15, q90_16, q90_19, q90_22i, q90_22a, q90_30, q90_31, q90_34, q90_37, q90_40, q90_41, q90_42, q90_45, q90_48, q90_49, q90_50, q90_51, q90_52, q90_53, q90_56, q90_57, q90_58, q90_61, q90_62i, q90_62a, q90_63, q90_66, q90_67, q90_68, q90_71, q90_74i, q90_74a, q90_82, q90_83, q90_86, q90_89, q90_90, q90_93, q90_94, q90_97, q90_98, q90_101, q90_102, q90_103, q90_106, q90_107, q90_108, q90_111, q90_112, q90_115, q90_118, q90_119, q90_120, kl_int, kl_ref, kl_tok, cS_nil, cS_int, cS_ref, cS_long, tl_some, tl_none, List.cons_append, List.nil_append, nI_add, nI_ltb, nI_leb, nI_eqb, nI_cl, zin_nI, h0, h4, hn.2.2.2.2.2.2.2.1, hn.2.2.2.2.2.2.2.2, hbc, zk0_inl, hsub, n0, n1, h9]
end Qv
