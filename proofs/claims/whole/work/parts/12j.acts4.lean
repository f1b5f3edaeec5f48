-- the class: rule, order, take back, feed
theorem TabRel.cn {M M' : ZM} {j : Nat} {f f' : Nat → Int32} (hT : TabRel M j f) (hW : Wf f) (he : ∀ k, (k < 2 ∨ 7 ≤ k) → f' k = f k) (m0 : ∀ q, q ≠ 10 → q ≠ 11 → q ≠ 12 → q ≠ 13 → q ≠ 14 → M' (tb j) q = M (tb j) q) (m10 : M' (tb j) 10 = f' 2) (m11 : M' (tb j) 11 = f' 3) (m12 : M' (tb j) 12 = f' 4) (m13 : M' (tb j) 13 = f' 5) (m14 : M' (tb j) 14 = f' 6) (mc : ∀ c, c ≠ tb j → M' c = M c) : TabRel M' j f' := by
  refine hT.upd hW (fun k hk => he k (by unfold keepsF at hk; omega)) m0 m10 m11 m12 m13 m14 (fun c h1 h2 h3 => mc c (by omega)) ?_
  intro k hk
  rw [mc _ (by omega), he _ (by omega)]
  exact (hT.2.2.1 k hk).2
section Af
variable {d i : Nat} {M : ZM} {R : ZH} {G : GS}
set_option maxHeartbeats 1000000 in
theorem c_rule_t {w n : Nat} (h : isRu w n) (hW : WG G) (hC : CS M R i G) : OutC (cal (d + 4) 73 [.ref 0, .int (nI w), .int (nI n)] M R) M R 0 0 (gF G (2 + w)) (acG G (ruF (gF G) w n)) := by
  have hS := hC.1.1
  have hi := hC.1.2.2.2
  have hj := nx_lt hi
  have hnow := hC.1.2.2.1
  obtain ⟨nN, k0, k1, l1, f0_2, f0_10, f0_0, f0_12, f0_11, f0_14⟩ := benF hS
  obtain ⟨nN, tlt, kt0, kt1, lt1, kt2, lt2, kt3, lt3, kt4, lt4, kt5, lt5, kt6, lt6, kt7, lt7, kt8, lt8, ft0_0, ft1_0, ft1_1, ft0_1, ft0_2, ft0_3, ft0_4, ft0_5⟩ := tabF hS hi
  obtain ⟨nN_j, tlt_j, kt0_j, kt1_j, lt1_j, kt2_j, lt2_j, kt3_j, lt3_j, kt4_j, lt4_j, kt5_j, lt5_j, kt6_j, lt6_j, kt7_j, lt7_j, kt8_j, lt8_j, ft0_0_j, ft1_0_j, ft1_1_j, ft0_1_j, ft0_2_j, ft0_3_j, ft0_4_j, ft0_5_j⟩ := tabF hS hj
  have htj := tb_lt hj
  have hw := hW.1.nums
  have hru := isRule_t (d := d + 3) (M := M) (R := R) h
  obtain ⟨M1, a1, a2, a3, a4⟩ := copyOfNow_ (d := d + 2) hW hC
  have hT1 := a3
  obtain ⟨⟨t1, t2, t3, t4, t5, t6, t7, t8, t9⟩, -⟩ := a3
  have hN : zN (sRf R 0 4 (some (tb (nx i)))) = zN R := rfl
  have key : ∀ (q : Nat), q = 10 + w → ∃ M4, cal (d + 3) 101 [.ref 0] (up2 M1 (tb (nx i)) q (nI n)) R = some (.inl none, M4, sRf R 0 4 (some (tb (nx i)))) ∧ CS M4 (sRf R 0 4 (some (tb (nx i)))) (nx i) (acG G (ruF (gF G) w n)) ∧ FrC M M4 := by
    intro q hq
    have f3 : ∀ c, c < tb (nx i) ∨ tb (nx i) + 8 < c → up2 M1 (tb (nx i)) q (nI n) c = M1 c := fun c h => up2_ne (by omega)
    have hT3 : TabRel (up2 M1 (tb (nx i)) q (nI n)) (nx i) (ruF (gF G) w n) := by
      refine hT1.cn hW.1 (fun k hk => upf_ne (by unfold isRu at h; omega)) (fun q' b1 b2 b3 b4 b5 => up2_s (by unfold isRu at h; omega)) ?_ ?_ ?_ ?_ ?_ (fun c hc => up2_ne hc)
      · unfold ruF
        by_cases e : w = 0
        · subst e; subst hq; rw [up2_at, upf_at]
        · rw [up2_s (by omega), upf_ne (by omega)]; exact t5
      · unfold ruF
        by_cases e : w = 1
        · subst e; subst hq; rw [up2_at, upf_at]
        · rw [up2_s (by omega), upf_ne (by omega)]; exact t6
      · unfold ruF
        by_cases e : w = 2
        · subst e; subst hq; rw [up2_at, upf_at]
        · rw [up2_s (by omega), upf_ne (by omega)]; exact t7
      · unfold ruF; rw [up2_s (by unfold isRu at h; omega), upf_ne (by unfold isRu at h; omega)]; exact t8
      · unfold ruF; rw [up2_s (by unfold isRu at h; omega), upf_ne (by unfold isRu at h; omega)]; exact t9
    obtain ⟨M4, c1, c2, c3⟩ := keepAct_ (d := d + 2) hW (a2.tab hW.2.2.1 f3) hT3
    exact ⟨M4, c1, c2, fun c h => by rw [c3 c (by omega), f3 c (by omega), a4 c (by omega)]⟩
  obtain ⟨M4, c1, c2, c3⟩ := key (10 + w) rfl
  refine OutC.act (M' := M4) ?_ c2 c3
  rw [e73]
  rcases h with ⟨rfl, h1, h2⟩ | ⟨rfl, h1⟩ | ⟨rfl, h1⟩
  · have z1 : ¬ 1 = 0 := by decide
    simp (disch := first | assumption | exact nar_b0 | exact nar_b1 | exact nar_b | exact Or.inl rfl | exact Or.inr rfl | exact zin_t (by omega) (by omega) | exact Nat.le_of_ble_eq_true rfl | (rw [nI_cl (by omega)]; assumption) | omega) only [↓reduceIte, reduceCtorEq, not_true_eq_false, not_false_eq_true, q73_0, q73_1, q73_2, q73_5, q73_8, q73_9i, q73_9a, q73_10, q73_13, q73_14, q73_15, q73_18, q73_21i, q73_21a, q73_28, q73_29, q73_32, q73_33, q73_34, q73_37, q73_38, q73_41, q73_43, q73_44, q73_45, q73_48, q73_51, q73_52, q73_53, q73_56, q73_57, q73_60, q73_62, q73_63, q73_64, q73_67, q73_70, q73_71, q73_74, q73_77, q73_78, q73_81, q73_82, q73_84, q73_85, q73_86, q73_87, q73_90, q73_91, q73_94, q73_95, q73_98, q73_99, q73_102, q73_104, kl_int, kl_ref, kl_tok, cS_nil, cS_int, cS_ref, cS_long, tl_some, tl_none, List.cons_append, List.nil_append, nI_add, nI_ltb, nI_leb, nI_eqb, nI_cl, zin_nI, hru, zk0_inl, z1, a1, t5, c1]
  · have z1 : ¬ 1 = 0 := by decide
    simp (disch := first | assumption | exact nar_b0 | exact nar_b1 | exact nar_b | exact Or.inl rfl | exact Or.inr rfl | exact zin_t (by omega) (by omega) | exact Nat.le_of_ble_eq_true rfl | (rw [nI_cl (by omega)]; assumption) | omega) only [↓reduceIte, reduceCtorEq, not_true_eq_false, not_false_eq_true, q73_0, q73_1, q73_2, q73_5, q73_8, q73_9i, q73_9a, q73_10, q73_13, q73_14, q73_15, q73_18, q73_21i, q73_21a, q73_28, q73_29, q73_32, q73_33, q73_34, q73_37, q73_38, q73_41, q73_43, q73_44, q73_45, q73_48, q73_51, q73_52, q73_53, q73_56, q73_57, q73_60, q73_62, q73_63, q73_64, q73_67, q73_70, q73_71, q73_74, q73_77, q73_78, q73_81, q73_82, q73_84, q73_85, q73_86, q73_87, q73_90, q73_91, q73_94, q73_95, q73_98, q73_99, q73_102, q73_104, kl_int, kl_ref, kl_tok, cS_nil, cS_int, cS_ref, cS_long, tl_some, tl_none, List.cons_append, List.nil_append, nI_add, nI_ltb, nI_leb, nI_eqb, nI_cl, zin_nI, hru, zk0_inl, z1, a1, t6, c1]
  · have z1 : ¬ 1 = 0 := by decide
    have z2 : ¬ 2 = 0 := by decide
    have z3 : ¬ 2 = 1 := by decide
    have b4 := hW.1.1.2.2.2.2.1
    have e70 : ∀ (k4 : Value), exe (d + 4) 73 70 [.ref 0, .int (nI 2), .int (nI n), .ref (tb (nx i)), k4] [] M1 R = exe (d + 4) 73 84 [.ref 0, .int (nI 2), .int (nI n), .ref (tb (nx i)), .int (gF G 4)] [] M1 R := by
      intro k4
      rcases (show bn (gF G) = 0 ∨ bn (gF G) = 1 by omega) with e | e
      · have e4 : gF G 4 = nI 0 := by rw [b4.1, e]
        simp (disch := first | assumption | exact nar_b0 | exact nar_b1 | exact nar_b | exact Or.inl rfl | exact Or.inr rfl | exact zin_t (by omega) (by omega) | exact Nat.le_of_ble_eq_true rfl | (rw [nI_cl (by omega)]; assumption) | omega) only [↓reduceIte, reduceCtorEq, not_true_eq_false, not_false_eq_true, q73_0, q73_1, q73_2, q73_5, q73_8, q73_9i, q73_9a, q73_10, q73_13, q73_14, q73_15, q73_18, q73_21i, q73_21a, q73_28, q73_29, q73_32, q73_33, q73_34, q73_37, q73_38, q73_41, q73_43, q73_44, q73_45, q73_48, q73_51, q73_52, q73_53, q73_56, q73_57, q73_60, q73_62, q73_63, q73_64, q73_67, q73_70, q73_71, q73_74, q73_77, q73_78, q73_81, q73_82, q73_85, q73_86, q73_87, q73_90, q73_91, q73_94, q73_95, q73_98, q73_99, q73_102, q73_104, kl_int, kl_ref, kl_tok, cS_nil, cS_int, cS_ref, cS_long, tl_some, tl_none, List.cons_append, List.nil_append, nI_add, nI_ltb, nI_leb, nI_eqb, nI_cl, zin_nI, t7, e4]
      · have e4 : gF G 4 = nI 1 := by rw [b4.1, e]
        simp (disch := first | assumption | exact nar_b0 | exact nar_b1 | exact nar_b | exact Or.inl rfl | exact Or.inr rfl | exact zin_t (by omega) (by omega) | exact Nat.le_of_ble_eq_true rfl | (rw [nI_cl (by omega)]; assumption) | omega) only [↓reduceIte, reduceCtorEq, not_true_eq_false, not_false_eq_true, q73_0, q73_1, q73_2, q73_5, q73_8, q73_9i, q73_9a, q73_10, q73_13, q73_14, q73_15, q73_18, q73_21i, q73_21a, q73_28, q73_29, q73_32, q73_33, q73_34, q73_37, q73_38, q73_41, q73_43, q73_44, q73_45, q73_48, q73_51, q73_52, q73_53, q73_56, q73_57, q73_60, q73_62, q73_63, q73_64, q73_67, q73_70, q73_71, q73_74, q73_77, q73_78, q73_81, q73_82, q73_85, q73_86, q73_87, q73_90, q73_91, q73_94, q73_95, q73_98, q73_99, q73_102, q73_104, kl_int, kl_ref, kl_tok, cS_nil, cS_int, cS_ref, cS_long, tl_some, tl_none, List.cons_append, List.nil_append, nI_add, nI_ltb, nI_leb, nI_eqb, nI_cl, zin_nI, t7, e4, z1]
    have e84 : ∀ (k4 : Value), exe (d + 4) 73 84 [.ref 0, .int (nI 2), .int (nI n), .ref (tb (nx i)), k4] [] M1 R = exe (d + 4) 73 98 [.ref 0, .int (nI 2), .int (nI n), .ref (tb (nx i)), k4] [] (up2 M1 (tb (nx i)) 12 (nI n)) R := by
      intro k4
      rcases (show n = 0 ∨ n = 1 by omega) with rfl | rfl
      · have z0 : ¬ 0 = 1 := by decide
        simp (disch := first | assumption | exact nar_b0 | exact nar_b1 | exact nar_b | exact Or.inl rfl | exact Or.inr rfl | exact zin_t (by omega) (by omega) | exact Nat.le_of_ble_eq_true rfl | (rw [nI_cl (by omega)]; assumption) | omega) only [↓reduceIte, reduceCtorEq, not_true_eq_false, not_false_eq_true, q73_0, q73_1, q73_2, q73_5, q73_8, q73_9i, q73_9a, q73_10, q73_13, q73_14, q73_15, q73_18, q73_21i, q73_21a, q73_28, q73_29, q73_32, q73_33, q73_34, q73_37, q73_38, q73_41, q73_43, q73_44, q73_45, q73_48, q73_51, q73_52, q73_53, q73_56, q73_57, q73_60, q73_62, q73_63, q73_64, q73_67, q73_70, q73_71, q73_74, q73_77, q73_78, q73_81, q73_82, q73_84, q73_85, q73_86, q73_87, q73_90, q73_91, q73_94, q73_95, q73_99, q73_102, q73_104, kl_int, kl_ref, kl_tok, cS_nil, cS_int, cS_ref, cS_long, tl_some, tl_none, List.cons_append, List.nil_append, nI_add, nI_ltb, nI_leb, nI_eqb, nI_cl, zin_nI, z0]
      · simp (disch := first | assumption | exact nar_b0 | exact nar_b1 | exact nar_b | exact Or.inl rfl | exact Or.inr rfl | exact zin_t (by omega) (by omega) | exact Nat.le_of_ble_eq_true rfl | (rw [nI_cl (by omega)]; assumption) | omega) only [↓reduceIte, reduceCtorEq, not_true_eq_false, not_false_eq_true, q73_0, q73_1, q73_2, q73_5, q73_8, q73_9i, q73_9a, q73_10, q73_13, q73_14, q73_15, q73_18, q73_21i, q73_21a, q73_28, q73_29, q73_32, q73_33, q73_34, q73_37, q73_38, q73_41, q73_43, q73_44, q73_45, q73_48, q73_51, q73_52, q73_53, q73_56, q73_57, q73_60, q73_62, q73_63, q73_64, q73_67, q73_70, q73_71, q73_74, q73_77, q73_78, q73_81, q73_82, q73_84, q73_85, q73_86, q73_87, q73_90, q73_91, q73_94, q73_95, q73_99, q73_102, q73_104, kl_int, kl_ref, kl_tok, cS_nil, cS_int, cS_ref, cS_long, tl_some, tl_none, List.cons_append, List.nil_append, nI_add, nI_ltb, nI_leb, nI_eqb, nI_cl, zin_nI]
    simp (disch := first | assumption | exact nar_b0 | exact nar_b1 | exact nar_b | exact Or.inl rfl | exact Or.inr rfl | exact zin_t (by omega) (by omega) | exact Nat.le_of_ble_eq_true rfl | (rw [nI_cl (by omega)]; assumption) | omega) only [↓reduceIte, reduceCtorEq, not_true_eq_false, not_false_eq_true, q73_0, q73_1, q73_2, q73_5, q73_8, q73_9i, q73_9a, q73_10, q73_13, q73_14, q73_15, q73_18, q73_21i, q73_21a, q73_28, q73_29, q73_32, q73_33, q73_34, q73_37, q73_38, q73_41, q73_43, q73_44, q73_45, q73_48, q73_51, q73_52, q73_53, q73_56, q73_57, q73_60, q73_62, q73_63, q73_64, q73_67, q73_71, q73_74, q73_77, q73_78, q73_81, q73_82, q73_84, q73_85, q73_86, q73_87, q73_90, q73_91, q73_94, q73_95, q73_98, q73_99, q73_102, q73_104, kl_int, kl_ref, kl_tok, cS_nil, cS_int, cS_ref, cS_long, tl_some, tl_none, List.cons_append, List.nil_append, nI_add, nI_ltb, nI_leb, nI_eqb, nI_cl, zin_nI, hru, zk0_inl, z1, z2, z3, a1]
    rw [e70, e84]
    simp (disch := first | assumption | exact nar_b0 | exact nar_b1 | exact nar_b | exact Or.inl rfl | exact Or.inr rfl | exact zin_t (by omega) (by omega) | exact Nat.le_of_ble_eq_true rfl | (rw [nI_cl (by omega)]; assumption) | omega) only [↓reduceIte, reduceCtorEq, not_true_eq_false, not_false_eq_true, q73_0, q73_1, q73_2, q73_5, q73_8, q73_9i, q73_9a, q73_10, q73_13, q73_14, q73_15, q73_18, q73_21i, q73_21a, q73_28, q73_29, q73_32, q73_33, q73_34, q73_37, q73_38, q73_41, q73_43, q73_44, q73_45, q73_48, q73_51, q73_52, q73_53, q73_56, q73_57, q73_60, q73_62, q73_63, q73_64, q73_67, q73_70, q73_71, q73_74, q73_77, q73_78, q73_81, q73_82, q73_84, q73_85, q73_86, q73_87, q73_90, q73_91, q73_94, q73_95, q73_98, q73_99, q73_102, q73_104, kl_int, kl_ref, kl_tok, cS_nil, cS_int, cS_ref, cS_long, tl_some, tl_none, List.cons_append, List.nil_append, nI_add, nI_ltb, nI_leb, nI_eqb, nI_cl, zin_nI, c1, zk0_inl]
theorem c_rule_f {x y v : Int32} (h : ¬ ∃ w n, x = nI w ∧ y = nI n ∧ isRu w n) (hC : CS M R i G) : OutC (cal (d + 4) 73 [.ref 0, .int x, .int y] M R) M R 1 1 v (rfA G) := by
  have hS := hC.1.1
  obtain ⟨nN, k0, k1, l1, f0_2, f0_10, f0_0, f0_12, f0_11, f0_14⟩ := benF hS
  have hru := isRule_f (d := d + 3) (M := M) (R := R) h
  have h8 := hC.2.1.2.2.2.2.2.1
  refine OutC.rA ?_ (by decide) hC FrC.refl
  rw [e73]
  simp (disch := first | assumption | exact nar_b0 | exact nar_b1 | exact nar_b | exact Or.inl rfl | exact Or.inr rfl | exact zin_t (by omega) (by omega) | exact Nat.le_of_ble_eq_true rfl | (rw [nI_cl (by omega)]; assumption) | omega) only [↓reduceIte, reduceCtorEq, not_true_eq_false, not_false_eq_true, q73_0, q73_1, q73_2, q73_5, q73_8, q73_9i, q73_9a, q73_10, q73_13, q73_14, q73_15, q73_18, q73_21i, q73_21a, q73_28, q73_29, q73_32, q73_33, q73_34, q73_37, q73_38, q73_41, q73_43, q73_44, q73_45, q73_48, q73_51, q73_52, q73_53, q73_56, q73_57, q73_60, q73_62, q73_63, q73_64, q73_67, q73_70, q73_71, q73_74, q73_77, q73_78, q73_81, q73_82, q73_84, q73_85, q73_86, q73_87, q73_90, q73_91, q73_94, q73_95, q73_98, q73_99, q73_102, q73_104, kl_int, kl_ref, kl_tok, cS_nil, cS_int, cS_ref, cS_long, tl_some, tl_none, List.cons_append, List.nil_append, nI_add, nI_ltb, nI_leb, nI_eqb, nI_cl, zin_nI, hru, zk0_inl, h8]
theorem c_order_t {n b : Nat} (h1 : n ≤ 8) (h2 : b < 2 ^ n) (hW : WG G) (hC : CS M R i G) : OutC (cal (d + 4) 74 [.ref 0, .int (nI n), .int (nI b)] M R) M R 0 0 (gF G 5) (acG G (orF (gF G) n b)) := by
  have hS := hC.1.1
  have hi := hC.1.2.2.2
  have hj := nx_lt hi
  have hnow := hC.1.2.2.1
  obtain ⟨nN, k0, k1, l1, f0_2, f0_10, f0_0, f0_12, f0_11, f0_14⟩ := benF hS
  obtain ⟨nN, tlt, kt0, kt1, lt1, kt2, lt2, kt3, lt3, kt4, lt4, kt5, lt5, kt6, lt6, kt7, lt7, kt8, lt8, ft0_0, ft1_0, ft1_1, ft0_1, ft0_2, ft0_3, ft0_4, ft0_5⟩ := tabF hS hi
  obtain ⟨nN_j, tlt_j, kt0_j, kt1_j, lt1_j, kt2_j, lt2_j, kt3_j, lt3_j, kt4_j, lt4_j, kt5_j, lt5_j, kt6_j, lt6_j, kt7_j, lt7_j, kt8_j, lt8_j, ft0_0_j, ft1_0_j, ft1_1_j, ft0_1_j, ft0_2_j, ft0_3_j, ft0_4_j, ft0_5_j⟩ := tabF hS hj
  have htj := tb_lt hj
  have hw := hW.1.nums
  have hp : 2 ^ n ≤ 2 ^ 8 := Nat.pow_le_pow_right (by decide) h1
  obtain ⟨M1, a1, a2, a3, a4⟩ := copyOfNow_ (d := d + 2) hW hC
  have hT1 := a3
  obtain ⟨⟨t1, t2, t3, t4, t5, t6, t7, t8, t9⟩, -⟩ := a3
  have hN : zN (sRf R 0 4 (some (tb (nx i)))) = zN R := rfl
  generalize hM2 : up2 (up2 M1 (tb (nx i)) 13 (nI n)) (tb (nx i)) 14 (nI b) = M2
  have f3 : ∀ c, c < tb (nx i) ∨ tb (nx i) + 8 < c → M2 c = M1 c := fun c h => by rw [← hM2, up2_ne (by omega), up2_ne (by omega)]
  have hk : ∀ k, k ≠ 5 → k ≠ 6 → orF (gF G) n b k = gF G k := fun k h5 h6 => by unfold orF; rw [upf_ne h6, upf_ne h5]
  have hT3 : TabRel M2 (nx i) (orF (gF G) n b) := by
    refine hT1.cn hW.1 (fun k h => hk k (by omega) (by omega)) (fun q' b1 b2 b3 b4 b5 => by rw [← hM2, up2_s b5, up2_s b4]) ?_ ?_ ?_ ?_ ?_ (fun c hc => by rw [← hM2, up2_ne hc, up2_ne hc])
    · rw [← hM2, up2_s (by decide), up2_s (by decide), hk _ (by decide) (by decide)]; exact t5
    · rw [← hM2, up2_s (by decide), up2_s (by decide), hk _ (by decide) (by decide)]; exact t6
    · rw [← hM2, up2_s (by decide), up2_s (by decide), hk _ (by decide) (by decide)]; exact t7
    · rw [← hM2, up2_s (by decide), up2_at]; unfold orF; rw [upf_ne (by decide), upf_at]
    · rw [← hM2, up2_at]; unfold orF; rw [upf_at]
  obtain ⟨M4, c1, c2, c3⟩ := keepAct_ (d := d + 2) hW (a2.tab hW.2.2.1 f3) hT3
  refine OutC.act (M' := M4) ?_ c2 (fun c h => by rw [c3 c (by omega), f3 c (by omega), a4 c (by omega)])
  have z1 : ¬ n < 0 := by omega
  have z2 : ¬ 8 < n := by omega
  have z3 : ¬ b < 0 := by omega
  rw [e74]
  simp (disch := first | assumption | exact nar_b0 | exact nar_b1 | exact nar_b | exact Or.inl rfl | exact Or.inr rfl | exact zin_t (by omega) (by omega) | exact Nat.le_of_ble_eq_true rfl | (rw [nI_cl (by omega)]; assumption) | omega) only [↓reduceIte, reduceCtorEq, not_true_eq_false, not_false_eq_true, q74_0, q74_1, q74_4, q74_5, q74_7, q74_10, q74_11, q74_14, q74_15, q74_16, q74_17, q74_18, q74_21, q74_22i, q74_22a, q74_23, q74_26, q74_27, q74_28, q74_31, q74_34i, q74_34a, q74_41, q74_42, q74_45, q74_46, q74_47, q74_50, q74_52, q74_53, q74_54, q74_57, q74_58, q74_59, q74_62, q74_63, q74_66, q74_68, kl_int, kl_ref, kl_tok, cS_nil, cS_int, cS_ref, cS_long, tl_some, tl_none, List.cons_append, List.nil_append, nI_add, nI_ltb, nI_leb, nI_eqb, nI_cl, zin_nI, z1, z2, z3, nI_shl, Nat.one_mul, h2, zk0_inl, a1, t8, hM2, c1]
def isOr (x y : Int32) : Prop := ∃ n b, x = nI n ∧ y = nI b ∧ n ≤ 8 ∧ b < 2 ^ n
theorem c_order_f {x y v : Int32} (h : ¬ isOr x y) (hC : CS M R i G) : OutC (cal (d + 4) 74 [.ref 0, .int x, .int y] M R) M R 1 1 v (rfA G) := by
  have hS := hC.1.1
  obtain ⟨nN, k0, k1, l1, f0_2, f0_10, f0_0, f0_12, f0_11, f0_14⟩ := benF hS
  have h8 := hC.2.1.2.2.2.2.2.1
  refine OutC.rA ?_ (by decide) hC FrC.refl
  rw [e74]
  by_cases c1 : x < nI 0
  · simp (disch := first | assumption | exact nar_b0 | exact nar_b1 | exact nar_b | exact Or.inl rfl | exact Or.inr rfl | exact zin_t (by omega) (by omega) | exact Nat.le_of_ble_eq_true rfl | (rw [nI_cl (by omega)]; assumption) | omega) only [↓reduceIte, reduceCtorEq, not_true_eq_false, not_false_eq_true, q74_0, q74_1, q74_4, q74_5, q74_7, q74_10, q74_11, q74_14, q74_15, q74_16, q74_17, q74_18, q74_21, q74_22i, q74_22a, q74_23, q74_26, q74_27, q74_28, q74_31, q74_34i, q74_34a, q74_41, q74_42, q74_45, q74_46, q74_47, q74_50, q74_52, q74_53, q74_54, q74_57, q74_58, q74_59, q74_62, q74_63, q74_66, q74_68, kl_int, kl_ref, kl_tok, cS_nil, cS_int, cS_ref, cS_long, tl_some, tl_none, List.cons_append, List.nil_append, nI_add, nI_ltb, nI_leb, nI_eqb, nI_cl, zin_nI, c1, h8]
  · obtain ⟨n, hn, rfl⟩ := nneg c1
    have z1 : ¬ n < 0 := by omega
    by_cases c2 : 8 < n
    · simp (disch := first | assumption | exact nar_b0 | exact nar_b1 | exact nar_b | exact Or.inl rfl | exact Or.inr rfl | exact zin_t (by omega) (by omega) | exact Nat.le_of_ble_eq_true rfl | (rw [nI_cl (by omega)]; assumption) | omega) only [↓reduceIte, reduceCtorEq, not_true_eq_false, not_false_eq_true, q74_0, q74_1, q74_4, q74_5, q74_7, q74_10, q74_11, q74_14, q74_15, q74_16, q74_17, q74_18, q74_21, q74_22i, q74_22a, q74_23, q74_26, q74_27, q74_28, q74_31, q74_34i, q74_34a, q74_41, q74_42, q74_45, q74_46, q74_47, q74_50, q74_52, q74_53, q74_54, q74_57, q74_58, q74_59, q74_62, q74_63, q74_66, q74_68, kl_int, kl_ref, kl_tok, cS_nil, cS_int, cS_ref, cS_long, tl_some, tl_none, List.cons_append, List.nil_append, nI_add, nI_ltb, nI_leb, nI_eqb, nI_cl, zin_nI, z1, c2, h8]
    · by_cases c3 : y < nI 0
      · simp (disch := first | assumption | exact nar_b0 | exact nar_b1 | exact nar_b | exact Or.inl rfl | exact Or.inr rfl | exact zin_t (by omega) (by omega) | exact Nat.le_of_ble_eq_true rfl | (rw [nI_cl (by omega)]; assumption) | omega) only [↓reduceIte, reduceCtorEq, not_true_eq_false, not_false_eq_true, q74_0, q74_1, q74_4, q74_5, q74_7, q74_10, q74_11, q74_14, q74_15, q74_16, q74_17, q74_18, q74_21, q74_22i, q74_22a, q74_23, q74_26, q74_27, q74_28, q74_31, q74_34i, q74_34a, q74_41, q74_42, q74_45, q74_46, q74_47, q74_50, q74_52, q74_53, q74_54, q74_57, q74_58, q74_59, q74_62, q74_63, q74_66, q74_68, kl_int, kl_ref, kl_tok, cS_nil, cS_int, cS_ref, cS_long, tl_some, tl_none, List.cons_append, List.nil_append, nI_add, nI_ltb, nI_leb, nI_eqb, nI_cl, zin_nI, z1, c2, c3, h8]
      · obtain ⟨b, hb, rfl⟩ := nneg c3
        have z3 : ¬ b < 0 := by omega
        have hp : 2 ^ n ≤ 2 ^ 8 := Nat.pow_le_pow_right (by decide) (by omega)
        have z4 : ¬ b < 2 ^ n := fun q => h ⟨n, b, rfl, rfl, by omega, q⟩
        simp (disch := first | assumption | exact nar_b0 | exact nar_b1 | exact nar_b | exact Or.inl rfl | exact Or.inr rfl | exact zin_t (by omega) (by omega) | exact Nat.le_of_ble_eq_true rfl | (rw [nI_cl (by omega)]; assumption) | omega) only [↓reduceIte, reduceCtorEq, not_true_eq_false, not_false_eq_true, q74_0, q74_1, q74_4, q74_5, q74_7, q74_10, q74_11, q74_14, q74_15, q74_16, q74_17, q74_18, q74_21, q74_22i, q74_22a, q74_23, q74_26, q74_27, q74_28, q74_31, q74_34i, q74_34a, q74_41, q74_42, q74_45, q74_46, q74_47, q74_50, q74_52, q74_53, q74_54, q74_57, q74_58, q74_59, q74_62, q74_63, q74_66, q74_68, kl_int, kl_ref, kl_tok, cS_nil, cS_int, cS_ref, cS_long, tl_some, tl_none, List.cons_append, List.nil_append, nI_add, nI_ltb, nI_leb, nI_eqb, nI_cl, zin_nI, z1, c2, z3, nI_shl, Nat.one_mul, z4, h8]
-- taking back
def unF (g f : Nat → Int32) : Nat → Int32 := fun k => if k < 106 then g k else f k
theorem unF_lt {g f : Nat → Int32} {k : Nat} (h : k < 106) : unF g f k = g k := if_pos h
theorem cg_nums {f f' : Nat → Int32} (he : ∀ k, k < 106 → f' k = f k) : jn f' = jn f ∧ tn f' = tn f ∧ sn f' = sn f ∧ pn f' = pn f ∧ bn f' = bn f ∧ lf f' = lf f ∧ bs f' = bs f ∧ ln f' = ln f ∧ (∀ k, k < 14 → rw f' k = rw f k) ∧ (∀ k, k < 14 → stk f' k = stk f k) := by
  refine ⟨?_, ?_, ?_, ?_, ?_, ?_, ?_, ?_, ?_, ?_⟩
  · unfold jn; rw [he _ (by decide)]
  · unfold tn; rw [he _ (by decide)]
  · unfold sn; rw [he _ (by decide)]
  · unfold pn; rw [he _ (by decide)]
  · unfold bn; rw [he _ (by decide)]
  · unfold lf; rw [he _ (by decide)]
  · unfold bs; rw [he _ (by decide)]
  · unfold ln; rw [he _ (by decide)]
  · intro k hk; exact congrArg Int32.toNatClampNeg (he _ (by omega))
  · intro k hk; unfold stk; rw [he _ (by omega)]
theorem Wf.cg {f f' : Nat → Int32} (h : Wf f) (he : ∀ k, k < 106 → f' k = f k) : Wf f' := by
  have hw := h.nums
  obtain ⟨e1, e2, e3, e4, e5, e6, e7, e8, e9, e10⟩ := cg_nums he
  obtain ⟨a, b1, b2, b3, b4⟩ := h
  unfold Wf
  rw [e1, e2, e3, e4, e5, e6, e7, e8, he 0 (by decide), he 1 (by decide), he 2 (by decide), he 3 (by decide), he 4 (by decide), he 5 (by decide), he 6 (by decide), he 7 (by decide)]
  refine ⟨a, ?_, ?_, ?_, ?_⟩
  · intro k hk
    rw [he _ (by omega), he _ (by omega)]
    exact b1 k hk
  · intro i hi
    rw [e9 _ (by omega), he _ (by omega)]
    exact b2 i hi
  · intro i j h1 h2
    rw [e9 _ (by omega), e9 _ (by omega)]
    exact b3 i j h1 h2
  · intro k hk hs
    rw [e10 _ hk] at hs
    obtain ⟨i, h1, h2⟩ := b4 k hk hs
    exact ⟨i, h1, by rw [e9 _ (by omega)]; exact h2⟩
theorem TabRel.cg {M : ZM} {j : Nat} {f f' : Nat → Int32} (h : TabRel M j f) (hW : Wf f) (he : ∀ k, k < 106 → f' k = f k) : TabRel M j f' := by
  have hw := hW.nums
  obtain ⟨e1, e2, e3, e4, e5, e6, e7, e8, e9, e10⟩ := cg_nums he
  have ex : exn f' = exn f := by
    unfold exn
    rw [e1]
    apply ctB_cong
    intro k hk
    rw [he _ (by omega)]
  obtain ⟨a, b1, b2, b3⟩ := h
  unfold TabRel
  rw [e1, e2, e8, ex, he 0 (by decide), he 1 (by decide), he 2 (by decide), he 3 (by decide), he 4 (by decide), he 5 (by decide), he 6 (by decide), he 7 (by decide)]
  refine ⟨a, ?_, ?_, ?_⟩
  · intro k hk
    rw [he _ (by omega), he _ (by omega), he _ (by omega), he _ (by omega)]
    exact b1 k hk
  · intro k hk
    rw [he _ (by omega), he _ (by omega)]
    exact b2 k hk
  · intro k hk
    rw [he _ (by omega)]
    exact b3 k hk
def unG (G : GS) : GS := (unF ((gK G).getLastD (gF G)) (gF G), (gK G).dropLast, gT G, gB G, gL G, gN G, gA G, gS G)
theorem unG_last {G : GS} (h : (gK G).length ≠ 0) : (gK G).getLastD (gF G) = (gK G)[(gK G).length - 1]'(by omega) := by
  rw [List.getLastD_eq_getLast?, List.getLast?_eq_getElem?, List.getElem?_eq_getElem (by omega)]
  rfl
theorem WG.un {G : GS} (h : WG G) (hn : (gK G).length ≠ 0) : WG (unG G) := by
  obtain ⟨h1, h2, h3, h4, h5⟩ := h
  refine ⟨?_, fun g hg => h2 g (List.dropLast_subset _ hg), ?_, h4, h5⟩
  · refine Wf.cg (f := (gK G).getLastD (gF G)) ?_ (fun k hk => unF_lt hk)
    rw [unG_last hn]
    exact h2 _ (List.getElem_mem _)
  · show (gK G).dropLast.length ≤ 8
    rw [List.length_dropLast]
    omega
def pv (i : Nat) : Nat := if i = 0 then 9 else i - 1
theorem pv_lt {i : Nat} (h : i < 10) : pv i < 10 := by unfold pv; split <;> omega
theorem ring_pv {i n : Nat} (h : i < 10) (hn : n ≠ 0) (hn8 : n ≤ 8) : ringI i n (n - 1) = pv i := by unfold pv ringI; split <;> omega
theorem ring_pv2 {i n q : Nat} (h : i < 10) (hn : n ≤ 8) (hq : q < n - 1) : ringI (pv i) (n - 1) q = ringI i n q := by unfold pv ringI; split <;> omega
theorem c_undo_n (h0 : (gK G).length = 0) (hC : CS M R i G) : OutC (cal (d + 4) 75 [.ref 0] M R) M R 0 0 (-1) G := by
  have hS := hC.1.1
  obtain ⟨nN, k0, k1, l1, f0_2, f0_10, f0_0, f0_12, f0_11, f0_14⟩ := benF hS
  have h5 := hC.2.1.2.2.1
  refine OutC.ok (M' := M) ?_ hC FrC.refl
  rw [e75]
  simp (disch := first | assumption | exact nar_b0 | exact nar_b1 | exact nar_b | exact Or.inl rfl | exact Or.inr rfl | exact zin_t (by omega) (by omega) | exact Nat.le_of_ble_eq_true rfl | (rw [nI_cl (by omega)]; assumption) | omega) only [↓reduceIte, reduceCtorEq, not_true_eq_false, not_false_eq_true, q75_0, q75_1, q75_4, q75_7, q75_8, q75_9, q75_10i, q75_10a, q75_11, q75_14, q75_15, q75_16, q75_19, q75_20, q75_21, q75_24, q75_27, q75_29, q75_32, q75_33, q75_36, q75_37, q75_38, q75_41, q75_42, q75_45, kl_int, kl_ref, kl_tok, cS_nil, cS_int, cS_ref, cS_long, tl_some, tl_none, List.cons_append, List.nil_append, nI_add, nI_ltb, nI_leb, nI_eqb, nI_cl, zin_nI, h5, h0]
theorem c_undo_t (h0 : (gK G).length ≠ 0) (hW : WG G) (hC : CS M R i G) : OutC (cal (d + 4) 75 [.ref 0] M R) M R 0 0 (nI ((gK G).length - 1)) (unG G) := by
  have hS := hC.1.1
  have hi := hC.1.2.2.2
  have hj := pv_lt hi
  obtain ⟨nN, k0, k1, l1, f0_2, f0_10, f0_0, f0_12, f0_11, f0_14⟩ := benF hS
  have hS2 : Sh (sRf R 0 4 (some (tb (pv i)))) := hS.now
  obtain ⟨nN_2, k0_2, k1_2, l1_2, f0_2_2, f0_10_2, f0_0_2, f0_12_2, f0_11_2, f0_14_2⟩ := benF hS2
  have hlen := hW.2.2.1
  have h3 := hC.2.1.2.1
  have h5 := hC.2.1.2.2.1
  have hN : zN (sRf R 0 4 (some (tb (pv i)))) = zN R := rfl
  have hm := moveTo_ (d := d + 3) (M := up2 M 0 5 (nI ((gK G).length - 1))) (R := R) (j := pv i) hS hj
  generalize hM1 : up2 (up2 (up2 (up2 M 0 5 (nI ((gK G).length - 1))) 0 3 (nI (pv i))) 0 13 (nI 0)) 0 15 (nI 0) = M1 at hm
  have f1 : ∀ c, c ≠ 0 → M1 c = M c := fun c h => by rw [← hM1, up2_ne h, up2_ne h, up2_ne h, up2_ne h]
  have m5 : M1 0 5 = nI ((gK G).length - 1) := by rw [← hM1, up2_s (by decide), up2_s (by decide), up2_s (by decide), up2_at]
  have gM : ∀ q, q ≠ 3 → q ≠ 13 → q ≠ 15 → q ≠ 5 → M1 0 q = M 0 q := fun q h1 h2 h4 h5 => by rw [← hM1, up2_s h4, up2_s h2, up2_s h1, up2_s h5]
  obtain ⟨⟨a1, a2, a3, a4⟩, ⟨b1, b2, b3, b4, b5, b6, b7⟩, c1, c2, c3, d1⟩ := hC
  have hl := unG_last h0
  have tl := c3 ((gK G).length - 1) (by omega)
  rw [ring_pv hi h0 hlen, ← hl] at tl
  have wl : Wf ((gK G).getLastD (gF G)) := by rw [hl]; exact hW.2.1 _ (List.getElem_mem _)
  refine OutC.act (M' := M1) (i := pv i) (q := some (tb (pv i))) ?_ ⟨⟨hS2, a2.fr (fun c h => f1 c (by omega)), ?_, hj⟩, ⟨?_, ?_, ?_, ?_, ?_, ?_, ?_⟩, ?_, ?_, ?_, ?_⟩ (fun c h => f1 c (by omega))
  · have z0 : ¬ (gK G).length = 0 := h0
    have h1 : 1 ≤ (gK G).length := by omega
    have e0 : cal (d + 4) 75 [.ref 0] M R = exe (d + 4) 75 41 [.ref 0] [] M1 (sRf R 0 4 (some (tb (pv i)))) := by
      unfold pv at hm hN ⊢
      rw [e75]
      by_cases e : i = 0
      · rw [if_pos e] at hm hN ⊢
        simp (disch := first | assumption | exact nar_b0 | exact nar_b1 | exact nar_b | exact Or.inl rfl | exact Or.inr rfl | exact zin_t (by omega) (by omega) | exact Nat.le_of_ble_eq_true rfl | (rw [nI_cl (by omega)]; assumption) | omega) only [↓reduceIte, reduceCtorEq, not_true_eq_false, not_false_eq_true, q75_0, q75_1, q75_4, q75_7, q75_8, q75_9, q75_10i, q75_10a, q75_11, q75_14, q75_15, q75_16, q75_19, q75_20, q75_21, q75_24, q75_27, q75_29, q75_32, q75_33, q75_36, q75_37, q75_38, q75_42, q75_45, kl_int, kl_ref, kl_tok, cS_nil, cS_int, cS_ref, cS_long, tl_some, tl_none, List.cons_append, List.nil_append, nI_add, nI_ltb, nI_leb, nI_eqb, nI_cl, zin_nI, h5, z0, nI_sub1, up2_s, h3, e, hm, zk0_inl, m5]
      · rw [if_neg e] at hm hN ⊢
        simp (disch := first | assumption | exact nar_b0 | exact nar_b1 | exact nar_b | exact Or.inl rfl | exact Or.inr rfl | exact zin_t (by omega) (by omega) | exact Nat.le_of_ble_eq_true rfl | (rw [nI_cl (by omega)]; assumption) | omega) only [↓reduceIte, reduceCtorEq, not_true_eq_false, not_false_eq_true, q75_0, q75_1, q75_4, q75_7, q75_8, q75_9, q75_10i, q75_10a, q75_11, q75_14, q75_15, q75_16, q75_19, q75_20, q75_21, q75_24, q75_27, q75_29, q75_32, q75_33, q75_36, q75_37, q75_38, q75_42, q75_45, kl_int, kl_ref, kl_tok, cS_nil, cS_int, cS_ref, cS_long, tl_some, tl_none, List.cons_append, List.nil_append, nI_add, nI_ltb, nI_leb, nI_eqb, nI_cl, zin_nI, h5, z0, nI_sub1, up2_s, h3, e, hm, zk0_inl, m5]
    rw [e0]
    simp (disch := first | assumption | exact nar_b0 | exact nar_b1 | exact nar_b | exact Or.inl rfl | exact Or.inr rfl | exact zin_t (by omega) (by omega) | exact Nat.le_of_ble_eq_true rfl | (rw [nI_cl (by omega)]; assumption) | omega) only [↓reduceIte, reduceCtorEq, not_true_eq_false, not_false_eq_true, q75_0, q75_1, q75_4, q75_7, q75_8, q75_9, q75_10i, q75_10a, q75_11, q75_14, q75_15, q75_16, q75_19, q75_20, q75_21, q75_24, q75_27, q75_29, q75_32, q75_33, q75_36, q75_37, q75_38, q75_41, q75_42, q75_45, kl_int, kl_ref, kl_tok, cS_nil, cS_int, cS_ref, cS_long, tl_some, tl_none, List.cons_append, List.nil_append, nI_add, nI_ltb, nI_leb, nI_eqb, nI_cl, zin_nI, m5]
  · unfold zRf sRf
    simp
  · rw [gM _ (by decide) (by decide) (by decide) (by decide)]; exact b1
  · rw [← hM1, up2_s (by decide), up2_s (by decide), up2_at]
  · rw [m5]
    show _ = nI (gK G).dropLast.length
    rw [List.length_dropLast]
  · rw [gM _ (by decide) (by decide) (by decide) (by decide)]; exact b4
  · rw [gM _ (by decide) (by decide) (by decide) (by decide)]; exact b5
  · rw [gM _ (by decide) (by decide) (by decide) (by decide)]; exact b6
  · rw [gM _ (by decide) (by decide) (by decide) (by decide)]; exact b7
  · intro k hk; rw [f1 _ (by decide)]; exact c1 k hk
  · exact (tl.cg wl (fun k hk => unF_lt hk)).frame (fun c h1 _ => f1 c (by unfold tb at h1; omega))
  · intro q hq
    have hq2 : q < (gK G).dropLast.length := hq
    rw [List.length_dropLast] at hq2
    have e1 : (gK (unG G)).length = (gK G).length - 1 := List.length_dropLast
    have e2 : (gK (unG G))[q] = (gK G)[q]'(by omega) := List.getElem_dropLast _
    rw [e2, e1, ring_pv2 hi hlen hq2]
    exact (c3 q (by omega)).frame (fun c h1 _ => f1 c (by unfold tb at h1; omega))
  · refine ⟨Or.inl ?_, Or.inl ?_⟩
    · rw [← hM1, up2_s (by decide), up2_at]
    · rw [← hM1, up2_at]
end Af
