-- acts of the class
def nx (i : Nat) : Nat := if i = 9 then 0 else i + 1
theorem nx_lt {i : Nat} (h : i < 10) : nx i < 10 := by unfold nx; split <;> omega
theorem nx_ne {i : Nat} (h : i < 10) : nx i ≠ i := by unfold nx; split <;> omega
theorem nx_ring {i n q : Nat} (h : i < 10) (hn : n ≤ 8) (hq : q < n) : ringI i n q ≠ nx i := by unfold nx ringI; split <;> omega
theorem tb_ne {i j : Nat} (h : i ≠ j) : tb i + 8 < tb j ∨ tb j + 8 < tb i := by unfold tb; omega
theorem ring_1 {i n q : Nat} (h : i < 10) (hn : n < 8) (hq : q < n) : ringI (nx i) (n + 1) q = ringI i n q := by unfold nx ringI; split <;> omega
theorem ring_2 {i n : Nat} (h : i < 10) (hn : n < 8) : ringI (nx i) (n + 1) n = i := by unfold nx ringI; split <;> omega
theorem ring_3 {i q : Nat} (h : i < 10) (hq : q < 7) : ringI (nx i) 8 q = ringI i 8 (q + 1) := by unfold nx ringI; split <;> omega
theorem ring_4 {i : Nat} (h : i < 10) : ringI (nx i) 8 7 = i := by unfold nx ringI; split <;> omega
def kp (K : List (Nat → Int32)) (f : Nat → Int32) : List (Nat → Int32) := (if K.length < 8 then K else K.drop 1) ++ [f]
theorem kp_len {K : List (Nat → Int32)} {f : Nat → Int32} (h : K.length ≤ 8) : (kp K f).length = if K.length < 8 then K.length + 1 else 8 := by
  unfold kp
  rw [List.length_append, List.length_singleton]
  split
  · rfl
  · rw [List.length_drop]; omega
theorem CS.tab {M M' : ZM} {R : ZH} {i : Nat} {G : GS} (h : CS M R i G) (hK : (gK G).length ≤ 8) (hM : ∀ c, c < tb (nx i) ∨ tb (nx i) + 8 < c → M' c = M c) : CS M' R i G := by
  obtain ⟨⟨a1, a2, a3, a4⟩, b, c1, c2, c3, d1, d2⟩ := h
  have hx := tb_lt (nx_lt a4)
  have hx2 : 2 ≤ tb (nx i) := by unfold tb; omega
  have f0 : M' 0 = M 0 := hM _ (by omega)
  refine ⟨⟨a1, a2.fr (fun c hc => hM c (by omega)), a3, a4⟩, ?_, ?_, ?_, ?_, ?_⟩
  · rw [f0]; exact b
  · intro k hk; rw [hM _ (by omega)]; exact c1 k hk
  · exact c2.frame (fun c h1 h2 => hM c (by have := tb_ne (nx_ne a4); omega))
  · intro j hj
    exact (c3 j hj).frame (fun c h1 h2 => hM c (by have := tb_ne (nx_ring a4 hK hj); omega))
  · refine ⟨?_, ?_⟩
    · rw [f0]; exact d1.imp id (fun ⟨p, q⟩ => ⟨p, q.fr (fun c h1 h2 => hM c (by omega))⟩)
    · rw [f0]; exact d2.imp id (fun ⟨p, q⟩ => ⟨p, q.fr (hM _ (by omega))⟩)
theorem cpM_at {M : ZM} {a b n j : Nat} (h : j < n) : cpM M a b 0 0 n b j = M a j := by
  unfold cpM
  rw [if_pos ⟨rfl, by omega, by omega⟩]
  simp
theorem cpM_ne {M : ZM} {a b n c : Nat} (h : c ≠ b) : cpM M a b 0 0 n c = M c := by
  funext j
  unfold cpM
  rw [if_neg (fun q => h q.1)]
section Ac
variable {d i j : Nat} {M : ZM} {R : ZH} {G : GS} {f : Nat → Int32}
set_option maxHeartbeats 4000000 in
theorem copyFrom_ (hS : Sh R) (hi : i < 10) (hj : j < 10) (hij : j ≠ i) (hW : Wf f) (hT : TabRel M i f) : ∃ M', cal d 55 [.ref (tb j), .ref (tb i)] M R = some (.inl none, M', R) ∧ TabRel M' j f ∧ ∀ c, c < tb j ∨ tb j + 8 < c → M' c = M c := by
  obtain ⟨nN, tlt, kt0, kt1, lt1, kt2, lt2, kt3, lt3, kt4, lt4, kt5, lt5, kt6, lt6, kt7, lt7, kt8, lt8, ft0_0, ft1_0, ft1_1, ft0_1, ft0_2, ft0_3, ft0_4, ft0_5⟩ := tabF hS hi
  obtain ⟨nN_j, tlt_j, kt0_j, kt1_j, lt1_j, kt2_j, lt2_j, kt3_j, lt3_j, kt4_j, lt4_j, kt5_j, lt5_j, kt6_j, lt6_j, kt7_j, lt7_j, kt8_j, lt8_j, ft0_0_j, ft1_0_j, ft1_1_j, ft0_1_j, ft0_2_j, ft0_3_j, ft0_4_j, ft0_5_j⟩ := tabF hS hj
  have hne := tb_ne hij
  have z0 : ¬ nI 0 < 0 := by decide +kernel
  have z10 : ¬ nI 10 < 0 := by decide +kernel
  have z14 : ¬ nI 14 < 0 := by decide +kernel
  have y0 : (nI 0).toNatClampNeg = 0 := nI_cl (by decide)
  have y10 : (nI 10).toNatClampNeg = 10 := nI_cl (by decide)
  have y14 : (nI 14).toNatClampNeg = 14 := nI_cl (by decide)
  have hw := hW.nums
  obtain ⟨⟨t1, t2, t3, t4, t5, t6, t7, t8, t9⟩, u1, u2, u3⟩ := hT
  generalize hM1 : cpM M (tb i + 2) (tb j + 2) 0 0 14 = M1
  generalize hM2 : cpM M1 (tb i + 3) (tb j + 3) 0 0 14 = M2
  generalize hM3 : cpM M2 (tb i + 4) (tb j + 4) 0 0 14 = M3
  generalize hM4 : cpM M3 (tb i + 5) (tb j + 5) 0 0 14 = M4
  generalize hM5 : cpM M4 (tb i + 6) (tb j + 6) 0 0 14 = M5
  generalize hM6 : cpM M5 (tb i + 7) (tb j + 7) 0 0 14 = M6
  generalize hM7 : cpM M6 (tb i + 8) (tb j + 8) 0 0 10 = M7
  have f1 : ∀ c, c ≠ tb j + 2 → M1 c = M c := fun c h => by rw [← hM1]; exact cpM_ne h
  have f2 : ∀ c, c ≠ tb j + 3 → M2 c = M1 c := fun c h => by rw [← hM2]; exact cpM_ne h
  have f3 : ∀ c, c ≠ tb j + 4 → M3 c = M2 c := fun c h => by rw [← hM3]; exact cpM_ne h
  have f4 : ∀ c, c ≠ tb j + 5 → M4 c = M3 c := fun c h => by rw [← hM4]; exact cpM_ne h
  have f5 : ∀ c, c ≠ tb j + 6 → M5 c = M4 c := fun c h => by rw [← hM5]; exact cpM_ne h
  have f6 : ∀ c, c ≠ tb j + 7 → M6 c = M5 c := fun c h => by rw [← hM6]; exact cpM_ne h
  have f7 : ∀ c, c ≠ tb j + 8 → M7 c = M6 c := fun c h => by rw [← hM7]; exact cpM_ne h
  have fall : ∀ c, c < tb j + 2 ∨ tb j + 8 < c → M7 c = M c := fun c h => by rw [f7 c (by omega), f6 c (by omega), f5 c (by omega), f4 c (by omega), f3 c (by omega), f2 c (by omega), f1 c (by omega)]
  have ti : M7 (tb i) = M (tb i) := fall _ (by omega)
  have nt : tb i ≠ tb j := by omega
  have nt2 : ∀ (M' : ZM) (k : Nat) (v : Int32) (k' : Nat), up2 M' (tb j) k v (tb i) k' = M' (tb i) k' := fun M' k v k' => up2_c nt
  refine ⟨up2 (up2 (up2 (up2 (up2 (up2 (up2 (up2 (up2 M7 (tb j) 6 (f 0)) (tb j) 7 (f 1)) (tb j) 8 (nI (exn f))) (tb j) 9 (f 7)) (tb j) 10 (f 2)) (tb j) 11 (f 3)) (tb j) 12 (f 4)) (tb j) 13 (f 5)) (tb j) 14 (f 6), ?_, ?_, ?_⟩
  · have b1 : f 4 = nI 0 ∨ f 4 = nI 1 := by
      have := hW.1.2.2.2.2.1
      rcases (show bn f = 0 ∨ bn f = 1 by omega) with e | e
      · left; rw [this.1, e]
      · right; rw [this.1, e]
    rw [e55]
    simp (disch := first | assumption | exact nar_b0 | exact nar_b1 | exact nar_b | exact Or.inl rfl | exact Or.inr rfl | exact zin_t (by omega) (by omega) | exact Nat.le_of_ble_eq_true rfl | (rw [nI_cl (by omega)]; assumption) | omega) only [↓reduceIte, reduceCtorEq, not_true_eq_false, not_false_eq_true, q55_0, q55_1, q55_4, q55_5, q55_6, q55_7, q55_8, q55_11, q55_12, q55_13, q55_14, q55_16, q55_19, q55_20, q55_23, q55_24, q55_25, q55_26, q55_27, q55_30, q55_31, q55_32, q55_33, q55_35, q55_38, q55_39, q55_42, q55_43, q55_44, q55_47, q55_48, q55_50, q55_53, q55_54, q55_57, q55_58, q55_59, q55_62, q55_63, q55_65, q55_68, q55_69, q55_72, q55_73, q55_74, q55_77, q55_78, q55_80, q55_83, q55_84, q55_87, q55_88, q55_89, q55_92, q55_93, q55_95, q55_98, q55_99, q55_102, q55_103, q55_104, q55_107, q55_108, q55_110, q55_113, q55_114, q55_115, q55_118, q55_121, q55_122, q55_123, q55_126, q55_129, q55_130, q55_131, q55_134, q55_137, q55_138, q55_139, q55_142, q55_145, q55_146, q55_147, q55_150, q55_153, q55_154, q55_155, q55_158, q55_161, q55_162, q55_163, q55_166, q55_169, q55_170, q55_171, q55_174, q55_177, q55_178, q55_179, q55_182, q55_185, kl_int, kl_ref, kl_tok, cS_nil, cS_int, cS_ref, cS_long, tl_some, tl_none, List.cons_append, List.nil_append, nI_add, nI_ltb, nI_leb, nI_eqb, nI_cl, zin_nI, hM1, hM2, hM3, hM4, hM5, hM6, hM7, nt2, ti, t1, t2, t3, t4, t5, t6, t7, t8, t9]
  · have g : ∀ (M' : ZM) (k : Nat) (v : Int32) (c : Nat), c ≠ tb j → up2 M' (tb j) k v c = M' c := fun M' k v c h => up2_ne h
    have gc : ∀ c, c ≠ tb j → up2 (up2 (up2 (up2 (up2 (up2 (up2 (up2 (up2 M7 (tb j) 6 (f 0)) (tb j) 7 (f 1)) (tb j) 8 (nI (exn f))) (tb j) 9 (f 7)) (tb j) 10 (f 2)) (tb j) 11 (f 3)) (tb j) 12 (f 4)) (tb j) 13 (f 5)) (tb j) 14 (f 6) c = M7 c := fun c h => by rw [g _ _ _ _ h, g _ _ _ _ h, g _ _ _ _ h, g _ _ _ _ h, g _ _ _ _ h, g _ _ _ _ h, g _ _ _ _ h, g _ _ _ _ h, g _ _ _ _ h]
    refine ⟨?_, ?_, ?_, ?_⟩
    · refine ⟨?_, ?_, ?_, ?_, ?_, ?_, ?_, ?_, ?_⟩ <;> simp [up2]
    · intro k hk
      obtain ⟨v1, v2, v3, v4⟩ := u1 k hk
      refine ⟨?_, ?_, ?_, ?_⟩
      · rw [gc _ (by omega), f7 _ (by omega), f6 _ (by omega), f5 _ (by omega), f4 _ (by omega), f3 _ (by omega), f2 _ (by omega), ← hM1, cpM_at (by omega)]; exact v1
      · rw [gc _ (by omega), f7 _ (by omega), f6 _ (by omega), f5 _ (by omega), f4 _ (by omega), f3 _ (by omega), ← hM2, cpM_at (by omega), f1 _ (by omega)]; exact v2
      · rw [gc _ (by omega), f7 _ (by omega), f6 _ (by omega), f5 _ (by omega), f4 _ (by omega), ← hM3, cpM_at (by omega), f2 _ (by omega), f1 _ (by omega)]; exact v3
      · rw [gc _ (by omega), f7 _ (by omega), f6 _ (by omega), f5 _ (by omega), ← hM4, cpM_at (by omega), f3 _ (by omega), f2 _ (by omega), f1 _ (by omega)]; exact v4
    · intro k hk
      obtain ⟨v1, v2⟩ := u2 k hk
      refine ⟨?_, ?_⟩
      · rw [gc _ (by omega), f7 _ (by omega), f6 _ (by omega), ← hM5, cpM_at (by omega), f4 _ (by omega), f3 _ (by omega), f2 _ (by omega), f1 _ (by omega)]; exact v1
      · rw [gc _ (by omega), f7 _ (by omega), ← hM6, cpM_at (by omega), f5 _ (by omega), f4 _ (by omega), f3 _ (by omega), f2 _ (by omega), f1 _ (by omega)]; exact v2
    · intro k hk
      rw [gc _ (by omega), ← hM7, cpM_at (by omega), f6 _ (by omega), f5 _ (by omega), f4 _ (by omega), f3 _ (by omega), f2 _ (by omega), f1 _ (by omega)]; exact u3 k hk
  · intro c hc
    rw [up2_ne (by omega), up2_ne (by omega), up2_ne (by omega), up2_ne (by omega), up2_ne (by omega), up2_ne (by omega), up2_ne (by omega), up2_ne (by omega), up2_ne (by omega)]
    exact fall c (by omega)
theorem freeTable_ (hC : CS M R i G) : cal d 99 [.ref 0] M R = some (.inl (some (.ref (tb (nx i)))), M, R) := by
  have hS := hC.1.1
  have hi := hC.1.2.2.2
  obtain ⟨nN, k0, k1, l1, f0_2, f0_10, f0_0, f0_12, f0_11, f0_14⟩ := benF hS
  have h3 := hC.2.1.2.1
  have ft := F1t hS (nx_lt hi)
  unfold nx at ft ⊢
  rw [e99]
  by_cases e : i = 9
  · rw [if_pos e] at ft ⊢
    simp (disch := first | assumption | exact nar_b0 | exact nar_b1 | exact nar_b | exact Or.inl rfl | exact Or.inr rfl | exact zin_t (by omega) (by omega) | exact Nat.le_of_ble_eq_true rfl | (rw [nI_cl (by omega)]; assumption) | omega) only [↓reduceIte, reduceCtorEq, not_true_eq_false, not_false_eq_true, q99_0, q99_1, q99_4, q99_5, q99_8, q99_10, q99_13, q99_14, q99_17, q99_18, q99_21, q99_22, q99_23, q99_24, kl_int, kl_ref, kl_tok, cS_nil, cS_int, cS_ref, cS_long, tl_some, tl_none, List.cons_append, List.nil_append, nI_add, nI_ltb, nI_leb, nI_eqb, nI_cl, zin_nI, h3, e]
  · rw [if_neg e] at ft ⊢
    simp (disch := first | assumption | exact nar_b0 | exact nar_b1 | exact nar_b | exact Or.inl rfl | exact Or.inr rfl | exact zin_t (by omega) (by omega) | exact Nat.le_of_ble_eq_true rfl | (rw [nI_cl (by omega)]; assumption) | omega) only [↓reduceIte, reduceCtorEq, not_true_eq_false, not_false_eq_true, q99_0, q99_1, q99_4, q99_5, q99_8, q99_10, q99_13, q99_14, q99_17, q99_18, q99_21, q99_22, q99_23, q99_24, kl_int, kl_ref, kl_tok, cS_nil, cS_int, cS_ref, cS_long, tl_some, tl_none, List.cons_append, List.nil_append, nI_add, nI_ltb, nI_leb, nI_eqb, nI_cl, zin_nI, h3, e]
theorem copyOfNow_ (hW : WG G) (hC : CS M R i G) : ∃ M', cal (d + 1) 100 [.ref 0] M R = some (.inl (some (.ref (tb (nx i)))), M', R) ∧ CS M' R i G ∧ TabRel M' (nx i) (gF G) ∧ ∀ c, c < tb (nx i) ∨ tb (nx i) + 8 < c → M' c = M c := by
  have hS := hC.1.1
  have hi := hC.1.2.2.2
  have hj := nx_lt hi
  have hnow := hC.1.2.2.1
  obtain ⟨nN, k0, k1, l1, f0_2, f0_10, f0_0, f0_12, f0_11, f0_14⟩ := benF hS
  have kt := Kt0 hS hj
  obtain ⟨M', a1, a2, a3⟩ := copyFrom_ (d := d) hS hi hj (nx_ne hi) hW.1 hC.2.2.2.1
  have h1 := freeTable_ (d := d) hC
  refine ⟨M', ?_, hC.tab hW.2.2.1 a3, a2, a3⟩
  rw [e100]
  simp (disch := first | assumption | exact nar_b0 | exact nar_b1 | exact nar_b | exact Or.inl rfl | exact Or.inr rfl | exact zin_t (by omega) (by omega) | exact Nat.le_of_ble_eq_true rfl | (rw [nI_cl (by omega)]; assumption) | omega) only [↓reduceIte, reduceCtorEq, not_true_eq_false, not_false_eq_true, q100_0, q100_1, q100_4, q100_5, q100_6, q100_7, q100_10, q100_13, q100_14, kl_int, kl_ref, kl_tok, cS_nil, cS_int, cS_ref, cS_long, tl_some, tl_none, List.cons_append, List.nil_append, nI_add, nI_ltb, nI_leb, nI_eqb, nI_cl, zin_nI, h1, zk0_inl, a1]
theorem moveTo_ (hS : Sh R) (hj : j < 10) : cal d 102 [.ref 0, .int (nI j)] M R = some (.inl none, up2 (up2 (up2 M 0 3 (nI j)) 0 13 (nI 0)) 0 15 (nI 0), sRf R 0 4 (some (tb j))) := by
  obtain ⟨nN, k0, k1, l1, f0_2, f0_10, f0_0, f0_12, f0_11, f0_14⟩ := benF hS
  have ft := F1t hS hj
  have ht := tb_lt hj
  have hS2 : Sh (sRf R 0 4 (some (tb j))) := hS.now
  obtain ⟨nN_2, k0_2, k1_2, l1_2, f0_2_2, f0_10_2, f0_0_2, f0_12_2, f0_11_2, f0_14_2⟩ := benF hS2
  have ho : okV (zN R) (.ref (tb j)) = true := by
    show (decide (tb j < zN R) || decide (1000000 ≤ tb j)) = true
    rw [decide_eq_true (by omega)]
    rfl
  rw [e102]
  simp (disch := first | assumption | exact nar_b0 | exact nar_b1 | exact nar_b | exact Or.inl rfl | exact Or.inr rfl | exact zin_t (by omega) (by omega) | exact Nat.le_of_ble_eq_true rfl | (rw [nI_cl (by omega)]; assumption) | omega) only [↓reduceIte, reduceCtorEq, not_true_eq_false, not_false_eq_true, q102_0, q102_1, q102_2, q102_5, q102_6, q102_7, q102_10, q102_11, q102_12, q102_15, q102_16, q102_17, q102_20, q102_21, q102_22, q102_25, kl_int, kl_ref, kl_tok, cS_nil, cS_int, cS_ref, cS_long, tl_some, tl_none, List.cons_append, List.nil_append, nI_add, nI_ltb, nI_leb, nI_eqb, nI_cl, zin_nI]
theorem TabRel.up0 {M : ZM} {k : Nat} {v : Int32} (h : TabRel M i f) : TabRel (up2 M 0 k v) i f := h.c0 (by decide)
theorem keepAct_ (hW : WG G) (hC : CS M R i G) (hT : TabRel M (nx i) f) : ∃ M', cal (d + 1) 101 [.ref 0] M R = some (.inl none, M', sRf R 0 4 (some (tb (nx i)))) ∧ CS M' (sRf R 0 4 (some (tb (nx i)))) (nx i) (f, kp (gK G) (gF G), gT G, gB G, gL G, gN G, gA G, gS G) ∧ ∀ c, c ≠ 0 → M' c = M c := by
  have hS := hC.1.1
  have hi := hC.1.2.2.2
  have hj := nx_lt hi
  obtain ⟨nN, k0, k1, l1, f0_2, f0_10, f0_0, f0_12, f0_11, f0_14⟩ := benF hS
  have hS2 : Sh (sRf R 0 4 (some (tb (nx i)))) := hS.now
  obtain ⟨nN_2, k0_2, k1_2, l1_2, f0_2_2, f0_10_2, f0_0_2, f0_12_2, f0_11_2, f0_14_2⟩ := benF hS2
  have h3 := hC.2.1.2.1
  have h5 := hC.2.1.2.2.1
  have hN : zN (sRf R 0 4 (some (tb (nx i)))) = zN R := rfl
  have hm := moveTo_ (d := d) (M := M) (R := R) (j := nx i) hS hj
  generalize hM1 : up2 (up2 (up2 M 0 3 (nI (nx i))) 0 13 (nI 0)) 0 15 (nI 0) = M1 at hm
  have f1 : ∀ c, c ≠ 0 → M1 c = M c := fun c h => by rw [← hM1, up2_ne h, up2_ne h, up2_ne h]
  have m5 : M1 0 5 = nI (gK G).length := by rw [← hM1, up2_s (by decide), up2_s (by decide), up2_s (by decide)]; exact h5
  have e0 : cal (d + 1) 101 [.ref 0] M R = exe (d + 1) 101 23 [.ref 0] [] M1 (sRf R 0 4 (some (tb (nx i)))) := by
    unfold nx at hm hN ⊢
    rw [e101]
    by_cases e : i = 9
    · rw [if_pos e] at hm hN ⊢
      simp (disch := first | assumption | exact nar_b0 | exact nar_b1 | exact nar_b | exact Or.inl rfl | exact Or.inr rfl | exact zin_t (by omega) (by omega) | exact Nat.le_of_ble_eq_true rfl | (rw [nI_cl (by omega)]; assumption) | omega) only [↓reduceIte, reduceCtorEq, not_true_eq_false, not_false_eq_true, q101_0, q101_1, q101_2, q101_5, q101_7, q101_10, q101_11, q101_14, q101_15, q101_18, q101_19, q101_20, q101_24, q101_27, q101_29, q101_32, q101_33i, q101_33a, q101_34, q101_37, q101_38, q101_39, q101_42, kl_int, kl_ref, kl_tok, cS_nil, cS_int, cS_ref, cS_long, tl_some, tl_none, List.cons_append, List.nil_append, nI_add, nI_ltb, nI_leb, nI_eqb, nI_cl, zin_nI, h3, e, hm, zk0_inl]
    · rw [if_neg e] at hm hN ⊢
      simp (disch := first | assumption | exact nar_b0 | exact nar_b1 | exact nar_b | exact Or.inl rfl | exact Or.inr rfl | exact zin_t (by omega) (by omega) | exact Nat.le_of_ble_eq_true rfl | (rw [nI_cl (by omega)]; assumption) | omega) only [↓reduceIte, reduceCtorEq, not_true_eq_false, not_false_eq_true, q101_0, q101_1, q101_2, q101_5, q101_7, q101_10, q101_11, q101_14, q101_15, q101_18, q101_19, q101_20, q101_24, q101_27, q101_29, q101_32, q101_33i, q101_33a, q101_34, q101_37, q101_38, q101_39, q101_42, kl_int, kl_ref, kl_tok, cS_nil, cS_int, cS_ref, cS_long, tl_some, tl_none, List.cons_append, List.nil_append, nI_add, nI_ltb, nI_leb, nI_eqb, nI_cl, zin_nI, h3, e, hm, zk0_inl]
  have hlen := hW.2.2.1
  have hkl := kp_len (K := gK G) (f := gF G) hlen
  obtain ⟨⟨a1, a2, a3, a4⟩, ⟨b1, b2, b3, b4, b5, b6, b7⟩, c1, c2, c3, d1⟩ := hC
  have hget : ∀ (q : Nat) (h : q < (kp (gK G) (gF G)).length), TabRel M (ringI (nx i) (kp (gK G) (gF G)).length q) (kp (gK G) (gF G))[q] := by
    intro q hq
    by_cases h8 : (gK G).length < 8
    · rw [if_pos h8] at hkl
      rw [hkl] at hq ⊢
      have e1 : kp (gK G) (gF G) = gK G ++ [gF G] := by unfold kp; rw [if_pos h8]
      by_cases e2 : q < (gK G).length
      · have e3 : (kp (gK G) (gF G))[q]'(by omega) = (gK G)[q] := by simp only [e1]; exact List.getElem_append_left e2
        rw [e3, ring_1 hi h8 e2]
        exact c3 q e2
      · have e4 : q = (gK G).length := by omega
        subst e4
        have e3 : (kp (gK G) (gF G))[(gK G).length]'(by omega) = gF G := by simp [e1]
        rw [e3, ring_2 hi h8]
        exact c2
    · rw [if_neg h8] at hkl
      rw [hkl] at hq ⊢
      have e8 : (gK G).length = 8 := by omega
      have e1 : kp (gK G) (gF G) = (gK G).drop 1 ++ [gF G] := by unfold kp; rw [if_neg h8]
      by_cases e2 : q < 7
      · have e3 : (kp (gK G) (gF G))[q]'(by omega) = (gK G)[q + 1]'(by omega) := by
          simp only [e1]
          rw [List.getElem_append_left (by rw [List.length_drop]; omega), List.getElem_drop]
          congr 1
          omega
        have := c3 (q + 1) (by omega)
        rw [e3, ring_3 hi e2, ← e8]
        exact this
      · have e4 : q = 7 := by omega
        subst e4
        have e3 : (kp (gK G) (gF G))[7]'(by omega) = gF G := by
          simp only [e1]
          rw [List.getElem_append_right (by rw [List.length_drop]; omega)]
          simp [e8]
        rw [e3, ring_4 hi]
        exact c2
  have fin : ∀ M' : ZM, (∀ c, c ≠ 0 → M' c = M c) → (∀ q, q ≠ 5 → M' 0 q = M1 0 q) → M' 0 5 = nI (kp (gK G) (gF G)).length → CS M' (sRf R 0 4 (some (tb (nx i)))) (nx i) (f, kp (gK G) (gF G), gT G, gB G, gL G, gN G, gA G, gS G) := by
    intro M' g1 g2 g3
    have gM : ∀ q, q ≠ 3 → q ≠ 13 → q ≠ 15 → q ≠ 5 → M' 0 q = M 0 q := fun q h1 h2 h4 h5 => by rw [g2 q h5, ← hM1, up2_s h4, up2_s h2, up2_s h1]
    refine ⟨⟨hS2, a2.fr (fun c h => g1 c (by omega)), ?_, hj⟩, ⟨?_, ?_, g3, ?_, ?_, ?_, ?_⟩, ?_, ?_, ?_, ?_⟩
    · unfold zRf sRf
      simp
    · rw [gM _ (by decide) (by decide) (by decide) (by decide)]; exact b1
    · rw [g2 _ (by decide), ← hM1, up2_s (by decide), up2_s (by decide), up2_at]
    · rw [gM _ (by decide) (by decide) (by decide) (by decide)]; exact b4
    · rw [gM _ (by decide) (by decide) (by decide) (by decide)]; exact b5
    · rw [gM _ (by decide) (by decide) (by decide) (by decide)]; exact b6
    · rw [gM _ (by decide) (by decide) (by decide) (by decide)]; exact b7
    · intro k hk; rw [g1 _ (by decide)]; exact c1 k hk
    · exact hT.frame (fun c h1 _ => g1 c (by unfold tb at h1; omega))
    · intro q hq; exact (hget q hq).frame (fun c h1 _ => g1 c (by unfold tb at h1; omega))
    · refine ⟨Or.inl ?_, Or.inl ?_⟩
      · rw [g2 _ (by decide), ← hM1, up2_s (by decide), up2_at]
      · rw [g2 _ (by decide), ← hM1, up2_at]
  rw [e0]
  by_cases h8 : (gK G).length < 8
  · rw [if_pos h8] at hkl
    have h8' : ¬ 8 ≤ (gK G).length := by omega
    refine ⟨up2 M1 0 5 (nI ((gK G).length + 1)), ?_, fin _ (fun c h => by rw [up2_ne h]; exact f1 c h) (fun q h => up2_s h) (by rw [up2_at, hkl]), fun c h => by rw [up2_ne h]; exact f1 c h⟩
    simp (disch := first | assumption | exact nar_b0 | exact nar_b1 | exact nar_b | exact Or.inl rfl | exact Or.inr rfl | exact zin_t (by omega) (by omega) | exact Nat.le_of_ble_eq_true rfl | (rw [nI_cl (by omega)]; assumption) | omega) only [↓reduceIte, reduceCtorEq, not_true_eq_false, not_false_eq_true, q101_0, q101_1, q101_2, q101_5, q101_7, q101_10, q101_11, q101_14, q101_15, q101_18, q101_19, q101_20, q101_23, q101_24, q101_27, q101_29, q101_32, q101_33i, q101_33a, q101_34, q101_37, q101_38, q101_39, q101_42, kl_int, kl_ref, kl_tok, cS_nil, cS_int, cS_ref, cS_long, tl_some, tl_none, List.cons_append, List.nil_append, nI_add, nI_ltb, nI_leb, nI_eqb, nI_cl, zin_nI, m5, h8']
  · rw [if_neg h8] at hkl
    have h8' : 8 ≤ (gK G).length := by omega
    refine ⟨M1, ?_, fin _ f1 (fun q _ => rfl) (by rw [m5, hkl]; congr 1; omega), f1⟩
    simp (disch := first | assumption | exact nar_b0 | exact nar_b1 | exact nar_b | exact Or.inl rfl | exact Or.inr rfl | exact zin_t (by omega) (by omega) | exact Nat.le_of_ble_eq_true rfl | (rw [nI_cl (by omega)]; assumption) | omega) only [↓reduceIte, reduceCtorEq, not_true_eq_false, not_false_eq_true, q101_0, q101_1, q101_2, q101_5, q101_7, q101_10, q101_11, q101_14, q101_15, q101_18, q101_19, q101_20, q101_23, q101_24, q101_27, q101_29, q101_32, q101_33i, q101_33a, q101_34, q101_37, q101_38, q101_39, q101_42, kl_int, kl_ref, kl_tok, cS_nil, cS_int, cS_ref, cS_long, tl_some, tl_none, List.cons_append, List.nil_append, nI_add, nI_ltb, nI_leb, nI_eqb, nI_cl, zin_nI, m5, h8']
end Ac
