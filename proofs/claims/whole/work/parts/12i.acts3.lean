-- the class: strike, pass, rule, order, take back, feed
theorem TabRel.c7 {M : ZM} {j k : Nat} {f : Nat → Int32} {v : Int32} (hT : TabRel M j f) (hW : Wf f) (hk : k < 14) : TabRel (up2 M (tb j + 7) k v) j (upf f (78 + k) v) := by
  refine hT.upd hW (fun q hq => upf_ne (by unfold keepsF at hq; omega)) (fun q _ _ _ _ _ => up2_c (by omega)) ?_ ?_ ?_ ?_ ?_ (fun c h1 h2 h3 => up2_ne (by omega)) ?_
  · rw [up2_c (by omega), upf_ne (by omega)]; exact hT.1.2.2.2.2.1
  · rw [up2_c (by omega), upf_ne (by omega)]; exact hT.1.2.2.2.2.2.1
  · rw [up2_c (by omega), upf_ne (by omega)]; exact hT.1.2.2.2.2.2.2.1
  · rw [up2_c (by omega), upf_ne (by omega)]; exact hT.1.2.2.2.2.2.2.2.1
  · rw [up2_c (by omega), upf_ne (by omega)]; exact hT.1.2.2.2.2.2.2.2.2
  · intro q hq
    by_cases e : q = k
    · subst e; rw [up2_at, upf_at]
    · rw [up2_s e, upf_ne (by omega)]; exact (hT.2.2.1 q hq).2
theorem Wf.s7 {f : Nat → Int32} (hW : Wf f) {p : Nat} (hp : p < ln f) {v : Int32} : Wf (upf f (78 + rw f p) v) := by
  have hw := hW.nums
  have h14 := (hW.2.2.1 p hp).2
  refine hW.upd (s := sn f) (p := pn f) (b := bn f) (l := lf f) (c := bs f) (fun k hk => upf_ne (by unfold keepsF at hk; omega)) ?_ (by omega) ?_ (by omega) ?_ (by omega) ?_ (by omega) ?_ hw.2.2.2.2.2.2.2.2.1 ?_
  · rw [upf_ne (by omega)]; exact hW.1.2.2.1.1
  · rw [upf_ne (by omega)]; exact hW.1.2.2.2.1.1
  · rw [upf_ne (by omega)]; exact hW.1.2.2.2.2.1.1
  · rw [upf_ne (by omega)]; exact hW.1.2.2.2.2.2.1.1
  · rw [upf_ne (by omega)]; exact hW.1.2.2.2.2.2.2.1.1
  · intro k hk hs
    rcases stk_upf hs with rfl | h
    · exact ⟨p, hp, rfl⟩
    · exact hW.2.2.2.2 k hk h
section Ae
variable {d i : Nat} {M : ZM} {R : ZH} {G : GS}
theorem OutC.act {r : Option ZO} {M M' : ZM} {R : ZH} {i e : Nat} {v : Int32} {G' : GS} {q : Option Nat} (h1 : r = some (.inl (some (.int v)), M', sRf R 0 4 q)) (h2 : CS M' (sRf R 0 4 q) i G') (h3 : FrC M M') : OutC r M R 0 e v G' := ⟨M', _, i, by rw [h1, if_pos _root_.rfl], h2, h3, RmR.now⟩
theorem tb_hi {i c : Nat} (hi : i < 10) (hc : 127 ≤ c) : tb i + 8 < c := by have := tb_lt hi; omega
theorem c_strike_t {x : Int32} {p : Nat} (hx : plI (gF G) x = some p) (hm : may (gF G) (rw (gF G) p) = true) (hW : WG G) (hC : CS M R i G) : OutC (cal (d + 4) 71 [.ref 0, .int x] M R) M R 0 0 (nI (lf (gF G) - 1)) (acG G (stF (gF G) (rw (gF G) p))) := by
  have hS := hC.1.1
  have hi := hC.1.2.2.2
  have hj := nx_lt hi
  have hnow := hC.1.2.2.1
  obtain ⟨nN, k0, k1, l1, f0_2, f0_10, f0_0, f0_12, f0_11, f0_14⟩ := benF hS
  obtain ⟨nN, tlt, kt0, kt1, lt1, kt2, lt2, kt3, lt3, kt4, lt4, kt5, lt5, kt6, lt6, kt7, lt7, kt8, lt8, ft0_0, ft1_0, ft1_1, ft0_1, ft0_2, ft0_3, ft0_4, ft0_5⟩ := tabF hS hi
  obtain ⟨nN_j, tlt_j, kt0_j, kt1_j, lt1_j, kt2_j, lt2_j, kt3_j, lt3_j, kt4_j, lt4_j, kt5_j, lt5_j, kt6_j, lt6_j, kt7_j, lt7_j, kt8_j, lt8_j, ft0_0_j, ft1_0_j, ft1_1_j, ft0_1_j, ft0_2_j, ft0_3_j, ft0_4_j, ft0_5_j⟩ := tabF hS hj
  have htj := tb_lt hj
  have hw := hW.1.nums
  obtain ⟨p1, rfl, p3, p4⟩ := plI_some hW.1 hx
  obtain ⟨m1, m2⟩ := may_iff hm
  have h1 := needInRow_t (d := d + 2) hx hW hC
  have h2 := mayStrike_ (d := d) (k := rw (gF G) p) p4 hS hi hW.1 hC.2.2.2.1
  rw [hm] at h2
  obtain ⟨M1, a1, a2, a3, a4⟩ := copyOfNow_ (d := d + 2) hW hC
  have t14 := a3.1.2.2.2.2.2.2.2.2
  generalize hM2 : up2 M1 (tb (nx i) + 7) (rw (gF G) p) (gF G 6 &&& nI 1) = M2
  have hT2 : TabRel M2 (nx i) (upf (gF G) (78 + rw (gF G) p) (gF G 6 &&& nI 1)) := by rw [← hM2]; exact a3.c7 hW.1 p4
  have hW2 := hW.1.s7 p1 (v := gF G 6 &&& nI 1)
  have el : lf (upf (gF G) (78 + rw (gF G) p) (gF G 6 &&& nI 1)) = lf (gF G) := by unfold lf; rw [upf_ne (by omega)]
  obtain ⟨M3, b1, b2, b3⟩ := endTurn_ (d := d + 3) hS hj hW2 (by rw [el]; exact m1) hT2
  have f3 : ∀ c, c < tb (nx i) ∨ tb (nx i) + 8 < c → M3 c = M1 c := fun c h => by rw [b3 c (by omega), ← hM2, up2_ne (by omega)]
  obtain ⟨M4, c1, c2, c3⟩ := keepAct_ (d := d + 2) hW (a2.tab hW.2.2.1 f3) b2
  have hS2 := c2.1.1
  obtain ⟨nN_2, k0_2, k1_2, l1_2, f0_2_2, f0_10_2, f0_0_2, f0_12_2, f0_11_2, f0_14_2⟩ := benF hS2
  obtain ⟨nN_2_j, tlt_2_j, kt0_2_j, kt1_2_j, lt1_2_j, kt2_2_j, lt2_2_j, kt3_2_j, lt3_2_j, kt4_2_j, lt4_2_j, kt5_2_j, lt5_2_j, kt6_2_j, lt6_2_j, kt7_2_j, lt7_2_j, kt8_2_j, lt8_2_j, ft0_0_2_j, ft1_0_2_j, ft1_1_2_j, ft0_1_2_j, ft0_2_2_j, ft0_3_2_j, ft0_4_2_j, ft0_5_2_j⟩ := tabF hS2 hj
  have hnow2 := c2.1.2.2.1
  have t13 : M4 (tb (nx i)) 13 = nI (lf (gF G) - 1) := by
    rw [c2.2.2.2.1.1.2.2.2.2.2.2.2.1]
    have := (paF_n hW2 (by rw [el]; exact m1)).1
    rw [el] at this
    exact this
  have hN : zN (sRf R 0 4 (some (tb (nx i)))) = zN R := rfl
  refine OutC.act (M' := M4) ?_ c2 (fun c h => by rw [c3 c (by omega), f3 c (by omega), a4 c (by omega)])
  rw [e71]
  simp (disch := first | assumption | exact nar_b0 | exact nar_b1 | exact nar_b | exact Or.inl rfl | exact Or.inr rfl | exact zin_t (by omega) (by omega) | exact Nat.le_of_ble_eq_true rfl | (rw [nI_cl (by omega)]; assumption) | omega) only [↓reduceIte, reduceCtorEq, not_true_eq_false, not_false_eq_true, q71_0, q71_1, q71_2, q71_5, q71_6, q71_9, q71_10, q71_13, q71_16, q71_17i, q71_17a, q71_18, q71_21, q71_22, q71_23, q71_26, q71_29i, q71_29a, q71_36, q71_37, q71_40, q71_41, q71_42, q71_45, q71_46, q71_47, q71_50, q71_51, q71_52, q71_53, q71_54, q71_57, q71_58, q71_61, q71_62, q71_65, q71_68, kl_int, kl_ref, kl_tok, cS_nil, cS_int, cS_ref, cS_long, tl_some, tl_none, List.cons_append, List.nil_append, nI_add, nI_ltb, nI_leb, nI_eqb, nI_cl, zin_nI, h1, zk0_inl, h2, b2i_0, a1, t14, hM2, b1, c1, t13]
theorem c_strike_f1 {x v : Int32} (hx : plI (gF G) x = none) (hW : WG G) (hC : CS M R i G) : OutC (cal (d + 4) 71 [.ref 0, .int x] M R) M R 1 0 v (rfN G) := by
  have hS := hC.1.1
  obtain ⟨nN, k0, k1, l1, f0_2, f0_10, f0_0, f0_12, f0_11, f0_14⟩ := benF hS
  have h1 := needInRow_f (d := d + 2) hx hW hC
  refine OutC.rN ?_ (by decide) hC FrC.refl
  rw [e71]
  simp (disch := first | assumption | exact nar_b0 | exact nar_b1 | exact nar_b | exact Or.inl rfl | exact Or.inr rfl | exact zin_t (by omega) (by omega) | exact Nat.le_of_ble_eq_true rfl | (rw [nI_cl (by omega)]; assumption) | omega) only [↓reduceIte, reduceCtorEq, not_true_eq_false, not_false_eq_true, q71_0, q71_1, q71_2, q71_5, q71_6, q71_9, q71_10, q71_13, q71_16, q71_17i, q71_17a, q71_18, q71_21, q71_22, q71_23, q71_26, q71_29i, q71_29a, q71_36, q71_37, q71_40, q71_41, q71_42, q71_45, q71_46, q71_47, q71_50, q71_51, q71_52, q71_53, q71_54, q71_57, q71_58, q71_61, q71_62, q71_65, q71_68, kl_int, kl_ref, kl_tok, cS_nil, cS_int, cS_ref, cS_long, tl_some, tl_none, List.cons_append, List.nil_append, nI_add, nI_ltb, nI_leb, nI_eqb, nI_cl, zin_nI, h1, zk0_inr]
theorem c_strike_f2 {x v : Int32} {p : Nat} (hx : plI (gF G) x = some p) (hm : may (gF G) (rw (gF G) p) = false) (hW : WG G) (hC : CS M R i G) : OutC (cal (d + 4) 71 [.ref 0, .int x] M R) M R 2 2 v (rfS G) := by
  have hS := hC.1.1
  have hi := hC.1.2.2.2
  have hnow := hC.1.2.2.1
  obtain ⟨nN, k0, k1, l1, f0_2, f0_10, f0_0, f0_12, f0_11, f0_14⟩ := benF hS
  obtain ⟨nN, tlt, kt0, kt1, lt1, kt2, lt2, kt3, lt3, kt4, lt4, kt5, lt5, kt6, lt6, kt7, lt7, kt8, lt8, ft0_0, ft1_0, ft1_1, ft0_1, ft0_2, ft0_3, ft0_4, ft0_5⟩ := tabF hS hi
  obtain ⟨p1, rfl, p3, p4⟩ := plI_some hW.1 hx
  have h1 := needInRow_t (d := d + 2) hx hW hC
  have h2 := mayStrike_ (d := d) (k := rw (gF G) p) p4 hS hi hW.1 hC.2.2.2.1
  rw [hm] at h2
  have h9 := hC.2.1.2.2.2.2.2.2
  refine OutC.rS ?_ (by decide) hC FrC.refl
  rw [e71]
  simp (disch := first | assumption | exact nar_b0 | exact nar_b1 | exact nar_b | exact Or.inl rfl | exact Or.inr rfl | exact zin_t (by omega) (by omega) | exact Nat.le_of_ble_eq_true rfl | (rw [nI_cl (by omega)]; assumption) | omega) only [↓reduceIte, reduceCtorEq, not_true_eq_false, not_false_eq_true, q71_0, q71_1, q71_2, q71_5, q71_6, q71_9, q71_10, q71_13, q71_16, q71_17i, q71_17a, q71_18, q71_21, q71_22, q71_23, q71_26, q71_29i, q71_29a, q71_36, q71_37, q71_40, q71_41, q71_42, q71_45, q71_46, q71_47, q71_50, q71_51, q71_52, q71_53, q71_54, q71_57, q71_58, q71_61, q71_62, q71_65, q71_68, kl_int, kl_ref, kl_tok, cS_nil, cS_int, cS_ref, cS_long, tl_some, tl_none, List.cons_append, List.nil_append, nI_add, nI_ltb, nI_leb, nI_eqb, nI_cl, zin_nI, h1, zk0_inl, h2, b2i_0, h9]
theorem c_pass_t (h0 : 0 < lf (gF G)) (hW : WG G) (hC : CS M R i G) : OutC (cal (d + 4) 72 [.ref 0] M R) M R 0 0 (nI (lf (gF G) - 1)) (acG G (paF (gF G))) := by
  have hS := hC.1.1
  have hi := hC.1.2.2.2
  have hj := nx_lt hi
  have hnow := hC.1.2.2.1
  obtain ⟨nN, k0, k1, l1, f0_2, f0_10, f0_0, f0_12, f0_11, f0_14⟩ := benF hS
  obtain ⟨nN, tlt, kt0, kt1, lt1, kt2, lt2, kt3, lt3, kt4, lt4, kt5, lt5, kt6, lt6, kt7, lt7, kt8, lt8, ft0_0, ft1_0, ft1_1, ft0_1, ft0_2, ft0_3, ft0_4, ft0_5⟩ := tabF hS hi
  obtain ⟨nN_j, tlt_j, kt0_j, kt1_j, lt1_j, kt2_j, lt2_j, kt3_j, lt3_j, kt4_j, lt4_j, kt5_j, lt5_j, kt6_j, lt6_j, kt7_j, lt7_j, kt8_j, lt8_j, ft0_0_j, ft1_0_j, ft1_1_j, ft0_1_j, ft0_2_j, ft0_3_j, ft0_4_j, ft0_5_j⟩ := tabF hS hj
  have htj := tb_lt hj
  have hw := hW.1.nums
  have n13 := (hC.2.2.2.1.nums hW.1).2.2.2.2.2.2.2.1
  obtain ⟨M1, a1, a2, a3, a4⟩ := copyOfNow_ (d := d + 2) hW hC
  obtain ⟨M3, b1, b2, b3⟩ := endTurn_ (d := d + 3) hS hj hW.1 h0 a3
  have f3 : ∀ c, c < tb (nx i) ∨ tb (nx i) + 8 < c → M3 c = M1 c := fun c h => b3 c (by omega)
  obtain ⟨M4, c1, c2, c3⟩ := keepAct_ (d := d + 2) hW (a2.tab hW.2.2.1 f3) b2
  have hS2 := c2.1.1
  obtain ⟨nN_2, k0_2, k1_2, l1_2, f0_2_2, f0_10_2, f0_0_2, f0_12_2, f0_11_2, f0_14_2⟩ := benF hS2
  obtain ⟨nN_2_j, tlt_2_j, kt0_2_j, kt1_2_j, lt1_2_j, kt2_2_j, lt2_2_j, kt3_2_j, lt3_2_j, kt4_2_j, lt4_2_j, kt5_2_j, lt5_2_j, kt6_2_j, lt6_2_j, kt7_2_j, lt7_2_j, kt8_2_j, lt8_2_j, ft0_0_2_j, ft1_0_2_j, ft1_1_2_j, ft0_1_2_j, ft0_2_2_j, ft0_3_2_j, ft0_4_2_j, ft0_5_2_j⟩ := tabF hS2 hj
  have hnow2 := c2.1.2.2.1
  have t13 : M4 (tb (nx i)) 13 = nI (lf (gF G) - 1) := by
    rw [c2.2.2.2.1.1.2.2.2.2.2.2.2.1]
    exact (paF_n hW.1 h0).1
  have hN : zN (sRf R 0 4 (some (tb (nx i)))) = zN R := rfl
  have z0 : ¬ lf (gF G) = 0 := by omega
  refine OutC.act (M' := M4) ?_ c2 (fun c h => by rw [c3 c (by omega), f3 c (by omega), a4 c (by omega)])
  rw [e72]
  simp (disch := first | assumption | exact nar_b0 | exact nar_b1 | exact nar_b | exact Or.inl rfl | exact Or.inr rfl | exact zin_t (by omega) (by omega) | exact Nat.le_of_ble_eq_true rfl | (rw [nI_cl (by omega)]; assumption) | omega) only [↓reduceIte, reduceCtorEq, not_true_eq_false, not_false_eq_true, q72_0, q72_1, q72_4, q72_7, q72_10, q72_11i, q72_11a, q72_12, q72_15, q72_16, q72_17, q72_20, q72_23i, q72_23a, q72_30, q72_31, q72_34, q72_37, q72_38, q72_41, q72_42, q72_45, q72_48, kl_int, kl_ref, kl_tok, cS_nil, cS_int, cS_ref, cS_long, tl_some, tl_none, List.cons_append, List.nil_append, nI_add, nI_ltb, nI_leb, nI_eqb, nI_cl, zin_nI, n13, z0, zk0_inl, a1, b1, c1, t13]
theorem c_pass_f {v : Int32} (h0 : lf (gF G) = 0) (hW : WG G) (hC : CS M R i G) : OutC (cal (d + 4) 72 [.ref 0] M R) M R 1 2 v (rfS G) := by
  have hS := hC.1.1
  have hi := hC.1.2.2.2
  have hnow := hC.1.2.2.1
  obtain ⟨nN, k0, k1, l1, f0_2, f0_10, f0_0, f0_12, f0_11, f0_14⟩ := benF hS
  obtain ⟨nN, tlt, kt0, kt1, lt1, kt2, lt2, kt3, lt3, kt4, lt4, kt5, lt5, kt6, lt6, kt7, lt7, kt8, lt8, ft0_0, ft1_0, ft1_1, ft0_1, ft0_2, ft0_3, ft0_4, ft0_5⟩ := tabF hS hi
  have n13 := (hC.2.2.2.1.nums hW.1).2.2.2.2.2.2.2.1
  have h9 := hC.2.1.2.2.2.2.2.2
  refine OutC.rS ?_ (by decide) hC FrC.refl
  rw [e72]
  simp (disch := first | assumption | exact nar_b0 | exact nar_b1 | exact nar_b | exact Or.inl rfl | exact Or.inr rfl | exact zin_t (by omega) (by omega) | exact Nat.le_of_ble_eq_true rfl | (rw [nI_cl (by omega)]; assumption) | omega) only [↓reduceIte, reduceCtorEq, not_true_eq_false, not_false_eq_true, q72_0, q72_1, q72_4, q72_7, q72_10, q72_11i, q72_11a, q72_12, q72_15, q72_16, q72_17, q72_20, q72_23i, q72_23a, q72_30, q72_31, q72_34, q72_37, q72_38, q72_41, q72_42, q72_45, q72_48, kl_int, kl_ref, kl_tok, cS_nil, cS_int, cS_ref, cS_long, tl_some, tl_none, List.cons_append, List.nil_append, nI_add, nI_ltb, nI_leb, nI_eqb, nI_cl, zin_nI, n13, h0, h9]
theorem isRule_t {w n : Nat} (h : isRu w n) : cal d 97 [.int (nI w), .int (nI n)] M R = some (.inl (some (.int (nI 1))), M, R) := by
  rw [e97]
  rcases h with ⟨rfl, h1, h2⟩ | ⟨rfl, h1⟩ | ⟨rfl, h1⟩
  · have z1 : ¬ n < 1 := by omega
    have z2 : ¬ 6 < n := by omega
    simp (disch := first | assumption | exact nar_b0 | exact nar_b1 | exact nar_b | exact Or.inl rfl | exact Or.inr rfl | exact zin_t (by omega) (by omega) | exact Nat.le_of_ble_eq_true rfl | (rw [nI_cl (by omega)]; assumption) | omega) only [↓reduceIte, reduceCtorEq, not_true_eq_false, not_false_eq_true, q97_0, q97_1c0, q97_1c1, q97_1c2, q97_1d, q97_28, q97_29, q97_30, q97_33, q97_34, q97_36, q97_39, q97_40, q97_43, q97_44, q97_45, q97_46, q97_49, q97_50, q97_51, q97_54, q97_55, q97_58, q97_59, q97_60, q97_61, q97_64, q97_65, q97_66, q97_69, q97_70, q97_73, q97_74, q97_75, q97_76, kl_int, kl_ref, kl_tok, cS_nil, cS_int, cS_ref, cS_long, tl_some, tl_none, List.cons_append, List.nil_append, nI_add, nI_ltb, nI_leb, nI_eqb, nI_cl, zin_nI, z1, z2]
  · have z1 : ¬ n < 0 := by omega
    have z2 : ¬ 3 < n := by omega
    simp (disch := first | assumption | exact nar_b0 | exact nar_b1 | exact nar_b | exact Or.inl rfl | exact Or.inr rfl | exact zin_t (by omega) (by omega) | exact Nat.le_of_ble_eq_true rfl | (rw [nI_cl (by omega)]; assumption) | omega) only [↓reduceIte, reduceCtorEq, not_true_eq_false, not_false_eq_true, q97_0, q97_1c0, q97_1c1, q97_1c2, q97_1d, q97_28, q97_29, q97_30, q97_33, q97_34, q97_36, q97_39, q97_40, q97_43, q97_44, q97_45, q97_46, q97_49, q97_50, q97_51, q97_54, q97_55, q97_58, q97_59, q97_60, q97_61, q97_64, q97_65, q97_66, q97_69, q97_70, q97_73, q97_74, q97_75, q97_76, kl_int, kl_ref, kl_tok, cS_nil, cS_int, cS_ref, cS_long, tl_some, tl_none, List.cons_append, List.nil_append, nI_add, nI_ltb, nI_leb, nI_eqb, nI_cl, zin_nI, z1, z2]
  · rcases (show n = 0 ∨ n = 1 by omega) with rfl | rfl
    · simp (disch := first | assumption | exact nar_b0 | exact nar_b1 | exact nar_b | exact Or.inl rfl | exact Or.inr rfl | exact zin_t (by omega) (by omega) | exact Nat.le_of_ble_eq_true rfl | (rw [nI_cl (by omega)]; assumption) | omega) only [q97_0, q97_1c0, q97_1c1, q97_1c2, q97_1d, q97_28, q97_29, q97_30, q97_33, q97_34, q97_36, q97_39, q97_40, q97_43, q97_44, q97_45, q97_46, q97_49, q97_50, q97_51, q97_54, q97_55, q97_58, q97_59, q97_60, q97_61, q97_64, q97_65, q97_66, q97_69, q97_70, q97_73, q97_74, q97_75, q97_76, kl_int, kl_ref, kl_tok, cS_nil, cS_int, cS_ref, cS_long, tl_some, tl_none, List.cons_append, List.nil_append, nI_add, nI_ltb, nI_leb, nI_eqb, nI_cl, zin_nI]
      simp
    · simp (disch := first | assumption | exact nar_b0 | exact nar_b1 | exact nar_b | exact Or.inl rfl | exact Or.inr rfl | exact zin_t (by omega) (by omega) | exact Nat.le_of_ble_eq_true rfl | (rw [nI_cl (by omega)]; assumption) | omega) only [q97_0, q97_1c0, q97_1c1, q97_1c2, q97_1d, q97_28, q97_29, q97_30, q97_33, q97_34, q97_36, q97_39, q97_40, q97_43, q97_44, q97_45, q97_46, q97_49, q97_50, q97_51, q97_54, q97_55, q97_58, q97_59, q97_60, q97_61, q97_64, q97_65, q97_66, q97_69, q97_70, q97_73, q97_74, q97_75, q97_76, kl_int, kl_ref, kl_tok, cS_nil, cS_int, cS_ref, cS_long, tl_some, tl_none, List.cons_append, List.nil_append, nI_add, nI_ltb, nI_leb, nI_eqb, nI_cl, zin_nI]
      simp
theorem isRule_f {x y : Int32} (h : ¬ ∃ w n, x = nI w ∧ y = nI n ∧ isRu w n) : cal d 97 [.int x, .int y] M R = some (.inl (some (.int (nI 0))), M, R) := by
  rw [e97]
  by_cases hx : ∃ k, k < 3 ∧ x = nI k
  · obtain ⟨w, hw, rfl⟩ := hx
    rcases (show w = 0 ∨ w = 1 ∨ w = 2 by omega) with rfl | rfl | rfl
    · by_cases c1 : y < nI 1
      · simp (disch := first | assumption | exact nar_b0 | exact nar_b1 | exact nar_b | exact Or.inl rfl | exact Or.inr rfl | exact zin_t (by omega) (by omega) | exact Nat.le_of_ble_eq_true rfl | (rw [nI_cl (by omega)]; assumption) | omega) only [↓reduceIte, reduceCtorEq, not_true_eq_false, not_false_eq_true, q97_0, q97_1c0, q97_1c1, q97_1c2, q97_1d, q97_28, q97_29, q97_30, q97_33, q97_34, q97_36, q97_39, q97_40, q97_43, q97_44, q97_45, q97_46, q97_49, q97_50, q97_51, q97_54, q97_55, q97_58, q97_59, q97_60, q97_61, q97_64, q97_65, q97_66, q97_69, q97_70, q97_73, q97_74, q97_75, q97_76, kl_int, kl_ref, kl_tok, cS_nil, cS_int, cS_ref, cS_long, tl_some, tl_none, List.cons_append, List.nil_append, nI_add, nI_ltb, nI_leb, nI_eqb, nI_cl, zin_nI, c1]
      · obtain ⟨n, hn, rfl⟩ := nneg (x := y) (by
          intro q
          rw [Int32.lt_iff_toInt_lt, nI_toInt (by decide)] at q c1
          omega)
        have z1 : ¬ n < 1 := by rw [nI_ltb hn (by decide)] at c1; exact c1
        have z2 : 6 < n := by
          by_cases q : n ≤ 6
          · exact absurd ⟨0, n, rfl, rfl, Or.inl ⟨rfl, by omega, q⟩⟩ h
          · omega
        simp (disch := first | assumption | exact nar_b0 | exact nar_b1 | exact nar_b | exact Or.inl rfl | exact Or.inr rfl | exact zin_t (by omega) (by omega) | exact Nat.le_of_ble_eq_true rfl | (rw [nI_cl (by omega)]; assumption) | omega) only [↓reduceIte, reduceCtorEq, not_true_eq_false, not_false_eq_true, q97_0, q97_1c0, q97_1c1, q97_1c2, q97_1d, q97_28, q97_29, q97_30, q97_33, q97_34, q97_36, q97_39, q97_40, q97_43, q97_44, q97_45, q97_46, q97_49, q97_50, q97_51, q97_54, q97_55, q97_58, q97_59, q97_60, q97_61, q97_64, q97_65, q97_66, q97_69, q97_70, q97_73, q97_74, q97_75, q97_76, kl_int, kl_ref, kl_tok, cS_nil, cS_int, cS_ref, cS_long, tl_some, tl_none, List.cons_append, List.nil_append, nI_add, nI_ltb, nI_leb, nI_eqb, nI_cl, zin_nI, z1, z2]
    · by_cases c1 : y < nI 0
      · simp (disch := first | assumption | exact nar_b0 | exact nar_b1 | exact nar_b | exact Or.inl rfl | exact Or.inr rfl | exact zin_t (by omega) (by omega) | exact Nat.le_of_ble_eq_true rfl | (rw [nI_cl (by omega)]; assumption) | omega) only [↓reduceIte, reduceCtorEq, not_true_eq_false, not_false_eq_true, q97_0, q97_1c0, q97_1c1, q97_1c2, q97_1d, q97_28, q97_29, q97_30, q97_33, q97_34, q97_36, q97_39, q97_40, q97_43, q97_44, q97_45, q97_46, q97_49, q97_50, q97_51, q97_54, q97_55, q97_58, q97_59, q97_60, q97_61, q97_64, q97_65, q97_66, q97_69, q97_70, q97_73, q97_74, q97_75, q97_76, kl_int, kl_ref, kl_tok, cS_nil, cS_int, cS_ref, cS_long, tl_some, tl_none, List.cons_append, List.nil_append, nI_add, nI_ltb, nI_leb, nI_eqb, nI_cl, zin_nI, c1]
      · obtain ⟨n, hn, rfl⟩ := nneg c1
        have z1 : ¬ n < 0 := by omega
        have z2 : 3 < n := by
          by_cases q : n ≤ 3
          · exact absurd ⟨1, n, rfl, rfl, Or.inr (Or.inl ⟨rfl, q⟩)⟩ h
          · omega
        simp (disch := first | assumption | exact nar_b0 | exact nar_b1 | exact nar_b | exact Or.inl rfl | exact Or.inr rfl | exact zin_t (by omega) (by omega) | exact Nat.le_of_ble_eq_true rfl | (rw [nI_cl (by omega)]; assumption) | omega) only [↓reduceIte, reduceCtorEq, not_true_eq_false, not_false_eq_true, q97_0, q97_1c0, q97_1c1, q97_1c2, q97_1d, q97_28, q97_29, q97_30, q97_33, q97_34, q97_36, q97_39, q97_40, q97_43, q97_44, q97_45, q97_46, q97_49, q97_50, q97_51, q97_54, q97_55, q97_58, q97_59, q97_60, q97_61, q97_64, q97_65, q97_66, q97_69, q97_70, q97_73, q97_74, q97_75, q97_76, kl_int, kl_ref, kl_tok, cS_nil, cS_int, cS_ref, cS_long, tl_some, tl_none, List.cons_append, List.nil_append, nI_add, nI_ltb, nI_leb, nI_eqb, nI_cl, zin_nI, z1, z2]
    · have z1 : ¬ y = nI 0 := by
        rintro rfl
        exact h ⟨2, 0, rfl, rfl, Or.inr (Or.inr ⟨rfl, by decide⟩)⟩
      have z2 : ¬ y = nI 1 := by
        rintro rfl
        exact h ⟨2, 1, rfl, rfl, Or.inr (Or.inr ⟨rfl, by decide⟩)⟩
      simp (disch := first | assumption | exact nar_b0 | exact nar_b1 | exact nar_b | exact Or.inl rfl | exact Or.inr rfl | exact zin_t (by omega) (by omega) | exact Nat.le_of_ble_eq_true rfl | (rw [nI_cl (by omega)]; assumption) | omega) only [↓reduceIte, reduceCtorEq, not_true_eq_false, not_false_eq_true, q97_0, q97_1c0, q97_1c1, q97_1c2, q97_1d, q97_28, q97_29, q97_30, q97_33, q97_34, q97_36, q97_39, q97_40, q97_43, q97_44, q97_45, q97_46, q97_49, q97_50, q97_51, q97_54, q97_55, q97_58, q97_59, q97_60, q97_61, q97_64, q97_65, q97_66, q97_69, q97_70, q97_73, q97_74, q97_75, q97_76, kl_int, kl_ref, kl_tok, cS_nil, cS_int, cS_ref, cS_long, tl_some, tl_none, List.cons_append, List.nil_append, nI_add, nI_ltb, nI_leb, nI_eqb, nI_cl, zin_nI, z1, z2]
  · have hx2 : x.toInt < 0 ∨ 2 < x.toInt := out_r (n := 2) (by decide) hx
    simp (disch := first | assumption | exact nar_b0 | exact nar_b1 | exact nar_b | exact Or.inl rfl | exact Or.inr rfl | exact zin_t (by omega) (by omega) | exact Nat.le_of_ble_eq_true rfl | (rw [nI_cl (by omega)]; assumption) | omega) only [↓reduceIte, reduceCtorEq, not_true_eq_false, not_false_eq_true, q97_0, q97_1c0, q97_1c1, q97_1c2, q97_1d, q97_28, q97_29, q97_30, q97_33, q97_34, q97_36, q97_39, q97_40, q97_43, q97_44, q97_45, q97_46, q97_49, q97_50, q97_51, q97_54, q97_55, q97_58, q97_59, q97_60, q97_61, q97_64, q97_65, q97_66, q97_69, q97_70, q97_73, q97_74, q97_75, q97_76, kl_int, kl_ref, kl_tok, cS_nil, cS_int, cS_ref, cS_long, tl_some, tl_none, List.cons_append, List.nil_append, nI_add, nI_ltb, nI_leb, nI_eqb, nI_cl, zin_nI]
end Ae
