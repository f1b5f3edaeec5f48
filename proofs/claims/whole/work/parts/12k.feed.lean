-- feeding the tape
def byt (v : Int32) (s : Nat) : Int32 := zi2b (zshr v (nI s))
def pb (b : Nat → Int32) (t : Nat) (v : Int32) : Nat → Int32 := upf (upf (upf (upf b t (byt v 24)) (t + 1) (byt v 16)) (t + 2) (byt v 8)) (t + 3) (byt v 0)
def fdB (b : Nat → Int32) (t : Nat) (v1 v2 v3 v4 v5 : Int32) : Nat → Int32 := pb (pb (pb (pb (pb b t v1) (t + 4) v2) (t + 8) v3) (t + 12) v4) (t + 16) v5
theorem pb_cg {b b' : Nat → Int32} {t : Nat} {v : Int32} (h : ∀ k, k < t → b k = b' k) : ∀ k, k < t + 4 → pb b t v k = pb b' t v k := by
  intro k hk
  unfold pb upf
  split
  · rfl
  · split
    · rfl
    · split
      · rfl
      · split
        · rfl
        · exact h k (by omega)
theorem fdB_cg {b b' : Nat → Int32} {t : Nat} {v1 v2 v3 v4 v5 : Int32} (h : ∀ k, k < t → b k = b' k) : ∀ k, k < t + 20 → fdB b t v1 v2 v3 v4 v5 k = fdB b' t v1 v2 v3 v4 v5 k :=
  pb_cg (pb_cg (pb_cg (pb_cg (pb_cg h))))
theorem zi2b_i {x : Int32} : zi2b (zi2b x) = zi2b x := by
  unfold zi2b
  rw [Int8.toInt8_toInt32]
theorem zi2b_inv {b : Nat → Int32} {t : Nat} {v : Int32} (h : ∀ k, k < t → zi2b (b k) = b k) : ∀ k, k < t + 4 → zi2b (pb b t v k) = pb b t v k := by
  intro k hk
  unfold pb upf byt
  split
  · exact zi2b_i
  · split
    · exact zi2b_i
    · split
      · exact zi2b_i
      · split
        · exact zi2b_i
        · exact h k (by omega)
theorem fdB_b {b : Nat → Int32} {t : Nat} {v1 v2 v3 v4 v5 : Int32} (h : ∀ k, k < t → zi2b (b k) = b k) : ∀ k, k < t + 20 → zi2b (fdB b t v1 v2 v3 v4 v5 k) = fdB b t v1 v2 v3 v4 v5 k :=
  zi2b_inv (zi2b_inv (zi2b_inv (zi2b_inv (zi2b_inv h))))
def fdG (G : GS) (v1 v2 v3 v4 v5 : Int32) : GS := (gF G, gK G, gT G + 20, fdB (gB G) (gT G) v1 v2 v3 v4 v5, gL G, gN G, gA G, gS G)
theorem WG.fd {G : GS} {v1 v2 v3 v4 v5 : Int32} (h : WG G) (ht : gT G ≤ 480) : WG (fdG G v1 v2 v3 v4 v5) := by
  obtain ⟨h1, h2, h3, h4, h5⟩ := h
  exact ⟨h1, h2, h3, by show gT G + 20 ≤ 500; omega, fdB_b h5⟩
def pnS (M : ZM) (a b q : Nat) (t : Nat) (v : Int32) (s : Nat) : ZM := up2 (up2 M a t (byt v s)) b q (nI (t + 1))
def pnM (M : ZM) (a b q : Nat) (t : Nat) (v : Int32) : ZM := pnS (pnS (pnS (pnS M a b q t v 24) a b q (t + 1) v 16) a b q (t + 2) v 8) a b q (t + 3) v 0
theorem pnS_q {M : ZM} {a b q t s : Nat} {v : Int32} : pnS M a b q t v s b q = nI (t + 1) := up2_at
theorem pnS_o {M : ZM} {a b q t s q' : Nat} {v : Int32} (hab : b ≠ a) (h : q' ≠ q) : pnS M a b q t v s b q' = M b q' := by
  unfold pnS
  rw [up2_s h, up2_c hab]
theorem pnS_a {M : ZM} {a b q t s : Nat} {v : Int32} (hab : a ≠ b) : pnS M a b q t v s a = upf (M a) t (byt v s) := by
  unfold pnS
  rw [up2_ne hab, up2_rwf]
theorem pnS_c {M : ZM} {a b q t s c : Nat} {v : Int32} (h1 : c ≠ a) (h2 : c ≠ b) : pnS M a b q t v s c = M c := by
  unfold pnS
  rw [up2_ne h2, up2_ne h1]
theorem pnM_q {M : ZM} {a b q t : Nat} {v : Int32} : pnM M a b q t v b q = nI (t + 4) := pnS_q
theorem pnM_o {M : ZM} {a b q t q' : Nat} {v : Int32} (hab : b ≠ a) (h : q' ≠ q) : pnM M a b q t v b q' = M b q' := by
  unfold pnM
  rw [pnS_o hab h, pnS_o hab h, pnS_o hab h, pnS_o hab h]
theorem pnM_a {M : ZM} {a b q t : Nat} {v : Int32} (hab : a ≠ b) : pnM M a b q t v a = pb (M a) t v := by
  unfold pnM
  rw [pnS_a hab, pnS_a hab, pnS_a hab, pnS_a hab]
  rfl
theorem pnM_c {M : ZM} {a b q t c : Nat} {v : Int32} (h1 : c ≠ a) (h2 : c ≠ b) : pnM M a b q t v c = M c := by
  unfold pnM
  rw [pnS_c h1 h2, pnS_c h1 h2, pnS_c h1 h2, pnS_c h1 h2]
def fdM (M : ZM) (a b q t : Nat) (v1 v2 v3 v4 v5 : Int32) : ZM := pnM (pnM (pnM (pnM (pnM M a b q t v1) a b q (t + 4) v2) a b q (t + 8) v3) a b q (t + 12) v4) a b q (t + 16) v5
theorem fdM_q {M : ZM} {a b q t : Nat} {v1 v2 v3 v4 v5 : Int32} : fdM M a b q t v1 v2 v3 v4 v5 b q = nI (t + 20) := pnM_q
theorem fdM_o {M : ZM} {a b q t q' : Nat} {v1 v2 v3 v4 v5 : Int32} (hab : b ≠ a) (h : q' ≠ q) : fdM M a b q t v1 v2 v3 v4 v5 b q' = M b q' := by
  unfold fdM
  rw [pnM_o hab h, pnM_o hab h, pnM_o hab h, pnM_o hab h, pnM_o hab h]
theorem fdM_a {M : ZM} {a b q t : Nat} {v1 v2 v3 v4 v5 : Int32} (hab : a ≠ b) : fdM M a b q t v1 v2 v3 v4 v5 a = fdB (M a) t v1 v2 v3 v4 v5 := by
  unfold fdM
  rw [pnM_a hab, pnM_a hab, pnM_a hab, pnM_a hab, pnM_a hab]
  rfl
theorem fdM_c {M : ZM} {a b q t c : Nat} {v1 v2 v3 v4 v5 : Int32} (h1 : c ≠ a) (h2 : c ≠ b) : fdM M a b q t v1 v2 v3 v4 v5 c = M c := by
  unfold fdM
  rw [pnM_c h1 h2, pnM_c h1 h2, pnM_c h1 h2, pnM_c h1 h2, pnM_c h1 h2]
theorem nI_neg8 : (nI 0 - nI 8 < nI 0) := by decide +kernel
section Fe
variable {d i : Nat} {M : ZM} {R : ZH} {G : GS}
theorem putNumber_ {t : Nat} {v : Int32} (hS : Sh R) (h1 : M 0 1 = nI t) (ht : t + 4 ≤ 500) : cal d 98 [.ref 0, .int v] M R = some (.inl none, pnM M 93 0 1 t v, R) := by
  obtain ⟨nN, k0, k1, l1, f0_2, f0_10, f0_0, f0_12, f0_11, f0_14⟩ := benF hS
  obtain ⟨nN, k92, k93, l93, k94, k95, l95, k96, l96, k97, l97, k98, k99, l99, k100, l100, k101, l101, k102, k103, l103, k104, l104, k105, l105, f92_0, f92_1, f94_0, f94_1, f94_2, f92_2, f98_0, f98_1, f98_2, f92_3, f102_0, f102_1, f102_2⟩ := parF hS
  have st : ∀ (M : ZM) (t s : Nat), M 0 1 = nI t → t < 500 → s ≤ 24 → exe d 98 3 [.ref 0, .int v, .int (nI s)] [] M R = exe d 98 3 [.ref 0, .int v, .int (nI s - nI 8)] [] (pnS M 93 0 1 t v s) R := by
    intro M t s h1 ht hs
    have z1 : ¬ s < 0 := by omega
    have z2 : ¬ 500 ≤ t := by omega
    have z3 : up2 M 93 t (zi2b (zshr v (nI s))) 0 1 = nI t := by rw [up2_c (by decide)]; exact h1
    rw [q98_3]
    simp (disch := first | assumption | exact nar_b0 | exact nar_b1 | exact nar_b | exact Or.inl rfl | exact Or.inr rfl | exact zin_t (by omega) (by omega) | exact Nat.le_of_ble_eq_true rfl | (rw [nI_cl (by omega)]; assumption) | omega) only [↓reduceIte, reduceCtorEq, not_true_eq_false, not_false_eq_true, q98_0, q98_2, q98_4, q98_7, q98_8, q98_11, q98_14, q98_17, q98_18, q98_21, q98_22, q98_25, q98_26, q98_27, q98_28, q98_29b, q98_29z, q98_30, q98_31i, q98_31a, q98_32, q98_35, q98_36, q98_37, q98_40, q98_43, q98_46, kl_int, kl_ref, kl_tok, cS_nil, cS_int, cS_ref, cS_long, tl_some, tl_none, List.cons_append, List.nil_append, nI_add, nI_ltb, nI_leb, nI_eqb, nI_cl, zin_nI, z1, h1, z2, zi2b_i, z3]
    rfl
  have en : ∀ M : ZM, exe d 98 3 [.ref 0, .int v, .int (nI 0 - nI 8)] [] M R = some (.inl none, M, R) := by
    intro M
    have z1 := nI_neg8
    rw [q98_3]
    simp (disch := first | assumption | exact nar_b0 | exact nar_b1 | exact nar_b | exact Or.inl rfl | exact Or.inr rfl | exact zin_t (by omega) (by omega) | exact Nat.le_of_ble_eq_true rfl | (rw [nI_cl (by omega)]; assumption) | omega) only [↓reduceIte, reduceCtorEq, not_true_eq_false, not_false_eq_true, q98_0, q98_2, q98_4, q98_7, q98_8, q98_11, q98_14, q98_17, q98_18, q98_21, q98_22, q98_25, q98_26, q98_27, q98_28, q98_29b, q98_29z, q98_30, q98_31i, q98_31a, q98_32, q98_35, q98_36, q98_37, q98_40, q98_43, q98_46, kl_int, kl_ref, kl_tok, cS_nil, cS_int, cS_ref, cS_long, tl_some, tl_none, List.cons_append, List.nil_append, nI_add, nI_ltb, nI_leb, nI_eqb, nI_cl, zin_nI, z1]
  have s1 : nI 24 - nI 8 = nI 16 := by decide +kernel
  have s2 : nI 16 - nI 8 = nI 8 := by decide +kernel
  have s3 : nI 8 - nI 8 = nI 0 := by decide +kernel
  rw [e98]
  simp (disch := first | assumption | exact nar_b0 | exact nar_b1 | exact nar_b | exact Or.inl rfl | exact Or.inr rfl | exact zin_t (by omega) (by omega) | exact Nat.le_of_ble_eq_true rfl | (rw [nI_cl (by omega)]; assumption) | omega) only [↓reduceIte, reduceCtorEq, not_true_eq_false, not_false_eq_true, q98_0, q98_2, q98_4, q98_7, q98_8, q98_11, q98_14, q98_17, q98_18, q98_21, q98_22, q98_25, q98_26, q98_27, q98_28, q98_29b, q98_29z, q98_30, q98_31i, q98_31a, q98_32, q98_35, q98_36, q98_37, q98_40, q98_43, q98_46, kl_int, kl_ref, kl_tok, cS_nil, cS_int, cS_ref, cS_long, tl_some, tl_none, List.cons_append, List.nil_append, nI_add, nI_ltb, nI_leb, nI_eqb, nI_cl, zin_nI]
  rw [st M t 24 h1 (by omega) (by omega), s1, st _ (t + 1) 16 pnS_q (by omega) (by omega), s2, st _ (t + 2) 8 pnS_q (by omega) (by omega), s3, st _ (t + 3) 0 pnS_q (by omega) (by omega), en]
  rfl
theorem c_feed_t {v1 v2 v3 v4 v5 : Int32} (ht : gT G ≤ 480) (hC : CS M R i G) : OutC (cal (d + 4) 68 [.ref 0, .int v1, .int v2, .int v3, .int v4, .int v5] M R) M R 0 0 (nI (gT G + 20)) (fdG G v1 v2 v3 v4 v5) := by
  have hS := hC.1.1
  obtain ⟨nN, k0, k1, l1, f0_2, f0_10, f0_0, f0_12, f0_11, f0_14⟩ := benF hS
  have h1 := hC.2.1.1
  have c1 := putNumber_ (d := d + 3) (v := v1) hS h1 (by omega)
  have c2 := putNumber_ (d := d + 3) (M := pnM M 93 0 1 (gT G) v1) (t := gT G + 4) (v := v2) hS pnM_q (by omega)
  have c3 := putNumber_ (d := d + 3) (M := pnM (pnM M 93 0 1 (gT G) v1) 93 0 1 (gT G + 4) v2) (t := gT G + 8) (v := v3) hS pnM_q (by omega)
  have c4 := putNumber_ (d := d + 3) (M := pnM (pnM (pnM M 93 0 1 (gT G) v1) 93 0 1 (gT G + 4) v2) 93 0 1 (gT G + 8) v3) (t := gT G + 12) (v := v4) hS pnM_q (by omega)
  have c5 := putNumber_ (d := d + 3) (M := pnM (pnM (pnM (pnM M 93 0 1 (gT G) v1) 93 0 1 (gT G + 4) v2) 93 0 1 (gT G + 8) v3) 93 0 1 (gT G + 12) v4) (t := gT G + 16) (v := v5) hS pnM_q (by omega)
  have hq : fdM M 93 0 1 (gT G) v1 v2 v3 v4 v5 0 1 = nI (gT G + 20) := fdM_q
  have ho : ∀ q, q ≠ 1 → fdM M 93 0 1 (gT G) v1 v2 v3 v4 v5 0 q = M 0 q := fun q h => fdM_o (by decide) h
  have hc : ∀ c, c ≠ 93 → c ≠ 0 → fdM M 93 0 1 (gT G) v1 v2 v3 v4 v5 c = M c := fun c h1 h2 => fdM_c h1 h2
  have z1 : gT G ≤ 480 := ht
  obtain ⟨⟨a1, a2, a3, a4⟩, ⟨b1, b2, b3, b4, b5, b6, b7⟩, c1', c2', c3', d1, d2⟩ := hC
  refine OutC.ok (M' := fdM M 93 0 1 (gT G) v1 v2 v3 v4 v5) (i := i) ?_ ⟨⟨a1, a2.fr (fun c h => hc c (by omega) (by omega)), a3, a4⟩, ⟨hq, ?_, ?_, ?_, ?_, ?_, ?_⟩, ?_, ?_, ?_, ?_, ?_⟩ (fun c h => hc c (by omega) (by omega))
  · have hq' : pnM (pnM (pnM (pnM (pnM M 93 0 1 (gT G) v1) 93 0 1 (gT G + 4) v2) 93 0 1 (gT G + 8) v3) 93 0 1 (gT G + 12) v4) 93 0 1 (gT G + 16) v5 0 1 = nI (gT G + 20) := pnM_q
    rw [e68]
    simp (disch := first | assumption | exact nar_b0 | exact nar_b1 | exact nar_b | exact Or.inl rfl | exact Or.inr rfl | exact zin_t (by omega) (by omega) | exact Nat.le_of_ble_eq_true rfl | (rw [nI_cl (by omega)]; assumption) | omega) only [↓reduceIte, reduceCtorEq, not_true_eq_false, not_false_eq_true, q68_0, q68_1, q68_4, q68_7, q68_10, q68_11, q68_12, q68_13, q68_14, q68_17, q68_18, q68_19, q68_22, q68_23, q68_24, q68_27, q68_28, q68_30, q68_33, q68_34, q68_36, q68_39, q68_40, q68_43, kl_int, kl_ref, kl_tok, cS_nil, cS_int, cS_ref, cS_long, tl_some, tl_none, List.cons_append, List.nil_append, nI_add, nI_ltb, nI_leb, nI_eqb, nI_cl, zin_nI, h1, z1, c1, c2, c3, c4, c5, zk0_inl, hq']
    rfl
  · rw [ho _ (by decide)]; exact b2
  · rw [ho _ (by decide)]; exact b3
  · rw [ho _ (by decide)]; exact b4
  · rw [ho _ (by decide)]; exact b5
  · rw [ho _ (by decide)]; exact b6
  · rw [ho _ (by decide)]; exact b7
  · intro k hk
    rw [fdM_a (by decide)]
    exact fdB_cg c1' k hk
  · exact c2'.frame (fun c h1 h2 => hc c (by have := tb_lt a4; omega) (by unfold tb at h1; omega))
  · intro j hj
    exact (c3' j hj).frame (fun c h1 h2 => hc c (by have := tb_lt (ring_lt (i := i) (n := (gK G).length) (j := j)); omega) (by unfold tb at h1; omega))
  · rw [ho _ (by decide)]
    exact d1.imp id (fun ⟨p, q⟩ => ⟨p, q.fr (fun c h1 h2 => hc c (by omega) (by omega))⟩)
  · rw [ho _ (by decide)]
    exact d2.imp id (fun ⟨p, q⟩ => ⟨p, q.fr (hc _ (by decide) (by decide))⟩)
theorem c_feed_f {v1 v2 v3 v4 v5 : Int32} (ht : 480 < gT G) (hW : WG G) (hC : CS M R i G) : OutC (cal (d + 4) 68 [.ref 0, .int v1, .int v2, .int v3, .int v4, .int v5] M R) M R 0 0 (-1) G := by
  have hS := hC.1.1
  obtain ⟨nN, k0, k1, l1, f0_2, f0_10, f0_0, f0_12, f0_11, f0_14⟩ := benF hS
  have h1 := hC.2.1.1
  have h500 := hW.2.2.2.1
  have z1 : ¬ gT G ≤ 480 := by omega
  refine OutC.ok (M' := M) ?_ hC FrC.refl
  rw [e68]
  simp (disch := first | assumption | exact nar_b0 | exact nar_b1 | exact nar_b | exact Or.inl rfl | exact Or.inr rfl | exact zin_t (by omega) (by omega) | exact Nat.le_of_ble_eq_true rfl | (rw [nI_cl (by omega)]; assumption) | omega) only [↓reduceIte, reduceCtorEq, not_true_eq_false, not_false_eq_true, q68_0, q68_1, q68_4, q68_7, q68_10, q68_11, q68_12, q68_13, q68_14, q68_17, q68_18, q68_19, q68_22, q68_23, q68_24, q68_27, q68_28, q68_30, q68_33, q68_34, q68_36, q68_39, q68_40, q68_43, kl_int, kl_ref, kl_tok, cS_nil, cS_int, cS_ref, cS_long, tl_some, tl_none, List.cons_append, List.nil_append, nI_add, nI_ltb, nI_leb, nI_eqb, nI_cl, zin_nI, h1, z1]
end Fe
