-- the reference: a cause's condition; once
def RDf (M M' : ZM) : Prop := (∀ c, c ≠ 127 → c ≠ 134 → c ≠ 135 → c ≠ 136 → M' c = M c) ∧ (∀ q, q ≠ 10 → q ≠ 11 → q ≠ 12 → q ≠ 13 → q ≠ 15 → q ≠ 20 → M' 127 q = M 127 q)
/-- what a line may change -/
def RLf (M M' : ZM) : Prop := (∀ c, c ≠ 127 → c ≠ 130 → c ≠ 134 → c ≠ 135 → c ≠ 136 → c ≠ 137 → M' c = M c) ∧ (∀ q, q ≠ 10 → q ≠ 11 → q ≠ 12 → q ≠ 13 → q ≠ 15 → q ≠ 16 → q ≠ 20 → q ≠ 21 → q ≠ 23 → M' 127 q = M 127 q)
theorem RCf.df {M M' : ZM} (h : RCf M M') : RDf M M' := ⟨fun c a b _ _ => h.1 c a b, fun q a b c d e f => h.2 q a b c d e f⟩
theorem RDf.lf {M M' : ZM} (h : RDf M M') : RLf M M' := ⟨fun c a _ b d e _ => h.1 c a b d e, fun q a b c d e _ f _ _ => h.2 q a b c d e f⟩
theorem RDf.trans {M M1 M2 : ZM} (h1 : RDf M M1) (h2 : RDf M1 M2) : RDf M M2 := ⟨fun c a b d e => by rw [h2.1 c a b d e, h1.1 c a b d e], fun q a b c d e f => by rw [h2.2 q a b c d e f, h1.2 q a b c d e f]⟩
theorem RLf.trans {M M1 M2 : ZM} (h1 : RLf M M1) (h2 : RLf M1 M2) : RLf M M2 := ⟨fun c a b d e f g => by rw [h2.1 c a b d e f g, h1.1 c a b d e f g], fun q a b c d e f g h i => by rw [h2.2 q a b c d e f g h i, h1.2 q a b c d e f g h i]⟩
theorem RLf.refl {M : ZM} : RLf M M := ⟨fun _ _ _ _ _ _ _ => rfl, fun _ _ _ _ _ _ _ _ _ _ => rfl⟩
theorem RNf.lf {M M' : ZM} (h : RNf M M') : RLf M M' := h.cf.df.lf
theorem FO.lf {M M' : ZM} (h : FO M) (hf : RLf M M') : FO M' := fun j hj => by rw [hf.1 _ (by omega) (by omega) (by omega) (by omega) (by omega) (by omega), hf.1 _ (by omega) (by omega) (by omega) (by omega) (by omega) (by omega)]; exact h j hj
theorem RDf.u135 {M : ZM} {s : Nat} {v : Int32} : RDf M (up2 M 135 s v) := ⟨fun c _ _ a _ => up2_ne a, fun q _ _ _ _ _ _ => up2_c (by decide)⟩
theorem RDf.u136 {M : ZM} {s : Nat} {v : Int32} : RDf M (up2 M 136 s v) := ⟨fun c _ _ _ a => up2_ne a, fun q _ _ _ _ _ _ => up2_c (by decide)⟩
theorem RB.fr {M M' : ZM} {b : Nat → Int32} {n i : Nat} (h : RB M b n i) (h9 : M' 127 9 = M 127 9) (h10 : M' 127 10 = M 127 10) (h133 : M' 133 = M 133) : RB M' b n i := by
  obtain ⟨a1, a2, a3, a4⟩ := h
  exact ⟨by rw [h9]; exact a1, by rw [h10]; exact a2, a3, fun k hk => by rw [h133]; exact a4 k hk⟩
theorem RCx.fr {M M' : ZM} {b : Nat → Int32} {n i : Nat} (h : RCx M b n i) (h9 : M' 127 9 = M 127 9) (h10 : M' 127 10 = M 127 10) (h12 : M' 127 12 = M 127 12) (h133 : M' 133 = M 133) : RCx M' b n i := ⟨h.1.fr h9 h10 h133, h.2.1, by rw [h12]; exact h.2.2⟩
theorem RFx.fr {M M' : ZM} {b : Nat → Int32} {u n k p : Nat} (h : RFx u M b n k p) (h9 : M' 127 9 = M 127 9) (h10 : M' 127 10 = M 127 10) (h12 : M' 127 12 = M 127 12) (h13 : M' 127 13 = M 127 13) (h133 : M' 133 = M 133) : RFx u M' b n k p := by
  obtain ⟨⟨x0, x1, x2⟩, j, hj, hB⟩ := h
  exact ⟨⟨x0, by rw [h12]; exact x1, by rw [h13]; exact x2⟩, j, hj, hB.fr h9 h10 h133⟩
section Rm
variable {d n i : Nat} {M : ZM} {R : ZH} {b : Nat → Int32} {C : List Int}
theorem condition_ {s : Nat} (hs : s < 3) (hS : Sh R) (hF : FO M) (hP : RCx M b n i) (hC : CdM M C) (hl : C.length ≤ i) :
    (∀ st i', pAny (pOne b n 4) b n i = .inr (st, i') → (i ≤ i' ∧ i' ≤ n ∧ (C ++ flat st).length ≤ i') ∧ ∃ M', cal (d + 23) 131 [.ref 127, .int (nI s)] M R = some (.inl none, M', R) ∧ RCx M' b n i' ∧ CdM M' (C ++ flat st) ∧ M' 135 = upf (M 135) s (nI C.length) ∧ M' 136 = upf (M 136) s (nI (C ++ flat st).length) ∧ RDf M M') ∧
    (∀ k p, pAny (pOne b n 4) b n i = .inl (k, p) → ∃ M', cal (d + 23) 131 [.ref 127, .int (nI s)] M R = some (.inl none, M', R) ∧ RFx 510 M' b n k p ∧ RDf M M') := by
  obtain ⟨nN, k127, k128, l128, k129, l129, k130, l130, k131, l131, k132, l132, k133, l133, k134, l134, k135, l135, k136, l136, k137, l137, k138, l138, k139, l139, k140, l140, k141, l141, k142, l142, k143, l143, k144, l144, k145, l145, k146, l146, f127_1, f127_2, f127_3, f127_4, f127_6, f127_7, f127_17, f127_18, f127_19, f127_22, f127_24, f127_25, f127_26, f127_29, f127_30, f127_31, f127_32, f127_33⟩ := modF hS
  have hn := hP.1.2.2.1
  have hA := rdC_126 hS (rdC_127 hS (rdC_129 (b := b) (n := n) hS 4 (by decide)) (by decide)) (by decide)
  have w20 : up2 M 127 15 (nI 0) 127 20 = nI C.length := by rw [up2_s (by decide)]; exact hC.1
  have hP1 : RCx (up2 M 127 15 (nI 0)) b n i := hP.u15
  have hP2 : RCx (up2 (up2 M 127 15 (nI 0)) 135 s (nI C.length)) b n i := hP1.fr (up2_c (by decide)) (up2_c (by decide)) (up2_c (by decide)) (up2_ne (by decide))
  have hC2 : CdM (up2 (up2 M 127 15 (nI 0)) 135 s (nI C.length)) C := hC.fr (by rw [up2_c (by decide), up2_s (by decide)]) (by rw [up2_ne (by decide), up2_ne (by decide)])
  have f2 : RDf M (up2 (up2 M 127 15 (nI 0)) 135 s (nI C.length)) := RCf.u15.df.trans RDf.u135
  have h152 : up2 (up2 M 127 15 (nI 0)) 135 s (nI C.length) 127 15 = nI 0 := by rw [up2_c (by decide)]; exact up2_at
  have k135 : up2 (up2 M 127 15 (nI 0)) 135 s (nI C.length) 135 = upf (M 135) s (nI C.length) := by rw [up2_rwf, up2_ne (by decide)]
  have k136 : up2 (up2 M 127 15 (nI 0)) 135 s (nI C.length) 136 = M 136 := by rw [up2_ne (by decide), up2_ne (by decide)]
  have hx : ∀ M3, cal (d + 22) 126 [.ref 127] (up2 (up2 M 127 15 (nI 0)) 135 s (nI C.length)) R = some (.inl none, M3, R) → cal (d + 23) 131 [.ref 127, .int (nI s)] M R = some (.inl none, up2 M3 136 s (M3 127 20), R) := by
    intro M3 h
    rw [e131]
    simp (disch := first | assumption | exact nar_b0 | exact nar_b1 | exact nar_b | exact Or.inl rfl | exact Or.inr rfl | exact zin_t (by omega) (by omega) | exact Nat.le_of_ble_eq_true rfl | (rw [nI_cl (by omega)]; assumption) | omega) only [↓reduceIte, reduceCtorEq, not_true_eq_false, not_false_eq_true, q131_0, q131_1, q131_2, q131_5, q131_6, q131_9, q131_10, q131_11, q131_14, q131_15, q131_16, q131_19, q131_20, q131_23, q131_24, q131_25, q131_28, q131_29, kl_int, kl_ref, kl_tok, cS_nil, cS_int, cS_ref, cS_long, tl_some, tl_none, List.cons_append, List.nil_append, nI_add, nI_ltb, nI_leb, nI_eqb, nI_cl, zin_nI, w20, h, zk0_inl]
  obtain ⟨r1, r2⟩ := hA (d + 22) _ i C (by omega) (hF.lf f2.lf) hP2 hC2 hl h152
  refine ⟨fun st i' h => ?_, fun k p h => ?_⟩
  · obtain ⟨⟨p1, p2, p3⟩, M3, a1, a2, a3, a4, a5⟩ := r1 st i' h
    have hl2 : (C ++ flat st).length = C.length + (flat st).length := List.length_append
    have g := hx M3 a1
    rw [a3.1] at g
    refine ⟨⟨p1, p2, by omega⟩, _, g, a2.fr (up2_c (by decide)) (up2_c (by decide)) (up2_c (by decide)) (up2_ne (by decide)), a3.fr (up2_c (by decide)) (up2_ne (by decide)), ?_, ?_, (f2.trans a5.df).trans RDf.u136⟩
    · rw [up2_ne (by decide), a5.1 _ (by decide) (by decide), k135]
    · rw [up2_rwf, a5.1 _ (by decide) (by decide), k136]
  · obtain ⟨M3, a1, a2, a3⟩ := r2 k p h
    exact ⟨_, hx M3 a1, a2.fr (up2_c (by decide)) (up2_c (by decide)) (up2_c (by decide)) (up2_c (by decide)) (up2_ne (by decide)), (f2.trans a3.df).trans RDf.u136⟩
theorem condition_no {s k p : Nat} (hs : s < 3) (hS : Sh R) (h : RFx 510 M b n k p) : ∃ M', cal (d + 3) 131 [.ref 127, .int (nI s)] M R = some (.inl none, M', R) ∧ RFx 510 M' b n k p ∧ RDf M M' := by
  obtain ⟨nN, k127, k128, l128, k129, l129, k130, l130, k131, l131, k132, l132, k133, l133, k134, l134, k135, l135, k136, l136, k137, l137, k138, l138, k139, l139, k140, l140, k141, l141, k142, l142, k143, l143, k144, l144, k145, l145, k146, l146, f127_1, f127_2, f127_3, f127_4, f127_6, f127_7, f127_17, f127_18, f127_19, f127_22, f127_24, f127_25, f127_26, f127_29, f127_30, f127_31, f127_32, f127_33⟩ := modF hS
  have w20 : up2 M 127 15 (nI 0) 127 20 = M 127 20 := up2_s (by decide)
  have h1 : RFx 510 (up2 M 127 15 (nI 0)) b n k p := h.u15
  have h2 : RFx 510 (up2 (up2 M 127 15 (nI 0)) 135 s (M 127 20)) b n k p := h1.fr (up2_c (by decide)) (up2_c (by decide)) (up2_c (by decide)) (up2_c (by decide)) (up2_ne (by decide))
  have f2 : RDf M (up2 (up2 M 127 15 (nI 0)) 135 s (M 127 20)) := RCf.u15.df.trans RDf.u135
  have g := either_no (d := d) hS h2.1
  refine ⟨up2 (up2 (up2 M 127 15 (nI 0)) 135 s (M 127 20)) 136 s (up2 (up2 M 127 15 (nI 0)) 135 s (M 127 20) 127 20), ?_, h2.fr (up2_c (by decide)) (up2_c (by decide)) (up2_c (by decide)) (up2_c (by decide)) (up2_ne (by decide)), f2.trans RDf.u136⟩
  rw [e131]
  simp (disch := first | assumption | exact nar_b0 | exact nar_b1 | exact nar_b | exact Or.inl rfl | exact Or.inr rfl | exact zin_t (by omega) (by omega) | exact Nat.le_of_ble_eq_true rfl | (rw [nI_cl (by omega)]; assumption) | omega) only [↓reduceIte, reduceCtorEq, not_true_eq_false, not_false_eq_true, q131_0, q131_1, q131_2, q131_5, q131_6, q131_9, q131_10, q131_11, q131_14, q131_15, q131_16, q131_19, q131_20, q131_23, q131_24, q131_25, q131_28, q131_29, kl_int, kl_ref, kl_tok, cS_nil, cS_int, cS_ref, cS_long, tl_some, tl_none, List.cons_append, List.nil_append, nI_add, nI_ltb, nI_leb, nI_eqb, nI_cl, zin_nI, w20, g, zk0_inl]
/-- a number while a fault stands -/
theorem number_nx {k p u : Nat} {x y z : Int32} (hS : Sh R) (hu : 500 ≤ u ∧ u ≤ 600) (h : RFx u M b n k p) : ∃ M', cal (d + 1) 123 [.ref 127, .int x, .int y, .int z] M R = some (.inl (some (.int (nI 0))), M', R) ∧ RFx u M' b n k p ∧ RNf M M' := by
  obtain ⟨x0, j, hj, hB⟩ := h
  have hn := hB.2.2.1
  have hs : sk b n j ≤ u := by
    by_cases c : j ≤ n
    · have := sk_le (b := b) c; omega
    · rw [sk_out (by omega)]; exact hj
  exact ⟨_, number_no hS x0 hB, RFx.hr x0 hB hj (by omega) hs, RNf.hr⟩
/-- told, and here moved on -/
def onM (M : ZM) (T h : Nat) : ZM := up2 (up2 M 127 16 (nI T)) 127 10 (nI h)
theorem onM_f {T h : Nat} : RLf M (onM M T h) := ⟨fun c a _ _ _ _ _ => by unfold onM; rw [up2_ne a, up2_ne a], fun q a _ _ _ _ e _ _ _ => by unfold onM; rw [up2_s a, up2_s e]⟩
theorem onM_c {T h c : Nat} (a : c ≠ 127) : onM M T h c = M c := by unfold onM; rw [up2_ne a, up2_ne a]
theorem onM_s {T h q : Nat} (h1 : q ≠ 10) (h2 : q ≠ 16) : onM M T h 127 q = M 127 q := by unfold onM; rw [up2_s h1, up2_s h2]
theorem onM_rb {T h : Nat} (hP : RB M b n i) (hh : h ≤ 600) : RB (onM M T h) b n h := by
  obtain ⟨h1, h2, h3, h4⟩ := hP
  refine ⟨by rw [onM_s (by decide) (by decide)]; exact h1, up2_at, ⟨h3.1, hh⟩, fun k hk => ?_⟩
  rw [onM_c (by decide)]
  exact h4 k hk
theorem onM_cx {T h : Nat} (hP : RCx M b n i) (hh : h ≤ n) : RCx (onM M T h) b n h := ⟨onM_rb hP.1 (by have := hP.1.2.2.1; omega), hh, by rw [onM_s (by decide) (by decide)]; exact hP.2.2⟩
theorem isOnce_n {a j bit : Nat} (ha : a = 1000001 + j) (hj : j < 17) (hS : Sh R) (hF : FO M) (hP : RCx M b n i) (hsk : sk b n i = i) (hw : wm b n i j = false) : cal (d + 5) 132 [.ref 127, .ref a, .int (nI bit)] M R = some (.inl (some (.int (nI 0))), M, R) := by
  obtain ⟨nN, k127, k128, l128, k129, l129, k130, l130, k131, l131, k132, l132, k133, l133, k134, l134, k135, l135, k136, l136, k137, l137, k138, l138, k139, l139, k140, l140, k141, l141, k142, l142, k143, l143, k144, l144, k145, l145, k146, l146, f127_1, f127_2, f127_3, f127_4, f127_6, f127_7, f127_17, f127_18, f127_19, f127_22, f127_24, f127_25, f127_26, f127_29, f127_30, f127_31, f127_32, f127_33⟩ := modF hS
  have h12 := hP.2.2
  have hh := isHere_ (d := d) ha hj hS hF hP.1
  rw [hsk, hw, hrm_self hP.1.2.1] at hh
  have hh' : cal (d + 4) 119 [.ref 127, .ref a] M R = some (.inl (some (.int (nI 0))), M, R) := hh
  have z0 : ¬ (0 < 0) := by decide
  rw [e132]
  simp (disch := first | assumption | exact nar_b0 | exact nar_b1 | exact nar_b | exact Or.inl rfl | exact Or.inr rfl | exact zin_t (by omega) (by omega) | exact Nat.le_of_ble_eq_true rfl | (rw [nI_cl (by omega)]; assumption) | omega) only [↓reduceIte, reduceCtorEq, not_true_eq_false, not_false_eq_true, q132_0, q132_1, q132_4, q132_7, q132_8, q132_9, q132_12, q132_15, q132_16, q132_17, q132_18, q132_21, q132_22, q132_25, q132_28, q132_29, q132_30, q132_31, q132_34, q132_37, q132_38i, q132_38a, q132_39, q132_42, q132_43, q132_44, q132_45, q132_46, q132_49, q132_50i, q132_50a, q132_51, q132_54, q132_55, q132_58, q132_59, q132_62, q132_63, kl_int, kl_ref, kl_tok, cS_nil, cS_int, cS_ref, cS_long, tl_some, tl_none, List.cons_append, List.nil_append, nI_add, nI_ltb, nI_leb, nI_eqb, nI_cl, zin_nI, h12, hh', zk0_inl, z0]
theorem isOnce_t {a j bit T : Nat} (ha : a = 1000001 + j) (hj : j < 17) (hb : bit < 8) (hS : Sh R) (hF : FO M) (hP : RCx M b n i) (hsk : sk b n i = i) (hw : wm b n i j = true) (h16 : M 127 16 = nI T) (hT : T < 256) (ht : T.testBit bit = false) : cal (d + 5) 132 [.ref 127, .ref a, .int (nI bit)] M R = some (.inl (some (.int (nI 1))), onM M (T ||| 2 ^ bit) (i + wln j), R) := by
  obtain ⟨nN, k127, k128, l128, k129, l129, k130, l130, k131, l131, k132, l132, k133, l133, k134, l134, k135, l135, k136, l136, k137, l137, k138, l138, k139, l139, k140, l140, k141, l141, k142, l142, k143, l143, k144, l144, k145, l145, k146, l146, f127_1, f127_2, f127_3, f127_4, f127_6, f127_7, f127_17, f127_18, f127_19, f127_22, f127_24, f127_25, f127_26, f127_29, f127_30, f127_31, f127_32, f127_33⟩ := modF hS
  have h12 := hP.2.2
  have h10 := hP.1.2.1
  have hn := hP.1.2.2.1
  have hh := isHere_ (d := d) ha hj hS hF hP.1
  rw [hsk, hw, hrm_self hP.1.2.1] at hh
  have hh' : cal (d + 4) 119 [.ref 127, .ref a] M R = some (.inl (some (.int (nI 1))), M, R) := hh
  have z0 : ¬ (0 < 0) := by decide
  have g1 := has_ (d := d + 4) (M := M) (R := R) (S := T) (k := bit) (by omega) (by omega)
  rw [ht] at g1
  have g1' : cal (d + 4) 108 [.int (nI T), .int (nI bit)] M R = some (.inl (some (.int (nI 0))), M, R) := g1
  have hp : 2 ^ bit < 2 ^ 8 := Nat.pow_lt_pow_right (by decide) hb
  have w10 : up2 M 127 16 (nI (T ||| 2 ^ bit)) 127 10 = nI i := by rw [up2_s (by decide)]; exact h10
  have hF2 : FO (up2 M 127 16 (nI (T ||| 2 ^ bit))) := hF.lf ⟨fun c a _ _ _ _ _ => up2_ne a, fun q _ _ _ _ _ e _ _ _ => up2_s e⟩
  have hlen := length_ (d := d + 3) (j := j) hS hF2 hj
  have hlen2 : zstL.getD j 0 = wln j := rfl
  rw [hlen2, ← ha] at hlen
  have hwb := wln_b j hj
  have ks := KS hS hj
  rw [← ha] at ks
  rw [e132]
  simp (disch := first | assumption | exact nar_b0 | exact nar_b1 | exact nar_b | exact Or.inl rfl | exact Or.inr rfl | exact zin_t (by omega) (by omega) | exact Nat.le_of_ble_eq_true rfl | (rw [nI_cl (by omega)]; assumption) | omega) only [↓reduceIte, reduceCtorEq, not_true_eq_false, not_false_eq_true, q132_0, q132_1, q132_4, q132_7, q132_8, q132_9, q132_12, q132_15, q132_16, q132_17, q132_18, q132_21, q132_22, q132_25, q132_28, q132_29, q132_30, q132_31, q132_34, q132_37, q132_38i, q132_38a, q132_39, q132_42, q132_43, q132_44, q132_45, q132_46, q132_49, q132_50i, q132_50a, q132_51, q132_54, q132_55, q132_58, q132_59, q132_62, q132_63, kl_int, kl_ref, kl_tok, cS_nil, cS_int, cS_ref, cS_long, tl_some, tl_none, List.cons_append, List.nil_append, nI_add, nI_ltb, nI_leb, nI_eqb, nI_cl, zin_nI, h12, hh', zk0_inl, z0, b2i_ne1, h16, g1', nI_shl, nI_or, Nat.one_mul, w10, hlen]
  rfl
theorem isOnce_f {a j bit T : Nat} (ha : a = 1000001 + j) (hj : j < 17) (hb : bit < 8) (hS : Sh R) (hF : FO M) (hP : RCx M b n i) (hsk : sk b n i = i) (hw : wm b n i j = true) (h16 : M 127 16 = nI T) (hT : T < 256) (ht : T.testBit bit = true) : ∃ M', cal (d + 5) 132 [.ref 127, .ref a, .int (nI bit)] M R = some (.inl (some (.int (nI 1))), M', R) ∧ RFx 510 M' b n 1 i ∧ RLf M M' := by
  obtain ⟨nN, k127, k128, l128, k129, l129, k130, l130, k131, l131, k132, l132, k133, l133, k134, l134, k135, l135, k136, l136, k137, l137, k138, l138, k139, l139, k140, l140, k141, l141, k142, l142, k143, l143, k144, l144, k145, l145, k146, l146, f127_1, f127_2, f127_3, f127_4, f127_6, f127_7, f127_17, f127_18, f127_19, f127_22, f127_24, f127_25, f127_26, f127_29, f127_30, f127_31, f127_32, f127_33⟩ := modF hS
  have h12 := hP.2.2
  have h10 := hP.1.2.1
  have hn := hP.1.2.2.1
  have hwl := wm_le hw
  have hh := isHere_ (d := d) ha hj hS hF hP.1
  rw [hsk, hw, hrm_self hP.1.2.1] at hh
  have hh' : cal (d + 4) 119 [.ref 127, .ref a] M R = some (.inl (some (.int (nI 1))), M, R) := hh
  have z0 : ¬ (0 < 0) := by decide
  have g1 := has_ (d := d + 4) (M := M) (R := R) (S := T) (k := bit) (by omega) (by omega)
  rw [ht] at g1
  have g1' : cal (d + 4) 108 [.int (nI T), .int (nI bit)] M R = some (.inl (some (.int (nI 1))), M, R) := g1
  have hw0 := wrong_ (d := d + 4) (R := R) (k := nI 1) (p := nI i) hS h12
  have hX := RFx.wr (k := 1) (p := i) (u := 510) hP.1 (by have := hP.2.1; omega) (by decide)
  have fW : RLf M (up2 (up2 M 127 12 (nI 1)) 127 13 (nI i)) := RNf.wr.lf
  have k16 : up2 (up2 M 127 12 (nI 1)) 127 13 (nI i) 127 16 = nI T := by rw [up2_s (by decide), up2_s (by decide)]; exact h16
  have k10 : up2 (up2 M 127 12 (nI 1)) 127 13 (nI i) 127 10 = nI i := by rw [up2_s (by decide), up2_s (by decide)]; exact h10
  generalize up2 (up2 M 127 12 (nI 1)) 127 13 (nI i) = W at hw0 hX fW k16 k10
  have hp : 2 ^ bit < 2 ^ 8 := Nat.pow_lt_pow_right (by decide) hb
  have w10 : up2 W 127 16 (nI (T ||| 2 ^ bit)) 127 10 = nI i := by rw [up2_s (by decide)]; exact k10
  have hF2 : FO (up2 W 127 16 (nI (T ||| 2 ^ bit))) := (hF.lf fW).lf ⟨fun c a _ _ _ _ _ => up2_ne a, fun q _ _ _ _ _ e _ _ _ => up2_s e⟩
  have hlen := length_ (d := d + 3) (j := j) hS hF2 hj
  have hlen2 : zstL.getD j 0 = wln j := rfl
  rw [hlen2, ← ha] at hlen
  have hwb := wln_b j hj
  have ks := KS hS hj
  rw [← ha] at ks
  obtain ⟨⟨x0, x1, x2⟩, j', hj', hB⟩ := hX
  refine ⟨onM W (T ||| 2 ^ bit) (i + wln j), ?_, ⟨⟨x0, by rw [onM_s (by decide) (by decide)]; exact x1, by rw [onM_s (by decide) (by decide)]; exact x2⟩, i + wln j, by omega, onM_rb hB (by omega)⟩, fW.trans onM_f⟩
  rw [e132]
  simp (disch := first | assumption | exact nar_b0 | exact nar_b1 | exact nar_b | exact Or.inl rfl | exact Or.inr rfl | exact zin_t (by omega) (by omega) | exact Nat.le_of_ble_eq_true rfl | (rw [nI_cl (by omega)]; assumption) | omega) only [↓reduceIte, reduceCtorEq, not_true_eq_false, not_false_eq_true, q132_0, q132_1, q132_4, q132_7, q132_8, q132_9, q132_12, q132_15, q132_16, q132_17, q132_18, q132_21, q132_22, q132_25, q132_28, q132_29, q132_30, q132_31, q132_34, q132_37, q132_38i, q132_38a, q132_39, q132_42, q132_43, q132_44, q132_45, q132_46, q132_49, q132_50i, q132_50a, q132_51, q132_54, q132_55, q132_58, q132_59, q132_62, q132_63, kl_int, kl_ref, kl_tok, cS_nil, cS_int, cS_ref, cS_long, tl_some, tl_none, List.cons_append, List.nil_append, nI_add, nI_ltb, nI_leb, nI_eqb, nI_cl, zin_nI, h12, hh', zk0_inl, z0, b2i_ne1, h16, g1', h10, hw0, k16, nI_shl, nI_or, Nat.one_mul, w10, hlen]
  rfl
end Rm
