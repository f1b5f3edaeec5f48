-- the reference: persons, fillers, turns
def RVf (M M' : ZM) : Prop := (∀ c, c ≠ 127 → c ≠ 130 → M' c = M c) ∧ (∀ q, q ≠ 10 → q ≠ 11 → q ≠ 12 → q ≠ 13 → M' 127 q = M 127 q)
theorem RVf.trans {M M1 M2 : ZM} (h1 : RVf M M1) (h2 : RVf M1 M2) : RVf M M2 := ⟨fun c h h' => by rw [h2.1 c h h', h1.1 c h h'], fun q a b c e => by rw [h2.2 q a b c e, h1.2 q a b c e]⟩
theorem RVf.lf {M M' : ZM} (h : RVf M M') : RLf M M' := ⟨fun c a b _ _ _ _ => h.1 c a b, fun q a b c d _ _ _ _ _ => h.2 q a b c d⟩
theorem RNf.vf {M M' : ZM} (h : RNf M M') : RVf M M' := ⟨fun c a _ => h.1 c a, h.2⟩
theorem RVf.u {M : ZM} {k : Nat} {v : Int32} : RVf M (up2 M 130 k v) := ⟨fun c _ a => up2_ne a, fun q _ _ _ _ => up2_c (by decide)⟩
def RSt (M : ZM) (b : Nat → Int32) (n : Nat) : (Nat × Nat) ⊕ Nat → Prop
  | .inl f => RFx 510 M b n f.1 f.2
  | .inr i => RCx M b n i
theorem RSt.fr {M M' : ZM} {b : Nat → Int32} {n : Nat} {r : (Nat × Nat) ⊕ Nat} (h : RSt M b n r) (h9 : M' 127 9 = M 127 9) (h10 : M' 127 10 = M 127 10) (h12 : M' 127 12 = M 127 12) (h13 : M' 127 13 = M 127 13) (h133 : M' 133 = M 133) : RSt M' b n r := by
  cases r with
  | inl f => exact RFx.fr (h : RFx 510 M b n f.1 f.2) h9 h10 h12 h13 h133
  | inr i => exact RCx.fr (h : RCx M b n i) h9 h10 h12 h133
theorem RSt.u {M : ZM} {b : Nat → Int32} {n c k : Nat} {v : Int32} {r : (Nat × Nat) ⊕ Nat} (h : RSt M b n r) (hc : c ≠ 127) (hc2 : c ≠ 133) : RSt (up2 M c k v) b n r := h.fr (up2_c (fun e => hc e.symm)) (up2_c (fun e => hc e.symm)) (up2_c (fun e => hc e.symm)) (up2_c (fun e => hc e.symm)) (up2_ne (fun e => hc2 e.symm))
def pN (b : Nat → Int32) (n : Nat) (r : (Nat × Nat) ⊕ Nat) (sg : Bool) (lo hi : Int) : PR Int := match r with
  | .inl f => .inl f
  | .inr i => pNum b n i sg lo hi
def pr {α : Type} (r : PR α) : (Nat × Nat) ⊕ Nat := match r with
  | .inl f => .inl f
  | .inr (_, i) => .inr i
section Rn
variable {d n i : Nat} {M : ZM} {R : ZH} {b : Nat → Int32}
theorem number_u {r : (Nat × Nat) ⊕ Nat} {sg : Bool} {lo hi : Int} {s' l' h' : Int32} (hs' : s' = b2i sg) (hl' : l' = iI lo) (hh' : h' = iI hi) (hS : Sh R) (hR : RSt M b n r) (h1 : -1000 ≤ lo ∧ lo ≤ 1000) (h2 : -1000 ≤ hi ∧ hi ≤ 1000) : ∃ x M', cal (d + 2) 123 [.ref 127, .int s', .int l', .int h'] M R = some (.inl (some (.int x)), M', R) ∧ RNf M M' ∧ RSt M' b n (pr (pN b n r sg lo hi)) ∧ ∀ v i', pN b n r sg lo hi = .inr (v, i') → x = iI v := by
  subst hs' hl' hh'
  cases r with
  | inl f =>
    obtain ⟨M', g1, g2, g3⟩ := number_nx (d := d + 1) (x := b2i sg) (y := iI lo) (z := iI hi) hS (by decide) (hR : RFx 510 M b n f.1 f.2)
    exact ⟨_, M', g1, g3, g2, fun v i' h => (by cases h)⟩
  | inr i =>
    obtain ⟨r1, r2⟩ := number_ (d := d) (sg := sg) hS (hR : RCx M b n i) h1 h2
    have hin := (hR : RCx M b n i).2.1
    show ∃ x M', _ ∧ RNf M M' ∧ RSt M' b n (pr (pNum b n i sg lo hi)) ∧ ∀ v i', pNum b n i sg lo hi = .inr (v, i') → x = iI v
    cases e : pNum b n i sg lo hi with
    | inl f =>
      obtain ⟨x, M', g1, g2, g3⟩ := r2 f.1 f.2 e
      obtain ⟨y, j, hj, hB⟩ := g2
      exact ⟨x, M', g1, g3, ⟨y, j, by omega, hB⟩, fun v i' h => (by cases h)⟩
    | inr w =>
      obtain ⟨v, i'⟩ := w
      have g1 := r1 v i' e
      have p1 := pNum_pos hin e
      have hle := sk_le (b := b) hin
      refine ⟨_, _, g1, RNf.bg.trans RNf.hr, RCx.mv (bgM_cx (hR : RCx M b n i) hle) p1.2.1, fun v' i'' h => ?_⟩
      cases h
      rfl
theorem person_w {c m sl : Nat} (hS : Sh R) (hP : RCx M b n i) (hcm : ¬ c = m) (hc : c ≤ 10 ∧ m ≤ 10) (hsl : sl ≤ 13) {x1 x2 x3 x4 : Int32} {M1 M2 M3 M4 : ZM}
    (g1 : cal (d + 2) 123 [.ref 127, .int (nI 1), .int (-50), .int (nI 50)] (hrm M (i + 5)) R = some (.inl (some (.int x1)), M1, R))
    (g2 : cal (d + 2) 123 [.ref 127, .int (nI 1), .int (-50), .int (nI 50)] (up2 M1 130 (8 + 4 * sl) x1) R = some (.inl (some (.int x2)), M2, R))
    (g3 : cal (d + 2) 123 [.ref 127, .int (nI 0), .int (nI 18), .int (nI 99)] (up2 M2 130 (8 + 4 * sl + 1) x2) R = some (.inl (some (.int x3)), M3, R))
    (g4 : cal (d + 2) 123 [.ref 127, .int (nI 0), .int (nI 0), .int (nI 3)] (up2 M3 130 (8 + 4 * sl + 2) x3) R = some (.inl (some (.int x4)), M4, R)) : cal (d + 3) 133 [.ref 127, .int (nI 5), .int (nI c), .int (nI m), .int (nI sl)] M R = some (.inl none, up2 M4 130 (8 + 4 * sl + 3) x4, R) := by
  obtain ⟨nN, k127, k128, l128, k129, l129, k130, l130, k131, l131, k132, l132, k133, l133, k134, l134, k135, l135, k136, l136, k137, l137, k138, l138, k139, l139, k140, l140, k141, l141, k142, l142, k143, l143, k144, l144, k145, l145, k146, l146, f127_1, f127_2, f127_3, f127_4, f127_6, f127_7, f127_17, f127_18, f127_19, f127_22, f127_24, f127_25, f127_26, f127_29, f127_30, f127_31, f127_32, f127_33⟩ := modF hS
  have h10 := hP.1.2.1
  have h12 := hP.2.2
  have hn := hP.1.2.2.1
  have e0 : up2 M 127 10 (nI (i + 5)) = hrm M (i + 5) := rfl
  rw [e133]
  simp (disch := first | assumption | exact nar_b0 | exact nar_b1 | exact nar_b | exact Or.inl rfl | exact Or.inr rfl | exact zin_t (by omega) (by omega) | exact Nat.le_of_ble_eq_true rfl | (rw [nI_cl (by omega)]; assumption) | omega) only [↓reduceIte, reduceCtorEq, not_true_eq_false, not_false_eq_true, q133_0, q133_1, q133_2, q133_5, q133_6, q133_7, q133_8, q133_11, q133_14, q133_15, q133_18, q133_21, q133_22, q133_23i, q133_23a, q133_24, q133_27, q133_28, q133_29, q133_32, q133_34, q133_35, q133_37, q133_38, q133_39, q133_41, q133_42, q133_45, q133_47, q133_48, q133_49, q133_51, q133_53, q133_56, q133_57, q133_58, q133_61, q133_63, q133_64, q133_65, q133_66, q133_67, q133_69, q133_71, q133_74, q133_75, q133_76, q133_79, q133_81, q133_82, q133_83, q133_84, q133_85, q133_87, q133_89, q133_92, q133_93, q133_94, q133_97, q133_99, q133_100, q133_101, q133_102, q133_103, q133_104, q133_105, q133_108, q133_109, kl_int, kl_ref, kl_tok, cS_nil, cS_int, cS_ref, cS_long, tl_some, tl_none, List.cons_append, List.nil_append, nI_add, nI_ltb, nI_leb, nI_eqb, nI_cl, zin_nI, hcm, h12, Nat.le_refl, h10, e0, g1, g2, g3, g4, zk0_inl, nI_mul]
theorem pN_inr {i : Nat} {sg : Bool} {lo hi : Int} : pN b n (.inr i) sg lo hi = pNum b n i sg lo hi := rfl
theorem person_t {c m sl : Nat} (hS : Sh R) (hP : RCx M b n i) (hi5 : i + 5 ≤ n) (hcm : ¬ c = m) (hc : c ≤ 10 ∧ m ≤ 10) (hsl : sl ≤ 13) :
    ∃ M', cal (d + 3) 133 [.ref 127, .int (nI 5), .int (nI c), .int (nI m), .int (nI sl)] M R = some (.inl none, M', R) ∧ RVf M M' ∧ (∀ k p, pPer b n (i + 5) = .inl (k, p) → RFx 510 M' b n k p) ∧ ∀ q i', pPer b n (i + 5) = .inr (q, i') → RCx M' b n i' ∧ M' 130 = up4 (M 130) (8 + 4 * sl) q := by
  have hm : (-50 : Int32) = iI (-50) := by decide +kernel
  have hP0 : RSt (hrm M (i + 5)) b n (.inr (i + 5)) := hP.mv hi5
  obtain ⟨x1, M1, g1, f1, s1, v1⟩ := number_u (d := d) (sg := true) (lo := -50) (hi := 50) (s' := nI 1) (h' := nI 50) rfl hm rfl hS hP0 (by decide) (by decide)
  have s1' := s1.u (c := 130) (k := 8 + 4 * sl) (v := x1) (by decide) (by decide)
  obtain ⟨x2, M2, g2, f2, s2, v2⟩ := number_u (d := d) (sg := true) (lo := -50) (hi := 50) (s' := nI 1) (h' := nI 50) rfl hm rfl hS s1' (by decide) (by decide)
  have s2' := s2.u (c := 130) (k := 8 + 4 * sl + 1) (v := x2) (by decide) (by decide)
  obtain ⟨x3, M3, g3, f3, s3, v3⟩ := number_u (d := d) (sg := false) (lo := 18) (hi := 99) (s' := nI 0) (l' := nI 18) (h' := nI 99) rfl rfl rfl hS s2' (by decide) (by decide)
  have s3' := s3.u (c := 130) (k := 8 + 4 * sl + 2) (v := x3) (by decide) (by decide)
  obtain ⟨x4, M4, g4, f4, s4, v4⟩ := number_u (d := d) (sg := false) (lo := 0) (hi := 3) (s' := nI 0) (l' := nI 0) (h' := nI 3) rfl rfl rfl hS s3' (by decide) (by decide)
  have s4' := s4.u (c := 130) (k := 8 + 4 * sl + 3) (v := x4) (by decide) (by decide)
  refine ⟨_, person_w hS hP hcm hc hsl g1 g2 g3 g4, ?_, ?_⟩
  · exact (((((((RNf.hr.vf.trans f1.vf).trans RVf.u).trans f2.vf).trans RVf.u).trans f3.vf).trans RVf.u).trans f4.vf).trans RVf.u
  have k130 : up2 M4 130 (8 + 4 * sl + 3) x4 130 = upf (upf (upf (upf (M 130) (8 + 4 * sl) x1) (8 + 4 * sl + 1) x2) (8 + 4 * sl + 2) x3) (8 + 4 * sl + 3) x4 := by
    rw [up2_rwf, f4.1 _ (by decide), up2_rwf, f3.1 _ (by decide), up2_rwf, f2.1 _ (by decide), up2_rwf, f1.1 _ (by decide), hrm_c (by decide)]
  rw [k130]
  rw [pN_inr] at s2 s3 s4 v1 v2 v3 v4 s2' s3' s4'
  clear g1 g2 g3 g4 k130 s1 s2 s3 s4 s1' s2' s3' f1 f2 f3 f4
  generalize up2 M4 130 (8 + 4 * sl + 3) x4 = M' at s4'
  unfold pPer
  cases e1 : pNum b n (i + 5) true (-50) 50 with
  | inl f =>
    rw [e1] at s4'
    refine ⟨fun k p h => ?_, fun q i' h => (by cases h)⟩
    cases h
    exact s4'
  | inr w =>
    obtain ⟨w1, i1⟩ := w
    have y1 := v1 w1 i1 e1
    rw [e1] at s4' v2 v3 v4
    dsimp only [pr] at s4' v2 v3 v4
    rw [pN_inr] at s4' v2 v3 v4
    dsimp only
    cases e2 : pNum b n i1 true (-50) 50 with
    | inl f =>
      rw [e2] at s4'
      refine ⟨fun k p h => ?_, fun q i' h => (by cases h)⟩
      cases h
      exact s4'
    | inr w =>
      obtain ⟨w2, i2⟩ := w
      have y2 := v2 w2 i2 e2
      rw [e2] at s4' v3 v4
      dsimp only [pr] at s4' v3 v4
      rw [pN_inr] at s4' v3 v4
      dsimp only
      cases e3 : pNum b n i2 false 18 99 with
      | inl f =>
        rw [e3] at s4'
        refine ⟨fun k p h => ?_, fun q i' h => (by cases h)⟩
        cases h
        exact s4'
      | inr w =>
        obtain ⟨w3, i3⟩ := w
        have y3 := v3 w3 i3 e3
        rw [e3] at s4' v4
        dsimp only [pr] at s4' v4
        rw [pN_inr] at s4' v4
        dsimp only
        cases e4 : pNum b n i3 false 0 3 with
        | inl f =>
          rw [e4] at s4'
          refine ⟨fun k p h => ?_, fun q i' h => (by cases h)⟩
          cases h
          exact s4'
        | inr w =>
          obtain ⟨w4, i4⟩ := w
          have y4 := v4 w4 i4 e4
          rw [e4] at s4'
          refine ⟨fun k p h => (by cases h), fun q i' h => ?_⟩
          cases h
          refine ⟨s4', ?_⟩
          rw [y1, y2, y3, y4]
          rfl
theorem person_f {c sl : Nat} (hS : Sh R) (hP : RCx M b n i) : ∃ M', cal (d + 3) 133 [.ref 127, .int (nI 5), .int (nI c), .int (nI c), .int (nI sl)] M R = some (.inl none, M', R) ∧ RVf M M' ∧ RFx 510 M' b n 3 i := by
  obtain ⟨nN, k127, k128, l128, k129, l129, k130, l130, k131, l131, k132, l132, k133, l133, k134, l134, k135, l135, k136, l136, k137, l137, k138, l138, k139, l139, k140, l140, k141, l141, k142, l142, k143, l143, k144, l144, k145, l145, k146, l146, f127_1, f127_2, f127_3, f127_4, f127_6, f127_7, f127_17, f127_18, f127_19, f127_22, f127_24, f127_25, f127_26, f127_29, f127_30, f127_31, f127_32, f127_33⟩ := modF hS
  have h10 := hP.1.2.1
  have h12 := hP.2.2
  have hn := hP.1.2.2.1
  have hw0 := wrong_ (d := d + 2) (R := R) (k := nI 3) (p := nI i) hS h12
  have hX := RFx.wr (k := 3) (p := i) (u := 510) hP.1 (by have := hP.2.1; omega) (by decide)
  have fW : RNf M (up2 (up2 M 127 12 (nI 3)) 127 13 (nI i)) := RNf.wr
  generalize up2 (up2 M 127 12 (nI 3)) 127 13 (nI i) = W at hw0 hX fW
  have k12 := hX.1.2.1
  have z : ¬ 3 ≤ 0 := by decide
  refine ⟨W, ?_, fW.vf, hX⟩
  rw [e133]
  simp (disch := first | assumption | exact nar_b0 | exact nar_b1 | exact nar_b | exact Or.inl rfl | exact Or.inr rfl | exact zin_t (by omega) (by omega) | exact Nat.le_of_ble_eq_true rfl | (rw [nI_cl (by omega)]; assumption) | omega) only [↓reduceIte, reduceCtorEq, not_true_eq_false, not_false_eq_true, q133_0, q133_1, q133_2, q133_5, q133_6, q133_7, q133_8, q133_11, q133_14, q133_15, q133_18, q133_21, q133_22, q133_23i, q133_23a, q133_24, q133_27, q133_28, q133_29, q133_32, q133_34, q133_35, q133_37, q133_38, q133_39, q133_41, q133_42, q133_45, q133_47, q133_48, q133_49, q133_51, q133_53, q133_56, q133_57, q133_58, q133_61, q133_63, q133_64, q133_65, q133_66, q133_67, q133_69, q133_71, q133_74, q133_75, q133_76, q133_79, q133_81, q133_82, q133_83, q133_84, q133_85, q133_87, q133_89, q133_92, q133_93, q133_94, q133_97, q133_99, q133_100, q133_101, q133_102, q133_103, q133_104, q133_105, q133_108, q133_109, kl_int, kl_ref, kl_tok, cS_nil, cS_int, cS_ref, cS_long, tl_some, tl_none, List.cons_append, List.nil_append, nI_add, nI_ltb, nI_leb, nI_eqb, nI_cl, zin_nI, h12, h10, hw0, zk0_inl, k12, z]
/-- fillers are kept -/
theorem tales_ {f : Nat} (hS : Sh R) (hf : f < 4) (h23 : M 127 23 = nI f) : cal d 134 [.ref 127] M R = some (.inl none, up2 (up2 (up2 (up2 (up2 M 137 (4 * f) (M 130 60)) 137 (4 * f + 1) (M 130 61)) 137 (4 * f + 2) (M 130 62)) 137 (4 * f + 3) (M 130 63)) 127 23 (nI (f + 1)), R) := by
  obtain ⟨nN, k127, k128, l128, k129, l129, k130, l130, k131, l131, k132, l132, k133, l133, k134, l134, k135, l135, k136, l136, k137, l137, k138, l138, k139, l139, k140, l140, k141, l141, k142, l142, k143, l143, k144, l144, k145, l145, k146, l146, f127_1, f127_2, f127_3, f127_4, f127_6, f127_7, f127_17, f127_18, f127_19, f127_22, f127_24, f127_25, f127_26, f127_29, f127_30, f127_31, f127_32, f127_33⟩ := modF hS
  have y1 : up2 M 137 (4 * f) (M 130 60) 127 23 = nI f := by rw [up2_c (by decide)]; exact h23
  have y2 : up2 (up2 M 137 (4 * f) (M 130 60)) 137 (4 * f + 1) (M 130 61) 127 23 = nI f := by rw [up2_c (by decide)]; exact y1
  have y3 : up2 (up2 (up2 M 137 (4 * f) (M 130 60)) 137 (4 * f + 1) (M 130 61)) 137 (4 * f + 2) (M 130 62) 127 23 = nI f := by rw [up2_c (by decide)]; exact y2
  have y4 : up2 (up2 (up2 (up2 M 137 (4 * f) (M 130 60)) 137 (4 * f + 1) (M 130 61)) 137 (4 * f + 2) (M 130 62)) 137 (4 * f + 3) (M 130 63) 127 23 = nI f := by rw [up2_c (by decide)]; exact y3
  have u1 : up2 M 137 (4 * f) (M 130 60) 130 61 = M 130 61 := up2_c (by decide)
  have u2 : up2 (up2 M 137 (4 * f) (M 130 60)) 137 (4 * f + 1) (M 130 61) 130 62 = M 130 62 := by rw [up2_c (by decide), up2_c (by decide)]
  have u3 : up2 (up2 (up2 M 137 (4 * f) (M 130 60)) 137 (4 * f + 1) (M 130 61)) 137 (4 * f + 2) (M 130 62) 130 63 = M 130 63 := by rw [up2_c (by decide), up2_c (by decide), up2_c (by decide)]
  have z0 : ¬ 4 ≤ 0 := by decide
  have z1 : ¬ 4 ≤ 1 := by decide
  have z2 : ¬ 4 ≤ 2 := by decide
  have z3 : ¬ 4 ≤ 3 := by decide
  rw [e134]
  simp (disch := first | assumption | exact nar_b0 | exact nar_b1 | exact nar_b | exact Or.inl rfl | exact Or.inr rfl | exact zin_t (by omega) (by omega) | exact Nat.le_of_ble_eq_true rfl | (rw [nI_cl (by omega)]; assumption) | omega) only [↓reduceIte, reduceCtorEq, not_true_eq_false, not_false_eq_true, q134_0, q134_1, q134_3, q134_4, q134_7, q134_8, q134_11, q134_12, q134_13, q134_16, q134_17, q134_18, q134_19, q134_20, q134_23, q134_25, q134_26, q134_27, q134_28, q134_29, q134_32, q134_35, q134_36i, q134_36a, q134_37, q134_40, q134_41, q134_42, q134_45, kl_int, kl_ref, kl_tok, cS_nil, cS_int, cS_ref, cS_long, tl_some, tl_none, List.cons_append, List.nil_append, nI_add, nI_ltb, nI_leb, nI_eqb, nI_cl, zin_nI, z0]
  rw [q134_2]
  simp (disch := first | assumption | exact nar_b0 | exact nar_b1 | exact nar_b | exact Or.inl rfl | exact Or.inr rfl | exact zin_t (by omega) (by omega) | exact Nat.le_of_ble_eq_true rfl | (rw [nI_cl (by omega)]; assumption) | omega) only [↓reduceIte, reduceCtorEq, not_true_eq_false, not_false_eq_true, q134_0, q134_1, q134_3, q134_4, q134_7, q134_8, q134_11, q134_12, q134_13, q134_16, q134_17, q134_18, q134_19, q134_20, q134_23, q134_25, q134_26, q134_27, q134_28, q134_29, q134_32, q134_35, q134_36i, q134_36a, q134_37, q134_40, q134_41, q134_42, q134_45, kl_int, kl_ref, kl_tok, cS_nil, cS_int, cS_ref, cS_long, tl_some, tl_none, List.cons_append, List.nil_append, nI_add, nI_ltb, nI_leb, nI_eqb, nI_cl, zin_nI, z0, h23, nI_mul, Nat.add_zero]
  rw [q134_2]
  simp (disch := first | assumption | exact nar_b0 | exact nar_b1 | exact nar_b | exact Or.inl rfl | exact Or.inr rfl | exact zin_t (by omega) (by omega) | exact Nat.le_of_ble_eq_true rfl | (rw [nI_cl (by omega)]; assumption) | omega) only [↓reduceIte, reduceCtorEq, not_true_eq_false, not_false_eq_true, q134_0, q134_1, q134_3, q134_4, q134_7, q134_8, q134_11, q134_12, q134_13, q134_16, q134_17, q134_18, q134_19, q134_20, q134_23, q134_25, q134_26, q134_27, q134_28, q134_29, q134_32, q134_35, q134_36i, q134_36a, q134_37, q134_40, q134_41, q134_42, q134_45, kl_int, kl_ref, kl_tok, cS_nil, cS_int, cS_ref, cS_long, tl_some, tl_none, List.cons_append, List.nil_append, nI_add, nI_ltb, nI_leb, nI_eqb, nI_cl, zin_nI, z1, y1, u1, nI_mul]
  rw [q134_2]
  simp (disch := first | assumption | exact nar_b0 | exact nar_b1 | exact nar_b | exact Or.inl rfl | exact Or.inr rfl | exact zin_t (by omega) (by omega) | exact Nat.le_of_ble_eq_true rfl | (rw [nI_cl (by omega)]; assumption) | omega) only [↓reduceIte, reduceCtorEq, not_true_eq_false, not_false_eq_true, q134_0, q134_1, q134_3, q134_4, q134_7, q134_8, q134_11, q134_12, q134_13, q134_16, q134_17, q134_18, q134_19, q134_20, q134_23, q134_25, q134_26, q134_27, q134_28, q134_29, q134_32, q134_35, q134_36i, q134_36a, q134_37, q134_40, q134_41, q134_42, q134_45, kl_int, kl_ref, kl_tok, cS_nil, cS_int, cS_ref, cS_long, tl_some, tl_none, List.cons_append, List.nil_append, nI_add, nI_ltb, nI_leb, nI_eqb, nI_cl, zin_nI, z2, y2, u2, nI_mul]
  rw [q134_2]
  simp (disch := first | assumption | exact nar_b0 | exact nar_b1 | exact nar_b | exact Or.inl rfl | exact Or.inr rfl | exact zin_t (by omega) (by omega) | exact Nat.le_of_ble_eq_true rfl | (rw [nI_cl (by omega)]; assumption) | omega) only [↓reduceIte, reduceCtorEq, not_true_eq_false, not_false_eq_true, q134_0, q134_1, q134_3, q134_4, q134_7, q134_8, q134_11, q134_12, q134_13, q134_16, q134_17, q134_18, q134_19, q134_20, q134_23, q134_25, q134_26, q134_27, q134_28, q134_29, q134_32, q134_35, q134_36i, q134_36a, q134_37, q134_40, q134_41, q134_42, q134_45, kl_int, kl_ref, kl_tok, cS_nil, cS_int, cS_ref, cS_long, tl_some, tl_none, List.cons_append, List.nil_append, nI_add, nI_ltb, nI_leb, nI_eqb, nI_cl, zin_nI, z3, y3, u3, nI_mul]
  rw [q134_2]
  simp (disch := first | assumption | exact nar_b0 | exact nar_b1 | exact nar_b | exact Or.inl rfl | exact Or.inr rfl | exact zin_t (by omega) (by omega) | exact Nat.le_of_ble_eq_true rfl | (rw [nI_cl (by omega)]; assumption) | omega) only [↓reduceIte, reduceCtorEq, not_true_eq_false, not_false_eq_true, q134_0, q134_1, q134_3, q134_4, q134_7, q134_8, q134_11, q134_12, q134_13, q134_16, q134_17, q134_18, q134_19, q134_20, q134_23, q134_25, q134_26, q134_27, q134_28, q134_29, q134_32, q134_35, q134_36i, q134_36a, q134_37, q134_40, q134_41, q134_42, q134_45, kl_int, kl_ref, kl_tok, cS_nil, cS_int, cS_ref, cS_long, tl_some, tl_none, List.cons_append, List.nil_append, nI_add, nI_ltb, nI_leb, nI_eqb, nI_cl, zin_nI, Nat.le_refl, y4]
end Rn
