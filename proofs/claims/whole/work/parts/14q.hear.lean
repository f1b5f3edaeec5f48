-- the class hears causes
theorem CE.ne {h : Nat} {L : List CdS} (hc : CE h L) : 1 ≤ L.length := by
  refine hc (fun _ L => 1 ≤ L.length) ⟨?_, ?_, ?_⟩
  · intro _ _ _ _ _ _ _; simp
  · intro _ _ _; simp
  · intro _ _ _ _ _ _ _; simp; omega
/-- whether a cause of a side is good -/
def caB (P : PS) (s k : Nat) : Bool := hv (pvl (rD P) k) (if s = 0 then cA P else cB P) && ((cC P).isEmpty || hv (pvl (rD P) k) (cC P))
def hrC (P : PS) : Nat → Nat × Nat
  | 0 => (0, 0)
  | k + 1 => if ((hrC P k).1 : Int) < gR P ∧ caB P 0 k = true then ((hrC P k).1 + 1, (hrC P k).2) else if ((hrC P k).2 : Int) < gR P ∧ caB P 1 k = true then ((hrC P k).1, (hrC P k).2 + 1) else hrC P k
def hrE (P : PS) (k : Nat) : Int32 := if ((hrC P k).1 : Int) < gR P ∧ caB P 0 k = true then nI 0 else if ((hrC P k).2 : Int) < gR P ∧ caB P 1 k = true then nI 1 else -1
theorem hrC_le (P : PS) : ∀ k, (hrC P k).1 + (hrC P k).2 ≤ k
  | 0 => Nat.le_refl _
  | k + 1 => by
    have := hrC_le P k
    unfold hrC
    split
    · show (hrC P k).1 + 1 + (hrC P k).2 ≤ k + 1; omega
    · split
      · show (hrC P k).1 + ((hrC P k).2 + 1) ≤ k + 1; omega
      · omega
def hM (M : ZM) (j : Nat) (P : PS) (k : Nat) : ZM := fun c t => if c = tb j + 6 ∧ t < k then hrE P t else M c t
theorem hM_c {M : ZM} {j k c : Nat} {P : PS} (h : c ≠ tb j + 6) : hM M j P k c = M c := by
  funext t
  exact if_neg (fun e => h e.1)
theorem hM_0 {M : ZM} {j : Nat} {P : PS} : hM M j P 0 = M := by
  funext c t
  exact if_neg (fun e => absurd e.2 (Nat.not_lt_zero t))
theorem hM_up {M : ZM} {j k : Nat} {P : PS} {v : Int32} (h : hrE P k = v) : up2 (hM M j P k) (tb j + 6) k v = hM M j P (k + 1) := by
  funext c t
  unfold up2 hM
  by_cases e : c = tb j + 6 ∧ t = k
  · rw [if_pos e, if_pos ⟨e.1, by omega⟩, e.2, h]
  · rw [if_neg e]
    by_cases e2 : c = tb j + 6 ∧ t < k
    · rw [if_pos e2, if_pos ⟨e2.1, by omega⟩]
    · rw [if_neg e2, if_neg (fun e3 => e2 ⟨e3.1, Nat.lt_of_le_of_ne (Nat.le_of_lt_succ e3.2) (fun e4 => e ⟨e3.1, e4⟩)⟩)]
theorem hM_no {M : ZM} {j k : Nat} {P : PS} (h : hrE P k = -1) (hM6 : M (tb j + 6) k = -1) : hM M j P k = hM M j P (k + 1) := by
  funext c t
  unfold hM
  by_cases e2 : c = tb j + 6 ∧ t < k
  · rw [if_pos e2, if_pos ⟨e2.1, by omega⟩]
  · rw [if_neg e2]
    by_cases e : c = tb j + 6 ∧ t < k + 1
    · have : t = k := by
        have := e.2
        have h3 : ¬ t < k := fun q => e2 ⟨e.1, q⟩
        omega
      rw [if_pos e, this, h, e.1, hM6]
    · rw [if_neg e]
section Lf
variable {d n j k a : Nat} {M : ZM} {R : ZH} {b : Nat → Int32} {P : PS}
theorem isTold_ {st : List CdS} (ha : isCl a) (hS : Sh R) (hr : ClR M a st) (hl : st.length ≤ 256) : cal d 7 [.ref a] M R = some (.inl (some (.int (b2i (!st.isEmpty)))), M, R) := by
  obtain ⟨q1, -⟩ := clK hS ha
  have h3 := hr.1
  rw [e7]
  cases st with
  | nil =>
    have h3' : M a 3 = nI 0 := h3
    simp (disch := first | assumption | exact nar_b0 | exact nar_b1 | exact nar_b | exact Or.inl rfl | exact Or.inr rfl | exact zin_t (by omega) (by omega) | exact Nat.le_of_ble_eq_true rfl | (rw [nI_cl (by omega)]; assumption) | omega) only [↓reduceIte, reduceCtorEq, not_true_eq_false, not_false_eq_true, q7_0, q7_1, q7_4, q7_7, q7_8, q7_11, q7_12, kl_int, kl_ref, kl_tok, cS_nil, cS_int, cS_ref, cS_long, tl_some, tl_none, List.cons_append, List.nil_append, nI_add, nI_ltb, nI_leb, nI_eqb, nI_cl, zin_nI, h3', Nat.le_refl]
    rfl
  | cons x t =>
    have h3' : M a 3 = nI (t.length + 1) := h3
    have hl' : t.length + 1 ≤ 256 := hl
    have z : ¬ t.length + 1 ≤ 0 := by omega
    simp (disch := first | assumption | exact nar_b0 | exact nar_b1 | exact nar_b | exact Or.inl rfl | exact Or.inr rfl | exact zin_t (by omega) (by omega) | exact Nat.le_of_ble_eq_true rfl | (rw [nI_cl (by omega)]; assumption) | omega) only [↓reduceIte, reduceCtorEq, not_true_eq_false, not_false_eq_true, q7_0, q7_1, q7_4, q7_7, q7_8, q7_11, q7_12, kl_int, kl_ref, kl_tok, cS_nil, cS_int, cS_ref, cS_long, tl_some, tl_none, List.cons_append, List.nil_append, nI_add, nI_ltb, nI_leb, nI_eqb, nI_cl, zin_nI, h3', z]
    rfl
/-- the clauses are right -/
def CGd (st : List CdS) : Prop := st.length ≤ 256 ∧ (st = [] ∨ CE 11 st)
theorem isCause_ {s : Nat} (hs : s < 2) (hS : Sh R) (hj : j < 10) (hk : k < 14) (hp : HPr M j (rD P) k) (hC : ClR M 94 (cA P) ∧ ClR M 98 (cB P) ∧ ClR M 102 (cC P)) (hA : CGd (cA P)) (hB : CGd (cB P)) (hD : CGd (cC P)) (ha : a = 94 + 4 * s) : cal (d + 3) 30 [.ref 92, .ref a, .ref (tb j), .int (nI k)] M R = some (.inl (some (.int (b2i (caB P s k)))), M, R) := by
  obtain ⟨nN, k92, k93, l93, k94, k95, l95, k96, l96, k97, l97, k98, k99, l99, k100, l100, k101, l101, k102, k103, l103, k104, l104, k105, l105, f92_0, f92_1, f94_0, f94_1, f94_2, f92_2, f98_0, f98_1, f98_2, f92_3, f102_0, f102_1, f102_2⟩ := parF hS
  have hi : isCl a := by unfold isCl; omega
  have q1 := (clK hS hi).1
  have h1 : cal (d + 2) 8 [.ref a, .ref (tb j), .int (nI k)] M R = some (.inl (some (.int (b2i (hv (pvl (rD P) k) (if s = 0 then cA P else cB P))))), M, R) := by
    rcases (show s = 0 ∨ s = 1 by omega) with rfl | rfl
    · subst ha; exact holds_ (Or.inl rfl) hS hj hk hp hA.1 hC.1 hA.2
    · subst ha; exact holds_ (Or.inr (Or.inl rfl)) hS hj hk hp hB.1 hC.2.1 hB.2
  have h2 := isTold_ (d := d + 2) (a := 102) (Or.inr (Or.inr rfl)) hS hC.2.2 hD.1
  have h3 := holds_ (d := d) (a := 102) (Or.inr (Or.inr rfl)) hS hj hk hp hD.1 hC.2.2 hD.2
  rw [e30]
  unfold caB
  generalize hv (pvl (rD P) k) (if s = 0 then cA P else cB P) = v1 at h1 ⊢
  generalize hv (pvl (rD P) k) (cC P) = v3 at h3 ⊢
  generalize (cC P).isEmpty = v2 at h2 ⊢
  have y1 : (nI 1 = nI 0) = False := by decide +kernel
  cases v1
  · simp (disch := first | assumption | exact nar_b0 | exact nar_b1 | exact nar_b | exact Or.inl rfl | exact Or.inr rfl | exact zin_t (by omega) (by omega) | exact Nat.le_of_ble_eq_true rfl | (rw [nI_cl (by omega)]; assumption) | omega) only [↓reduceIte, reduceCtorEq, not_true_eq_false, not_false_eq_true, q30_0, q30_1, q30_2, q30_3, q30_6, q30_9, q30_10, q30_13, q30_16, q30_19, q30_20, q30_23, q30_24, q30_25, q30_28, q30_31, q30_32, q30_35, q30_36, kl_int, kl_ref, kl_tok, cS_nil, cS_int, cS_ref, cS_long, tl_some, tl_none, List.cons_append, List.nil_append, nI_add, nI_ltb, nI_leb, nI_eqb, nI_cl, zin_nI, h1, zk0_inl, b2i_f, b2i_t, y1]
    rfl
  · cases v2
    · cases v3
      · have h2' : cal (d + 2) 7 [.ref 102] M R = some (.inl (some (.int (nI 1))), M, R) := h2
        simp (disch := first | assumption | exact nar_b0 | exact nar_b1 | exact nar_b | exact Or.inl rfl | exact Or.inr rfl | exact zin_t (by omega) (by omega) | exact Nat.le_of_ble_eq_true rfl | (rw [nI_cl (by omega)]; assumption) | omega) only [↓reduceIte, reduceCtorEq, not_true_eq_false, not_false_eq_true, q30_0, q30_1, q30_2, q30_3, q30_6, q30_9, q30_10, q30_13, q30_16, q30_19, q30_20, q30_23, q30_24, q30_25, q30_28, q30_31, q30_32, q30_35, q30_36, kl_int, kl_ref, kl_tok, cS_nil, cS_int, cS_ref, cS_long, tl_some, tl_none, List.cons_append, List.nil_append, nI_add, nI_ltb, nI_leb, nI_eqb, nI_cl, zin_nI, h1, h2', h3, zk0_inl, b2i_f, b2i_t, y1]
        rfl
      · have h2' : cal (d + 2) 7 [.ref 102] M R = some (.inl (some (.int (nI 1))), M, R) := h2
        simp (disch := first | assumption | exact nar_b0 | exact nar_b1 | exact nar_b | exact Or.inl rfl | exact Or.inr rfl | exact zin_t (by omega) (by omega) | exact Nat.le_of_ble_eq_true rfl | (rw [nI_cl (by omega)]; assumption) | omega) only [↓reduceIte, reduceCtorEq, not_true_eq_false, not_false_eq_true, q30_0, q30_1, q30_2, q30_3, q30_6, q30_9, q30_10, q30_13, q30_16, q30_19, q30_20, q30_23, q30_24, q30_25, q30_28, q30_31, q30_32, q30_35, q30_36, kl_int, kl_ref, kl_tok, cS_nil, cS_int, cS_ref, cS_long, tl_some, tl_none, List.cons_append, List.nil_append, nI_add, nI_ltb, nI_leb, nI_eqb, nI_cl, zin_nI, h1, h2', h3, zk0_inl, b2i_f, b2i_t, y1]
        rfl
    · have h2' : cal (d + 2) 7 [.ref 102] M R = some (.inl (some (.int (nI 0))), M, R) := h2
      simp (disch := first | assumption | exact nar_b0 | exact nar_b1 | exact nar_b | exact Or.inl rfl | exact Or.inr rfl | exact zin_t (by omega) (by omega) | exact Nat.le_of_ble_eq_true rfl | (rw [nI_cl (by omega)]; assumption) | omega) only [↓reduceIte, reduceCtorEq, not_true_eq_false, not_false_eq_true, q30_0, q30_1, q30_2, q30_3, q30_6, q30_9, q30_10, q30_13, q30_16, q30_19, q30_20, q30_23, q30_24, q30_25, q30_28, q30_31, q30_32, q30_35, q30_36, kl_int, kl_ref, kl_tok, cS_nil, cS_int, cS_ref, cS_long, tl_some, tl_none, List.cons_append, List.nil_append, nI_add, nI_ltb, nI_leb, nI_eqb, nI_cl, zin_nI, h1, h2', zk0_inl, b2i_f, b2i_t, y1]
      rfl
theorem hear_L (hS : Sh R) (hj : j < 10) (hC : PSC M j P) (hW : PW P) (hA : CGd (cA P)) (hB : CGd (cB P)) (hD : CGd (cC P)) : ∀ (m k : Nat), k + m = jn (rD P) → exe (d + 4) 29 7 [.ref 92, .ref (tb j), .int (nI (hrC P k).1), .int (nI (hrC P k).2), .int (nI k)] [] (hM M j P k) R = some (.inl none, up2 (hM M j P (jn (rD P))) (tb j) 8 (nI ((hrC P (jn (rD P))).1 + (hrC P (jn (rD P))).2)), R) := by
  obtain ⟨nN, k92, k93, l93, k94, k95, l95, k96, l96, k97, l97, k98, k99, l99, k100, l100, k101, l101, k102, k103, l103, k104, l104, k105, l105, f92_0, f92_1, f94_0, f94_1, f94_2, f92_2, f98_0, f98_1, f98_2, f92_3, f102_0, f102_1, f102_2⟩ := parF hS
  obtain ⟨nN_j, tlt_j, kt0_j, kt1_j, lt1_j, kt2_j, lt2_j, kt3_j, lt3_j, kt4_j, lt4_j, kt5_j, lt5_j, kt6_j, lt6_j, kt7_j, lt7_j, kt8_j, lt8_j, ft0_0_j, ft1_0_j, ft1_1_j, ft0_1_j, ft0_2_j, ft0_3_j, ft0_4_j, ft0_5_j⟩ := tabF hS hj
  have htj := tb_lt hj
  have hJ := hW.1.1.2
  obtain ⟨g, hg⟩ : ∃ g : Nat, gR P = (g : Int) := ⟨(gR P).toNat, by have := hW.2.2.2.2.2.2; omega⟩
  have hg9 : g ≤ 9 := by have := hW.2.2.2.2.2.2; omega
  have m6 : ∀ k, hM M j P k (tb j) 6 = nI (jn (rD P)) := fun k => by rw [hM_c (by omega), hC.1.1]; exact hW.1.1.1
  have m8 : ∀ k, hM M j P k 92 8 = nI g := fun k => by rw [hM_c (by omega), hC.2.2.2.2.1.2, hg]; rfl
  have cl : ∀ k, ClR (hM M j P k) 94 (cA P) ∧ ClR (hM M j P k) 98 (cB P) ∧ ClR (hM M j P k) 102 (cC P) := fun k => ⟨hC.2.2.2.2.2.1.fr (fun c h1 h2 => hM_c (by omega)), hC.2.2.2.2.2.2.1.fr (fun c h1 h2 => hM_c (by omega)), hC.2.2.2.2.2.2.2.fr (fun c h1 h2 => hM_c (by omega))⟩
  intro m
  induction m with
  | zero =>
    intro k hk
    have hk' : k = jn (rD P) := by omega
    have hle := hrC_le P k
    have a6 := m6 k
    rw [← hk'] at a6 ⊢
    rw [q29_7]
    simp (disch := first | assumption | exact nar_b0 | exact nar_b1 | exact nar_b | exact Or.inl rfl | exact Or.inr rfl | exact zin_t (by omega) (by omega) | exact Nat.le_of_ble_eq_true rfl | (rw [nI_cl (by omega)]; assumption) | omega) only [↓reduceIte, reduceCtorEq, not_true_eq_false, not_false_eq_true, q29_0, q29_1, q29_2, q29_3, q29_4, q29_5, q29_9, q29_10, q29_13, q29_16, q29_17, q29_18, q29_21, q29_24, q29_25, q29_26, q29_29, q29_30, q29_32, q29_35, q29_38, q29_39, q29_42, q29_44, q29_45, q29_46, q29_49, q29_52, q29_53, q29_54, q29_57, q29_60, q29_61, q29_62, q29_65, q29_66, q29_68, q29_71, q29_74, q29_75, q29_78, q29_80, q29_81, q29_82, q29_85, q29_88, q29_91, q29_92, q29_93, q29_94, q29_95, q29_98, kl_int, kl_ref, kl_tok, cS_nil, cS_int, cS_ref, cS_long, tl_some, tl_none, List.cons_append, List.nil_append, nI_add, nI_ltb, nI_leb, nI_eqb, nI_cl, zin_nI, a6, Nat.le_refl]
  | succ m ih =>
    intro k hk
    have hle := hrC_le P k
    have a6 := m6 k
    have a8 := m8 k
    have z0 : ¬ jn (rD P) ≤ k := by omega
    have hp : HPr (hM M j P k) j (rD P) k := by
      unfold HPr
      rw [hM_c (by omega), hM_c (by omega), hM_c (by omega), hM_c (by omega)]
      exact hC.2.1 k (by omega)
    have i0 := isCause_ (d := d) (s := 0) (k := k) (a := 94) (by decide) hS hj (by omega) hp (cl k) hA hB hD rfl
    have i1 := isCause_ (d := d) (s := 1) (k := k) (a := 98) (by decide) hS hj (by omega) hp (cl k) hA hB hD rfl
    have ih' := ih (k + 1) (by omega)
    have n6 : M (tb j + 6) k = -1 := (hC.2.2.2.1 k (by omega)).1
    have y1 : (nI 1 = nI 0) = False := by decide +kernel
    have eC : hrC P (k + 1) = if ((hrC P k).1 : Int) < gR P ∧ caB P 0 k = true then ((hrC P k).1 + 1, (hrC P k).2) else if ((hrC P k).2 : Int) < gR P ∧ caB P 1 k = true then ((hrC P k).1, (hrC P k).2 + 1) else hrC P k := rfl
    have eE : hrE P k = if ((hrC P k).1 : Int) < gR P ∧ caB P 0 k = true then nI 0 else if ((hrC P k).2 : Int) < gR P ∧ caB P 1 k = true then nI 1 else -1 := rfl
    rw [hg] at eC eE
    generalize hx : hrC P k = x at *
    obtain ⟨e0, e1⟩ := x
    simp only [] at hle eC eE ⊢
    rw [q29_7]
    by_cases c0 : ((e0 : Nat) : Int) < (g : Int) ∧ caB P 0 k = true
    · rw [if_pos c0] at eC eE
      rw [eC] at ih'
      have z1 : ¬ g ≤ e0 := by omega
      have i0' : cal (d + 3) 30 [.ref 92, .ref 94, .ref (tb j), .int (nI k)] (hM M j P k) R = some (.inl (some (.int (nI 1))), hM M j P k, R) := by rw [i0, c0.2]; rfl
      have w := hM_up (M := M) (j := j) eE
      simp (disch := first | assumption | exact nar_b0 | exact nar_b1 | exact nar_b | exact Or.inl rfl | exact Or.inr rfl | exact zin_t (by omega) (by omega) | exact Nat.le_of_ble_eq_true rfl | (rw [nI_cl (by omega)]; assumption) | omega) only [↓reduceIte, reduceCtorEq, not_true_eq_false, not_false_eq_true, q29_0, q29_1, q29_2, q29_3, q29_4, q29_5, q29_9, q29_10, q29_13, q29_16, q29_17, q29_18, q29_21, q29_24, q29_25, q29_26, q29_29, q29_30, q29_32, q29_35, q29_38, q29_39, q29_42, q29_44, q29_45, q29_46, q29_49, q29_52, q29_53, q29_54, q29_57, q29_60, q29_61, q29_62, q29_65, q29_66, q29_68, q29_71, q29_74, q29_75, q29_78, q29_80, q29_81, q29_82, q29_85, q29_88, q29_91, q29_92, q29_93, q29_94, q29_95, q29_98, kl_int, kl_ref, kl_tok, cS_nil, cS_int, cS_ref, cS_long, tl_some, tl_none, List.cons_append, List.nil_append, nI_add, nI_ltb, nI_leb, nI_eqb, nI_cl, zin_nI, a6, a8, z0, z1, i0', zk0_inl, y1, w]
      exact ih'
    · rw [if_neg c0] at eC eE
      have to52 : ∀ r, exe (d + 4) 29 52 [.ref 92, .ref (tb j), .int (nI e0), .int (nI e1), .int (nI k)] [] (hM M j P k) R = r → (if g ≤ e0 then exe (d + 4) 29 52 [.ref 92, .ref (tb j), .int (nI e0), .int (nI e1), .int (nI k)] [] (hM M j P k) R else exe (d + 4) 29 24 [.ref 92, .ref (tb j), .int (nI e0), .int (nI e1), .int (nI k)] [] (hM M j P k) R) = r := by
        intro r hr
        by_cases z1 : g ≤ e0
        · rw [if_pos z1]; exact hr
        · rw [if_neg z1]
          have v : caB P 0 k = false := by
            cases v : caB P 0 k
            · rfl
            · exact absurd ⟨by omega, v⟩ c0
          have i0' : cal (d + 3) 30 [.ref 92, .ref 94, .ref (tb j), .int (nI k)] (hM M j P k) R = some (.inl (some (.int (nI 0))), hM M j P k, R) := by rw [i0, v]; rfl
          simp (disch := first | assumption | exact nar_b0 | exact nar_b1 | exact nar_b | exact Or.inl rfl | exact Or.inr rfl | exact zin_t (by omega) (by omega) | exact Nat.le_of_ble_eq_true rfl | (rw [nI_cl (by omega)]; assumption) | omega) only [↓reduceIte, reduceCtorEq, not_true_eq_false, not_false_eq_true, q29_0, q29_1, q29_2, q29_3, q29_4, q29_5, q29_9, q29_10, q29_13, q29_16, q29_17, q29_18, q29_21, q29_24, q29_25, q29_26, q29_29, q29_30, q29_32, q29_35, q29_38, q29_39, q29_42, q29_44, q29_45, q29_46, q29_49, q29_53, q29_54, q29_57, q29_60, q29_61, q29_62, q29_65, q29_66, q29_68, q29_71, q29_74, q29_75, q29_78, q29_80, q29_81, q29_82, q29_85, q29_88, q29_91, q29_92, q29_93, q29_94, q29_95, q29_98, kl_int, kl_ref, kl_tok, cS_nil, cS_int, cS_ref, cS_long, tl_some, tl_none, List.cons_append, List.nil_append, nI_add, nI_ltb, nI_leb, nI_eqb, nI_cl, zin_nI, i0', zk0_inl]
          exact hr
      simp (disch := first | assumption | exact nar_b0 | exact nar_b1 | exact nar_b | exact Or.inl rfl | exact Or.inr rfl | exact zin_t (by omega) (by omega) | exact Nat.le_of_ble_eq_true rfl | (rw [nI_cl (by omega)]; assumption) | omega) only [↓reduceIte, reduceCtorEq, not_true_eq_false, not_false_eq_true, q29_0, q29_1, q29_2, q29_3, q29_4, q29_5, q29_9, q29_10, q29_13, q29_16, q29_17, q29_18, q29_21, q29_25, q29_26, q29_29, q29_30, q29_32, q29_35, q29_38, q29_39, q29_42, q29_44, q29_45, q29_46, q29_49, q29_53, q29_54, q29_57, q29_60, q29_61, q29_62, q29_65, q29_66, q29_68, q29_71, q29_74, q29_75, q29_78, q29_80, q29_81, q29_82, q29_85, q29_88, q29_91, q29_92, q29_93, q29_94, q29_95, q29_98, kl_int, kl_ref, kl_tok, cS_nil, cS_int, cS_ref, cS_long, tl_some, tl_none, List.cons_append, List.nil_append, nI_add, nI_ltb, nI_leb, nI_eqb, nI_cl, zin_nI, a6, a8, z0]
      apply to52
      by_cases c1 : ((e1 : Nat) : Int) < (g : Int) ∧ caB P 1 k = true
      · rw [if_pos c1] at eC eE
        rw [eC] at ih'
        have z1 : ¬ g ≤ e1 := by omega
        have i1' : cal (d + 3) 30 [.ref 92, .ref 98, .ref (tb j), .int (nI k)] (hM M j P k) R = some (.inl (some (.int (nI 1))), hM M j P k, R) := by rw [i1, c1.2]; rfl
        have w := hM_up (M := M) (j := j) eE
        simp (disch := first | assumption | exact nar_b0 | exact nar_b1 | exact nar_b | exact Or.inl rfl | exact Or.inr rfl | exact zin_t (by omega) (by omega) | exact Nat.le_of_ble_eq_true rfl | (rw [nI_cl (by omega)]; assumption) | omega) only [↓reduceIte, reduceCtorEq, not_true_eq_false, not_false_eq_true, q29_0, q29_1, q29_2, q29_3, q29_4, q29_5, q29_9, q29_10, q29_13, q29_16, q29_17, q29_18, q29_21, q29_24, q29_25, q29_26, q29_29, q29_30, q29_32, q29_35, q29_38, q29_39, q29_42, q29_44, q29_45, q29_46, q29_49, q29_52, q29_53, q29_54, q29_57, q29_60, q29_61, q29_62, q29_65, q29_66, q29_68, q29_71, q29_74, q29_75, q29_78, q29_80, q29_81, q29_82, q29_85, q29_88, q29_91, q29_92, q29_93, q29_94, q29_95, q29_98, kl_int, kl_ref, kl_tok, cS_nil, cS_int, cS_ref, cS_long, tl_some, tl_none, List.cons_append, List.nil_append, nI_add, nI_ltb, nI_leb, nI_eqb, nI_cl, zin_nI, a8, z1, i1', zk0_inl, y1, w]
        exact ih'
      · rw [if_neg c1] at eC eE
        rw [eC] at ih'
        have w := hM_no (M := M) (j := j) eE n6
        rw [← w] at ih'
        by_cases z1 : g ≤ e1
        · simp (disch := first | assumption | exact nar_b0 | exact nar_b1 | exact nar_b | exact Or.inl rfl | exact Or.inr rfl | exact zin_t (by omega) (by omega) | exact Nat.le_of_ble_eq_true rfl | (rw [nI_cl (by omega)]; assumption) | omega) only [↓reduceIte, reduceCtorEq, not_true_eq_false, not_false_eq_true, q29_0, q29_1, q29_2, q29_3, q29_4, q29_5, q29_9, q29_10, q29_13, q29_16, q29_17, q29_18, q29_21, q29_24, q29_25, q29_26, q29_29, q29_30, q29_32, q29_35, q29_38, q29_39, q29_42, q29_44, q29_45, q29_46, q29_49, q29_52, q29_53, q29_54, q29_57, q29_60, q29_61, q29_62, q29_65, q29_66, q29_68, q29_71, q29_74, q29_75, q29_78, q29_80, q29_81, q29_82, q29_85, q29_88, q29_91, q29_92, q29_93, q29_94, q29_95, q29_98, kl_int, kl_ref, kl_tok, cS_nil, cS_int, cS_ref, cS_long, tl_some, tl_none, List.cons_append, List.nil_append, nI_add, nI_ltb, nI_leb, nI_eqb, nI_cl, zin_nI, a8, z1]
          exact ih'
        · have v : caB P 1 k = false := by
            cases v : caB P 1 k
            · rfl
            · exact absurd ⟨by omega, v⟩ c1
          have i1' : cal (d + 3) 30 [.ref 92, .ref 98, .ref (tb j), .int (nI k)] (hM M j P k) R = some (.inl (some (.int (nI 0))), hM M j P k, R) := by rw [i1, v]; rfl
          simp (disch := first | assumption | exact nar_b0 | exact nar_b1 | exact nar_b | exact Or.inl rfl | exact Or.inr rfl | exact zin_t (by omega) (by omega) | exact Nat.le_of_ble_eq_true rfl | (rw [nI_cl (by omega)]; assumption) | omega) only [↓reduceIte, reduceCtorEq, not_true_eq_false, not_false_eq_true, q29_0, q29_1, q29_2, q29_3, q29_4, q29_5, q29_9, q29_10, q29_13, q29_16, q29_17, q29_18, q29_21, q29_24, q29_25, q29_26, q29_29, q29_30, q29_32, q29_35, q29_38, q29_39, q29_42, q29_44, q29_45, q29_46, q29_49, q29_52, q29_53, q29_54, q29_57, q29_60, q29_61, q29_62, q29_65, q29_66, q29_68, q29_71, q29_74, q29_75, q29_78, q29_80, q29_81, q29_82, q29_85, q29_88, q29_91, q29_92, q29_93, q29_94, q29_95, q29_98, kl_int, kl_ref, kl_tok, cS_nil, cS_int, cS_ref, cS_long, tl_some, tl_none, List.cons_append, List.nil_append, nI_add, nI_ltb, nI_leb, nI_eqb, nI_cl, zin_nI, a8, z1, i1', zk0_inl]
          exact ih'
def heM (M : ZM) (j : Nat) (P : PS) : ZM := up2 (hM M j P (jn (rD P))) (tb j) 8 (nI ((hrC P (jn (rD P))).1 + (hrC P (jn (rD P))).2))
theorem hear_ (hS : Sh R) (hj : j < 10) (hC : PSC M j P) (hW : PW P) (hA : CGd (cA P)) (hB : CGd (cB P)) (hD : CGd (cC P)) : cal (d + 4) 29 [.ref 92, .ref (tb j)] M R = some (.inl none, heM M j P, R) := by
  have h := hear_L (d := d) hS hj hC hW hA hB hD (jn (rD P)) 0 (by omega)
  rw [hM_0] at h
  rw [e29]
  simp (disch := first | assumption | exact nar_b0 | exact nar_b1 | exact nar_b | exact Or.inl rfl | exact Or.inr rfl | exact zin_t (by omega) (by omega) | exact Nat.le_of_ble_eq_true rfl | (rw [nI_cl (by omega)]; assumption) | omega) only [↓reduceIte, reduceCtorEq, not_true_eq_false, not_false_eq_true, q29_0, q29_1, q29_2, q29_3, q29_4, q29_5, q29_9, q29_10, q29_13, q29_16, q29_17, q29_18, q29_21, q29_24, q29_25, q29_26, q29_29, q29_30, q29_32, q29_35, q29_38, q29_39, q29_42, q29_44, q29_45, q29_46, q29_49, q29_52, q29_53, q29_54, q29_57, q29_60, q29_61, q29_62, q29_65, q29_66, q29_68, q29_71, q29_74, q29_75, q29_78, q29_80, q29_81, q29_82, q29_85, q29_88, q29_91, q29_92, q29_93, q29_94, q29_95, q29_98, kl_int, kl_ref, kl_tok, cS_nil, cS_int, cS_ref, cS_long, tl_some, tl_none, List.cons_append, List.nil_append, nI_add, nI_ltb, nI_leb, nI_eqb, nI_cl, zin_nI]
  exact h
end Lf
