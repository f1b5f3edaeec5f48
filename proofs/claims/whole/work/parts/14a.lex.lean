-- READING A TEXT. Blanks, signs, words, numbers: pure
def skF (b : Nat → Int32) : Nat → Nat → Nat
  | 0, i => i
  | m + 1, i => if b i = nI 32 then skF b m (i + 1) else i
def sk (b : Nat → Int32) (n i : Nat) : Nat := skF b (n - i) i
theorem skF_ge (b : Nat → Int32) : ∀ m i, i ≤ skF b m i ∧ skF b m i ≤ i + m
  | 0, i => ⟨Nat.le_refl _, Nat.le_refl _⟩
  | m + 1, i => by
    have := skF_ge b m (i + 1)
    unfold skF
    split <;> omega
theorem sk_ge (b : Nat → Int32) (n i : Nat) : i ≤ sk b n i := (skF_ge b _ i).1
theorem sk_le {b : Nat → Int32} {n i : Nat} (h : i ≤ n) : sk b n i ≤ n := by
  have := (skF_ge b (n - i) i).2
  unfold sk
  omega
theorem skF_nb (b : Nat → Int32) : ∀ m i, skF b m i < i + m → b (skF b m i) ≠ nI 32
  | 0, i, h => by unfold skF at h; omega
  | m + 1, i, h => by
    unfold skF at h ⊢
    split
    · rename_i e
      rw [if_pos e] at h
      exact skF_nb b m (i + 1) (by omega)
    · rename_i e
      exact e
theorem sk_nb {b : Nat → Int32} {n i : Nat} (hi : i ≤ n) (h : sk b n i < n) : b (sk b n i) ≠ nI 32 := skF_nb b (n - i) i (by unfold sk at h; omega)
theorem sk_id {b : Nat → Int32} {n i : Nat} (h : ¬ (i < n ∧ b i = nI 32)) : sk b n i = i := by
  unfold sk
  cases hm : n - i with
  | zero => rfl
  | succ m =>
    unfold skF
    rw [if_neg (fun e => h ⟨by omega, e⟩)]
theorem sk_sk {b : Nat → Int32} {n i : Nat} (hi : i ≤ n) : sk b n (sk b n i) = sk b n i := sk_id (fun ⟨h1, h2⟩ => sk_nb hi h1 h2)
theorem sk_step {b : Nat → Int32} {n i : Nat} (h : i < n) (h2 : b i = nI 32) : sk b n i = sk b n (i + 1) := by
  have e : n - i = (n - (i + 1)) + 1 := by omega
  unfold sk
  rw [e, skF, if_pos h2]
def isH (b : Nat → Int32) (n i : Nat) (c : Int32) : Bool := decide (i < n ∧ b i = c)
def sml (b : Nat → Int32) (n k : Nat) : Bool := decide (k < n ∧ nI 97 ≤ b k ∧ b k ≤ nI 122)
def wln (j : Nat) : Nat := zstL.getD j 0
def wmF (b : Nat → Int32) (s j : Nat) : Nat → Nat → Bool
  | 0, _ => true
  | m + 1, k => decide (b (s + k) = zstb j k) && wmF b s j m (k + 1)
def wm (b : Nat → Int32) (n i j : Nat) : Bool := decide (i + wln j ≤ n) && (wmF b i j (wln j) 0 && !sml b n (i + wln j))
theorem wln_b : ∀ j, j < 17 → 2 ≤ wln j ∧ wln j ≤ 6 := by decide +kernel
def isD (x : Int32) : Prop := nI 48 ≤ x ∧ x ≤ nI 57
def dgF (b : Nat → Int32) : Nat → Nat → Nat → Nat × Nat
  | 0, i, v => (i, v)
  | m + 1, i, v => if nI 48 ≤ b i ∧ b i ≤ nI 57 then dgF b m (i + 1) (10 * v + ((b i).toNatClampNeg - 48)) else (i, v)
def dgs (b : Nat → Int32) (n i : Nat) : Nat × Nat := dgF b (n - i) i 0
theorem dgF_ge (b : Nat → Int32) : ∀ m i v, i ≤ (dgF b m i v).1 ∧ (dgF b m i v).1 ≤ i + m
  | 0, i, v => ⟨Nat.le_refl _, Nat.le_refl _⟩
  | m + 1, i, v => by
    have := dgF_ge b m (i + 1) (10 * v + ((b i).toNatClampNeg - 48))
    unfold dgF
    split
    · omega
    · show i ≤ i ∧ i ≤ i + (m + 1)
      omega
theorem dig {x : Int32} (h : nI 48 ≤ x ∧ x ≤ nI 57) : ∃ k, x = nI k ∧ 48 ≤ k ∧ k ≤ 57 := by
  have h1 := h.1
  have h2 := h.2
  rw [Int32.le_iff_toInt_le, nI_toInt (by decide)] at h1
  rw [Int32.le_iff_toInt_le, nI_toInt (by decide)] at h2
  refine ⟨x.toInt.toNat, ?_, by omega, by omega⟩
  rw [nI_iI, Int.toNat_of_nonneg (by omega)]
  exact iI_of x
/-- a fault: its kind, its place; or an answer and where it ends -/
abbrev PR (α : Type) : Type := (Nat × Nat) ⊕ (α × Nat)
def sgn (mi : Bool) (v : Nat) : Int := if mi then -(v : Int) else (v : Int)
def nMi (b : Nat → Int32) (n i : Nat) (sg : Bool) : Bool := sg && isH b n (sk b n i) (nI 45)
def nG (b : Nat → Int32) (n i : Nat) (sg : Bool) : Nat := if nMi b n i sg then sk b n (sk b n i + 1) else sk b n i
def pNum (b : Nat → Int32) (n i : Nat) (sg : Bool) (lo hi : Int) : PR Int :=
  if (dgs b n (nG b n i sg)).1 = nG b n i sg then .inl (1, nG b n i sg)
  else if lo ≤ sgn (nMi b n i sg) (dgs b n (nG b n i sg)).2 ∧ sgn (nMi b n i sg) (dgs b n (nG b n i sg)).2 ≤ hi then .inr (sgn (nMi b n i sg) (dgs b n (nG b n i sg)).2, (dgs b n (nG b n i sg)).1) else .inl (2, sk b n i)
-- the class's reader
def PCx (M : ZM) (b : Nat → Int32) (n i : Nat) : Prop := M 92 4 = nI n ∧ M 92 5 = nI i ∧ (i ≤ n ∧ n ≤ 500) ∧ (∀ k, k < n → M 93 k = b k) ∧ M 92 9 = nI 0
def atM (M : ZM) (i : Nat) : ZM := up2 M 92 5 (nI i)
theorem atM_at {M : ZM} {i j : Nat} : atM (atM M i) j = atM M j := up2_twice
theorem atM_c {M : ZM} {i c : Nat} (h : c ≠ 92) : atM M i c = M c := up2_ne h
theorem atM_s {M : ZM} {i q : Nat} (h : q ≠ 5) : atM M i 92 q = M 92 q := up2_s h
theorem atM_self {M : ZM} {i : Nat} (h : M 92 5 = nI i) : atM M i = M := by
  funext c q
  unfold atM up2
  split
  · rename_i e
    rw [e.1, e.2, h]
  · rfl
theorem PCx.mv {M : ZM} {b : Nat → Int32} {n i j : Nat} (h : PCx M b n i) (hj : j ≤ n) : PCx (atM M j) b n j := by
  obtain ⟨h1, h2, h3, h4⟩ := h
  refine ⟨?_, up2_at, ⟨hj, h3.2⟩, ?_, ?_⟩
  · rw [atM_s (by decide)]; exact h1
  · intro k hk; rw [atM_c (by decide)]; exact h4.1 k hk
  · rw [atM_s (by decide)]; exact h4.2
section Lx
variable {d n i : Nat} {M : ZM} {R : ZH} {b : Nat → Int32}
theorem skipBlanks_L (hS : Sh R) : ∀ (m i : Nat) (M : ZM), i + m = n → PCx M b n i → exe d 49 5 [.ref 92, .int (nI i)] [] M R = some (.inl none, atM M (sk b n i), R) := by
  obtain ⟨nN, k92, k93, l93, k94, k95, l95, k96, l96, k97, l97, k98, k99, l99, k100, l100, k101, l101, k102, k103, l103, k104, l104, k105, l105, f92_0, f92_1, f94_0, f94_1, f94_2, f92_2, f98_0, f98_1, f98_2, f92_3, f102_0, f102_1, f102_2⟩ := parF hS
  intro m
  induction m with
  | zero =>
    intro i M hi hP
    obtain ⟨h4, h5, h6, h7⟩ := hP
    have z : n ≤ i := by omega
    rw [sk_id (by omega), atM_self h5]
    rw [q49_5]
    simp (disch := first | assumption | exact nar_b0 | exact nar_b1 | exact nar_b | exact Or.inl rfl | exact Or.inr rfl | exact zin_t (by omega) (by omega) | exact Nat.le_of_ble_eq_true rfl | (rw [nI_cl (by omega)]; assumption) | omega) only [↓reduceIte, reduceCtorEq, not_true_eq_false, not_false_eq_true, q49_0, q49_1, q49_4, q49_6, q49_7, q49_10, q49_13, q49_14, q49_17, q49_18, q49_19, q49_21, q49_24, q49_25i, q49_25a, q49_26, q49_29, q49_30, q49_31, q49_34, q49_37, q49_40, kl_int, kl_ref, kl_tok, cS_nil, cS_int, cS_ref, cS_long, tl_some, tl_none, List.cons_append, List.nil_append, nI_add, nI_ltb, nI_leb, nI_eqb, nI_cl, zin_nI, h4, z]
  | succ m ih =>
    intro i M hi hP
    obtain ⟨h4, h5, h6, h7⟩ := hP
    have z : ¬ n ≤ i := by omega
    have hb := h7.1 i (by omega)
    by_cases c : b i = nI 32
    · rw [sk_step (by omega) c, ← atM_at (M := M) (i := i + 1), ← ih (i + 1) (atM M (i + 1)) (by omega) (PCx.mv ⟨h4, h5, h6, h7⟩ (by omega))]
      rw [q49_5]
      simp (disch := first | assumption | exact nar_b0 | exact nar_b1 | exact nar_b | exact Or.inl rfl | exact Or.inr rfl | exact zin_t (by omega) (by omega) | exact Nat.le_of_ble_eq_true rfl | (rw [nI_cl (by omega)]; assumption) | omega) only [↓reduceIte, reduceCtorEq, not_true_eq_false, not_false_eq_true, q49_0, q49_1, q49_4, q49_6, q49_7, q49_10, q49_13, q49_14, q49_17, q49_18, q49_19, q49_21, q49_24, q49_25i, q49_25a, q49_26, q49_29, q49_30, q49_31, q49_34, q49_37, q49_40, kl_int, kl_ref, kl_tok, cS_nil, cS_int, cS_ref, cS_long, tl_some, tl_none, List.cons_append, List.nil_append, nI_add, nI_ltb, nI_leb, nI_eqb, nI_cl, zin_nI, h4, z, hb, c, h5]
      rfl
    · rw [sk_id (fun q => c q.2), atM_self h5]
      rw [q49_5]
      simp (disch := first | assumption | exact nar_b0 | exact nar_b1 | exact nar_b | exact Or.inl rfl | exact Or.inr rfl | exact zin_t (by omega) (by omega) | exact Nat.le_of_ble_eq_true rfl | (rw [nI_cl (by omega)]; assumption) | omega) only [↓reduceIte, reduceCtorEq, not_true_eq_false, not_false_eq_true, q49_0, q49_1, q49_4, q49_6, q49_7, q49_10, q49_13, q49_14, q49_17, q49_18, q49_19, q49_21, q49_24, q49_25i, q49_25a, q49_26, q49_29, q49_30, q49_31, q49_34, q49_37, q49_40, kl_int, kl_ref, kl_tok, cS_nil, cS_int, cS_ref, cS_long, tl_some, tl_none, List.cons_append, List.nil_append, nI_add, nI_ltb, nI_leb, nI_eqb, nI_cl, zin_nI, h4, z, hb, c]
theorem skipBlanks_ (hS : Sh R) (hP : PCx M b n i) : cal d 49 [.ref 92] M R = some (.inl none, atM M (sk b n i), R) := by
  obtain ⟨nN, k92, k93, l93, k94, k95, l95, k96, l96, k97, l97, k98, k99, l99, k100, l100, k101, l101, k102, k103, l103, k104, l104, k105, l105, f92_0, f92_1, f94_0, f94_1, f94_2, f92_2, f98_0, f98_1, f98_2, f92_3, f102_0, f102_1, f102_2⟩ := parF hS
  have h5 := hP.2.1
  rw [e49]
  simp (disch := first | assumption | exact nar_b0 | exact nar_b1 | exact nar_b | exact Or.inl rfl | exact Or.inr rfl | exact zin_t (by omega) (by omega) | exact Nat.le_of_ble_eq_true rfl | (rw [nI_cl (by omega)]; assumption) | omega) only [↓reduceIte, reduceCtorEq, not_true_eq_false, not_false_eq_true, q49_0, q49_1, q49_4, q49_6, q49_7, q49_10, q49_13, q49_14, q49_17, q49_18, q49_19, q49_21, q49_24, q49_25i, q49_25a, q49_26, q49_29, q49_30, q49_31, q49_34, q49_37, q49_40, kl_int, kl_ref, kl_tok, cS_nil, cS_int, cS_ref, cS_long, tl_some, tl_none, List.cons_append, List.nil_append, nI_add, nI_ltb, nI_leb, nI_eqb, nI_cl, zin_nI, h5]
  exact skipBlanks_L hS (n - i) i M (by have := hP.2.2.1; omega) hP
theorem isHereC_ {c : Int32} (hS : Sh R) (hP : PCx M b n i) : cal d 50 [.ref 92, .int c] M R = some (.inl (some (.int (b2i (isH b n i c)))), M, R) := by
  obtain ⟨nN, k92, k93, l93, k94, k95, l95, k96, l96, k97, l97, k98, k99, l99, k100, l100, k101, l101, k102, k103, l103, k104, l104, k105, l105, f92_0, f92_1, f94_0, f94_1, f94_2, f92_2, f98_0, f98_1, f98_2, f92_3, f102_0, f102_1, f102_2⟩ := parF hS
  obtain ⟨h4, h5, h6, h7⟩ := hP
  rw [e50]
  unfold isH
  by_cases e : n ≤ i
  · rw [decide_eq_false (by omega)]
    simp (disch := first | assumption | exact nar_b0 | exact nar_b1 | exact nar_b | exact Or.inl rfl | exact Or.inr rfl | exact zin_t (by omega) (by omega) | exact Nat.le_of_ble_eq_true rfl | (rw [nI_cl (by omega)]; assumption) | omega) only [↓reduceIte, reduceCtorEq, not_true_eq_false, not_false_eq_true, q50_0, q50_1, q50_4, q50_5, q50_8, q50_11, q50_12, q50_15, q50_16, q50_19, q50_20, q50_21, q50_24, q50_25, q50_28, q50_29, kl_int, kl_ref, kl_tok, cS_nil, cS_int, cS_ref, cS_long, tl_some, tl_none, List.cons_append, List.nil_append, nI_add, nI_ltb, nI_leb, nI_eqb, nI_cl, zin_nI, h4, h5, e]
    rfl
  · have hb := h7.1 i (by omega)
    by_cases e2 : b i = c
    · rw [decide_eq_true ⟨by omega, e2⟩]
      simp (disch := first | assumption | exact nar_b0 | exact nar_b1 | exact nar_b | exact Or.inl rfl | exact Or.inr rfl | exact zin_t (by omega) (by omega) | exact Nat.le_of_ble_eq_true rfl | (rw [nI_cl (by omega)]; assumption) | omega) only [↓reduceIte, reduceCtorEq, not_true_eq_false, not_false_eq_true, q50_0, q50_1, q50_4, q50_5, q50_8, q50_11, q50_12, q50_15, q50_16, q50_19, q50_20, q50_21, q50_24, q50_25, q50_28, q50_29, kl_int, kl_ref, kl_tok, cS_nil, cS_int, cS_ref, cS_long, tl_some, tl_none, List.cons_append, List.nil_append, nI_add, nI_ltb, nI_leb, nI_eqb, nI_cl, zin_nI, h4, h5, e, hb, e2]
      rfl
    · rw [decide_eq_false (fun q => e2 q.2)]
      simp (disch := first | assumption | exact nar_b0 | exact nar_b1 | exact nar_b | exact Or.inl rfl | exact Or.inr rfl | exact zin_t (by omega) (by omega) | exact Nat.le_of_ble_eq_true rfl | (rw [nI_cl (by omega)]; assumption) | omega) only [↓reduceIte, reduceCtorEq, not_true_eq_false, not_false_eq_true, q50_0, q50_1, q50_4, q50_5, q50_8, q50_11, q50_12, q50_15, q50_16, q50_19, q50_20, q50_21, q50_24, q50_25, q50_28, q50_29, kl_int, kl_ref, kl_tok, cS_nil, cS_int, cS_ref, cS_long, tl_some, tl_none, List.cons_append, List.nil_append, nI_add, nI_ltb, nI_leb, nI_eqb, nI_cl, zin_nI, h4, h5, e, hb, e2]
      rfl
theorem takeWord_L {j s : Nat} (hj : j < 17) (hS : Sh R) (hF : FO M) (hP : PCx M b n s) (hs : s + wln j ≤ n) : ∀ (m k : Nat), k + m = wln j → exe (d + 4) 52 59 [.ref 92, .ref (1000001 + j), .int (nI (s + wln j)), .int (nI (s + k))] [] M R = some (.inl (some (.int (b2i (wmF b s j m k)))), if wmF b s j m k then atM M (s + wln j) else M, R) := by
  obtain ⟨nN, k92, k93, l93, k94, k95, l95, k96, l96, k97, l97, k98, k99, l99, k100, l100, k101, l101, k102, k103, l103, k104, l104, k105, l105, f92_0, f92_1, f94_0, f94_1, f94_2, f92_2, f98_0, f98_1, f98_2, f92_3, f102_0, f102_1, f102_2⟩ := parF hS
  obtain ⟨h4, h5, h6, h7⟩ := hP
  have hl := wln_b j hj
  have ks := KS hS hj
  intro m
  induction m with
  | zero =>
    intro k hk
    have z : s + wln j ≤ s + k := by omega
    rw [q52_59]
    simp (disch := first | assumption | exact nar_b0 | exact nar_b1 | exact nar_b | exact Or.inl rfl | exact Or.inr rfl | exact zin_t (by omega) (by omega) | exact Nat.le_of_ble_eq_true rfl | (rw [nI_cl (by omega)]; assumption) | omega) only [↓reduceIte, reduceCtorEq, not_true_eq_false, not_false_eq_true, q52_0, q52_1, q52_4, q52_5, q52_8, q52_9, q52_12, q52_13, q52_14, q52_15, q52_16, q52_19, q52_22, q52_23, q52_24, q52_27, q52_30, q52_31, q52_34, q52_35, q52_36, q52_38, q52_41, q52_42, q52_45, q52_46, q52_47, q52_49, q52_52, q52_53, q52_54, q52_55, q52_58, q52_60, q52_61, q52_64, q52_65, q52_68, q52_69, q52_70, q52_71, q52_72, q52_73, q52_76, q52_77, q52_80, q52_83, q52_84, q52_85, q52_88, q52_91, q52_92, q52_93, q52_96, q52_97, kl_int, kl_ref, kl_tok, cS_nil, cS_int, cS_ref, cS_long, tl_some, tl_none, List.cons_append, List.nil_append, nI_add, nI_ltb, nI_leb, nI_eqb, nI_cl, zin_nI, z]
    rfl
  | succ m ih =>
    intro k hk
    have z : ¬ s + wln j ≤ s + k := by omega
    have hb := h7.1 (s + k) (by omega)
    have hsub : nI (s + k) - nI s = nI k := by rw [nI_subn (by omega), Nat.add_sub_cancel_left]
    have hc := charAt_ (d := d) (M := M) (R := R) (j := j) (k := k) hS hF hj (by unfold wln at hk; omega)
    rw [wmF]
    by_cases c : b (s + k) = zstb j k
    · rw [decide_eq_true c, Bool.true_and, ← ih (k + 1) (by omega)]
      rw [q52_59]
      simp (disch := first | assumption | exact nar_b0 | exact nar_b1 | exact nar_b | exact Or.inl rfl | exact Or.inr rfl | exact zin_t (by omega) (by omega) | exact Nat.le_of_ble_eq_true rfl | (rw [nI_cl (by omega)]; assumption) | omega) only [↓reduceIte, reduceCtorEq, not_true_eq_false, not_false_eq_true, q52_0, q52_1, q52_4, q52_5, q52_8, q52_9, q52_12, q52_13, q52_14, q52_15, q52_16, q52_19, q52_22, q52_23, q52_24, q52_27, q52_30, q52_31, q52_34, q52_35, q52_36, q52_38, q52_41, q52_42, q52_45, q52_46, q52_47, q52_49, q52_52, q52_53, q52_54, q52_55, q52_58, q52_60, q52_61, q52_64, q52_65, q52_68, q52_69, q52_70, q52_71, q52_72, q52_73, q52_76, q52_77, q52_80, q52_83, q52_84, q52_85, q52_88, q52_91, q52_92, q52_93, q52_96, q52_97, kl_int, kl_ref, kl_tok, cS_nil, cS_int, cS_ref, cS_long, tl_some, tl_none, List.cons_append, List.nil_append, nI_add, nI_ltb, nI_leb, nI_eqb, nI_cl, zin_nI, z, hb, h5, hsub, hc, zk0_inl, c, Nat.add_assoc]
    · rw [decide_eq_false c, Bool.false_and]
      rw [q52_59]
      simp (disch := first | assumption | exact nar_b0 | exact nar_b1 | exact nar_b | exact Or.inl rfl | exact Or.inr rfl | exact zin_t (by omega) (by omega) | exact Nat.le_of_ble_eq_true rfl | (rw [nI_cl (by omega)]; assumption) | omega) only [↓reduceIte, reduceCtorEq, not_true_eq_false, not_false_eq_true, q52_0, q52_1, q52_4, q52_5, q52_8, q52_9, q52_12, q52_13, q52_14, q52_15, q52_16, q52_19, q52_22, q52_23, q52_24, q52_27, q52_30, q52_31, q52_34, q52_35, q52_36, q52_38, q52_41, q52_42, q52_45, q52_46, q52_47, q52_49, q52_52, q52_53, q52_54, q52_55, q52_58, q52_60, q52_61, q52_64, q52_65, q52_68, q52_69, q52_70, q52_71, q52_72, q52_73, q52_76, q52_77, q52_80, q52_83, q52_84, q52_85, q52_88, q52_91, q52_92, q52_93, q52_96, q52_97, kl_int, kl_ref, kl_tok, cS_nil, cS_int, cS_ref, cS_long, tl_some, tl_none, List.cons_append, List.nil_append, nI_add, nI_ltb, nI_leb, nI_eqb, nI_cl, zin_nI, z, hb, h5, hsub, hc, zk0_inl, c]
      rfl
theorem takeWord_ {a j : Nat} (ha : a = 1000001 + j) (hj : j < 17) (hS : Sh R) (hF : FO M) (hP : PCx M b n i) : cal (d + 4) 52 [.ref 92, .ref a] M R = some (.inl (some (.int (b2i (wm b n (sk b n i) j)))), atM M (if wm b n (sk b n i) j then sk b n i + wln j else sk b n i), R) := by
  subst ha
  obtain ⟨nN, k92, k93, l93, k94, k95, l95, k96, l96, k97, l97, k98, k99, l99, k100, l100, k101, l101, k102, k103, l103, k104, l104, k105, l105, f92_0, f92_1, f94_0, f94_1, f94_2, f92_2, f98_0, f98_1, f98_2, f92_3, f102_0, f102_1, f102_2⟩ := parF hS
  have hsk := skipBlanks_ (d := d + 3) (R := R) hS hP
  have hle := sk_le (b := b) hP.2.2.1.1
  have hP2 : PCx (atM M (sk b n i)) b n (sk b n i) := hP.mv hle
  have hF2 : FO (atM M (sk b n i)) := hF.fr (fun c h => atM_c (by omega))
  obtain ⟨h4, h5, h6, h7⟩ := hP2
  have hl := wln_b j hj
  have ks := KS hS hj
  have hlen := length_ (d := d + 2) (j := j) hS hF2 hj
  have hlen2 : zstL.getD j 0 = wln j := rfl
  rw [hlen2] at hlen
  rw [e52]
  by_cases c1 : n < sk b n i + wln j
  · have e : wm b n (sk b n i) j = false := by unfold wm; rw [decide_eq_false (by omega)]; rfl
    rw [e]
    simp (disch := first | assumption | exact nar_b0 | exact nar_b1 | exact nar_b | exact Or.inl rfl | exact Or.inr rfl | exact zin_t (by omega) (by omega) | exact Nat.le_of_ble_eq_true rfl | (rw [nI_cl (by omega)]; assumption) | omega) only [↓reduceIte, reduceCtorEq, not_true_eq_false, not_false_eq_true, q52_0, q52_1, q52_4, q52_5, q52_8, q52_9, q52_12, q52_13, q52_14, q52_15, q52_16, q52_19, q52_22, q52_23, q52_24, q52_27, q52_30, q52_31, q52_34, q52_35, q52_36, q52_38, q52_41, q52_42, q52_45, q52_46, q52_47, q52_49, q52_52, q52_53, q52_54, q52_55, q52_58, q52_60, q52_61, q52_64, q52_65, q52_68, q52_69, q52_70, q52_71, q52_72, q52_73, q52_76, q52_77, q52_80, q52_83, q52_84, q52_85, q52_88, q52_91, q52_92, q52_93, q52_96, q52_97, kl_int, kl_ref, kl_tok, cS_nil, cS_int, cS_ref, cS_long, tl_some, tl_none, List.cons_append, List.nil_append, nI_add, nI_ltb, nI_leb, nI_eqb, nI_cl, zin_nI, hsk, zk0_inl, h5, hlen, h4, c1]
    rfl
  · by_cases c2 : sml b n (sk b n i + wln j) = true
    · have e : wm b n (sk b n i) j = false := by unfold wm; rw [c2]; simp
      rw [e]
      unfold sml at c2
      obtain ⟨d1, d2, d3⟩ := of_decide_eq_true c2
      have hb := h7.1 (sk b n i + wln j) d1
      have z1 : ¬ n ≤ sk b n i + wln j := by omega
      have z2 : ¬ b (sk b n i + wln j) < nI 97 := by
        rw [Int32.lt_iff_toInt_lt]
        rw [Int32.le_iff_toInt_le] at d2
        omega
      have z3 : ¬ nI 122 < b (sk b n i + wln j) := by
        rw [Int32.lt_iff_toInt_lt]
        rw [Int32.le_iff_toInt_le] at d3
        omega
      simp (disch := first | assumption | exact nar_b0 | exact nar_b1 | exact nar_b | exact Or.inl rfl | exact Or.inr rfl | exact zin_t (by omega) (by omega) | exact Nat.le_of_ble_eq_true rfl | (rw [nI_cl (by omega)]; assumption) | omega) only [↓reduceIte, reduceCtorEq, not_true_eq_false, not_false_eq_true, q52_0, q52_1, q52_4, q52_5, q52_8, q52_9, q52_12, q52_13, q52_14, q52_15, q52_16, q52_19, q52_22, q52_23, q52_24, q52_27, q52_30, q52_31, q52_34, q52_35, q52_36, q52_38, q52_41, q52_42, q52_45, q52_46, q52_47, q52_49, q52_52, q52_53, q52_54, q52_55, q52_58, q52_60, q52_61, q52_64, q52_65, q52_68, q52_69, q52_70, q52_71, q52_72, q52_73, q52_76, q52_77, q52_80, q52_83, q52_84, q52_85, q52_88, q52_91, q52_92, q52_93, q52_96, q52_97, kl_int, kl_ref, kl_tok, cS_nil, cS_int, cS_ref, cS_long, tl_some, tl_none, List.cons_append, List.nil_append, nI_add, nI_ltb, nI_leb, nI_eqb, nI_cl, zin_nI, hsk, zk0_inl, h5, hlen, h4, c1, z1, hb, z2, z3]
      rfl
    · have c3 : sml b n (sk b n i + wln j) = false := by simpa using c2
      have e54 : cal (d + 4) 52 [.ref 92, .ref (1000001 + j)] M R = exe (d + 4) 52 59 [.ref 92, .ref (1000001 + j), .int (nI (sk b n i + wln j)), .int (nI (sk b n i + 0))] [] (atM M (sk b n i)) R := by
        rw [e52]
        by_cases z1 : n ≤ sk b n i + wln j
        · simp (disch := first | assumption | exact nar_b0 | exact nar_b1 | exact nar_b | exact Or.inl rfl | exact Or.inr rfl | exact zin_t (by omega) (by omega) | exact Nat.le_of_ble_eq_true rfl | (rw [nI_cl (by omega)]; assumption) | omega) only [↓reduceIte, reduceCtorEq, not_true_eq_false, not_false_eq_true, q52_0, q52_1, q52_4, q52_5, q52_8, q52_9, q52_12, q52_13, q52_14, q52_15, q52_16, q52_19, q52_22, q52_23, q52_24, q52_27, q52_30, q52_31, q52_34, q52_35, q52_36, q52_38, q52_41, q52_42, q52_45, q52_46, q52_47, q52_49, q52_52, q52_53, q52_54, q52_55, q52_58, q52_60, q52_61, q52_64, q52_65, q52_68, q52_69, q52_70, q52_71, q52_72, q52_73, q52_76, q52_77, q52_80, q52_83, q52_84, q52_85, q52_88, q52_91, q52_92, q52_93, q52_96, q52_97, kl_int, kl_ref, kl_tok, cS_nil, cS_int, cS_ref, cS_long, tl_some, tl_none, List.cons_append, List.nil_append, nI_add, nI_ltb, nI_leb, nI_eqb, nI_cl, zin_nI, hsk, zk0_inl, h5, hlen, h4, c1, z1]
          rfl
        · have hb := h7.1 (sk b n i + wln j) (by omega)
          by_cases z2 : b (sk b n i + wln j) < nI 97
          · simp (disch := first | assumption | exact nar_b0 | exact nar_b1 | exact nar_b | exact Or.inl rfl | exact Or.inr rfl | exact zin_t (by omega) (by omega) | exact Nat.le_of_ble_eq_true rfl | (rw [nI_cl (by omega)]; assumption) | omega) only [↓reduceIte, reduceCtorEq, not_true_eq_false, not_false_eq_true, q52_0, q52_1, q52_4, q52_5, q52_8, q52_9, q52_12, q52_13, q52_14, q52_15, q52_16, q52_19, q52_22, q52_23, q52_24, q52_27, q52_30, q52_31, q52_34, q52_35, q52_36, q52_38, q52_41, q52_42, q52_45, q52_46, q52_47, q52_49, q52_52, q52_53, q52_54, q52_55, q52_58, q52_60, q52_61, q52_64, q52_65, q52_68, q52_69, q52_70, q52_71, q52_72, q52_73, q52_76, q52_77, q52_80, q52_83, q52_84, q52_85, q52_88, q52_91, q52_92, q52_93, q52_96, q52_97, kl_int, kl_ref, kl_tok, cS_nil, cS_int, cS_ref, cS_long, tl_some, tl_none, List.cons_append, List.nil_append, nI_add, nI_ltb, nI_leb, nI_eqb, nI_cl, zin_nI, hsk, zk0_inl, h5, hlen, h4, c1, z1, hb, z2]
            rfl
          · have z3 : nI 122 < b (sk b n i + wln j) := by
              unfold sml at c3
              have := of_decide_eq_false c3
              rw [Int32.lt_iff_toInt_lt] at z2 ⊢
              rw [Int32.le_iff_toInt_le, Int32.le_iff_toInt_le] at this
              omega
            simp (disch := first | assumption | exact nar_b0 | exact nar_b1 | exact nar_b | exact Or.inl rfl | exact Or.inr rfl | exact zin_t (by omega) (by omega) | exact Nat.le_of_ble_eq_true rfl | (rw [nI_cl (by omega)]; assumption) | omega) only [↓reduceIte, reduceCtorEq, not_true_eq_false, not_false_eq_true, q52_0, q52_1, q52_4, q52_5, q52_8, q52_9, q52_12, q52_13, q52_14, q52_15, q52_16, q52_19, q52_22, q52_23, q52_24, q52_27, q52_30, q52_31, q52_34, q52_35, q52_36, q52_38, q52_41, q52_42, q52_45, q52_46, q52_47, q52_49, q52_52, q52_53, q52_54, q52_55, q52_58, q52_60, q52_61, q52_64, q52_65, q52_68, q52_69, q52_70, q52_71, q52_72, q52_73, q52_76, q52_77, q52_80, q52_83, q52_84, q52_85, q52_88, q52_91, q52_92, q52_93, q52_96, q52_97, kl_int, kl_ref, kl_tok, cS_nil, cS_int, cS_ref, cS_long, tl_some, tl_none, List.cons_append, List.nil_append, nI_add, nI_ltb, nI_leb, nI_eqb, nI_cl, zin_nI, hsk, zk0_inl, h5, hlen, h4, c1, z1, hb, z2, z3]
            rfl
      rw [← e52, e54, takeWord_L hj hS hF2 ⟨h4, h5, h6, h7⟩ (by omega) (wln j) 0 (by omega)]
      unfold wm
      rw [decide_eq_true (show sk b n i + wln j ≤ n by omega), c3, Bool.true_and, Bool.not_false, Bool.and_true]
      cases c4 : wmF b (sk b n i) j (wln j) 0
      · rfl
      · rw [if_pos rfl, if_pos rfl, atM_at]
end Lx
