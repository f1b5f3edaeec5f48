-- THE REFERENCE. Small helpers
theorem lg_lt {x y : Int64} : (lg_cmp x y < nI 0) = (x.toInt < y.toInt) := by
  apply propext
  unfold lg_cmp
  rw [← Int64.lt_iff_toInt_lt]
  by_cases h : x > y
  · rw [if_pos h]
    exact ⟨fun h' => absurd h' (by decide +kernel), fun h' => absurd h (Int64.lt_asymm h')⟩
  · rw [if_neg h]
    by_cases e : x = y
    · rw [if_pos e]
      exact ⟨fun h' => absurd h' (by decide +kernel), fun h' => absurd h' (e ▸ Int64.lt_irrefl)⟩
    · rw [if_neg e]
      refine ⟨fun _ => ?_, fun _ => by decide +kernel⟩
      rw [Int64.lt_iff_toInt_lt]
      have h1 : ¬ y.toInt < x.toInt := fun q => h (Int64.lt_iff_toInt_lt.mpr q)
      have h2 : ¬ x.toInt = y.toInt := fun q => e (Int64.toInt_inj.mp q)
      omega
theorem lg_gt {x y : Int64} : (nI 0 < lg_cmp x y) = (y.toInt < x.toInt) := by
  apply propext
  unfold lg_cmp
  rw [← Int64.lt_iff_toInt_lt]
  by_cases h : x > y
  · rw [if_pos h]
    exact ⟨fun _ => h, fun _ => by decide +kernel⟩
  · rw [if_neg h]
    refine ⟨fun h' => ?_, fun h' => absurd h' h⟩
    exfalso
    split at h'
    · exact absurd h' (by decide +kernel)
    · exact absurd h' (by decide +kernel)
section Ref
variable {d : Nat} {M : ZM} {R : ZH}
theorem lies_ {a b c : Int64} : cal d 107 [.long a, .long b, .long c] M R = some (.inl (some (.int (b2i (decide (b.toInt ≤ a.toInt ∧ a.toInt ≤ c.toInt))))), M, R) := by
  rw [e107]
  simp (disch := first | assumption | exact nar_b0 | exact nar_b1 | exact nar_b | exact Or.inl rfl | exact Or.inr rfl | exact zin_t (by omega) (by omega) | exact Nat.le_of_ble_eq_true rfl | (rw [nI_cl (by omega)]; assumption) | omega) only [q107_0, q107_1, q107_2, q107_3, q107_6, q107_7, q107_9, q107_10, q107_13, q107_14, q107_17, q107_18, kl_int, kl_ref, kl_tok, cS_nil, cS_int, cS_ref, cS_long, tl_some, tl_none, List.cons_append, List.nil_append, nI_add, nI_ltb, nI_leb, nI_eqb, nI_cl, zin_nI, lg_lt, lg_gt]
  by_cases h1 : a.toInt < b.toInt
  · rw [if_pos h1, decide_eq_false (by omega)]; rfl
  · rw [if_neg h1]
    by_cases h2 : c.toInt < a.toInt
    · rw [if_pos h2, decide_eq_false (by omega)]; rfl
    · rw [if_neg h2, decide_eq_true (by omega)]; rfl
theorem has_ {S k : Nat} (hS : S < 2147483648) (hk : k < 32) : cal d 108 [.int (nI S), .int (nI k)] M R = some (.inl (some (.int (b2i (S.testBit k)))), M, R) := by
  rw [e108]
  simp (disch := first | assumption | exact nar_b0 | exact nar_b1 | exact nar_b | exact Or.inl rfl | exact Or.inr rfl | exact zin_t (by omega) (by omega) | exact Nat.le_of_ble_eq_true rfl | (rw [nI_cl (by omega)]; assumption) | omega) only [q108_0, q108_1, q108_2, q108_3, q108_4, q108_5, q108_6, q108_9, q108_10, q108_13, q108_14, kl_int, kl_ref, kl_tok, cS_nil, cS_int, cS_ref, cS_long, tl_some, tl_none, List.cons_append, List.nil_append, nI_add, nI_ltb, nI_leb, nI_eqb, nI_cl, zin_nI, tbit, b2i_1]
  cases S.testBit k <;> simp [b2i]
theorem isFine_t {c k : Int32} (hS : Sh R) (h0 : M 127 0 = nI 0) : cal d 106 [.ref 127, .int (nI 1), .int c, .int k] M R = some (.inl (some (.int (nI 1))), M, R) := by
  obtain ⟨nN, k127, k128, l128, k129, l129, k130, l130, k131, l131, k132, l132, k133, l133, k134, l134, k135, l135, k136, l136, k137, l137, k138, l138, k139, l139, k140, l140, k141, l141, k142, l142, k143, l143, k144, l144, k145, l145, k146, l146, f127_1, f127_2, f127_3, f127_4, f127_6, f127_7, f127_17, f127_18, f127_19, f127_22, f127_24, f127_25, f127_26, f127_29, f127_30, f127_31, f127_32, f127_33⟩ := modF hS
  have e1 : ¬ nI 1 = nI 0 := by decide
  rw [e106]
  simp (disch := first | assumption | exact nar_b0 | exact nar_b1 | exact nar_b | exact Or.inl rfl | exact Or.inr rfl | exact zin_t (by omega) (by omega) | exact Nat.le_of_ble_eq_true rfl | (rw [nI_cl (by omega)]; assumption) | omega) only [q106_0, q106_1, q106_4, q106_5, q106_8, q106_11, q106_12, q106_13, q106_16, q106_17, q106_20, q106_21, q106_22, q106_23, q106_24, q106_25, q106_26, q106_27, q106_30, q106_33, q106_34, q106_37, q106_38, kl_int, kl_ref, kl_tok, cS_nil, cS_int, cS_ref, cS_long, tl_some, tl_none, List.cons_append, List.nil_append, nI_add, nI_ltb, nI_leb, nI_eqb, nI_cl, zin_nI, h0, e1, not_false_eq_true, if_true, not_true_eq_false, if_false]
def fineM (M : ZM) (c k : Nat) : ZM := up2 (up2 M 127 0 (nI c)) 128 k (M 128 k + nI 1)
theorem isFine_f {c k : Nat} (hS : Sh R) (h0 : M 127 0 = nI 0) (hc : 1 ≤ c ∧ c ≤ 3) (hk : k < 3) : cal d 106 [.ref 127, .int (nI 0), .int (nI c), .int (nI k)] M R = some (.inl (some (.int (nI 0))), fineM M c k, R) := by
  obtain ⟨nN, k127, k128, l128, k129, l129, k130, l130, k131, l131, k132, l132, k133, l133, k134, l134, k135, l135, k136, l136, k137, l137, k138, l138, k139, l139, k140, l140, k141, l141, k142, l142, k143, l143, k144, l144, k145, l145, k146, l146, f127_1, f127_2, f127_3, f127_4, f127_6, f127_7, f127_17, f127_18, f127_19, f127_22, f127_24, f127_25, f127_26, f127_29, f127_30, f127_31, f127_32, f127_33⟩ := modF hS
  have e1 : ¬ c = 0 := by omega
  rw [e106]
  simp (disch := first | assumption | exact nar_b0 | exact nar_b1 | exact nar_b | exact Or.inl rfl | exact Or.inr rfl | exact zin_t (by omega) (by omega) | exact Nat.le_of_ble_eq_true rfl | (rw [nI_cl (by omega)]; assumption) | omega) only [q106_0, q106_1, q106_4, q106_5, q106_8, q106_11, q106_12, q106_13, q106_16, q106_17, q106_20, q106_21, q106_22, q106_23, q106_24, q106_25, q106_26, q106_27, q106_30, q106_33, q106_34, q106_37, q106_38, kl_int, kl_ref, kl_tok, cS_nil, cS_int, cS_ref, cS_long, tl_some, tl_none, List.cons_append, List.nil_append, nI_add, nI_ltb, nI_leb, nI_eqb, nI_cl, zin_nI, h0, not_false_eq_true, if_true, not_true_eq_false, if_false, up2_c, up2_at, up2_s, e1]
  rfl
end Ref
-- the game that the reference lays
def nmK (Rw : List P3) (k : Nat) : Nat := (Rw.getD k (0, 0, 0)).1
def GmR (M : ZM) (se sp bx : Nat) (Rw : List P3) (ts : List Nat) : Prop :=
  (M 127 27 = nI Rw.length ∧ M 127 28 = nI ts.length ∧ M 129 2 = nI se ∧ M 129 3 = nI sp ∧ M 129 4 = nI bx) ∧
  (∀ (j : Nat) (h : j < Rw.length), M 139 j = nI (Rw[j]).1 ∧ M 129 (8 + 4 * (Rw[j]).1) = iI (Rw[j]).2.1 ∧ M 129 (9 + 4 * (Rw[j]).1) = iI (Rw[j]).2.2) ∧
  (∀ (t : Nat) (h : t < ts.length), M 140 t = nI ts[t]) ∧ (Rw.length ≤ 10 ∧ ts.length ≤ 9 ∧ 1 ≤ se ∧ se ≤ 6 ∧ sp ≤ 3 ∧ bx ≤ 1) ∧
  (∀ p ∈ Rw, p.1 < 14 ∧ (-50 ≤ p.2.1 ∧ p.2.1 ≤ 50) ∧ (-50 ≤ p.2.2 ∧ p.2.2 ≤ 50)) ∧ (∀ (i j : Nat) (_ : i < j) (h : j < Rw.length), (Rw[i]).1 < (Rw[j]).1) ∧ (∀ s ∈ ts, s < 2)
theorem GmR.frame {M M' : ZM} {se sp bx : Nat} {Rw : List P3} {ts : List Nat} (h : GmR M se sp bx Rw ts) (h1 : M' 127 27 = M 127 27) (h2 : M' 127 28 = M 127 28) (h3 : M' 129 = M 129) (h4 : M' 139 = M 139) (h5 : M' 140 = M 140) : GmR M' se sp bx Rw ts := by
  unfold GmR
  rw [h1, h2, h3, h4, h5]
  exact h
theorem GmR.ok {M : ZM} {se sp bx : Nat} {Rw : List P3} {ts : List Nat} (h : GmR M se sp bx Rw ts) : okX Rw := ⟨h.2.2.2.1.1, fun p hp => (h.2.2.2.2.1 p hp).2⟩
theorem GmR.w {M : ZM} {se sp bx s : Nat} {Rw : List P3} {ts : List Nat} (h : GmR M se sp bx Rw ts) (hs : s < 2) (j : Nat) (hj : j < Rw.length) : M 129 (8 + 4 * (Rw[j]).1 + s) = iI (wS s Rw[j]) := by
  rcases (show s = 0 ∨ s = 1 by omega) with rfl | rfl
  · exact (h.2.1 j hj).2.1
  · have := (h.2.1 j hj).2.2
    rw [show 8 + 4 * (Rw[j]).1 + 1 = 9 + 4 * (Rw[j]).1 by omega]
    exact this
def cnS (bx se S k : Nat) : Bool := !S.testBit k && (decide (bx ≠ 1) || decide (cnt S k < se))
section Gm
variable {d se sp bx : Nat} {M : ZM} {R : ZH} {Rw : List P3} {ts : List Nat}
theorem worthTo_ {s j : Nat} (hs : s < 2) (hS : Sh R) (hG : GmR M se sp bx Rw ts) (hj : j < Rw.length) : cal d 146 [.ref 127, .int (nI j), .int (nI s)] M R = some (.inl (some (.int (iI (wS s Rw[j])))), M, R) := by
  obtain ⟨nN, k127, k128, l128, k129, l129, k130, l130, k131, l131, k132, l132, k133, l133, k134, l134, k135, l135, k136, l136, k137, l137, k138, l138, k139, l139, k140, l140, k141, l141, k142, l142, k143, l143, k144, l144, k145, l145, k146, l146, f127_1, f127_2, f127_3, f127_4, f127_6, f127_7, f127_17, f127_18, f127_19, f127_22, f127_24, f127_25, f127_26, f127_29, f127_30, f127_31, f127_32, f127_33⟩ := modF hS
  have h1 := (hG.2.1 j hj).1
  have h2 := hG.w hs j hj
  have h3 := (hG.2.2.2.2.1 _ (List.getElem_mem hj)).1
  have h4 := hG.2.2.2.1.1
  rw [e146]
  simp (disch := first | assumption | exact nar_b0 | exact nar_b1 | exact nar_b | exact Or.inl rfl | exact Or.inr rfl | exact zin_t (by omega) (by omega) | exact Nat.le_of_ble_eq_true rfl | (rw [nI_cl (by omega)]; assumption) | omega) only [q146_0, q146_1, q146_4, q146_6, q146_7, q146_8, q146_11, q146_12, q146_13, q146_14, q146_15, q146_16, q146_17, q146_18, kl_int, kl_ref, kl_tok, cS_nil, cS_int, cS_ref, cS_long, tl_some, tl_none, List.cons_append, List.nil_append, nI_add, nI_ltb, nI_leb, nI_eqb, nI_cl, zin_nI, h1, nI_mul, h2]
theorem aheadOf_L {S p : Nat} (hSt : S < 2147483648) (hp : p < 32) : ∀ (m i : Nat), i + m = p → exe (d + 1) 147 5 [.ref 127, .int (nI p), .int (nI S), .int (nI (cnt S i)), .int (nI i)] [] M R = some (.inl (some (.int (nI (cnt S p)))), M, R) := by
  intro m
  induction m with
  | zero =>
    intro i hi
    rw [q147_5]
    simp (disch := first | assumption | exact nar_b0 | exact nar_b1 | exact nar_b | exact Or.inl rfl | exact Or.inr rfl | exact zin_t (by omega) (by omega) | exact Nat.le_of_ble_eq_true rfl | (rw [nI_cl (by omega)]; assumption) | omega) only [q147_0, q147_1, q147_2, q147_3, q147_7, q147_8, q147_11, q147_12, q147_13, q147_15, q147_18, q147_21, q147_22, q147_25, q147_26, q147_27, q147_28, q147_31, q147_34, q147_35, kl_int, kl_ref, kl_tok, cS_nil, cS_int, cS_ref, cS_long, tl_some, tl_none, List.cons_append, List.nil_append, nI_add, nI_ltb, nI_leb, nI_eqb, nI_cl, zin_nI]
    rw [if_pos (by omega), show i = p by omega]
  | succ m ih =>
    intro i hi
    have hc := has_ (d := d) (M := M) (R := R) (S := S) (k := i) hSt (by omega)
    have hcl := cnt_le S i
    have g := ih (i + 1) (by omega)
    have e : cnt S (i + 1) = cnt S i + if S.testBit i then 0 else 1 := rfl
    rw [e] at g
    rw [q147_5]
    simp (disch := first | assumption | exact nar_b0 | exact nar_b1 | exact nar_b | exact Or.inl rfl | exact Or.inr rfl | exact zin_t (by omega) (by omega) | exact Nat.le_of_ble_eq_true rfl | (rw [nI_cl (by omega)]; assumption) | omega) only [q147_0, q147_1, q147_2, q147_3, q147_7, q147_8, q147_11, q147_12, q147_13, q147_15, q147_18, q147_21, q147_22, q147_25, q147_26, q147_27, q147_28, q147_31, q147_34, q147_35, kl_int, kl_ref, kl_tok, cS_nil, cS_int, cS_ref, cS_long, tl_some, tl_none, List.cons_append, List.nil_append, nI_add, nI_ltb, nI_leb, nI_eqb, nI_cl, zin_nI, hc, zk0_inl, b2i_0]
    rw [if_neg (by omega)]
    cases hb : S.testBit i
    · rw [hb] at g
      simpa using g
    · rw [hb] at g
      simpa using g
theorem aheadOf_ {S p : Nat} (hSt : S < 2147483648) (hp : p < 32) : cal (d + 1) 147 [.ref 127, .int (nI p), .int (nI S)] M R = some (.inl (some (.int (nI (cnt S p)))), M, R) := by
  rw [e147]
  simp (disch := first | assumption | exact nar_b0 | exact nar_b1 | exact nar_b | exact Or.inl rfl | exact Or.inr rfl | exact zin_t (by omega) (by omega) | exact Nat.le_of_ble_eq_true rfl | (rw [nI_cl (by omega)]; assumption) | omega) only [q147_0, q147_1, q147_2, q147_3, q147_7, q147_8, q147_11, q147_12, q147_13, q147_15, q147_18, q147_21, q147_22, q147_25, q147_26, q147_27, q147_28, q147_31, q147_34, q147_35, kl_int, kl_ref, kl_tok, cS_nil, cS_int, cS_ref, cS_long, tl_some, tl_none, List.cons_append, List.nil_append, nI_add, nI_ltb, nI_leb, nI_eqb, nI_cl, zin_nI]
  exact aheadOf_L hSt hp p 0 (by omega)
theorem isBoxed_ {S p : Nat} (hSt : S < 2147483648) (hp : p < 32) (hS : Sh R) (h2 : M 129 2 = nI se) (hse : se < 100) : cal (d + 2) 148 [.ref 127, .int (nI p), .int (nI S)] M R = some (.inl (some (.int (b2i (!S.testBit p && decide (cnt S p < se))))), M, R) := by
  obtain ⟨nN, k127, k128, l128, k129, l129, k130, l130, k131, l131, k132, l132, k133, l133, k134, l134, k135, l135, k136, l136, k137, l137, k138, l138, k139, l139, k140, l140, k141, l141, k142, l142, k143, l143, k144, l144, k145, l145, k146, l146, f127_1, f127_2, f127_3, f127_4, f127_6, f127_7, f127_17, f127_18, f127_19, f127_22, f127_24, f127_25, f127_26, f127_29, f127_30, f127_31, f127_32, f127_33⟩ := modF hS
  have hc1 := has_ (d := d + 1) (M := M) (R := R) (S := S) (k := p) hSt hp
  have hc2 := aheadOf_ (d := d) (M := M) (R := R) (S := S) (p := p) hSt hp
  have hcl := cnt_le S p
  rw [e148]
  simp (disch := first | assumption | exact nar_b0 | exact nar_b1 | exact nar_b | exact Or.inl rfl | exact Or.inr rfl | exact zin_t (by omega) (by omega) | exact Nat.le_of_ble_eq_true rfl | (rw [nI_cl (by omega)]; assumption) | omega) only [q148_0, q148_1, q148_2, q148_5, q148_8, q148_9, q148_10, q148_11, q148_14, q148_15, q148_18, q148_19, q148_20, q148_23, q148_24, q148_27, q148_28, kl_int, kl_ref, kl_tok, cS_nil, cS_int, cS_ref, cS_long, tl_some, tl_none, List.cons_append, List.nil_append, nI_add, nI_ltb, nI_leb, nI_eqb, nI_cl, zin_nI, hc1, hc2, zk0_inl, b2i_0, h2]
  cases hb : S.testBit p
  · by_cases h : cnt S p < se
    · simp [h, show ¬ se ≤ cnt S p by omega, b2i]
    · simp [h, show se ≤ cnt S p by omega, b2i]
  · simp [b2i]
theorem i64 {n : Nat} (h : n < 2147483648) : (nI n).toInt64.toInt = (n : Int) := by
  rw [Int32.toInt_toInt64, nI_toInt h]
theorem isSpare_ {S p : Nat} (hSt : S < 2147483648) (hp : p < 32) (hS : Sh R) (h2 : M 129 2 = nI se) (h3 : M 129 3 = nI sp) (hse : 1 ≤ se ∧ se < 100) (hsp : sp < 100) : cal (d + 2) 149 [.ref 127, .int (nI p), .int (nI S)] M R = some (.inl (some (.int (b2i (!S.testBit p && decide (se ≤ cnt S p ∧ cnt S p < se + sp))))), M, R) := by
  obtain ⟨nN, k127, k128, l128, k129, l129, k130, l130, k131, l131, k132, l132, k133, l133, k134, l134, k135, l135, k136, l136, k137, l137, k138, l138, k139, l139, k140, l140, k141, l141, k142, l142, k143, l143, k144, l144, k145, l145, k146, l146, f127_1, f127_2, f127_3, f127_4, f127_6, f127_7, f127_17, f127_18, f127_19, f127_22, f127_24, f127_25, f127_26, f127_29, f127_30, f127_31, f127_32, f127_33⟩ := modF hS
  have hc1 := has_ (d := d + 1) (M := M) (R := R) (S := S) (k := p) hSt hp
  have hc2 := aheadOf_ (d := d) (M := M) (R := R) (S := S) (p := p) hSt hp
  have hcl := cnt_le S p
  rw [e149]
  simp (disch := first | assumption | exact nar_b0 | exact nar_b1 | exact nar_b | exact Or.inl rfl | exact Or.inr rfl | exact zin_t (by omega) (by omega) | exact Nat.le_of_ble_eq_true rfl | (rw [nI_cl (by omega)]; assumption) | omega) only [q149_0, q149_1, q149_2, q149_5, q149_8, q149_9, q149_10, q149_11, q149_14, q149_15, q149_16, q149_19, q149_20, q149_21, q149_22, q149_23, q149_26, q149_27, q149_28, q149_29, q149_32, q149_33, q149_34, q149_35, q149_36, q149_37, q149_38, q149_41, q149_44, q149_45, q149_48, q149_49, kl_int, kl_ref, kl_tok, cS_nil, cS_int, cS_ref, cS_long, tl_some, tl_none, List.cons_append, List.nil_append, nI_add, nI_ltb, nI_leb, nI_eqb, nI_cl, zin_nI, hc1, hc2, zk0_inl, b2i_0, h2, h3, nI_sub1, lies_, i64]
  cases hb : S.testBit p
  · by_cases h : se ≤ cnt S p ∧ cnt S p < se + sp
    · rw [decide_eq_true (show (se : Int) ≤ (cnt S p : Int) ∧ (cnt S p : Int) ≤ ((se + sp - 1 : Nat) : Int) by omega), decide_eq_true h]
      simp [b2i]
    · rw [decide_eq_false (show ¬ ((se : Int) ≤ (cnt S p : Int) ∧ (cnt S p : Int) ≤ ((se + sp - 1 : Nat) : Int)) by omega), decide_eq_false h]
      simp [b2i]
  · simp [b2i]
theorem endWR_L {s S : Nat} (hs : s < 2) (hSt : S < 1024) (hS : Sh R) (hG : GmR M se sp bx Rw ts) : ∀ (m i : Nat) (u : Int), i + m = Rw.length → exe (d + 3) 150 5 [.ref 127, .int (nI S), .int (nI s), .int (iI u), .int (nI i)] [] M R = some (.inl (some (.int (iI (u + endF se sp (cnt S i) ((remI (Rw.drop i) S i).map (wS s)))))), M, R) := by
  obtain ⟨nN, k127, k128, l128, k129, l129, k130, l130, k131, l131, k132, l132, k133, l133, k134, l134, k135, l135, k136, l136, k137, l137, k138, l138, k139, l139, k140, l140, k141, l141, k142, l142, k143, l143, k144, l144, k145, l145, k146, l146, f127_1, f127_2, f127_3, f127_4, f127_6, f127_7, f127_17, f127_18, f127_19, f127_22, f127_24, f127_25, f127_26, f127_29, f127_30, f127_31, f127_32, f127_33⟩ := modF hS
  have h2 := hG.1
  have hl := hG.2.2.2.1
  intro m
  induction m with
  | zero =>
    intro i u hi
    rw [q150_5]
    simp (disch := first | assumption | exact nar_b0 | exact nar_b1 | exact nar_b | exact Or.inl rfl | exact Or.inr rfl | exact zin_t (by omega) (by omega) | exact Nat.le_of_ble_eq_true rfl | (rw [nI_cl (by omega)]; assumption) | omega) only [q150_0, q150_1, q150_2, q150_3, q150_7, q150_8, q150_11, q150_14, q150_15, q150_16, q150_18, q150_19, q150_22, q150_25, q150_26, q150_27, q150_29, q150_30, q150_33, q150_34, q150_37, q150_38, q150_40, q150_41, q150_44, q150_47, q150_48, q150_50, q150_51, q150_54, q150_57, q150_58, q150_59, q150_60, q150_63, q150_66, q150_67, kl_int, kl_ref, kl_tok, cS_nil, cS_int, cS_ref, cS_long, tl_some, tl_none, List.cons_append, List.nil_append, nI_add, nI_ltb, nI_leb, nI_eqb, nI_cl, zin_nI, h2.1]
    rw [if_pos (by omega), remI_end (by omega)]
    simp [endF]
  | succ m ih =>
    intro i u hi
    have hw := worthTo_ (d := d + 2) (j := i) hs hS hG (by omega)
    have hb := isBoxed_ (d := d) (M := M) (R := R) (S := S) (p := i) (by omega) (by omega) hS h2.2.2.1 (by omega)
    have hp := isSpare_ (d := d) (M := M) (R := R) (S := S) (p := i) (by omega) (by omega) hS h2.2.2.1 h2.2.2.2.1 (by omega) (by omega)
    have e : cnt S (i + 1) = cnt S i + if S.testBit i then 0 else 1 := rfl
    have e0 : ∀ u, iI u + nI 0 = iI u := fun u => by rw [nI_iI, iI_add]; simp
    have g := fun u => ih (i + 1) u (by omega)
    rw [e] at g
    rw [q150_5]
    simp (disch := first | assumption | exact nar_b0 | exact nar_b1 | exact nar_b | exact Or.inl rfl | exact Or.inr rfl | exact zin_t (by omega) (by omega) | exact Nat.le_of_ble_eq_true rfl | (rw [nI_cl (by omega)]; assumption) | omega) only [q150_0, q150_1, q150_2, q150_3, q150_7, q150_8, q150_11, q150_14, q150_15, q150_16, q150_18, q150_19, q150_22, q150_25, q150_26, q150_27, q150_29, q150_30, q150_33, q150_34, q150_37, q150_38, q150_40, q150_41, q150_44, q150_47, q150_48, q150_50, q150_51, q150_54, q150_57, q150_58, q150_59, q150_60, q150_63, q150_66, q150_67, kl_int, kl_ref, kl_tok, cS_nil, cS_int, cS_ref, cS_long, tl_some, tl_none, List.cons_append, List.nil_append, nI_add, nI_ltb, nI_leb, nI_eqb, nI_cl, zin_nI, h2.1, hb, hp, hw, zk0_inl, b2i_0, n2i, iI_add, e0]
    rw [if_neg (by omega), remI_step (l := Rw) (S := S) (i := i) (by omega)]
    cases hbi : S.testBit i
    · rw [hbi] at g
      by_cases e2 : cnt S i < se
      · simp [e2, endF, Int.add_assoc, g]
      · by_cases e3 : cnt S i < se + sp
        · simp [e2, show se ≤ cnt S i by omega, e3, endF, Int.add_assoc, g]
        · simp [e2, show se ≤ cnt S i by omega, e3, endF, g]
    · rw [hbi] at g
      simp [g]
theorem endWR_ {s S : Nat} (hs : s < 2) (hSt : S < 1024) (hS : Sh R) (hG : GmR M se sp bx Rw ts) : cal (d + 3) 150 [.ref 127, .int (nI S), .int (nI s)] M R = some (.inl (some (.int (iI (endF se sp 0 ((rem Rw S).map (wS s)))))), M, R) := by
  rw [e150]
  simp (disch := first | assumption | exact nar_b0 | exact nar_b1 | exact nar_b | exact Or.inl rfl | exact Or.inr rfl | exact zin_t (by omega) (by omega) | exact Nat.le_of_ble_eq_true rfl | (rw [nI_cl (by omega)]; assumption) | omega) only [q150_0, q150_1, q150_2, q150_3, q150_7, q150_8, q150_11, q150_14, q150_15, q150_16, q150_18, q150_19, q150_22, q150_25, q150_26, q150_27, q150_29, q150_30, q150_33, q150_34, q150_37, q150_38, q150_40, q150_41, q150_44, q150_47, q150_48, q150_50, q150_51, q150_54, q150_57, q150_58, q150_59, q150_60, q150_63, q150_66, q150_67, kl_int, kl_ref, kl_tok, cS_nil, cS_int, cS_ref, cS_long, tl_some, tl_none, List.cons_append, List.nil_append, nI_add, nI_ltb, nI_leb, nI_eqb, nI_cl, zin_nI]
  have h := endWR_L (d := d) hs hSt hS hG Rw.length 0 0 (by omega)
  rw [Int.zero_add, List.drop_zero] at h
  exact h
theorem canStrike_ {S p : Nat} (hSt : S < 2147483648) (hp : p < 32) (hS : Sh R) (h2 : M 129 2 = nI se) (h4 : M 129 4 = nI bx) (hse : se < 100) (hbx : bx ≤ 1) : cal (d + 3) 151 [.ref 127, .int (nI p), .int (nI S)] M R = some (.inl (some (.int (b2i (cnS bx se S p)))), M, R) := by
  obtain ⟨nN, k127, k128, l128, k129, l129, k130, l130, k131, l131, k132, l132, k133, l133, k134, l134, k135, l135, k136, l136, k137, l137, k138, l138, k139, l139, k140, l140, k141, l141, k142, l142, k143, l143, k144, l144, k145, l145, k146, l146, f127_1, f127_2, f127_3, f127_4, f127_6, f127_7, f127_17, f127_18, f127_19, f127_22, f127_24, f127_25, f127_26, f127_29, f127_30, f127_31, f127_32, f127_33⟩ := modF hS
  have hc1 := has_ (d := d + 2) (M := M) (R := R) (S := S) (k := p) hSt hp
  have hc2 := isBoxed_ (d := d) (M := M) (R := R) (S := S) (p := p) hSt hp hS h2 hse
  rw [e151]
  simp (disch := first | assumption | exact nar_b0 | exact nar_b1 | exact nar_b | exact nar_b | exact Or.inl rfl | exact Or.inr rfl | exact zin_t (by omega) (by omega) | exact Nat.le_of_ble_eq_true rfl | (rw [nI_cl (by omega)]; assumption) | omega) only [q151_0, q151_1, q151_4, q151_5, q151_6, q151_7, q151_10, q151_11, q151_12, q151_13, q151_16, q151_19, q151_20, q151_21, q151_24, q151_27, q151_28, q151_31, q151_32, kl_int, kl_ref, kl_tok, cS_nil, cS_int, cS_ref, cS_long, tl_some, tl_none, List.cons_append, List.nil_append, nI_add, nI_ltb, nI_leb, nI_eqb, nI_cl, zin_nI, hc1, hc2, zk0_inl, b2i_0, h4]
  unfold cnS
  by_cases e : bx = 1
  · simp [e]
  · cases hb : S.testBit p <;> simp [e, b2i]
def setB (p : Nat → Bool) : Nat → Nat
  | 0 => 0
  | n + 1 => setB p n ||| (if p n then 2 ^ n else 0)
theorem setB_lt (p : Nat → Bool) : ∀ n, setB p n < 2 ^ n
  | 0 => Nat.one_pos
  | n + 1 => by
    have h := setB_lt p n
    have h1 : 2 ^ n < 2 ^ (n + 1) := Nat.pow_lt_pow_right (by decide) (by omega)
    unfold setB
    refine Nat.or_lt_two_pow (by omega) ?_
    split
    · exact h1
    · exact Nat.two_pow_pos _
theorem setB_bit (p : Nat → Bool) (k : Nat) : ∀ n, (setB p n).testBit k = (decide (k < n) && p k)
  | 0 => by simp [setB]
  | n + 1 => by
    unfold setB
    rw [Nat.testBit_or, setB_bit p k n]
    by_cases e : k = n
    · subst e
      cases hp : p k <;> simp
    · have h1 : (if p n = true then 2 ^ n else 0).testBit k = false := by
        split
        · rw [Nat.testBit_two_pow]
          exact decide_eq_false (fun q => e q.symm)
        · exact Nat.zero_testBit _
      rw [h1, Bool.or_false]
      by_cases h2 : k < n
      · simp [h2, show k < n + 1 by omega]
      · simp [h2, show ¬ k < n + 1 by omega]
def stN (f : Nat → Int32) (Rw : List P3) : Nat := setB (fun k => stk f (nmK Rw k)) Rw.length
theorem struckNow_L (hS : Sh R) (hG : GmR M se sp bx Rw ts) : ∀ (m i : Nat), i + m = Rw.length → exe d 145 4 [.ref 127, .int (nI (setB (fun k => stk (M 129) (nmK Rw k)) i)), .int (nI i)] [] M R = some (.inl (some (.int (nI (stN (M 129) Rw)))), M, R) := by
  obtain ⟨nN, k127, k128, l128, k129, l129, k130, l130, k131, l131, k132, l132, k133, l133, k134, l134, k135, l135, k136, l136, k137, l137, k138, l138, k139, l139, k140, l140, k141, l141, k142, l142, k143, l143, k144, l144, k145, l145, k146, l146, f127_1, f127_2, f127_3, f127_4, f127_6, f127_7, f127_17, f127_18, f127_19, f127_22, f127_24, f127_25, f127_26, f127_29, f127_30, f127_31, f127_32, f127_33⟩ := modF hS
  have h2 := hG.1
  have hl := hG.2.2.2.1
  intro m
  induction m with
  | zero =>
    intro i hi
    rw [q145_4]
    simp (disch := first | assumption | exact nar_b0 | exact nar_b1 | exact nar_b | exact Or.inl rfl | exact Or.inr rfl | exact zin_t (by omega) (by omega) | exact Nat.le_of_ble_eq_true rfl | (rw [nI_cl (by omega)]; assumption) | omega) only [q145_0, q145_1, q145_2, q145_3, q145_5, q145_6, q145_9, q145_12, q145_13, q145_14, q145_17, q145_19, q145_20, q145_23, q145_24, q145_25, q145_26, q145_27, q145_28, q145_31, q145_32, q145_35, q145_36, q145_37, q145_38, q145_39, q145_40, q145_43, q145_46, q145_47, kl_int, kl_ref, kl_tok, cS_nil, cS_int, cS_ref, cS_long, tl_some, tl_none, List.cons_append, List.nil_append, nI_add, nI_ltb, nI_leb, nI_eqb, nI_cl, zin_nI, h2.1]
    rw [if_pos (by omega), show i = Rw.length by omega]
    rfl
  | succ m ih =>
    intro i hi
    have h1 := (hG.2.1 i (by omega)).1
    have h3 := (hG.2.2.2.2.1 _ (List.getElem_mem (show i < Rw.length by omega))).1
    have hn : nmK Rw i = (Rw[i]).1 := by
      unfold nmK
      rw [List.getD_eq_getElem?_getD, List.getElem?_eq_getElem (by omega)]
      rfl
    have g := ih (i + 1) (by omega)
    rw [setB] at g
    simp only [hn] at g
    rw [q145_4]
    simp (disch := first | assumption | exact nar_b0 | exact nar_b1 | exact nar_b | exact Or.inl rfl | exact Or.inr rfl | exact zin_t (by omega) (by omega) | exact Nat.le_of_ble_eq_true rfl | (rw [nI_cl (by omega)]; assumption) | omega) only [q145_0, q145_1, q145_2, q145_3, q145_5, q145_6, q145_9, q145_12, q145_13, q145_14, q145_17, q145_19, q145_20, q145_23, q145_24, q145_25, q145_26, q145_27, q145_28, q145_31, q145_32, q145_35, q145_36, q145_37, q145_38, q145_39, q145_40, q145_43, q145_46, q145_47, kl_int, kl_ref, kl_tok, cS_nil, cS_int, cS_ref, cS_long, tl_some, tl_none, List.cons_append, List.nil_append, nI_add, nI_ltb, nI_leb, nI_eqb, nI_cl, zin_nI, h2.1, h1, nI_shl, Nat.one_mul, nI_or]
    rw [if_neg (by omega)]
    unfold stk at g
    by_cases e : M 129 (78 + (Rw[i]).1) = -1
    · rw [if_neg (fun q => q e)]
      simpa [e, stk] using g
    · rw [if_pos e]
      simpa [e, stk] using g
theorem struckNow_ (hS : Sh R) (hG : GmR M se sp bx Rw ts) : cal d 145 [.ref 127] M R = some (.inl (some (.int (nI (stN (M 129) Rw)))), M, R) := by
  rw [e145]
  simp (disch := first | assumption | exact nar_b0 | exact nar_b1 | exact nar_b | exact Or.inl rfl | exact Or.inr rfl | exact zin_t (by omega) (by omega) | exact Nat.le_of_ble_eq_true rfl | (rw [nI_cl (by omega)]; assumption) | omega) only [q145_0, q145_1, q145_2, q145_3, q145_5, q145_6, q145_9, q145_12, q145_13, q145_14, q145_17, q145_19, q145_20, q145_23, q145_24, q145_25, q145_26, q145_27, q145_28, q145_31, q145_32, q145_35, q145_36, q145_37, q145_38, q145_39, q145_40, q145_43, q145_46, q145_47, kl_int, kl_ref, kl_tok, cS_nil, cS_int, cS_ref, cS_long, tl_some, tl_none, List.cons_append, List.nil_append, nI_add, nI_ltb, nI_leb, nI_eqb, nI_cl, zin_nI]
  exact struckNow_L hS hG Rw.length 0 (by omega)
end Gm
-- the row of those told
def RowL (f : Nat → Int32) : List P3 := (List.range (ln f)).map (fun k => pers f (rw f k))
theorem RowL_len {f : Nat → Int32} : (RowL f).length = ln f := by simp [RowL]
theorem RowL_get {f : Nat → Int32} {k : Nat} (h : k < (RowL f).length) : (RowL f)[k] = pers f (rw f k) := by simp [RowL]
theorem tsl_len {bits T : Nat} : (tsl bits T).length = T := by simp [tsl]
theorem tsl_get {bits T t : Nat} (h : t < (tsl bits T).length) : (tsl bits T)[t] = sbit bits t := by simp [tsl]
section Lg
variable {d : Nat} {M : ZM} {R : ZH}
theorem laysGame_1 (hS : Sh R) (hW : Wf (M 129)) : ∀ (m i : Nat) (M' : ZM), i + m = ln (M 129) → M' 129 = M 129 → M' 127 27 = nI (ln (M 129)) → (∀ k, k < i → M' 139 k = nI (rw (M 129) k)) → ∃ M2, exe (d + 1) 144 13 [.ref 127, .int (nI i)] [] M' R = exe (d + 1) 144 42 [.ref 127, .int (nI (ln (M 129)))] [] M2 R ∧ (∀ k, k < ln (M 129) → M2 139 k = nI (rw (M 129) k)) ∧ ∀ c, c ≠ 139 → M2 c = M' c := by
  obtain ⟨nN, k127, k128, l128, k129, l129, k130, l130, k131, l131, k132, l132, k133, l133, k134, l134, k135, l135, k136, l136, k137, l137, k138, l138, k139, l139, k140, l140, k141, l141, k142, l142, k143, l143, k144, l144, k145, l145, k146, l146, f127_1, f127_2, f127_3, f127_4, f127_6, f127_7, f127_17, f127_18, f127_19, f127_22, f127_24, f127_25, f127_26, f127_29, f127_30, f127_31, f127_32, f127_33⟩ := modF hS
  have hl := hW.1.2.2.2.2.2.2.2.2
  intro m
  induction m with
  | zero =>
    intro i M' hi h9 h27 hr
    refine ⟨M', ?_, fun k hk => hr k (by omega), fun _ _ => rfl⟩
    rw [q144_13]
    simp (disch := first | assumption | exact nar_b0 | exact nar_b1 | exact nar_b | exact Or.inl rfl | exact Or.inr rfl | exact zin_t (by omega) (by omega) | exact Nat.le_of_ble_eq_true rfl | (rw [nI_cl (by omega)]; assumption) | omega) only [q144_0, q144_1, q144_2, q144_5, q144_7, q144_8, q144_11, q144_12, q144_14, q144_15, q144_18, q144_21, q144_22, q144_25, q144_26, q144_27, q144_30, q144_32, q144_33, q144_34, q144_35, q144_36, q144_39, q144_43, q144_44, q144_47, q144_48, q144_49, q144_52, q144_53, q144_55, q144_56, q144_59, q144_62, q144_63, q144_66, q144_67, q144_68, q144_71, q144_73, q144_74, q144_75, q144_78, q144_81, q144_82, q144_85, q144_86, q144_87, q144_90, q144_93, kl_int, kl_ref, kl_tok, cS_nil, cS_int, cS_ref, cS_long, tl_some, tl_none, List.cons_append, List.nil_append, nI_add, nI_ltb, nI_leb, nI_eqb, nI_cl, zin_nI, h27]
    rw [if_pos (by omega), show i = ln (M 129) by omega]
  | succ m ih =>
    intro i M' hi h9 h27 hr
    have h1 := (hW.2.2.1 i (by omega)).1
    obtain ⟨M2, g1, g2, g3⟩ := ih (i + 1) (up2 M' 139 i (nI (rw (M 129) i))) (by omega) (by rw [up2_ne (by decide)]; exact h9) (by rw [up2_c (by decide)]; exact h27) (fun k hk => by
      by_cases e : k = i
      · subst e; rw [up2_at]
      · rw [up2_s e]; exact hr k (by omega))
    refine ⟨M2, ?_, g2, fun c h => by rw [g3 c h, up2_ne h]⟩
    rw [← g1]
    rw [q144_13]
    simp (disch := first | assumption | exact nar_b0 | exact nar_b1 | exact nar_b | exact Or.inl rfl | exact Or.inr rfl | exact zin_t (by omega) (by omega) | exact Nat.le_of_ble_eq_true rfl | (rw [nI_cl (by omega)]; assumption) | omega) only [q144_0, q144_1, q144_2, q144_5, q144_7, q144_8, q144_11, q144_12, q144_14, q144_15, q144_18, q144_21, q144_22, q144_25, q144_26, q144_27, q144_30, q144_32, q144_33, q144_34, q144_35, q144_36, q144_39, q144_42, q144_43, q144_44, q144_47, q144_48, q144_49, q144_52, q144_53, q144_55, q144_56, q144_59, q144_62, q144_63, q144_66, q144_67, q144_68, q144_71, q144_73, q144_74, q144_75, q144_78, q144_81, q144_82, q144_85, q144_86, q144_87, q144_90, q144_93, kl_int, kl_ref, kl_tok, cS_nil, cS_int, cS_ref, cS_long, tl_some, tl_none, List.cons_append, List.nil_append, nI_add, nI_ltb, nI_leb, nI_eqb, nI_cl, zin_nI, h27, h9, h1]
    rw [if_neg (by omega)]
theorem laysGame_2 (hS : Sh R) (hW : Wf (M 129)) : ∀ (m i : Nat) (M' : ZM), i + m = lf (M 129) → M' 129 = M 129 → M' 127 28 = nI (lf (M 129)) → (∀ k, k < i → M' 140 k = nI (sbit (bs (M 129)) k)) → ∃ M2, exe (d + 1) 144 54 [.ref 127, .int (nI i)] [] M' R = some (.inl none, M2, R) ∧ (∀ k, k < lf (M 129) → M2 140 k = nI (sbit (bs (M 129)) k)) ∧ ∀ c, c ≠ 140 → M2 c = M' c := by
  obtain ⟨nN, k127, k128, l128, k129, l129, k130, l130, k131, l131, k132, l132, k133, l133, k134, l134, k135, l135, k136, l136, k137, l137, k138, l138, k139, l139, k140, l140, k141, l141, k142, l142, k143, l143, k144, l144, k145, l145, k146, l146, f127_1, f127_2, f127_3, f127_4, f127_6, f127_7, f127_17, f127_18, f127_19, f127_22, f127_24, f127_25, f127_26, f127_29, f127_30, f127_31, f127_32, f127_33⟩ := modF hS
  have hl := hW.1.2.2.2.2.2.1
  have h6 := hW.1.2.2.2.2.2.2.1
  have hp : 2 ^ lf (M 129) ≤ 2 ^ 8 := Nat.pow_le_pow_right (by decide) hl.2
  intro m
  induction m with
  | zero =>
    intro i M' hi h9 h28 hr
    refine ⟨M', ?_, fun k hk => hr k (by omega), fun _ _ => rfl⟩
    rw [q144_54]
    simp (disch := first | assumption | exact nar_b0 | exact nar_b1 | exact nar_b | exact Or.inl rfl | exact Or.inr rfl | exact zin_t (by omega) (by omega) | exact Nat.le_of_ble_eq_true rfl | (rw [nI_cl (by omega)]; assumption) | omega) only [q144_0, q144_1, q144_2, q144_5, q144_7, q144_8, q144_11, q144_12, q144_14, q144_15, q144_18, q144_21, q144_22, q144_25, q144_26, q144_27, q144_30, q144_32, q144_33, q144_34, q144_35, q144_36, q144_39, q144_42, q144_43, q144_44, q144_47, q144_48, q144_49, q144_52, q144_53, q144_55, q144_56, q144_59, q144_62, q144_63, q144_66, q144_67, q144_68, q144_71, q144_73, q144_74, q144_75, q144_78, q144_81, q144_82, q144_85, q144_86, q144_87, q144_90, q144_93, kl_int, kl_ref, kl_tok, cS_nil, cS_int, cS_ref, cS_long, tl_some, tl_none, List.cons_append, List.nil_append, nI_add, nI_ltb, nI_leb, nI_eqb, nI_cl, zin_nI, h28]
    rw [if_pos (by omega)]
  | succ m ih =>
    intro i M' hi h9 h28 hr
    have hc := has_ (d := d) (M := M') (R := R) (S := bs (M 129)) (k := i) (by omega) (by omega)
    obtain ⟨M2, g1, g2, g3⟩ := ih (i + 1) (up2 M' 140 i (nI (sbit (bs (M 129)) i))) (by omega) (by rw [up2_ne (by decide)]; exact h9) (by rw [up2_c (by decide)]; exact h28) (fun k hk => by
      by_cases e : k = i
      · subst e; rw [up2_at]
      · rw [up2_s e]; exact hr k (by omega))
    refine ⟨M2, ?_, g2, fun c h => by rw [g3 c h, up2_ne h]⟩
    rw [← g1]
    rw [q144_54]
    simp (disch := first | assumption | exact nar_b0 | exact nar_b1 | exact nar_b | exact Or.inl rfl | exact Or.inr rfl | exact zin_t (by omega) (by omega) | exact Nat.le_of_ble_eq_true rfl | (rw [nI_cl (by omega)]; assumption) | omega) only [q144_0, q144_1, q144_2, q144_5, q144_7, q144_8, q144_11, q144_12, q144_14, q144_15, q144_18, q144_21, q144_22, q144_25, q144_26, q144_27, q144_30, q144_32, q144_33, q144_34, q144_35, q144_36, q144_39, q144_42, q144_43, q144_44, q144_47, q144_48, q144_49, q144_52, q144_53, q144_55, q144_56, q144_59, q144_62, q144_63, q144_66, q144_67, q144_68, q144_71, q144_73, q144_74, q144_75, q144_78, q144_81, q144_82, q144_85, q144_86, q144_87, q144_90, q144_93, kl_int, kl_ref, kl_tok, cS_nil, cS_int, cS_ref, cS_long, tl_some, tl_none, List.cons_append, List.nil_append, nI_add, nI_ltb, nI_leb, nI_eqb, nI_cl, zin_nI, h28, h9, h6.1, hc, zk0_inl, b2i_0]
    rw [if_neg (by omega)]
    unfold sbit
    cases (bs (M 129)).testBit i <;> simp
theorem pers_b {f : Nat → Int32} (hW : Wf f) {k : Nat} (hk : k < jn f + tn f) : (pers f k).1 < 14 ∧ (-50 ≤ (pers f k).2.1 ∧ (pers f k).2.1 ≤ 50) ∧ (-50 ≤ (pers f k).2.2 ∧ (pers f k).2.2 ≤ 50) := by
  have h1 := hW.1.1.2
  have h2 := hW.1.2.1.2
  refine ⟨?_, (hW.2.1 k hk).1, (hW.2.1 k hk).2⟩
  show k < 14
  omega
theorem RowL_ok {f : Nat → Int32} (hW : Wf f) : (∀ p ∈ RowL f, p.1 < 14 ∧ (-50 ≤ p.2.1 ∧ p.2.1 ≤ 50) ∧ (-50 ≤ p.2.2 ∧ p.2.2 ≤ 50)) ∧ (∀ (i j : Nat) (_ : i < j) (h : j < (RowL f).length), ((RowL f)[i]).1 < ((RowL f)[j]).1) := by
  constructor
  · intro p hp
    obtain ⟨k, hk, rfl⟩ := List.mem_map.mp hp
    exact pers_b hW (hW.2.2.1 k (List.mem_range.mp hk)).2
  · intro i j hij h
    rw [RowL_get, RowL_get]
    rw [RowL_len] at h
    exact hW.2.2.2.1 i j hij h
theorem laysGame_ (hS : Sh R) (hW : Wf (M 129)) : ∃ M', cal (d + 1) 144 [.ref 127] M R = some (.inl none, M', R) ∧ GmR M' (sn (M 129)) (pn (M 129)) (bn (M 129)) (RowL (M 129)) (tsl (bs (M 129)) (lf (M 129))) ∧ (∀ c, c ≠ 127 → c ≠ 139 → c ≠ 140 → M' c = M c) ∧ ∀ j, j ≠ 27 → j ≠ 28 → M' 127 j = M 127 j := by
  obtain ⟨nN, k127, k128, l128, k129, l129, k130, l130, k131, l131, k132, l132, k133, l133, k134, l134, k135, l135, k136, l136, k137, l137, k138, l138, k139, l139, k140, l140, k141, l141, k142, l142, k143, l143, k144, l144, k145, l145, k146, l146, f127_1, f127_2, f127_3, f127_4, f127_6, f127_7, f127_17, f127_18, f127_19, f127_22, f127_24, f127_25, f127_26, f127_29, f127_30, f127_31, f127_32, f127_33⟩ := modF hS
  have hw := hW.1
  obtain ⟨M2, a1, a2, a3⟩ := laysGame_1 (d := d) (M := M) hS hW (ln (M 129)) 0 (up2 M 127 27 (nI (ln (M 129)))) (by omega) (up2_ne (by decide)) up2_at (fun k h => absurd h (Nat.not_lt_zero _))
  have z9 : M2 129 = M 129 := by rw [a3 _ (by decide), up2_ne (by decide)]
  obtain ⟨M3, b1, b2, b3⟩ := laysGame_2 (d := d) (M := M) hS hW (lf (M 129)) 0 (up2 M2 127 28 (nI (lf (M 129)))) (by omega) (by rw [up2_ne (by decide)]; exact z9) up2_at (fun k h => absurd h (Nat.not_lt_zero _))
  have fr : ∀ c, c ≠ 127 → c ≠ 139 → c ≠ 140 → M3 c = M c := fun c h1 h2 h3 => by rw [b3 c h3, up2_ne h1, a3 c h2, up2_ne h1]
  have y27 : M3 127 27 = nI (ln (M 129)) := by rw [b3 _ (by decide), up2_s (by decide), a3 _ (by decide), up2_at]
  have y28 : M3 127 28 = nI (lf (M 129)) := by rw [b3 _ (by decide), up2_at]
  have y9 : M3 129 = M 129 := fr _ (by decide) (by decide) (by decide)
  have y39 : M3 139 = M2 139 := by rw [b3 _ (by decide), up2_ne (by decide)]
  refine ⟨M3, ?_, ⟨⟨by rw [y27, RowL_len], by rw [y28, tsl_len], by rw [y9]; exact hw.2.2.1.1, by rw [y9]; exact hw.2.2.2.1.1, by rw [y9]; exact hw.2.2.2.2.1.1⟩, ?_, ?_, ⟨by rw [RowL_len]; exact hw.2.2.2.2.2.2.2.2, by rw [tsl_len]; have := hw.2.2.2.2.2.1.2; omega, hw.2.2.1.2.1, hw.2.2.1.2.2, hw.2.2.2.1.2, hw.2.2.2.2.1.2⟩, (RowL_ok hW).1, (RowL_ok hW).2, ?_⟩, fr, ?_⟩
  · have r7 : M 129 7 = nI (ln (M 129)) := hw.2.2.2.2.2.2.2.1
    have r5 : M2 129 5 = nI (lf (M 129)) := by rw [z9]; exact hw.2.2.2.2.2.1.1
    rw [e144]
    simp (disch := first | assumption | exact nar_b0 | exact nar_b1 | exact nar_b | exact Or.inl rfl | exact Or.inr rfl | exact zin_t (by omega) (by omega) | exact Nat.le_of_ble_eq_true rfl | (rw [nI_cl (by omega)]; assumption) | omega) only [q144_0, q144_1, q144_2, q144_5, q144_7, q144_8, q144_11, q144_12, q144_14, q144_15, q144_18, q144_21, q144_22, q144_25, q144_26, q144_27, q144_30, q144_32, q144_33, q144_34, q144_35, q144_36, q144_39, q144_42, q144_43, q144_44, q144_47, q144_48, q144_49, q144_52, q144_53, q144_55, q144_56, q144_59, q144_62, q144_63, q144_66, q144_67, q144_68, q144_71, q144_73, q144_74, q144_75, q144_78, q144_81, q144_82, q144_85, q144_86, q144_87, q144_90, q144_93, kl_int, kl_ref, kl_tok, cS_nil, cS_int, cS_ref, cS_long, tl_some, tl_none, List.cons_append, List.nil_append, nI_add, nI_ltb, nI_leb, nI_eqb, nI_cl, zin_nI, r7]
    rw [a1]
    simp (disch := first | assumption | exact nar_b0 | exact nar_b1 | exact nar_b | exact Or.inl rfl | exact Or.inr rfl | exact zin_t (by omega) (by omega) | exact Nat.le_of_ble_eq_true rfl | (rw [nI_cl (by omega)]; assumption) | omega) only [q144_0, q144_1, q144_2, q144_5, q144_7, q144_8, q144_11, q144_12, q144_14, q144_15, q144_18, q144_21, q144_22, q144_25, q144_26, q144_27, q144_30, q144_32, q144_33, q144_34, q144_35, q144_36, q144_39, q144_42, q144_43, q144_44, q144_47, q144_48, q144_49, q144_52, q144_53, q144_55, q144_56, q144_59, q144_62, q144_63, q144_66, q144_67, q144_68, q144_71, q144_73, q144_74, q144_75, q144_78, q144_81, q144_82, q144_85, q144_86, q144_87, q144_90, q144_93, kl_int, kl_ref, kl_tok, cS_nil, cS_int, cS_ref, cS_long, tl_some, tl_none, List.cons_append, List.nil_append, nI_add, nI_ltb, nI_leb, nI_eqb, nI_cl, zin_nI, r5]
    exact b1
  · intro j hj
    rw [RowL_get, y39, y9]
    rw [RowL_len] at hj
    exact ⟨a2 j hj, iI_of _, iI_of _⟩
  · intro t ht
    rw [tsl_get]
    rw [tsl_len] at ht
    exact b2 t ht
  · intro s hs
    obtain ⟨t, _, rfl⟩ := List.mem_map.mp hs
    exact sbit2 _ _
  · intro j h1 h2
    rw [b3 _ (by decide), up2_s h2, a3 _ (by decide), up2_s h1]
end Lg
