theorem nar_c {x : Int32} : narrow .char (.int (zi2c x)) = .int (zi2c x) := by
  simp only [narrow, zi2c]
  have h : x.toUInt32 % 65536 % 65536 = x.toUInt32 % 65536 := UInt32.toNat_inj.mp (by rw [UInt32.toNat_mod, UInt32.toNat_mod]; exact Nat.mod_mod _ _)
  congr 1
  simp [h]
theorem nar_y0 : narrow .byte (.int (nI 0)) = .int (nI 0) := by decide +kernel
-- words of the small language
def FO (M : ZM) : Prop := ∀ j, j < 17 → M (1000001 + j) 1 = nI 0 ∧ ∀ k, M (1000101 + j) k = zstb j k
theorem zstb_c : ∀ j, j < 17 → ∀ k, k < 6 → zi2c (zstb j k &&& nI 255) = zstb j k := by decide +kernel
theorem zstL_6 : ∀ j, j < 17 → zstL.getD j 0 ≤ 6 := by decide +kernel
section Str
variable {d : Nat} {M : ZM} {R : ZH}
theorem coder_ {j : Nat} (hS : Sh R) (hF : FO M) (hj : j < 17) : cal d 194 [.ref (1000001 + j)] M R = some (.inl (some (.int (nI 0))), M, R) := by
  have s1 := KS hS hj
  rw [e194]
  simp (disch := first | assumption | exact nar_y0 | omega) only [q194_0, q194_3, q194_6, q194_7, q194_10, q194_13, q194_14, kl_int, kl_ref, kl_tok, cS_nil, cS_int, cS_ref, cS_long, tl_some, tl_none, List.cons_append, List.nil_append, nI_add, nI_ltb, nI_leb, nI_eqb, nI_cl, zin_nI, (hF j hj).1]
  rw [if_neg (by omega)]
theorem length_ {j : Nat} (hS : Sh R) (hF : FO M) (hj : j < 17) : cal (d + 1) 192 [.ref (1000001 + j)] M R = some (.inl (some (.int (nI (zstL.getD j 0)))), M, R) := by
  have s1 := KS hS hj
  have s2 := FS_ hS hj
  have s3 := KB hS hj
  have s4 := LB hS hj
  have s5 := zstL_6 j hj
  have hc := coder_ (d := d) hS hF hj
  rw [e192]
  simp (disch := first | assumption | exact nar_b0 | exact nar_b1 | exact zin_t (by omega) (by omega) | exact Nat.le_of_ble_eq_true rfl | (rw [nI_cl (by omega)]; assumption) | omega) only [q192_0, q192_1, q192_4, q192_5, q192_6, q192_9, q192_10, kl_int, kl_ref, kl_tok, cS_nil, cS_int, cS_ref, cS_long, tl_some, tl_none, List.cons_append, List.nil_append, nI_add, nI_ltb, nI_leb, nI_eqb, nI_cl, zin_nI, hc, zk0_inl, s4, nI_shr]
  rfl
theorem isLatin1_ {j : Nat} (hS : Sh R) (hF : FO M) (hj : j < 17) : cal d 195 [.ref (1000001 + j)] M R = some (.inl (some (.int (nI 1))), M, R) := by
  have s1 := KS hS hj
  rw [e195]
  simp (disch := first | assumption | exact nar_b0 | exact nar_b1 | exact zin_t (by omega) (by omega) | exact Nat.le_of_ble_eq_true rfl | (rw [nI_cl (by omega)]; assumption) | omega) only [q195_0, q195_3, q195_6, q195_7, q195_10, q195_13, q195_14, q195_17, q195_18, kl_int, kl_ref, kl_tok, cS_nil, cS_int, cS_ref, cS_long, tl_some, tl_none, List.cons_append, List.nil_append, nI_add, nI_ltb, nI_leb, nI_eqb, nI_cl, zin_nI, (hF j hj).1]
  simp
theorem checkIndex_ {a b : Nat} (h : a < b) (hb : b < 2147483648) : cal (d + 1) 196 [.int (nI a), .int (nI b)] M R = some (.inl none, M, R) := by
  have hc : cal d 199 [.int (nI a), .int (nI b), .retAddr 1] M R = some (.inl (some (.int (nI a))), M, R) := by
    rw [e199]
    simp (disch := first | assumption | exact nar_b0 | exact nar_b1 | exact zin_t (by omega) (by omega) | exact Nat.le_of_ble_eq_true rfl | (rw [nI_cl (by omega)]; assumption) | omega) only [q199_0, q199_1, q199_4, q199_5, q199_6, q199_9, q199_10, q199_11, q199_16, q199_17, kl_int, kl_ref, kl_tok, cS_nil, cS_int, cS_ref, cS_long, tl_some, tl_none, List.cons_append, List.nil_append, nI_add, nI_ltb, nI_leb, nI_eqb, nI_cl, zin_nI]
    rw [if_neg (by omega), if_pos h]
  rw [e196]
  simp (disch := first | assumption | exact nar_b0 | exact nar_b1 | exact zin_t (by omega) (by omega) | exact Nat.le_of_ble_eq_true rfl | (rw [nI_cl (by omega)]; assumption) | omega) only [q196_0, q196_1, q196_2, q196_5, q196_8i, q196_8a, q196_9, kl_int, kl_ref, kl_tok, cS_nil, cS_int, cS_ref, cS_long, tl_some, tl_none, List.cons_append, List.nil_append, nI_add, nI_ltb, nI_leb, nI_eqb, nI_cl, zin_nI, hc, zk0_inl]
theorem charAt_ {j k : Nat} (hS : Sh R) (hF : FO M) (hj : j < 17) (hk : k < zstL.getD j 0) : cal (d + 3) 193 [.ref (1000001 + j), .int (nI k)] M R = some (.inl (some (.int (zstb j k))), M, R) := by
  have s1 := KS hS hj
  have s2 := FS_ hS hj
  have s3 := KB hS hj
  have s4 := LB hS hj
  have s5 := zstL_6 j hj
  have hc := isLatin1_ (d := d + 2) hS hF hj
  have hx := checkIndex_ (d := d) (M := M) (R := R) hk (by omega)
  have hv : narrow .char (.int (zstb j k)) = .int (zstb j k) := by
    rw [← zstb_c j hj k (by omega)]
    exact nar_c
  have hc2 : cal (d + 2) 197 [.ref (1000101 + j), .int (nI k)] M R = some (.inl (some (.int (zstb j k))), M, R) := by
    rw [e197]
    simp (disch := first | assumption | exact nar_c | exact zin_t (by omega) (by omega) | exact Nat.le_of_ble_eq_true rfl | omega) only [q197_0, q197_1, q197_2, q197_3, q197_6, q197_7, q197_8, q197_9, q197_12, q197_13, q197_14, kl_int, kl_ref, kl_tok, cS_nil, cS_int, cS_ref, cS_long, tl_some, tl_none, List.cons_append, List.nil_append, nI_add, nI_ltb, nI_leb, nI_eqb, nI_cl, zin_nI, hx, zk0_inl, s4, (hF j hj).2, zstb_c j hj k (by omega)]
  rw [e193]
  simp (disch := first | assumption | exact nar_b0 | exact nar_b1 | exact zin_t (by omega) (by omega) | exact Nat.le_of_ble_eq_true rfl | (rw [nI_cl (by omega)]; assumption) | omega) only [q193_0, q193_1, q193_4, q193_7, q193_8, q193_11, q193_12, q193_15, q193_16, q193_17, q193_20, q193_24, kl_int, kl_ref, kl_tok, cS_nil, cS_int, cS_ref, cS_long, tl_some, tl_none, List.cons_append, List.nil_append, nI_add, nI_ltb, nI_leb, nI_eqb, nI_cl, zin_nI, hc, hc2, zk0_inl]
  simp
end Str
-- Field: those who are not struck
def FldRel (M : ZM) (se sp bx : Nat) (Fl : List P3) : Prop :=
  (M 107 2 = nI Fl.length ∧ M 107 3 = nI se ∧ M 107 4 = nI sp ∧ M 107 5 = nI bx) ∧ (∀ (j : Nat) (h : j < Fl.length), M 108 j = nI (Fl[j]).1 ∧ M 110 j = iI (Fl[j]).2.1 ∧ M 111 j = iI (Fl[j]).2.2) ∧
  (Fl.length ≤ 10 ∧ se ≤ 6 ∧ sp ≤ 3 ∧ bx ≤ 1) ∧ ∀ p ∈ Fl, p.1 < 14 ∧ (-50 ≤ p.2.1 ∧ p.2.1 ≤ 50) ∧ (-50 ≤ p.2.2 ∧ p.2.2 ≤ 50)
theorem FldRel.w {M : ZM} {se sp bx s : Nat} {Fl : List P3} (h : FldRel M se sp bx Fl) (hs : s < 2) : ∀ (j : Nat) (hj : j < Fl.length), M (110 + s) j = iI (wS s Fl[j]) := by
  intro j hj
  rcases (show s = 0 ∨ s = 1 by omega) with rfl | rfl
  · exact (h.2.1 j hj).2.1
  · exact (h.2.1 j hj).2.2
theorem FldRel.wb {M : ZM} {se sp bx s : Nat} {Fl : List P3} (h : FldRel M se sp bx Fl) : ∀ (j : Nat) (hj : j < Fl.length), -50 ≤ wS s Fl[j] ∧ wS s Fl[j] ≤ 50 := by
  intro j hj
  have := (h.2.2.2 Fl[j] (List.getElem_mem hj)).2
  unfold wS
  split
  · exact this.1
  · exact this.2
theorem KFw {R : ZH} (hS : Sh R) {s : Nat} (hs : s < 2) : zK R (110 + s) = 11 ∧ zLn R (110 + s) = 10 ∧ zRf R 109 s = some (110 + s) := by
  rcases (show s = 0 ∨ s = 1 by omega) with rfl | rfl
  · exact ⟨Sh.K hS (by decide) (by decide +kernel), Sh.L hS (by decide) (by decide +kernel), Sh.F hS (by decide +kernel)⟩
  · exact ⟨Sh.K hS (by decide) (by decide +kernel), Sh.L hS (by decide) (by decide +kernel), Sh.F hS (by decide +kernel)⟩
theorem n2i (w : Int) : nI 2 * iI w = iI (2 * w) := iI_mul 2 w
section Fld
variable {d se sp bx : Nat} {M : ZM} {R : ZH} {Fl : List P3}
theorem placeOf_L {x : Int32} (hS : Sh R) (hF : FldRel M se sp bx Fl) : ∀ (m k : Nat), k + m = Fl.length → exe d 13 2 [.ref 107, .int x, .int (nI k)] [] M R = some (.inl (some (.int (oI (plc (M 108) x m k)))), M, R) := by
  intro m
  obtain ⟨nN, k107, k108, l108, k109, l109, k110, l110, k111, l111, f107_0, f107_1, f109_0, f109_1⟩ := fldF hS
  have h2 := hF.1.1
  have hl := hF.2.2.1.1
  induction m with
  | zero =>
    intro k hk
    rw [q13_2]
    simp (disch := first | assumption | exact nar_b0 | exact nar_b1 | exact zin_t (by omega) (by omega) | exact Nat.le_of_ble_eq_true rfl | (rw [nI_cl (by omega)]; assumption) | omega) only [q13_0, q13_1, q13_3, q13_4, q13_7, q13_10, q13_11, q13_14, q13_15, q13_16, q13_17, q13_20, q13_21, q13_22, q13_25, q13_28, q13_29, kl_int, kl_ref, kl_tok, cS_nil, cS_int, cS_ref, cS_long, tl_some, tl_none, List.cons_append, List.nil_append, nI_add, nI_ltb, nI_leb, nI_eqb, nI_cl, zin_nI, h2]
    rw [if_pos (by omega)]
    rfl
  | succ m ih =>
    intro k hk
    rw [q13_2]
    simp (disch := first | assumption | exact nar_b0 | exact nar_b1 | exact zin_t (by omega) (by omega) | exact Nat.le_of_ble_eq_true rfl | (rw [nI_cl (by omega)]; assumption) | omega) only [q13_0, q13_1, q13_3, q13_4, q13_7, q13_10, q13_11, q13_14, q13_15, q13_16, q13_17, q13_20, q13_21, q13_22, q13_25, q13_28, q13_29, kl_int, kl_ref, kl_tok, cS_nil, cS_int, cS_ref, cS_long, tl_some, tl_none, List.cons_append, List.nil_append, nI_add, nI_ltb, nI_leb, nI_eqb, nI_cl, zin_nI, h2, ih]
    rw [if_neg (by omega), plc]
    by_cases e : M 108 k = x
    · simp [e, oI]
    · simp [e]
theorem placeOf_ {x : Int32} (hS : Sh R) (hF : FldRel M se sp bx Fl) : cal d 13 [.ref 107, .int x] M R = some (.inl (some (.int (oI (plc (M 108) x Fl.length 0)))), M, R) := by
  rw [e13]
  simp (disch := first | assumption | exact nar_b0 | exact nar_b1 | exact zin_t (by omega) (by omega) | exact Nat.le_of_ble_eq_true rfl | (rw [nI_cl (by omega)]; assumption) | omega) only [q13_0, q13_1, q13_3, q13_4, q13_7, q13_10, q13_11, q13_14, q13_15, q13_16, q13_17, q13_20, q13_21, q13_22, q13_25, q13_28, q13_29, kl_int, kl_ref, kl_tok, cS_nil, cS_int, cS_ref, cS_long, tl_some, tl_none, List.cons_append, List.nil_append, nI_add, nI_ltb, nI_leb, nI_eqb, nI_cl, zin_nI]
  exact placeOf_L hS hF Fl.length 0 (by omega)
theorem strikable_ (hS : Sh R) (hF : FldRel M se sp bx Fl) : cal d 15 [.ref 107] M R = some (.inl (some (.int (nI (if bx = 1 then se else Fl.length)))), M, R) := by
  obtain ⟨nN, k107, k108, l108, k109, l109, k110, l110, k111, l111, f107_0, f107_1, f109_0, f109_1⟩ := fldF hS
  have h2 := hF.1
  have hl := hF.2.2.1
  rw [e15]
  simp (disch := first | assumption | exact nar_b0 | exact nar_b1 | exact zin_t (by omega) (by omega) | exact Nat.le_of_ble_eq_true rfl | (rw [nI_cl (by omega)]; assumption) | omega) only [q15_0, q15_1, q15_4, q15_7, q15_8, q15_11, q15_14, q15_15, q15_18, kl_int, kl_ref, kl_tok, cS_nil, cS_int, cS_ref, cS_long, tl_some, tl_none, List.cons_append, List.nil_append, nI_add, nI_ltb, nI_leb, nI_eqb, nI_cl, zin_nI, h2.1, h2.2.1, h2.2.2.2]
  by_cases e : bx = 1
  · rw [if_neg (by omega), if_pos e]
  · rw [if_pos (by omega), if_neg e]
theorem endWorth_L {s S : Nat} (hs : s < 2) (hSt : S < 1024) (hS : Sh R) (hF : FldRel M se sp bx Fl) : ∀ (m i t : Nat) (u : Int), i + m = Fl.length → t ≤ i → exe d 14 16 [.ref 107, .int (nI s), .int (nI S), .ref (110 + s), .int (iI u), .int (nI t), .int (nI i)] [] M R = some (.inl (some (.int (iI (u + endF se sp t ((remI (Fl.drop i) S i).map (wS s)))))), M, R) := by
  obtain ⟨nN, k107, k108, l108, k109, l109, k110, l110, k111, l111, f107_0, f107_1, f109_0, f109_1⟩ := fldF hS
  obtain ⟨ks, ls, -⟩ := KFw hS hs
  have h2 := hF.1
  have hl := hF.2.2.1
  intro m
  induction m with
  | zero =>
    intro i t u hi ht
    rw [q14_16]
    simp (disch := first | assumption | exact nar_b0 | exact nar_b1 | exact zin_t (by omega) (by omega) | exact Nat.le_of_ble_eq_true rfl | (rw [nI_cl (by omega)]; assumption) | omega) only [q14_0, q14_1, q14_4, q14_5, q14_6, q14_7, q14_8, q14_10, q14_11, q14_13, q14_14, q14_18, q14_19, q14_22, q14_25, q14_27, q14_28, q14_31, q14_32, q14_35, q14_36, q14_39, q14_40, q14_42, q14_43, q14_44, q14_45, q14_48, q14_50, q14_52, q14_53, q14_56, q14_59, q14_60, q14_61, q14_63, q14_64, q14_65, q14_68, q14_69, q14_71, q14_72, q14_73, q14_75, q14_78, q14_81, q14_84, q14_86, kl_int, kl_ref, kl_tok, cS_nil, cS_int, cS_ref, cS_long, tl_some, tl_none, List.cons_append, List.nil_append, nI_add, nI_ltb, nI_leb, nI_eqb, nI_cl, zin_nI, h2.1, h2.2.1, h2.2.2.1]
    rw [if_pos (by omega), remI_end (by omega)]
    simp [endF]
  | succ m ih =>
    intro i t u hi ht
    have hw := hF.w hs i (by omega)
    rw [q14_16]
    simp (disch := first | assumption | exact nar_b0 | exact nar_b1 | exact zin_t (by omega) (by omega) | exact Nat.le_of_ble_eq_true rfl | (rw [nI_cl (by omega)]; assumption) | omega) only [q14_0, q14_1, q14_4, q14_5, q14_6, q14_7, q14_8, q14_10, q14_11, q14_13, q14_14, q14_18, q14_19, q14_22, q14_25, q14_27, q14_28, q14_31, q14_32, q14_35, q14_36, q14_39, q14_40, q14_42, q14_43, q14_44, q14_45, q14_48, q14_50, q14_52, q14_53, q14_56, q14_59, q14_60, q14_61, q14_63, q14_64, q14_65, q14_68, q14_69, q14_71, q14_72, q14_73, q14_75, q14_78, q14_81, q14_84, q14_86, kl_int, kl_ref, kl_tok, cS_nil, cS_int, cS_ref, cS_long, tl_some, tl_none, List.cons_append, List.nil_append, nI_add, nI_ltb, nI_leb, nI_eqb, nI_cl, zin_nI, h2.1, h2.2.1, h2.2.2.1, tbit, b2i_0, hw, n2i, iI_add, ih]
    rw [if_neg (by omega), remI_step (l := Fl) (S := S) (i := i) (by omega)]
    by_cases e1 : se + sp ≤ t
    · rw [if_pos e1, endF_out _ _ e1]
      simp
    · rw [if_neg e1]
      cases hb : S.testBit i
      · by_cases e2 : se ≤ t
        · simp [e2, endF, show ¬ t < se by omega, show t < se + sp by omega, Int.add_assoc]
        · simp [e2, endF, show t < se by omega, Int.add_assoc]
      · simp
theorem endWorth_ {s S : Nat} (hs : s < 2) (hSt : S < 1024) (hS : Sh R) (hF : FldRel M se sp bx Fl) : cal d 14 [.ref 107, .int (nI s), .int (nI S)] M R = some (.inl (some (.int (iI (endF se sp 0 ((rem Fl S).map (wS s)))))), M, R) := by
  obtain ⟨nN, k107, k108, l108, k109, l109, k110, l110, k111, l111, f107_0, f107_1, f109_0, f109_1⟩ := fldF hS
  obtain ⟨ks, ls, fs⟩ := KFw hS hs
  rw [e14]
  simp (disch := first | assumption | exact nar_b0 | exact nar_b1 | exact zin_t (by omega) (by omega) | exact Nat.le_of_ble_eq_true rfl | (rw [nI_cl (by omega)]; assumption) | omega) only [q14_0, q14_1, q14_4, q14_5, q14_6, q14_7, q14_8, q14_10, q14_11, q14_13, q14_14, q14_18, q14_19, q14_22, q14_25, q14_27, q14_28, q14_31, q14_32, q14_35, q14_36, q14_39, q14_40, q14_42, q14_43, q14_44, q14_45, q14_48, q14_50, q14_52, q14_53, q14_56, q14_59, q14_60, q14_61, q14_63, q14_64, q14_65, q14_68, q14_69, q14_71, q14_72, q14_73, q14_75, q14_78, q14_81, q14_84, q14_86, kl_int, kl_ref, kl_tok, cS_nil, cS_int, cS_ref, cS_long, tl_some, tl_none, List.cons_append, List.nil_append, nI_add, nI_ltb, nI_leb, nI_eqb, nI_cl, zin_nI]
  have h := endWorth_L (d := d) hs hSt hS hF Fl.length 0 0 0 (by omega) (by omega)
  rw [Int.zero_add, List.drop_zero] at h
  exact h
-- a set of places as a set of numbers
def nmbI : List Nat → Nat → Nat → Nat
  | [], _, _ => 0
  | x :: l, S, i => (if S.testBit i then 2 ^ x else 0) ||| nmbI l S (i + 1)
theorem b2shl {b : Bool} {v : Nat} (hv : v < 32) : zshl (b2i b) (nI v) = nI (if b then 2 ^ v else 0) := by
  cases b
  · rw [b2i_f, nI_shl 0 hv, Nat.zero_mul]; rfl
  · rw [b2i_t, nI_shl 1 hv, Nat.one_mul]; rfl
theorem numbersOf_L {S : Nat} (hSt : S < 1024) (hS : Sh R) (hF : FldRel M se sp bx Fl) : ∀ (m i u : Nat), i + m = Fl.length → exe d 17 4 [.ref 107, .int (nI S), .int (nI u), .int (nI i)] [] M R = some (.inl (some (.int (nI (u ||| nmbI ((Fl.drop i).map (fun p => p.1)) S i)))), M, R) := by
  obtain ⟨nN, k107, k108, l108, k109, l109, k110, l110, k111, l111, f107_0, f107_1, f109_0, f109_1⟩ := fldF hS
  have h2 := hF.1
  have hl := hF.2.2.1
  intro m
  induction m with
  | zero =>
    intro i u hi
    rw [q17_4]
    simp (disch := first | assumption | exact nar_b0 | exact nar_b1 | exact zin_t (by omega) (by omega) | exact Nat.le_of_ble_eq_true rfl | (rw [nI_cl (by omega)]; assumption) | omega) only [q17_0, q17_1, q17_2, q17_3, q17_5, q17_6, q17_9, q17_12, q17_13, q17_14, q17_15, q17_16, q17_17, q17_18, q17_19, q17_22, q17_23, q17_24, q17_25, q17_26, q17_27, q17_30, q17_33, q17_34, kl_int, kl_ref, kl_tok, cS_nil, cS_int, cS_ref, cS_long, tl_some, tl_none, List.cons_append, List.nil_append, nI_add, nI_ltb, nI_leb, nI_eqb, nI_cl, zin_nI, h2.1]
    rw [if_pos (by omega), List.drop_eq_nil_of_le (by omega)]
    simp [nmbI]
  | succ m ih =>
    intro i u hi
    have hw := (hF.2.1 i (by omega)).1
    have hb := (hF.2.2.2 Fl[i] (List.getElem_mem (by omega))).1
    rw [q17_4]
    simp (disch := first | assumption | exact nar_b0 | exact nar_b1 | exact zin_t (by omega) (by omega) | exact Nat.le_of_ble_eq_true rfl | (rw [nI_cl (by omega)]; assumption) | omega) only [q17_0, q17_1, q17_2, q17_3, q17_5, q17_6, q17_9, q17_12, q17_13, q17_14, q17_15, q17_16, q17_17, q17_18, q17_19, q17_22, q17_23, q17_24, q17_25, q17_26, q17_27, q17_30, q17_33, q17_34, kl_int, kl_ref, kl_tok, cS_nil, cS_int, cS_ref, cS_long, tl_some, tl_none, List.cons_append, List.nil_append, nI_add, nI_ltb, nI_leb, nI_eqb, nI_cl, zin_nI, h2.1, tbit, hw, b2shl, nI_or, ih]
    rw [if_neg (by omega), List.drop_eq_getElem_cons (show i < Fl.length by omega), List.map_cons, nmbI, Nat.or_assoc]
theorem numbersOf_ {S : Nat} (hSt : S < 1024) (hS : Sh R) (hF : FldRel M se sp bx Fl) : cal d 17 [.ref 107, .int (nI S)] M R = some (.inl (some (.int (nI (nmbI (Fl.map (fun p => p.1)) S 0)))), M, R) := by
  rw [e17]
  simp (disch := first | assumption | exact nar_b0 | exact nar_b1 | exact zin_t (by omega) (by omega) | exact Nat.le_of_ble_eq_true rfl | (rw [nI_cl (by omega)]; assumption) | omega) only [q17_0, q17_1, q17_2, q17_3, q17_5, q17_6, q17_9, q17_12, q17_13, q17_14, q17_15, q17_16, q17_17, q17_18, q17_19, q17_22, q17_23, q17_24, q17_25, q17_26, q17_27, q17_30, q17_33, q17_34, kl_int, kl_ref, kl_tok, cS_nil, cS_int, cS_ref, cS_long, tl_some, tl_none, List.cons_append, List.nil_append, nI_add, nI_ltb, nI_leb, nI_eqb, nI_cl, zin_nI]
  have h := numbersOf_L (d := d) hSt hS hF Fl.length 0 0 (by omega)
  rw [Nat.zero_or, List.drop_zero] at h
  exact h
end Fld
