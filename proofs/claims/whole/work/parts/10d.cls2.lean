-- who is not struck, by numbers, in the row's order
def ulF (f : Nat → Int32) : Nat → Nat → List Nat
  | 0, _ => []
  | m + 1, j => if stk f (rw f j) then ulF f m (j + 1) else rw f j :: ulF f m (j + 1)
def UL (f : Nat → Int32) : List Nat := ulF f (ln f) 0
def nob : Int32 := -100000
def nobI : Option Nat → Int32
  | none => nob
  | some k => nI k
theorem nI_nob {k : Nat} (h : k < 2147483648) : (nob = nI k) = False := by
  apply propext
  refine ⟨fun e => ?_, False.elim⟩
  have := congrArg Int32.toInt e
  rw [nI_toInt h] at this
  have h2 : nob.toInt = -100000 := by decide +kernel
  rw [h2] at this
  omega
theorem ulF_lt {f : Nat → Int32} (hW : Wf f) : ∀ (m j : Nat), j + m ≤ ln f → ∀ v ∈ ulF f m j, v < 14 := by
  intro m
  induction m with
  | zero => intro j _ v hv; simp [ulF] at hv
  | succ m ih =>
    intro j hj v hv
    rw [ulF] at hv
    have h1 := (hW.2.2.1 j (by omega)).2
    have h2 := hW.1.1.2
    have h3 := hW.1.2.1.2
    split at hv
    · exact ih (j + 1) (by omega) v hv
    · rcases List.mem_cons.mp hv with rfl | hv
      · omega
      · exact ih (j + 1) (by omega) v hv
section Tab
variable {d i : Nat} {M : ZM} {R : ZH} {f : Nat → Int32}
theorem howManyStruck_L (hS : Sh R) (hi : i < 10) (hW : Wf f) (hT : TabRel M i f) : ∀ (m k : Nat), k + m = ln f → exe (d + 1) 62 4 [.ref (tb i), .int (nI (ctB (fun j => stk f (rw f j)) k)), .int (nI k)] [] M R = some (.inl (some (.int (nI (ctB (fun j => stk f (rw f j)) (ln f))))), M, R) := by
  obtain ⟨nN, tlt, kt0, kt1, lt1, kt2, lt2, kt3, lt3, kt4, lt4, kt5, lt5, kt6, lt6, kt7, lt7, kt8, lt8, ft0_0, ft1_0, ft1_1, ft0_1, ft0_2, ft0_3, ft0_4, ft0_5⟩ := tabF hS hi
  have h9 : M (tb i) 9 = nI (ln f) := by rw [hT.1.2.2.2.1, ← hW.1.2.2.2.2.2.2.2.1]
  have hl := hW.1.2.2.2.2.2.2.2.2
  intro m
  induction m with
  | zero =>
    intro k hk
    rw [q62_4]
    simp (disch := first | assumption | exact nar_b0 | exact nar_b1 | exact zin_t (by omega) (by omega) | exact Nat.le_of_ble_eq_true rfl | omega) only [q62_0, q62_1, q62_2, q62_3, q62_5, q62_6, q62_9, q62_12, q62_13, q62_14, q62_15, q62_18, q62_19, q62_20, q62_23, q62_26, q62_27, q62_30, q62_31, q62_32, q62_33, q62_36, q62_39, q62_40, kl_int, kl_ref, kl_tok, cS_nil, cS_int, cS_ref, cS_long, tl_some, tl_none, List.cons_append, List.nil_append, nI_add, nI_ltb, nI_leb, nI_eqb, nI_cl, zin_nI, h9]
    rw [if_pos (by omega), show k = ln f by omega]
  | succ m ih =>
    intro k hk
    have hr := hT.2.2.2 k (by omega)
    obtain ⟨hr1, hr2⟩ := hW.2.2.1 k (by omega)
    have h1 := hW.1.1.2
    have h2 := hW.1.2.1.2
    have hc := isStruck_ (d := d) (k := rw f k) hS hi hT (by omega)
    rw [q62_4]
    simp (disch := first | assumption | exact nar_b0 | exact nar_b1 | exact zin_t (by omega) (by omega) | exact Nat.le_of_ble_eq_true rfl | omega) only [q62_0, q62_1, q62_2, q62_3, q62_5, q62_6, q62_9, q62_12, q62_13, q62_14, q62_15, q62_18, q62_19, q62_20, q62_23, q62_26, q62_27, q62_30, q62_31, q62_32, q62_33, q62_36, q62_39, q62_40, kl_int, kl_ref, kl_tok, cS_nil, cS_int, cS_ref, cS_long, tl_some, tl_none, List.cons_append, List.nil_append, nI_add, nI_ltb, nI_leb, nI_eqb, nI_cl, zin_nI, h9, hr, hr1, hc, zk0_inl, b2i_0]
    rw [if_neg (by omega)]
    have e : ctB (fun j => stk f (rw f j)) (k + 1) = ctB (fun j => stk f (rw f j)) k + if stk f (rw f k) then 1 else 0 := rfl
    have g := ih (k + 1) (by omega)
    rw [e] at g
    cases hb : stk f (rw f k)
    · rw [hb] at g
      simpa using g
    · rw [hb] at g
      simpa using g
theorem howManyStruck_ (hS : Sh R) (hi : i < 10) (hW : Wf f) (hT : TabRel M i f) : cal (d + 1) 62 [.ref (tb i)] M R = some (.inl (some (.int (nI (ctB (fun j => stk f (rw f j)) (ln f))))), M, R) := by
  rw [e62]
  simp (disch := first | assumption | exact nar_b0 | exact nar_b1 | exact zin_t (by omega) (by omega) | exact Nat.le_of_ble_eq_true rfl | omega) only [q62_0, q62_1, q62_2, q62_3, q62_5, q62_6, q62_9, q62_12, q62_13, q62_14, q62_15, q62_18, q62_19, q62_20, q62_23, q62_26, q62_27, q62_30, q62_31, q62_32, q62_33, q62_36, q62_39, q62_40, kl_int, kl_ref, kl_tok, cS_nil, cS_int, cS_ref, cS_long, tl_some, tl_none, List.cons_append, List.nil_append, nI_add, nI_ltb, nI_leb, nI_eqb, nI_cl, zin_nI]
  exact howManyStruck_L hS hi hW hT (ln f) 0 (by omega)
theorem unstruck_L {p : Nat} (hp : p < 100) (hS : Sh R) (hi : i < 10) (hW : Wf f) (hT : TabRel M i f) : ∀ (m k a : Nat), k + m = ln f → a ≤ p → exe (d + 1) 63 4 [.ref (tb i), .int (nI p), .int (nI a), .int (nI k)] [] M R = some (.inl (some (.int (nobI ((ulF f m k)[p - a]?)))), M, R) := by
  obtain ⟨nN, tlt, kt0, kt1, lt1, kt2, lt2, kt3, lt3, kt4, lt4, kt5, lt5, kt6, lt6, kt7, lt7, kt8, lt8, ft0_0, ft1_0, ft1_1, ft0_1, ft0_2, ft0_3, ft0_4, ft0_5⟩ := tabF hS hi
  have h9 : M (tb i) 9 = nI (ln f) := by rw [hT.1.2.2.2.1, ← hW.1.2.2.2.2.2.2.2.1]
  have hl := hW.1.2.2.2.2.2.2.2.2
  intro m
  induction m with
  | zero =>
    intro k a hk ha
    rw [q63_4]
    simp (disch := first | assumption | exact nar_b0 | exact nar_b1 | exact zin_t (by omega) (by omega) | exact Nat.le_of_ble_eq_true rfl | omega) only [q63_0, q63_1, q63_2, q63_3, q63_5, q63_6, q63_9, q63_12, q63_13, q63_14, q63_17, q63_18, q63_19, q63_22, q63_25, q63_26, q63_27, q63_30, q63_31, q63_34, q63_35, q63_36, q63_37, q63_40, q63_43, q63_46, q63_48, kl_int, kl_ref, kl_tok, cS_nil, cS_int, cS_ref, cS_long, tl_some, tl_none, List.cons_append, List.nil_append, nI_add, nI_ltb, nI_leb, nI_eqb, nI_cl, zin_nI, h9]
    rw [if_pos (by omega)]
    rfl
  | succ m ih =>
    intro k a hk ha
    have hr := hT.2.2.2 k (by omega)
    obtain ⟨hr1, hr2⟩ := hW.2.2.1 k (by omega)
    have h1 := hW.1.1.2
    have h2 := hW.1.2.1.2
    have hc := isStruck_ (d := d) (k := rw f k) hS hi hT (by omega)
    rw [q63_4]
    simp (disch := first | assumption | exact nar_b0 | exact nar_b1 | exact zin_t (by omega) (by omega) | exact Nat.le_of_ble_eq_true rfl | omega) only [q63_0, q63_1, q63_2, q63_3, q63_5, q63_6, q63_9, q63_12, q63_13, q63_14, q63_17, q63_18, q63_19, q63_22, q63_25, q63_26, q63_27, q63_30, q63_31, q63_34, q63_35, q63_36, q63_37, q63_40, q63_43, q63_46, q63_48, kl_int, kl_ref, kl_tok, cS_nil, cS_int, cS_ref, cS_long, tl_some, tl_none, List.cons_append, List.nil_append, nI_add, nI_ltb, nI_leb, nI_eqb, nI_cl, zin_nI, h9, hr, hr1, hc, zk0_inl, b2i_0]
    rw [if_neg (by omega), ulF]
    cases hb : stk f (rw f k)
    · by_cases e : a = p
      · subst e
        simp [nobI]
      · have g := ih (k + 1) (a + 1) (by omega) (by omega)
        have e2 : p - a = (p - (a + 1)) + 1 := by omega
        simp [e, g, e2]
    · simpa using ih (k + 1) a (by omega) ha
theorem unstruck_ {p : Nat} (hp : p < 100) (hS : Sh R) (hi : i < 10) (hW : Wf f) (hT : TabRel M i f) : cal (d + 1) 63 [.ref (tb i), .int (nI p)] M R = some (.inl (some (.int (nobI ((UL f)[p]?)))), M, R) := by
  rw [e63]
  simp (disch := first | assumption | exact nar_b0 | exact nar_b1 | exact zin_t (by omega) (by omega) | exact Nat.le_of_ble_eq_true rfl | omega) only [q63_0, q63_1, q63_2, q63_3, q63_5, q63_6, q63_9, q63_12, q63_13, q63_14, q63_17, q63_18, q63_19, q63_22, q63_25, q63_26, q63_27, q63_30, q63_31, q63_34, q63_35, q63_36, q63_37, q63_40, q63_43, q63_46, q63_48, kl_int, kl_ref, kl_tok, cS_nil, cS_int, cS_ref, cS_long, tl_some, tl_none, List.cons_append, List.nil_append, nI_add, nI_ltb, nI_leb, nI_eqb, nI_cl, zin_nI]
  exact unstruck_L hp hS hi hW hT (ln f) 0 0 (by omega) (by omega)
theorem isInBox_L {v : Nat} (hv : v < 100) (hS : Sh R) (hi : i < 10) (hW : Wf f) (hT : TabRel M i f) : ∀ (m k : Nat), k + m = sn f → exe (d + 2) 64 2 [.ref (tb i), .int (nI v), .int (nI k)] [] M R = some (.inl (some (.int (b2i (((UL f).drop k).take m |>.contains v)))), M, R) := by
  obtain ⟨nN, tlt, kt0, kt1, lt1, kt2, lt2, kt3, lt3, kt4, lt4, kt5, lt5, kt6, lt6, kt7, lt7, kt8, lt8, ft0_0, ft1_0, ft1_1, ft0_1, ft0_2, ft0_3, ft0_4, ft0_5⟩ := tabF hS hi
  have h10 : M (tb i) 10 = nI (sn f) := by rw [hT.1.2.2.2.2.1, ← hW.1.2.2.1.1]
  have hl := hW.1.2.2.1.2.2
  intro m
  induction m with
  | zero =>
    intro k hk
    rw [q64_2]
    simp (disch := first | assumption | exact nar_b0 | exact nar_b1 | exact zin_t (by omega) (by omega) | exact Nat.le_of_ble_eq_true rfl | omega) only [q64_0, q64_1, q64_3, q64_4, q64_7, q64_10, q64_11, q64_12, q64_15, q64_16, q64_19, q64_20, q64_21, q64_24, q64_27, q64_28, kl_int, kl_ref, kl_tok, cS_nil, cS_int, cS_ref, cS_long, tl_some, tl_none, List.cons_append, List.nil_append, nI_add, nI_ltb, nI_leb, nI_eqb, nI_cl, zin_nI, h10]
    rw [if_pos (by omega)]
    simp [b2i]
  | succ m ih =>
    intro k hk
    have hc := unstruck_ (d := d) (p := k) (by omega) hS hi hW hT
    have g := ih (k + 1) (by omega)
    rw [q64_2]
    simp (disch := first | assumption | exact nar_b0 | exact nar_b1 | exact zin_t (by omega) (by omega) | exact Nat.le_of_ble_eq_true rfl | omega) only [q64_0, q64_1, q64_3, q64_4, q64_7, q64_10, q64_11, q64_12, q64_15, q64_16, q64_19, q64_20, q64_21, q64_24, q64_27, q64_28, kl_int, kl_ref, kl_tok, cS_nil, cS_int, cS_ref, cS_long, tl_some, tl_none, List.cons_append, List.nil_append, nI_add, nI_ltb, nI_leb, nI_eqb, nI_cl, zin_nI, h10, hc, zk0_inl, g]
    rw [if_neg (by omega)]
    cases hu : (UL f)[k]? with
    | none =>
      have hd : (UL f).drop k = [] := List.drop_eq_nil_of_le (List.getElem?_eq_none_iff.mp hu)
      have hd2 : (UL f).drop (k + 1) = [] := by rw [← List.drop_drop, hd]; rfl
      have e0 : ¬ nob = nI v := by rw [nI_nob (by omega)]; exact id
      simp [nobI, hd, hd2, e0]
    | some u =>
      have hm : u ∈ UL f := List.mem_of_getElem? hu
      have hu14 := ulF_lt hW (ln f) 0 (by omega) u hm
      obtain ⟨hlt, hue⟩ := List.getElem?_eq_some_iff.mp hu
      rw [List.drop_eq_getElem_cons hlt, hue]
      have e0 : (nI u = nI v) = (u = v) := nI_eqb (by omega) (by omega)
      by_cases e : u = v
      · subst e
        simp [nobI, b2i]
      · have e1 : ¬ nI u = nI v := by rw [e0]; exact e
        have e2 : ¬ v = u := fun q => e q.symm
        simp [nobI, e1, e2]
theorem isInBox_ {v : Nat} (hv : v < 100) (hS : Sh R) (hi : i < 10) (hW : Wf f) (hT : TabRel M i f) : cal (d + 2) 64 [.ref (tb i), .int (nI v)] M R = some (.inl (some (.int (b2i (((UL f).take (sn f)).contains v)))), M, R) := by
  rw [e64]
  simp (disch := first | assumption | exact nar_b0 | exact nar_b1 | exact zin_t (by omega) (by omega) | exact Nat.le_of_ble_eq_true rfl | omega) only [q64_0, q64_1, q64_3, q64_4, q64_7, q64_10, q64_11, q64_12, q64_15, q64_16, q64_19, q64_20, q64_21, q64_24, q64_27, q64_28, kl_int, kl_ref, kl_tok, cS_nil, cS_int, cS_ref, cS_long, tl_some, tl_none, List.cons_append, List.nil_append, nI_add, nI_ltb, nI_leb, nI_eqb, nI_cl, zin_nI]
  exact isInBox_L hv hS hi hW hT (sn f) 0 (by omega)
/-- may this one be struck, by the rules of the turn -/
def may (f : Nat → Int32) (k : Nat) : Bool := decide (0 < lf f) && (!stk f k && (decide (bn f = 0) || ((UL f).take (sn f)).contains k))
theorem mayStrike_ {k : Nat} (hk : k < 14) (hS : Sh R) (hi : i < 10) (hW : Wf f) (hT : TabRel M i f) : cal (d + 3) 65 [.ref (tb i), .int (nI k)] M R = some (.inl (some (.int (b2i (may f k)))), M, R) := by
  obtain ⟨nN, tlt, kt0, kt1, lt1, kt2, lt2, kt3, lt3, kt4, lt4, kt5, lt5, kt6, lt6, kt7, lt7, kt8, lt8, ft0_0, ft1_0, ft1_1, ft0_1, ft0_2, ft0_3, ft0_4, ft0_5⟩ := tabF hS hi
  have h13 : M (tb i) 13 = nI (lf f) := by rw [hT.1.2.2.2.2.2.2.2.1, ← hW.1.2.2.2.2.2.1.1]
  have h12 : M (tb i) 12 = nI (bn f) := by rw [hT.1.2.2.2.2.2.2.1, ← hW.1.2.2.2.2.1.1]
  have b1 := hW.1.2.2.2.2.2.1.2
  have b2 := hW.1.2.2.2.2.1.2
  have hc := isStruck_ (d := d + 2) (k := k) hS hi hT hk
  have hc2 := isInBox_ (d := d) (v := k) (by omega) hS hi hW hT
  rw [e65]
  simp (disch := first | assumption | exact nar_b0 | exact nar_b1 | exact zin_t (by omega) (by omega) | exact Nat.le_of_ble_eq_true rfl | omega) only [q65_0, q65_1, q65_4, q65_7, q65_8, q65_9, q65_12, q65_15, q65_16, q65_19, q65_22, q65_23, q65_24, q65_27, q65_30, q65_31, q65_34, q65_35, kl_int, kl_ref, kl_tok, cS_nil, cS_int, cS_ref, cS_long, tl_some, tl_none, List.cons_append, List.nil_append, nI_add, nI_ltb, nI_leb, nI_eqb, nI_cl, zin_nI, h12, h13, hc, hc2, zk0_inl, b2i_0]
  unfold may
  by_cases e1 : lf f ≤ 0
  · have e3 : ¬ 0 < lf f := by omega
    simp [e3, b2i, show lf f = 0 by omega]
  · have e3 : 0 < lf f := by omega
    cases e4 : stk f k
    · by_cases e5 : bn f = 0
      · simp [e1, e3, e5, b2i]
      · cases e6 : ((UL f).take (sn f)).contains k
        · simp [e1, e3, e5, b2i]
        · simp [e1, e3, e5, b2i]
    · simp [e1, e3, b2i]
end Tab
