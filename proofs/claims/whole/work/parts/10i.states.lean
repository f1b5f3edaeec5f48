theorem vpb0 : vp_nar .boolean (nI 0) = nI 0 := by decide +kernel
theorem vpb1 : vp_nar .boolean (nI 1) = nI 1 := by decide +kernel
noncomputable def dcd (p : Prop) : Bool := @decide p (Classical.propDecidable p)
theorem dcd_iff {p : Prop} : dcd p = true ↔ p := @decide_eq_true_iff p (Classical.propDecidable p)
theorem dcd_t {p : Prop} (h : p) : dcd p = true := dcd_iff.mpr h
theorem dcd_f {p : Prop} (h : ¬ p) : dcd p = false := by
  cases e : dcd p with
  | false => rfl
  | true => exact absurd (dcd_iff.mp e) h
theorem dcd_cong {p q : Prop} (h : p ↔ q) : dcd p = dcd q := by rw [propext h]
/-- place i may be struck out of the set S -/
def canS (bx se n S i : Nat) : Prop := i < n ∧ S.testBit i = false ∧ cnt S i < (if bx = 1 then se else n)
noncomputable def rfM (bx se n : Nat) (M : ZM) (S i : Nat) : ZM := fun c S' => if c = 117 ∧ dcd (∃ j, i ≤ j ∧ canS bx se n S j ∧ S' = S ||| 2 ^ j) = true then nI 1 else M c S'
noncomputable def nxtR (bx se n : Nat) (r : Nat → Bool) (S' : Nat) : Bool := dcd (r S' = true ∨ ∃ S0 j, S0 < 2 ^ n ∧ r S0 = true ∧ canS bx se n S0 j ∧ S' = S0 ||| 2 ^ j)
noncomputable def Rn (bx se n : Nat) : Nat → Nat → Bool
  | 0 => fun S => decide (S = 0)
  | t + 1 => nxtR bx se n (Rn bx se n t)
noncomputable def totS (bx se n : Nat) : Nat → Nat
  | 0 => 1
  | t + 1 => totS bx se n t + ctB (Rn bx se n (t + 1)) (2 ^ n)
section St
variable {d se sp bx T bits : Nat} {M : ZM} {R : ZH} {Fl : List P3}
theorem reachFrom_L {S : Nat} (hS : Sh R) (hSt : S < 2 ^ Fl.length) : ∀ (m i : Nat) (M : ZM), i + m = Fl.length → FldRel M se sp bx Fl → cnt S i ≤ (if bx = 1 then se else Fl.length) → exe d 26 10 [.ref 106, .int (nI S), .int (nI ((if bx = 1 then se else Fl.length) - cnt S i)), .int (nI i)] [] M R = some (.inl none, rfM bx se Fl.length M S i, R) := by
  obtain ⟨nN, k106, k107, k108, l108, k109, l109, k110, l110, k111, l111, k112, l112, k113, l113, k114, l114, k115, l115, k116, l116, k117, l117, f106_0, f107_0, f107_1, f109_0, f109_1, f106_1, f112_0, f112_1, f106_2, f106_3, f106_4⟩ := lokF hS
  intro m
  induction m with
  | zero =>
    intro i M hi hF hc
    have h2 := hF.1.1
    have hl := hF.2.2.1
    rw [q26_10]
    simp (disch := first | assumption | exact nar_b0 | exact nar_b1 | exact nar_b | exact Or.inl rfl | exact Or.inr rfl | exact zin_t (by omega) (by omega) | exact Nat.le_of_ble_eq_true rfl | (rw [nI_cl (by omega)]; assumption) | omega) only [q26_0, q26_1, q26_4, q26_7, q26_8, q26_9, q26_11, q26_12, q26_15, q26_18, q26_21, q26_22, q26_25, q26_26, q26_27, q26_28, q26_29, q26_30, q26_33, q26_36, q26_37, q26_40, q26_41, q26_42, q26_43, q26_44, q26_45, q26_46b, q26_46z, q26_47, q26_50, q26_53, kl_int, kl_ref, kl_tok, cS_nil, cS_int, cS_ref, cS_long, tl_some, tl_none, List.cons_append, List.nil_append, nI_add, nI_ltb, nI_leb, nI_eqb, nI_cl, zin_nI, h2]
    rw [if_pos (by omega)]
    refine oeq (funext fun c => funext fun S' => ?_)
    unfold rfM
    rw [dcd_f (by rintro ⟨j, h1, ⟨h3, -⟩, -⟩; omega)]
    simp
  | succ m ih =>
    intro i M hi hF hc
    have h2 := hF.1.1
    have hl := hF.2.2.1
    have hp := pow10 hl.1
    have hor := or_lt hSt (show i < Fl.length by omega)
    have hci1 : cnt S (i + 1) = cnt S i + if S.testBit i then 0 else 1 := rfl
    have hopn : (if bx = 1 then se else Fl.length) < 100 := by split <;> omega
    by_cases ho : (if bx = 1 then se else Fl.length) - cnt S i = 0
    · rw [q26_10]
      simp (disch := first | assumption | exact nar_b0 | exact nar_b1 | exact nar_b | exact Or.inl rfl | exact Or.inr rfl | exact zin_t (by omega) (by omega) | exact Nat.le_of_ble_eq_true rfl | (rw [nI_cl (by omega)]; assumption) | omega) only [q26_0, q26_1, q26_4, q26_7, q26_8, q26_9, q26_11, q26_12, q26_15, q26_18, q26_21, q26_22, q26_25, q26_26, q26_27, q26_28, q26_29, q26_30, q26_36, q26_37, q26_40, q26_41, q26_42, q26_43, q26_44, q26_45, q26_46b, q26_46z, q26_47, q26_50, q26_53, kl_int, kl_ref, kl_tok, cS_nil, cS_int, cS_ref, cS_long, tl_some, tl_none, List.cons_append, List.nil_append, nI_add, nI_ltb, nI_leb, nI_eqb, nI_cl, zin_nI, h2]
      rw [if_neg (by omega), if_pos (by omega)]
      refine oeq (funext fun c => funext fun S' => ?_)
      unfold rfM
      rw [dcd_f (by
        rintro ⟨j, h1, ⟨h3, h4, h5⟩, -⟩
        have := cnt_mono (S := S) h1
        omega)]
      simp
    · cases hb : S.testBit i
      · rw [hb] at hci1
        have hci2 : cnt S (i + 1) = cnt S i + 1 := by simpa using hci1
        have hdec : nI ((if bx = 1 then se else Fl.length) - cnt S i) - nI 1 = nI ((if bx = 1 then se else Fl.length) - cnt S (i + 1)) := by
          rw [nI_sub1 (by omega), hci2]
          congr 1
        have f1 : ∀ c, c ≠ 117 → up2 M 117 (S ||| 2 ^ i) (nI 1) c = M c := fun c h => up2_ne h
        have g := ih (i + 1) (up2 M 117 (S ||| 2 ^ i) (nI 1)) (by omega) (hF.frame (f1 _ (by decide)) (f1 _ (by decide)) (f1 _ (by decide)) (f1 _ (by decide))) (by omega)
        rw [q26_10]
        simp (disch := first | assumption | exact nar_b0 | exact nar_b1 | exact nar_b | exact Or.inl rfl | exact Or.inr rfl | exact zin_t (by omega) (by omega) | exact Nat.le_of_ble_eq_true rfl | (rw [nI_cl (by omega)]; assumption) | omega) only [q26_0, q26_1, q26_4, q26_7, q26_8, q26_9, q26_11, q26_12, q26_15, q26_18, q26_21, q26_22, q26_25, q26_26, q26_27, q26_28, q26_29, q26_30, q26_33, q26_36, q26_37, q26_40, q26_41, q26_42, q26_43, q26_44, q26_45, q26_46b, q26_46z, q26_47, q26_50, q26_53, kl_int, kl_ref, kl_tok, cS_nil, cS_int, cS_ref, cS_long, tl_some, tl_none, List.cons_append, List.nil_append, nI_add, nI_ltb, nI_leb, nI_eqb, nI_cl, zin_nI, h2, tbit, hb, b2i_0, hdec, nI_shl, Nat.one_mul, nI_or, vpb1, g]
        rw [if_neg (by omega), if_neg (by omega)]
        simp only [not_true_eq_false, if_false]
        refine oeq (funext fun c => funext fun S' => ?_)
        unfold rfM
        by_cases e : c = 117 ∧ S' = S ||| 2 ^ i
        · obtain ⟨rfl, rfl⟩ := e
          have e9 : dcd (∃ j, i ≤ j ∧ canS bx se Fl.length S j ∧ S ||| 2 ^ i = S ||| 2 ^ j) = true := dcd_t ⟨i, Nat.le_refl _, ⟨by omega, hb, by omega⟩, rfl⟩
          rw [up2_at, e9]
          simp
        · have e1 : up2 M 117 (S ||| 2 ^ i) (nI 1) c S' = M c S' := if_neg e
          rw [e1]
          by_cases e2 : c = 117
          · subst e2
            have e3 : ¬ S' = S ||| 2 ^ i := fun q => e ⟨rfl, q⟩
            have e4 : (∃ j, i + 1 ≤ j ∧ canS bx se Fl.length S j ∧ S' = S ||| 2 ^ j) ↔ (∃ j, i ≤ j ∧ canS bx se Fl.length S j ∧ S' = S ||| 2 ^ j) := by
              constructor
              · rintro ⟨j, h1, h2⟩
                exact ⟨j, by omega, h2⟩
              · rintro ⟨j, h1, h2, h3⟩
                by_cases h4 : j = i
                · subst h4; exact absurd h3 e3
                · exact ⟨j, by omega, h2, h3⟩
            rw [dcd_cong e4]
          · simp [e2]
      · rw [hb] at hci1
        have hci2 : cnt S (i + 1) = cnt S i := by simpa using hci1
        have g := ih (i + 1) M (by omega) hF (by omega)
        rw [hci2] at g
        rw [q26_10]
        simp (disch := first | assumption | exact nar_b0 | exact nar_b1 | exact nar_b | exact Or.inl rfl | exact Or.inr rfl | exact zin_t (by omega) (by omega) | exact Nat.le_of_ble_eq_true rfl | (rw [nI_cl (by omega)]; assumption) | omega) only [q26_0, q26_1, q26_4, q26_7, q26_8, q26_9, q26_11, q26_12, q26_15, q26_18, q26_21, q26_22, q26_25, q26_26, q26_27, q26_28, q26_29, q26_30, q26_33, q26_36, q26_37, q26_40, q26_41, q26_42, q26_43, q26_44, q26_45, q26_46b, q26_46z, q26_47, q26_50, q26_53, kl_int, kl_ref, kl_tok, cS_nil, cS_int, cS_ref, cS_long, tl_some, tl_none, List.cons_append, List.nil_append, nI_add, nI_ltb, nI_leb, nI_eqb, nI_cl, zin_nI, h2, tbit, hb, b2i_0, g]
        rw [if_neg (by omega), if_neg (by omega)]
        simp only [Bool.true_eq_false, not_false_eq_true, if_true]
        refine oeq (funext fun c => funext fun S' => ?_)
        unfold rfM
        have e4 : (∃ j, i + 1 ≤ j ∧ canS bx se Fl.length S j ∧ S' = S ||| 2 ^ j) ↔ (∃ j, i ≤ j ∧ canS bx se Fl.length S j ∧ S' = S ||| 2 ^ j) := by
          constructor
          · rintro ⟨j, h1, h2⟩
            exact ⟨j, by omega, h2⟩
          · rintro ⟨j, h1, h2, h3⟩
            by_cases h4 : j = i
            · subst h4
              have := h2.2.1
              rw [hb] at this
              cases this
            · exact ⟨j, by omega, h2, h3⟩
        rw [dcd_cong e4]
theorem reachFrom_ {S : Nat} (hS : Sh R) (hF : FldRel M se sp bx Fl) (hSt : S < 2 ^ Fl.length) : cal (d + 1) 26 [.ref 106, .int (nI S)] M R = some (.inl none, rfM bx se Fl.length M S 0, R) := by
  obtain ⟨nN, k106, k107, k108, l108, k109, l109, k110, l110, k111, l111, k112, l112, k113, l113, k114, l114, k115, l115, k116, l116, k117, l117, f106_0, f107_0, f107_1, f109_0, f109_1, f106_1, f112_0, f112_1, f106_2, f106_3, f106_4⟩ := lokF hS
  have hc := strikable_ (d := d) hS hF
  have g := reachFrom_L (d := d + 1) hS hSt Fl.length 0 M (by omega) hF (Nat.zero_le _)
  rw [e26]
  simp (disch := first | assumption | exact nar_b0 | exact nar_b1 | exact nar_b | exact Or.inl rfl | exact Or.inr rfl | exact zin_t (by omega) (by omega) | exact Nat.le_of_ble_eq_true rfl | (rw [nI_cl (by omega)]; assumption) | omega) only [q26_0, q26_1, q26_4, q26_7, q26_8, q26_9, q26_11, q26_12, q26_15, q26_18, q26_21, q26_22, q26_25, q26_26, q26_27, q26_28, q26_29, q26_30, q26_33, q26_36, q26_37, q26_40, q26_41, q26_42, q26_43, q26_44, q26_45, q26_46b, q26_46z, q26_47, q26_50, q26_53, kl_int, kl_ref, kl_tok, cS_nil, cS_int, cS_ref, cS_long, tl_some, tl_none, List.cons_append, List.nil_append, nI_add, nI_ltb, nI_leb, nI_eqb, nI_cl, zin_nI, hc, zk0_inl]
  exact g
theorem reachOn_1 {r : Nat → Bool} (hS : Sh R) : ∀ (s : Nat) (tk : Value) (M : ZM), s ≤ 2 ^ Fl.length → FldRel M se sp bx Fl → (∀ S', S' < 2 ^ Fl.length → M 117 S' = b2i (dcd (r S' = true ∨ ∃ S0 j, s ≤ S0 ∧ S0 < 2 ^ Fl.length ∧ r S0 = true ∧ canS bx se Fl.length S0 j ∧ S' = S0 ||| 2 ^ j))) →
    ∃ M', exe (d + 2) 25 12 [.ref 106, .int (iI ((s : Int) - 1)), tk] [] M R = exe (d + 2) 25 40 [.ref 106, .int (nI 0), .int (nI 0)] [] M' R ∧ (∀ S', S' < 2 ^ Fl.length → M' 117 S' = b2i (nxtR bx se Fl.length r S')) ∧ ∀ c, c ≠ 117 → M' c = M c := by
  obtain ⟨nN, k106, k107, k108, l108, k109, l109, k110, l110, k111, l111, k112, l112, k113, l113, k114, l114, k115, l115, k116, l116, k117, l117, f106_0, f107_0, f107_1, f109_0, f109_1, f106_1, f112_0, f112_1, f106_2, f106_3, f106_4⟩ := lokF hS
  intro s
  induction s with
  | zero =>
    intro tk M hs hF hM
    refine ⟨M, ?_, ?_, fun _ _ => rfl⟩
    · have e : (iI (((0 : Nat) : Int) - 1) < nI 0) = True := by
        rw [nI_iI, iI_ltb (by omega) (by omega) (by omega) (by omega)]
        simp
      rw [q25_12]
      simp (disch := first | assumption | exact nar_b0 | exact nar_b1 | exact nar_b | exact Or.inl rfl | exact Or.inr rfl | exact zin_t (by omega) (by omega) | exact Nat.le_of_ble_eq_true rfl | (rw [nI_cl (by omega)]; assumption) | omega) only [q25_0, q25_1, q25_2, q25_5, q25_8, q25_9, q25_10, q25_11, q25_13, q25_16, q25_17, q25_20, q25_21, q25_22, q25_25, q25_26, q25_27, q25_30, q25_33, q25_36, q25_37, q25_38, q25_39, q25_41, q25_42, q25_43, q25_46, q25_49, q25_50, q25_53, q25_54, q25_55, q25_58, q25_59, q25_60, q25_63, q25_64, q25_67, q25_68, q25_69, q25_70, q25_73, q25_76, q25_77, kl_int, kl_ref, kl_tok, cS_nil, cS_int, cS_ref, cS_long, tl_some, tl_none, List.cons_append, List.nil_append, nI_add, nI_ltb, nI_leb, nI_eqb, nI_cl, zin_nI, e, if_true]
    · intro S' h
      rw [hM S' h]
      unfold nxtR
      simp
  | succ s ih =>
    intro tk M hs hF hM
    have hl := hF.2.2.1
    have hp := pow10 hl.1
    have hread : M 117 s = b2i (r s) := by
      rw [hM s (by omega)]
      congr 1
      cases hr : r s with
      | true => exact dcd_t (Or.inl rfl)
      | false =>
        refine dcd_f ?_
        rintro (h | ⟨S0, j, h1, h2, h3, h4, h5⟩)
        · cases h
        · have : S0 ≤ s := by rw [h5]; exact Nat.left_le_or
          omega
    cases hr : r s with
    | false =>
      obtain ⟨M', g1, g2, g3⟩ := ih tk M (by omega) hF (by
        intro S' h
        rw [hM S' h]
        congr 1
        apply dcd_cong
        constructor
        · rintro (q | ⟨S0, j, h1, h2⟩)
          · exact Or.inl q
          · exact Or.inr ⟨S0, j, by omega, h2⟩
        · rintro (q | ⟨S0, j, h1, h2, h3, h4⟩)
          · exact Or.inl q
          · by_cases e : S0 = s
            · subst e; rw [hr] at h3; cases h3
            · exact Or.inr ⟨S0, j, by omega, h2, h3, h4⟩)
      refine ⟨M', ?_, g2, g3⟩
      rw [← g1, nI_t1, ← nI_m]
      rw [hr] at hread
      rw [q25_12]
      simp (disch := first | assumption | exact nar_b0 | exact nar_b1 | exact nar_b | exact Or.inl rfl | exact Or.inr rfl | exact zin_t (by omega) (by omega) | exact Nat.le_of_ble_eq_true rfl | (rw [nI_cl (by omega)]; assumption) | omega) only [q25_0, q25_1, q25_2, q25_5, q25_8, q25_9, q25_10, q25_11, q25_13, q25_16, q25_17, q25_20, q25_21, q25_22, q25_25, q25_26, q25_27, q25_30, q25_33, q25_36, q25_37, q25_38, q25_39, q25_41, q25_42, q25_43, q25_46, q25_49, q25_50, q25_53, q25_54, q25_55, q25_58, q25_59, q25_60, q25_63, q25_64, q25_67, q25_68, q25_69, q25_70, q25_73, q25_76, q25_77, kl_int, kl_ref, kl_tok, cS_nil, cS_int, cS_ref, cS_long, tl_some, tl_none, List.cons_append, List.nil_append, nI_add, nI_ltb, nI_leb, nI_eqb, nI_cl, zin_nI, hread, b2i_f]
      rw [if_neg (by omega)]
      simp
    | true =>
      have hc := reachFrom_ (d := d) (S := s) hS hF (by omega)
      have f1 : ∀ c, c ≠ 117 → rfM bx se Fl.length M s 0 c = M c := fun c h => by
        funext j
        exact if_neg (fun q => h q.1)
      obtain ⟨M', g1, g2, g3⟩ := ih tk (rfM bx se Fl.length M s 0) (by omega) (hF.frame (f1 _ (by decide)) (f1 _ (by decide)) (f1 _ (by decide)) (f1 _ (by decide))) (by
        intro S' h
        unfold rfM
        by_cases e : ∃ j, 0 ≤ j ∧ canS bx se Fl.length s j ∧ S' = s ||| 2 ^ j
        · rw [if_pos ⟨rfl, dcd_t e⟩]
          obtain ⟨j, -, h3, h4⟩ := e
          rw [dcd_t (Or.inr ⟨s, j, Nat.le_refl _, by omega, hr, h3, h4⟩)]
          rfl
        · rw [if_neg (fun q => e (dcd_iff.mp q.2)), hM S' h]
          congr 1
          apply dcd_cong
          constructor
          · rintro (q | ⟨S0, j, h1, h2⟩)
            · exact Or.inl q
            · exact Or.inr ⟨S0, j, by omega, h2⟩
          · rintro (q | ⟨S0, j, h1, h2, h3, h4, h5⟩)
            · exact Or.inl q
            · by_cases e2 : S0 = s
              · subst e2; exact absurd ⟨j, Nat.zero_le _, h4, h5⟩ e
              · exact Or.inr ⟨S0, j, by omega, h2, h3, h4, h5⟩)
      refine ⟨M', ?_, g2, fun c h => by rw [g3 c h, f1 c h]⟩
      rw [← g1, nI_t1, ← nI_m]
      rw [hr] at hread
      rw [q25_12]
      simp (disch := first | assumption | exact nar_b0 | exact nar_b1 | exact nar_b | exact Or.inl rfl | exact Or.inr rfl | exact zin_t (by omega) (by omega) | exact Nat.le_of_ble_eq_true rfl | (rw [nI_cl (by omega)]; assumption) | omega) only [q25_0, q25_1, q25_2, q25_5, q25_8, q25_9, q25_10, q25_11, q25_13, q25_16, q25_17, q25_20, q25_21, q25_22, q25_25, q25_26, q25_27, q25_30, q25_33, q25_36, q25_37, q25_38, q25_39, q25_41, q25_42, q25_43, q25_46, q25_49, q25_50, q25_53, q25_54, q25_55, q25_58, q25_59, q25_60, q25_63, q25_64, q25_67, q25_68, q25_69, q25_70, q25_73, q25_76, q25_77, kl_int, kl_ref, kl_tok, cS_nil, cS_int, cS_ref, cS_long, tl_some, tl_none, List.cons_append, List.nil_append, nI_add, nI_ltb, nI_leb, nI_eqb, nI_cl, zin_nI, hread, b2i_t, hc, zk0_inl]
      rw [if_neg (by omega)]
      simp
theorem reachOn_2 {r : Nat → Bool} (hS : Sh R) (hF : FldRel M se sp bx Fl) (hM : ∀ S', S' < 2 ^ Fl.length → M 117 S' = b2i (r S')) : ∀ (m S : Nat), S + m = 2 ^ Fl.length → exe (d + 2) 25 40 [.ref 106, .int (nI (ctB r S)), .int (nI S)] [] M R = some (.inl (some (.int (nI (ctB r (2 ^ Fl.length))))), M, R) := by
  obtain ⟨nN, k106, k107, k108, l108, k109, l109, k110, l110, k111, l111, k112, l112, k113, l113, k114, l114, k115, l115, k116, l116, k117, l117, f106_0, f107_0, f107_1, f109_0, f109_1, f106_1, f112_0, f112_1, f106_2, f106_3, f106_4⟩ := lokF hS
  have h2 := hF.1.1
  have hl := hF.2.2.1
  have hp := pow10 hl.1
  intro m
  induction m with
  | zero =>
    intro S hSm
    rw [q25_40]
    simp (disch := first | assumption | exact nar_b0 | exact nar_b1 | exact nar_b | exact Or.inl rfl | exact Or.inr rfl | exact zin_t (by omega) (by omega) | exact Nat.le_of_ble_eq_true rfl | (rw [nI_cl (by omega)]; assumption) | omega) only [q25_0, q25_1, q25_2, q25_5, q25_8, q25_9, q25_10, q25_11, q25_13, q25_16, q25_17, q25_20, q25_21, q25_22, q25_25, q25_26, q25_27, q25_30, q25_33, q25_36, q25_37, q25_38, q25_39, q25_41, q25_42, q25_43, q25_46, q25_49, q25_50, q25_53, q25_54, q25_55, q25_58, q25_59, q25_60, q25_63, q25_64, q25_67, q25_68, q25_69, q25_70, q25_73, q25_76, q25_77, kl_int, kl_ref, kl_tok, cS_nil, cS_int, cS_ref, cS_long, tl_some, tl_none, List.cons_append, List.nil_append, nI_add, nI_ltb, nI_leb, nI_eqb, nI_cl, zin_nI, h2, nI_shl, Nat.one_mul]
    rw [if_pos (by omega), show S = 2 ^ Fl.length by omega]
  | succ m ih =>
    intro S hSm
    have hr := hM S (by omega)
    have g := ih (S + 1) (by omega)
    have e : ctB r (S + 1) = ctB r S + if r S then 1 else 0 := rfl
    rw [e] at g
    rw [q25_40]
    simp (disch := first | assumption | exact nar_b0 | exact nar_b1 | exact nar_b | exact Or.inl rfl | exact Or.inr rfl | exact zin_t (by omega) (by omega) | exact Nat.le_of_ble_eq_true rfl | (rw [nI_cl (by omega)]; assumption) | omega) only [q25_0, q25_1, q25_2, q25_5, q25_8, q25_9, q25_10, q25_11, q25_13, q25_16, q25_17, q25_20, q25_21, q25_22, q25_25, q25_26, q25_27, q25_30, q25_33, q25_36, q25_37, q25_38, q25_39, q25_41, q25_42, q25_43, q25_46, q25_49, q25_50, q25_53, q25_54, q25_55, q25_58, q25_59, q25_60, q25_63, q25_64, q25_67, q25_68, q25_69, q25_70, q25_73, q25_76, q25_77, kl_int, kl_ref, kl_tok, cS_nil, cS_int, cS_ref, cS_long, tl_some, tl_none, List.cons_append, List.nil_append, nI_add, nI_ltb, nI_leb, nI_eqb, nI_cl, zin_nI, h2, nI_shl, Nat.one_mul, hr, b2i_0]
    rw [if_neg (by omega)]
    cases hb : r S
    · rw [hb] at g
      simpa using g
    · rw [hb] at g
      simpa using g
theorem reachOn_ {r : Nat → Bool} (hS : Sh R) (hF : FldRel M se sp bx Fl) (hM : ∀ S', S' < 2 ^ Fl.length → M 117 S' = b2i (r S')) : ∃ M', cal (d + 2) 25 [.ref 106] M R = some (.inl (some (.int (nI (ctB (nxtR bx se Fl.length r) (2 ^ Fl.length))))), M', R) ∧ (∀ S', S' < 2 ^ Fl.length → M' 117 S' = b2i (nxtR bx se Fl.length r S')) ∧ ∀ c, c ≠ 117 → M' c = M c := by
  obtain ⟨nN, k106, k107, k108, l108, k109, l109, k110, l110, k111, l111, k112, l112, k113, l113, k114, l114, k115, l115, k116, l116, k117, l117, f106_0, f107_0, f107_1, f109_0, f109_1, f106_1, f112_0, f112_1, f106_2, f106_3, f106_4⟩ := lokF hS
  have h2 := hF.1.1
  have hl := hF.2.2.1
  have hp := pow10 hl.1
  obtain ⟨M', g1, g2, g3⟩ := reachOn_1 (d := d) (r := r) hS (2 ^ Fl.length) tok M (Nat.le_refl _) hF (by
    intro S' h
    rw [hM S' h]
    congr 1
    cases hr : r S' with
    | true => exact (dcd_t (Or.inl rfl)).symm
    | false =>
      refine (dcd_f ?_).symm
      rintro (q | ⟨S0, j, h1, h2, -⟩)
      · cases q
      · omega)
  refine ⟨M', ?_, g2, g3⟩
  have hF' : FldRel M' se sp bx Fl := hF.frame (g3 _ (by decide)) (g3 _ (by decide)) (g3 _ (by decide)) (g3 _ (by decide))
  have g4 := reachOn_2 (d := d) (r := nxtR bx se Fl.length r) hS hF' g2 (2 ^ Fl.length) 0 (by omega)
  have e0 : ctB (nxtR bx se Fl.length r) 0 = 0 := rfl
  rw [e0] at g4
  rw [← g4, ← g1, e25]
  simp (disch := first | assumption | exact nar_b0 | exact nar_b1 | exact nar_b | exact Or.inl rfl | exact Or.inr rfl | exact zin_t (by omega) (by omega) | exact Nat.le_of_ble_eq_true rfl | (rw [nI_cl (by omega)]; assumption) | omega) only [q25_0, q25_1, q25_2, q25_5, q25_8, q25_9, q25_10, q25_11, q25_13, q25_16, q25_17, q25_20, q25_21, q25_22, q25_25, q25_26, q25_27, q25_30, q25_33, q25_36, q25_37, q25_38, q25_39, q25_41, q25_42, q25_43, q25_46, q25_49, q25_50, q25_53, q25_54, q25_55, q25_58, q25_59, q25_60, q25_63, q25_64, q25_67, q25_68, q25_69, q25_70, q25_73, q25_76, q25_77, kl_int, kl_ref, kl_tok, cS_nil, cS_int, cS_ref, cS_long, tl_some, tl_none, List.cons_append, List.nil_append, nI_add, nI_ltb, nI_leb, nI_eqb, nI_cl, zin_nI, h2, nI_shl, Nat.one_mul, nI_m]
theorem states_1 {x : Int32} (hS : Sh R) : ∀ (m k : Nat) (tk : Value) (M : ZM), k + m = 1024 → 1 ≤ k → (∀ S', 1 ≤ S' → S' < k → M 117 S' = nI 0) → ∃ M', exe (d + 3) 24 2 [.ref 106, .int x, .int (nI k), tk] [] M R = exe (d + 3) 24 22 [.ref 106, .int x, .int (nI 1024), tk] [] M' R ∧ (∀ S', 1 ≤ S' → S' < 1024 → M' 117 S' = nI 0) ∧ ∀ c, c ≠ 117 → M' c = M c := by
  obtain ⟨nN, k106, k107, k108, l108, k109, l109, k110, l110, k111, l111, k112, l112, k113, l113, k114, l114, k115, l115, k116, l116, k117, l117, f106_0, f107_0, f107_1, f109_0, f109_1, f106_1, f112_0, f112_1, f106_2, f106_3, f106_4⟩ := lokF hS
  intro m
  induction m with
  | zero =>
    intro k tk M hk h1 hM
    refine ⟨M, ?_, by rw [← show k = 1024 by omega]; exact hM, fun _ _ => rfl⟩
    rw [q24_2]
    simp (disch := first | assumption | exact nar_b0 | exact nar_b1 | exact nar_b | exact Or.inl rfl | exact Or.inr rfl | exact zin_t (by omega) (by omega) | exact Nat.le_of_ble_eq_true rfl | (rw [nI_cl (by omega)]; assumption) | omega) only [q24_0, q24_1, q24_3, q24_6, q24_9, q24_10, q24_13, q24_14, q24_15b, q24_15z, q24_16, q24_19, q24_23, q24_26, q24_27, q24_28b, q24_28z, q24_29, q24_30, q24_31, q24_32, q24_34, q24_35, q24_38, q24_39, q24_40, q24_43, q24_44, q24_45, q24_48, q24_51, q24_52, kl_int, kl_ref, kl_tok, cS_nil, cS_int, cS_ref, cS_long, tl_some, tl_none, List.cons_append, List.nil_append, nI_add, nI_ltb, nI_leb, nI_eqb, nI_cl, zin_nI]
    rw [if_pos (by omega), show k = 1024 by omega]
  | succ m ih =>
    intro k tk M hk h1 hM
    obtain ⟨M', g1, g2, g3⟩ := ih (k + 1) tk (up2 M 117 k (nI 0)) (by omega) (by omega) (by
      intro S' h2 h3
      by_cases e : S' = k
      · subst e; rw [up2_at]
      · rw [up2_s e]; exact hM S' h2 (by omega))
    refine ⟨M', ?_, g2, fun c h => by rw [g3 c h, up2_ne h]⟩
    rw [← g1]
    rw [q24_2]
    simp (disch := first | assumption | exact nar_b0 | exact nar_b1 | exact nar_b | exact Or.inl rfl | exact Or.inr rfl | exact zin_t (by omega) (by omega) | exact Nat.le_of_ble_eq_true rfl | (rw [nI_cl (by omega)]; assumption) | omega) only [q24_0, q24_1, q24_3, q24_6, q24_9, q24_10, q24_13, q24_14, q24_15b, q24_15z, q24_16, q24_19, q24_23, q24_26, q24_27, q24_28b, q24_28z, q24_29, q24_30, q24_31, q24_32, q24_34, q24_35, q24_38, q24_39, q24_40, q24_43, q24_44, q24_45, q24_48, q24_51, q24_52, kl_int, kl_ref, kl_tok, cS_nil, cS_int, cS_ref, cS_long, tl_some, tl_none, List.cons_append, List.nil_append, nI_add, nI_ltb, nI_leb, nI_eqb, nI_cl, zin_nI, vpb0]
    rw [if_neg (by omega)]
theorem states_2 (hS : Sh R) (hT : T ≤ 9) : ∀ (m t : Nat) (M : ZM), t + m = T → FldRel M se sp bx Fl → (∀ S', S' < 2 ^ Fl.length → M 117 S' = b2i (Rn bx se Fl.length t S')) → ∃ M', exe (d + 3) 24 33 [.ref 106, .int (nI T), .int (nI (totS bx se Fl.length t)), .int (nI t)] [] M R = some (.inl (some (.int (nI (totS bx se Fl.length T)))), M', R) ∧ ∀ c, c ≠ 117 → M' c = M c := by
  obtain ⟨nN, k106, k107, k108, l108, k109, l109, k110, l110, k111, l111, k112, l112, k113, l113, k114, l114, k115, l115, k116, l116, k117, l117, f106_0, f107_0, f107_1, f109_0, f109_1, f106_1, f112_0, f112_1, f106_2, f106_3, f106_4⟩ := lokF hS
  intro m
  induction m with
  | zero =>
    intro t M ht hF hM
    refine ⟨M, ?_, fun _ _ => rfl⟩
    rw [q24_33]
    simp (disch := first | assumption | exact nar_b0 | exact nar_b1 | exact nar_b | exact Or.inl rfl | exact Or.inr rfl | exact zin_t (by omega) (by omega) | exact Nat.le_of_ble_eq_true rfl | (rw [nI_cl (by omega)]; assumption) | omega) only [q24_0, q24_1, q24_3, q24_6, q24_9, q24_10, q24_13, q24_14, q24_15b, q24_15z, q24_16, q24_19, q24_22, q24_23, q24_26, q24_27, q24_28b, q24_28z, q24_29, q24_30, q24_31, q24_32, q24_34, q24_35, q24_38, q24_39, q24_40, q24_43, q24_44, q24_45, q24_48, q24_51, q24_52, kl_int, kl_ref, kl_tok, cS_nil, cS_int, cS_ref, cS_long, tl_some, tl_none, List.cons_append, List.nil_append, nI_add, nI_ltb, nI_leb, nI_eqb, nI_cl, zin_nI]
    rw [if_pos (by omega), show t = T by omega]
  | succ m ih =>
    intro t M ht hF hM
    obtain ⟨M1, c1, c2, c3⟩ := reachOn_ (d := d) hS hF hM
    obtain ⟨M', g1, g2⟩ := ih (t + 1) M1 (by omega) (hF.frame (c3 _ (by decide)) (c3 _ (by decide)) (c3 _ (by decide)) (c3 _ (by decide))) c2
    refine ⟨M', ?_, fun c h => by rw [g2 c h, c3 c h]⟩
    rw [← g1]
    rw [q24_33]
    simp (disch := first | assumption | exact nar_b0 | exact nar_b1 | exact nar_b | exact Or.inl rfl | exact Or.inr rfl | exact zin_t (by omega) (by omega) | exact Nat.le_of_ble_eq_true rfl | (rw [nI_cl (by omega)]; assumption) | omega) only [q24_0, q24_1, q24_3, q24_6, q24_9, q24_10, q24_13, q24_14, q24_15b, q24_15z, q24_16, q24_19, q24_22, q24_23, q24_26, q24_27, q24_28b, q24_28z, q24_29, q24_30, q24_31, q24_32, q24_34, q24_35, q24_38, q24_39, q24_40, q24_43, q24_44, q24_45, q24_48, q24_51, q24_52, kl_int, kl_ref, kl_tok, cS_nil, cS_int, cS_ref, cS_long, tl_some, tl_none, List.cons_append, List.nil_append, nI_add, nI_ltb, nI_leb, nI_eqb, nI_cl, zin_nI, c1, zk0_inl]
    rw [if_neg (by omega)]
    rfl
theorem howManyStates_ (hS : Sh R) (hF : FldRel M se sp bx Fl) (hT : T ≤ 9) : ∃ M', cal (d + 3) 24 [.ref 106, .int (nI T)] M R = some (.inl (some (.int (nI (totS bx se Fl.length T)))), M', R) ∧ ∀ c, c ≠ 117 → M' c = M c := by
  obtain ⟨nN, k106, k107, k108, l108, k109, l109, k110, l110, k111, l111, k112, l112, k113, l113, k114, l114, k115, l115, k116, l116, k117, l117, f106_0, f107_0, f107_1, f109_0, f109_1, f106_1, f112_0, f112_1, f106_2, f106_3, f106_4⟩ := lokF hS
  have hp := pow10 hF.2.2.1.1
  obtain ⟨M1, a1, a2, a3⟩ := states_1 (d := d) (x := nI T) hS 1023 1 tok M (by omega) (by omega) (fun S' h1 h2 => by omega)
  have f2 : ∀ c, c ≠ 117 → up2 M1 117 0 (nI 1) c = M c := fun c h => by rw [up2_ne h, a3 c h]
  obtain ⟨M', g1, g2⟩ := states_2 (d := d) hS hT T 0 (up2 M1 117 0 (nI 1)) (by omega) (hF.frame (f2 _ (by decide)) (f2 _ (by decide)) (f2 _ (by decide)) (f2 _ (by decide))) (by
    intro S' h
    by_cases e : S' = 0
    · subst e; rw [up2_at]; rfl
    · rw [up2_s e, a2 S' (by omega) (by omega)]
      unfold Rn
      rw [decide_eq_false e]
      rfl)
  refine ⟨M', ?_, fun c h => by rw [g2 c h, f2 c h]⟩
  have e1 : totS bx se Fl.length 0 = 1 := rfl
  rw [e1] at g1
  rw [← g1, e24]
  simp (disch := first | assumption | exact nar_b0 | exact nar_b1 | exact nar_b | exact Or.inl rfl | exact Or.inr rfl | exact zin_t (by omega) (by omega) | exact Nat.le_of_ble_eq_true rfl | (rw [nI_cl (by omega)]; assumption) | omega) only [q24_0, q24_1, q24_3, q24_6, q24_9, q24_10, q24_13, q24_14, q24_15b, q24_15z, q24_16, q24_19, q24_23, q24_26, q24_27, q24_28b, q24_28z, q24_29, q24_30, q24_31, q24_32, q24_34, q24_35, q24_38, q24_39, q24_40, q24_43, q24_44, q24_45, q24_48, q24_51, q24_52, kl_int, kl_ref, kl_tok, cS_nil, cS_int, cS_ref, cS_long, tl_some, tl_none, List.cons_append, List.nil_append, nI_add, nI_ltb, nI_leb, nI_eqb, nI_cl, zin_nI]
  rw [a1]
  simp (disch := first | assumption | exact nar_b0 | exact nar_b1 | exact nar_b | exact Or.inl rfl | exact Or.inr rfl | exact zin_t (by omega) (by omega) | exact Nat.le_of_ble_eq_true rfl | (rw [nI_cl (by omega)]; assumption) | omega) only [q24_0, q24_1, q24_3, q24_6, q24_9, q24_10, q24_13, q24_14, q24_15b, q24_15z, q24_16, q24_19, q24_22, q24_23, q24_26, q24_27, q24_28b, q24_28z, q24_29, q24_30, q24_31, q24_32, q24_34, q24_35, q24_38, q24_39, q24_40, q24_43, q24_44, q24_45, q24_48, q24_51, q24_52, kl_int, kl_ref, kl_tok, cS_nil, cS_int, cS_ref, cS_long, tl_some, tl_none, List.cons_append, List.nil_append, nI_add, nI_ltb, nI_leb, nI_eqb, nI_cl, zin_nI, vpb1]
end St
