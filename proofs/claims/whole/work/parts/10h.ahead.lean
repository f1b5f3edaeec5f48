-- plain play
def lst : List Int → Nat → Option (Nat × Int) → Option (Nat × Int)
  | [], _, b => b
  | w :: X, j, none => lst X (j + 1) (some (j, w))
  | w :: X, j, some (i, v) => lst X (j + 1) (if w < v then some (j, w) else some (i, v))
def fin (b : Option (Nat × Int)) (h : Int) : Option Nat := match b with
  | none => none
  | some (j, v) => if v < h then some j else none
def plA (se s : Nat) (X : List P3) : Option Nat := fin (lst ((X.map (wS s)).take se) 0 none) (((X.map (wS s))[se]?).getD 0)
def LoR (S : Nat) (Fl : List P3) (s : Nat) (lo : Option Nat) (b : Option (Nat × Int)) : Prop := match lo, b with
  | none, none => True
  | some i, some (j, v) => S.testBit i = false ∧ cnt S i = j ∧ ∃ h : i < Fl.length, v = wS s Fl[i]
  | _, _ => False
theorem oI_m1 {i : Nat} (h : i < 2147483648) : (nI i = -1) = False := nI_m1 h
section Pl
variable {d se sp bx : Nat} {M : ZM} {R : ZH} {Fl : List P3}
theorem plainAct_E {s S : Nat} (hs : s < 2) (hSt : S < 1024) (hS : Sh R) (hF : FldRel M se sp bx Fl) (i c : Nat) (h : Int) (lo : Option Nat) (b : Option (Nat × Int)) (hi : i ≤ Fl.length) (hor : Fl.length ≤ i ∨ se < c) (hc : c < 100) (hh : -50 ≤ h ∧ h ≤ 50) (hlo : LoR S Fl s lo b) :
    ∃ o, exe d 16 19 [.ref 107, .int (nI s), .int (nI S), .ref (110 + s), .int (oI lo), .int (nI c), .int (iI h), .int (nI i)] [] M R = some (.inl (some (.int (oI o))), M, R) ∧ PlR S Fl.length o (fin b h) := by
  obtain ⟨nN, k107, k108, l108, k109, l109, k110, l110, k111, l111, f107_0, f107_1, f109_0, f109_1⟩ := fldF hS
  obtain ⟨ks, ls, -⟩ := KFw hS hs
  have h2 := hF.1
  have hl := hF.2.2.1
  match lo, b, hlo with
  | none, none, _ =>
    refine ⟨none, ?_, trivial⟩
    rw [q16_19]
    simp (disch := first | assumption | exact nar_b0 | exact nar_b1 | exact nar_b | exact Or.inl rfl | exact Or.inr rfl | exact zin_t (by omega) (by omega) | exact Nat.le_of_ble_eq_true rfl | (rw [nI_cl (by omega)]; assumption) | omega) only [q16_0, q16_1, q16_4, q16_5, q16_6, q16_7, q16_8, q16_10, q16_11, q16_13, q16_14, q16_16, q16_17, q16_21, q16_22, q16_25, q16_28, q16_30, q16_31, q16_34, q16_37, q16_38, q16_40, q16_41, q16_42, q16_43, q16_46, q16_48, q16_49, q16_52, q16_55, q16_56, q16_58, q16_59, q16_61, q16_64, q16_66, q16_67, q16_70, q16_71, q16_73, q16_74, q16_75, q16_77, q16_78, q16_81, q16_83, q16_85, q16_88, q16_91, q16_94, q16_96, q16_97, q16_100, q16_101, q16_103, q16_104, q16_106, q16_109, q16_111, q16_114, q16_115, kl_int, kl_ref, kl_tok, cS_nil, cS_int, cS_ref, cS_long, tl_some, tl_none, List.cons_append, List.nil_append, nI_add, nI_ltb, nI_leb, nI_eqb, nI_cl, zin_nI, h2.1, h2.2.1, oI]
    by_cases e : Fl.length ≤ i
    · simp [e]
    · simp [e, show se < c by omega]
  | some i0, some (j, v), hlo =>
    obtain ⟨g1, g2, g3, rfl⟩ := hlo
    have hw := hF.w hs i0 g3
    have hb := hF.wb (s := s) i0 g3
    refine ⟨if wS s Fl[i0] < h then some i0 else none, ?_, ?_⟩
    · rw [q16_19]
      simp (disch := first | assumption | exact nar_b0 | exact nar_b1 | exact nar_b | exact Or.inl rfl | exact Or.inr rfl | exact zin_t (by omega) (by omega) | exact Nat.le_of_ble_eq_true rfl | (rw [nI_cl (by omega)]; assumption) | omega) only [q16_0, q16_1, q16_4, q16_5, q16_6, q16_7, q16_8, q16_10, q16_11, q16_13, q16_14, q16_16, q16_17, q16_21, q16_22, q16_25, q16_28, q16_30, q16_31, q16_34, q16_37, q16_38, q16_40, q16_41, q16_42, q16_43, q16_46, q16_48, q16_49, q16_52, q16_55, q16_56, q16_58, q16_59, q16_61, q16_64, q16_66, q16_67, q16_70, q16_71, q16_73, q16_74, q16_75, q16_77, q16_78, q16_81, q16_83, q16_85, q16_88, q16_91, q16_94, q16_96, q16_97, q16_100, q16_101, q16_103, q16_104, q16_106, q16_109, q16_111, q16_114, q16_115, kl_int, kl_ref, kl_tok, cS_nil, cS_int, cS_ref, cS_long, tl_some, tl_none, List.cons_append, List.nil_append, nI_add, nI_ltb, nI_leb, nI_eqb, nI_cl, zin_nI, h2.1, h2.2.1, oI, hw, iI_leb, nI_m1]
      by_cases e1 : wS s Fl[i0] < h
      · have e2 : ¬ h ≤ wS s Fl[i0] := by omega
        by_cases e : Fl.length ≤ i
        · simp [e, e1, e2]
        · simp [e, show se < c by omega, e1, e2]
      · have e2 : h ≤ wS s Fl[i0] := by omega
        by_cases e : Fl.length ≤ i
        · simp [e, e1, e2]
        · simp [e, show se < c by omega, e1, e2]
    · unfold fin
      by_cases e1 : wS s Fl[i0] < h
      · rw [if_pos e1]
        simp only [e1, if_true]
        exact ⟨g3, g1, g2⟩
      · rw [if_neg e1]
        simp only [e1, if_false]
        trivial
set_option maxHeartbeats 2000000 in
theorem plainAct_L {s S : Nat} (hs : s < 2) (hSt : S < 1024) (hS : Sh R) (hF : FldRel M se sp bx Fl) : ∀ (m i : Nat) (lo : Option Nat) (b : Option (Nat × Int)), i + m = Fl.length → cnt S i ≤ se → LoR S Fl s lo b →
    ∃ o, exe d 16 19 [.ref 107, .int (nI s), .int (nI S), .ref (110 + s), .int (oI lo), .int (nI (cnt S i)), .int (iI 0), .int (nI i)] [] M R = some (.inl (some (.int (oI o))), M, R) ∧ PlR S Fl.length o (fin (lst (((remI (Fl.drop i) S i).map (wS s)).take (se - cnt S i)) (cnt S i) b) ((((remI (Fl.drop i) S i).map (wS s))[se - cnt S i]?).getD 0)) := by
  obtain ⟨nN, k107, k108, l108, k109, l109, k110, l110, k111, l111, f107_0, f107_1, f109_0, f109_1⟩ := fldF hS
  obtain ⟨ks, ls, -⟩ := KFw hS hs
  have h2 := hF.1
  have hl := hF.2.2.1
  intro m
  induction m with
  | zero =>
    intro i lo b hi hc hlo
    obtain ⟨o, g1, g2⟩ := plainAct_E (d := d) hs hSt hS hF i (cnt S i) 0 lo b (by omega) (Or.inl (by omega)) (by omega) (by omega) hlo
    refine ⟨o, g1, ?_⟩
    rw [remI_end (by omega)]
    simpa [lst] using g2
  | succ m ih =>
    intro i lo b hi hc hlo
    have hw := hF.w hs i (by omega)
    have hwb := hF.wb (s := s) i (by omega)
    have hci1 : cnt S (i + 1) = cnt S i + if S.testBit i then 0 else 1 := rfl
    rw [remI_step (l := Fl) (S := S) (i := i) (by omega)]
    cases hb : S.testBit i
    · rw [hb] at hci1
      have hci2 : cnt S (i + 1) = cnt S i + 1 := by simpa using hci1
      rw [if_neg (by decide), List.map_cons]
      by_cases e : cnt S i = se
      · rw [e, Nat.sub_self, List.take_zero, List.getElem?_cons_zero]
        obtain ⟨o, g1, g2⟩ := plainAct_E (d := d) hs hSt hS hF (i + 1) (se + 1) (wS s Fl[i]) lo b (by omega) (Or.inr (by omega)) (by omega) hwb hlo
        refine ⟨o, ?_, by simpa [lst] using g2⟩
        rw [← g1]
        rw [q16_19]
        simp (disch := first | assumption | exact nar_b0 | exact nar_b1 | exact nar_b | exact Or.inl rfl | exact Or.inr rfl | exact zin_t (by omega) (by omega) | exact Nat.le_of_ble_eq_true rfl | (rw [nI_cl (by omega)]; assumption) | omega) only [q16_0, q16_1, q16_4, q16_5, q16_6, q16_7, q16_8, q16_10, q16_11, q16_13, q16_14, q16_16, q16_17, q16_21, q16_22, q16_25, q16_28, q16_30, q16_31, q16_34, q16_37, q16_38, q16_40, q16_41, q16_42, q16_43, q16_46, q16_48, q16_49, q16_52, q16_55, q16_56, q16_58, q16_59, q16_61, q16_64, q16_66, q16_67, q16_70, q16_71, q16_73, q16_74, q16_75, q16_77, q16_78, q16_81, q16_83, q16_85, q16_88, q16_91, q16_94, q16_96, q16_97, q16_100, q16_101, q16_103, q16_104, q16_106, q16_109, q16_111, q16_114, q16_115, kl_int, kl_ref, kl_tok, cS_nil, cS_int, cS_ref, cS_long, tl_some, tl_none, List.cons_append, List.nil_append, nI_add, nI_ltb, nI_leb, nI_eqb, nI_cl, zin_nI, h2.1, h2.2.1, tbit, hb, b2i_0, hw]
        rw [if_neg (by omega), if_neg (by omega)]
        simp
      · have e2 : se - cnt S i = (se - cnt S (i + 1)) + 1 := by omega
        rw [e2, List.take_succ_cons, List.getElem?_cons_succ]
        match lo, b, hlo with
        | none, none, _ =>
          obtain ⟨o, g1, g2⟩ := ih (i + 1) (some i) (some (cnt S i, wS s Fl[i])) (by omega) (by omega) ⟨hb, rfl, by omega, rfl⟩
          refine ⟨o, ?_, by rw [lst, ← hci2]; exact g2⟩
          rw [← g1]
          rw [q16_19]
          simp (disch := first | assumption | exact nar_b0 | exact nar_b1 | exact nar_b | exact Or.inl rfl | exact Or.inr rfl | exact zin_t (by omega) (by omega) | exact Nat.le_of_ble_eq_true rfl | (rw [nI_cl (by omega)]; assumption) | omega) only [q16_0, q16_1, q16_4, q16_5, q16_6, q16_7, q16_8, q16_10, q16_11, q16_13, q16_14, q16_16, q16_17, q16_21, q16_22, q16_25, q16_28, q16_30, q16_31, q16_34, q16_37, q16_38, q16_40, q16_41, q16_42, q16_43, q16_46, q16_48, q16_49, q16_52, q16_55, q16_56, q16_58, q16_59, q16_61, q16_64, q16_66, q16_67, q16_70, q16_71, q16_73, q16_74, q16_75, q16_77, q16_78, q16_81, q16_83, q16_85, q16_88, q16_91, q16_94, q16_96, q16_97, q16_100, q16_101, q16_103, q16_104, q16_106, q16_109, q16_111, q16_114, q16_115, kl_int, kl_ref, kl_tok, cS_nil, cS_int, cS_ref, cS_long, tl_some, tl_none, List.cons_append, List.nil_append, nI_add, nI_ltb, nI_leb, nI_eqb, nI_cl, zin_nI, h2.1, h2.2.1, tbit, hb, b2i_0, oI, hci2]
          rw [if_neg (by omega), if_neg (by omega)]
          simp [e]
        | some i0, some (j, v), hlo =>
          obtain ⟨p1, p2, p3, rfl⟩ := hlo
          have hw0 := hF.w hs i0 p3
          have hwb0 := hF.wb (s := s) i0 p3
          by_cases e3 : wS s Fl[i] < wS s Fl[i0]
          · obtain ⟨o, g1, g2⟩ := ih (i + 1) (some i) (some (cnt S i, wS s Fl[i])) (by omega) (by omega) ⟨hb, rfl, by omega, rfl⟩
            refine ⟨o, ?_, by rw [lst, if_pos e3, ← hci2]; exact g2⟩
            rw [← g1]
            rw [q16_19]
            simp (disch := first | assumption | exact nar_b0 | exact nar_b1 | exact nar_b | exact Or.inl rfl | exact Or.inr rfl | exact zin_t (by omega) (by omega) | exact Nat.le_of_ble_eq_true rfl | (rw [nI_cl (by omega)]; assumption) | omega) only [q16_0, q16_1, q16_4, q16_5, q16_6, q16_7, q16_8, q16_10, q16_11, q16_13, q16_14, q16_16, q16_17, q16_21, q16_22, q16_25, q16_28, q16_30, q16_31, q16_34, q16_37, q16_38, q16_40, q16_41, q16_42, q16_43, q16_46, q16_48, q16_49, q16_52, q16_55, q16_56, q16_58, q16_59, q16_61, q16_64, q16_66, q16_67, q16_70, q16_71, q16_73, q16_74, q16_75, q16_77, q16_78, q16_81, q16_83, q16_85, q16_88, q16_91, q16_94, q16_96, q16_97, q16_100, q16_101, q16_103, q16_104, q16_106, q16_109, q16_111, q16_114, q16_115, kl_int, kl_ref, kl_tok, cS_nil, cS_int, cS_ref, cS_long, tl_some, tl_none, List.cons_append, List.nil_append, nI_add, nI_ltb, nI_leb, nI_eqb, nI_cl, zin_nI, h2.1, h2.2.1, tbit, hb, b2i_0, oI, hci2, hw, hw0, iI_leb, nI_m1]
            rw [if_neg (by omega), if_neg (by omega)]
            simp [e, show ¬ wS s Fl[i0] ≤ wS s Fl[i] by omega]
          · obtain ⟨o, g1, g2⟩ := ih (i + 1) (some i0) (some (j, wS s Fl[i0])) (by omega) (by omega) ⟨p1, p2, p3, rfl⟩
            refine ⟨o, ?_, by rw [lst, if_neg e3, ← hci2]; exact g2⟩
            rw [← g1]
            rw [q16_19]
            simp (disch := first | assumption | exact nar_b0 | exact nar_b1 | exact nar_b | exact Or.inl rfl | exact Or.inr rfl | exact zin_t (by omega) (by omega) | exact Nat.le_of_ble_eq_true rfl | (rw [nI_cl (by omega)]; assumption) | omega) only [q16_0, q16_1, q16_4, q16_5, q16_6, q16_7, q16_8, q16_10, q16_11, q16_13, q16_14, q16_16, q16_17, q16_21, q16_22, q16_25, q16_28, q16_30, q16_31, q16_34, q16_37, q16_38, q16_40, q16_41, q16_42, q16_43, q16_46, q16_48, q16_49, q16_52, q16_55, q16_56, q16_58, q16_59, q16_61, q16_64, q16_66, q16_67, q16_70, q16_71, q16_73, q16_74, q16_75, q16_77, q16_78, q16_81, q16_83, q16_85, q16_88, q16_91, q16_94, q16_96, q16_97, q16_100, q16_101, q16_103, q16_104, q16_106, q16_109, q16_111, q16_114, q16_115, kl_int, kl_ref, kl_tok, cS_nil, cS_int, cS_ref, cS_long, tl_some, tl_none, List.cons_append, List.nil_append, nI_add, nI_ltb, nI_leb, nI_eqb, nI_cl, zin_nI, h2.1, h2.2.1, tbit, hb, b2i_0, oI, hci2, hw, hw0, iI_leb, nI_m1]
            rw [if_neg (by omega), if_neg (by omega)]
            simp [e, show wS s Fl[i0] ≤ wS s Fl[i] by omega]
    · rw [hb] at hci1
      have hci2 : cnt S (i + 1) = cnt S i := by simpa using hci1
      rw [if_pos rfl, ← hci2]
      obtain ⟨o, g1, g2⟩ := ih (i + 1) lo b (by omega) (by omega) hlo
      refine ⟨o, ?_, g2⟩
      rw [← g1]
      rw [q16_19]
      simp (disch := first | assumption | exact nar_b0 | exact nar_b1 | exact nar_b | exact Or.inl rfl | exact Or.inr rfl | exact zin_t (by omega) (by omega) | exact Nat.le_of_ble_eq_true rfl | (rw [nI_cl (by omega)]; assumption) | omega) only [q16_0, q16_1, q16_4, q16_5, q16_6, q16_7, q16_8, q16_10, q16_11, q16_13, q16_14, q16_16, q16_17, q16_21, q16_22, q16_25, q16_28, q16_30, q16_31, q16_34, q16_37, q16_38, q16_40, q16_41, q16_42, q16_43, q16_46, q16_48, q16_49, q16_52, q16_55, q16_56, q16_58, q16_59, q16_61, q16_64, q16_66, q16_67, q16_70, q16_71, q16_73, q16_74, q16_75, q16_77, q16_78, q16_81, q16_83, q16_85, q16_88, q16_91, q16_94, q16_96, q16_97, q16_100, q16_101, q16_103, q16_104, q16_106, q16_109, q16_111, q16_114, q16_115, kl_int, kl_ref, kl_tok, cS_nil, cS_int, cS_ref, cS_long, tl_some, tl_none, List.cons_append, List.nil_append, nI_add, nI_ltb, nI_leb, nI_eqb, nI_cl, zin_nI, h2.1, h2.2.1, tbit, hb, b2i_0]
      rw [if_neg (by omega), if_neg (by omega)]
      simp
theorem plainAct_ {s S : Nat} (hs : s < 2) (hSt : S < 1024) (hS : Sh R) (hF : FldRel M se sp bx Fl) : ∃ o, cal d 16 [.ref 107, .int (nI s), .int (nI S)] M R = some (.inl (some (.int (oI o))), M, R) ∧ PlR S Fl.length o (plA se s (rem Fl S)) := by
  obtain ⟨nN, k107, k108, l108, k109, l109, k110, l110, k111, l111, f107_0, f107_1, f109_0, f109_1⟩ := fldF hS
  obtain ⟨ks, ls, fs⟩ := KFw hS hs
  obtain ⟨o, g1, g2⟩ := plainAct_L (d := d) hs hSt hS hF Fl.length 0 none none (by omega) (Nat.zero_le _) trivial
  refine ⟨o, ?_, g2⟩
  rw [← g1, e16]
  simp (disch := first | assumption | exact nar_b0 | exact nar_b1 | exact nar_b | exact Or.inl rfl | exact Or.inr rfl | exact zin_t (by omega) (by omega) | exact Nat.le_of_ble_eq_true rfl | (rw [nI_cl (by omega)]; assumption) | omega) only [q16_0, q16_1, q16_4, q16_5, q16_6, q16_7, q16_8, q16_10, q16_11, q16_13, q16_14, q16_16, q16_17, q16_21, q16_22, q16_25, q16_28, q16_30, q16_31, q16_34, q16_37, q16_38, q16_40, q16_41, q16_42, q16_43, q16_46, q16_48, q16_49, q16_52, q16_55, q16_56, q16_58, q16_59, q16_61, q16_64, q16_66, q16_67, q16_70, q16_71, q16_73, q16_74, q16_75, q16_77, q16_78, q16_81, q16_83, q16_85, q16_88, q16_91, q16_94, q16_96, q16_97, q16_100, q16_101, q16_103, q16_104, q16_106, q16_109, q16_111, q16_114, q16_115, kl_int, kl_ref, kl_tok, cS_nil, cS_int, cS_ref, cS_long, tl_some, tl_none, List.cons_append, List.nil_append, nI_add, nI_ltb, nI_leb, nI_eqb, nI_cl, zin_nI]
  rfl
end Pl
-- those who are not struck, but for one
def tkF (f : Nat → Int32) (x : Int32) : Nat → Nat → List Nat
  | 0, _ => []
  | m + 1, j => if f (92 + j) = x ∨ stk f (rw f j) = true then tkF f x m (j + 1) else rw f j :: tkF f x m (j + 1)
def Tk (f : Nat → Int32) (x : Int32) : List P3 := (tkF f x (ln f) 0).map (pers f)
def Un (f : Nat → Int32) : List P3 := (UL f).map (pers f)
theorem tkF_m1 {f : Nat → Int32} (hW : Wf f) : ∀ (m j : Nat), j + m ≤ ln f → tkF f (-1) m j = ulF f m j := by
  intro m
  induction m with
  | zero => intro j _; rfl
  | succ m ih =>
    intro j hj
    obtain ⟨h1, h2⟩ := hW.2.2.1 j (by omega)
    have h3 := hW.1.1.2
    have h4 := hW.1.2.1.2
    have e : ¬ f (92 + j) = -1 := by rw [h1, nI_m1 (by omega)]; exact id
    rw [tkF, ulF, ih (j + 1) (by omega)]
    simp only [e, false_or]
theorem Tk_m1 {f : Nat → Int32} (hW : Wf f) : Tk f (-1) = Un f := by
  unfold Tk Un UL
  rw [tkF_m1 hW _ _ (by omega)]
section Tk
variable {d i : Nat} {M : ZM} {R : ZH} {f : Nat → Int32}
def FldPart (M : ZM) (acc : List P3) : Prop := M 107 2 = nI acc.length ∧ ∀ (j : Nat) (h : j < acc.length), M 108 j = nI (acc[j]).1 ∧ M 110 j = iI (acc[j]).2.1 ∧ M 111 j = iI (acc[j]).2.2
theorem TabRel.frame {M M' : ZM} {i : Nat} {f : Nat → Int32} (h : TabRel M i f) (hM : ∀ c, tb i ≤ c → c ≤ tb i + 8 → M' c = M c) : TabRel M' i f := by
  unfold TabRel
  rw [hM (tb i) (by omega) (by omega), hM (tb i + 2) (by omega) (by omega), hM (tb i + 3) (by omega) (by omega), hM (tb i + 4) (by omega) (by omega), hM (tb i + 5) (by omega) (by omega), hM (tb i + 6) (by omega) (by omega), hM (tb i + 7) (by omega) (by omega), hM (tb i + 8) (by omega) (by omega)]
  exact h
theorem tb_lt {i : Nat} (h : i < 10) : tb i + 8 < 92 := by unfold tb; omega
set_option maxHeartbeats 2000000 in
theorem take_L {x : Int32} (hS : Sh R) (hi : i < 10) (hW : Wf f) : ∀ (m k : Nat) (tk : Value) (acc : List P3) (M : ZM), k + m = ln f → acc.length ≤ k → TabRel M i f → FldPart M acc →
    ∃ M', exe (d + 1) 12 31 [.ref 107, .ref (tb i), .int x, .int (nI k), tk] [] M R = some (.inl none, M', R) ∧ FldPart M' (acc ++ (tkF f x m k).map (pers f)) ∧ (∀ c, c ≠ 107 → c ≠ 108 → c ≠ 110 → c ≠ 111 → M' c = M c) ∧ ∀ j, j ≠ 2 → M' 107 j = M 107 j := by
  obtain ⟨nN, tlt, kt0, kt1, lt1, kt2, lt2, kt3, lt3, kt4, lt4, kt5, lt5, kt6, lt6, kt7, lt7, kt8, lt8, ft0_0, ft1_0, ft1_1, ft0_1, ft0_2, ft0_3, ft0_4, ft0_5⟩ := tabF hS hi
  obtain ⟨nN, k107, k108, l108, k109, l109, k110, l110, k111, l111, f107_0, f107_1, f109_0, f109_1⟩ := fldF hS
  have htl := tb_lt hi
  have hl := hW.1.2.2.2.2.2.2.2.2
  intro m
  induction m with
  | zero =>
    intro k tk acc M hk ha hT hP
    have h9 : M (tb i) 9 = nI (ln f) := by rw [hT.1.2.2.2.1, ← hW.1.2.2.2.2.2.2.2.1]
    refine ⟨M, ?_, by simpa [tkF] using hP, fun _ _ _ _ _ => rfl, fun _ _ => rfl⟩
    rw [q12_31]
    simp (disch := first | assumption | exact nar_b0 | exact nar_b1 | exact nar_b | exact Or.inl rfl | exact Or.inr rfl | exact zin_t (by omega) (by omega) | exact Nat.le_of_ble_eq_true rfl | (rw [nI_cl (by omega)]; assumption) | omega) only [q12_0, q12_1, q12_2, q12_5, q12_6, q12_7, q12_10, q12_13, q12_14, q12_15, q12_18, q12_21, q12_22, q12_23, q12_26, q12_29, q12_30, q12_32, q12_33, q12_36, q12_39, q12_40, q12_43, q12_44, q12_45, q12_47, q12_49, q12_50, q12_53, q12_54, q12_56, q12_59, q12_62, q12_63, q12_66, q12_67, q12_70, q12_72, q12_73, q12_74, q12_77, q12_78, q12_79, q12_80, q12_83, q12_84, q12_87, q12_88, q12_89, q12_91, q12_92, q12_93, q12_94, q12_97, q12_98, q12_99, q12_100, q12_103, q12_104, q12_107, q12_108, q12_109, q12_111, q12_112, q12_113, q12_114i, q12_114a, q12_115, q12_118, q12_119, q12_120, q12_123, q12_126, q12_129, kl_int, kl_ref, kl_tok, cS_nil, cS_int, cS_ref, cS_long, tl_some, tl_none, List.cons_append, List.nil_append, nI_add, nI_ltb, nI_leb, nI_eqb, nI_cl, zin_nI, h9]
    rw [if_pos (by omega)]
  | succ m ih =>
    intro k tk acc M hk ha hT hP
    have h9 : M (tb i) 9 = nI (ln f) := by rw [hT.1.2.2.2.1, ← hW.1.2.2.2.2.2.2.2.1]
    have hr := hT.2.2.2 k (by omega)
    obtain ⟨hr1, hr2⟩ := hW.2.2.1 k (by omega)
    have h1 := hW.1.1.2
    have h2 := hW.1.2.1.2
    have hc := isStruck_ (d := d) (k := rw f k) hS hi hT (by omega)
    by_cases hx : f (92 + k) = x ∨ stk f (rw f k) = true
    · rw [tkF, if_pos hx]
      obtain ⟨M', g1, g2, g3, g4⟩ := ih (k + 1) (.int (nI (rw f k))) acc M (by omega) (by omega) hT hP
      refine ⟨M', ?_, g2, g3, g4⟩
      rw [← g1]
      rw [q12_31]
      simp (disch := first | assumption | exact nar_b0 | exact nar_b1 | exact nar_b | exact Or.inl rfl | exact Or.inr rfl | exact zin_t (by omega) (by omega) | exact Nat.le_of_ble_eq_true rfl | (rw [nI_cl (by omega)]; assumption) | omega) only [q12_0, q12_1, q12_2, q12_5, q12_6, q12_7, q12_10, q12_13, q12_14, q12_15, q12_18, q12_21, q12_22, q12_23, q12_26, q12_29, q12_30, q12_32, q12_33, q12_36, q12_39, q12_40, q12_43, q12_44, q12_45, q12_47, q12_49, q12_50, q12_53, q12_54, q12_56, q12_59, q12_62, q12_63, q12_66, q12_67, q12_70, q12_72, q12_73, q12_74, q12_77, q12_78, q12_79, q12_80, q12_83, q12_84, q12_87, q12_88, q12_89, q12_91, q12_92, q12_93, q12_94, q12_97, q12_98, q12_99, q12_100, q12_103, q12_104, q12_107, q12_108, q12_109, q12_111, q12_112, q12_113, q12_114i, q12_114a, q12_115, q12_118, q12_119, q12_120, q12_123, q12_126, q12_129, kl_int, kl_ref, kl_tok, cS_nil, cS_int, cS_ref, cS_long, tl_some, tl_none, List.cons_append, List.nil_append, nI_add, nI_ltb, nI_leb, nI_eqb, nI_cl, zin_nI, h9, hr, hr1, hc, zk0_inl, b2i_0]
      rw [if_neg (by omega)]
      rw [hr1] at hx
      by_cases e : nI (rw f k) = x
      · rw [if_pos e]
      · have e2 : stk f (rw f k) = true := hx.resolve_left e
        rw [if_neg e, e2]
        simp
    · rw [tkF, if_neg hx]
      have hx1 : ¬ nI (rw f k) = x := by rw [← hr1]; exact fun q => hx (Or.inl q)
      have hx2 : stk f (rw f k) = false := by cases h : stk f (rw f k) with | false => rfl | true => exact absurd (Or.inr h) hx
      have w0 := (hT.2.1 (rw f k) hr2).1
      have w1 := (hT.2.1 (rw f k) hr2).2.1
      generalize hM1 : up2 (up2 (up2 (up2 M 108 acc.length (nI (rw f k))) 110 acc.length (f (8 + 4 * rw f k))) 111 acc.length (f (9 + 4 * rw f k))) 107 2 (nI (acc.length + 1)) = M1
      have f1 : ∀ c, c ≠ 107 → c ≠ 108 → c ≠ 110 → c ≠ 111 → M1 c = M c := fun c h7 h8 h0 h11 => by rw [← hM1, up2_ne h7, up2_ne h11, up2_ne h0, up2_ne h8]
      have hP1 : FldPart M1 (acc ++ [pers f (rw f k)]) := by
        refine ⟨by rw [← hM1, up2_at, List.length_append]; rfl, fun j hj => ?_⟩
        rw [List.length_append, List.length_singleton] at hj
        by_cases e : j = acc.length
        · subst e
          have e9 : (acc ++ [pers f (rw f k)])[acc.length] = pers f (rw f k) := by simp
          simp only [e9]
          rw [← hM1]
          refine ⟨?_, ?_, ?_⟩
          · rw [up2_c (by decide), up2_c (by decide), up2_c (by decide), up2_at]; rfl
          · rw [up2_c (by decide), up2_c (by decide), up2_at]; exact iI_of _
          · rw [up2_c (by decide), up2_at]; exact iI_of _
        · have hj2 : j < acc.length := by omega
          have e9 : (acc ++ [pers f (rw f k)])[j] = acc[j] := List.getElem_append_left hj2
          simp only [e9]
          obtain ⟨p1, p2, p3⟩ := hP.2 j hj2
          rw [← hM1]
          refine ⟨?_, ?_, ?_⟩
          · rw [up2_c (by decide), up2_c (by decide), up2_c (by decide), up2_s e]; exact p1
          · rw [up2_c (by decide), up2_c (by decide), up2_s e, up2_c (by decide)]; exact p2
          · rw [up2_c (by decide), up2_s e, up2_c (by decide), up2_c (by decide)]; exact p3
      obtain ⟨M', g1, g2, g3, g4⟩ := ih (k + 1) (.int (nI (rw f k))) (acc ++ [pers f (rw f k)]) M1 (by omega) (by rw [List.length_append]; simp; omega) (hT.frame (fun c _ _ => f1 c (by omega) (by omega) (by omega) (by omega))) hP1
      refine ⟨M', ?_, by rw [List.append_assoc] at g2; exact g2, fun c h7 h8 h0 h11 => by rw [g3 c h7 h8 h0 h11, f1 c h7 h8 h0 h11], fun j hj => by rw [g4 j hj, ← hM1, up2_s hj, up2_c (by decide), up2_c (by decide), up2_c (by decide)]⟩
      rw [← g1]
      have hs := hP.1
      rw [q12_31]
      simp (disch := first | assumption | exact nar_b0 | exact nar_b1 | exact nar_b | exact Or.inl rfl | exact Or.inr rfl | exact zin_t (by omega) (by omega) | exact Nat.le_of_ble_eq_true rfl | (rw [nI_cl (by omega)]; assumption) | omega) only [q12_0, q12_1, q12_2, q12_5, q12_6, q12_7, q12_10, q12_13, q12_14, q12_15, q12_18, q12_21, q12_22, q12_23, q12_26, q12_29, q12_30, q12_32, q12_33, q12_36, q12_39, q12_40, q12_43, q12_44, q12_45, q12_47, q12_49, q12_50, q12_53, q12_54, q12_56, q12_59, q12_62, q12_63, q12_66, q12_67, q12_70, q12_72, q12_73, q12_74, q12_77, q12_78, q12_79, q12_80, q12_83, q12_84, q12_87, q12_88, q12_89, q12_91, q12_92, q12_93, q12_94, q12_97, q12_98, q12_99, q12_100, q12_103, q12_104, q12_107, q12_108, q12_109, q12_111, q12_112, q12_113, q12_114i, q12_114a, q12_115, q12_118, q12_119, q12_120, q12_123, q12_126, q12_129, kl_int, kl_ref, kl_tok, cS_nil, cS_int, cS_ref, cS_long, tl_some, tl_none, List.cons_append, List.nil_append, nI_add, nI_ltb, nI_leb, nI_eqb, nI_cl, zin_nI, h9, hr, hr1, hc, zk0_inl, b2i_0, hs, w0, w1, up2_c, hM1]
      rw [if_neg (by omega), if_neg hx1, hx2]
      simp
theorem tkF_len {f : Nat → Int32} {x : Int32} : ∀ m j, (tkF f x m j).length ≤ m := by
  intro m
  induction m with
  | zero => intro j; exact Nat.le_refl _
  | succ m ih =>
    intro j
    rw [tkF]
    have := ih (j + 1)
    split
    · omega
    · rw [List.length_cons]; omega
theorem tkF_mem {f : Nat → Int32} {x : Int32} (hW : Wf f) : ∀ m j, j + m ≤ ln f → ∀ v ∈ tkF f x m j, v < jn f + tn f := by
  intro m
  induction m with
  | zero => intro j _ v hv; simp [tkF] at hv
  | succ m ih =>
    intro j hj v hv
    rw [tkF] at hv
    split at hv
    · exact ih (j + 1) (by omega) v hv
    · rcases List.mem_cons.mp hv with rfl | hv
      · exact (hW.2.2.1 j (by omega)).2
      · exact ih (j + 1) (by omega) v hv
theorem take_ {x : Int32} (hS : Sh R) (hi : i < 10) (hW : Wf f) (hT : TabRel M i f) : ∃ M', cal (d + 1) 12 [.ref 107, .ref (tb i), .int x] M R = some (.inl none, M', R) ∧ FldRel M' (sn f) (pn f) (bn f) (Tk f x) ∧ ∀ c, c ≠ 107 → c ≠ 108 → c ≠ 110 → c ≠ 111 → M' c = M c := by
  obtain ⟨nN, tlt, kt0, kt1, lt1, kt2, lt2, kt3, lt3, kt4, lt4, kt5, lt5, kt6, lt6, kt7, lt7, kt8, lt8, ft0_0, ft1_0, ft1_1, ft0_1, ft0_2, ft0_3, ft0_4, ft0_5⟩ := tabF hS hi
  obtain ⟨nN, k107, k108, l108, k109, l109, k110, l110, k111, l111, f107_0, f107_1, f109_0, f109_1⟩ := fldF hS
  have htl := tb_lt hi
  have h10 : M (tb i) 10 = nI (sn f) := by rw [hT.1.2.2.2.2.1, ← hW.1.2.2.1.1]
  have h11 : M (tb i) 11 = nI (pn f) := by rw [hT.1.2.2.2.2.2.1, ← hW.1.2.2.2.1.1]
  have h12 : M (tb i) 12 = nI (bn f) := by rw [hT.1.2.2.2.2.2.2.1, ← hW.1.2.2.2.2.1.1]
  have hb01 : nI (bn f) = nI 0 ∨ nI (bn f) = nI 1 := by
    have := hW.1.2.2.2.2.1.2
    rcases (show bn f = 0 ∨ bn f = 1 by omega) with e | e <;> rw [e]
    · exact Or.inl rfl
    · exact Or.inr rfl
  generalize hM1 : up2 (up2 (up2 (up2 M 107 2 (nI 0)) 107 3 (nI (sn f))) 107 4 (nI (pn f))) 107 5 (nI (bn f)) = M1
  have f1 : ∀ c, c ≠ 107 → M1 c = M c := fun c h7 => by rw [← hM1, up2_ne h7, up2_ne h7, up2_ne h7, up2_ne h7]
  obtain ⟨M', g1, g2, g3, g4⟩ := take_L (d := d) (x := x) hS hi hW (ln f) 0 tok [] M1 (by omega) (Nat.le_refl _) (hT.frame (fun c _ _ => f1 c (by omega))) ⟨by rw [← hM1, up2_s (by decide), up2_s (by decide), up2_s (by decide), up2_at]; rfl, fun j h => absurd h (Nat.not_lt_zero _)⟩
  rw [List.nil_append] at g2
  have hl := hW.1.2.2.2.2.2.2.2.2
  refine ⟨M', ?_, ⟨⟨g2.1, ?_, ?_, ?_⟩, g2.2, ⟨?_, hW.1.2.2.1.2.2, hW.1.2.2.2.1.2, hW.1.2.2.2.2.1.2⟩, ?_⟩, fun c h7 h8 h0 h11 => by rw [g3 c h7 h8 h0 h11, f1 c h7]⟩
  · rw [← g1, e12]
    simp (disch := first | assumption | exact nar_b0 | exact nar_b1 | exact nar_b | exact Or.inl rfl | exact Or.inr rfl | exact zin_t (by omega) (by omega) | exact Nat.le_of_ble_eq_true rfl | (rw [nI_cl (by omega)]; assumption) | omega) only [q12_0, q12_1, q12_2, q12_5, q12_6, q12_7, q12_10, q12_13, q12_14, q12_15, q12_18, q12_21, q12_22, q12_23, q12_26, q12_29, q12_30, q12_32, q12_33, q12_36, q12_39, q12_40, q12_43, q12_44, q12_45, q12_47, q12_49, q12_50, q12_53, q12_54, q12_56, q12_59, q12_62, q12_63, q12_66, q12_67, q12_70, q12_72, q12_73, q12_74, q12_77, q12_78, q12_79, q12_80, q12_83, q12_84, q12_87, q12_88, q12_89, q12_91, q12_92, q12_93, q12_94, q12_97, q12_98, q12_99, q12_100, q12_103, q12_104, q12_107, q12_108, q12_109, q12_111, q12_112, q12_113, q12_114i, q12_114a, q12_115, q12_118, q12_119, q12_120, q12_123, q12_126, q12_129, kl_int, kl_ref, kl_tok, cS_nil, cS_int, cS_ref, cS_long, tl_some, tl_none, List.cons_append, List.nil_append, nI_add, nI_ltb, nI_leb, nI_eqb, nI_cl, zin_nI, h10, h11, h12, up2_c, hM1]
  · rw [g4 _ (by decide), ← hM1, up2_s (by decide), up2_s (by decide), up2_at]
  · rw [g4 _ (by decide), ← hM1, up2_s (by decide), up2_at]
  · rw [g4 _ (by decide), ← hM1, up2_at]
  · have := tkF_len (f := f) (x := x) (ln f) 0
    unfold Tk
    rw [List.length_map]
    omega
  · intro p hp
    obtain ⟨v, hv, rfl⟩ := List.mem_map.mp hp
    have h1 := tkF_mem hW _ _ (by omega) v hv
    have h2 := hW.1.1.2
    have h3 := hW.1.2.1.2
    exact ⟨by show v < 14; omega, hW.2.1 v h1⟩
end Tk
-- best play and plain play, turn by turn
def stX (bx se sp pl : Nat) (s : Nat) (ts : List Nat) (X : List P3) : List P3 := aft X (if pl.testBit s then plA se s X else bst bx se (VV bx se sp ts) s X)
def runX (bx se sp pl : Nat) : Nat → List Nat → List P3 → List P3
  | 0, _, X => X
  | _ + 1, [], X => X
  | k + 1, s :: ts, X => runX bx se sp pl k ts (stX bx se sp pl s ts X)
def whoI (X : List P3) (b : Option Nat) : Int32 := match b with
  | none => -1
  | some j => match X[j]? with
    | some p => nI p.1
    | none => -1
section Lk
variable {d se sp bx T bits : Nat} {M : ZM} {R : ZH} {Fl : List P3}
theorem whom_ {i S : Nat} (hi : i < 2147483648) (hS : Sh R) (hL : LokRel M (zJ R) bx se sp Fl bits T) (hSt : S < 2 ^ Fl.length) (hpop : pop 10 S ≤ i) : cal (d + 1) 21 [.ref 106, .int (nI i), .int (nI S)] M R = some (.inl (some (.int (if i < T then whoI (rem Fl S) (bst bx se (VV bx se sp ((tsl bits T).drop (i + 1))) (sbit bits i) (rem Fl S)) else nob))), M, R) := by
  obtain ⟨nN, k106, k107, k108, l108, k109, l109, k110, l110, k111, l111, k112, l112, k113, l113, k114, l114, k115, l115, k116, l116, k117, l117, f106_0, f107_0, f107_1, f109_0, f109_1, f106_1, f112_0, f112_1, f106_2, f106_3, f106_4⟩ := lokF hS
  obtain ⟨hF, ⟨h5, h6, hT, hbits⟩, hV, hA, hP⟩ := hL
  have hl := hF.2.2.1
  have hp := pow10 hl.1
  rw [e21]
  by_cases e : i < T
  · obtain ⟨o, p1, p2⟩ := hA i e S hSt hpop
    have hc := actOf_ (d := d) (M := M) (t := i) (S := S) (by omega) (by omega) hS
    rw [p1] at hc
    simp (disch := first | assumption | exact nar_b0 | exact nar_b1 | exact nar_b | exact Or.inl rfl | exact Or.inr rfl | exact zin_t (by omega) (by omega) | exact Nat.le_of_ble_eq_true rfl | (rw [nI_cl (by omega)]; assumption) | omega) only [q21_0, q21_1, q21_2, q21_5, q21_8, q21_10, q21_11, q21_12, q21_13, q21_14, q21_17, q21_18, q21_19, q21_20, q21_23, q21_24, q21_27, q21_28, q21_31, q21_34, q21_35, q21_36, kl_int, kl_ref, kl_tok, cS_nil, cS_int, cS_ref, cS_long, tl_some, tl_none, List.cons_append, List.nil_append, nI_add, nI_ltb, nI_leb, nI_eqb, nI_cl, zin_nI, h5, hc, zk0_inl]
    rw [if_pos e, if_pos e]
    match o, p2 with
    | none, p2 =>
      match hb : bst bx se (VV bx se sp ((tsl bits T).drop (i + 1))) (sbit bits i) (rem Fl S), p2 with
      | none, _ => simp [oI, whoI]
    | some j, p2 =>
      match hb : bst bx se (VV bx se sp ((tsl bits T).drop (i + 1))) (sbit bits i) (rem Fl S), p2 with
      | some c, p2 =>
        obtain ⟨q1, q2, rfl⟩ := p2
        have h8 := (hF.2.1 j q1).1
        have hg := rem_get q1 q2
        have e1 : ¬ nI j = -1 := by rw [nI_m1 (by omega)]; exact id
        simp only [oI, whoI, hg]
        simp (disch := first | assumption | exact nar_b0 | exact nar_b1 | exact nar_b | exact Or.inl rfl | exact Or.inr rfl | exact zin_t (by omega) (by omega) | exact Nat.le_of_ble_eq_true rfl | (rw [nI_cl (by omega)]; assumption) | omega) only [q21_0, q21_1, q21_2, q21_5, q21_8, q21_10, q21_11, q21_12, q21_13, q21_14, q21_17, q21_18, q21_19, q21_20, q21_23, q21_24, q21_27, q21_28, q21_31, q21_34, q21_35, q21_36, kl_int, kl_ref, kl_tok, cS_nil, cS_int, cS_ref, cS_long, tl_some, tl_none, List.cons_append, List.nil_append, nI_add, nI_ltb, nI_leb, nI_eqb, nI_cl, zin_nI, nI_m1, h8]
        simp
  · simp (disch := first | assumption | exact nar_b0 | exact nar_b1 | exact nar_b | exact Or.inl rfl | exact Or.inr rfl | exact zin_t (by omega) (by omega) | exact Nat.le_of_ble_eq_true rfl | (rw [nI_cl (by omega)]; assumption) | omega) only [q21_0, q21_1, q21_2, q21_5, q21_8, q21_10, q21_11, q21_12, q21_13, q21_14, q21_17, q21_18, q21_19, q21_20, q21_23, q21_24, q21_27, q21_28, q21_31, q21_34, q21_35, q21_36, kl_int, kl_ref, kl_tok, cS_nil, cS_int, cS_ref, cS_long, tl_some, tl_none, List.cons_append, List.nil_append, nI_add, nI_ltb, nI_leb, nI_eqb, nI_cl, zin_nI, h5]
    rw [if_neg e, if_neg e]
    rfl
theorem valueBehind_ {s : Nat} {o : Option Nat} (hs : s < 2) (ho : ∀ i, o = some i → i < Fl.length) (hS : Sh R) (hL : LokRel M (zJ R) bx se sp Fl bits T) (hT1 : 1 ≤ T) : cal d 22 [.ref 106, .int (nI s), .int (oI o)] M R = some (.inl (some (.int (iI (sdV s (VV bx se sp ((tsl bits T).drop 1) (rem Fl (setO 0 o))))))), M, R) := by
  obtain ⟨nN, k106, k107, k108, l108, k109, l109, k110, l110, k111, l111, k112, l112, k113, l113, k114, l114, k115, l115, k116, l116, k117, l117, f106_0, f107_0, f107_1, f109_0, f109_1, f106_1, f112_0, f112_1, f106_2, f106_3, f106_4⟩ := lokF hS
  obtain ⟨ks, ls, fs⟩ := KVs hS hs
  obtain ⟨hF, ⟨h5, h6, hT, hbits⟩, hV, hA, hP⟩ := hL
  have hl := hF.2.2.1
  have hp := pow10 hl.1
  rw [e22]
  cases o with
  | none =>
    have h1 := hP (by omega) s hs
    simp (disch := first | assumption | exact nar_b0 | exact nar_b1 | exact nar_b | exact Or.inl rfl | exact Or.inr rfl | exact zin_t (by omega) (by omega) | exact Nat.le_of_ble_eq_true rfl | (rw [nI_cl (by omega)]; assumption) | omega) only [q22_0, q22_1, q22_2, q22_5, q22_6, q22_9, q22_10, q22_11, q22_14, q22_15, q22_18, q22_19, q22_20, q22_21, q22_22, q22_23, q22_24, kl_int, kl_ref, kl_tok, cS_nil, cS_int, cS_ref, cS_long, tl_some, tl_none, List.cons_append, List.nil_append, nI_add, nI_ltb, nI_leb, nI_eqb, nI_cl, zin_nI, oI, h1]
    simp [setO, rem_zero]
  | some i =>
    have hi := ho i rfl
    have hlt : 2 ^ i < 2 ^ Fl.length := Nat.pow_lt_pow_right (by decide) hi
    have hpo : pop 10 (2 ^ i) = 1 := by
      have hi10 : i < 10 := by omega
      exact (show ∀ i, i < 10 → pop 10 (2 ^ i) = 1 by decide +kernel) i hi10
    have h1 := hV (2 ^ i) hlt (by omega) s hs
    rw [if_pos hlt, hpo] at h1
    have h1' : M (113 + s) (2 ^ i) = iI (sdV s (VV bx se sp ((tsl bits T).drop 1) (rem Fl (2 ^ i)))) := h1
    simp (disch := first | assumption | exact nar_b0 | exact nar_b1 | exact nar_b | exact Or.inl rfl | exact Or.inr rfl | exact zin_t (by omega) (by omega) | exact Nat.le_of_ble_eq_true rfl | (rw [nI_cl (by omega)]; assumption) | omega) only [q22_0, q22_1, q22_2, q22_5, q22_6, q22_9, q22_10, q22_11, q22_14, q22_15, q22_18, q22_19, q22_20, q22_21, q22_22, q22_23, q22_24, kl_int, kl_ref, kl_tok, cS_nil, cS_int, cS_ref, cS_long, tl_some, tl_none, List.cons_append, List.nil_append, nI_add, nI_ltb, nI_leb, nI_eqb, nI_cl, zin_nI, oI, nI_m1, nI_shl, Nat.one_mul, h1']
    simp [setO]
set_option maxHeartbeats 2000000 in
theorem struckAfter_L {k pl : Nat} (hk : k < 2147483648) (hpl : pl < 4) (hS : Sh R) (hL : LokRel M (zJ R) bx se sp Fl bits T) : ∀ (m t S : Nat) (k1 k2 k3 : Value), t + m = T → t ≤ k → S < 2 ^ Fl.length → pop 10 S ≤ t → ∃ S', exe (d + 1) 23 5 [.ref 106, .int (nI k), .int (nI pl), .int (nI S), .int (nI t), k1, k2, k3] [] M R = some (.inl (some (.int (nI S'))), M, R) ∧ S' < 2 ^ Fl.length ∧ pop 10 S' ≤ min k T ∧ rem Fl S' = runX bx se sp pl (k - t) ((tsl bits T).drop t) (rem Fl S) := by
  obtain ⟨nN, k106, k107, k108, l108, k109, l109, k110, l110, k111, l111, k112, l112, k113, l113, k114, l114, k115, l115, k116, l116, k117, l117, f106_0, f107_0, f107_1, f109_0, f109_1, f106_1, f112_0, f112_1, f106_2, f106_3, f106_4⟩ := lokF hS
  have hL0 := hL
  obtain ⟨hF, ⟨h5, h6, hT, hbits⟩, hV, hA, hP⟩ := hL
  have hl := hF.2.2.1
  have hp := pow10 hl.1
  intro m
  induction m with
  | zero =>
    intro t S k1 k2 k3 ht htk hSt hpop
    refine ⟨S, ?_, hSt, by omega, ?_⟩
    · rw [q23_5]
      simp (disch := first | assumption | exact nar_b0 | exact nar_b1 | exact nar_b | exact Or.inl rfl | exact Or.inr rfl | exact zin_t (by omega) (by omega) | exact Nat.le_of_ble_eq_true rfl | (rw [nI_cl (by omega)]; assumption) | omega) only [q23_0, q23_1, q23_2, q23_3, q23_7, q23_8, q23_11, q23_13, q23_14, q23_17, q23_20, q23_21, q23_24, q23_26, q23_27, q23_28, q23_29, q23_31, q23_32, q23_34, q23_35, q23_36, q23_37, q23_38, q23_41, q23_42, q23_45, q23_46, q23_48, q23_50, q23_53, q23_54, q23_57, q23_59, q23_60, q23_63, q23_66, q23_67, q23_69, q23_70, q23_73, q23_75, q23_77, q23_78, q23_81, q23_82, q23_83, q23_85, q23_86, q23_87, q23_88, q23_91, q23_94, q23_95, kl_int, kl_ref, kl_tok, cS_nil, cS_int, cS_ref, cS_long, tl_some, tl_none, List.cons_append, List.nil_append, nI_add, nI_ltb, nI_leb, nI_eqb, nI_cl, zin_nI, h5]
      by_cases e : k ≤ t
      · rw [if_pos e]
      · rw [if_neg e, if_pos (by omega)]
    · rw [tsl_end (by omega)]
      cases k - t <;> rfl
  | succ m ih =>
    intro t S k1 k2 k3 ht htk hSt hpop
    by_cases e : k ≤ t
    · refine ⟨S, ?_, hSt, by omega, ?_⟩
      · rw [q23_5]
        simp (disch := first | assumption | exact nar_b0 | exact nar_b1 | exact nar_b | exact Or.inl rfl | exact Or.inr rfl | exact zin_t (by omega) (by omega) | exact Nat.le_of_ble_eq_true rfl | (rw [nI_cl (by omega)]; assumption) | omega) only [q23_0, q23_1, q23_2, q23_3, q23_7, q23_8, q23_11, q23_13, q23_14, q23_17, q23_20, q23_21, q23_24, q23_26, q23_27, q23_28, q23_29, q23_31, q23_32, q23_34, q23_35, q23_36, q23_37, q23_38, q23_41, q23_42, q23_45, q23_46, q23_48, q23_50, q23_53, q23_54, q23_57, q23_59, q23_60, q23_63, q23_66, q23_67, q23_69, q23_70, q23_73, q23_75, q23_77, q23_78, q23_81, q23_82, q23_83, q23_85, q23_86, q23_87, q23_88, q23_91, q23_94, q23_95, kl_int, kl_ref, kl_tok, cS_nil, cS_int, cS_ref, cS_long, tl_some, tl_none, List.cons_append, List.nil_append, nI_add, nI_ltb, nI_leb, nI_eqb, nI_cl, zin_nI, h5]
        rw [if_pos e]
      · rw [show k - t = 0 by omega]
        rfl
    · have hs := sbit2 bits t
      have hkt : k - t = (k - (t + 1)) + 1 := by omega
      rw [hkt, tsl_drop (by omega), runX]
      have step : ∀ (o b : Option Nat) (k1 k2 k3 : Value), PlR S Fl.length o b → b = (if pl.testBit (sbit bits t) then plA se (sbit bits t) (rem Fl S) else bst bx se (VV bx se sp ((tsl bits T).drop (t + 1))) (sbit bits t) (rem Fl S)) → ∃ S', exe (d + 1) 23 5 [.ref 106, .int (nI k), .int (nI pl), .int (nI (setO S o)), .int (nI (t + 1)), k1, k2, k3] [] M R = some (.inl (some (.int (nI S'))), M, R) ∧ S' < 2 ^ Fl.length ∧ pop 10 S' ≤ min k T ∧ rem Fl S' = runX bx se sp pl (k - (t + 1)) ((tsl bits T).drop (t + 1)) (stX bx se sp pl (sbit bits t) ((tsl bits T).drop (t + 1)) (rem Fl S)) := by
        intro o b k1 k2 k3 hpr hb
        obtain ⟨S', g1, g2, g3, g4⟩ := ih (t + 1) (setO S o) k1 k2 k3 (by omega) (by omega) (setO_lt hSt hpr) (by
          cases o with
          | none => show pop 10 S ≤ t + 1; omega
          | some i =>
            have := pop_or S i 10
            show pop 10 (S ||| 2 ^ i) ≤ t + 1
            split at this <;> omega)
        refine ⟨S', g1, g2, g3, ?_⟩
        rw [g4, hpr.rem, hb]
        rfl
      have hst2 : S < 1024 := by omega
      cases hpb : pl.testBit (sbit bits t)
      · obtain ⟨o, p1, p2⟩ := hA t (by omega) S hSt hpop
        have hc := actOf_ (d := d) (M := M) (t := t) (S := S) (by omega) hst2 hS
        rw [p1] at hc
        obtain ⟨S', g1, g2⟩ := step o _ (.int (nI (sbit bits t))) (.int (nI 0)) (.int (oI o)) p2 (by rw [hpb]; rfl)
        refine ⟨S', ?_, g2⟩
        rw [← g1]
        rw [q23_5]
        simp (disch := first | assumption | exact nar_b0 | exact nar_b1 | exact nar_b | exact Or.inl rfl | exact Or.inr rfl | exact zin_t (by omega) (by omega) | exact Nat.le_of_ble_eq_true rfl | (rw [nI_cl (by omega)]; assumption) | omega) only [q23_0, q23_1, q23_2, q23_3, q23_7, q23_8, q23_11, q23_13, q23_14, q23_17, q23_20, q23_21, q23_24, q23_26, q23_27, q23_28, q23_29, q23_31, q23_32, q23_34, q23_35, q23_36, q23_37, q23_38, q23_41, q23_42, q23_45, q23_46, q23_48, q23_50, q23_53, q23_54, q23_57, q23_59, q23_60, q23_63, q23_66, q23_67, q23_69, q23_70, q23_73, q23_75, q23_77, q23_78, q23_81, q23_82, q23_83, q23_85, q23_86, q23_87, q23_88, q23_91, q23_94, q23_95, kl_int, kl_ref, kl_tok, cS_nil, cS_int, cS_ref, cS_long, tl_some, tl_none, List.cons_append, List.nil_append, nI_add, nI_ltb, nI_leb, nI_eqb, nI_cl, zin_nI, h5, h6, tbit, b2s, hpb, b2i_f, hc, zk0_inl]
        rw [if_neg (by omega), if_neg (by omega)]
        cases o with
        | none => simp [setO, oI]
        | some i =>
          have hi := p2.lt i rfl
          simp (disch := first | assumption | exact nar_b0 | exact nar_b1 | exact nar_b | exact Or.inl rfl | exact Or.inr rfl | exact zin_t (by omega) (by omega) | exact Nat.le_of_ble_eq_true rfl | (rw [nI_cl (by omega)]; assumption) | omega) only [q23_0, q23_1, q23_2, q23_3, q23_7, q23_8, q23_11, q23_13, q23_14, q23_17, q23_20, q23_21, q23_24, q23_26, q23_27, q23_28, q23_29, q23_31, q23_32, q23_34, q23_35, q23_36, q23_37, q23_38, q23_41, q23_42, q23_45, q23_46, q23_48, q23_50, q23_53, q23_54, q23_57, q23_59, q23_60, q23_63, q23_66, q23_67, q23_69, q23_70, q23_73, q23_75, q23_77, q23_78, q23_81, q23_82, q23_83, q23_85, q23_86, q23_87, q23_88, q23_91, q23_94, q23_95, kl_int, kl_ref, kl_tok, cS_nil, cS_int, cS_ref, cS_long, tl_some, tl_none, List.cons_append, List.nil_append, nI_add, nI_ltb, nI_leb, nI_eqb, nI_cl, zin_nI, oI, nI_m1, nI_shl, nI_or, Nat.one_mul, setO]
          simp
      · obtain ⟨o, p1, p2⟩ := plainAct_ (d := d) (s := sbit bits t) (S := S) hs hst2 hS hF
        obtain ⟨S', g1, g2⟩ := step o _ (.int (nI (sbit bits t))) (.int (nI 1)) (.int (oI o)) p2 (by rw [hpb]; rfl)
        refine ⟨S', ?_, g2⟩
        rw [← g1]
        rw [q23_5]
        simp (disch := first | assumption | exact nar_b0 | exact nar_b1 | exact nar_b | exact Or.inl rfl | exact Or.inr rfl | exact zin_t (by omega) (by omega) | exact Nat.le_of_ble_eq_true rfl | (rw [nI_cl (by omega)]; assumption) | omega) only [q23_0, q23_1, q23_2, q23_3, q23_7, q23_8, q23_11, q23_13, q23_14, q23_17, q23_20, q23_21, q23_24, q23_26, q23_27, q23_28, q23_29, q23_31, q23_32, q23_34, q23_35, q23_36, q23_37, q23_38, q23_41, q23_42, q23_45, q23_46, q23_48, q23_50, q23_53, q23_54, q23_57, q23_59, q23_60, q23_63, q23_66, q23_67, q23_69, q23_70, q23_73, q23_75, q23_77, q23_78, q23_81, q23_82, q23_83, q23_85, q23_86, q23_87, q23_88, q23_91, q23_94, q23_95, kl_int, kl_ref, kl_tok, cS_nil, cS_int, cS_ref, cS_long, tl_some, tl_none, List.cons_append, List.nil_append, nI_add, nI_ltb, nI_leb, nI_eqb, nI_cl, zin_nI, h5, h6, tbit, b2s, hpb, b2i_t, p1, zk0_inl]
        rw [if_neg (by omega), if_neg (by omega)]
        cases o with
        | none => simp [setO, oI]
        | some i =>
          have hi := p2.lt i rfl
          simp (disch := first | assumption | exact nar_b0 | exact nar_b1 | exact nar_b | exact Or.inl rfl | exact Or.inr rfl | exact zin_t (by omega) (by omega) | exact Nat.le_of_ble_eq_true rfl | (rw [nI_cl (by omega)]; assumption) | omega) only [q23_0, q23_1, q23_2, q23_3, q23_7, q23_8, q23_11, q23_13, q23_14, q23_17, q23_20, q23_21, q23_24, q23_26, q23_27, q23_28, q23_29, q23_31, q23_32, q23_34, q23_35, q23_36, q23_37, q23_38, q23_41, q23_42, q23_45, q23_46, q23_48, q23_50, q23_53, q23_54, q23_57, q23_59, q23_60, q23_63, q23_66, q23_67, q23_69, q23_70, q23_73, q23_75, q23_77, q23_78, q23_81, q23_82, q23_83, q23_85, q23_86, q23_87, q23_88, q23_91, q23_94, q23_95, kl_int, kl_ref, kl_tok, cS_nil, cS_int, cS_ref, cS_long, tl_some, tl_none, List.cons_append, List.nil_append, nI_add, nI_ltb, nI_leb, nI_eqb, nI_cl, zin_nI, oI, nI_m1, nI_shl, nI_or, Nat.one_mul, setO]
          simp
theorem struckAfter_ {k pl : Nat} (hk : k < 2147483648) (hpl : pl < 4) (hS : Sh R) (hL : LokRel M (zJ R) bx se sp Fl bits T) : ∃ S', cal (d + 1) 23 [.ref 106, .int (nI k), .int (nI pl)] M R = some (.inl (some (.int (nI S'))), M, R) ∧ S' < 2 ^ Fl.length ∧ pop 10 S' ≤ min k T ∧ rem Fl S' = runX bx se sp pl k (tsl bits T) Fl := by
  obtain ⟨S', g1, g2, g3, g4⟩ := struckAfter_L (d := d) hk hpl hS hL T 0 0 tok tok tok (by omega) (by omega) (Nat.two_pow_pos _) (by rw [pop_zero]; omega)
  rw [Nat.sub_zero, List.drop_zero, rem_zero] at g4
  refine ⟨S', ?_, g2, g3, g4⟩
  rw [← g1, e23]
  simp (disch := first | assumption | exact nar_b0 | exact nar_b1 | exact nar_b | exact Or.inl rfl | exact Or.inr rfl | exact zin_t (by omega) (by omega) | exact Nat.le_of_ble_eq_true rfl | (rw [nI_cl (by omega)]; assumption) | omega) only [q23_0, q23_1, q23_2, q23_3, q23_7, q23_8, q23_11, q23_13, q23_14, q23_17, q23_20, q23_21, q23_24, q23_26, q23_27, q23_28, q23_29, q23_31, q23_32, q23_34, q23_35, q23_36, q23_37, q23_38, q23_41, q23_42, q23_45, q23_46, q23_48, q23_50, q23_53, q23_54, q23_57, q23_59, q23_60, q23_63, q23_66, q23_67, q23_69, q23_70, q23_73, q23_75, q23_77, q23_78, q23_81, q23_82, q23_83, q23_85, q23_86, q23_87, q23_88, q23_91, q23_94, q23_95, kl_int, kl_ref, kl_tok, cS_nil, cS_int, cS_ref, cS_long, tl_some, tl_none, List.cons_append, List.nil_append, nI_add, nI_ltb, nI_leb, nI_eqb, nI_cl, zin_nI]
end Lk
