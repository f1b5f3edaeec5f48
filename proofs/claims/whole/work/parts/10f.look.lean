-- places and their numbers among those that stand open
def PlR (S n : Nat) (o b : Option Nat) : Prop := match o, b with
  | none, none => True
  | some i, some j => i < n ∧ S.testBit i = false ∧ cnt S i = j
  | _, _ => False
def setO (S : Nat) : Option Nat → Nat
  | none => S
  | some i => S ||| 2 ^ i
theorem rem_at {α : Type} {l : List α} {S i j : Nat} (h1 : i < l.length) (h2 : S.testBit i = false) (h3 : cnt S i = j) : rem l (S ||| 2 ^ i) = (rem l S).eraseIdx j := by rw [rem_set h1 h2, h3]
theorem PlR.rem {α : Type} {l : List α} {S : Nat} {o b : Option Nat} (h : PlR S l.length o b) : rem l (setO S o) = aft (rem l S) b := by
  match o, b, h with
  | none, none, _ => rfl
  | some i, some j, h =>
    obtain ⟨h1, h2, h3⟩ := h
    exact rem_at h1 h2 h3
theorem or_lt {S i n : Nat} (hS : S < 2 ^ n) (hi : i < n) : S ||| 2 ^ i < 2 ^ n := Nat.or_lt_two_pow hS (Nat.pow_lt_pow_right (by decide) hi)
theorem setO_lt {S n : Nat} {o b : Option Nat} (hS : S < 2 ^ n) (h : PlR S n o b) : setO S o < 2 ^ n := by
  match o, b, h with
  | none, none, _ => exact hS
  | some i, some j, h => exact or_lt hS h.1
theorem pow10 {n : Nat} (h : n ≤ 10) : 2 ^ n ≤ 1024 := (Nat.pow_le_pow_right (show 0 < 2 by decide) h : 2 ^ n ≤ 2 ^ 10)
theorem or_self {S i : Nat} : (S ||| 2 ^ i = S) = (S.testBit i = true) := by
  apply propext
  constructor
  · intro h
    rw [← h, tb_or]
    simp
  · intro h
    apply Nat.eq_of_testBit_eq
    intro k
    rw [tb_or]
    by_cases e : i = k
    · subst e
      simp [h]
    · simp [e]
theorem KVs {R : ZH} (hS : Sh R) {s : Nat} (hs : s < 2) : zK R (113 + s) = 11 ∧ zLn R (113 + s) = 1024 ∧ zRf R 112 s = some (113 + s) := by
  rcases (show s = 0 ∨ s = 1 by omega) with rfl | rfl
  · exact ⟨Sh.K hS (by decide) (by decide +kernel), Sh.L hS (by decide) (by decide +kernel), Sh.F hS (by decide +kernel)⟩
  · exact ⟨Sh.K hS (by decide) (by decide +kernel), Sh.L hS (by decide) (by decide +kernel), Sh.F hS (by decide +kernel)⟩
theorem nI1s {s : Nat} (hs : s < 2) : nI 1 - nI s = nI (1 - s) := by
  rcases (show s = 0 ∨ s = 1 by omega) with rfl | rfl <;> decide +kernel
theorem PlR.lt {S n : Nat} {o b : Option Nat} (h : PlR S n o b) : ∀ i, o = some i → i < n := by
  intro i e
  subst e
  match b, h with
  | some j, h => exact h.1
section Lk
variable {d se sp bx : Nat} {M : ZM} {R : ZH} {Fl : List P3}
/-- what choosing writes -/
def choM (M : ZM) (s S : Nat) (w : Int × Int) : ZM := up2 (up2 M (113 + s) S (iI (sdV s w))) (113 + (1 - s)) S (iI (sdV (1 - s) w))
def choR (R : ZH) (t S : Nat) (o : Option Nat) : ZH := sJ R 116 S (wdO (zJ R 116 S) t o)
set_option maxHeartbeats 4000000 in
theorem choose_L {t s S : Nat} {v : List P3 → Int × Int} (hs : s < 2) (ht : t < 9) (hSt : S < 2 ^ Fl.length) (hS : Sh R) (hF : FldRel M se sp bx Fl)
    (hv : ∀ o b, PlR S Fl.length o b → ∀ q, q < 2 → M (113 + q) (setO S o) = iI (sdV q (v (rem Fl (setO S o)))) ∧ -100000 ≤ sdV q (v (rem Fl (setO S o))) ∧ sdV q (v (rem Fl (setO S o))) ≤ 100000) :
    ∀ (m i : Nat) (tk : Value) (ob b : Option Nat), i + m = Fl.length → PlR S Fl.length ob b → cnt S i ≤ (if bx = 1 then se else Fl.length) → ∃ o, PlR S Fl.length o (pick v s (rem Fl S) (cnd bx se (rem Fl S).length - cnt S i) (cnt S i) b) ∧
      exe d 20 45 [.ref 106, .int (nI t), .int (nI S), .int (nI s), .ref (113 + s), .ref (113 + (1 - s)), .int (nI (setO S ob)), .int (oI ob), .int (nI ((if bx = 1 then se else Fl.length) - cnt S i)), .int (nI i), tk] [] M R = some (.inl none, choM M s S (v (rem Fl (setO S o))), choR R t S o) := by
  obtain ⟨nN, k106, k107, k108, l108, k109, l109, k110, l110, k111, l111, k112, l112, k113, l113, k114, l114, k115, l115, k116, l116, k117, l117, f106_0, f107_0, f107_1, f109_0, f109_1, f106_1, f112_0, f112_1, f106_2, f106_3, f106_4⟩ := lokF hS
  obtain ⟨ks, ls, -⟩ := KVs hS hs
  obtain ⟨kr, lr, -⟩ := KVs hS (show 1 - s < 2 by omega)
  have h2 := hF.1.1
  have hl := hF.2.2.1
  have hp := pow10 hl.1
  have hend : ∀ (i : Nat) (tk : Value) (ob b : Option Nat) (g : Nat), PlR S Fl.length ob b → i ≤ Fl.length → (Fl.length ≤ i ∨ g = 0) → g < 1000 → exe d 20 45 [.ref 106, .int (nI t), .int (nI S), .int (nI s), .ref (113 + s), .ref (113 + (1 - s)), .int (nI (setO S ob)), .int (oI ob), .int (nI g), .int (nI i), tk] [] M R = some (.inl none, choM M s S (v (rem Fl (setO S ob))), choR R t S ob) := by
    intro i tk ob b g hpl hi hor hg
    have q1 := hv ob b hpl s hs
    have q2 := hv ob b hpl (1 - s) (by omega)
    have q3 := setO_lt hSt hpl
    rw [q20_45]
    simp (disch := first | assumption | exact nar_b0 | exact nar_b1 | exact nar_b | exact Or.inl rfl | exact Or.inr rfl | exact zin_t (by omega) (by omega) | exact Nat.le_of_ble_eq_true rfl | (rw [nI_cl (by omega)]; assumption) | omega) only [q20_0, q20_1, q20_4, q20_5, q20_6, q20_7, q20_8, q20_9, q20_10, q20_13, q20_14, q20_15, q20_17, q20_18, q20_21, q20_22, q20_23, q20_24, q20_25, q20_27, q20_28, q20_30, q20_31, q20_33, q20_34, q20_37, q20_40, q20_42, q20_43, q20_47, q20_48, q20_51, q20_54, q20_57, q20_59, q20_62, q20_63, q20_64, q20_66, q20_67, q20_68, q20_70, q20_72, q20_73, q20_76, q20_79, q20_81, q20_83, q20_84, q20_86, q20_88, q20_89, q20_92, q20_94, q20_96, q20_97, q20_99, q20_101, q20_102, q20_105, q20_107, q20_109, q20_110, q20_112, q20_114, q20_115, q20_118, q20_120, q20_122, q20_124, q20_126, q20_129, q20_132, q20_134, q20_135, q20_137, q20_139, q20_140, q20_141, q20_143, q20_144, q20_146, q20_148, q20_149, q20_150, q20_151, q20_154, q20_155, q20_156, q20_157, q20_159, q20_160, q20_161, q20_162, q20_163, q20_164, q20_165, q20_166, q20_167, q20_168, kl_int, kl_ref, kl_tok, cS_nil, cS_int, cS_ref, cS_long, tl_some, tl_none, List.cons_append, List.nil_append, nI_add, nI_ltb, nI_leb, nI_eqb, nI_cl, zin_nI, h2, q1.1, q2.1, up2_c, nI_mul]
    by_cases e : Fl.length ≤ i
    · rw [if_pos e]
      rfl
    · rw [if_neg e, if_pos (by omega)]
      rfl
  intro m
  induction m with
  | zero =>
    intro i tk ob b hi hpl hc
    refine ⟨ob, ?_, hend i tk ob b _ hpl (by omega) (Or.inl (by omega)) (by split <;> omega)⟩
    have e1 : cnd bx se (rem Fl S).length - cnt S i = 0 := by
      rw [show i = Fl.length by omega, rem_len]
      unfold cnd
      split <;> omega
    rw [e1]
    exact hpl
  | succ m ih =>
    intro i tk ob b hi hpl hc
    by_cases ho : (if bx = 1 then se else Fl.length) - cnt S i = 0
    · refine ⟨ob, ?_, hend i tk ob b _ hpl (by omega) (Or.inr ho) (by omega)⟩
      have hci := cnt_le S i
      have e1 : cnd bx se (rem Fl S).length - cnt S i = 0 := by
        rw [rem_len]
        unfold cnd
        by_cases hb : bx = 1
        · rw [if_pos hb] at ho ⊢
          omega
        · rw [if_neg hb] at ho
          omega
      rw [e1]
      exact hpl
    · have hif : (if bx = 1 then se else Fl.length) < 1000 := by split <;> omega
      have hor := or_lt hSt (show i < Fl.length by omega)
      have hset := setO_lt hSt hpl
      have hci1 : cnt S (i + 1) = cnt S i + if S.testBit i then 0 else 1 := rfl
      have e45 : ∀ (lv : List Value) (tk : Value), exe d 20 45 [.ref 106, .int (nI t), .int (nI S), .int (nI s), .ref (113 + s), .ref (113 + (1 - s)), .int (nI (setO S ob)), .int (oI ob), .int (nI ((if bx = 1 then se else Fl.length) - cnt S i)), .int (nI i), tk] [] M R = if S.testBit i = true then exe d 20 45 [.ref 106, .int (nI t), .int (nI S), .int (nI s), .ref (113 + s), .ref (113 + (1 - s)), .int (nI (setO S ob)), .int (oI ob), .int (nI ((if bx = 1 then se else Fl.length) - cnt S i)), .int (nI (i + 1)), .int (nI (S ||| 2 ^ i))] [] M R else exe d 20 76 [.ref 106, .int (nI t), .int (nI S), .int (nI s), .ref (113 + s), .ref (113 + (1 - s)), .int (nI (setO S ob)), .int (oI ob), .int (nI ((if bx = 1 then se else Fl.length) - cnt S i)), .int (nI i), .int (nI (S ||| 2 ^ i))] [] M R := by
        intro lv tk
        rw [q20_45]
        simp (disch := first | assumption | exact nar_b0 | exact nar_b1 | exact nar_b | exact Or.inl rfl | exact Or.inr rfl | exact zin_t (by omega) (by omega) | exact Nat.le_of_ble_eq_true rfl | (rw [nI_cl (by omega)]; assumption) | omega) only [q20_0, q20_1, q20_4, q20_5, q20_6, q20_7, q20_8, q20_9, q20_10, q20_13, q20_14, q20_15, q20_17, q20_18, q20_21, q20_22, q20_23, q20_24, q20_25, q20_27, q20_28, q20_30, q20_31, q20_33, q20_34, q20_37, q20_40, q20_42, q20_43, q20_47, q20_48, q20_51, q20_54, q20_57, q20_59, q20_62, q20_63, q20_64, q20_66, q20_67, q20_68, q20_70, q20_72, q20_73, q20_79, q20_81, q20_83, q20_84, q20_86, q20_88, q20_89, q20_92, q20_94, q20_96, q20_97, q20_99, q20_101, q20_102, q20_105, q20_107, q20_109, q20_110, q20_112, q20_114, q20_115, q20_118, q20_120, q20_122, q20_124, q20_126, q20_129, q20_132, q20_134, q20_135, q20_137, q20_139, q20_140, q20_141, q20_143, q20_144, q20_146, q20_148, q20_149, q20_150, q20_151, q20_154, q20_155, q20_156, q20_157, q20_159, q20_160, q20_161, q20_162, q20_163, q20_164, q20_165, q20_166, q20_167, q20_168, kl_int, kl_ref, kl_tok, cS_nil, cS_int, cS_ref, cS_long, tl_some, tl_none, List.cons_append, List.nil_append, nI_add, nI_ltb, nI_leb, nI_eqb, nI_cl, zin_nI, h2, nI_shl, Nat.one_mul, nI_or, or_self]
        rw [if_neg (by omega), if_neg (by omega)]
      rw [e45 []]
      cases hb : S.testBit i
      · rw [hb] at hci1
        have hpl2 : PlR S Fl.length (some i) (some (cnt S i)) := ⟨by omega, hb, rfl⟩
        have q1 := hv ob b hpl s hs
        have q2 := hv ob b hpl (1 - s) (by omega)
        have q3 := hv (some i) _ hpl2 s hs
        have q4 := hv (some i) _ hpl2 (1 - s) (by omega)
        have r1 : rem Fl (S ||| 2 ^ i) = (rem Fl S).eraseIdx (cnt S i) := rem_set (by omega) hb
        have r2 : rem Fl (setO S ob) = aft (rem Fl S) b := hpl.rem
        have hlt : cnt S i < (rem Fl S).length := by
          have := rem_get (l := Fl) (S := S) (i := i) (by omega) hb
          exact (List.getElem?_eq_some_iff.mp this).1
        have hfu : cnd bx se (rem Fl S).length - cnt S i = (cnd bx se (rem Fl S).length - cnt S (i + 1)) + 1 := by
          rw [hci1]
          unfold cnd
          by_cases hbx : bx = 1
          · rw [if_pos hbx] at ho ⊢
            simp
            omega
          · rw [if_neg hbx] at ho ⊢
            simp
            omega
        rw [hfu, pick]
        have e76 : exe d 20 76 [.ref 106, .int (nI t), .int (nI S), .int (nI s), .ref (113 + s), .ref (113 + (1 - s)), .int (nI (setO S ob)), .int (oI ob), .int (nI ((if bx = 1 then se else Fl.length) - cnt S i)), .int (nI i), .int (nI (S ||| 2 ^ i))] [] M R = if btr s (v ((rem Fl S).eraseIdx (cnt S i))) (v (aft (rem Fl S) b)) = true then exe d 20 45 [.ref 106, .int (nI t), .int (nI S), .int (nI s), .ref (113 + s), .ref (113 + (1 - s)), .int (nI (S ||| 2 ^ i)), .int (nI i), .int (nI ((if bx = 1 then se else Fl.length) - cnt S (i + 1))), .int (nI (i + 1)), .int (nI (S ||| 2 ^ i))] [] M R else exe d 20 45 [.ref 106, .int (nI t), .int (nI S), .int (nI s), .ref (113 + s), .ref (113 + (1 - s)), .int (nI (setO S ob)), .int (oI ob), .int (nI ((if bx = 1 then se else Fl.length) - cnt S (i + 1))), .int (nI (i + 1)), .int (nI (S ||| 2 ^ i))] [] M R := by
          have q3' : M (113 + s) (S ||| 2 ^ i) = iI (sdV s (v (rem Fl (S ||| 2 ^ i)))) := q3.1
          have q4' : M (113 + (1 - s)) (S ||| 2 ^ i) = iI (sdV (1 - s) (v (rem Fl (S ||| 2 ^ i)))) := q4.1
          have q3b : -100000 ≤ sdV s (v (rem Fl (S ||| 2 ^ i))) ∧ sdV s (v (rem Fl (S ||| 2 ^ i))) ≤ 100000 := q3.2
          have q4b : -100000 ≤ sdV (1 - s) (v (rem Fl (S ||| 2 ^ i))) ∧ sdV (1 - s) (v (rem Fl (S ||| 2 ^ i))) ≤ 100000 := q4.2
          have hdec : nI ((if bx = 1 then se else Fl.length) - cnt S i) - nI 1 = nI ((if bx = 1 then se else Fl.length) - cnt S (i + 1)) := by
            rw [nI_sub1 (by omega), hci1]
            congr 1
          simp (disch := first | assumption | exact nar_b0 | exact nar_b1 | exact nar_b | exact Or.inl rfl | exact Or.inr rfl | exact zin_t (by omega) (by omega) | exact Nat.le_of_ble_eq_true rfl | (rw [nI_cl (by omega)]; assumption) | omega) only [q20_0, q20_1, q20_4, q20_5, q20_6, q20_7, q20_8, q20_9, q20_10, q20_13, q20_14, q20_15, q20_17, q20_18, q20_21, q20_22, q20_23, q20_24, q20_25, q20_27, q20_28, q20_30, q20_31, q20_33, q20_34, q20_37, q20_40, q20_42, q20_43, q20_47, q20_48, q20_51, q20_54, q20_57, q20_59, q20_62, q20_63, q20_64, q20_66, q20_67, q20_68, q20_70, q20_72, q20_73, q20_76, q20_79, q20_81, q20_83, q20_84, q20_86, q20_88, q20_89, q20_92, q20_94, q20_96, q20_97, q20_99, q20_101, q20_102, q20_105, q20_107, q20_109, q20_110, q20_112, q20_114, q20_115, q20_118, q20_120, q20_122, q20_124, q20_126, q20_129, q20_132, q20_134, q20_135, q20_137, q20_139, q20_140, q20_141, q20_143, q20_144, q20_146, q20_148, q20_149, q20_150, q20_151, q20_154, q20_155, q20_156, q20_157, q20_159, q20_160, q20_161, q20_162, q20_163, q20_164, q20_165, q20_166, q20_167, q20_168, kl_int, kl_ref, kl_tok, cS_nil, cS_int, cS_ref, cS_long, tl_some, tl_none, List.cons_append, List.nil_append, nI_add, nI_ltb, nI_leb, nI_eqb, nI_cl, zin_nI, h2, q1.1, q2.1, q3', q4', iI_ltb, iI_leb, iI_eqb, hdec]
          rw [← r1, ← r2]
          unfold btr
          generalize sdV s (v (rem Fl (S ||| 2 ^ i))) = a1
          generalize sdV s (v (rem Fl (setO S ob))) = a2
          generalize sdV (1 - s) (v (rem Fl (S ||| 2 ^ i))) = a3
          generalize sdV (1 - s) (v (rem Fl (setO S ob))) = a4
          by_cases c1 : a2 < a1
          · simp [c1]
          · by_cases c2 : a1 = a2
            · subst c2
              by_cases c3 : a4 < a3
              · simp [c3, show ¬ a3 ≤ a4 by omega]
              · simp [c3, show a3 ≤ a4 by omega]
            · simp [c1, c2]
        rw [if_neg (show ¬ (false = true) by decide), e76]
        by_cases hbt : btr s (v ((rem Fl S).eraseIdx (cnt S i))) (v (aft (rem Fl S) b)) = true
        · rw [if_pos hbt, if_pos hbt]
          have g := ih (i + 1) (.int (nI (S ||| 2 ^ i))) (some i) (some (cnt S i)) (by omega) hpl2 (by rw [hci1]; simp; omega)
          rw [show cnt S i + 1 = cnt S (i + 1) by rw [hci1]; simp]
          exact g
        · rw [if_neg hbt, if_neg hbt]
          have g := ih (i + 1) (.int (nI (S ||| 2 ^ i))) ob b (by omega) hpl (by rw [hci1]; simp; omega)
          rw [show cnt S i + 1 = cnt S (i + 1) by rw [hci1]; simp]
          exact g
      · rw [hb] at hci1
        rw [if_pos rfl]
        have g := ih (i + 1) (.int (nI (S ||| 2 ^ i))) ob b (by omega) hpl (by rw [hci1]; simpa using hc)
        rw [show cnt S (i + 1) = cnt S i by rw [hci1]; simp] at g
        exact g
end Lk
