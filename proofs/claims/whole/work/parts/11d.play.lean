-- the reference: plain play, the line, states
def wO (Rw : List P3) (s : Nat) (bh : Option Nat) : Int := match bh with
  | none => 0
  | some k => wS s (Rw.getD k (0, 0, 0))
theorem getD_lt {α : Type} {l : List α} {k : Nat} {x : α} (h : k < l.length) : l.getD k x = l[k] := by
  rw [List.getD_eq_getElem?_getD, List.getElem?_eq_getElem h]
  rfl
section Pr
variable {d se sp bx : Nat} {M : ZM} {R : ZH} {Rw : List P3} {ts : List Nat}
theorem GmR.wb {s : Nat} (h : GmR M se sp bx Rw ts) : ∀ (j : Nat) (hj : j < Rw.length), -50 ≤ wS s Rw[j] ∧ wS s Rw[j] ≤ 50 := by
  intro j hj
  have := (h.2.2.2.2.1 Rw[j] (List.getElem_mem hj)).2
  unfold wS
  split
  · exact this.1
  · exact this.2
theorem plainR_E {s S : Nat} (hs : s < 2) (hSt : S < 1024) (hS : Sh R) (hG : GmR M se sp bx Rw ts) (i : Nat) (k6 : Value) (lo bh : Option Nat) (b : Option (Nat × Int)) (hi : i = Rw.length) (hbh : ∀ k, bh = some k → k < Rw.length) (hlo : LoR S Rw s lo b) :
    ∃ o, exe (d + 3) 180 8 [.ref 127, .int (nI S), .int (nI s), .int (oI lo), .int (oI bh), .int (nI i), k6] [] M R = some (.inl (some (.int (oI o))), M, R) ∧ PlR S Rw.length o (fin b (wO Rw s bh)) := by
  obtain ⟨nN, k127, k128, l128, k129, l129, k130, l130, k131, l131, k132, l132, k133, l133, k134, l134, k135, l135, k136, l136, k137, l137, k138, l138, k139, l139, k140, l140, k141, l141, k142, l142, k143, l143, k144, l144, k145, l145, k146, l146, f127_1, f127_2, f127_3, f127_4, f127_6, f127_7, f127_17, f127_18, f127_19, f127_22, f127_24, f127_25, f127_26, f127_29, f127_30, f127_31, f127_32, f127_33⟩ := modF hS
  have h2 := hG.1
  have hl := hG.2.2.2.1
  match lo, b, hlo with
  | none, none, _ =>
    refine ⟨none, ?_, trivial⟩
    rw [q180_8]
    simp (disch := first | assumption | exact nar_b0 | exact nar_b1 | exact nar_b | exact Or.inl rfl | exact Or.inr rfl | exact zin_t (by omega) (by omega) | exact Nat.le_of_ble_eq_true rfl | (rw [nI_cl (by omega)]; assumption) | omega) only [q180_0, q180_1, q180_2, q180_3, q180_5, q180_6, q180_10, q180_11, q180_14, q180_17, q180_18, q180_20, q180_23, q180_26, q180_29, q180_30, q180_32, q180_33, q180_36, q180_39, q180_40, q180_41, q180_44, q180_45, q180_48, q180_49, q180_51, q180_52, q180_55, q180_56, q180_57, q180_58, q180_61, q180_62, q180_64, q180_65, q180_66, q180_69, q180_71, q180_74, q180_76, q180_79, q180_80, q180_83, q180_85, q180_86, q180_87, q180_90, q180_91, q180_92, q180_95, q180_97, q180_100, q180_101, q180_102, q180_105, q180_107, q180_108, q180_111, q180_113, q180_115, q180_118, q180_121, q180_122, q180_123, q180_126, q180_127, q180_128, q180_129, q180_132, q180_134, q180_135, q180_138, q180_139, q180_142, q180_143, q180_145, q180_146, q180_149, q180_152, q180_153, q180_156, q180_157, kl_int, kl_ref, kl_tok, cS_nil, cS_int, cS_ref, cS_long, tl_some, tl_none, List.cons_append, List.nil_append, nI_add, nI_ltb, nI_leb, nI_eqb, nI_cl, zin_nI, h2.1, oI]
    rw [if_pos (by omega)]
    simp
  | some i0, some (j, v), hlo =>
    obtain ⟨g1, g2, g3, rfl⟩ := hlo
    have hw := worthTo_ (d := d + 2) (j := i0) hs hS hG g3
    have hb := hG.wb (s := s) i0 g3
    have e1 : ¬ nI i0 = -1 := by rw [nI_m1 (by omega)]; exact id
    refine ⟨if wS s Rw[i0] < wO Rw s bh then some i0 else none, ?_, ?_⟩
    · cases bh with
      | none =>
        have q : (nI 0 ≤ iI (wS s Rw[i0])) = (0 ≤ wS s Rw[i0]) := by rw [nI_iI, iI_leb (by omega) (by omega) (by omega) (by omega)]; rfl
        rw [q180_8]
        simp (disch := first | assumption | exact nar_b0 | exact nar_b1 | exact nar_b | exact Or.inl rfl | exact Or.inr rfl | exact zin_t (by omega) (by omega) | exact Nat.le_of_ble_eq_true rfl | (rw [nI_cl (by omega)]; assumption) | omega) only [q180_0, q180_1, q180_2, q180_3, q180_5, q180_6, q180_10, q180_11, q180_14, q180_17, q180_18, q180_20, q180_23, q180_26, q180_29, q180_30, q180_32, q180_33, q180_36, q180_39, q180_40, q180_41, q180_44, q180_45, q180_48, q180_49, q180_51, q180_52, q180_55, q180_56, q180_57, q180_58, q180_61, q180_62, q180_64, q180_65, q180_66, q180_69, q180_71, q180_74, q180_76, q180_79, q180_80, q180_83, q180_85, q180_86, q180_87, q180_90, q180_91, q180_92, q180_95, q180_97, q180_100, q180_101, q180_102, q180_105, q180_107, q180_108, q180_111, q180_113, q180_115, q180_118, q180_121, q180_122, q180_123, q180_126, q180_127, q180_128, q180_129, q180_132, q180_134, q180_135, q180_138, q180_139, q180_142, q180_143, q180_145, q180_146, q180_149, q180_152, q180_153, q180_156, q180_157, kl_int, kl_ref, kl_tok, cS_nil, cS_int, cS_ref, cS_long, tl_some, tl_none, List.cons_append, List.nil_append, nI_add, nI_ltb, nI_leb, nI_eqb, nI_cl, zin_nI, h2.1, oI, hw, e1, zk0_inl, q, wO]
        rw [if_pos (by omega)]
        by_cases e2 : wS s Rw[i0] < 0
        · simp [e2, show ¬ 0 ≤ wS s Rw[i0] by omega, oI]
        · simp [e2, show 0 ≤ wS s Rw[i0] by omega, oI]
      | some k =>
        have hk := hbh k rfl
        have hw2 := worthTo_ (d := d + 2) (j := k) hs hS hG hk
        have hb2 := hG.wb (s := s) k hk
        have e3 : ¬ nI k = -1 := by rw [nI_m1 (by omega)]; exact id
        rw [q180_8]
        simp (disch := first | assumption | exact nar_b0 | exact nar_b1 | exact nar_b | exact Or.inl rfl | exact Or.inr rfl | exact zin_t (by omega) (by omega) | exact Nat.le_of_ble_eq_true rfl | (rw [nI_cl (by omega)]; assumption) | omega) only [q180_0, q180_1, q180_2, q180_3, q180_5, q180_6, q180_10, q180_11, q180_14, q180_17, q180_18, q180_20, q180_23, q180_26, q180_29, q180_30, q180_32, q180_33, q180_36, q180_39, q180_40, q180_41, q180_44, q180_45, q180_48, q180_49, q180_51, q180_52, q180_55, q180_56, q180_57, q180_58, q180_61, q180_62, q180_64, q180_65, q180_66, q180_69, q180_71, q180_74, q180_76, q180_79, q180_80, q180_83, q180_85, q180_86, q180_87, q180_90, q180_91, q180_92, q180_95, q180_97, q180_100, q180_101, q180_102, q180_105, q180_107, q180_108, q180_111, q180_113, q180_115, q180_118, q180_121, q180_122, q180_123, q180_126, q180_127, q180_128, q180_129, q180_132, q180_134, q180_135, q180_138, q180_139, q180_142, q180_143, q180_145, q180_146, q180_149, q180_152, q180_153, q180_156, q180_157, kl_int, kl_ref, kl_tok, cS_nil, cS_int, cS_ref, cS_long, tl_some, tl_none, List.cons_append, List.nil_append, nI_add, nI_ltb, nI_leb, nI_eqb, nI_cl, zin_nI, h2.1, oI, hw, hw2, e1, e3, zk0_inl, wO, getD_lt, iI_leb]
        rw [if_pos (by omega)]
        by_cases e2 : wS s Rw[i0] < wS s Rw[k]
        · simp [e2, show ¬ wS s Rw[k] ≤ wS s Rw[i0] by omega, oI]
        · simp [e2, show wS s Rw[k] ≤ wS s Rw[i0] by omega, oI]
    · unfold fin
      by_cases e1 : wS s Rw[i0] < wO Rw s bh
      · rw [if_pos e1]
        simp only [e1, if_true]
        exact ⟨g3, g1, g2⟩
      · rw [if_neg e1]
        simp only [e1, if_false]
        trivial
theorem plainR_2 {s S k0 : Nat} (hs : s < 2) (hSt : S < 1024) (hS : Sh R) (hG : GmR M se sp bx Rw ts) (hk0 : k0 < Rw.length) : ∀ (m i : Nat) (k6 : Value) (lo : Option Nat) (b : Option (Nat × Int)), i + m = Rw.length → se < cnt S i → LoR S Rw s lo b →
    ∃ o, exe (d + 3) 180 8 [.ref 127, .int (nI S), .int (nI s), .int (oI lo), .int (nI k0), .int (nI i), k6] [] M R = some (.inl (some (.int (oI o))), M, R) ∧ PlR S Rw.length o (fin b (wS s Rw[k0])) := by
  obtain ⟨nN, k127, k128, l128, k129, l129, k130, l130, k131, l131, k132, l132, k133, l133, k134, l134, k135, l135, k136, l136, k137, l137, k138, l138, k139, l139, k140, l140, k141, l141, k142, l142, k143, l143, k144, l144, k145, l145, k146, l146, f127_1, f127_2, f127_3, f127_4, f127_6, f127_7, f127_17, f127_18, f127_19, f127_22, f127_24, f127_25, f127_26, f127_29, f127_30, f127_31, f127_32, f127_33⟩ := modF hS
  have h2 := hG.1
  have hl := hG.2.2.2.1
  intro m
  induction m with
  | zero =>
    intro i k6 lo b hi hc hlo
    have h := plainR_E (d := d) hs hSt hS hG i k6 lo (some k0) b (by omega) (fun k e => by cases e; exact hk0) hlo
    simp only [wO, getD_lt hk0] at h
    exact h
  | succ m ih =>
    intro i k6 lo b hi hc hlo
    have hci := cnt_mono (S := S) (show i ≤ i + 1 by omega)
    obtain ⟨o, g1, g2⟩ := ih (i + 1) k6 lo b (by omega) (by omega) hlo
    refine ⟨o, ?_, g2⟩
    rw [← g1]
    have hh := has_ (d := d + 2) (M := M) (R := R) (S := S) (k := i) (by omega) (by omega)
    have hb := isBoxed_ (d := d) (M := M) (R := R) (S := S) (p := i) (by omega) (by omega) hS h2.2.2.1 (by omega)
    rw [decide_eq_false (show ¬ cnt S i < se by omega), Bool.and_false] at hb
    have e3 : ¬ nI k0 = -1 := by rw [nI_m1 (by omega)]; exact id
    rw [q180_8]
    simp (disch := first | assumption | exact nar_b0 | exact nar_b1 | exact nar_b | exact Or.inl rfl | exact Or.inr rfl | exact zin_t (by omega) (by omega) | exact Nat.le_of_ble_eq_true rfl | (rw [nI_cl (by omega)]; assumption) | omega) only [q180_0, q180_1, q180_2, q180_3, q180_5, q180_6, q180_10, q180_11, q180_14, q180_17, q180_18, q180_20, q180_23, q180_26, q180_29, q180_30, q180_32, q180_33, q180_36, q180_39, q180_40, q180_41, q180_44, q180_45, q180_48, q180_49, q180_51, q180_52, q180_55, q180_56, q180_57, q180_58, q180_61, q180_62, q180_64, q180_65, q180_66, q180_69, q180_71, q180_74, q180_76, q180_79, q180_80, q180_83, q180_85, q180_86, q180_87, q180_90, q180_91, q180_92, q180_95, q180_97, q180_100, q180_101, q180_102, q180_105, q180_107, q180_108, q180_111, q180_113, q180_115, q180_118, q180_121, q180_122, q180_123, q180_126, q180_127, q180_128, q180_129, q180_132, q180_134, q180_135, q180_138, q180_139, q180_142, q180_143, q180_145, q180_146, q180_149, q180_152, q180_153, q180_156, q180_157, kl_int, kl_ref, kl_tok, cS_nil, cS_int, cS_ref, cS_long, tl_some, tl_none, List.cons_append, List.nil_append, nI_add, nI_ltb, nI_leb, nI_eqb, nI_cl, zin_nI, h2.1, hh, hb, zk0_inl, b2i_0, e3]
    rw [if_neg (by omega)]
    cases S.testBit i <;> simp
set_option maxHeartbeats 4000000 in
theorem plainR_1 {s S : Nat} (hs : s < 2) (hSt : S < 1024) (hS : Sh R) (hG : GmR M se sp bx Rw ts) : ∀ (m i : Nat) (k6 : Value) (lo : Option Nat) (b : Option (Nat × Int)), i + m = Rw.length → cnt S i ≤ se → LoR S Rw s lo b → (∀ j, lo = some j → j < i) →
    ∃ o, exe (d + 3) 180 8 [.ref 127, .int (nI S), .int (nI s), .int (oI lo), .int (-1), .int (nI i), k6] [] M R = some (.inl (some (.int (oI o))), M, R) ∧ PlR S Rw.length o (fin (lst (((remI (Rw.drop i) S i).map (wS s)).take (se - cnt S i)) (cnt S i) b) ((((remI (Rw.drop i) S i).map (wS s))[se - cnt S i]?).getD 0)) := by
  obtain ⟨nN, k127, k128, l128, k129, l129, k130, l130, k131, l131, k132, l132, k133, l133, k134, l134, k135, l135, k136, l136, k137, l137, k138, l138, k139, l139, k140, l140, k141, l141, k142, l142, k143, l143, k144, l144, k145, l145, k146, l146, f127_1, f127_2, f127_3, f127_4, f127_6, f127_7, f127_17, f127_18, f127_19, f127_22, f127_24, f127_25, f127_26, f127_29, f127_30, f127_31, f127_32, f127_33⟩ := modF hS
  have h2 := hG.1
  have hl := hG.2.2.2.1
  intro m
  induction m with
  | zero =>
    intro i k6 lo b hi hc hlo hj
    obtain ⟨o, g1, g2⟩ := plainR_E (d := d) hs hSt hS hG i k6 lo none b (by omega) (fun k e => by cases e) hlo
    refine ⟨o, g1, ?_⟩
    rw [remI_end (by omega)]
    simpa [lst, wO] using g2
  | succ m ih =>
    intro i k6 lo b hi hc hlo hj
    have hwb := hG.wb (s := s) i (by omega)
    have hci1 : cnt S (i + 1) = cnt S i + if S.testBit i then 0 else 1 := rfl
    have hh := has_ (d := d + 2) (M := M) (R := R) (S := S) (k := i) (by omega) (by omega)
    have hbx := isBoxed_ (d := d) (M := M) (R := R) (S := S) (p := i) (by omega) (by omega) hS h2.2.2.1 (by omega)
    have hw := worthTo_ (d := d + 2) (j := i) hs hS hG (by omega)
    rw [remI_step (l := Rw) (S := S) (i := i) (by omega)]
    cases hb : S.testBit i
    · rw [hb] at hci1 hh hbx
      have hci2 : cnt S (i + 1) = cnt S i + 1 := by simpa using hci1
      rw [if_neg (by decide), List.map_cons]
      by_cases e : cnt S i = se
      · rw [e, Nat.sub_self, List.take_zero, List.getElem?_cons_zero]
        rw [decide_eq_false (show ¬ cnt S i < se by omega), Bool.and_false] at hbx
        obtain ⟨o, g1, g2⟩ := plainR_2 (d := d) (k0 := i) hs hSt hS hG (by omega) m (i + 1) k6 lo b (by omega) (by omega) hlo
        refine ⟨o, ?_, by simpa [lst] using g2⟩
        rw [← g1]
        rw [q180_8]
        simp (disch := first | assumption | exact nar_b0 | exact nar_b1 | exact nar_b | exact Or.inl rfl | exact Or.inr rfl | exact zin_t (by omega) (by omega) | exact Nat.le_of_ble_eq_true rfl | (rw [nI_cl (by omega)]; assumption) | omega) only [q180_0, q180_1, q180_2, q180_3, q180_5, q180_6, q180_10, q180_11, q180_14, q180_17, q180_18, q180_20, q180_23, q180_26, q180_29, q180_30, q180_32, q180_33, q180_36, q180_39, q180_40, q180_41, q180_44, q180_45, q180_48, q180_49, q180_51, q180_52, q180_55, q180_56, q180_57, q180_58, q180_61, q180_62, q180_64, q180_65, q180_66, q180_69, q180_71, q180_74, q180_76, q180_79, q180_80, q180_83, q180_85, q180_86, q180_87, q180_90, q180_91, q180_92, q180_95, q180_97, q180_100, q180_101, q180_102, q180_105, q180_107, q180_108, q180_111, q180_113, q180_115, q180_118, q180_121, q180_122, q180_123, q180_126, q180_127, q180_128, q180_129, q180_132, q180_134, q180_135, q180_138, q180_139, q180_142, q180_143, q180_145, q180_146, q180_149, q180_152, q180_153, q180_156, q180_157, kl_int, kl_ref, kl_tok, cS_nil, cS_int, cS_ref, cS_long, tl_some, tl_none, List.cons_append, List.nil_append, nI_add, nI_ltb, nI_leb, nI_eqb, nI_cl, zin_nI, h2.1, hh, hbx, zk0_inl, b2i_0]
        rw [if_neg (by omega)]
        simp
      · have e2 : se - cnt S i = (se - cnt S (i + 1)) + 1 := by omega
        rw [e2, List.take_succ_cons, List.getElem?_cons_succ]
        rw [decide_eq_true (show cnt S i < se by omega), Bool.and_true, Bool.not_false] at hbx
        match lo, b, hlo, hj with
        | none, none, _, _ =>
          obtain ⟨o, g1, g2⟩ := ih (i + 1) (.int (nI 0)) (some i) (some (cnt S i, wS s Rw[i])) (by omega) (by omega) ⟨hb, rfl, by omega, rfl⟩ (fun j e => by cases e; omega)
          refine ⟨o, ?_, by rw [lst, ← hci2]; exact g2⟩
          rw [← g1]
          rw [q180_8]
          simp (disch := first | assumption | exact nar_b0 | exact nar_b1 | exact nar_b | exact Or.inl rfl | exact Or.inr rfl | exact zin_t (by omega) (by omega) | exact Nat.le_of_ble_eq_true rfl | (rw [nI_cl (by omega)]; assumption) | omega) only [q180_0, q180_1, q180_2, q180_3, q180_5, q180_6, q180_10, q180_11, q180_14, q180_17, q180_18, q180_20, q180_23, q180_26, q180_29, q180_30, q180_32, q180_33, q180_36, q180_39, q180_40, q180_41, q180_44, q180_45, q180_48, q180_49, q180_51, q180_52, q180_55, q180_56, q180_57, q180_58, q180_61, q180_62, q180_64, q180_65, q180_66, q180_69, q180_71, q180_74, q180_76, q180_79, q180_80, q180_83, q180_85, q180_86, q180_87, q180_90, q180_91, q180_92, q180_95, q180_97, q180_100, q180_101, q180_102, q180_105, q180_107, q180_108, q180_111, q180_113, q180_115, q180_118, q180_121, q180_122, q180_123, q180_126, q180_127, q180_128, q180_129, q180_132, q180_134, q180_135, q180_138, q180_139, q180_142, q180_143, q180_145, q180_146, q180_149, q180_152, q180_153, q180_156, q180_157, kl_int, kl_ref, kl_tok, cS_nil, cS_int, cS_ref, cS_long, tl_some, tl_none, List.cons_append, List.nil_append, nI_add, nI_ltb, nI_leb, nI_eqb, nI_cl, zin_nI, h2.1, hh, hbx, zk0_inl, b2i_0, oI]
          rw [if_neg (by omega)]
          simp
        | some i0, some (j, v), hlo, hj =>
          obtain ⟨p1, p2, p3, rfl⟩ := hlo
          have hji := hj i0 rfl
          have hw0 := worthTo_ (d := d + 2) (j := i0) hs hS hG p3
          have hwb0 := hG.wb (s := s) i0 p3
          have e1 : ¬ nI i0 = -1 := by rw [nI_m1 (by omega)]; exact id
          have w1 := (hG.2.1 i (by omega)).1
          have w2 := (hG.2.1 i0 p3).1
          have w3 := hG.2.2.2.2.2.1 i0 i hji (by omega)
          have w4 := (hG.2.2.2.2.1 _ (List.getElem_mem (show i < Rw.length by omega))).1
          have w5 : (nI (Rw[i0]).1 ≤ nI (Rw[i]).1) = True := by rw [nI_leb (by omega) (by omega)]; simp; omega
          have l0 : (iI (wS s Rw[i] - wS s Rw[i0]) < nI 0) = (wS s Rw[i] < wS s Rw[i0]) := by
            rw [nI_iI, iI_ltb (by omega) (by omega) (by omega) (by omega)]
            apply propext
            omega
          have e80 : exe (d + 3) 180 8 [.ref 127, .int (nI S), .int (nI s), .int (oI (some i0)), .int (-1), .int (nI i), k6] [] M R = if wS s Rw[i] < wS s Rw[i0] then exe (d + 3) 180 8 [.ref 127, .int (nI S), .int (nI s), .int (oI (some i)), .int (-1), .int (nI (i + 1)), .int (iI (wS s Rw[i] - wS s Rw[i0]))] [] M R else exe (d + 3) 180 8 [.ref 127, .int (nI S), .int (nI s), .int (oI (some i0)), .int (-1), .int (nI (i + 1)), .int (iI (wS s Rw[i] - wS s Rw[i0]))] [] M R := by
            have hlt : ¬ Rw.length ≤ i := by omega
            rw [q180_8]
            simp (disch := first | assumption | exact nar_b0 | exact nar_b1 | exact nar_b | exact Or.inl rfl | exact Or.inr rfl | exact zin_t (by omega) (by omega) | exact Nat.le_of_ble_eq_true rfl | (rw [nI_cl (by omega)]; assumption) | omega) only [↓reduceIte, reduceCtorEq, not_true_eq_false, not_false_eq_true, q180_0, q180_1, q180_2, q180_3, q180_5, q180_6, q180_10, q180_11, q180_14, q180_17, q180_18, q180_20, q180_23, q180_26, q180_29, q180_30, q180_32, q180_33, q180_36, q180_39, q180_40, q180_41, q180_44, q180_45, q180_48, q180_49, q180_51, q180_52, q180_55, q180_56, q180_57, q180_58, q180_61, q180_62, q180_64, q180_65, q180_66, q180_69, q180_71, q180_74, q180_76, q180_79, q180_80, q180_83, q180_85, q180_86, q180_87, q180_90, q180_91, q180_92, q180_97, q180_101, q180_102, q180_105, q180_107, q180_108, q180_111, q180_113, q180_115, q180_118, q180_121, q180_122, q180_123, q180_126, q180_127, q180_128, q180_129, q180_132, q180_134, q180_135, q180_138, q180_139, q180_142, q180_143, q180_145, q180_146, q180_149, q180_152, q180_153, q180_156, q180_157, kl_int, kl_ref, kl_tok, cS_nil, cS_int, cS_ref, cS_long, tl_some, tl_none, List.cons_append, List.nil_append, nI_add, nI_ltb, nI_leb, nI_eqb, nI_cl, zin_nI, h2.1, hlt, hh, hbx, zk0_inl, b2i_0, oI, e1, hw, hw0, iI_sub, l0, w1, w2, w5]
            by_cases e3 : wS s Rw[i] < wS s Rw[i0]
            · rw [if_pos e3, if_pos e3]
              simp (disch := first | assumption | exact nar_b0 | exact nar_b1 | exact nar_b | exact Or.inl rfl | exact Or.inr rfl | exact zin_t (by omega) (by omega) | exact Nat.le_of_ble_eq_true rfl | (rw [nI_cl (by omega)]; assumption) | omega) only [↓reduceIte, reduceCtorEq, not_true_eq_false, not_false_eq_true, q180_0, q180_1, q180_2, q180_3, q180_5, q180_6, q180_10, q180_11, q180_14, q180_17, q180_18, q180_20, q180_23, q180_26, q180_29, q180_30, q180_32, q180_33, q180_36, q180_39, q180_40, q180_41, q180_44, q180_45, q180_48, q180_49, q180_51, q180_52, q180_55, q180_56, q180_57, q180_58, q180_61, q180_62, q180_64, q180_65, q180_66, q180_69, q180_71, q180_74, q180_76, q180_79, q180_80, q180_83, q180_85, q180_86, q180_87, q180_90, q180_91, q180_92, q180_95, q180_97, q180_100, q180_101, q180_102, q180_105, q180_107, q180_108, q180_111, q180_113, q180_115, q180_118, q180_121, q180_122, q180_123, q180_126, q180_127, q180_128, q180_129, q180_132, q180_134, q180_135, q180_138, q180_139, q180_142, q180_143, q180_145, q180_146, q180_149, q180_152, q180_153, q180_156, q180_157, kl_int, kl_ref, kl_tok, cS_nil, cS_int, cS_ref, cS_long, tl_some, tl_none, List.cons_append, List.nil_append, nI_add, nI_ltb, nI_leb, nI_eqb, nI_cl, zin_nI]
            · rw [if_neg e3, if_neg e3]
              simp (disch := first | assumption | exact nar_b0 | exact nar_b1 | exact nar_b | exact Or.inl rfl | exact Or.inr rfl | exact zin_t (by omega) (by omega) | exact Nat.le_of_ble_eq_true rfl | (rw [nI_cl (by omega)]; assumption) | omega) only [↓reduceIte, reduceCtorEq, not_true_eq_false, not_false_eq_true, q180_0, q180_1, q180_2, q180_3, q180_5, q180_6, q180_10, q180_11, q180_14, q180_17, q180_18, q180_20, q180_23, q180_26, q180_29, q180_30, q180_32, q180_33, q180_36, q180_39, q180_40, q180_41, q180_44, q180_45, q180_48, q180_49, q180_51, q180_52, q180_55, q180_56, q180_57, q180_58, q180_61, q180_62, q180_64, q180_65, q180_66, q180_69, q180_71, q180_74, q180_76, q180_79, q180_80, q180_83, q180_85, q180_86, q180_87, q180_90, q180_91, q180_92, q180_95, q180_97, q180_100, q180_101, q180_102, q180_105, q180_107, q180_108, q180_111, q180_113, q180_115, q180_118, q180_121, q180_122, q180_123, q180_126, q180_127, q180_128, q180_129, q180_132, q180_134, q180_135, q180_138, q180_139, q180_142, q180_143, q180_145, q180_146, q180_149, q180_152, q180_153, q180_156, q180_157, kl_int, kl_ref, kl_tok, cS_nil, cS_int, cS_ref, cS_long, tl_some, tl_none, List.cons_append, List.nil_append, nI_add, nI_ltb, nI_leb, nI_eqb, nI_cl, zin_nI]
              split <;> rfl
          rw [e80]
          by_cases e3 : wS s Rw[i] < wS s Rw[i0]
          · obtain ⟨o, g1, g2⟩ := ih (i + 1) (.int (iI (wS s Rw[i] - wS s Rw[i0]))) (some i) (some (cnt S i, wS s Rw[i])) (by omega) (by omega) ⟨hb, rfl, by omega, rfl⟩ (fun j e => by cases e; omega)
            refine ⟨o, by rw [if_pos e3]; exact g1, by rw [lst, if_pos e3, ← hci2]; exact g2⟩
          · obtain ⟨o, g1, g2⟩ := ih (i + 1) (.int (iI (wS s Rw[i] - wS s Rw[i0]))) (some i0) (some (j, wS s Rw[i0])) (by omega) (by omega) ⟨p1, p2, p3, rfl⟩ (fun j e => by have := hj j e; omega)
            refine ⟨o, by rw [if_neg e3]; exact g1, by rw [lst, if_neg e3, ← hci2]; exact g2⟩
    · rw [hb] at hci1 hh
      have hci2 : cnt S (i + 1) = cnt S i := by simpa using hci1
      rw [if_pos rfl, ← hci2]
      obtain ⟨o, g1, g2⟩ := ih (i + 1) k6 lo b (by omega) (by omega) hlo (fun j e => by have := hj j e; omega)
      refine ⟨o, ?_, g2⟩
      rw [← g1]
      rw [q180_8]
      simp (disch := first | assumption | exact nar_b0 | exact nar_b1 | exact nar_b | exact Or.inl rfl | exact Or.inr rfl | exact zin_t (by omega) (by omega) | exact Nat.le_of_ble_eq_true rfl | (rw [nI_cl (by omega)]; assumption) | omega) only [q180_0, q180_1, q180_2, q180_3, q180_5, q180_6, q180_10, q180_11, q180_14, q180_17, q180_18, q180_20, q180_23, q180_26, q180_29, q180_30, q180_32, q180_33, q180_36, q180_39, q180_40, q180_41, q180_44, q180_45, q180_48, q180_49, q180_51, q180_52, q180_55, q180_56, q180_57, q180_58, q180_61, q180_62, q180_64, q180_65, q180_66, q180_69, q180_71, q180_74, q180_76, q180_79, q180_80, q180_83, q180_85, q180_86, q180_87, q180_90, q180_91, q180_92, q180_95, q180_97, q180_100, q180_101, q180_102, q180_105, q180_107, q180_108, q180_111, q180_113, q180_115, q180_118, q180_121, q180_122, q180_123, q180_126, q180_127, q180_128, q180_129, q180_132, q180_134, q180_135, q180_138, q180_139, q180_142, q180_143, q180_145, q180_146, q180_149, q180_152, q180_153, q180_156, q180_157, kl_int, kl_ref, kl_tok, cS_nil, cS_int, cS_ref, cS_long, tl_some, tl_none, List.cons_append, List.nil_append, nI_add, nI_ltb, nI_leb, nI_eqb, nI_cl, zin_nI, h2.1, hh, zk0_inl, b2i_0]
      rw [if_neg (by omega)]
      simp
theorem plainR_ {s S : Nat} (hs : s < 2) (hSt : S < 1024) (hS : Sh R) (hG : GmR M se sp bx Rw ts) : ∃ o, cal (d + 3) 180 [.ref 127, .int (nI S), .int (nI s)] M R = some (.inl (some (.int (oI o))), M, R) ∧ PlR S Rw.length o (plA se s (rem Rw S)) := by
  obtain ⟨o, g1, g2⟩ := plainR_1 (d := d) hs hSt hS hG Rw.length 0 tok none none (by omega) (Nat.zero_le _) trivial (fun j e => by cases e)
  refine ⟨o, ?_, g2⟩
  rw [← g1, e180]
  simp (disch := first | assumption | exact nar_b0 | exact nar_b1 | exact nar_b | exact Or.inl rfl | exact Or.inr rfl | exact zin_t (by omega) (by omega) | exact Nat.le_of_ble_eq_true rfl | (rw [nI_cl (by omega)]; assumption) | omega) only [q180_0, q180_1, q180_2, q180_3, q180_5, q180_6, q180_10, q180_11, q180_14, q180_17, q180_18, q180_20, q180_23, q180_26, q180_29, q180_30, q180_32, q180_33, q180_36, q180_39, q180_40, q180_41, q180_44, q180_45, q180_48, q180_49, q180_51, q180_52, q180_55, q180_56, q180_57, q180_58, q180_61, q180_62, q180_64, q180_65, q180_66, q180_69, q180_71, q180_74, q180_76, q180_79, q180_80, q180_83, q180_85, q180_86, q180_87, q180_90, q180_91, q180_92, q180_95, q180_97, q180_100, q180_101, q180_102, q180_105, q180_107, q180_108, q180_111, q180_113, q180_115, q180_118, q180_121, q180_122, q180_123, q180_126, q180_127, q180_128, q180_129, q180_132, q180_134, q180_135, q180_138, q180_139, q180_142, q180_143, q180_145, q180_146, q180_149, q180_152, q180_153, q180_156, q180_157, kl_int, kl_ref, kl_tok, cS_nil, cS_int, cS_ref, cS_long, tl_some, tl_none, List.cons_append, List.nil_append, nI_add, nI_ltb, nI_leb, nI_eqb, nI_cl, zin_nI]
  rfl
theorem WkA.get {t S : Nat} (hA : WkA M bx se sp Rw ts 0 (2 ^ Rw.length)) (ht : t < ts.length) (hSt : S < 2 ^ Rw.length) : ∃ o, M 142 (1024 * t + S) = oI o ∧ WkO bx se sp Rw ts t S o := (hA t S hSt (by omega) (by omega)).2 ht
theorem WkA.val {t S q : Nat} (hA : WkA M bx se sp Rw ts 0 (2 ^ Rw.length)) (ht : t ≤ ts.length) (hSt : S < 2 ^ Rw.length) (hq : q < 2) : M 141 (2 * (1024 * t + S) + q) = iI (sdV q (VV bx se sp (ts.drop t) (rem Rw S))) := (hA t S hSt ht (by omega)).1 q hq
theorem getD_ts {t : Nat} (ht : t < ts.length) : ts.drop t = ts.getD t 0 :: ts.drop (t + 1) := by
  rw [getD_lt ht]
  exact List.drop_eq_getElem_cons ht
set_option maxHeartbeats 4000000 in
theorem plain_L {pl sd : Nat} (hpl : pl < 4) (hsd : sd < 2) (hS : Sh R) (hG : GmR M se sp bx Rw ts) (hA : WkA M bx se sp Rw ts 0 (2 ^ Rw.length)) : ∀ (m t S : Nat) (k5 : Value), t + m = ts.length → S < 2 ^ Rw.length → exe (d + 4) 181 55 [.ref 127, .int (nI sd), .int (nI pl), .int (nI S), .int (nI t), k5] [] M R = some (.inl (some (.int (iI (endF se sp 0 ((runX bx se sp pl (ts.length - t) (ts.drop t) (rem Rw S)).map (wS sd)))))), M, R) := by
  obtain ⟨nN, k127, k128, l128, k129, l129, k130, l130, k131, l131, k132, l132, k133, l133, k134, l134, k135, l135, k136, l136, k137, l137, k138, l138, k139, l139, k140, l140, k141, l141, k142, l142, k143, l143, k144, l144, k145, l145, k146, l146, f127_1, f127_2, f127_3, f127_4, f127_6, f127_7, f127_17, f127_18, f127_19, f127_22, f127_24, f127_25, f127_26, f127_29, f127_30, f127_31, f127_32, f127_33⟩ := modF hS
  have h2 := hG.1
  have hl := hG.2.2.2.1
  have hp := pow10 hl.1
  intro m
  induction m with
  | zero =>
    intro t S k5 ht hSt
    have hc := endWR_ (d := d) (s := sd) (S := S) hsd (by omega) hS hG
    rw [List.drop_eq_nil_of_le (by omega), show ts.length - t = 0 by omega]
    rw [q181_55]
    simp (disch := first | assumption | exact nar_b0 | exact nar_b1 | exact nar_b | exact Or.inl rfl | exact Or.inr rfl | exact zin_t (by omega) (by omega) | exact Nat.le_of_ble_eq_true rfl | (rw [nI_cl (by omega)]; assumption) | omega) only [q181_0, q181_1, q181_2, q181_5, q181_6, q181_7, q181_8, q181_9, q181_10, q181_13, q181_16, q181_17, q181_18, q181_19, q181_22, q181_25, q181_28, q181_29, q181_32, q181_33, q181_34, q181_35, q181_38, q181_41, q181_42, q181_43, q181_44, q181_47, q181_48, q181_51, q181_52, q181_53, q181_57, q181_58, q181_61, q181_64, q181_65, q181_66, q181_69, q181_71, q181_72, q181_75, q181_78, q181_79, q181_80, q181_81, q181_84, q181_86, q181_87, q181_90, q181_93, q181_94, q181_97, q181_100, q181_102, q181_103, q181_104, q181_105, q181_106, q181_108, q181_110, q181_111, q181_114, q181_115, q181_118, q181_119, q181_120, q181_122, q181_123, q181_124, q181_125, q181_128, q181_131, q181_132, q181_133, q181_134, q181_137, kl_int, kl_ref, kl_tok, cS_nil, cS_int, cS_ref, cS_long, tl_some, tl_none, List.cons_append, List.nil_append, nI_add, nI_ltb, nI_leb, nI_eqb, nI_cl, zin_nI, h2.2.1, hc, zk0_inl]
    rw [if_pos (by omega)]
    rfl
  | succ m ih =>
    intro t S k5 ht hSt
    have h40 := hG.2.2.1 t (by omega)
    have hs : ts[t] < 2 := hG.2.2.2.2.2.2 _ (List.getElem_mem _)
    have hh := has_ (d := d + 3) (M := M) (R := R) (S := pl) (k := ts[t]) (by omega) (by omega)
    have hkt : ts.length - t = (ts.length - (t + 1)) + 1 := by omega
    rw [hkt, getD_ts (by omega), runX, getD_lt (show t < ts.length by omega)]
    have step : ∀ (o b : Option Nat), PlR S Rw.length o b → b = (if pl.testBit ts[t] then plA se ts[t] (rem Rw S) else bst bx se (VV bx se sp (ts.drop (t + 1))) ts[t] (rem Rw S)) → exe (d + 4) 181 106 [.ref 127, .int (nI sd), .int (nI pl), .int (nI S), .int (nI t), k5] [.int (oI o)] M R = some (.inl (some (.int (iI (endF se sp 0 ((runX bx se sp pl (ts.length - (t + 1)) (ts.drop (t + 1)) (stX bx se sp pl ts[t] (ts.drop (t + 1)) (rem Rw S))).map (wS sd)))))), M, R) := by
      intro o b hpr hb
      have g := ih (t + 1) (setO S o) (.int (oI o)) (by omega) (setO_lt hSt hpr)
      rw [hpr.rem, hb] at g
      have g2 : exe (d + 4) 181 106 [.ref 127, .int (nI sd), .int (nI pl), .int (nI S), .int (nI t), k5] [.int (oI o)] M R = exe (d + 4) 181 55 [.ref 127, .int (nI sd), .int (nI pl), .int (nI (setO S o)), .int (nI (t + 1)), .int (oI o)] [] M R := by
        cases o with
        | none =>
          simp (disch := first | assumption | exact nar_b0 | exact nar_b1 | exact nar_b | exact Or.inl rfl | exact Or.inr rfl | exact zin_t (by omega) (by omega) | exact Nat.le_of_ble_eq_true rfl | (rw [nI_cl (by omega)]; assumption) | omega) only [q181_0, q181_1, q181_2, q181_5, q181_6, q181_7, q181_8, q181_9, q181_10, q181_13, q181_16, q181_17, q181_18, q181_19, q181_22, q181_25, q181_28, q181_29, q181_32, q181_33, q181_34, q181_35, q181_38, q181_41, q181_42, q181_43, q181_44, q181_47, q181_48, q181_51, q181_52, q181_53, q181_57, q181_58, q181_61, q181_64, q181_65, q181_66, q181_69, q181_71, q181_72, q181_75, q181_78, q181_79, q181_80, q181_81, q181_84, q181_86, q181_87, q181_90, q181_93, q181_94, q181_97, q181_100, q181_102, q181_103, q181_104, q181_105, q181_106, q181_108, q181_110, q181_111, q181_114, q181_115, q181_118, q181_119, q181_120, q181_122, q181_123, q181_124, q181_125, q181_128, q181_131, q181_132, q181_133, q181_134, q181_137, kl_int, kl_ref, kl_tok, cS_nil, cS_int, cS_ref, cS_long, tl_some, tl_none, List.cons_append, List.nil_append, nI_add, nI_ltb, nI_leb, nI_eqb, nI_cl, zin_nI, oI, setO]
          simp
        | some i =>
          have hi := hpr.lt i rfl
          have e1 : ¬ nI i = -1 := by rw [nI_m1 (by omega)]; exact id
          simp (disch := first | assumption | exact nar_b0 | exact nar_b1 | exact nar_b | exact Or.inl rfl | exact Or.inr rfl | exact zin_t (by omega) (by omega) | exact Nat.le_of_ble_eq_true rfl | (rw [nI_cl (by omega)]; assumption) | omega) only [q181_0, q181_1, q181_2, q181_5, q181_6, q181_7, q181_8, q181_9, q181_10, q181_13, q181_16, q181_17, q181_18, q181_19, q181_22, q181_25, q181_28, q181_29, q181_32, q181_33, q181_34, q181_35, q181_38, q181_41, q181_42, q181_43, q181_44, q181_47, q181_48, q181_51, q181_52, q181_53, q181_57, q181_58, q181_61, q181_64, q181_65, q181_66, q181_69, q181_71, q181_72, q181_75, q181_78, q181_79, q181_80, q181_81, q181_84, q181_86, q181_87, q181_90, q181_93, q181_94, q181_97, q181_100, q181_102, q181_103, q181_104, q181_105, q181_106, q181_108, q181_110, q181_111, q181_114, q181_115, q181_118, q181_119, q181_120, q181_122, q181_123, q181_124, q181_125, q181_128, q181_131, q181_132, q181_133, q181_134, q181_137, kl_int, kl_ref, kl_tok, cS_nil, cS_int, cS_ref, cS_long, tl_some, tl_none, List.cons_append, List.nil_append, nI_add, nI_ltb, nI_leb, nI_eqb, nI_cl, zin_nI, oI, setO, e1, nI_shl, nI_or, Nat.one_mul]
          simp
      rw [g2, g]
      rfl
    cases hpb : pl.testBit ts[t]
    · rw [hpb] at hh
      obtain ⟨o, p1, p2⟩ := hA.get (t := t) (S := S) (by omega) hSt
      unfold WkO at p2
      rw [getD_lt (show t < ts.length by omega)] at p2
      rw [← step o _ p2 (by rw [hpb]; rfl)]
      rw [q181_55]
      simp (disch := first | assumption | exact nar_b0 | exact nar_b1 | exact nar_b | exact Or.inl rfl | exact Or.inr rfl | exact zin_t (by omega) (by omega) | exact Nat.le_of_ble_eq_true rfl | (rw [nI_cl (by omega)]; assumption) | omega) only [q181_0, q181_1, q181_2, q181_5, q181_6, q181_7, q181_8, q181_9, q181_10, q181_13, q181_16, q181_17, q181_18, q181_19, q181_22, q181_25, q181_28, q181_29, q181_32, q181_33, q181_34, q181_35, q181_38, q181_41, q181_42, q181_43, q181_44, q181_47, q181_48, q181_51, q181_52, q181_53, q181_57, q181_58, q181_61, q181_64, q181_65, q181_66, q181_69, q181_71, q181_72, q181_75, q181_78, q181_79, q181_80, q181_81, q181_84, q181_86, q181_87, q181_90, q181_93, q181_94, q181_97, q181_100, q181_102, q181_103, q181_104, q181_105, q181_108, q181_110, q181_111, q181_114, q181_115, q181_118, q181_119, q181_120, q181_122, q181_123, q181_124, q181_125, q181_128, q181_131, q181_132, q181_133, q181_134, q181_137, kl_int, kl_ref, kl_tok, cS_nil, cS_int, cS_ref, cS_long, tl_some, tl_none, List.cons_append, List.nil_append, nI_add, nI_ltb, nI_leb, nI_eqb, nI_cl, zin_nI, h2.2.1, h40, hh, zk0_inl, b2i_0, nI_mul, p1]
      rw [if_neg (by omega)]
      simp
    · rw [hpb] at hh
      obtain ⟨o, p1, p2⟩ := plainR_ (d := d) (s := ts[t]) (S := S) hs (by omega) hS hG
      rw [← step o _ p2 (by rw [hpb]; rfl)]
      rw [q181_55]
      simp (disch := first | assumption | exact nar_b0 | exact nar_b1 | exact nar_b | exact Or.inl rfl | exact Or.inr rfl | exact zin_t (by omega) (by omega) | exact Nat.le_of_ble_eq_true rfl | (rw [nI_cl (by omega)]; assumption) | omega) only [q181_0, q181_1, q181_2, q181_5, q181_6, q181_7, q181_8, q181_9, q181_10, q181_13, q181_16, q181_17, q181_18, q181_19, q181_22, q181_25, q181_28, q181_29, q181_32, q181_33, q181_34, q181_35, q181_38, q181_41, q181_42, q181_43, q181_44, q181_47, q181_48, q181_51, q181_52, q181_53, q181_57, q181_58, q181_61, q181_64, q181_65, q181_66, q181_69, q181_71, q181_72, q181_75, q181_78, q181_79, q181_80, q181_81, q181_84, q181_86, q181_87, q181_90, q181_93, q181_94, q181_97, q181_100, q181_102, q181_103, q181_104, q181_105, q181_108, q181_110, q181_111, q181_114, q181_115, q181_118, q181_119, q181_120, q181_122, q181_123, q181_124, q181_125, q181_128, q181_131, q181_132, q181_133, q181_134, q181_137, kl_int, kl_ref, kl_tok, cS_nil, cS_int, cS_ref, cS_long, tl_some, tl_none, List.cons_append, List.nil_append, nI_add, nI_ltb, nI_leb, nI_eqb, nI_cl, zin_nI, h2.2.1, h40, hh, zk0_inl, b2i_0, p1]
      rw [if_neg (by omega)]
      simp
/-- whom best play strikes at turn i -/
def lnA (bx se sp : Nat) (ts : List Nat) (i : Nat) (X : List P3) : Int32 := if i < ts.length then whoI (runX bx se sp 0 i ts X) (bst bx se (VV bx se sp (ts.drop (i + 1))) (ts.getD i 0) (runX bx se sp 0 i ts X)) else nob
theorem lineAt_L {i : Nat} (hi : i < ts.length) (hS : Sh R) (hG : GmR M se sp bx Rw ts) (hA : WkA M bx se sp Rw ts 0 (2 ^ Rw.length)) : ∀ (m t S : Nat) (k3 : Int32), t + m = i → S < 2 ^ Rw.length → exe d 172 28 [.ref 127, .int (nI i), .int (nI S), .int k3, .int (nI t)] [] M R = some (.inl (some (.int (whoI (runX bx se sp 0 m (ts.drop t) (rem Rw S)) (bst bx se (VV bx se sp (ts.drop (i + 1))) (ts.getD i 0) (runX bx se sp 0 m (ts.drop t) (rem Rw S)))))), M, R) := by
  obtain ⟨nN, k127, k128, l128, k129, l129, k130, l130, k131, l131, k132, l132, k133, l133, k134, l134, k135, l135, k136, l136, k137, l137, k138, l138, k139, l139, k140, l140, k141, l141, k142, l142, k143, l143, k144, l144, k145, l145, k146, l146, f127_1, f127_2, f127_3, f127_4, f127_6, f127_7, f127_17, f127_18, f127_19, f127_22, f127_24, f127_25, f127_26, f127_29, f127_30, f127_31, f127_32, f127_33⟩ := modF hS
  have h2 := hG.1
  have hl := hG.2.2.2.1
  have hp := pow10 hl.1
  have hst : ∀ (t S : Nat) (k3 : Int32) (o b : Option Nat), t ≤ i → S < 2 ^ Rw.length → M 142 (1024 * t + S) = oI o → PlR S Rw.length o b → exe d 172 28 [.ref 127, .int (nI i), .int (nI S), .int k3, .int (nI t)] [] M R = exe d 172 28 [.ref 127, .int (nI i), .int (nI (setO S o)), .int (oI o), .int (nI (t + 1))] [] M R := by
    intro t S k3 o b ht hSt hM hpl
    cases o with
    | none =>
      conv => lhs; rw [q172_28]
      simp (disch := first | assumption | exact nar_b0 | exact nar_b1 | exact nar_b | exact Or.inl rfl | exact Or.inr rfl | exact zin_t (by omega) (by omega) | exact Nat.le_of_ble_eq_true rfl | (rw [nI_cl (by omega)]; assumption) | omega) only [q172_0, q172_1, q172_2, q172_5, q172_6, q172_7, q172_10, q172_13, q172_14, q172_15, q172_18, q172_19, q172_22, q172_23, q172_24, q172_25, q172_26, q172_30, q172_31, q172_34, q172_35, q172_38, q172_41, q172_43, q172_44, q172_45, q172_46, q172_47, q172_48, q172_49, q172_50, q172_53, q172_54, q172_57, q172_58, q172_59, q172_60, q172_61, q172_62, q172_63, q172_66, q172_69, q172_70, q172_71, q172_74, q172_75, q172_78, q172_79, q172_82, q172_83, q172_84, kl_int, kl_ref, kl_tok, cS_nil, cS_int, cS_ref, cS_long, tl_some, tl_none, List.cons_append, List.nil_append, nI_add, nI_ltb, nI_leb, nI_eqb, nI_cl, zin_nI, nI_mul, hM, oI, setO]
      rw [if_neg (by omega)]
      simp
    | some j =>
      have hj := hpl.lt j rfl
      have e1 : ¬ nI j = -1 := by rw [nI_m1 (by omega)]; exact id
      conv => lhs; rw [q172_28]
      simp (disch := first | assumption | exact nar_b0 | exact nar_b1 | exact nar_b | exact Or.inl rfl | exact Or.inr rfl | exact zin_t (by omega) (by omega) | exact Nat.le_of_ble_eq_true rfl | (rw [nI_cl (by omega)]; assumption) | omega) only [q172_0, q172_1, q172_2, q172_5, q172_6, q172_7, q172_10, q172_13, q172_14, q172_15, q172_18, q172_19, q172_22, q172_23, q172_24, q172_25, q172_26, q172_30, q172_31, q172_34, q172_35, q172_38, q172_41, q172_43, q172_44, q172_45, q172_46, q172_47, q172_48, q172_49, q172_50, q172_53, q172_54, q172_57, q172_58, q172_59, q172_60, q172_61, q172_62, q172_63, q172_66, q172_69, q172_70, q172_71, q172_74, q172_75, q172_78, q172_79, q172_82, q172_83, q172_84, kl_int, kl_ref, kl_tok, cS_nil, cS_int, cS_ref, cS_long, tl_some, tl_none, List.cons_append, List.nil_append, nI_add, nI_ltb, nI_leb, nI_eqb, nI_cl, zin_nI, nI_mul, hM, oI, setO, e1, nI_shl, nI_or, Nat.one_mul]
      rw [if_neg (by omega)]
      simp
  intro m
  induction m with
  | zero =>
    intro t S k3 ht hSt
    obtain ⟨o, p1, p2⟩ := hA.get (t := t) (S := S) (by omega) hSt
    rw [hst t S k3 o _ (by omega) hSt p1 p2]
    rw [show t = i by omega] at p2
    unfold WkO at p2
    show (_ : Option ZO) = some (Sum.inl (some (Value.int (whoI (rem Rw S) (bst bx se (VV bx se sp (ts.drop (i + 1))) (ts.getD i 0) (rem Rw S))))), M, R)
    generalize bst bx se (VV bx se sp (ts.drop (i + 1))) (ts.getD i 0) (rem Rw S) = b at p2
    match o, b, p2 with
    | none, none, _ =>
      rw [q172_28]
      simp (disch := first | assumption | exact nar_b0 | exact nar_b1 | exact nar_b | exact Or.inl rfl | exact Or.inr rfl | exact zin_t (by omega) (by omega) | exact Nat.le_of_ble_eq_true rfl | (rw [nI_cl (by omega)]; assumption) | omega) only [q172_0, q172_1, q172_2, q172_5, q172_6, q172_7, q172_10, q172_13, q172_14, q172_15, q172_18, q172_19, q172_22, q172_23, q172_24, q172_25, q172_26, q172_30, q172_31, q172_34, q172_35, q172_38, q172_41, q172_43, q172_44, q172_45, q172_46, q172_47, q172_48, q172_49, q172_50, q172_53, q172_54, q172_57, q172_58, q172_59, q172_60, q172_61, q172_62, q172_63, q172_66, q172_69, q172_70, q172_71, q172_74, q172_75, q172_78, q172_79, q172_82, q172_83, q172_84, kl_int, kl_ref, kl_tok, cS_nil, cS_int, cS_ref, cS_long, tl_some, tl_none, List.cons_append, List.nil_append, nI_add, nI_ltb, nI_leb, nI_eqb, nI_cl, zin_nI, oI, whoI]
      rw [if_pos (by omega)]
      simp
    | some j, some c, p2 =>
      obtain ⟨g1, g2, g3⟩ := p2
      have e1 : ¬ nI j = -1 := by rw [nI_m1 (by omega)]; exact id
      have w1 := (hG.2.1 j g1).1
      have w2 := rem_get (l := Rw) (S := S) (i := j) g1 g2
      rw [g3] at w2
      rw [q172_28]
      simp (disch := first | assumption | exact nar_b0 | exact nar_b1 | exact nar_b | exact Or.inl rfl | exact Or.inr rfl | exact zin_t (by omega) (by omega) | exact Nat.le_of_ble_eq_true rfl | (rw [nI_cl (by omega)]; assumption) | omega) only [q172_0, q172_1, q172_2, q172_5, q172_6, q172_7, q172_10, q172_13, q172_14, q172_15, q172_18, q172_19, q172_22, q172_23, q172_24, q172_25, q172_26, q172_30, q172_31, q172_34, q172_35, q172_38, q172_41, q172_43, q172_44, q172_45, q172_46, q172_47, q172_48, q172_49, q172_50, q172_53, q172_54, q172_57, q172_58, q172_59, q172_60, q172_61, q172_62, q172_63, q172_66, q172_69, q172_70, q172_71, q172_74, q172_75, q172_78, q172_79, q172_82, q172_83, q172_84, kl_int, kl_ref, kl_tok, cS_nil, cS_int, cS_ref, cS_long, tl_some, tl_none, List.cons_append, List.nil_append, nI_add, nI_ltb, nI_leb, nI_eqb, nI_cl, zin_nI, oI, whoI, e1, w1, w2]
      rw [if_pos (by omega)]
      simp
  | succ m ih =>
    intro t S k3 ht hSt
    obtain ⟨o, p1, p2⟩ := hA.get (t := t) (S := S) (by omega) hSt
    rw [hst t S k3 o _ (by omega) hSt p1 p2, ih (t + 1) (setO S o) (oI o) (by omega) (setO_lt hSt p2), getD_ts (show t < ts.length by omega), runX]
    unfold WkO at p2
    rw [p2.rem]
    unfold stX
    rw [Nat.zero_testBit]
    rfl
end Pr
-- states
section St
variable {d se sp bx : Nat} {M : ZM} {R : ZH} {Rw : List P3} {ts : List Nat}
theorem canS_iff {bx se n S k : Nat} (hk : k < n) : (cnS bx se S k = true) ↔ canS bx se n S k := by
  unfold cnS canS
  have := cnt_le S k
  by_cases e : bx = 1
  · simp [e, hk]
  · simp [e, hk]
    intro _
    omega
theorem statR_0 (hS : Sh R) : ∀ (m k : Nat) (k2 k3 k4 : Value) (M : ZM), k + m = 9216 → (∀ j, j < k → M 143 j = nI 0) → ∃ M', exe (d + 4) 176 11 [.ref 127, .int (nI k), k2, k3, k4] [] M R = exe (d + 4) 176 31 [.ref 127, .int (nI 9216), k2, k3, k4] [] M' R ∧ (∀ j, j < 9216 → M' 143 j = nI 0) ∧ ∀ c, c ≠ 143 → M' c = M c := by
  obtain ⟨nN, k127, k128, l128, k129, l129, k130, l130, k131, l131, k132, l132, k133, l133, k134, l134, k135, l135, k136, l136, k137, l137, k138, l138, k139, l139, k140, l140, k141, l141, k142, l142, k143, l143, k144, l144, k145, l145, k146, l146, f127_1, f127_2, f127_3, f127_4, f127_6, f127_7, f127_17, f127_18, f127_19, f127_22, f127_24, f127_25, f127_26, f127_29, f127_30, f127_31, f127_32, f127_33⟩ := modF hS
  intro m
  induction m with
  | zero =>
    intro k k2 k3 k4 M hk hM
    refine ⟨M, ?_, fun j hj => hM j (by omega), fun _ _ => rfl⟩
    rw [q176_11]
    simp (disch := first | assumption | exact nar_b0 | exact nar_b1 | exact nar_b | exact Or.inl rfl | exact Or.inr rfl | exact zin_t (by omega) (by omega) | exact Nat.le_of_ble_eq_true rfl | (rw [nI_cl (by omega)]; assumption) | omega) only [q176_0, q176_1, q176_2, q176_5, q176_6, q176_9, q176_10, q176_12, q176_15, q176_18, q176_19, q176_22, q176_23, q176_24b, q176_24z, q176_25, q176_28, q176_32, q176_35, q176_36, q176_39, q176_40b, q176_40z, q176_41, q176_42, q176_43, q176_44, q176_46, q176_47, q176_50, q176_53, q176_54, q176_56, q176_57, q176_58, q176_61, q176_62, q176_65, q176_66, q176_69, q176_72, q176_73, q176_74, q176_75, q176_76, q176_77, q176_80, q176_83, q176_86, q176_87, q176_88, q176_91, q176_94, q176_97, q176_98, q176_101, q176_104, q176_105, q176_106, q176_107, q176_108, q176_109, q176_110, q176_111b, q176_111z, q176_112, q176_113, q176_117, q176_118, q176_121, q176_124, q176_125, q176_127, q176_128, q176_131, q176_134, q176_135, q176_138, q176_141, q176_142, q176_143, q176_144, q176_145, q176_146, q176_147, q176_149, q176_150, q176_151, q176_152, q176_153b, q176_153z, q176_154, q176_157, q176_160, q176_163, q176_166, q176_169, q176_172, q176_173, kl_int, kl_ref, kl_tok, cS_nil, cS_int, cS_ref, cS_long, tl_some, tl_none, List.cons_append, List.nil_append, nI_add, nI_ltb, nI_leb, nI_eqb, nI_cl, zin_nI]
    rw [if_pos (by omega), show k = 9216 by omega]
  | succ m ih =>
    intro k k2 k3 k4 M hk hM
    obtain ⟨M', g1, g2, g3⟩ := ih (k + 1) k2 k3 k4 (up2 M 143 k (nI 0)) (by omega) (fun j hj => by
      by_cases e : j = k
      · subst e; rw [up2_at]
      · rw [up2_s e]; exact hM j (by omega))
    refine ⟨M', ?_, g2, fun c h => by rw [g3 c h, up2_ne h]⟩
    rw [← g1]
    rw [q176_11]
    simp (disch := first | assumption | exact nar_b0 | exact nar_b1 | exact nar_b | exact Or.inl rfl | exact Or.inr rfl | exact zin_t (by omega) (by omega) | exact Nat.le_of_ble_eq_true rfl | (rw [nI_cl (by omega)]; assumption) | omega) only [q176_0, q176_1, q176_2, q176_5, q176_6, q176_9, q176_10, q176_12, q176_15, q176_18, q176_19, q176_22, q176_23, q176_24b, q176_24z, q176_25, q176_28, q176_32, q176_35, q176_36, q176_39, q176_40b, q176_40z, q176_41, q176_42, q176_43, q176_44, q176_46, q176_47, q176_50, q176_53, q176_54, q176_56, q176_57, q176_58, q176_61, q176_62, q176_65, q176_66, q176_69, q176_72, q176_73, q176_74, q176_75, q176_76, q176_77, q176_80, q176_83, q176_86, q176_87, q176_88, q176_91, q176_94, q176_97, q176_98, q176_101, q176_104, q176_105, q176_106, q176_107, q176_108, q176_109, q176_110, q176_111b, q176_111z, q176_112, q176_113, q176_117, q176_118, q176_121, q176_124, q176_125, q176_127, q176_128, q176_131, q176_134, q176_135, q176_138, q176_141, q176_142, q176_143, q176_144, q176_145, q176_146, q176_147, q176_149, q176_150, q176_151, q176_152, q176_153b, q176_153z, q176_154, q176_157, q176_160, q176_163, q176_166, q176_169, q176_172, q176_173, kl_int, kl_ref, kl_tok, cS_nil, cS_int, cS_ref, cS_long, tl_some, tl_none, List.cons_append, List.nil_append, nI_add, nI_ltb, nI_leb, nI_eqb, nI_cl, zin_nI, vpb0]
    rw [if_neg (by omega)]
theorem statR_1 {t S n0 : Nat} (h8 : ts.length ≤ 8) (hn0 : n0 ≤ 200000) (ht : t < ts.length) (hSt : S < 2 ^ Rw.length) (hS : Sh R) : ∀ (m i : Nat) (M : ZM), i + m = Rw.length → GmR M se sp bx Rw ts → ∃ M', exe (d + 4) 176 115 [.ref 127, .int (nI n0), .int (nI t), .int (nI S), .int (nI i)] [] M R = exe (d + 4) 176 55 [.ref 127, .int (nI n0), .int (nI t), .int (nI (S + 1)), .int (nI Rw.length)] [] M' R ∧ (∀ j, M' 143 j = if dcd (∃ k, i ≤ k ∧ canS bx se Rw.length S k ∧ j = 1024 * (t + 1) + (S ||| 2 ^ k)) = true then nI 1 else M 143 j) ∧ ∀ c, c ≠ 143 → M' c = M c := by
  obtain ⟨nN, k127, k128, l128, k129, l129, k130, l130, k131, l131, k132, l132, k133, l133, k134, l134, k135, l135, k136, l136, k137, l137, k138, l138, k139, l139, k140, l140, k141, l141, k142, l142, k143, l143, k144, l144, k145, l145, k146, l146, f127_1, f127_2, f127_3, f127_4, f127_6, f127_7, f127_17, f127_18, f127_19, f127_22, f127_24, f127_25, f127_26, f127_29, f127_30, f127_31, f127_32, f127_33⟩ := modF hS
  intro m
  induction m with
  | zero =>
    intro i M hi hG
    have hl := hG.2.2.2.1
    have hp := pow10 hl.1
    have h27 := hG.1.1
    refine ⟨M, ?_, fun j => ?_, fun _ _ => rfl⟩
    · rw [q176_115]
      simp (disch := first | assumption | exact nar_b0 | exact nar_b1 | exact nar_b | exact Or.inl rfl | exact Or.inr rfl | exact zin_t (by omega) (by omega) | exact Nat.le_of_ble_eq_true rfl | (rw [nI_cl (by omega)]; assumption) | omega) only [q176_0, q176_1, q176_2, q176_5, q176_6, q176_9, q176_10, q176_12, q176_15, q176_18, q176_19, q176_22, q176_23, q176_24b, q176_24z, q176_25, q176_28, q176_31, q176_32, q176_35, q176_36, q176_39, q176_40b, q176_40z, q176_41, q176_42, q176_43, q176_44, q176_46, q176_47, q176_50, q176_53, q176_54, q176_56, q176_57, q176_58, q176_61, q176_62, q176_65, q176_66, q176_69, q176_72, q176_73, q176_74, q176_75, q176_76, q176_77, q176_80, q176_83, q176_86, q176_87, q176_88, q176_91, q176_94, q176_97, q176_98, q176_101, q176_104, q176_105, q176_106, q176_107, q176_108, q176_109, q176_110, q176_111b, q176_111z, q176_112, q176_113, q176_117, q176_118, q176_121, q176_124, q176_125, q176_127, q176_128, q176_131, q176_134, q176_135, q176_138, q176_141, q176_142, q176_143, q176_144, q176_145, q176_146, q176_147, q176_149, q176_150, q176_151, q176_152, q176_153b, q176_153z, q176_154, q176_157, q176_160, q176_163, q176_166, q176_169, q176_172, q176_173, kl_int, kl_ref, kl_tok, cS_nil, cS_int, cS_ref, cS_long, tl_some, tl_none, List.cons_append, List.nil_append, nI_add, nI_ltb, nI_leb, nI_eqb, nI_cl, zin_nI, h27]
      rw [if_pos (by omega), show i = Rw.length by omega]
    · rw [if_neg (by
        rw [dcd_iff]
        rintro ⟨k, h1, h2, _⟩
        have := h2.1
        omega)]
  | succ m ih =>
    intro i M hi hG
    have hl := hG.2.2.2.1
    have hp := pow10 hl.1
    have h2 := hG.1
    have hor := or_lt hSt (show i < Rw.length by omega)
    have hcs := canStrike_ (d := d) (M := M) (R := R) (S := S) (p := i) (se := se) (bx := bx) (by omega) (by omega) hS h2.2.2.1 h2.2.2.2.2 (by omega) (by omega)
    by_cases hc : cnS bx se S i = true
    · rw [hc] at hcs
      have hcn := (canS_iff (show i < Rw.length by omega)).mp hc
      obtain ⟨M', g1, g2, g3⟩ := ih (i + 1) (up2 M 143 (1024 * (t + 1) + (S ||| 2 ^ i)) (nI 1)) (by omega) (hG.frame (up2_c (by decide)) (up2_c (by decide)) (up2_ne (by decide)) (up2_ne (by decide)) (up2_ne (by decide)))
      refine ⟨M', ?_, fun j => ?_, fun c h => by rw [g3 c h, up2_ne h]⟩
      · rw [← g1]
        rw [q176_115]
        simp (disch := first | assumption | exact nar_b0 | exact nar_b1 | exact nar_b | exact Or.inl rfl | exact Or.inr rfl | exact zin_t (by omega) (by omega) | exact Nat.le_of_ble_eq_true rfl | (rw [nI_cl (by omega)]; assumption) | omega) only [q176_0, q176_1, q176_2, q176_5, q176_6, q176_9, q176_10, q176_12, q176_15, q176_18, q176_19, q176_22, q176_23, q176_24b, q176_24z, q176_25, q176_28, q176_31, q176_32, q176_35, q176_36, q176_39, q176_40b, q176_40z, q176_41, q176_42, q176_43, q176_44, q176_46, q176_47, q176_50, q176_53, q176_54, q176_56, q176_57, q176_58, q176_61, q176_62, q176_65, q176_66, q176_69, q176_72, q176_73, q176_74, q176_75, q176_76, q176_77, q176_80, q176_83, q176_86, q176_87, q176_88, q176_91, q176_94, q176_97, q176_98, q176_101, q176_104, q176_105, q176_106, q176_107, q176_108, q176_109, q176_110, q176_111b, q176_111z, q176_112, q176_113, q176_117, q176_118, q176_121, q176_124, q176_125, q176_127, q176_128, q176_131, q176_134, q176_135, q176_138, q176_141, q176_142, q176_143, q176_144, q176_145, q176_146, q176_147, q176_149, q176_150, q176_151, q176_152, q176_153b, q176_153z, q176_154, q176_157, q176_160, q176_163, q176_166, q176_169, q176_172, q176_173, kl_int, kl_ref, kl_tok, cS_nil, cS_int, cS_ref, cS_long, tl_some, tl_none, List.cons_append, List.nil_append, nI_add, nI_ltb, nI_leb, nI_eqb, nI_cl, zin_nI, h2.1, hcs, zk0_inl, b2i_0, nI_shl, Nat.one_mul, nI_or, nI_mul, vpb1]
        rw [if_neg (by omega)]
        simp
      · rw [g2 j]
        by_cases e : dcd (∃ k, i + 1 ≤ k ∧ canS bx se Rw.length S k ∧ j = 1024 * (t + 1) + (S ||| 2 ^ k)) = true
        · rw [if_pos e, if_pos]
          obtain ⟨k, q1, q2⟩ := dcd_iff.mp e
          exact dcd_t ⟨k, by omega, q2⟩
        · rw [if_neg e]
          by_cases e2 : j = 1024 * (t + 1) + (S ||| 2 ^ i)
          · subst e2
            rw [up2_at, if_pos (dcd_t ⟨i, Nat.le_refl _, hcn, rfl⟩)]
          · rw [up2_s e2, if_neg]
            rw [dcd_iff]
            rintro ⟨k, q1, q2, q3⟩
            by_cases e3 : k = i
            · subst e3; exact e2 q3
            · exact e (dcd_t ⟨k, by omega, q2, q3⟩)
    · have hc2 : cnS bx se S i = false := by simpa using hc
      rw [hc2] at hcs
      have hcn : ¬ canS bx se Rw.length S i := fun h => hc ((canS_iff (show i < Rw.length by omega)).mpr h)
      obtain ⟨M', g1, g2, g3⟩ := ih (i + 1) M (by omega) hG
      refine ⟨M', ?_, fun j => ?_, g3⟩
      · rw [← g1]
        rw [q176_115]
        simp (disch := first | assumption | exact nar_b0 | exact nar_b1 | exact nar_b | exact Or.inl rfl | exact Or.inr rfl | exact zin_t (by omega) (by omega) | exact Nat.le_of_ble_eq_true rfl | (rw [nI_cl (by omega)]; assumption) | omega) only [q176_0, q176_1, q176_2, q176_5, q176_6, q176_9, q176_10, q176_12, q176_15, q176_18, q176_19, q176_22, q176_23, q176_24b, q176_24z, q176_25, q176_28, q176_31, q176_32, q176_35, q176_36, q176_39, q176_40b, q176_40z, q176_41, q176_42, q176_43, q176_44, q176_46, q176_47, q176_50, q176_53, q176_54, q176_56, q176_57, q176_58, q176_61, q176_62, q176_65, q176_66, q176_69, q176_72, q176_73, q176_74, q176_75, q176_76, q176_77, q176_80, q176_83, q176_86, q176_87, q176_88, q176_91, q176_94, q176_97, q176_98, q176_101, q176_104, q176_105, q176_106, q176_107, q176_108, q176_109, q176_110, q176_111b, q176_111z, q176_112, q176_113, q176_117, q176_118, q176_121, q176_124, q176_125, q176_127, q176_128, q176_131, q176_134, q176_135, q176_138, q176_141, q176_142, q176_143, q176_144, q176_145, q176_146, q176_147, q176_149, q176_150, q176_151, q176_152, q176_153b, q176_153z, q176_154, q176_157, q176_160, q176_163, q176_166, q176_169, q176_172, q176_173, kl_int, kl_ref, kl_tok, cS_nil, cS_int, cS_ref, cS_long, tl_some, tl_none, List.cons_append, List.nil_append, nI_add, nI_ltb, nI_leb, nI_eqb, nI_cl, zin_nI, h2.1, hcs, zk0_inl, b2i_0]
        rw [if_neg (by omega)]
        simp
      · rw [g2 j]
        congr 1
        rw [dcd_cong]
        constructor
        · rintro ⟨k, q1, q2⟩
          exact ⟨k, by omega, q2⟩
        · rintro ⟨k, q1, q2, q3⟩
          refine ⟨k, ?_, q2, q3⟩
          by_cases e3 : k = i
          · subst e3; exact absurd q2 hcn
          · omega
/-- who is met at turn t + 1, once the sets below S are gone through -/
noncomputable def mtN (bx se n : Nat) (r : Nat → Bool) (S S' : Nat) : Bool := dcd ((r S' = true ∧ S' < S) ∨ ∃ S0 j, S0 < S ∧ r S0 = true ∧ canS bx se n S0 j ∧ S' = S0 ||| 2 ^ j)
set_option maxHeartbeats 4000000 in
theorem statR_2 {t n0 : Nat} {r : Nat → Bool} (h8 : ts.length ≤ 8) (ht : t ≤ ts.length) (hn0 : n0 ≤ 100000) (hS : Sh R) : ∀ (m S : Nat) (k4 : Value) (M : ZM), S + m = 2 ^ Rw.length → GmR M se sp bx Rw ts → (∀ S', S' < 2 ^ Rw.length → M 143 (1024 * t + S') = b2i (r S')) → (t < ts.length → ∀ S', S' < 2 ^ Rw.length → M 143 (1024 * (t + 1) + S') = b2i (mtN bx se Rw.length r S S')) → (∀ j, 1024 * (t + 2) ≤ j → j < 9216 → M 143 j = nI 0) →
    ∃ M' k4', exe (d + 4) 176 55 [.ref 127, .int (nI (n0 + ctB r S)), .int (nI t), .int (nI S), k4] [] M R = exe (d + 4) 176 45 [.ref 127, .int (nI (n0 + ctB r (2 ^ Rw.length))), .int (nI (t + 1)), .int (nI (2 ^ Rw.length)), k4'] [] M' R ∧ (t < ts.length → ∀ S', S' < 2 ^ Rw.length → M' 143 (1024 * (t + 1) + S') = b2i (mtN bx se Rw.length r (2 ^ Rw.length) S')) ∧ (∀ j, 1024 * (t + 2) ≤ j → j < 9216 → M' 143 j = nI 0) ∧ ∀ c, c ≠ 143 → M' c = M c := by
  obtain ⟨nN, k127, k128, l128, k129, l129, k130, l130, k131, l131, k132, l132, k133, l133, k134, l134, k135, l135, k136, l136, k137, l137, k138, l138, k139, l139, k140, l140, k141, l141, k142, l142, k143, l143, k144, l144, k145, l145, k146, l146, f127_1, f127_2, f127_3, f127_4, f127_6, f127_7, f127_17, f127_18, f127_19, f127_22, f127_24, f127_25, f127_26, f127_29, f127_30, f127_31, f127_32, f127_33⟩ := modF hS
  intro m
  induction m with
  | zero =>
    intro S k4 M hSm hG hr hn hz
    have hl := hG.2.2.2.1
    have hp := pow10 hl.1
    have h2 := hG.1
    have e : S = 2 ^ Rw.length := by omega
    subst e
    refine ⟨M, k4, ?_, hn, hz, fun _ _ => rfl⟩
    rw [q176_55]
    simp (disch := first | assumption | exact nar_b0 | exact nar_b1 | exact nar_b | exact Or.inl rfl | exact Or.inr rfl | exact zin_t (by omega) (by omega) | exact Nat.le_of_ble_eq_true rfl | (rw [nI_cl (by omega)]; assumption) | omega) only [q176_0, q176_1, q176_2, q176_5, q176_6, q176_9, q176_10, q176_12, q176_15, q176_18, q176_19, q176_22, q176_23, q176_24b, q176_24z, q176_25, q176_28, q176_31, q176_32, q176_35, q176_36, q176_39, q176_40b, q176_40z, q176_41, q176_42, q176_43, q176_44, q176_46, q176_47, q176_50, q176_53, q176_54, q176_56, q176_57, q176_58, q176_61, q176_62, q176_65, q176_66, q176_69, q176_72, q176_73, q176_74, q176_75, q176_76, q176_77, q176_80, q176_83, q176_86, q176_87, q176_88, q176_91, q176_94, q176_97, q176_98, q176_101, q176_104, q176_105, q176_106, q176_107, q176_108, q176_109, q176_110, q176_111b, q176_111z, q176_112, q176_113, q176_117, q176_118, q176_121, q176_124, q176_125, q176_127, q176_128, q176_131, q176_134, q176_135, q176_138, q176_141, q176_142, q176_143, q176_144, q176_145, q176_146, q176_147, q176_149, q176_150, q176_151, q176_152, q176_153b, q176_153z, q176_154, q176_157, q176_160, q176_163, q176_166, q176_169, q176_172, q176_173, kl_int, kl_ref, kl_tok, cS_nil, cS_int, cS_ref, cS_long, tl_some, tl_none, List.cons_append, List.nil_append, nI_add, nI_ltb, nI_leb, nI_eqb, nI_cl, zin_nI, h2.1, nI_shl, Nat.one_mul]
    rw [if_pos (Nat.le_refl _)]
  | succ m ih =>
    intro S k4 M hSm hG hr hn hz
    have hl := hG.2.2.2.1
    have hp := pow10 hl.1
    have h2 := hG.1
    have hlt : S < 2 ^ Rw.length := by omega
    have hrS := hr S hlt
    have hct : ctB r (S + 1) = ctB r S + if r S then 1 else 0 := rfl
    have hcl : ∀ n, ctB r n ≤ n := fun n => by
      induction n with
      | zero => exact Nat.le_refl _
      | succ n ih => unfold ctB; split <;> omega
    have hcS := hcl S
    cases hb : r S
    · rw [hb] at hct hrS
      have hct2 : ctB r (S + 1) = ctB r S := by simpa using hct
      have hmt : ∀ S', mtN bx se Rw.length r (S + 1) S' = mtN bx se Rw.length r S S' := by
        intro S'
        unfold mtN
        apply dcd_cong
        constructor
        · rintro (⟨q1, q2⟩ | ⟨S0, j, q1, q2, q3⟩)
          · left
            refine ⟨q1, ?_⟩
            by_cases e : S' = S
            · subst e; rw [hb] at q1; cases q1
            · omega
          · right
            refine ⟨S0, j, ?_, q2, q3⟩
            by_cases e : S0 = S
            · subst e; rw [hb] at q2; cases q2
            · omega
        · rintro (⟨q1, q2⟩ | ⟨S0, j, q1, q2, q3⟩)
          · exact Or.inl ⟨q1, by omega⟩
          · exact Or.inr ⟨S0, j, by omega, q2, q3⟩
      obtain ⟨M', k4', g1, g2, g3, g4⟩ := ih (S + 1) k4 M (by omega) hG hr (fun h S' h' => by rw [hmt]; exact hn h S' h') hz
      refine ⟨M', k4', ?_, g2, g3, g4⟩
      rw [← g1, hct2]
      rw [q176_55]
      simp (disch := first | assumption | exact nar_b0 | exact nar_b1 | exact nar_b | exact Or.inl rfl | exact Or.inr rfl | exact zin_t (by omega) (by omega) | exact Nat.le_of_ble_eq_true rfl | (rw [nI_cl (by omega)]; assumption) | omega) only [q176_0, q176_1, q176_2, q176_5, q176_6, q176_9, q176_10, q176_12, q176_15, q176_18, q176_19, q176_22, q176_23, q176_24b, q176_24z, q176_25, q176_28, q176_31, q176_32, q176_35, q176_36, q176_39, q176_40b, q176_40z, q176_41, q176_42, q176_43, q176_44, q176_46, q176_47, q176_50, q176_53, q176_54, q176_56, q176_57, q176_58, q176_61, q176_62, q176_65, q176_66, q176_69, q176_72, q176_73, q176_74, q176_75, q176_76, q176_77, q176_80, q176_83, q176_86, q176_87, q176_88, q176_91, q176_94, q176_97, q176_98, q176_101, q176_104, q176_105, q176_106, q176_107, q176_108, q176_109, q176_110, q176_111b, q176_111z, q176_112, q176_113, q176_117, q176_118, q176_121, q176_124, q176_125, q176_127, q176_128, q176_131, q176_134, q176_135, q176_138, q176_141, q176_142, q176_143, q176_144, q176_145, q176_146, q176_147, q176_149, q176_150, q176_151, q176_152, q176_153b, q176_153z, q176_154, q176_157, q176_160, q176_163, q176_166, q176_169, q176_172, q176_173, kl_int, kl_ref, kl_tok, cS_nil, cS_int, cS_ref, cS_long, tl_some, tl_none, List.cons_append, List.nil_append, nI_add, nI_ltb, nI_leb, nI_eqb, nI_cl, zin_nI, h2.1, nI_shl, Nat.one_mul, nI_mul, hrS, b2i_0]
      rw [if_neg (by omega)]
      simp
    · rw [hb] at hct hrS
      have hct2 : ctB r (S + 1) = ctB r S + 1 := by simpa using hct
      by_cases e : t = ts.length
      · obtain ⟨M', k4', g1, g2, g3, g4⟩ := ih (S + 1) k4 M (by omega) hG hr (fun h => absurd h (by omega)) hz
        refine ⟨M', k4', ?_, g2, g3, g4⟩
        rw [← g1, hct2]
        rw [q176_55]
        simp (disch := first | assumption | exact nar_b0 | exact nar_b1 | exact nar_b | exact Or.inl rfl | exact Or.inr rfl | exact zin_t (by omega) (by omega) | exact Nat.le_of_ble_eq_true rfl | (rw [nI_cl (by omega)]; assumption) | omega) only [q176_0, q176_1, q176_2, q176_5, q176_6, q176_9, q176_10, q176_12, q176_15, q176_18, q176_19, q176_22, q176_23, q176_24b, q176_24z, q176_25, q176_28, q176_31, q176_32, q176_35, q176_36, q176_39, q176_40b, q176_40z, q176_41, q176_42, q176_43, q176_44, q176_46, q176_47, q176_50, q176_53, q176_54, q176_56, q176_57, q176_58, q176_61, q176_62, q176_65, q176_66, q176_69, q176_72, q176_73, q176_74, q176_75, q176_76, q176_77, q176_80, q176_83, q176_86, q176_87, q176_88, q176_91, q176_94, q176_97, q176_98, q176_101, q176_104, q176_105, q176_106, q176_107, q176_108, q176_109, q176_110, q176_111b, q176_111z, q176_112, q176_113, q176_117, q176_118, q176_121, q176_124, q176_125, q176_127, q176_128, q176_131, q176_134, q176_135, q176_138, q176_141, q176_142, q176_143, q176_144, q176_145, q176_146, q176_147, q176_149, q176_150, q176_151, q176_152, q176_153b, q176_153z, q176_154, q176_157, q176_160, q176_163, q176_166, q176_169, q176_172, q176_173, kl_int, kl_ref, kl_tok, cS_nil, cS_int, cS_ref, cS_long, tl_some, tl_none, List.cons_append, List.nil_append, nI_add, nI_ltb, nI_leb, nI_eqb, nI_cl, zin_nI, h2.1, h2.2.1, nI_shl, Nat.one_mul, nI_mul, hrS, b2i_0]
        rw [if_neg (by omega)]
        simp [e, Nat.add_assoc]
      · have ht2 : t < ts.length := by omega
        generalize hM1 : up2 M 143 (1024 * (t + 1) + S) (nI 1) = M1
        have f1 : ∀ c, c ≠ 143 → M1 c = M c := fun c h => by rw [← hM1]; exact up2_ne h
        have hG1 : GmR M1 se sp bx Rw ts := hG.frame (by rw [f1 _ (by decide)]) (by rw [f1 _ (by decide)]) (f1 _ (by decide)) (f1 _ (by decide)) (f1 _ (by decide))
        obtain ⟨M2, c1, c2, c3⟩ := statR_1 (d := d) (t := t) (S := S) (n0 := n0 + ctB r S + 1) h8 (by omega) ht2 hlt hS Rw.length 0 M1 (by omega) hG1
        have hG2 : GmR M2 se sp bx Rw ts := hG1.frame (by rw [c3 _ (by decide)]) (by rw [c3 _ (by decide)]) (c3 _ (by decide)) (c3 _ (by decide)) (c3 _ (by decide))
        have z : ∀ j, ¬ (∃ S', S' < 2 ^ Rw.length ∧ j = 1024 * (t + 1) + S') → M2 143 j = M 143 j := by
          intro j hj
          rw [c2, if_neg, ← hM1, up2_s]
          · intro q; exact hj ⟨S, hlt, q⟩
          · rw [dcd_iff]
            rintro ⟨k, _, q2, q3⟩
            exact hj ⟨_, or_lt hlt q2.1, q3⟩
        obtain ⟨M', k4', g1, g2, g3, g4⟩ := ih (S + 1) (.int (nI Rw.length)) M2 (by omega) hG2
          (fun S' h' => by
            rw [z _ (by rintro ⟨T, q1, q2⟩; omega)]
            exact hr S' h')
          (fun _ S' h' => by
            rw [c2]
            by_cases e1 : dcd (∃ k, 0 ≤ k ∧ canS bx se Rw.length S k ∧ 1024 * (t + 1) + S' = 1024 * (t + 1) + (S ||| 2 ^ k)) = true
            · rw [if_pos e1]
              obtain ⟨k, _, q2, q3⟩ := dcd_iff.mp e1
              unfold mtN
              rw [dcd_t (Or.inr ⟨S, k, by omega, hb, q2, by omega⟩)]
              rfl
            · rw [if_neg e1, ← hM1]
              by_cases e2 : S' = S
              · subst e2
                rw [up2_at]
                unfold mtN
                rw [dcd_t (Or.inl ⟨hb, by omega⟩)]
                rfl
              · rw [up2_s (by omega), hn ht2 S' h']
                congr 1
                unfold mtN
                apply dcd_cong
                constructor
                · rintro (⟨q1, q2⟩ | ⟨S0, j, q1, q2, q3⟩)
                  · exact Or.inl ⟨q1, by omega⟩
                  · exact Or.inr ⟨S0, j, by omega, q2, q3⟩
                · rintro (⟨q1, q2⟩ | ⟨S0, j, q1, q2, q3, q4⟩)
                  · exact Or.inl ⟨q1, by omega⟩
                  · by_cases e3 : S0 = S
                    · subst e3
                      exact absurd (dcd_t ⟨j, Nat.zero_le _, q3, by rw [q4]⟩) e1
                    · exact Or.inr ⟨S0, j, by omega, q2, q3, q4⟩)
          (fun j h1 h2 => by
            rw [z _ (by rintro ⟨T, q1, q2⟩; omega)]
            exact hz j h1 h2)
        refine ⟨M', k4', ?_, g2, g3, fun c h => by rw [g4 c h, c3 c h, f1 c h]⟩
        rw [← g1, hct2, ← Nat.add_assoc, ← c1]
        rw [q176_55]
        simp (disch := first | assumption | exact nar_b0 | exact nar_b1 | exact nar_b | exact Or.inl rfl | exact Or.inr rfl | exact zin_t (by omega) (by omega) | exact Nat.le_of_ble_eq_true rfl | (rw [nI_cl (by omega)]; assumption) | omega) only [q176_0, q176_1, q176_2, q176_5, q176_6, q176_9, q176_10, q176_12, q176_15, q176_18, q176_19, q176_22, q176_23, q176_24b, q176_24z, q176_25, q176_28, q176_31, q176_32, q176_35, q176_36, q176_39, q176_40b, q176_40z, q176_41, q176_42, q176_43, q176_44, q176_46, q176_47, q176_50, q176_53, q176_54, q176_56, q176_57, q176_58, q176_61, q176_62, q176_65, q176_66, q176_69, q176_72, q176_73, q176_74, q176_75, q176_76, q176_77, q176_80, q176_83, q176_86, q176_87, q176_88, q176_91, q176_94, q176_97, q176_98, q176_101, q176_104, q176_105, q176_106, q176_107, q176_108, q176_109, q176_110, q176_111b, q176_111z, q176_112, q176_113, q176_117, q176_118, q176_121, q176_124, q176_125, q176_127, q176_128, q176_131, q176_134, q176_135, q176_138, q176_141, q176_142, q176_143, q176_144, q176_145, q176_146, q176_147, q176_149, q176_150, q176_151, q176_152, q176_153b, q176_153z, q176_154, q176_157, q176_160, q176_163, q176_166, q176_169, q176_172, q176_173, kl_int, kl_ref, kl_tok, cS_nil, cS_int, cS_ref, cS_long, tl_some, tl_none, List.cons_append, List.nil_append, nI_add, nI_ltb, nI_leb, nI_eqb, nI_cl, zin_nI, h2.1, h2.2.1, nI_shl, Nat.one_mul, nI_mul, hrS, b2i_0, vpb1, hM1]
        rw [if_neg (by omega)]
        simp [e]
theorem ctB_le (r : Nat → Bool) : ∀ n, ctB r n ≤ n := fun n => by
  induction n with
  | zero => exact Nat.le_refl _
  | succ n ih => unfold ctB; split <;> omega
theorem totR_le {bx se n S0 : Nat} (hn : n ≤ 10) : ∀ t, totR bx se n S0 t ≤ 1024 * t
  | 0 => Nat.le_refl _
  | t + 1 => by
    have h1 := totR_le (bx := bx) (se := se) (S0 := S0) hn t
    have h2 := ctB_le (RnR bx se n S0 t) (2 ^ n)
    have h3 := pow10 hn
    show totR bx se n S0 t + ctB (RnR bx se n S0 t) (2 ^ n) ≤ _
    omega
theorem mtN_zero {bx se n : Nat} {r : Nat → Bool} {S' : Nat} : mtN bx se n r 0 S' = false := dcd_f (by
  rintro (⟨_, q⟩ | ⟨_, _, q, _⟩) <;> omega)
theorem mtN_full {bx se n : Nat} {r : Nat → Bool} {S' : Nat} (h : S' < 2 ^ n) : mtN bx se n r (2 ^ n) S' = nxtR bx se n r S' := by
  unfold mtN nxtR
  apply dcd_cong
  constructor
  · rintro (⟨q1, q2⟩ | ⟨S0, j, q⟩)
    · exact Or.inl q1
    · exact Or.inr ⟨S0, j, q⟩
  · rintro (q1 | ⟨S0, j, q⟩)
    · exact Or.inl ⟨q1, h⟩
    · exact Or.inr ⟨S0, j, q⟩
theorem statR_3 {S0 : Nat} (hS : Sh R) : ∀ (m t : Nat) (k3 k4 : Value) (M : ZM), t + m = ts.length + 1 → GmR M se sp bx Rw ts → (t ≤ ts.length → ∀ S', S' < 2 ^ Rw.length → M 143 (1024 * t + S') = b2i (RnR bx se Rw.length S0 t S')) → (∀ j, 1024 * (t + 1) ≤ j → j < 9216 → M 143 j = nI 0) → ts.length ≤ 8 →
    ∃ M', exe (d + 4) 176 45 [.ref 127, .int (nI (totR bx se Rw.length S0 t)), .int (nI t), k3, k4] [] M R = some (.inl (some (.int (nI (totR bx se Rw.length S0 (ts.length + 1))))), M', R) ∧ ∀ c, c ≠ 143 → M' c = M c := by
  obtain ⟨nN, k127, k128, l128, k129, l129, k130, l130, k131, l131, k132, l132, k133, l133, k134, l134, k135, l135, k136, l136, k137, l137, k138, l138, k139, l139, k140, l140, k141, l141, k142, l142, k143, l143, k144, l144, k145, l145, k146, l146, f127_1, f127_2, f127_3, f127_4, f127_6, f127_7, f127_17, f127_18, f127_19, f127_22, f127_24, f127_25, f127_26, f127_29, f127_30, f127_31, f127_32, f127_33⟩ := modF hS
  intro m
  induction m with
  | zero =>
    intro t k3 k4 M ht hG hr hz h8
    have h2 := hG.1
    have hl := hG.2.2.2.1
    refine ⟨M, ?_, fun _ _ => rfl⟩
    rw [q176_45]
    simp (disch := first | assumption | exact nar_b0 | exact nar_b1 | exact nar_b | exact Or.inl rfl | exact Or.inr rfl | exact zin_t (by omega) (by omega) | exact Nat.le_of_ble_eq_true rfl | (rw [nI_cl (by omega)]; assumption) | omega) only [q176_0, q176_1, q176_2, q176_5, q176_6, q176_9, q176_10, q176_12, q176_15, q176_18, q176_19, q176_22, q176_23, q176_24b, q176_24z, q176_25, q176_28, q176_31, q176_32, q176_35, q176_36, q176_39, q176_40b, q176_40z, q176_41, q176_42, q176_43, q176_44, q176_46, q176_47, q176_50, q176_53, q176_54, q176_56, q176_57, q176_58, q176_61, q176_62, q176_65, q176_66, q176_69, q176_72, q176_73, q176_74, q176_75, q176_76, q176_77, q176_80, q176_83, q176_86, q176_87, q176_88, q176_91, q176_94, q176_97, q176_98, q176_101, q176_104, q176_105, q176_106, q176_107, q176_108, q176_109, q176_110, q176_111b, q176_111z, q176_112, q176_113, q176_117, q176_118, q176_121, q176_124, q176_125, q176_127, q176_128, q176_131, q176_134, q176_135, q176_138, q176_141, q176_142, q176_143, q176_144, q176_145, q176_146, q176_147, q176_149, q176_150, q176_151, q176_152, q176_153b, q176_153z, q176_154, q176_157, q176_160, q176_163, q176_166, q176_169, q176_172, q176_173, kl_int, kl_ref, kl_tok, cS_nil, cS_int, cS_ref, cS_long, tl_some, tl_none, List.cons_append, List.nil_append, nI_add, nI_ltb, nI_leb, nI_eqb, nI_cl, zin_nI, h2.2.1]
    rw [if_pos (by omega), show t = ts.length + 1 by omega]
  | succ m ih =>
    intro t k3 k4 M ht hG hr hz h8
    have h2 := hG.1
    have hl := hG.2.2.2.1
    have hp := pow10 hl.1
    have htr := totR_le (bx := bx) (se := se) (S0 := S0) hl.1 t
    obtain ⟨M1, k4', a1, a2, a3, a4⟩ := statR_2 (d := d) (t := t) (n0 := totR bx se Rw.length S0 t) (r := RnR bx se Rw.length S0 t) h8 (by omega) (by omega) hS (2 ^ Rw.length) 0 k4 M (by omega) hG (hr (by omega)) (fun h S' h' => by rw [hz _ (by omega) (by omega), mtN_zero]; rfl) (fun j h1 h2 => hz j (by omega) h2)
    obtain ⟨M', k1, k2⟩ := ih (t + 1) (.int (nI (2 ^ Rw.length))) k4' M1 (by omega) (hG.frame (by rw [a4 _ (by decide)]) (by rw [a4 _ (by decide)]) (a4 _ (by decide)) (a4 _ (by decide)) (a4 _ (by decide))) (fun h S' h' => by
      rw [a2 (by omega) S' h', mtN_full h']
      rfl) (fun j h1 h2 => a3 j (by omega) h2) h8
    refine ⟨M', ?_, fun c h => by rw [k2 c h, a4 c h]⟩
    rw [← k1]
    show _ = exe (d + 4) 176 45 [.ref 127, .int (nI (totR bx se Rw.length S0 t + ctB (RnR bx se Rw.length S0 t) (2 ^ Rw.length))), .int (nI (t + 1)), .int (nI (2 ^ Rw.length)), k4'] [] M1 R
    rw [← a1]
    rw [q176_45]
    simp (disch := first | assumption | exact nar_b0 | exact nar_b1 | exact nar_b | exact Or.inl rfl | exact Or.inr rfl | exact zin_t (by omega) (by omega) | exact Nat.le_of_ble_eq_true rfl | (rw [nI_cl (by omega)]; assumption) | omega) only [q176_0, q176_1, q176_2, q176_5, q176_6, q176_9, q176_10, q176_12, q176_15, q176_18, q176_19, q176_22, q176_23, q176_24b, q176_24z, q176_25, q176_28, q176_31, q176_32, q176_35, q176_36, q176_39, q176_40b, q176_40z, q176_41, q176_42, q176_43, q176_44, q176_46, q176_47, q176_50, q176_53, q176_54, q176_56, q176_57, q176_58, q176_61, q176_62, q176_65, q176_66, q176_69, q176_72, q176_73, q176_74, q176_75, q176_76, q176_77, q176_80, q176_83, q176_86, q176_87, q176_88, q176_91, q176_94, q176_97, q176_98, q176_101, q176_104, q176_105, q176_106, q176_107, q176_108, q176_109, q176_110, q176_111b, q176_111z, q176_112, q176_113, q176_117, q176_118, q176_121, q176_124, q176_125, q176_127, q176_128, q176_131, q176_134, q176_135, q176_138, q176_141, q176_142, q176_143, q176_144, q176_145, q176_146, q176_147, q176_149, q176_150, q176_151, q176_152, q176_153b, q176_153z, q176_154, q176_157, q176_160, q176_163, q176_166, q176_169, q176_172, q176_173, kl_int, kl_ref, kl_tok, cS_nil, cS_int, cS_ref, cS_long, tl_some, tl_none, List.cons_append, List.nil_append, nI_add, nI_ltb, nI_leb, nI_eqb, nI_cl, zin_nI, h2.2.1]
    rw [if_neg (by omega)]
    rfl
end St
