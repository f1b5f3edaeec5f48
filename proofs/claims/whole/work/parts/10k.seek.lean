-- strikes at once: the search
theorem mx_b {v : Nat → Int} {g : Nat} {l : List Nat} {m : Int} (hm : -100000 ≤ m ∧ m ≤ 100000) (hv : ∀ s ∈ l, -100000 ≤ v (g ||| s) ∧ v (g ||| s) ≤ 100000) : -100000 ≤ mx v g l m ∧ mx v g l m ≤ 100000 := by
  rcases (mx_spec v g l m).2.2 with h | ⟨s, hs, h⟩
  · rw [h]; exact hm
  · rw [h]; exact hv s hs
theorem rs_iff {LA LB : List Nat} {v0 v1 : Nat → Int} {a b : Nat} (h0A : 0 ∈ LA) (h0B : 0 ∈ LB) (ha : a ∈ LA) (hb : b ∈ LB) : rsP LA LB v0 v1 a b = true ↔ v0 (a ||| b) = mx v0 b LA (v0 b) ∧ v1 (a ||| b) = mx v1 a LB (v1 a) := by
  unfold rsP
  rw [Bool.and_eq_true, decide_eq_true_iff, decide_eq_true_iff, ← mx_eq h0A ha, ← mx_eq h0B hb, Nat.or_comm b a]
def GA (M : ZM) (se sp bx : Nat) (Fl : List P3) (LA LB : List Nat) (v0 v1 : Nat → Int) : Prop :=
  FldRel M se sp bx Fl ∧ ArrL M 122 LA ∧ ArrL M 123 LB ∧ (∀ (k : Nat) (h : k < LB.length), M 124 k = iI (mx v0 LB[k] LA (v0 LB[k]))) ∧ (∀ (i : Nat) (h : i < LA.length), M 125 i = iI (mx v1 LA[i] LB (v1 LA[i]))) ∧ (∀ a ∈ LA, ∀ b ∈ LB, M 120 (a ||| b) = iI (v0 (a ||| b)) ∧ M 121 (a ||| b) = iI (v1 (a ||| b)))
theorem GA.frame {M M' : ZM} {se sp bx : Nat} {Fl : List P3} {LA LB : List Nat} {v0 v1 : Nat → Int} (h : GA M se sp bx Fl LA LB v0 v1) (hM : ∀ c, c ≠ 126 → M' c = M c) : GA M' se sp bx Fl LA LB v0 v1 := by
  obtain ⟨h1, h2, h3, h4, h5, h6⟩ := h
  refine ⟨h1.frame (hM _ (by decide)) (hM _ (by decide)) (hM _ (by decide)) (hM _ (by decide)), ?_, ?_, ?_, ?_, ?_⟩
  · intro j hj; rw [hM _ (by decide)]; exact h2 j hj
  · intro j hj; rw [hM _ (by decide)]; exact h3 j hj
  · intro j hj; rw [hM _ (by decide)]; exact h4 j hj
  · intro j hj; rw [hM _ (by decide)]; exact h5 j hj
  · intro a ha b hb; rw [hM _ (by decide), hM _ (by decide)]; exact h6 a ha b hb
theorem ans_nil {M : ZM} {nums : List Nat} {v0 v1 : Nat → Int} {a b : Nat} : AnsRel (up2 (up2 (up2 (up2 (up2 M 126 1 (nI (nmbI nums a 0))) 126 2 (nI (nmbI nums b 0))) 126 3 (iI (v0 (a ||| b)))) 126 4 (iI (v1 (a ||| b)))) 126 0 (nI 1)) nums v0 v1 ([] ++ [(a, b)]) := by
  refine ⟨?_, ?_, ?_, ?_, ?_⟩ <;> simp [up2]
theorem ans_cons {M : ZM} {nums : List Nat} {v0 v1 : Nat → Int} {a b : Nat} {q : Nat × Nat} {L : List (Nat × Nat)} (h : AnsRel M nums v0 v1 (q :: L)) : AnsRel (up2 M 126 0 (nI ((q :: L).length + 1))) nums v0 v1 ((q :: L) ++ [(a, b)]) := by
  obtain ⟨h1, h2, h3, h4, h5⟩ := h
  refine ⟨?_, ?_, ?_, ?_, ?_⟩
  · rw [up2_at, List.length_append]; rfl
  · rw [up2_s (by decide)]; exact h2
  · rw [up2_s (by decide)]; exact h3
  · rw [up2_s (by decide)]; exact h4
  · rw [up2_s (by decide)]; exact h5
section On
variable {d se sp bx : Nat} {M : ZM} {R : ZH} {Fl : List P3} {LA LB : List Nat} {v0 v1 : Nat → Int}
set_option maxHeartbeats 4000000 in
theorem gather_K {i a : Nat} {L0 : List (Nat × Nat)} (hS : Sh R) (hLA : LA.length ≤ 176) (hLB : LB.length ≤ 176) (hi : i < LA.length) (ha : LA[i] = a) (h0A : 0 ∈ LA) (h0B : 0 ∈ LB) (hL0 : L0.length ≤ 176 * i)
    (hbA : ∀ a ∈ LA, a < 1024) (hbB : ∀ b ∈ LB, b < 1024) (hb : ∀ a ∈ LA, ∀ b ∈ LB, a ||| b < 1024 ∧ (-100000 ≤ v0 (a ||| b) ∧ v0 (a ||| b) ≤ 100000) ∧ (-100000 ≤ v1 (a ||| b) ∧ v1 (a ||| b) ≤ 100000)) :
    ∀ (m k : Nat) (tk : Value) (M : ZM), k + m = LB.length → GA M se sp bx Fl LA LB v0 v1 → AnsRel M (Fl.map (fun p => p.1)) v0 v1 (L0 ++ ((LB.take k).filter (rsP LA LB v0 v1 a)).map (fun b => (a, b))) →
    ∃ M' tk', exe (d + 1) 4 28 [.ref 118, .ref 107, .int (nI LA.length), .int (nI LB.length), .int (nI i), .int (nI k), tk] [] M R = exe (d + 1) 4 19 [.ref 118, .ref 107, .int (nI LA.length), .int (nI LB.length), .int (nI (i + 1)), .int (nI LB.length), tk'] [] M' R ∧ AnsRel M' (Fl.map (fun p => p.1)) v0 v1 (L0 ++ (LB.filter (rsP LA LB v0 v1 a)).map (fun b => (a, b))) ∧ ∀ c, c ≠ 126 → M' c = M c := by
  obtain ⟨nN, k118, k119, l119, k120, l120, k121, l121, k122, l122, k123, l123, k124, l124, k125, l125, k126, l126, f118_0, f119_0, f119_1, f118_1, f118_2, f118_3, f118_4, f118_5⟩ := oncF hS
  have hk107 := K107 hS
  intro m
  induction m with
  | zero =>
    intro k tk M hk hG hA
    rw [List.take_of_length_le (by omega)] at hA
    refine ⟨M, tk, ?_, hA, fun _ _ => rfl⟩
    rw [q4_28]
    simp (disch := first | assumption | exact nar_b0 | exact nar_b1 | exact nar_b | exact Or.inl rfl | exact Or.inr rfl | exact zin_t (by omega) (by omega) | exact Nat.le_of_ble_eq_true rfl | (rw [nI_cl (by omega)]; assumption) | omega) only [q4_0, q4_1, q4_4, q4_6, q4_9, q4_10, q4_13, q4_14, q4_15, q4_16, q4_17, q4_21, q4_22, q4_25, q4_26, q4_30, q4_31, q4_34, q4_35, q4_38, q4_40, q4_41, q4_42, q4_45, q4_47, q4_48, q4_49, q4_51, q4_52, q4_55, q4_56, q4_57, q4_59, q4_60, q4_61, q4_64, q4_66, q4_67, q4_70, q4_71, q4_74, q4_75, q4_76, q4_78, q4_79, q4_80, q4_83, q4_85, q4_86, q4_89, q4_90, q4_93, q4_94, q4_95, q4_98, q4_99, q4_102, q4_103, q4_104, q4_105, q4_108, q4_110, q4_111, q4_114, q4_115, q4_116, q4_119, q4_120, q4_121, q4_122, q4_125, q4_127, q4_128, q4_131, q4_132, q4_133, q4_136, q4_137, q4_138, q4_141, q4_142, q4_143, q4_145, q4_146, q4_147, q4_148, q4_151, q4_152, q4_153, q4_156, q4_157, q4_158, q4_160, q4_161, q4_162, q4_163, q4_166, q4_167, q4_168, q4_169, q4_170, q4_171, q4_172, q4_175, q4_178, q4_181, q4_184, kl_int, kl_ref, kl_tok, cS_nil, cS_int, cS_ref, cS_long, tl_some, tl_none, List.cons_append, List.nil_append, nI_add, nI_ltb, nI_leb, nI_eqb, nI_cl, zin_nI]
    rw [if_pos (by omega), show k = LB.length by omega]
  | succ m ih =>
    intro k tk M hk hG hA
    obtain ⟨b, hbk⟩ : ∃ b, LB[k] = b := ⟨_, rfl⟩
    have ham : a ∈ LA := ha ▸ List.getElem_mem hi
    have hbm : b ∈ LB := hbk ▸ List.getElem_mem (show k < LB.length by omega)
    have hai : M 122 i = nI a := by rw [hG.2.1 i hi, ha]
    have hbi : M 123 k = nI b := by rw [hG.2.2.1 k (by omega), hbk]
    have hmf : M 124 k = iI (mx v0 b LA (v0 b)) := by rw [hG.2.2.2.1 k (by omega), hbk]
    have hms : M 125 i = iI (mx v1 a LB (v1 a)) := by rw [hG.2.2.2.2.1 i hi, ha]
    obtain ⟨he0, he1⟩ := hG.2.2.2.2.2 a ham b hbm
    obtain ⟨hab, hv0, hv1⟩ := hb a ham b hbm
    have hab0 := hbA a ham
    have hbb0 := hbB b hbm
    have q0 := mx_b (v := v0) (g := b) (l := LA) (m := v0 b) (by have := (hb 0 h0A b hbm).2.1; rwa [Nat.zero_or] at this) (fun s hs => by have := (hb s hs b hbm).2.1; rwa [Nat.or_comm] at this)
    have q1 := mx_b (v := v1) (g := a) (l := LB) (m := v1 a) (by have := (hb a ham 0 h0B).2.2; rwa [Nat.or_zero] at this) (fun s hs => (hb a ham s hs).2.2)
    have hrs := rs_iff (v0 := v0) (v1 := v1) h0A h0B ham hbm
    have htk : LB.take (k + 1) = LB.take k ++ [b] := by rw [List.take_succ_eq_append_getElem (by omega), hbk]
    generalize hL : L0 ++ ((LB.take k).filter (rsP LA LB v0 v1 a)).map (fun b => (a, b)) = L at hA
    have hLl : L.length < 100000 := by
      rw [← hL, List.length_append, List.length_map]
      have h1 : ((LB.take k).filter (rsP LA LB v0 v1 a)).length ≤ LB.length := Nat.le_trans (List.length_filter_le _ _) (List.length_take_le' _ _)
      omega
    have hcnt := hA.1
    by_cases hr : rsP LA LB v0 v1 a b = true
    · obtain ⟨r1, r2⟩ := hrs.mp hr
      have hL2 : L0 ++ ((LB.take (k + 1)).filter (rsP LA LB v0 v1 a)).map (fun b => (a, b)) = L ++ [(a, b)] := by
        rw [htk, List.filter_append, List.map_append, ← List.append_assoc, hL]
        simp [hr]
      rw [r1] at he0
      rw [r2] at he1
      cases L with
      | nil =>
        have hc1 := numbersOf_ (d := d) (S := a) hab0 hS hG.1
        generalize hM1 : up2 M 126 1 (nI (nmbI (Fl.map (fun p => p.1)) a 0)) = M1
        have f1 : ∀ c, c ≠ 126 → M1 c = M c := fun c h => by rw [← hM1]; exact up2_ne h
        have hc2 := numbersOf_ (d := d) (S := b) hbb0 hS (hG.frame f1).1
        obtain ⟨M', tk', g1, g2, g3⟩ := ih (k + 1) (.int (nI (a ||| b))) (up2 (up2 (up2 (up2 M1 126 2 (nI (nmbI (Fl.map (fun p => p.1)) b 0))) 126 3 (iI (v0 (a ||| b)))) 126 4 (iI (v1 (a ||| b)))) 126 0 (nI 1)) (by omega) (hG.frame (fun c h => by rw [up2_ne h, up2_ne h, up2_ne h, up2_ne h]; exact f1 c h)) (by rw [hL2, ← hM1]; exact ans_nil)
        refine ⟨M', tk', ?_, g2, fun c h => by rw [g3 c h, up2_ne h, up2_ne h, up2_ne h, up2_ne h]; exact f1 c h⟩
        rw [← g1]
        have z0 : M 126 0 = nI 0 := hcnt
        have z1 : M1 126 0 = nI 0 := by rw [← hM1, up2_s (by decide)]; exact z0
        have b1 : M1 123 k = nI b := by rw [f1 _ (by decide)]; exact hbi
        have b2 : M1 120 (a ||| b) = iI (mx v0 b LA (v0 b)) := by rw [f1 _ (by decide)]; exact he0
        have b3 : M1 121 (a ||| b) = iI (mx v1 a LB (v1 a)) := by rw [f1 _ (by decide)]; exact he1
        rw [q4_28]
        simp (disch := first | assumption | exact nar_b0 | exact nar_b1 | exact nar_b | exact Or.inl rfl | exact Or.inr rfl | exact zin_t (by omega) (by omega) | exact Nat.le_of_ble_eq_true rfl | (rw [nI_cl (by omega)]; assumption) | omega) only [q4_0, q4_1, q4_4, q4_6, q4_9, q4_10, q4_13, q4_14, q4_15, q4_16, q4_17, q4_21, q4_22, q4_25, q4_26, q4_30, q4_31, q4_34, q4_35, q4_38, q4_40, q4_41, q4_42, q4_45, q4_47, q4_48, q4_49, q4_51, q4_52, q4_55, q4_56, q4_57, q4_59, q4_60, q4_61, q4_64, q4_66, q4_67, q4_70, q4_71, q4_74, q4_75, q4_76, q4_78, q4_79, q4_80, q4_83, q4_85, q4_86, q4_89, q4_90, q4_93, q4_94, q4_95, q4_98, q4_99, q4_102, q4_103, q4_104, q4_105, q4_108, q4_110, q4_111, q4_114, q4_115, q4_116, q4_119, q4_120, q4_121, q4_122, q4_125, q4_127, q4_128, q4_131, q4_132, q4_133, q4_136, q4_137, q4_138, q4_141, q4_142, q4_143, q4_145, q4_146, q4_147, q4_148, q4_151, q4_152, q4_153, q4_156, q4_157, q4_158, q4_160, q4_161, q4_162, q4_163, q4_166, q4_167, q4_168, q4_169, q4_170, q4_171, q4_172, q4_175, q4_178, q4_181, q4_184, kl_int, kl_ref, kl_tok, cS_nil, cS_int, cS_ref, cS_long, tl_some, tl_none, List.cons_append, List.nil_append, nI_add, nI_ltb, nI_leb, nI_eqb, nI_cl, zin_nI, hai, hbi, nI_or, he0, he1, hmf, hms, z0, not_true_eq_false, if_false, hc1, hM1, hc2, zk0_inl, up2_c, up2_s, z1, b1, b2, b3, ne_eq, if_true]
        rw [if_neg (by omega), r1, r2]
      | cons q L =>
        obtain ⟨M', tk', g1, g2, g3⟩ := ih (k + 1) (.int (nI (a ||| b))) (up2 M 126 0 (nI ((q :: L).length + 1))) (by omega) (hG.frame (fun c h => up2_ne h)) (by rw [hL2]; exact ans_cons hA)
        refine ⟨M', tk', ?_, g2, fun c h => by rw [g3 c h, up2_ne h]⟩
        rw [← g1]
        have z2 : ¬ (q :: L).length = 0 := by simp
        rw [q4_28]
        simp (disch := first | assumption | exact nar_b0 | exact nar_b1 | exact nar_b | exact Or.inl rfl | exact Or.inr rfl | exact zin_t (by omega) (by omega) | exact Nat.le_of_ble_eq_true rfl | (rw [nI_cl (by omega)]; assumption) | omega) only [q4_0, q4_1, q4_4, q4_6, q4_9, q4_10, q4_13, q4_14, q4_15, q4_16, q4_17, q4_21, q4_22, q4_25, q4_26, q4_30, q4_31, q4_34, q4_35, q4_38, q4_40, q4_41, q4_42, q4_45, q4_47, q4_48, q4_49, q4_51, q4_52, q4_55, q4_56, q4_57, q4_59, q4_60, q4_61, q4_64, q4_66, q4_67, q4_70, q4_71, q4_74, q4_75, q4_76, q4_78, q4_79, q4_80, q4_83, q4_85, q4_86, q4_89, q4_90, q4_93, q4_94, q4_95, q4_98, q4_99, q4_102, q4_103, q4_104, q4_105, q4_108, q4_110, q4_111, q4_114, q4_115, q4_116, q4_119, q4_120, q4_121, q4_122, q4_125, q4_127, q4_128, q4_131, q4_132, q4_133, q4_136, q4_137, q4_138, q4_141, q4_142, q4_143, q4_145, q4_146, q4_147, q4_148, q4_151, q4_152, q4_153, q4_156, q4_157, q4_158, q4_160, q4_161, q4_162, q4_163, q4_166, q4_167, q4_168, q4_169, q4_170, q4_171, q4_172, q4_175, q4_178, q4_181, q4_184, kl_int, kl_ref, kl_tok, cS_nil, cS_int, cS_ref, cS_long, tl_some, tl_none, List.cons_append, List.nil_append, nI_add, nI_ltb, nI_leb, nI_eqb, nI_cl, zin_nI, hai, hbi, nI_or, he0, he1, hmf, hms, hcnt, not_true_eq_false, if_false, z2, not_false_eq_true, if_true]
        rw [if_neg (by omega)]
    · have hL2 : L0 ++ ((LB.take (k + 1)).filter (rsP LA LB v0 v1 a)).map (fun b => (a, b)) = L := by
        rw [htk, List.filter_append, List.map_append, ← List.append_assoc, hL]
        simp [hr]
      obtain ⟨M', tk', g1, g2, g3⟩ := ih (k + 1) (.int (nI (a ||| b))) M (by omega) hG (by rw [hL2]; exact hA)
      refine ⟨M', tk', ?_, g2, g3⟩
      rw [← g1]
      have e1 : (iI (v0 (a ||| b)) = iI (mx v0 b LA (v0 b))) = (v0 (a ||| b) = mx v0 b LA (v0 b)) := iI_eqb (by omega) (by omega) (by omega) (by omega)
      have e2 : (iI (v1 (a ||| b)) = iI (mx v1 a LB (v1 a))) = (v1 (a ||| b) = mx v1 a LB (v1 a)) := iI_eqb (by omega) (by omega) (by omega) (by omega)
      rw [q4_28]
      simp (disch := first | assumption | exact nar_b0 | exact nar_b1 | exact nar_b | exact Or.inl rfl | exact Or.inr rfl | exact zin_t (by omega) (by omega) | exact Nat.le_of_ble_eq_true rfl | (rw [nI_cl (by omega)]; assumption) | omega) only [q4_0, q4_1, q4_4, q4_6, q4_9, q4_10, q4_13, q4_14, q4_15, q4_16, q4_17, q4_21, q4_22, q4_25, q4_26, q4_30, q4_31, q4_34, q4_35, q4_38, q4_40, q4_41, q4_42, q4_45, q4_47, q4_48, q4_49, q4_51, q4_52, q4_55, q4_56, q4_57, q4_59, q4_60, q4_61, q4_64, q4_66, q4_67, q4_70, q4_71, q4_74, q4_75, q4_76, q4_78, q4_79, q4_80, q4_83, q4_85, q4_86, q4_90, q4_93, q4_94, q4_95, q4_98, q4_99, q4_102, q4_103, q4_104, q4_105, q4_108, q4_110, q4_111, q4_114, q4_115, q4_116, q4_119, q4_120, q4_121, q4_122, q4_125, q4_127, q4_128, q4_131, q4_132, q4_133, q4_136, q4_137, q4_138, q4_141, q4_142, q4_143, q4_145, q4_146, q4_147, q4_148, q4_151, q4_152, q4_153, q4_156, q4_157, q4_158, q4_160, q4_161, q4_162, q4_163, q4_166, q4_167, q4_168, q4_169, q4_170, q4_171, q4_172, q4_175, q4_178, q4_181, q4_184, kl_int, kl_ref, kl_tok, cS_nil, cS_int, cS_ref, cS_long, tl_some, tl_none, List.cons_append, List.nil_append, nI_add, nI_ltb, nI_leb, nI_eqb, nI_cl, zin_nI, hai, hbi, nI_or, he0, he1, hmf, hms, e1, e2]
      rw [if_neg (by omega)]
      by_cases c1 : v0 (a ||| b) = mx v0 b LA (v0 b)
      · rw [if_neg (fun h => h c1), if_pos (fun h => hr (hrs.mpr ⟨c1, h⟩))]
      · rw [if_pos c1]
theorem RS_take {i : Nat} (hi : i < LA.length) : RS LA LB v0 v1 (LA.take (i + 1)) = RS LA LB v0 v1 (LA.take i) ++ (LB.filter (rsP LA LB v0 v1 LA[i])).map (fun b => (LA[i], b)) := by
  unfold RS
  rw [List.take_succ_eq_append_getElem hi, List.flatMap_append]
  simp
theorem RS_len (hLB : LB.length ≤ 176) : ∀ i, i ≤ LA.length → (RS LA LB v0 v1 (LA.take i)).length ≤ 176 * i := by
  intro i
  induction i with
  | zero => intro _; simp [RS]
  | succ i ih =>
    intro hi
    have h1 := ih (by omega)
    rw [RS_take (by omega), List.length_append, List.length_map]
    have h2 := List.length_filter_le (rsP LA LB v0 v1 LA[i]) LB
    omega
theorem gather_I (hS : Sh R) (hLA : LA.length ≤ 176) (hLB : LB.length ≤ 176) (h0A : 0 ∈ LA) (h0B : 0 ∈ LB)
    (hbA : ∀ a ∈ LA, a < 1024) (hbB : ∀ b ∈ LB, b < 1024) (hb : ∀ a ∈ LA, ∀ b ∈ LB, a ||| b < 1024 ∧ (-100000 ≤ v0 (a ||| b) ∧ v0 (a ||| b) ≤ 100000) ∧ (-100000 ≤ v1 (a ||| b) ∧ v1 (a ||| b) ≤ 100000)) :
    ∀ (m i : Nat) (tk5 tk : Value) (M : ZM), i + m = LA.length → GA M se sp bx Fl LA LB v0 v1 → AnsRel M (Fl.map (fun p => p.1)) v0 v1 (RS LA LB v0 v1 (LA.take i)) →
    ∃ M', exe (d + 1) 4 19 [.ref 118, .ref 107, .int (nI LA.length), .int (nI LB.length), .int (nI i), tk5, tk] [] M R = some (.inl none, M', R) ∧ AnsRel M' (Fl.map (fun p => p.1)) v0 v1 (RS LA LB v0 v1 LA) ∧ ∀ c, c ≠ 126 → M' c = M c := by
  obtain ⟨nN, k118, k119, l119, k120, l120, k121, l121, k122, l122, k123, l123, k124, l124, k125, l125, k126, l126, f118_0, f119_0, f119_1, f118_1, f118_2, f118_3, f118_4, f118_5⟩ := oncF hS
  intro m
  induction m with
  | zero =>
    intro i tk5 tk M hi hG hA
    rw [List.take_of_length_le (by omega)] at hA
    refine ⟨M, ?_, hA, fun _ _ => rfl⟩
    rw [q4_19]
    simp (disch := first | assumption | exact nar_b0 | exact nar_b1 | exact nar_b | exact Or.inl rfl | exact Or.inr rfl | exact zin_t (by omega) (by omega) | exact Nat.le_of_ble_eq_true rfl | (rw [nI_cl (by omega)]; assumption) | omega) only [q4_0, q4_1, q4_4, q4_6, q4_9, q4_10, q4_13, q4_14, q4_15, q4_16, q4_17, q4_21, q4_22, q4_25, q4_26, q4_30, q4_31, q4_34, q4_35, q4_38, q4_40, q4_41, q4_42, q4_45, q4_47, q4_48, q4_49, q4_51, q4_52, q4_55, q4_56, q4_57, q4_59, q4_60, q4_61, q4_64, q4_66, q4_67, q4_70, q4_71, q4_74, q4_75, q4_76, q4_78, q4_79, q4_80, q4_83, q4_85, q4_86, q4_89, q4_90, q4_93, q4_94, q4_95, q4_98, q4_99, q4_102, q4_103, q4_104, q4_105, q4_108, q4_110, q4_111, q4_114, q4_115, q4_116, q4_119, q4_120, q4_121, q4_122, q4_125, q4_127, q4_128, q4_131, q4_132, q4_133, q4_136, q4_137, q4_138, q4_141, q4_142, q4_143, q4_145, q4_146, q4_147, q4_148, q4_151, q4_152, q4_153, q4_156, q4_157, q4_158, q4_160, q4_161, q4_162, q4_163, q4_166, q4_167, q4_168, q4_169, q4_170, q4_171, q4_172, q4_175, q4_178, q4_181, q4_184, kl_int, kl_ref, kl_tok, cS_nil, cS_int, cS_ref, cS_long, tl_some, tl_none, List.cons_append, List.nil_append, nI_add, nI_ltb, nI_leb, nI_eqb, nI_cl, zin_nI]
    rw [if_pos (by omega)]
  | succ m ih =>
    intro i tk5 tk M hi hG hA
    obtain ⟨M1, tk', g1, g2, g3⟩ := gather_K (d := d) (i := i) (L0 := RS LA LB v0 v1 (LA.take i)) hS hLA hLB (by omega) rfl h0A h0B (RS_len hLB i (by omega)) hbA hbB hb LB.length 0 tk M (by omega) hG (by simpa using hA)
    obtain ⟨M', k1, k2, k3⟩ := ih (i + 1) (.int (nI LB.length)) tk' M1 (by omega) (hG.frame g3) (by rw [RS_take (by omega)]; exact g2)
    refine ⟨M', ?_, k2, fun c h => by rw [k3 c h, g3 c h]⟩
    rw [← k1, ← g1]
    rw [q4_19]
    simp (disch := first | assumption | exact nar_b0 | exact nar_b1 | exact nar_b | exact Or.inl rfl | exact Or.inr rfl | exact zin_t (by omega) (by omega) | exact Nat.le_of_ble_eq_true rfl | (rw [nI_cl (by omega)]; assumption) | omega) only [q4_0, q4_1, q4_4, q4_6, q4_9, q4_10, q4_13, q4_14, q4_15, q4_16, q4_17, q4_21, q4_22, q4_25, q4_26, q4_30, q4_31, q4_34, q4_35, q4_38, q4_40, q4_41, q4_42, q4_45, q4_47, q4_48, q4_49, q4_51, q4_52, q4_55, q4_56, q4_57, q4_59, q4_60, q4_61, q4_64, q4_66, q4_67, q4_70, q4_71, q4_74, q4_75, q4_76, q4_78, q4_79, q4_80, q4_83, q4_85, q4_86, q4_89, q4_90, q4_93, q4_94, q4_95, q4_98, q4_99, q4_102, q4_103, q4_104, q4_105, q4_108, q4_110, q4_111, q4_114, q4_115, q4_116, q4_119, q4_120, q4_121, q4_122, q4_125, q4_127, q4_128, q4_131, q4_132, q4_133, q4_136, q4_137, q4_138, q4_141, q4_142, q4_143, q4_145, q4_146, q4_147, q4_148, q4_151, q4_152, q4_153, q4_156, q4_157, q4_158, q4_160, q4_161, q4_162, q4_163, q4_166, q4_167, q4_168, q4_169, q4_170, q4_171, q4_172, q4_175, q4_178, q4_181, q4_184, kl_int, kl_ref, kl_tok, cS_nil, cS_int, cS_ref, cS_long, tl_some, tl_none, List.cons_append, List.nil_append, nI_add, nI_ltb, nI_leb, nI_eqb, nI_cl, zin_nI]
    rw [if_neg (by omega)]
theorem gatherRests_ (hS : Sh R) (hLA : LA.length ≤ 176) (hLB : LB.length ≤ 176) (h0A : 0 ∈ LA) (h0B : 0 ∈ LB)
    (hbA : ∀ a ∈ LA, a < 1024) (hbB : ∀ b ∈ LB, b < 1024) (hb : ∀ a ∈ LA, ∀ b ∈ LB, a ||| b < 1024 ∧ (-100000 ≤ v0 (a ||| b) ∧ v0 (a ||| b) ≤ 100000) ∧ (-100000 ≤ v1 (a ||| b) ∧ v1 (a ||| b) ≤ 100000)) (hG : GA M se sp bx Fl LA LB v0 v1) :
    ∃ M', cal (d + 1) 4 [.ref 118, .ref 107, .int (nI LA.length), .int (nI LB.length)] M R = some (.inl none, M', R) ∧ AnsRel M' (Fl.map (fun p => p.1)) v0 v1 (RS LA LB v0 v1 LA) ∧ ∀ c, c ≠ 126 → M' c = M c := by
  obtain ⟨nN, k118, k119, l119, k120, l120, k121, l121, k122, l122, k123, l123, k124, l124, k125, l125, k126, l126, f118_0, f119_0, f119_1, f118_1, f118_2, f118_3, f118_4, f118_5⟩ := oncF hS
  have hf := fill_ (d := d) (a := 126) (n := 5) (x := nob) (M := M) (R := R) k126 l126 (by decide) (by omega)
  generalize hM1 : up2 (filM M 126 5 nob) 126 0 (nI 0) = M1
  have f1 : ∀ c, c ≠ 126 → M1 c = M c := fun c h => by
    rw [← hM1, up2_ne h]
    funext j
    unfold filM
    rw [if_neg (fun q => h q.1)]
  obtain ⟨M', g1, g2, g3⟩ := gather_I (d := d) hS hLA hLB h0A h0B hbA hbB hb LA.length 0 tok tok M1 (by omega) (hG.frame f1) (by
    rw [← hM1]
    simp only [List.take_zero, RS, List.flatMap_nil, AnsRel]
    simp [up2, filM])
  refine ⟨M', ?_, g2, fun c h => by rw [g3 c h, f1 c h]⟩
  have hnb : (-100000 : Int32) = nob := rfl
  rw [← g1, e4]
  simp (disch := first | assumption | exact nar_b0 | exact nar_b1 | exact nar_b | exact Or.inl rfl | exact Or.inr rfl | exact zin_t (by omega) (by omega) | exact Nat.le_of_ble_eq_true rfl | (rw [nI_cl (by omega)]; assumption) | omega) only [q4_0, q4_1, q4_4, q4_6, q4_9, q4_10, q4_13, q4_14, q4_15, q4_16, q4_17, q4_21, q4_22, q4_25, q4_26, q4_30, q4_31, q4_34, q4_35, q4_38, q4_40, q4_41, q4_42, q4_45, q4_47, q4_48, q4_49, q4_51, q4_52, q4_55, q4_56, q4_57, q4_59, q4_60, q4_61, q4_64, q4_66, q4_67, q4_70, q4_71, q4_74, q4_75, q4_76, q4_78, q4_79, q4_80, q4_83, q4_85, q4_86, q4_89, q4_90, q4_93, q4_94, q4_95, q4_98, q4_99, q4_102, q4_103, q4_104, q4_105, q4_108, q4_110, q4_111, q4_114, q4_115, q4_116, q4_119, q4_120, q4_121, q4_122, q4_125, q4_127, q4_128, q4_131, q4_132, q4_133, q4_136, q4_137, q4_138, q4_141, q4_142, q4_143, q4_145, q4_146, q4_147, q4_148, q4_151, q4_152, q4_153, q4_156, q4_157, q4_158, q4_160, q4_161, q4_162, q4_163, q4_166, q4_167, q4_168, q4_169, q4_170, q4_171, q4_172, q4_175, q4_178, q4_181, q4_184, kl_int, kl_ref, kl_tok, cS_nil, cS_int, cS_ref, cS_long, tl_some, tl_none, List.cons_append, List.nil_append, nI_add, nI_ltb, nI_leb, nI_eqb, nI_cl, zin_nI, hnb, hf, zk0_inl, hM1]
end On
section Sk
variable {d se sp bx : Nat} {M : ZM} {R : ZH} {Fl : List P3}
theorem vE_b {q S : Nat} (h : okX Fl) : -100000 ≤ vE se sp Fl q S ∧ vE se sp Fl q S ≤ 100000 := by
  have := endV_abs (se := se) (sp := sp) (q := q) (h.rem S)
  unfold vE
  omega
theorem seek_A {k1 k2 : Nat} (hk1 : k1 ≤ 3) (hk2 : k2 ≤ 3) (hS : Sh R) : ∀ (m S : Nat) (tk5 tk6 : Value) (M : ZM), S + m = 2 ^ Fl.length → FldRel M se sp bx Fl → (∀ S', S' < S → pop 10 S' ≤ k1 + k2 → ∀ q, q < 2 → M (120 + q) S' = iI (vE se sp Fl q S')) →
    ∃ M', exe (d + 2) 1 3 [.ref 118, .ref 107, .int (nI k1), .int (nI k2), .int (nI S), tk5, tk6] [] M R = exe (d + 2) 1 63 [.ref 118, .ref 107, .int (nI k1), .int (nI k2), .int (nI (2 ^ Fl.length)), tk5, tk6] [] M' R ∧ (∀ S', S' < 2 ^ Fl.length → pop 10 S' ≤ k1 + k2 → ∀ q, q < 2 → M' (120 + q) S' = iI (vE se sp Fl q S')) ∧ ∀ c, c ≠ 120 → c ≠ 121 → M' c = M c := by
  obtain ⟨nN, k118, k119, l119, k120, l120, k121, l121, k122, l122, k123, l123, k124, l124, k125, l125, k126, l126, f118_0, f119_0, f119_1, f118_1, f118_2, f118_3, f118_4, f118_5⟩ := oncF hS
  have hk107 := K107 hS
  intro m
  induction m with
  | zero =>
    intro S tk5 tk6 M hSm hF hV
    have hp := pow10 hF.2.2.1.1
    have hl := hF.2.2.1
    have h2 := hF.1.1
    refine ⟨M, ?_, ?_, fun _ _ _ => rfl⟩
    · rw [q1_3]
      simp (disch := first | assumption | exact nar_b0 | exact nar_b1 | exact nar_b | exact Or.inl rfl | exact Or.inr rfl | exact zin_t (by omega) (by omega) | exact Nat.le_of_ble_eq_true rfl | (rw [nI_cl (by omega)]; assumption) | omega) only [q1_0, q1_1, q1_5, q1_6, q1_7, q1_10, q1_11, q1_14, q1_16, q1_19, q1_20, q1_21, q1_22, q1_25, q1_26, q1_29, q1_30, q1_31, q1_33, q1_34, q1_35, q1_37, q1_40, q1_41, q1_42, q1_45, q1_46, q1_47, q1_49, q1_50, q1_51, q1_53, q1_56, q1_57, q1_60, q1_64, q1_67, q1_68, q1_71, q1_72, q1_75, q1_77, q1_78, q1_81, q1_82, q1_85, q1_86, q1_89, q1_91, q1_92, q1_96, q1_98, q1_101, q1_102, q1_105, q1_107, q1_108, q1_111, q1_113, q1_114, q1_115, q1_118, q1_119, q1_120, q1_121, q1_124, q1_126, q1_129, q1_130, q1_133, q1_136, q1_137, q1_141, q1_143, q1_146, q1_147, q1_150, q1_152, q1_153, q1_156, q1_158, q1_159, q1_160, q1_163, q1_164, q1_165, q1_166, q1_169, q1_171, q1_174, q1_175, q1_178, q1_181, q1_182, q1_183, q1_185, q1_187, q1_190, kl_int, kl_ref, kl_tok, cS_nil, cS_int, cS_ref, cS_long, tl_some, tl_none, List.cons_append, List.nil_append, nI_add, nI_ltb, nI_leb, nI_eqb, nI_cl, zin_nI, h2, nI_shl, Nat.one_mul]
      rw [if_pos (by omega), show S = 2 ^ Fl.length by omega]
    · rw [← show S = 2 ^ Fl.length by omega]; exact hV
  | succ m ih =>
    intro S tk5 tk6 M hSm hF hV
    have hp := pow10 hF.2.2.1.1
    have hl := hF.2.2.1
    have h2 := hF.1.1
    have hbc := bitCount_ (d := d + 1) (S := S) (M := M) (R := R) (by omega)
    have hpo := pop_le S 10
    by_cases hle : pop 10 S ≤ k1 + k2
    · have hc0 := endWorth_ (d := d + 1) (s := 0) (S := S) (by omega) (by omega) hS hF
      generalize hM1 : up2 M 120 S (iI (endF se sp 0 ((rem Fl S).map (wS 0)))) = M1
      have f1 : ∀ c, c ≠ 120 → M1 c = M c := fun c h => by rw [← hM1]; exact up2_ne h
      have hF1 : FldRel M1 se sp bx Fl := hF.frame (f1 _ (by decide)) (f1 _ (by decide)) (f1 _ (by decide)) (f1 _ (by decide))
      have hc1 := endWorth_ (d := d + 1) (s := 1) (S := S) (by omega) (by omega) hS hF1
      generalize hM2 : up2 M1 121 S (iI (endF se sp 0 ((rem Fl S).map (wS 1)))) = M2
      have f2 : ∀ c, c ≠ 120 → c ≠ 121 → M2 c = M c := fun c h h' => by rw [← hM2, up2_ne h']; exact f1 c h
      obtain ⟨M', g1, g2, g3⟩ := ih (S + 1) tk5 tk6 M2 (by omega) (hF.frame (f2 _ (by decide) (by decide)) (f2 _ (by decide) (by decide)) (f2 _ (by decide) (by decide)) (f2 _ (by decide) (by decide)))
        (by
          intro S' h1 h2 q hq
          rcases (show q = 0 ∨ q = 1 by omega) with rfl | rfl
          · rw [← hM2, up2_c (by decide), ← hM1]
            by_cases e : S' = S
            · subst e; rw [up2_at]; rfl
            · rw [up2_s e]; exact hV S' (by omega) h2 0 hq
          · rw [← hM2]
            by_cases e : S' = S
            · subst e; rw [up2_at]; rfl
            · rw [up2_s e, f1 _ (by decide)]; exact hV S' (by omega) h2 1 hq)
      refine ⟨M', ?_, g2, fun c h h' => by rw [g3 c h h', f2 c h h']⟩
      rw [← g1]
      rw [q1_3]
      simp (disch := first | assumption | exact nar_b0 | exact nar_b1 | exact nar_b | exact Or.inl rfl | exact Or.inr rfl | exact zin_t (by omega) (by omega) | exact Nat.le_of_ble_eq_true rfl | (rw [nI_cl (by omega)]; assumption) | omega) only [q1_0, q1_1, q1_5, q1_6, q1_7, q1_10, q1_11, q1_14, q1_16, q1_19, q1_20, q1_21, q1_22, q1_25, q1_26, q1_29, q1_30, q1_31, q1_33, q1_34, q1_35, q1_37, q1_40, q1_41, q1_42, q1_45, q1_46, q1_47, q1_49, q1_50, q1_51, q1_53, q1_56, q1_57, q1_60, q1_64, q1_67, q1_68, q1_71, q1_72, q1_75, q1_77, q1_78, q1_81, q1_82, q1_85, q1_86, q1_89, q1_91, q1_92, q1_96, q1_98, q1_101, q1_102, q1_105, q1_107, q1_108, q1_111, q1_113, q1_114, q1_115, q1_118, q1_119, q1_120, q1_121, q1_124, q1_126, q1_129, q1_130, q1_133, q1_136, q1_137, q1_141, q1_143, q1_146, q1_147, q1_150, q1_152, q1_153, q1_156, q1_158, q1_159, q1_160, q1_163, q1_164, q1_165, q1_166, q1_169, q1_171, q1_174, q1_175, q1_178, q1_181, q1_182, q1_183, q1_185, q1_187, q1_190, kl_int, kl_ref, kl_tok, cS_nil, cS_int, cS_ref, cS_long, tl_some, tl_none, List.cons_append, List.nil_append, nI_add, nI_ltb, nI_leb, nI_eqb, nI_cl, zin_nI, hbc, hc0, hM1, hc1, hM2, zk0_inl, h2, nI_shl, Nat.one_mul]
      rw [if_neg (by omega), if_neg (by omega)]
    · obtain ⟨M', g1, g2, g3⟩ := ih (S + 1) tk5 tk6 M (by omega) hF
        (by
          intro S' h1 h2 q hq
          by_cases e : S' = S
          · subst e; exact absurd h2 hle
          · exact hV S' (by omega) h2 q hq)
      refine ⟨M', ?_, g2, g3⟩
      rw [← g1]
      rw [q1_3]
      simp (disch := first | assumption | exact nar_b0 | exact nar_b1 | exact nar_b | exact Or.inl rfl | exact Or.inr rfl | exact zin_t (by omega) (by omega) | exact Nat.le_of_ble_eq_true rfl | (rw [nI_cl (by omega)]; assumption) | omega) only [q1_0, q1_1, q1_5, q1_6, q1_7, q1_10, q1_11, q1_14, q1_16, q1_19, q1_20, q1_21, q1_22, q1_25, q1_26, q1_29, q1_30, q1_31, q1_33, q1_34, q1_35, q1_37, q1_40, q1_41, q1_42, q1_45, q1_46, q1_47, q1_49, q1_50, q1_51, q1_53, q1_56, q1_57, q1_60, q1_64, q1_67, q1_68, q1_71, q1_72, q1_75, q1_77, q1_78, q1_81, q1_82, q1_85, q1_86, q1_89, q1_91, q1_92, q1_96, q1_98, q1_101, q1_102, q1_105, q1_107, q1_108, q1_111, q1_113, q1_114, q1_115, q1_118, q1_119, q1_120, q1_121, q1_124, q1_126, q1_129, q1_130, q1_133, q1_136, q1_137, q1_141, q1_143, q1_146, q1_147, q1_150, q1_152, q1_153, q1_156, q1_158, q1_159, q1_160, q1_163, q1_164, q1_165, q1_166, q1_169, q1_171, q1_174, q1_175, q1_178, q1_181, q1_182, q1_183, q1_185, q1_187, q1_190, kl_int, kl_ref, kl_tok, cS_nil, cS_int, cS_ref, cS_long, tl_some, tl_none, List.cons_append, List.nil_append, nI_add, nI_ltb, nI_leb, nI_eqb, nI_cl, zin_nI, hbc, zk0_inl, h2, nI_shl, Nat.one_mul]
      rw [if_neg (by omega), if_pos (by omega)]
theorem seek_B {LA LB : List Nat} {v0 : Nat → Int} {k1 k2 : Nat} (hS : Sh R) (hLA : LA.length ≤ 176) (hLB : LB.length ≤ 176) (hb0 : ∀ b ∈ LB, b < 1024 ∧ (-100000 ≤ v0 b ∧ v0 b ≤ 100000)) (hb : ∀ a ∈ LA, ∀ b ∈ LB, b ||| a < 1024 ∧ (-100000 ≤ v0 (b ||| a) ∧ v0 (b ||| a) ≤ 100000)) :
    ∀ (m k : Nat) (M : ZM), k + m = LB.length → ArrL M 122 LA → ArrL M 123 LB → (∀ a ∈ LA, ∀ b ∈ LB, M 120 (b ||| a) = iI (v0 (b ||| a))) → (∀ b ∈ LB, M 120 b = iI (v0 b)) → (∀ (j : Nat) (h : j < LB.length), j < k → M 124 j = iI (mx v0 LB[j] LA (v0 LB[j]))) →
    ∃ M', exe (d + 2) 1 94 [.ref 118, .ref 107, .int (nI k1), .int (nI k2), .int (nI LA.length), .int (nI LB.length), .int (nI k)] [] M R = exe (d + 2) 1 139 [.ref 118, .ref 107, .int (nI k1), .int (nI k2), .int (nI LA.length), .int (nI LB.length), .int (nI 0)] [] M' R ∧ (∀ (j : Nat) (h : j < LB.length), M' 124 j = iI (mx v0 LB[j] LA (v0 LB[j]))) ∧ ∀ c, c ≠ 124 → M' c = M c := by
  obtain ⟨nN, k118, k119, l119, k120, l120, k121, l121, k122, l122, k123, l123, k124, l124, k125, l125, k126, l126, f118_0, f119_0, f119_1, f118_1, f118_2, f118_3, f118_4, f118_5⟩ := oncF hS
  intro m
  induction m with
  | zero =>
    intro k M hk hA hB he he0 hm
    refine ⟨M, ?_, fun j h => hm j h (by omega), fun _ _ => rfl⟩
    rw [q1_94]
    simp (disch := first | assumption | exact nar_b0 | exact nar_b1 | exact nar_b | exact Or.inl rfl | exact Or.inr rfl | exact zin_t (by omega) (by omega) | exact Nat.le_of_ble_eq_true rfl | (rw [nI_cl (by omega)]; assumption) | omega) only [q1_0, q1_1, q1_5, q1_6, q1_7, q1_10, q1_11, q1_14, q1_16, q1_19, q1_20, q1_21, q1_22, q1_25, q1_26, q1_29, q1_30, q1_31, q1_33, q1_34, q1_35, q1_37, q1_40, q1_41, q1_42, q1_45, q1_46, q1_47, q1_49, q1_50, q1_51, q1_53, q1_56, q1_57, q1_60, q1_63, q1_64, q1_67, q1_68, q1_71, q1_72, q1_75, q1_77, q1_78, q1_81, q1_82, q1_85, q1_86, q1_89, q1_91, q1_92, q1_96, q1_98, q1_101, q1_102, q1_105, q1_107, q1_108, q1_111, q1_113, q1_114, q1_115, q1_118, q1_119, q1_120, q1_121, q1_124, q1_126, q1_129, q1_130, q1_133, q1_136, q1_137, q1_141, q1_143, q1_146, q1_147, q1_150, q1_152, q1_153, q1_156, q1_158, q1_159, q1_160, q1_163, q1_164, q1_165, q1_166, q1_169, q1_171, q1_174, q1_175, q1_178, q1_181, q1_182, q1_183, q1_185, q1_187, q1_190, kl_int, kl_ref, kl_tok, cS_nil, cS_int, cS_ref, cS_long, tl_some, tl_none, List.cons_append, List.nil_append, nI_add, nI_ltb, nI_leb, nI_eqb, nI_cl, zin_nI]
    rw [if_pos (by omega)]
  | succ m ih =>
    intro k M hk hA hB he he0 hm
    have hbm : LB[k] ∈ LB := List.getElem_mem (show k < LB.length by omega)
    have hbi := hB k (by omega)
    have hc := mostWith_ (d := d + 1) (M := M) (R := R) (g := LB[k]) (w := 120) (a := 122) (l := LA) (v := v0) (hb0 _ hbm).1 hLA k120 l120 k122 l122 hA (fun s hs => ⟨(hb s hs _ hbm).1, he s hs _ hbm, (hb s hs _ hbm).2.1, (hb s hs _ hbm).2.2⟩) ⟨he0 _ hbm, (hb0 _ hbm).2⟩
    generalize hM1 : up2 M 124 k (iI (mx v0 LB[k] LA (v0 LB[k]))) = M1
    have f1 : ∀ c, c ≠ 124 → M1 c = M c := fun c h => by rw [← hM1]; exact up2_ne h
    obtain ⟨M', g1, g2, g3⟩ := ih (k + 1) M1 (by omega) (fun j h => by rw [f1 _ (by decide)]; exact hA j h) (fun j h => by rw [f1 _ (by decide)]; exact hB j h) (fun a ha b hb => by rw [f1 _ (by decide)]; exact he a ha b hb) (fun b hb => by rw [f1 _ (by decide)]; exact he0 b hb)
      (fun j h hjk => by
        rw [← hM1]
        by_cases e : j = k
        · subst e; rw [up2_at]
        · rw [up2_s e]; exact hm j h (by omega))
    refine ⟨M', ?_, g2, fun c h => by rw [g3 c h, f1 c h]⟩
    rw [← g1]
    rw [q1_94]
    simp (disch := first | assumption | exact nar_b0 | exact nar_b1 | exact nar_b | exact Or.inl rfl | exact Or.inr rfl | exact zin_t (by omega) (by omega) | exact Nat.le_of_ble_eq_true rfl | (rw [nI_cl (by omega)]; assumption) | omega) only [q1_0, q1_1, q1_5, q1_6, q1_7, q1_10, q1_11, q1_14, q1_16, q1_19, q1_20, q1_21, q1_22, q1_25, q1_26, q1_29, q1_30, q1_31, q1_33, q1_34, q1_35, q1_37, q1_40, q1_41, q1_42, q1_45, q1_46, q1_47, q1_49, q1_50, q1_51, q1_53, q1_56, q1_57, q1_60, q1_63, q1_64, q1_67, q1_68, q1_71, q1_72, q1_75, q1_77, q1_78, q1_81, q1_82, q1_85, q1_86, q1_89, q1_91, q1_92, q1_96, q1_98, q1_101, q1_102, q1_105, q1_107, q1_108, q1_111, q1_113, q1_114, q1_115, q1_118, q1_119, q1_120, q1_121, q1_124, q1_126, q1_129, q1_130, q1_133, q1_136, q1_137, q1_141, q1_143, q1_146, q1_147, q1_150, q1_152, q1_153, q1_156, q1_158, q1_159, q1_160, q1_163, q1_164, q1_165, q1_166, q1_169, q1_171, q1_174, q1_175, q1_178, q1_181, q1_182, q1_183, q1_185, q1_187, q1_190, kl_int, kl_ref, kl_tok, cS_nil, cS_int, cS_ref, cS_long, tl_some, tl_none, List.cons_append, List.nil_append, nI_add, nI_ltb, nI_leb, nI_eqb, nI_cl, zin_nI, hbi, hc, zk0_inl, hM1]
    rw [if_neg (by omega)]
theorem seek_C {LA LB : List Nat} {v1 : Nat → Int} {k1 k2 : Nat} (hS : Sh R) (hLA : LA.length ≤ 176) (hLB : LB.length ≤ 176) (hb0 : ∀ b ∈ LA, b < 1024 ∧ (-100000 ≤ v1 b ∧ v1 b ≤ 100000)) (hb : ∀ a ∈ LA, ∀ b ∈ LB, a ||| b < 1024 ∧ (-100000 ≤ v1 (a ||| b) ∧ v1 (a ||| b) ≤ 100000)) :
    ∀ (m k : Nat) (M : ZM), k + m = LA.length → ArrL M 122 LA → ArrL M 123 LB → (∀ a ∈ LA, ∀ b ∈ LB, M 121 (a ||| b) = iI (v1 (a ||| b))) → (∀ b ∈ LA, M 121 b = iI (v1 b)) → (∀ (j : Nat) (h : j < LA.length), j < k → M 125 j = iI (mx v1 LA[j] LB (v1 LA[j]))) →
    ∃ M', exe (d + 2) 1 139 [.ref 118, .ref 107, .int (nI k1), .int (nI k2), .int (nI LA.length), .int (nI LB.length), .int (nI k)] [] M R = exe (d + 2) 1 181 [.ref 118, .ref 107, .int (nI k1), .int (nI k2), .int (nI LA.length), .int (nI LB.length), .int (nI LA.length)] [] M' R ∧ (∀ (j : Nat) (h : j < LA.length), M' 125 j = iI (mx v1 LA[j] LB (v1 LA[j]))) ∧ ∀ c, c ≠ 125 → M' c = M c := by
  obtain ⟨nN, k118, k119, l119, k120, l120, k121, l121, k122, l122, k123, l123, k124, l124, k125, l125, k126, l126, f118_0, f119_0, f119_1, f118_1, f118_2, f118_3, f118_4, f118_5⟩ := oncF hS
  intro m
  induction m with
  | zero =>
    intro k M hk hA hB he he0 hm
    refine ⟨M, ?_, fun j h => hm j h (by omega), fun _ _ => rfl⟩
    rw [q1_139]
    simp (disch := first | assumption | exact nar_b0 | exact nar_b1 | exact nar_b | exact Or.inl rfl | exact Or.inr rfl | exact zin_t (by omega) (by omega) | exact Nat.le_of_ble_eq_true rfl | (rw [nI_cl (by omega)]; assumption) | omega) only [q1_0, q1_1, q1_5, q1_6, q1_7, q1_10, q1_11, q1_14, q1_16, q1_19, q1_20, q1_21, q1_22, q1_25, q1_26, q1_29, q1_30, q1_31, q1_33, q1_34, q1_35, q1_37, q1_40, q1_41, q1_42, q1_45, q1_46, q1_47, q1_49, q1_50, q1_51, q1_53, q1_56, q1_57, q1_60, q1_63, q1_64, q1_67, q1_68, q1_71, q1_72, q1_75, q1_77, q1_78, q1_81, q1_82, q1_85, q1_86, q1_89, q1_91, q1_92, q1_96, q1_98, q1_101, q1_102, q1_105, q1_107, q1_108, q1_111, q1_113, q1_114, q1_115, q1_118, q1_119, q1_120, q1_121, q1_124, q1_126, q1_129, q1_130, q1_133, q1_136, q1_137, q1_141, q1_143, q1_146, q1_147, q1_150, q1_152, q1_153, q1_156, q1_158, q1_159, q1_160, q1_163, q1_164, q1_165, q1_166, q1_169, q1_171, q1_174, q1_175, q1_178, q1_182, q1_183, q1_185, q1_187, q1_190, kl_int, kl_ref, kl_tok, cS_nil, cS_int, cS_ref, cS_long, tl_some, tl_none, List.cons_append, List.nil_append, nI_add, nI_ltb, nI_leb, nI_eqb, nI_cl, zin_nI]
    rw [if_pos (by omega), show k = LA.length by omega]
  | succ m ih =>
    intro k M hk hA hB he he0 hm
    have hbm : LA[k] ∈ LA := List.getElem_mem (show k < LA.length by omega)
    have hbi := hA k (by omega)
    have hc := mostWith_ (d := d + 1) (M := M) (R := R) (g := LA[k]) (w := 121) (a := 123) (l := LB) (v := v1) (hb0 _ hbm).1 hLB k121 l121 k123 l123 hB (fun s hs => ⟨(hb _ hbm s hs).1, he _ hbm s hs, (hb _ hbm s hs).2.1, (hb _ hbm s hs).2.2⟩) ⟨he0 _ hbm, (hb0 _ hbm).2⟩
    generalize hM1 : up2 M 125 k (iI (mx v1 LA[k] LB (v1 LA[k]))) = M1
    have f1 : ∀ c, c ≠ 125 → M1 c = M c := fun c h => by rw [← hM1]; exact up2_ne h
    obtain ⟨M', g1, g2, g3⟩ := ih (k + 1) M1 (by omega) (fun j h => by rw [f1 _ (by decide)]; exact hA j h) (fun j h => by rw [f1 _ (by decide)]; exact hB j h) (fun a ha b hb => by rw [f1 _ (by decide)]; exact he a ha b hb) (fun b hb => by rw [f1 _ (by decide)]; exact he0 b hb)
      (fun j h hjk => by
        rw [← hM1]
        by_cases e : j = k
        · subst e; rw [up2_at]
        · rw [up2_s e]; exact hm j h (by omega))
    refine ⟨M', ?_, g2, fun c h => by rw [g3 c h, f1 c h]⟩
    rw [← g1]
    rw [q1_139]
    simp (disch := first | assumption | exact nar_b0 | exact nar_b1 | exact nar_b | exact Or.inl rfl | exact Or.inr rfl | exact zin_t (by omega) (by omega) | exact Nat.le_of_ble_eq_true rfl | (rw [nI_cl (by omega)]; assumption) | omega) only [q1_0, q1_1, q1_5, q1_6, q1_7, q1_10, q1_11, q1_14, q1_16, q1_19, q1_20, q1_21, q1_22, q1_25, q1_26, q1_29, q1_30, q1_31, q1_33, q1_34, q1_35, q1_37, q1_40, q1_41, q1_42, q1_45, q1_46, q1_47, q1_49, q1_50, q1_51, q1_53, q1_56, q1_57, q1_60, q1_63, q1_64, q1_67, q1_68, q1_71, q1_72, q1_75, q1_77, q1_78, q1_81, q1_82, q1_85, q1_86, q1_89, q1_91, q1_92, q1_96, q1_98, q1_101, q1_102, q1_105, q1_107, q1_108, q1_111, q1_113, q1_114, q1_115, q1_118, q1_119, q1_120, q1_121, q1_124, q1_126, q1_129, q1_130, q1_133, q1_136, q1_137, q1_141, q1_143, q1_146, q1_147, q1_150, q1_152, q1_153, q1_156, q1_158, q1_159, q1_160, q1_163, q1_164, q1_165, q1_166, q1_169, q1_171, q1_174, q1_175, q1_178, q1_182, q1_183, q1_185, q1_187, q1_190, kl_int, kl_ref, kl_tok, cS_nil, cS_int, cS_ref, cS_long, tl_some, tl_none, List.cons_append, List.nil_append, nI_add, nI_ltb, nI_leb, nI_eqb, nI_cl, zin_nI, hbi, hc, zk0_inl, hM1]
    rw [if_neg (by omega)]
theorem seek_ {k1 k2 : Nat} (hk1 : k1 ≤ 3) (hk2 : k2 ≤ 3) (hS : Sh R) (hF : FldRel M se sp bx Fl) : ∃ M', cal (d + 2) 1 [.ref 118, .ref 107, .int (nI k1), .int (nI k2)] M R = some (.inl none, M', R) ∧ AnsRel M' (Fl.map (fun p => p.1)) (vE se sp Fl 0) (vE se sp Fl 1) (RS (LSt Fl.length k1) (LSt Fl.length k2) (vE se sp Fl 0) (vE se sp Fl 1) (LSt Fl.length k1)) ∧ ∀ c, c < 120 ∨ 126 < c → M' c = M c := by
  obtain ⟨nN, k118, k119, l119, k120, l120, k121, l121, k122, l122, k123, l123, k124, l124, k125, l125, k126, l126, f118_0, f119_0, f119_1, f118_1, f118_2, f118_3, f118_4, f118_5⟩ := oncF hS
  have hk107 := K107 hS
  have hl := hF.2.2.1
  have hp := pow10 hl.1
  have hok := hF.ok
  have p0 : 0 < 2 ^ Fl.length := Nat.two_pow_pos _
  obtain ⟨M1, a1, a2, a3⟩ := seek_A (d := d) (k1 := k1) (k2 := k2) hk1 hk2 hS (2 ^ Fl.length) 0 tok tok M (by omega) hF (fun S' h => absurd h (Nat.not_lt_zero _))
  obtain ⟨M2, b1, b2, b3⟩ := listSets_ (d := d) (a := 122) (n := Fl.length) (k := k1) (M := M1) (R := R) hl.1 hk1 k122 l122 (by omega)
  obtain ⟨M3, c1, c2, c3⟩ := listSets_ (d := d) (a := 123) (n := Fl.length) (k := k2) (M := M2) (R := R) hl.1 hk2 k123 l123 (by omega)
  have hLA := LSt_len hl.1 hk1
  have hLB := LSt_len hl.1 hk2
  have m1 : ∀ {s k}, s ∈ LSt Fl.length k → s < 2 ^ Fl.length ∧ pop 10 s ≤ k := fun h => LSt_mem.mp h
  have o1 : ∀ a ∈ LSt Fl.length k1, ∀ b ∈ LSt Fl.length k2, a ||| b < 2 ^ Fl.length ∧ pop 10 (a ||| b) ≤ k1 + k2 := fun a ha b hb => ⟨Nat.or_lt_two_pow (m1 ha).1 (m1 hb).1, by have := pop_or2 a b 10; have := (m1 ha).2; have := (m1 hb).2; omega⟩
  have o2 : ∀ a ∈ LSt Fl.length k1, ∀ b ∈ LSt Fl.length k2, b ||| a < 2 ^ Fl.length ∧ pop 10 (b ||| a) ≤ k1 + k2 := fun a ha b hb => by rw [Nat.or_comm]; exact o1 a ha b hb
  have z1 : 0 ∈ LSt Fl.length k1 := LSt_mem.mpr ⟨p0, by rw [pop_zero]; omega⟩
  have z2 : 0 ∈ LSt Fl.length k2 := LSt_mem.mpr ⟨p0, by rw [pop_zero]; omega⟩
  have e3 : ∀ q, q < 2 → ∀ S', S' < 2 ^ Fl.length → pop 10 S' ≤ k1 + k2 → M3 (120 + q) S' = iI (vE se sp Fl q S') := fun q hq S' h1 h2 => by rw [c3 _ (by omega), b3 _ (by omega)]; exact a2 S' h1 h2 q hq
  have hA3 : ArrL M3 122 (LSt Fl.length k1) := fun j h => by rw [c3 _ (by decide)]; exact b2 j h
  obtain ⟨M4, d1, d2, d3⟩ := seek_B (d := d) (LA := LSt Fl.length k1) (LB := LSt Fl.length k2) (v0 := vE se sp Fl 0) (k1 := k1) (k2 := k2) hS hLA hLB (fun b hb => ⟨by have := (m1 hb).1; omega, vE_b hok⟩) (fun a ha b hb => ⟨by have := (o2 a ha b hb).1; omega, vE_b hok⟩) (LSt Fl.length k2).length 0 M3 (by omega) hA3 c2 (fun a ha b hb => e3 0 (by omega) _ (o2 a ha b hb).1 (o2 a ha b hb).2) (fun b hb => e3 0 (by omega) _ (m1 hb).1 (by have := (m1 hb).2; omega)) (fun j _ h => absurd h (Nat.not_lt_zero _))
  obtain ⟨M5, f1, f2, f3⟩ := seek_C (d := d) (LA := LSt Fl.length k1) (LB := LSt Fl.length k2) (v1 := vE se sp Fl 1) (k1 := k1) (k2 := k2) hS hLA hLB (fun b hb => ⟨by have := (m1 hb).1; omega, vE_b hok⟩) (fun a ha b hb => ⟨by have := (o1 a ha b hb).1; omega, vE_b hok⟩) (LSt Fl.length k1).length 0 M4 (by omega) (fun j h => by rw [d3 _ (by decide)]; exact hA3 j h) (fun j h => by rw [d3 _ (by decide)]; exact c2 j h) (fun a ha b hb => by rw [d3 _ (by decide)]; exact e3 1 (by omega) _ (o1 a ha b hb).1 (o1 a ha b hb).2) (fun b hb => by rw [d3 _ (by decide)]; exact e3 1 (by omega) _ (m1 hb).1 (by have := (m1 hb).2; omega)) (fun j _ h => absurd h (Nat.not_lt_zero _))
  have fr : ∀ c, c < 120 ∨ 125 < c → M5 c = M c := fun c h => by rw [f3 c (by omega), d3 c (by omega), c3 c (by omega), b3 c (by omega), a3 c (by omega) (by omega)]
  have hG : GA M5 se sp bx Fl (LSt Fl.length k1) (LSt Fl.length k2) (vE se sp Fl 0) (vE se sp Fl 1) := by
    refine ⟨hF.frame (fr _ (by omega)) (fr _ (by omega)) (fr _ (by omega)) (fr _ (by omega)), ?_, ?_, ?_, f2, ?_⟩
    · intro j h; rw [f3 _ (by decide), d3 _ (by decide)]; exact hA3 j h
    · intro j h; rw [f3 _ (by decide), d3 _ (by decide)]; exact c2 j h
    · intro j h; rw [f3 _ (by decide)]; exact d2 j h
    · intro a ha b hb
      rw [f3 _ (by decide), d3 _ (by decide), f3 _ (by decide), d3 _ (by decide)]
      exact ⟨e3 0 (by omega) _ (o1 a ha b hb).1 (o1 a ha b hb).2, e3 1 (by omega) _ (o1 a ha b hb).1 (o1 a ha b hb).2⟩
  obtain ⟨M', g1, g2, g3⟩ := gatherRests_ (d := d) hS hLA hLB z1 z2 (fun a ha => by have := (m1 ha).1; omega) (fun a ha => by have := (m1 ha).1; omega) (fun a ha b hb => ⟨by have := (o1 a ha b hb).1; omega, vE_b hok, vE_b hok⟩) hG
  refine ⟨M', ?_, g2, fun c h => by rw [g3 c (by omega), fr c (by omega)]⟩
  have h2a : M1 107 2 = nI Fl.length := by rw [a3 _ (by decide) (by decide)]; exact hF.1.1
  have h2b : M2 107 2 = nI Fl.length := by rw [b3 _ (by decide)]; exact h2a
  rw [e1]
  simp (disch := first | assumption | exact nar_b0 | exact nar_b1 | exact nar_b | exact Or.inl rfl | exact Or.inr rfl | exact zin_t (by omega) (by omega) | exact Nat.le_of_ble_eq_true rfl | (rw [nI_cl (by omega)]; assumption) | omega) only [q1_0, q1_1, q1_5, q1_6, q1_7, q1_10, q1_11, q1_14, q1_16, q1_19, q1_20, q1_21, q1_22, q1_25, q1_26, q1_29, q1_30, q1_31, q1_33, q1_34, q1_35, q1_37, q1_40, q1_41, q1_42, q1_45, q1_46, q1_47, q1_49, q1_50, q1_51, q1_53, q1_56, q1_57, q1_60, q1_63, q1_64, q1_67, q1_68, q1_71, q1_72, q1_75, q1_77, q1_78, q1_81, q1_82, q1_85, q1_86, q1_89, q1_91, q1_92, q1_96, q1_98, q1_101, q1_102, q1_105, q1_107, q1_108, q1_111, q1_113, q1_114, q1_115, q1_118, q1_119, q1_120, q1_121, q1_124, q1_126, q1_129, q1_130, q1_133, q1_136, q1_137, q1_141, q1_143, q1_146, q1_147, q1_150, q1_152, q1_153, q1_156, q1_158, q1_159, q1_160, q1_163, q1_164, q1_165, q1_166, q1_169, q1_171, q1_174, q1_175, q1_178, q1_181, q1_182, q1_183, q1_185, q1_187, q1_190, kl_int, kl_ref, kl_tok, cS_nil, cS_int, cS_ref, cS_long, tl_some, tl_none, List.cons_append, List.nil_append, nI_add, nI_ltb, nI_leb, nI_eqb, nI_cl, zin_nI]
  rw [a1]
  simp (disch := first | assumption | exact nar_b0 | exact nar_b1 | exact nar_b | exact Or.inl rfl | exact Or.inr rfl | exact zin_t (by omega) (by omega) | exact Nat.le_of_ble_eq_true rfl | (rw [nI_cl (by omega)]; assumption) | omega) only [q1_0, q1_1, q1_5, q1_6, q1_7, q1_10, q1_11, q1_14, q1_16, q1_19, q1_20, q1_21, q1_22, q1_25, q1_26, q1_29, q1_30, q1_31, q1_33, q1_34, q1_35, q1_37, q1_40, q1_41, q1_42, q1_45, q1_46, q1_47, q1_49, q1_50, q1_51, q1_53, q1_56, q1_57, q1_60, q1_63, q1_64, q1_67, q1_68, q1_71, q1_72, q1_75, q1_77, q1_78, q1_81, q1_82, q1_85, q1_86, q1_89, q1_91, q1_92, q1_96, q1_98, q1_101, q1_102, q1_105, q1_107, q1_108, q1_111, q1_113, q1_114, q1_115, q1_118, q1_119, q1_120, q1_121, q1_124, q1_126, q1_129, q1_130, q1_133, q1_136, q1_137, q1_141, q1_143, q1_146, q1_147, q1_150, q1_152, q1_153, q1_156, q1_158, q1_159, q1_160, q1_163, q1_164, q1_165, q1_166, q1_169, q1_171, q1_174, q1_175, q1_178, q1_181, q1_182, q1_183, q1_185, q1_187, q1_190, kl_int, kl_ref, kl_tok, cS_nil, cS_int, cS_ref, cS_long, tl_some, tl_none, List.cons_append, List.nil_append, nI_add, nI_ltb, nI_leb, nI_eqb, nI_cl, zin_nI, h2a, b1, h2b, c1, zk0_inl]
  rw [d1, f1]
  simp (disch := first | assumption | exact nar_b0 | exact nar_b1 | exact nar_b | exact Or.inl rfl | exact Or.inr rfl | exact zin_t (by omega) (by omega) | exact Nat.le_of_ble_eq_true rfl | (rw [nI_cl (by omega)]; assumption) | omega) only [q1_0, q1_1, q1_5, q1_6, q1_7, q1_10, q1_11, q1_14, q1_16, q1_19, q1_20, q1_21, q1_22, q1_25, q1_26, q1_29, q1_30, q1_31, q1_33, q1_34, q1_35, q1_37, q1_40, q1_41, q1_42, q1_45, q1_46, q1_47, q1_49, q1_50, q1_51, q1_53, q1_56, q1_57, q1_60, q1_63, q1_64, q1_67, q1_68, q1_71, q1_72, q1_75, q1_77, q1_78, q1_81, q1_82, q1_85, q1_86, q1_89, q1_91, q1_92, q1_96, q1_98, q1_101, q1_102, q1_105, q1_107, q1_108, q1_111, q1_113, q1_114, q1_115, q1_118, q1_119, q1_120, q1_121, q1_124, q1_126, q1_129, q1_130, q1_133, q1_136, q1_137, q1_141, q1_143, q1_146, q1_147, q1_150, q1_152, q1_153, q1_156, q1_158, q1_159, q1_160, q1_163, q1_164, q1_165, q1_166, q1_169, q1_171, q1_174, q1_175, q1_178, q1_181, q1_182, q1_183, q1_185, q1_187, q1_190, kl_int, kl_ref, kl_tok, cS_nil, cS_int, cS_ref, cS_long, tl_some, tl_none, List.cons_append, List.nil_append, nI_add, nI_ltb, nI_leb, nI_eqb, nI_cl, zin_nI, g1, zk0_inl]
end Sk
