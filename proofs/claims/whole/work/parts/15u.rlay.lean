-- the reference lays the row
def lyF (P : PS) (k : Nat) (L : List Nat) : Nat → Int32 := fun x => if x = 7 then nI L.length else if 64 ≤ x ∧ x < 64 + k then hrE P (x - 64) else if 92 ≤ x ∧ x < 92 + L.length then nI (L.getD (x - 92) 0) else rD P x
def lyH (P : PS) (i : Nat) (L : List Nat) : Nat → Int32 := fun x => if x = 1 then nI (fN P) else if x = 7 then nI L.length else if 64 ≤ x ∧ x < 64 + jn (rD P) then hrE P (x - 64) else if 92 ≤ x ∧ x < 92 + L.length then nI (L.getD (x - 92) 0) else if 8 + 4 * jn (rD P) ≤ x ∧ x < 8 + 4 * (jn (rD P) + i) then fI P (x - (8 + 4 * jn (rD P))) else rD P x
theorem lyH_laid {P : PS} : lyH P (fN P) (rowL P) = laid P := rfl
def LyI (M0 M : ZM) (g : Nat → Int32) : Prop := (∀ c, c ≠ 130 → c ≠ 138 → M c = M0 c) ∧ ∀ x, x < 106 → M 130 x = g x
theorem LyI.cell {M0 M M' : ZM} {g : Nat → Int32} (h : LyI M0 M g) (hM : ∀ c, c ≠ 138 → M' c = M c) : LyI M0 M' g := ⟨fun c a b => by rw [hM c b]; exact h.1 c a b, fun x hx => by rw [hM _ (by decide)]; exact h.2 x hx⟩
theorem LyI.up {M0 M : ZM} {g : Nat → Int32} {k : Nat} {v : Int32} (h : LyI M0 M g) : LyI M0 (up2 M 130 k v) (upf g k v) := ⟨fun c a b => by rw [up2_ne a]; exact h.1 c a b, by rw [up2_rwf]; exact upf_cg h.2⟩
theorem LyI.cg {M0 M : ZM} {g g' : Nat → Int32} (h : LyI M0 M g) (e : ∀ x, x < 106 → g x = g' x) : LyI M0 M g' := ⟨h.1, fun x hx => by rw [← e x hx]; exact h.2 x hx⟩
section Ru
variable {d k i : Nat} {M M0 : ZM} {R : ZH} {P : PS} {L : List Nat} {g : Nat → Int32}
theorem joins_ {y l : Nat} (hS : Sh R) (hl : l ≤ 13) (h7 : M 130 7 = nI l) : cal d 143 [.ref 127, .int (nI y)] M R = some (.inl none, up2 (up2 M 130 (92 + l) (nI y)) 130 7 (nI (l + 1)), R) := by
  obtain ⟨nN, k127, k128, l128, k129, l129, k130, l130, k131, l131, k132, l132, k133, l133, k134, l134, k135, l135, k136, l136, k137, l137, k138, l138, k139, l139, k140, l140, k141, l141, k142, l142, k143, l143, k144, l144, k145, l145, k146, l146, f127_1, f127_2, f127_3, f127_4, f127_6, f127_7, f127_17, f127_18, f127_19, f127_22, f127_24, f127_25, f127_26, f127_29, f127_30, f127_31, f127_32, f127_33⟩ := modF hS
  have h7' : up2 M 130 (92 + l) (nI y) 130 7 = nI l := by rw [up2_s (by omega)]; exact h7
  rw [e143]
  simp (disch := first | assumption | exact nar_b0 | exact nar_b1 | exact nar_b | exact Or.inl rfl | exact Or.inr rfl | exact zin_t (by omega) (by omega) | exact Nat.le_of_ble_eq_true rfl | (rw [nI_cl (by omega)]; assumption) | omega) only [↓reduceIte, reduceCtorEq, not_true_eq_false, not_false_eq_true, q143_0, q143_1, q143_4, q143_6, q143_7, q143_10, q143_12, q143_13, q143_14, q143_15, q143_16, q143_17, q143_20, q143_22, q143_23, q143_24, q143_25, q143_26, q143_27, kl_int, kl_ref, kl_tok, cS_nil, cS_int, cS_ref, cS_long, tl_some, tl_none, List.cons_append, List.nil_append, nI_add, nI_ltb, nI_leb, nI_eqb, nI_cl, zin_nI, h7, h7']
theorem ljoin {h : Nat → Int32} {y : Nat} (hl : L.length ≤ 13) (e1 : ∀ x, x < 106 → x ≠ 7 → x ≠ 92 + L.length → h x = g x) (e2 : h 7 = nI (L.length + 1)) (e3 : h (92 + L.length) = nI y) : ∀ x, x < 106 → upf (upf g (92 + L.length) (nI y)) 7 (nI (L.length + 1)) x = h x := by
  intro x hx
  by_cases c7 : x = 7
  · subst c7; rw [upf_at, e2]
  · rw [upf_ne c7]
    by_cases c9 : x = 92 + L.length
    · rw [c9, upf_at, e3]
    · rw [upf_ne c9, e1 x hx c7 c9]
theorem lyF_join {y : Nat} (hk : k ≤ 10) (hl : L.length ≤ 13) : ∀ x, x < 106 → upf (upf (lyF P k L) (92 + L.length) (nI y)) 7 (nI (L.length + 1)) x = lyF P k (L ++ [y]) x := by
  have hl2 : (L ++ [y]).length = L.length + 1 := by simp
  refine ljoin hl (fun x hx c7 c9 => ?_) ?_ ?_
  · unfold lyF
    rw [if_neg c7, if_neg c7, hl2]
    by_cases c1 : 64 ≤ x ∧ x < 64 + k
    · rw [if_pos c1, if_pos c1]
    · rw [if_neg c1, if_neg c1]
      by_cases c2 : 92 ≤ x ∧ x < 92 + L.length
      · rw [if_pos c2, if_pos (by omega), gD_l (by omega)]
      · rw [if_neg c2, if_neg (by omega)]
  · unfold lyF; rw [if_pos rfl, hl2]
  · unfold lyF
    rw [if_neg (by omega), if_neg (by omega), if_pos (by omega), Nat.add_sub_cancel_left, gD_r]
theorem lyH_join {y : Nat} (hk : jn (rD P) ≤ 10) (hl : L.length ≤ 13) : ∀ x, x < 106 → upf (upf (lyH P i L) (92 + L.length) (nI y)) 7 (nI (L.length + 1)) x = lyH P i (L ++ [y]) x := by
  have hl2 : (L ++ [y]).length = L.length + 1 := by simp
  refine ljoin hl (fun x hx c7 c9 => ?_) ?_ ?_
  · unfold lyH
    by_cases c0 : x = 1
    · rw [if_pos c0, if_pos c0]
    rw [if_neg c7, if_neg c7, hl2, if_neg c0, if_neg c0]
    by_cases c1 : 64 ≤ x ∧ x < 64 + jn (rD P)
    · rw [if_pos c1, if_pos c1]
    · rw [if_neg c1, if_neg c1]
      by_cases c2 : 92 ≤ x ∧ x < 92 + L.length
      · rw [if_pos c2, if_pos (by omega), gD_l (by omega)]
      · rw [if_neg c2, if_neg (by omega)]
  · unfold lyH; rw [if_neg (by decide), if_pos rfl, hl2]
  · unfold lyH
    rw [if_neg (by omega), if_neg (by omega), if_neg (by omega), if_pos (by omega), Nat.add_sub_cancel_left, gD_r]
theorem lyF_ex (hk : k < 10) : ∀ x, x < 106 → upf (lyF P k L) (64 + k) (hrE P k) x = lyF P (k + 1) L x := by
  intro x hx
  by_cases c : x = 64 + k
  · rw [c, upf_at]
    unfold lyF
    rw [if_neg (by omega), if_pos (by omega), Nat.add_sub_cancel_left]
  · rw [upf_ne c]
    unfold lyF
    by_cases c7 : x = 7
    · rw [if_pos c7, if_pos c7]
    · rw [if_neg c7, if_neg c7]
      by_cases c1 : 64 ≤ x ∧ x < 64 + k
      · rw [if_pos c1, if_pos (by omega)]
      · rw [if_neg c1, if_neg (c := 64 ≤ x ∧ x < 64 + (k + 1)) (by omega)]
theorem lyF_no (hW : PW P) (hk : k < 10) (he : hrE P k = -1) : ∀ x, x < 106 → lyF P k L x = lyF P (k + 1) L x := by
  intro x hx
  rw [← lyF_ex hk x hx]
  by_cases c : x = 64 + k
  · rw [c, upf_at, he]
    unfold lyF
    rw [if_neg (by omega), if_neg (by omega), if_neg (by omega)]
    exact hW.2.2.2.1 _ (by omega)
  · rw [upf_ne c]
theorem lyF_lo {x : Nat} (h7 : x ≠ 7) (hx : x < 64) : lyF P k L x = rD P x := by
  unfold lyF
  rw [if_neg h7, if_neg (by omega), if_neg (by omega)]
/-- what is known before the row is laid -/
def LyH (M0 : ZM) (P : PS) (b : Nat → Int32) (n : Nat) : Prop := PW P ∧ PE b n P ∧ n ≤ 500 ∧ ∃ i, i ≤ 500 ∧ RPS M0 P i
def bnB (P : PS) (k : Nat) : Bool := (cC P).isEmpty || hv (pvl (rD P) k) (cC P)
theorem CE.emp {h : Nat} {L : List CdS} (hc : CE h L) : L.isEmpty = false := by
  have := hc.ne
  cases L with
  | nil => simp at this
  | cons x t => rfl
variable {b : Nat → Int32} {n : Nat}
theorem LyI.hr (hk : k < 10) (h : LyI M0 M (lyF P k L)) : HRr M (rD P) k := by
  refine ⟨?_, ?_, ?_, ?_⟩ <;> rw [h.2 _ (by omega)] <;> exact lyF_lo (by omega) (by omega)
theorem ly_hold {s : Nat} {st : List CdS} (hs : s < 3) (hS : Sh R) (hH : LyH M0 P b n) (hk : k < 10) (h : LyI M0 M (lyF P k L)) (hst : st = if s = 0 then cA P else if s = 1 then cB P else cC P) (hc : CE 11 st) : ∃ M', cal (d + 1) 141 [.ref 127, .int (nI s), .int (nI k)] M R = some (.inl (some (.int (b2i (hv (pvl (rD P) k) st)))), M', R) ∧ LyI M0 M' (lyF P k L) := by
  obtain ⟨hW, hE, hn, i, hi, q1, q2, q3, C, c1, c2, c3, c4, c5⟩ := hH
  have hg : RSg M0 C s st := by
    rcases (show s = 0 ∨ s = 1 ∨ s = 2 by omega) with rfl | rfl | rfl
    · rw [hst]; exact c3
    · rw [hst]; exact c4
    · rw [hst]; exact c5
  obtain ⟨M', g1, g2⟩ := holdsR_ (d := d) (M := M) hS hs (by omega) (h.hr hk) (c1.fr (by rw [h.1 _ (by decide) (by decide)]) (h.1 _ (by decide) (by decide))) (by omega) (hg.fr (by rw [h.1 _ (by decide) (by decide)]) (by rw [h.1 _ (by decide) (by decide)])) hc
  exact ⟨M', g1, h.cell g2⟩
theorem ly_b {vc c0 c1 : Int32} {v5 v6 : Value} (hS : Sh R) (hH : LyH M0 P b n) (hk : k < jn (rD P)) (h : LyI M0 M (lyF P k L)) : ∃ M1, LyI M0 M1 (lyF P k L) ∧ exe (d + 2) 142 9 [.ref 127, .int vc, .int c0, .int c1, .int (nI k), v5, v6] [] M R = exe (d + 2) 142 48 [.ref 127, .int vc, .int c0, .int c1, .int (nI k), .int (b2i (bnB P k)), v6] [] M1 R := by
  obtain ⟨nN, k127, k128, l128, k129, l129, k130, l130, k131, l131, k132, l132, k133, l133, k134, l134, k135, l135, k136, l136, k137, l137, k138, l138, k139, l139, k140, l140, k141, l141, k142, l142, k143, l143, k144, l144, k145, l145, k146, l146, f127_1, f127_2, f127_3, f127_4, f127_6, f127_7, f127_17, f127_18, f127_19, f127_22, f127_24, f127_25, f127_26, f127_29, f127_30, f127_31, f127_32, f127_33⟩ := modF hS
  have hJ := hH.1.1.1.2
  have hT := hH.1.2.2.2.2.2.1
  have k0 : M 130 0 = nI (jn (rD P)) := by rw [h.2 _ (by decide), lyF_lo (by decide) (by decide)]; exact hH.1.1.1.1
  have k16 : M 127 16 = nI (tL P) := by
    obtain ⟨i, hi, q⟩ := hH.2.2.2
    rw [h.1 _ (by decide) (by decide)]; exact q.2.2.1.1
  have z : ¬ jn (rD P) ≤ k := by omega
  have gh := has_ (d := d + 1) (M := M) (R := R) (S := tL P) (k := 4) (by omega) (by decide)
  obtain ⟨pe1, pe2⟩ := hH.2.1.2.2
  cases ht : (tL P).testBit 4
  · rw [ht] at gh
    have gh' : cal (d + 1) 108 [.int (nI (tL P)), .int (nI 4)] M R = some (.inl (some (.int (nI 0))), M, R) := gh
    have eb : bnB P k = true := by unfold bnB; rw [pe1 ht]; rfl
    rw [eb]
    refine ⟨M, h, ?_⟩
    rw [q142_9]
    simp (disch := first | assumption | exact nar_b0 | exact nar_b1 | exact nar_b | exact Or.inl rfl | exact Or.inr rfl | exact zin_t (by omega) (by omega) | exact Nat.le_of_ble_eq_true rfl | (rw [nI_cl (by omega)]; assumption) | omega) only [↓reduceIte, reduceCtorEq, not_true_eq_false, not_false_eq_true, q142_0, q142_1, q142_2, q142_3, q142_4, q142_5, q142_6, q142_7, q142_11, q142_12, q142_15, q142_16, q142_17, q142_20, q142_21, q142_24, q142_25, q142_28, q142_31, q142_32, q142_33, q142_35, q142_38, q142_41, q142_42, q142_45, q142_46, q142_49, q142_52, q142_54, q142_57, q142_60, q142_61, q142_62, q142_65, q142_68, q142_70, q142_73, q142_74, q142_75, q142_77, q142_80, q142_83, q142_84, q142_87, q142_89, q142_91, q142_92, q142_93, q142_94, q142_97, q142_100, q142_101, q142_104, q142_106, q142_109, q142_112, q142_113, q142_114, q142_117, q142_120, q142_122, q142_125, q142_126, q142_127, q142_129, q142_132, q142_135, q142_136, q142_139, q142_141, q142_143, q142_144, q142_145, q142_146, q142_149, q142_150, q142_153, q142_155, q142_157, q142_158, q142_159, q142_160, q142_163, q142_164, q142_166, q142_169, q142_172, q142_175, q142_178, q142_181, q142_182, q142_185, q142_186, q142_187, q142_190, q142_191, q142_192, q142_196, q142_197, q142_200, q142_203, q142_204, q142_207, q142_208, q142_209, q142_211, q142_212, q142_214, q142_215, q142_219, q142_220, q142_223, q142_224, q142_227, q142_229, q142_230, q142_232, q142_233, q142_234, q142_236, q142_237, q142_238, q142_241, q142_242, q142_244, q142_245, q142_247, q142_248, q142_249, q142_250, q142_253, q142_256, q142_258, q142_259, q142_262, q142_263, q142_265, q142_268, q142_271, q142_274, kl_int, kl_ref, kl_tok, cS_nil, cS_int, cS_ref, cS_long, tl_some, tl_none, List.cons_append, List.nil_append, nI_add, nI_ltb, nI_leb, nI_eqb, nI_cl, zin_nI, k0, z, k16, gh', zk0_inl, b2i_t]
  · rw [ht] at gh
    have gh' : cal (d + 1) 108 [.int (nI (tL P)), .int (nI 4)] M R = some (.inl (some (.int (nI 1))), M, R) := gh
    have hce := (pe2 ht).ce
    have eb : bnB P k = hv (pvl (rD P) k) (cC P) := by unfold bnB; rw [hce.emp]; rfl
    rw [eb]
    obtain ⟨M1, g1, g2⟩ := ly_hold (d := d) (s := 2) (st := cC P) (by decide) hS hH (by omega) h rfl hce
    refine ⟨M1, g2, ?_⟩
    generalize hv (pvl (rD P) k) (cC P) = v at g1 ⊢
    rw [q142_9]
    cases v
    · have g1' : cal (d + 1) 141 [.ref 127, .int (nI 2), .int (nI k)] M R = some (.inl (some (.int (nI 0))), M1, R) := g1
      simp (disch := first | assumption | exact nar_b0 | exact nar_b1 | exact nar_b | exact Or.inl rfl | exact Or.inr rfl | exact zin_t (by omega) (by omega) | exact Nat.le_of_ble_eq_true rfl | (rw [nI_cl (by omega)]; assumption) | omega) only [↓reduceIte, reduceCtorEq, not_true_eq_false, not_false_eq_true, q142_0, q142_1, q142_2, q142_3, q142_4, q142_5, q142_6, q142_7, q142_11, q142_12, q142_15, q142_16, q142_17, q142_20, q142_21, q142_24, q142_25, q142_28, q142_31, q142_32, q142_33, q142_35, q142_38, q142_41, q142_42, q142_45, q142_46, q142_49, q142_52, q142_54, q142_57, q142_60, q142_61, q142_62, q142_65, q142_68, q142_70, q142_73, q142_74, q142_75, q142_77, q142_80, q142_83, q142_84, q142_87, q142_89, q142_91, q142_92, q142_93, q142_94, q142_97, q142_100, q142_101, q142_104, q142_106, q142_109, q142_112, q142_113, q142_114, q142_117, q142_120, q142_122, q142_125, q142_126, q142_127, q142_129, q142_132, q142_135, q142_136, q142_139, q142_141, q142_143, q142_144, q142_145, q142_146, q142_149, q142_150, q142_153, q142_155, q142_157, q142_158, q142_159, q142_160, q142_163, q142_164, q142_166, q142_169, q142_172, q142_175, q142_178, q142_181, q142_182, q142_185, q142_186, q142_187, q142_190, q142_191, q142_192, q142_196, q142_197, q142_200, q142_203, q142_204, q142_207, q142_208, q142_209, q142_211, q142_212, q142_214, q142_215, q142_219, q142_220, q142_223, q142_224, q142_227, q142_229, q142_230, q142_232, q142_233, q142_234, q142_236, q142_237, q142_238, q142_241, q142_242, q142_244, q142_245, q142_247, q142_248, q142_249, q142_250, q142_253, q142_256, q142_258, q142_259, q142_262, q142_263, q142_265, q142_268, q142_271, q142_274, kl_int, kl_ref, kl_tok, cS_nil, cS_int, cS_ref, cS_long, tl_some, tl_none, List.cons_append, List.nil_append, nI_add, nI_ltb, nI_leb, nI_eqb, nI_cl, zin_nI, k0, z, k16, gh', zk0_inl, b2i_ne1, g1', b2i_f]
    · have g1' : cal (d + 1) 141 [.ref 127, .int (nI 2), .int (nI k)] M R = some (.inl (some (.int (nI 1))), M1, R) := g1
      simp (disch := first | assumption | exact nar_b0 | exact nar_b1 | exact nar_b | exact Or.inl rfl | exact Or.inr rfl | exact zin_t (by omega) (by omega) | exact Nat.le_of_ble_eq_true rfl | (rw [nI_cl (by omega)]; assumption) | omega) only [↓reduceIte, reduceCtorEq, not_true_eq_false, not_false_eq_true, q142_0, q142_1, q142_2, q142_3, q142_4, q142_5, q142_6, q142_7, q142_11, q142_12, q142_15, q142_16, q142_17, q142_20, q142_21, q142_24, q142_25, q142_28, q142_31, q142_32, q142_33, q142_35, q142_38, q142_41, q142_42, q142_45, q142_46, q142_49, q142_52, q142_54, q142_57, q142_60, q142_61, q142_62, q142_65, q142_68, q142_70, q142_73, q142_74, q142_75, q142_77, q142_80, q142_83, q142_84, q142_87, q142_89, q142_91, q142_92, q142_93, q142_94, q142_97, q142_100, q142_101, q142_104, q142_106, q142_109, q142_112, q142_113, q142_114, q142_117, q142_120, q142_122, q142_125, q142_126, q142_127, q142_129, q142_132, q142_135, q142_136, q142_139, q142_141, q142_143, q142_144, q142_145, q142_146, q142_149, q142_150, q142_153, q142_155, q142_157, q142_158, q142_159, q142_160, q142_163, q142_164, q142_166, q142_169, q142_172, q142_175, q142_178, q142_181, q142_182, q142_185, q142_186, q142_187, q142_190, q142_191, q142_192, q142_196, q142_197, q142_200, q142_203, q142_204, q142_207, q142_208, q142_209, q142_211, q142_212, q142_214, q142_215, q142_219, q142_220, q142_223, q142_224, q142_227, q142_229, q142_230, q142_232, q142_233, q142_234, q142_236, q142_237, q142_238, q142_241, q142_242, q142_244, q142_245, q142_247, q142_248, q142_249, q142_250, q142_253, q142_256, q142_258, q142_259, q142_262, q142_263, q142_265, q142_268, q142_271, q142_274, kl_int, kl_ref, kl_tok, cS_nil, cS_int, cS_ref, cS_long, tl_some, tl_none, List.cons_append, List.nil_append, nI_add, nI_ltb, nI_leb, nI_eqb, nI_cl, zin_nI, k0, z, k16, gh', zk0_inl, b2i_ne1, g1', b2i_t]
theorem ly_A {c0 g : Nat} {vc c1 : Int32} {v6 : Value} (hS : Sh R) (hH : LyH M0 P b n) (hg : gR P = (g : Int)) (hc0 : c0 ≤ 10) (hk : k < jn (rD P)) (h : LyI M0 M (lyF P k L)) : ∃ M1, LyI M0 M1 (lyF P k L) ∧ ((((c0 : Int) < gR P ∧ caB P 0 k = true) → exe (d + 2) 142 48 [.ref 127, .int vc, .int (nI c0), .int c1, .int (nI k), .int (b2i (bnB P k)), v6] [] M R = exe (d + 2) 142 83 [.ref 127, .int vc, .int (nI c0), .int c1, .int (nI k), .int (b2i (bnB P k)), v6] [] M1 R) ∧ (¬ ((c0 : Int) < gR P ∧ caB P 0 k = true) → exe (d + 2) 142 48 [.ref 127, .int vc, .int (nI c0), .int c1, .int (nI k), .int (b2i (bnB P k)), v6] [] M R = exe (d + 2) 142 100 [.ref 127, .int vc, .int (nI c0), .int c1, .int (nI k), .int (b2i (bnB P k)), v6] [] M1 R)) := by
  obtain ⟨nN, k127, k128, l128, k129, l129, k130, l130, k131, l131, k132, l132, k133, l133, k134, l134, k135, l135, k136, l136, k137, l137, k138, l138, k139, l139, k140, l140, k141, l141, k142, l142, k143, l143, k144, l144, k145, l145, k146, l146, f127_1, f127_2, f127_3, f127_4, f127_6, f127_7, f127_17, f127_18, f127_19, f127_22, f127_24, f127_25, f127_26, f127_29, f127_30, f127_31, f127_32, f127_33⟩ := modF hS
  have hJ := hH.1.1.1.2
  have hT := hH.1.2.2.2.2.2.1
  have hG := hH.1.2.2.2.2.2.2
  obtain ⟨k16, k21⟩ : M 127 16 = nI (tL P) ∧ M 127 21 = nI g := by
    obtain ⟨i, hi, q⟩ := hH.2.2.2
    rw [h.1 _ (by decide) (by decide)]; exact ⟨q.2.2.1.1, by rw [q.2.2.1.2.1, hg, nI_iI]⟩
  have gh := has_ (d := d + 1) (M := M) (R := R) (S := tL P) (k := 6) (by omega) (by decide)
  obtain ⟨pe1, pe2⟩ := hH.2.1.1
  have ec : caB P 0 k = (hv (pvl (rD P) k) (cA P) && bnB P k) := rfl
  rw [ec, hg]
  cases ht : (tL P).testBit 6
  · rw [ht] at gh
    have gh' : cal (d + 1) 108 [.int (nI (tL P)), .int (nI 6)] M R = some (.inl (some (.int (nI 0))), M, R) := gh
    refine ⟨M, h, fun ⟨_, q⟩ => ?_, fun _ => ?_⟩
    · rw [pe1 ht] at q
      cases q
    · simp (disch := first | assumption | exact nar_b0 | exact nar_b1 | exact nar_b | exact Or.inl rfl | exact Or.inr rfl | exact zin_t (by omega) (by omega) | exact Nat.le_of_ble_eq_true rfl | (rw [nI_cl (by omega)]; assumption) | omega) only [↓reduceIte, reduceCtorEq, not_true_eq_false, not_false_eq_true, q142_0, q142_1, q142_2, q142_3, q142_4, q142_5, q142_6, q142_7, q142_11, q142_12, q142_15, q142_16, q142_17, q142_20, q142_21, q142_24, q142_25, q142_28, q142_31, q142_32, q142_33, q142_35, q142_38, q142_41, q142_42, q142_45, q142_46, q142_48, q142_49, q142_52, q142_54, q142_57, q142_60, q142_61, q142_62, q142_65, q142_68, q142_70, q142_73, q142_74, q142_75, q142_77, q142_80, q142_84, q142_87, q142_89, q142_91, q142_92, q142_93, q142_94, q142_97, q142_101, q142_104, q142_106, q142_109, q142_112, q142_113, q142_114, q142_117, q142_120, q142_122, q142_125, q142_126, q142_127, q142_129, q142_132, q142_135, q142_136, q142_139, q142_141, q142_143, q142_144, q142_145, q142_146, q142_149, q142_150, q142_153, q142_155, q142_157, q142_158, q142_159, q142_160, q142_163, q142_164, q142_166, q142_169, q142_172, q142_175, q142_178, q142_181, q142_182, q142_185, q142_186, q142_187, q142_190, q142_191, q142_192, q142_196, q142_197, q142_200, q142_203, q142_204, q142_207, q142_208, q142_209, q142_211, q142_212, q142_214, q142_215, q142_219, q142_220, q142_223, q142_224, q142_227, q142_229, q142_230, q142_232, q142_233, q142_234, q142_236, q142_237, q142_238, q142_241, q142_242, q142_244, q142_245, q142_247, q142_248, q142_249, q142_250, q142_253, q142_256, q142_258, q142_259, q142_262, q142_263, q142_265, q142_268, q142_271, q142_274, kl_int, kl_ref, kl_tok, cS_nil, cS_int, cS_ref, cS_long, tl_some, tl_none, List.cons_append, List.nil_append, nI_add, nI_ltb, nI_leb, nI_eqb, nI_cl, zin_nI, k16, gh', zk0_inl]
  · rw [ht] at gh
    have gh' : cal (d + 1) 108 [.int (nI (tL P)), .int (nI 6)] M R = some (.inl (some (.int (nI 1))), M, R) := gh
    by_cases y : g ≤ c0
    · refine ⟨M, h, fun ⟨q, _⟩ => (by omega), fun _ => ?_⟩
      simp (disch := first | assumption | exact nar_b0 | exact nar_b1 | exact nar_b | exact Or.inl rfl | exact Or.inr rfl | exact zin_t (by omega) (by omega) | exact Nat.le_of_ble_eq_true rfl | (rw [nI_cl (by omega)]; assumption) | omega) only [↓reduceIte, reduceCtorEq, not_true_eq_false, not_false_eq_true, q142_0, q142_1, q142_2, q142_3, q142_4, q142_5, q142_6, q142_7, q142_11, q142_12, q142_15, q142_16, q142_17, q142_20, q142_21, q142_24, q142_25, q142_28, q142_31, q142_32, q142_33, q142_35, q142_38, q142_41, q142_42, q142_45, q142_46, q142_48, q142_49, q142_52, q142_54, q142_57, q142_60, q142_61, q142_62, q142_65, q142_68, q142_70, q142_73, q142_74, q142_75, q142_77, q142_80, q142_84, q142_87, q142_89, q142_91, q142_92, q142_93, q142_94, q142_97, q142_101, q142_104, q142_106, q142_109, q142_112, q142_113, q142_114, q142_117, q142_120, q142_122, q142_125, q142_126, q142_127, q142_129, q142_132, q142_135, q142_136, q142_139, q142_141, q142_143, q142_144, q142_145, q142_146, q142_149, q142_150, q142_153, q142_155, q142_157, q142_158, q142_159, q142_160, q142_163, q142_164, q142_166, q142_169, q142_172, q142_175, q142_178, q142_181, q142_182, q142_185, q142_186, q142_187, q142_190, q142_191, q142_192, q142_196, q142_197, q142_200, q142_203, q142_204, q142_207, q142_208, q142_209, q142_211, q142_212, q142_214, q142_215, q142_219, q142_220, q142_223, q142_224, q142_227, q142_229, q142_230, q142_232, q142_233, q142_234, q142_236, q142_237, q142_238, q142_241, q142_242, q142_244, q142_245, q142_247, q142_248, q142_249, q142_250, q142_253, q142_256, q142_258, q142_259, q142_262, q142_263, q142_265, q142_268, q142_271, q142_274, kl_int, kl_ref, kl_tok, cS_nil, cS_int, cS_ref, cS_long, tl_some, tl_none, List.cons_append, List.nil_append, nI_add, nI_ltb, nI_leb, nI_eqb, nI_cl, zin_nI, k16, k21, gh', zk0_inl, b2i_ne1, y]
    · have y2 : (c0 : Int) < (g : Int) := by omega
      generalize bnB P k = bb
      cases bb
      · refine ⟨M, h, fun ⟨_, q⟩ => (by rw [Bool.and_false] at q; cases q), fun _ => ?_⟩
        simp (disch := first | assumption | exact nar_b0 | exact nar_b1 | exact nar_b | exact Or.inl rfl | exact Or.inr rfl | exact zin_t (by omega) (by omega) | exact Nat.le_of_ble_eq_true rfl | (rw [nI_cl (by omega)]; assumption) | omega) only [↓reduceIte, reduceCtorEq, not_true_eq_false, not_false_eq_true, q142_0, q142_1, q142_2, q142_3, q142_4, q142_5, q142_6, q142_7, q142_11, q142_12, q142_15, q142_16, q142_17, q142_20, q142_21, q142_24, q142_25, q142_28, q142_31, q142_32, q142_33, q142_35, q142_38, q142_41, q142_42, q142_45, q142_46, q142_48, q142_49, q142_52, q142_54, q142_57, q142_60, q142_61, q142_62, q142_65, q142_68, q142_70, q142_73, q142_74, q142_75, q142_77, q142_80, q142_84, q142_87, q142_89, q142_91, q142_92, q142_93, q142_94, q142_97, q142_101, q142_104, q142_106, q142_109, q142_112, q142_113, q142_114, q142_117, q142_120, q142_122, q142_125, q142_126, q142_127, q142_129, q142_132, q142_135, q142_136, q142_139, q142_141, q142_143, q142_144, q142_145, q142_146, q142_149, q142_150, q142_153, q142_155, q142_157, q142_158, q142_159, q142_160, q142_163, q142_164, q142_166, q142_169, q142_172, q142_175, q142_178, q142_181, q142_182, q142_185, q142_186, q142_187, q142_190, q142_191, q142_192, q142_196, q142_197, q142_200, q142_203, q142_204, q142_207, q142_208, q142_209, q142_211, q142_212, q142_214, q142_215, q142_219, q142_220, q142_223, q142_224, q142_227, q142_229, q142_230, q142_232, q142_233, q142_234, q142_236, q142_237, q142_238, q142_241, q142_242, q142_244, q142_245, q142_247, q142_248, q142_249, q142_250, q142_253, q142_256, q142_258, q142_259, q142_262, q142_263, q142_265, q142_268, q142_271, q142_274, kl_int, kl_ref, kl_tok, cS_nil, cS_int, cS_ref, cS_long, tl_some, tl_none, List.cons_append, List.nil_append, nI_add, nI_ltb, nI_leb, nI_eqb, nI_cl, zin_nI, k16, k21, gh', zk0_inl, b2i_ne1, y, b2i_f]
      · have hce := (pe2 ht).ce
        obtain ⟨M1, g1, g2⟩ := ly_hold (d := d) (s := 0) (st := cA P) (by decide) hS hH (by omega) h rfl hce
        generalize hv (pvl (rD P) k) (cA P) = v at g1 ⊢
        refine ⟨M1, g2, ?_⟩
        cases v
        · have g1' : cal (d + 1) 141 [.ref 127, .int (nI 0), .int (nI k)] M R = some (.inl (some (.int (nI 0))), M1, R) := g1
          refine ⟨fun ⟨_, q⟩ => (by cases q), fun _ => ?_⟩
          simp (disch := first | assumption | exact nar_b0 | exact nar_b1 | exact nar_b | exact Or.inl rfl | exact Or.inr rfl | exact zin_t (by omega) (by omega) | exact Nat.le_of_ble_eq_true rfl | (rw [nI_cl (by omega)]; assumption) | omega) only [↓reduceIte, reduceCtorEq, not_true_eq_false, not_false_eq_true, q142_0, q142_1, q142_2, q142_3, q142_4, q142_5, q142_6, q142_7, q142_11, q142_12, q142_15, q142_16, q142_17, q142_20, q142_21, q142_24, q142_25, q142_28, q142_31, q142_32, q142_33, q142_35, q142_38, q142_41, q142_42, q142_45, q142_46, q142_48, q142_49, q142_52, q142_54, q142_57, q142_60, q142_61, q142_62, q142_65, q142_68, q142_70, q142_73, q142_74, q142_75, q142_77, q142_80, q142_84, q142_87, q142_89, q142_91, q142_92, q142_93, q142_94, q142_97, q142_101, q142_104, q142_106, q142_109, q142_112, q142_113, q142_114, q142_117, q142_120, q142_122, q142_125, q142_126, q142_127, q142_129, q142_132, q142_135, q142_136, q142_139, q142_141, q142_143, q142_144, q142_145, q142_146, q142_149, q142_150, q142_153, q142_155, q142_157, q142_158, q142_159, q142_160, q142_163, q142_164, q142_166, q142_169, q142_172, q142_175, q142_178, q142_181, q142_182, q142_185, q142_186, q142_187, q142_190, q142_191, q142_192, q142_196, q142_197, q142_200, q142_203, q142_204, q142_207, q142_208, q142_209, q142_211, q142_212, q142_214, q142_215, q142_219, q142_220, q142_223, q142_224, q142_227, q142_229, q142_230, q142_232, q142_233, q142_234, q142_236, q142_237, q142_238, q142_241, q142_242, q142_244, q142_245, q142_247, q142_248, q142_249, q142_250, q142_253, q142_256, q142_258, q142_259, q142_262, q142_263, q142_265, q142_268, q142_271, q142_274, kl_int, kl_ref, kl_tok, cS_nil, cS_int, cS_ref, cS_long, tl_some, tl_none, List.cons_append, List.nil_append, nI_add, nI_ltb, nI_leb, nI_eqb, nI_cl, zin_nI, k16, k21, gh', zk0_inl, b2i_ne1, y, b2i_t, g1']
        · have g1' : cal (d + 1) 141 [.ref 127, .int (nI 0), .int (nI k)] M R = some (.inl (some (.int (nI 1))), M1, R) := g1
          refine ⟨fun _ => ?_, fun q => absurd ⟨y2, rfl⟩ q⟩
          simp (disch := first | assumption | exact nar_b0 | exact nar_b1 | exact nar_b | exact Or.inl rfl | exact Or.inr rfl | exact zin_t (by omega) (by omega) | exact Nat.le_of_ble_eq_true rfl | (rw [nI_cl (by omega)]; assumption) | omega) only [↓reduceIte, reduceCtorEq, not_true_eq_false, not_false_eq_true, q142_0, q142_1, q142_2, q142_3, q142_4, q142_5, q142_6, q142_7, q142_11, q142_12, q142_15, q142_16, q142_17, q142_20, q142_21, q142_24, q142_25, q142_28, q142_31, q142_32, q142_33, q142_35, q142_38, q142_41, q142_42, q142_45, q142_46, q142_48, q142_49, q142_52, q142_54, q142_57, q142_60, q142_61, q142_62, q142_65, q142_68, q142_70, q142_73, q142_74, q142_75, q142_77, q142_80, q142_84, q142_87, q142_89, q142_91, q142_92, q142_93, q142_94, q142_97, q142_101, q142_104, q142_106, q142_109, q142_112, q142_113, q142_114, q142_117, q142_120, q142_122, q142_125, q142_126, q142_127, q142_129, q142_132, q142_135, q142_136, q142_139, q142_141, q142_143, q142_144, q142_145, q142_146, q142_149, q142_150, q142_153, q142_155, q142_157, q142_158, q142_159, q142_160, q142_163, q142_164, q142_166, q142_169, q142_172, q142_175, q142_178, q142_181, q142_182, q142_185, q142_186, q142_187, q142_190, q142_191, q142_192, q142_196, q142_197, q142_200, q142_203, q142_204, q142_207, q142_208, q142_209, q142_211, q142_212, q142_214, q142_215, q142_219, q142_220, q142_223, q142_224, q142_227, q142_229, q142_230, q142_232, q142_233, q142_234, q142_236, q142_237, q142_238, q142_241, q142_242, q142_244, q142_245, q142_247, q142_248, q142_249, q142_250, q142_253, q142_256, q142_258, q142_259, q142_262, q142_263, q142_265, q142_268, q142_271, q142_274, kl_int, kl_ref, kl_tok, cS_nil, cS_int, cS_ref, cS_long, tl_some, tl_none, List.cons_append, List.nil_append, nI_add, nI_ltb, nI_leb, nI_eqb, nI_cl, zin_nI, k16, k21, gh', zk0_inl, b2i_ne1, y, b2i_t, g1']
theorem ly_B {c1 g : Nat} {vc c0 : Int32} {v6 : Value} (hS : Sh R) (hH : LyH M0 P b n) (hg : gR P = (g : Int)) (hc0 : c1 ≤ 10) (hk : k < jn (rD P)) (h : LyI M0 M (lyF P k L)) : ∃ M1, LyI M0 M1 (lyF P k L) ∧ ((((c1 : Int) < gR P ∧ caB P 1 k = true) → exe (d + 2) 142 100 [.ref 127, .int vc, .int c0, .int (nI c1), .int (nI k), .int (b2i (bnB P k)), v6] [] M R = exe (d + 2) 142 135 [.ref 127, .int vc, .int c0, .int (nI c1), .int (nI k), .int (b2i (bnB P k)), v6] [] M1 R) ∧ (¬ ((c1 : Int) < gR P ∧ caB P 1 k = true) → exe (d + 2) 142 100 [.ref 127, .int vc, .int c0, .int (nI c1), .int (nI k), .int (b2i (bnB P k)), v6] [] M R = exe (d + 2) 142 149 [.ref 127, .int vc, .int c0, .int (nI c1), .int (nI k), .int (b2i (bnB P k)), v6] [] M1 R)) := by
  obtain ⟨nN, k127, k128, l128, k129, l129, k130, l130, k131, l131, k132, l132, k133, l133, k134, l134, k135, l135, k136, l136, k137, l137, k138, l138, k139, l139, k140, l140, k141, l141, k142, l142, k143, l143, k144, l144, k145, l145, k146, l146, f127_1, f127_2, f127_3, f127_4, f127_6, f127_7, f127_17, f127_18, f127_19, f127_22, f127_24, f127_25, f127_26, f127_29, f127_30, f127_31, f127_32, f127_33⟩ := modF hS
  have hJ := hH.1.1.1.2
  have hT := hH.1.2.2.2.2.2.1
  have hG := hH.1.2.2.2.2.2.2
  obtain ⟨k16, k21⟩ : M 127 16 = nI (tL P) ∧ M 127 21 = nI g := by
    obtain ⟨i, hi, q⟩ := hH.2.2.2
    rw [h.1 _ (by decide) (by decide)]; exact ⟨q.2.2.1.1, by rw [q.2.2.1.2.1, hg, nI_iI]⟩
  have gh := has_ (d := d + 1) (M := M) (R := R) (S := tL P) (k := 7) (by omega) (by decide)
  obtain ⟨pe1, pe2⟩ := hH.2.1.2.1
  have ec : caB P 1 k = (hv (pvl (rD P) k) (cB P) && bnB P k) := rfl
  rw [ec, hg]
  cases ht : (tL P).testBit 7
  · rw [ht] at gh
    have gh' : cal (d + 1) 108 [.int (nI (tL P)), .int (nI 7)] M R = some (.inl (some (.int (nI 0))), M, R) := gh
    refine ⟨M, h, fun ⟨_, q⟩ => ?_, fun _ => ?_⟩
    · rw [pe1 ht] at q
      cases q
    · simp (disch := first | assumption | exact nar_b0 | exact nar_b1 | exact nar_b | exact Or.inl rfl | exact Or.inr rfl | exact zin_t (by omega) (by omega) | exact Nat.le_of_ble_eq_true rfl | (rw [nI_cl (by omega)]; assumption) | omega) only [↓reduceIte, reduceCtorEq, not_true_eq_false, not_false_eq_true, q142_0, q142_1, q142_2, q142_3, q142_4, q142_5, q142_6, q142_7, q142_11, q142_12, q142_15, q142_16, q142_17, q142_20, q142_21, q142_24, q142_25, q142_28, q142_31, q142_32, q142_33, q142_35, q142_38, q142_41, q142_42, q142_45, q142_46, q142_48, q142_49, q142_52, q142_54, q142_57, q142_60, q142_61, q142_62, q142_65, q142_68, q142_70, q142_73, q142_74, q142_75, q142_77, q142_80, q142_83, q142_84, q142_87, q142_89, q142_91, q142_92, q142_93, q142_94, q142_97, q142_100, q142_101, q142_104, q142_106, q142_109, q142_112, q142_113, q142_114, q142_117, q142_120, q142_122, q142_125, q142_126, q142_127, q142_129, q142_132, q142_136, q142_139, q142_141, q142_143, q142_144, q142_145, q142_146, q142_150, q142_153, q142_155, q142_157, q142_158, q142_159, q142_160, q142_163, q142_164, q142_166, q142_169, q142_172, q142_175, q142_178, q142_181, q142_182, q142_185, q142_186, q142_187, q142_190, q142_191, q142_192, q142_196, q142_197, q142_200, q142_203, q142_204, q142_207, q142_208, q142_209, q142_211, q142_212, q142_214, q142_215, q142_219, q142_220, q142_223, q142_224, q142_227, q142_229, q142_230, q142_232, q142_233, q142_234, q142_236, q142_237, q142_238, q142_241, q142_242, q142_244, q142_245, q142_247, q142_248, q142_249, q142_250, q142_253, q142_256, q142_258, q142_259, q142_262, q142_263, q142_265, q142_268, q142_271, q142_274, kl_int, kl_ref, kl_tok, cS_nil, cS_int, cS_ref, cS_long, tl_some, tl_none, List.cons_append, List.nil_append, nI_add, nI_ltb, nI_leb, nI_eqb, nI_cl, zin_nI, k16, gh', zk0_inl]
  · rw [ht] at gh
    have gh' : cal (d + 1) 108 [.int (nI (tL P)), .int (nI 7)] M R = some (.inl (some (.int (nI 1))), M, R) := gh
    by_cases y : g ≤ c1
    · refine ⟨M, h, fun ⟨q, _⟩ => (by omega), fun _ => ?_⟩
      simp (disch := first | assumption | exact nar_b0 | exact nar_b1 | exact nar_b | exact Or.inl rfl | exact Or.inr rfl | exact zin_t (by omega) (by omega) | exact Nat.le_of_ble_eq_true rfl | (rw [nI_cl (by omega)]; assumption) | omega) only [↓reduceIte, reduceCtorEq, not_true_eq_false, not_false_eq_true, q142_0, q142_1, q142_2, q142_3, q142_4, q142_5, q142_6, q142_7, q142_11, q142_12, q142_15, q142_16, q142_17, q142_20, q142_21, q142_24, q142_25, q142_28, q142_31, q142_32, q142_33, q142_35, q142_38, q142_41, q142_42, q142_45, q142_46, q142_48, q142_49, q142_52, q142_54, q142_57, q142_60, q142_61, q142_62, q142_65, q142_68, q142_70, q142_73, q142_74, q142_75, q142_77, q142_80, q142_83, q142_84, q142_87, q142_89, q142_91, q142_92, q142_93, q142_94, q142_97, q142_100, q142_101, q142_104, q142_106, q142_109, q142_112, q142_113, q142_114, q142_117, q142_120, q142_122, q142_125, q142_126, q142_127, q142_129, q142_132, q142_136, q142_139, q142_141, q142_143, q142_144, q142_145, q142_146, q142_150, q142_153, q142_155, q142_157, q142_158, q142_159, q142_160, q142_163, q142_164, q142_166, q142_169, q142_172, q142_175, q142_178, q142_181, q142_182, q142_185, q142_186, q142_187, q142_190, q142_191, q142_192, q142_196, q142_197, q142_200, q142_203, q142_204, q142_207, q142_208, q142_209, q142_211, q142_212, q142_214, q142_215, q142_219, q142_220, q142_223, q142_224, q142_227, q142_229, q142_230, q142_232, q142_233, q142_234, q142_236, q142_237, q142_238, q142_241, q142_242, q142_244, q142_245, q142_247, q142_248, q142_249, q142_250, q142_253, q142_256, q142_258, q142_259, q142_262, q142_263, q142_265, q142_268, q142_271, q142_274, kl_int, kl_ref, kl_tok, cS_nil, cS_int, cS_ref, cS_long, tl_some, tl_none, List.cons_append, List.nil_append, nI_add, nI_ltb, nI_leb, nI_eqb, nI_cl, zin_nI, k16, k21, gh', zk0_inl, b2i_ne1, y]
    · have y2 : (c1 : Int) < (g : Int) := by omega
      generalize bnB P k = bb
      cases bb
      · refine ⟨M, h, fun ⟨_, q⟩ => (by rw [Bool.and_false] at q; cases q), fun _ => ?_⟩
        simp (disch := first | assumption | exact nar_b0 | exact nar_b1 | exact nar_b | exact Or.inl rfl | exact Or.inr rfl | exact zin_t (by omega) (by omega) | exact Nat.le_of_ble_eq_true rfl | (rw [nI_cl (by omega)]; assumption) | omega) only [↓reduceIte, reduceCtorEq, not_true_eq_false, not_false_eq_true, q142_0, q142_1, q142_2, q142_3, q142_4, q142_5, q142_6, q142_7, q142_11, q142_12, q142_15, q142_16, q142_17, q142_20, q142_21, q142_24, q142_25, q142_28, q142_31, q142_32, q142_33, q142_35, q142_38, q142_41, q142_42, q142_45, q142_46, q142_48, q142_49, q142_52, q142_54, q142_57, q142_60, q142_61, q142_62, q142_65, q142_68, q142_70, q142_73, q142_74, q142_75, q142_77, q142_80, q142_83, q142_84, q142_87, q142_89, q142_91, q142_92, q142_93, q142_94, q142_97, q142_100, q142_101, q142_104, q142_106, q142_109, q142_112, q142_113, q142_114, q142_117, q142_120, q142_122, q142_125, q142_126, q142_127, q142_129, q142_132, q142_136, q142_139, q142_141, q142_143, q142_144, q142_145, q142_146, q142_150, q142_153, q142_155, q142_157, q142_158, q142_159, q142_160, q142_163, q142_164, q142_166, q142_169, q142_172, q142_175, q142_178, q142_181, q142_182, q142_185, q142_186, q142_187, q142_190, q142_191, q142_192, q142_196, q142_197, q142_200, q142_203, q142_204, q142_207, q142_208, q142_209, q142_211, q142_212, q142_214, q142_215, q142_219, q142_220, q142_223, q142_224, q142_227, q142_229, q142_230, q142_232, q142_233, q142_234, q142_236, q142_237, q142_238, q142_241, q142_242, q142_244, q142_245, q142_247, q142_248, q142_249, q142_250, q142_253, q142_256, q142_258, q142_259, q142_262, q142_263, q142_265, q142_268, q142_271, q142_274, kl_int, kl_ref, kl_tok, cS_nil, cS_int, cS_ref, cS_long, tl_some, tl_none, List.cons_append, List.nil_append, nI_add, nI_ltb, nI_leb, nI_eqb, nI_cl, zin_nI, k16, k21, gh', zk0_inl, b2i_ne1, y, b2i_f]
      · have hce := (pe2 ht).ce
        obtain ⟨M1, g1, g2⟩ := ly_hold (d := d) (s := 1) (st := cB P) (by decide) hS hH (by omega) h rfl hce
        generalize hv (pvl (rD P) k) (cB P) = v at g1 ⊢
        refine ⟨M1, g2, ?_⟩
        cases v
        · have g1' : cal (d + 1) 141 [.ref 127, .int (nI 1), .int (nI k)] M R = some (.inl (some (.int (nI 0))), M1, R) := g1
          refine ⟨fun ⟨_, q⟩ => (by cases q), fun _ => ?_⟩
          simp (disch := first | assumption | exact nar_b0 | exact nar_b1 | exact nar_b | exact Or.inl rfl | exact Or.inr rfl | exact zin_t (by omega) (by omega) | exact Nat.le_of_ble_eq_true rfl | (rw [nI_cl (by omega)]; assumption) | omega) only [↓reduceIte, reduceCtorEq, not_true_eq_false, not_false_eq_true, q142_0, q142_1, q142_2, q142_3, q142_4, q142_5, q142_6, q142_7, q142_11, q142_12, q142_15, q142_16, q142_17, q142_20, q142_21, q142_24, q142_25, q142_28, q142_31, q142_32, q142_33, q142_35, q142_38, q142_41, q142_42, q142_45, q142_46, q142_48, q142_49, q142_52, q142_54, q142_57, q142_60, q142_61, q142_62, q142_65, q142_68, q142_70, q142_73, q142_74, q142_75, q142_77, q142_80, q142_83, q142_84, q142_87, q142_89, q142_91, q142_92, q142_93, q142_94, q142_97, q142_100, q142_101, q142_104, q142_106, q142_109, q142_112, q142_113, q142_114, q142_117, q142_120, q142_122, q142_125, q142_126, q142_127, q142_129, q142_132, q142_136, q142_139, q142_141, q142_143, q142_144, q142_145, q142_146, q142_150, q142_153, q142_155, q142_157, q142_158, q142_159, q142_160, q142_163, q142_164, q142_166, q142_169, q142_172, q142_175, q142_178, q142_181, q142_182, q142_185, q142_186, q142_187, q142_190, q142_191, q142_192, q142_196, q142_197, q142_200, q142_203, q142_204, q142_207, q142_208, q142_209, q142_211, q142_212, q142_214, q142_215, q142_219, q142_220, q142_223, q142_224, q142_227, q142_229, q142_230, q142_232, q142_233, q142_234, q142_236, q142_237, q142_238, q142_241, q142_242, q142_244, q142_245, q142_247, q142_248, q142_249, q142_250, q142_253, q142_256, q142_258, q142_259, q142_262, q142_263, q142_265, q142_268, q142_271, q142_274, kl_int, kl_ref, kl_tok, cS_nil, cS_int, cS_ref, cS_long, tl_some, tl_none, List.cons_append, List.nil_append, nI_add, nI_ltb, nI_leb, nI_eqb, nI_cl, zin_nI, k16, k21, gh', zk0_inl, b2i_ne1, y, b2i_t, g1']
        · have g1' : cal (d + 1) 141 [.ref 127, .int (nI 1), .int (nI k)] M R = some (.inl (some (.int (nI 1))), M1, R) := g1
          refine ⟨fun _ => ?_, fun q => absurd ⟨y2, rfl⟩ q⟩
          simp (disch := first | assumption | exact nar_b0 | exact nar_b1 | exact nar_b | exact Or.inl rfl | exact Or.inr rfl | exact zin_t (by omega) (by omega) | exact Nat.le_of_ble_eq_true rfl | (rw [nI_cl (by omega)]; assumption) | omega) only [↓reduceIte, reduceCtorEq, not_true_eq_false, not_false_eq_true, q142_0, q142_1, q142_2, q142_3, q142_4, q142_5, q142_6, q142_7, q142_11, q142_12, q142_15, q142_16, q142_17, q142_20, q142_21, q142_24, q142_25, q142_28, q142_31, q142_32, q142_33, q142_35, q142_38, q142_41, q142_42, q142_45, q142_46, q142_48, q142_49, q142_52, q142_54, q142_57, q142_60, q142_61, q142_62, q142_65, q142_68, q142_70, q142_73, q142_74, q142_75, q142_77, q142_80, q142_83, q142_84, q142_87, q142_89, q142_91, q142_92, q142_93, q142_94, q142_97, q142_100, q142_101, q142_104, q142_106, q142_109, q142_112, q142_113, q142_114, q142_117, q142_120, q142_122, q142_125, q142_126, q142_127, q142_129, q142_132, q142_136, q142_139, q142_141, q142_143, q142_144, q142_145, q142_146, q142_150, q142_153, q142_155, q142_157, q142_158, q142_159, q142_160, q142_163, q142_164, q142_166, q142_169, q142_172, q142_175, q142_178, q142_181, q142_182, q142_185, q142_186, q142_187, q142_190, q142_191, q142_192, q142_196, q142_197, q142_200, q142_203, q142_204, q142_207, q142_208, q142_209, q142_211, q142_212, q142_214, q142_215, q142_219, q142_220, q142_223, q142_224, q142_227, q142_229, q142_230, q142_232, q142_233, q142_234, q142_236, q142_237, q142_238, q142_241, q142_242, q142_244, q142_245, q142_247, q142_248, q142_249, q142_250, q142_253, q142_256, q142_258, q142_259, q142_262, q142_263, q142_265, q142_268, q142_271, q142_274, kl_int, kl_ref, kl_tok, cS_nil, cS_int, cS_ref, cS_long, tl_some, tl_none, List.cons_append, List.nil_append, nI_add, nI_ltb, nI_leb, nI_eqb, nI_cl, zin_nI, k16, k21, gh', zk0_inl, b2i_ne1, y, b2i_t, g1']
end Ru
