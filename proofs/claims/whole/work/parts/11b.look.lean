-- the reference looks back
theorem up2_twice {M : ZM} {a k : Nat} {v w : Int32} : up2 (up2 M a k v) a k w = up2 M a k w := by
  funext b j
  unfold up2
  split <;> rfl
theorem iI_pos0 {x : Int} (h1 : -2147483648 ≤ x) (h2 : x < 2147483648) : (nI 0 < iI x) = (0 < x) := by
  rw [nI_iI]
  exact iI_ltb (by decide) (by decide) h1 h2
theorem iI_eq0 {x : Int} (h1 : -2147483648 ≤ x) (h2 : x < 2147483648) : (iI x = nI 0) = (x = 0) := by
  rw [nI_iI]
  exact iI_eqb h1 h2 (by decide) (by decide)
def lokM (M : ZM) (t S : Nat) (w : Int × Int) (o : Option Nat) : ZM := up2 (up2 (up2 M 142 (1024 * t + S) (oI o)) 141 (2 * (1024 * t + S)) (iI (sdV 0 w))) 141 (2 * (1024 * t + S) + 1) (iI (sdV 1 w))
theorem lokM_fr {M : ZM} {t S : Nat} {w : Int × Int} {o : Option Nat} {c : Nat} (h1 : c ≠ 141) (h2 : c ≠ 142) : lokM M t S w o c = M c := by
  unfold lokM
  rw [up2_ne h1, up2_ne h1, up2_ne h2]
theorem lokM_v {M : ZM} {t S t' S' q : Nat} {w : Int × Int} {o : Option Nat} (hS : S < 1024) (hS' : S' < 1024) (hq : q < 2) : lokM M t S w o 141 (2 * (1024 * t' + S') + q) = if t' = t ∧ S' = S then iI (sdV q w) else M 141 (2 * (1024 * t' + S') + q) := by
  unfold lokM
  by_cases e : t' = t ∧ S' = S
  · obtain ⟨rfl, rfl⟩ := e
    rw [if_pos ⟨rfl, rfl⟩]
    rcases (show q = 0 ∨ q = 1 by omega) with rfl | rfl
    · rw [up2_s (by omega), Nat.add_zero, up2_at]
    · rw [up2_at]
  · rw [if_neg e, up2_s (by omega), up2_s (by omega), up2_c (by decide)]
theorem lokM_a {M : ZM} {t S t' S' : Nat} {w : Int × Int} {o : Option Nat} (hS : S < 1024) (hS' : S' < 1024) : lokM M t S w o 142 (1024 * t' + S') = if t' = t ∧ S' = S then oI o else M 142 (1024 * t' + S') := by
  unfold lokM
  by_cases e : t' = t ∧ S' = S
  · obtain ⟨rfl, rfl⟩ := e
    rw [if_pos ⟨rfl, rfl⟩, up2_c (by decide), up2_c (by decide), up2_at]
  · rw [if_neg e, up2_c (by decide), up2_c (by decide), up2_s (by omega)]
section Lo
variable {d se sp bx : Nat} {M : ZM} {R : ZH} {Rw : List P3} {ts : List Nat}
theorem valueAt_ {t S q : Nat} (ht : t ≤ 9) (hSt : S < 1024) (hq : q < 2) (hS : Sh R) : cal d 153 [.ref 127, .int (nI t), .int (nI S), .int (nI q)] M R = some (.inl (some (.int (M 141 (2 * (1024 * t + S) + q)))), M, R) := by
  obtain ⟨nN, k127, k128, l128, k129, l129, k130, l130, k131, l131, k132, l132, k133, l133, k134, l134, k135, l135, k136, l136, k137, l137, k138, l138, k139, l139, k140, l140, k141, l141, k142, l142, k143, l143, k144, l144, k145, l145, k146, l146, f127_1, f127_2, f127_3, f127_4, f127_6, f127_7, f127_17, f127_18, f127_19, f127_22, f127_24, f127_25, f127_26, f127_29, f127_30, f127_31, f127_32, f127_33⟩ := modF hS
  rw [e153]
  simp (disch := first | assumption | exact nar_b0 | exact nar_b1 | exact nar_b | exact Or.inl rfl | exact Or.inr rfl | exact zin_t (by omega) (by omega) | exact Nat.le_of_ble_eq_true rfl | (rw [nI_cl (by omega)]; assumption) | omega) only [q153_0, q153_1, q153_4, q153_5, q153_8, q153_9, q153_10, q153_11, q153_12, q153_13, q153_14, q153_15, q153_16, kl_int, kl_ref, kl_tok, cS_nil, cS_int, cS_ref, cS_long, tl_some, tl_none, List.cons_append, List.nil_append, nI_add, nI_ltb, nI_leb, nI_eqb, nI_cl, zin_nI, nI_mul]
set_option maxHeartbeats 4000000 in
theorem look_L {t s S : Nat} {v : List P3 → Int × Int} (hs : s < 2) (ht : t < 9) (hSt : S < 2 ^ Rw.length) (hS : Sh R) (hG : GmR M se sp bx Rw ts)
    (hv : ∀ S', S' < 2 ^ Rw.length → ∀ q, q < 2 → M 141 (2 * (1024 * (t + 1) + S') + q) = iI (sdV q (v (rem Rw S'))) ∧ -100000 ≤ sdV q (v (rem Rw S')) ∧ sdV q (v (rem Rw S')) ≤ 100000) :
    ∀ (m i : Nat) (k7 k8 k9 k10 : Value) (ob b : Option Nat), i + m = Rw.length → PlR S Rw.length ob b → (∀ j, ob = some j → j < i) → ∃ o, PlR S Rw.length o (pick v s (rem Rw S) (cnd bx se (rem Rw S).length - cnt S i) (cnt S i) b) ∧
      exe (d + 4) 154 71 [.ref 127, .int (nI t), .int (nI S), .int (nI (1024 * t + S)), .int (nI s), .int (oI ob), .int (nI i), k7, k8, k9, k10] [] M R = some (.inl none, lokM M t S (v (rem Rw (setO S o))) o, R) := by
  obtain ⟨nN, k127, k128, l128, k129, l129, k130, l130, k131, l131, k132, l132, k133, l133, k134, l134, k135, l135, k136, l136, k137, l137, k138, l138, k139, l139, k140, l140, k141, l141, k142, l142, k143, l143, k144, l144, k145, l145, k146, l146, f127_1, f127_2, f127_3, f127_4, f127_6, f127_7, f127_17, f127_18, f127_19, f127_22, f127_24, f127_25, f127_26, f127_29, f127_30, f127_31, f127_32, f127_33⟩ := modF hS
  have h2 := hG.1
  have hl := hG.2.2.2.1
  have hp := pow10 hl.1
  have hva : ∀ (d : Nat) (M' : ZM) (S' q : Nat), S' < 2 ^ Rw.length → q < 2 → cal d 153 [.ref 127, .int (nI (t + 1)), .int (nI S'), .int (nI q)] M' R = some (.inl (some (.int (M' 141 (2 * (1024 * (t + 1) + S') + q)))), M', R) := fun d M' S' q h1 h2 => valueAt_ (by omega) (by omega) h2 hS
  have hend : ∀ (i : Nat) (k7 k8 k9 k10 : Value) (ob b : Option Nat), PlR S Rw.length ob b → exe (d + 4) 154 238 [.ref 127, .int (nI t), .int (nI S), .int (nI (1024 * t + S)), .int (nI s), .int (oI ob), .int (nI i), k7, k8, k9, k10] [] M R = some (.inl none, lokM M t S (v (rem Rw (setO S ob))) ob, R) := by
    intro i k7 k8 k9 k10 ob b hpl
    have q3 := setO_lt hSt hpl
    have q1 := (hv _ q3 0 (by omega)).1
    have q2 := (hv _ q3 1 (by omega)).1
    have e262 : exe (d + 4) 154 238 [.ref 127, .int (nI t), .int (nI S), .int (nI (1024 * t + S)), .int (nI s), .int (oI ob), .int (nI i), k7, k8, k9, k10] [] M R = exe (d + 4) 154 262 [.ref 127, .int (nI t), .int (nI S), .int (nI (1024 * t + S)), .int (nI s), .int (oI ob), .int (nI i), k7, k8, k9, k10] [.int (nI (setO S ob))] (up2 M 142 (1024 * t + S) (oI ob)) R := by
      cases ob with
      | none =>
        simp (disch := first | assumption | exact nar_b0 | exact nar_b1 | exact nar_b | exact Or.inl rfl | exact Or.inr rfl | exact zin_t (by omega) (by omega) | exact Nat.le_of_ble_eq_true rfl | (rw [nI_cl (by omega)]; assumption) | omega) only [q154_0, q154_3, q154_4, q154_5, q154_6, q154_7, q154_8, q154_9, q154_12, q154_13, q154_14, q154_15, q154_16, q154_17, q154_20, q154_23, q154_24, q154_28, q154_29, q154_32, q154_33, q154_36, q154_37, q154_38, q154_39, q154_41, q154_42, q154_43, q154_44, q154_46, q154_49, q154_50, q154_53, q154_56, q154_57, q154_58, q154_61, q154_62, q154_63, q154_65, q154_66, q154_68, q154_69, q154_73, q154_74, q154_77, q154_80, q154_81, q154_83, q154_84, q154_87, q154_90, q154_93, q154_95, q154_96, q154_99, q154_100, q154_103, q154_104, q154_105, q154_107, q154_108, q154_109, q154_111, q154_112, q154_113, q154_114, q154_115, q154_116, q154_117, q154_119, q154_120, q154_121, q154_123, q154_126, q154_127, q154_128, q154_129, q154_130, q154_132, q154_134, q154_137, q154_138, q154_140, q154_141, q154_142, q154_143, q154_144, q154_145, q154_146, q154_148, q154_149, q154_150, q154_151, q154_153, q154_154, q154_157, q154_158, q154_159, q154_160, q154_161, q154_163, q154_164, q154_166, q154_167, q154_170, q154_171, q154_173, q154_175, q154_176, q154_179, q154_180, q154_183, q154_185, q154_186, q154_187, q154_190, q154_192, q154_193, q154_196, q154_197, q154_200, q154_201, q154_203, q154_205, q154_208, q154_210, q154_213, q154_215, q154_218, q154_220, q154_223, q154_225, q154_228, q154_230, q154_232, q154_235, q154_238, q154_239, q154_242, q154_243, q154_245, q154_246, q154_248, q154_249, q154_252, q154_253, q154_256, q154_257, q154_258, q154_260, q154_261, q154_264, q154_265, q154_269, q154_270, q154_273, q154_274, q154_277, q154_278, q154_279, q154_280, q154_282, q154_283, q154_284, q154_285, q154_286, q154_287, q154_289, q154_291, q154_294, q154_295, q154_298, q154_301, kl_int, kl_ref, kl_tok, cS_nil, cS_int, cS_ref, cS_long, tl_some, tl_none, List.cons_append, List.nil_append, nI_add, nI_ltb, nI_leb, nI_eqb, nI_cl, zin_nI, oI, setO]
        simp
      | some j =>
        have hj := hpl.lt j rfl
        have e1 : ¬ nI j = -1 := by rw [nI_m1 (by omega)]; exact id
        simp (disch := first | assumption | exact nar_b0 | exact nar_b1 | exact nar_b | exact Or.inl rfl | exact Or.inr rfl | exact zin_t (by omega) (by omega) | exact Nat.le_of_ble_eq_true rfl | (rw [nI_cl (by omega)]; assumption) | omega) only [q154_0, q154_3, q154_4, q154_5, q154_6, q154_7, q154_8, q154_9, q154_12, q154_13, q154_14, q154_15, q154_16, q154_17, q154_20, q154_23, q154_24, q154_28, q154_29, q154_32, q154_33, q154_36, q154_37, q154_38, q154_39, q154_41, q154_42, q154_43, q154_44, q154_46, q154_49, q154_50, q154_53, q154_56, q154_57, q154_58, q154_61, q154_62, q154_63, q154_65, q154_66, q154_68, q154_69, q154_73, q154_74, q154_77, q154_80, q154_81, q154_83, q154_84, q154_87, q154_90, q154_93, q154_95, q154_96, q154_99, q154_100, q154_103, q154_104, q154_105, q154_107, q154_108, q154_109, q154_111, q154_112, q154_113, q154_114, q154_115, q154_116, q154_117, q154_119, q154_120, q154_121, q154_123, q154_126, q154_127, q154_128, q154_129, q154_130, q154_132, q154_134, q154_137, q154_138, q154_140, q154_141, q154_142, q154_143, q154_144, q154_145, q154_146, q154_148, q154_149, q154_150, q154_151, q154_153, q154_154, q154_157, q154_158, q154_159, q154_160, q154_161, q154_163, q154_164, q154_166, q154_167, q154_170, q154_171, q154_173, q154_175, q154_176, q154_179, q154_180, q154_183, q154_185, q154_186, q154_187, q154_190, q154_192, q154_193, q154_196, q154_197, q154_200, q154_201, q154_203, q154_205, q154_208, q154_210, q154_213, q154_215, q154_218, q154_220, q154_223, q154_225, q154_228, q154_230, q154_232, q154_235, q154_238, q154_239, q154_242, q154_243, q154_245, q154_246, q154_248, q154_249, q154_252, q154_253, q154_256, q154_257, q154_258, q154_260, q154_261, q154_264, q154_265, q154_269, q154_270, q154_273, q154_274, q154_277, q154_278, q154_279, q154_280, q154_282, q154_283, q154_284, q154_285, q154_286, q154_287, q154_289, q154_291, q154_294, q154_295, q154_298, q154_301, kl_int, kl_ref, kl_tok, cS_nil, cS_int, cS_ref, cS_long, tl_some, tl_none, List.cons_append, List.nil_append, nI_add, nI_ltb, nI_leb, nI_eqb, nI_cl, zin_nI, oI, setO, e1, nI_shl, Nat.one_mul, nI_or]
        simp
    rw [e262]
    have hst : ∀ (M' : ZM) (k : Nat) (k8 k9 k10 : Value), k < 2 → exe (d + 4) 154 267 [.ref 127, .int (nI t), .int (nI S), .int (nI (1024 * t + S)), .int (nI s), .int (oI ob), .int (nI (setO S ob)), .int (nI k), k8, k9, k10] [] M' R = exe (d + 4) 154 267 [.ref 127, .int (nI t), .int (nI S), .int (nI (1024 * t + S)), .int (nI s), .int (oI ob), .int (nI (setO S ob)), .int (nI (k + 1)), k8, k9, k10] [] (up2 M' 141 (2 * (1024 * t + S) + k) (M' 141 (2 * (1024 * (t + 1) + setO S ob) + k))) R := by
      intro M' k k8 k9 k10 hk
      rw [q154_267]
      simp (disch := first | assumption | exact nar_b0 | exact nar_b1 | exact nar_b | exact Or.inl rfl | exact Or.inr rfl | exact zin_t (by omega) (by omega) | exact Nat.le_of_ble_eq_true rfl | (rw [nI_cl (by omega)]; assumption) | omega) only [q154_0, q154_3, q154_4, q154_5, q154_6, q154_7, q154_8, q154_9, q154_12, q154_13, q154_14, q154_15, q154_16, q154_17, q154_20, q154_23, q154_24, q154_28, q154_29, q154_32, q154_33, q154_36, q154_37, q154_38, q154_39, q154_41, q154_42, q154_43, q154_44, q154_46, q154_49, q154_50, q154_53, q154_56, q154_57, q154_58, q154_61, q154_62, q154_63, q154_65, q154_66, q154_68, q154_69, q154_73, q154_74, q154_77, q154_80, q154_81, q154_83, q154_84, q154_87, q154_90, q154_93, q154_95, q154_96, q154_99, q154_100, q154_103, q154_104, q154_105, q154_107, q154_108, q154_109, q154_111, q154_112, q154_113, q154_114, q154_115, q154_116, q154_117, q154_119, q154_120, q154_121, q154_123, q154_126, q154_127, q154_128, q154_129, q154_130, q154_132, q154_134, q154_137, q154_138, q154_140, q154_141, q154_142, q154_143, q154_144, q154_145, q154_146, q154_148, q154_149, q154_150, q154_151, q154_153, q154_154, q154_157, q154_158, q154_159, q154_160, q154_161, q154_163, q154_164, q154_166, q154_167, q154_170, q154_171, q154_173, q154_175, q154_176, q154_179, q154_180, q154_183, q154_185, q154_186, q154_187, q154_190, q154_192, q154_193, q154_196, q154_197, q154_200, q154_201, q154_203, q154_205, q154_208, q154_210, q154_213, q154_215, q154_218, q154_220, q154_223, q154_225, q154_228, q154_230, q154_232, q154_235, q154_238, q154_239, q154_242, q154_243, q154_245, q154_246, q154_248, q154_249, q154_252, q154_253, q154_256, q154_257, q154_258, q154_260, q154_261, q154_262, q154_264, q154_265, q154_269, q154_270, q154_273, q154_274, q154_277, q154_278, q154_279, q154_280, q154_282, q154_283, q154_284, q154_285, q154_286, q154_287, q154_289, q154_291, q154_294, q154_295, q154_298, q154_301, kl_int, kl_ref, kl_tok, cS_nil, cS_int, cS_ref, cS_long, tl_some, tl_none, List.cons_append, List.nil_append, nI_add, nI_ltb, nI_leb, nI_eqb, nI_cl, zin_nI, hva, zk0_inl, nI_mul]
      rw [if_neg (by omega)]
    have hen : ∀ (M' : ZM) (k8 k9 k10 : Value), exe (d + 4) 154 267 [.ref 127, .int (nI t), .int (nI S), .int (nI (1024 * t + S)), .int (nI s), .int (oI ob), .int (nI (setO S ob)), .int (nI 2), k8, k9, k10] [] M' R = some (.inl none, M', R) := by
      intro M' k8 k9 k10
      rw [q154_267]
      simp (disch := first | assumption | exact nar_b0 | exact nar_b1 | exact nar_b | exact Or.inl rfl | exact Or.inr rfl | exact zin_t (by omega) (by omega) | exact Nat.le_of_ble_eq_true rfl | (rw [nI_cl (by omega)]; assumption) | omega) only [q154_0, q154_3, q154_4, q154_5, q154_6, q154_7, q154_8, q154_9, q154_12, q154_13, q154_14, q154_15, q154_16, q154_17, q154_20, q154_23, q154_24, q154_28, q154_29, q154_32, q154_33, q154_36, q154_37, q154_38, q154_39, q154_41, q154_42, q154_43, q154_44, q154_46, q154_49, q154_50, q154_53, q154_56, q154_57, q154_58, q154_61, q154_62, q154_63, q154_65, q154_66, q154_68, q154_69, q154_73, q154_74, q154_77, q154_80, q154_81, q154_83, q154_84, q154_87, q154_90, q154_93, q154_95, q154_96, q154_99, q154_100, q154_103, q154_104, q154_105, q154_107, q154_108, q154_109, q154_111, q154_112, q154_113, q154_114, q154_115, q154_116, q154_117, q154_119, q154_120, q154_121, q154_123, q154_126, q154_127, q154_128, q154_129, q154_130, q154_132, q154_134, q154_137, q154_138, q154_140, q154_141, q154_142, q154_143, q154_144, q154_145, q154_146, q154_148, q154_149, q154_150, q154_151, q154_153, q154_154, q154_157, q154_158, q154_159, q154_160, q154_161, q154_163, q154_164, q154_166, q154_167, q154_170, q154_171, q154_173, q154_175, q154_176, q154_179, q154_180, q154_183, q154_185, q154_186, q154_187, q154_190, q154_192, q154_193, q154_196, q154_197, q154_200, q154_201, q154_203, q154_205, q154_208, q154_210, q154_213, q154_215, q154_218, q154_220, q154_223, q154_225, q154_228, q154_230, q154_232, q154_235, q154_238, q154_239, q154_242, q154_243, q154_245, q154_246, q154_248, q154_249, q154_252, q154_253, q154_256, q154_257, q154_258, q154_260, q154_261, q154_262, q154_264, q154_265, q154_269, q154_270, q154_273, q154_274, q154_277, q154_278, q154_279, q154_280, q154_282, q154_283, q154_284, q154_285, q154_286, q154_287, q154_289, q154_291, q154_294, q154_295, q154_298, q154_301, kl_int, kl_ref, kl_tok, cS_nil, cS_int, cS_ref, cS_long, tl_some, tl_none, List.cons_append, List.nil_append, nI_add, nI_ltb, nI_leb, nI_eqb, nI_cl, zin_nI]
      rw [if_pos (Nat.le_refl _)]
    simp (disch := first | assumption | exact nar_b0 | exact nar_b1 | exact nar_b | exact Or.inl rfl | exact Or.inr rfl | exact zin_t (by omega) (by omega) | exact Nat.le_of_ble_eq_true rfl | (rw [nI_cl (by omega)]; assumption) | omega) only [q154_0, q154_3, q154_4, q154_5, q154_6, q154_7, q154_8, q154_9, q154_12, q154_13, q154_14, q154_15, q154_16, q154_17, q154_20, q154_23, q154_24, q154_28, q154_29, q154_32, q154_33, q154_36, q154_37, q154_38, q154_39, q154_41, q154_42, q154_43, q154_44, q154_46, q154_49, q154_50, q154_53, q154_56, q154_57, q154_58, q154_61, q154_62, q154_63, q154_65, q154_66, q154_68, q154_69, q154_73, q154_74, q154_77, q154_80, q154_81, q154_83, q154_84, q154_87, q154_90, q154_93, q154_95, q154_96, q154_99, q154_100, q154_103, q154_104, q154_105, q154_107, q154_108, q154_109, q154_111, q154_112, q154_113, q154_114, q154_115, q154_116, q154_117, q154_119, q154_120, q154_121, q154_123, q154_126, q154_127, q154_128, q154_129, q154_130, q154_132, q154_134, q154_137, q154_138, q154_140, q154_141, q154_142, q154_143, q154_144, q154_145, q154_146, q154_148, q154_149, q154_150, q154_151, q154_153, q154_154, q154_157, q154_158, q154_159, q154_160, q154_161, q154_163, q154_164, q154_166, q154_167, q154_170, q154_171, q154_173, q154_175, q154_176, q154_179, q154_180, q154_183, q154_185, q154_186, q154_187, q154_190, q154_192, q154_193, q154_196, q154_197, q154_200, q154_201, q154_203, q154_205, q154_208, q154_210, q154_213, q154_215, q154_218, q154_220, q154_223, q154_225, q154_228, q154_230, q154_232, q154_235, q154_238, q154_239, q154_242, q154_243, q154_245, q154_246, q154_248, q154_249, q154_252, q154_253, q154_256, q154_257, q154_258, q154_260, q154_261, q154_262, q154_264, q154_265, q154_269, q154_270, q154_273, q154_274, q154_277, q154_278, q154_279, q154_280, q154_282, q154_283, q154_284, q154_285, q154_286, q154_287, q154_289, q154_291, q154_294, q154_295, q154_298, q154_301, kl_int, kl_ref, kl_tok, cS_nil, cS_int, cS_ref, cS_long, tl_some, tl_none, List.cons_append, List.nil_append, nI_add, nI_ltb, nI_leb, nI_eqb, nI_cl, zin_nI]
    rw [hst _ 0 _ _ _ (by omega), hst _ 1 _ _ _ (by omega), hen]
    rw [up2_c (by decide), q1, up2_s (by omega), up2_c (by decide), q2]
    rfl
  intro m
  induction m with
  | zero =>
    intro i k7 k8 k9 k10 ob b hi hpl hob
    refine ⟨ob, ?_, ?_⟩
    · have e1 : cnd bx se (rem Rw S).length - cnt S i = 0 := by
        rw [show i = Rw.length by omega, rem_len]
        unfold cnd
        split <;> omega
      rw [e1]
      exact hpl
    · rw [← hend i k7 k8 k9 k10 ob b hpl]
      rw [q154_71]
      simp (disch := first | assumption | exact nar_b0 | exact nar_b1 | exact nar_b | exact Or.inl rfl | exact Or.inr rfl | exact zin_t (by omega) (by omega) | exact Nat.le_of_ble_eq_true rfl | (rw [nI_cl (by omega)]; assumption) | omega) only [q154_0, q154_3, q154_4, q154_5, q154_6, q154_7, q154_8, q154_9, q154_12, q154_13, q154_14, q154_15, q154_16, q154_17, q154_20, q154_23, q154_24, q154_28, q154_29, q154_32, q154_33, q154_36, q154_37, q154_38, q154_39, q154_41, q154_42, q154_43, q154_44, q154_46, q154_49, q154_50, q154_53, q154_56, q154_57, q154_58, q154_61, q154_62, q154_63, q154_65, q154_66, q154_68, q154_69, q154_73, q154_74, q154_77, q154_80, q154_81, q154_83, q154_84, q154_87, q154_90, q154_93, q154_95, q154_96, q154_99, q154_100, q154_103, q154_104, q154_105, q154_107, q154_108, q154_109, q154_111, q154_112, q154_113, q154_114, q154_115, q154_116, q154_117, q154_119, q154_120, q154_121, q154_123, q154_126, q154_127, q154_128, q154_129, q154_130, q154_132, q154_134, q154_137, q154_138, q154_140, q154_141, q154_142, q154_143, q154_144, q154_145, q154_146, q154_148, q154_149, q154_150, q154_151, q154_153, q154_154, q154_157, q154_158, q154_159, q154_160, q154_161, q154_163, q154_164, q154_166, q154_167, q154_170, q154_171, q154_173, q154_175, q154_176, q154_179, q154_180, q154_183, q154_185, q154_186, q154_187, q154_190, q154_192, q154_193, q154_196, q154_197, q154_200, q154_201, q154_203, q154_205, q154_208, q154_210, q154_213, q154_215, q154_218, q154_220, q154_223, q154_225, q154_228, q154_230, q154_232, q154_235, q154_239, q154_242, q154_243, q154_245, q154_246, q154_248, q154_249, q154_252, q154_253, q154_256, q154_257, q154_258, q154_260, q154_261, q154_262, q154_264, q154_265, q154_269, q154_270, q154_273, q154_274, q154_277, q154_278, q154_279, q154_280, q154_282, q154_283, q154_284, q154_285, q154_286, q154_287, q154_289, q154_291, q154_294, q154_295, q154_298, q154_301, kl_int, kl_ref, kl_tok, cS_nil, cS_int, cS_ref, cS_long, tl_some, tl_none, List.cons_append, List.nil_append, nI_add, nI_ltb, nI_leb, nI_eqb, nI_cl, zin_nI, h2.1]
      rw [if_pos (by omega)]
  | succ m ih =>
    intro i k7 k8 k9 k10 ob b hi hpl hob
    have hor := or_lt hSt (show i < Rw.length by omega)
    have hset := setO_lt hSt hpl
    have hci1 : cnt S (i + 1) = cnt S i + if S.testBit i then 0 else 1 := rfl
    have hcs := canStrike_ (d := d) (M := M) (R := R) (S := S) (p := i) (se := se) (bx := bx) (by omega) (by omega) hS h2.2.2.1 h2.2.2.2.2 (by omega) (by omega)
    have e71 : exe (d + 4) 154 71 [.ref 127, .int (nI t), .int (nI S), .int (nI (1024 * t + S)), .int (nI s), .int (oI ob), .int (nI i), k7, k8, k9, k10] [] M R = if cnS bx se S i = false then exe (d + 4) 154 71 [.ref 127, .int (nI t), .int (nI S), .int (nI (1024 * t + S)), .int (nI s), .int (oI ob), .int (nI (i + 1)), k7, k8, k9, k10] [] M R else exe (d + 4) 154 93 [.ref 127, .int (nI t), .int (nI S), .int (nI (1024 * t + S)), .int (nI s), .int (oI ob), .int (nI i), k7, k8, k9, k10] [] M R := by
      rw [q154_71]
      simp (disch := first | assumption | exact nar_b0 | exact nar_b1 | exact nar_b | exact Or.inl rfl | exact Or.inr rfl | exact zin_t (by omega) (by omega) | exact Nat.le_of_ble_eq_true rfl | (rw [nI_cl (by omega)]; assumption) | omega) only [q154_0, q154_3, q154_4, q154_5, q154_6, q154_7, q154_8, q154_9, q154_12, q154_13, q154_14, q154_15, q154_16, q154_17, q154_20, q154_23, q154_24, q154_28, q154_29, q154_32, q154_33, q154_36, q154_37, q154_38, q154_39, q154_41, q154_42, q154_43, q154_44, q154_46, q154_49, q154_50, q154_53, q154_56, q154_57, q154_58, q154_61, q154_62, q154_63, q154_65, q154_66, q154_68, q154_69, q154_73, q154_74, q154_77, q154_80, q154_81, q154_83, q154_84, q154_87, q154_90, q154_95, q154_96, q154_99, q154_100, q154_103, q154_104, q154_105, q154_107, q154_108, q154_109, q154_111, q154_112, q154_113, q154_114, q154_115, q154_116, q154_117, q154_119, q154_120, q154_121, q154_123, q154_126, q154_127, q154_128, q154_129, q154_130, q154_132, q154_134, q154_137, q154_138, q154_140, q154_141, q154_142, q154_143, q154_144, q154_145, q154_146, q154_148, q154_149, q154_150, q154_151, q154_153, q154_154, q154_157, q154_158, q154_159, q154_160, q154_161, q154_163, q154_164, q154_166, q154_167, q154_170, q154_171, q154_173, q154_175, q154_176, q154_179, q154_180, q154_183, q154_185, q154_186, q154_187, q154_190, q154_192, q154_193, q154_196, q154_197, q154_200, q154_201, q154_203, q154_205, q154_208, q154_210, q154_213, q154_215, q154_218, q154_220, q154_223, q154_225, q154_228, q154_230, q154_232, q154_235, q154_238, q154_239, q154_242, q154_243, q154_245, q154_246, q154_248, q154_249, q154_252, q154_253, q154_256, q154_257, q154_258, q154_260, q154_261, q154_262, q154_264, q154_265, q154_269, q154_270, q154_273, q154_274, q154_277, q154_278, q154_279, q154_280, q154_282, q154_283, q154_284, q154_285, q154_286, q154_287, q154_289, q154_291, q154_294, q154_295, q154_298, q154_301, kl_int, kl_ref, kl_tok, cS_nil, cS_int, cS_ref, cS_long, tl_some, tl_none, List.cons_append, List.nil_append, nI_add, nI_ltb, nI_leb, nI_eqb, nI_cl, zin_nI, h2.1, hcs, zk0_inl, b2i_0]
      rw [if_neg (by omega)]
      cases cnS bx se S i <;> simp
    rw [e71]
    by_cases hcn : cnS bx se S i = false
    · rw [if_pos hcn]
      obtain ⟨o, g1, g2⟩ := ih (i + 1) k7 k8 k9 k10 ob b (by omega) hpl (fun j e => by have := hob j e; omega)
      refine ⟨o, ?_, g2⟩
      have : pick v s (rem Rw S) (cnd bx se (rem Rw S).length - cnt S i) (cnt S i) b = pick v s (rem Rw S) (cnd bx se (rem Rw S).length - cnt S (i + 1)) (cnt S (i + 1)) b := by
        cases hb : S.testBit i
        · have h1 : bx = 1 ∧ se ≤ cnt S i := by
            unfold cnS at hcn
            rw [hb] at hcn
            simp at hcn
            exact hcn
          rw [hb] at hci1
          have h3 : cnd bx se (rem Rw S).length - cnt S i = 0 := by
            unfold cnd
            rw [if_pos h1.1]
            omega
          have h4 : cnd bx se (rem Rw S).length - cnt S (i + 1) = 0 := by omega
          rw [h3, h4]
          rfl
        · rw [hb] at hci1
          rw [show cnt S (i + 1) = cnt S i by rw [hci1]; simp]
      rw [this]
      exact g1
    · rw [if_neg hcn]
      have hcn2 : S.testBit i = false ∧ (bx ≠ 1 ∨ cnt S i < se) := by
        unfold cnS at hcn
        cases hb : S.testBit i
        · rw [hb] at hcn
          simp at hcn
          exact ⟨rfl, by omega⟩
        · rw [hb] at hcn
          simp at hcn
      obtain ⟨hb, hcd⟩ := hcn2
      rw [hb] at hci1
      have hpl2 : PlR S Rw.length (some i) (some (cnt S i)) := ⟨by omega, hb, rfl⟩
      have q1 := hv _ hset s hs
      have q2 := hv _ hset (1 - s) (by omega)
      have q3 := hv _ hor s hs
      have q4 := hv _ hor (1 - s) (by omega)
      have r1 : rem Rw (S ||| 2 ^ i) = (rem Rw S).eraseIdx (cnt S i) := rem_set (by omega) hb
      have r2 : rem Rw (setO S ob) = aft (rem Rw S) b := hpl.rem
      have hlt : cnt S i < (rem Rw S).length := by
        have := rem_get (l := Rw) (S := S) (i := i) (by omega) hb
        exact (List.getElem?_eq_some_iff.mp this).1
      have hfu : cnd bx se (rem Rw S).length - cnt S i = (cnd bx se (rem Rw S).length - cnt S (i + 1)) + 1 := by
        rw [hci1]
        unfold cnd
        by_cases hbx : bx = 1
        · rw [if_pos hbx]
          simp
          omega
        · rw [if_neg hbx]
          simp
          omega
      rw [hfu, pick]
      have e93 : exe (d + 4) 154 93 [.ref 127, .int (nI t), .int (nI S), .int (nI (1024 * t + S)), .int (nI s), .int (oI ob), .int (nI i), k7, k8, k9, k10] [] M R = exe (d + 4) 154 111 [.ref 127, .int (nI t), .int (nI S), .int (nI (1024 * t + S)), .int (nI s), .int (oI ob), .int (nI i), .int (nI (setO S ob)), k8, k9, k10] [] M R := by
        cases ob with
        | none =>
          simp (disch := first | assumption | exact nar_b0 | exact nar_b1 | exact nar_b | exact Or.inl rfl | exact Or.inr rfl | exact zin_t (by omega) (by omega) | exact Nat.le_of_ble_eq_true rfl | (rw [nI_cl (by omega)]; assumption) | omega) only [q154_0, q154_3, q154_4, q154_5, q154_6, q154_7, q154_8, q154_9, q154_12, q154_13, q154_14, q154_15, q154_16, q154_17, q154_20, q154_23, q154_24, q154_28, q154_29, q154_32, q154_33, q154_36, q154_37, q154_38, q154_39, q154_41, q154_42, q154_43, q154_44, q154_46, q154_49, q154_50, q154_53, q154_56, q154_57, q154_58, q154_61, q154_62, q154_63, q154_65, q154_66, q154_68, q154_69, q154_73, q154_74, q154_77, q154_80, q154_81, q154_83, q154_84, q154_87, q154_90, q154_93, q154_95, q154_96, q154_99, q154_100, q154_103, q154_104, q154_105, q154_107, q154_108, q154_109, q154_112, q154_113, q154_114, q154_115, q154_116, q154_117, q154_119, q154_120, q154_121, q154_123, q154_126, q154_127, q154_128, q154_129, q154_130, q154_132, q154_134, q154_137, q154_138, q154_140, q154_141, q154_142, q154_143, q154_144, q154_145, q154_146, q154_148, q154_149, q154_150, q154_151, q154_153, q154_154, q154_157, q154_158, q154_159, q154_160, q154_161, q154_163, q154_164, q154_166, q154_167, q154_170, q154_171, q154_173, q154_175, q154_176, q154_179, q154_180, q154_183, q154_185, q154_186, q154_187, q154_190, q154_192, q154_193, q154_196, q154_197, q154_200, q154_201, q154_203, q154_205, q154_208, q154_210, q154_213, q154_215, q154_218, q154_220, q154_223, q154_225, q154_228, q154_230, q154_232, q154_235, q154_238, q154_239, q154_242, q154_243, q154_245, q154_246, q154_248, q154_249, q154_252, q154_253, q154_256, q154_257, q154_258, q154_260, q154_261, q154_262, q154_264, q154_265, q154_269, q154_270, q154_273, q154_274, q154_277, q154_278, q154_279, q154_280, q154_282, q154_283, q154_284, q154_285, q154_286, q154_287, q154_289, q154_291, q154_294, q154_295, q154_298, q154_301, kl_int, kl_ref, kl_tok, cS_nil, cS_int, cS_ref, cS_long, tl_some, tl_none, List.cons_append, List.nil_append, nI_add, nI_ltb, nI_leb, nI_eqb, nI_cl, zin_nI, oI, setO]
          simp
        | some j =>
          have hj := hpl.lt j rfl
          have e1 : ¬ nI j = -1 := by rw [nI_m1 (by omega)]; exact id
          simp (disch := first | assumption | exact nar_b0 | exact nar_b1 | exact nar_b | exact Or.inl rfl | exact Or.inr rfl | exact zin_t (by omega) (by omega) | exact Nat.le_of_ble_eq_true rfl | (rw [nI_cl (by omega)]; assumption) | omega) only [q154_0, q154_3, q154_4, q154_5, q154_6, q154_7, q154_8, q154_9, q154_12, q154_13, q154_14, q154_15, q154_16, q154_17, q154_20, q154_23, q154_24, q154_28, q154_29, q154_32, q154_33, q154_36, q154_37, q154_38, q154_39, q154_41, q154_42, q154_43, q154_44, q154_46, q154_49, q154_50, q154_53, q154_56, q154_57, q154_58, q154_61, q154_62, q154_63, q154_65, q154_66, q154_68, q154_69, q154_73, q154_74, q154_77, q154_80, q154_81, q154_83, q154_84, q154_87, q154_90, q154_93, q154_95, q154_96, q154_99, q154_100, q154_103, q154_104, q154_105, q154_107, q154_108, q154_109, q154_112, q154_113, q154_114, q154_115, q154_116, q154_117, q154_119, q154_120, q154_121, q154_123, q154_126, q154_127, q154_128, q154_129, q154_130, q154_132, q154_134, q154_137, q154_138, q154_140, q154_141, q154_142, q154_143, q154_144, q154_145, q154_146, q154_148, q154_149, q154_150, q154_151, q154_153, q154_154, q154_157, q154_158, q154_159, q154_160, q154_161, q154_163, q154_164, q154_166, q154_167, q154_170, q154_171, q154_173, q154_175, q154_176, q154_179, q154_180, q154_183, q154_185, q154_186, q154_187, q154_190, q154_192, q154_193, q154_196, q154_197, q154_200, q154_201, q154_203, q154_205, q154_208, q154_210, q154_213, q154_215, q154_218, q154_220, q154_223, q154_225, q154_228, q154_230, q154_232, q154_235, q154_238, q154_239, q154_242, q154_243, q154_245, q154_246, q154_248, q154_249, q154_252, q154_253, q154_256, q154_257, q154_258, q154_260, q154_261, q154_262, q154_264, q154_265, q154_269, q154_270, q154_273, q154_274, q154_277, q154_278, q154_279, q154_280, q154_282, q154_283, q154_284, q154_285, q154_286, q154_287, q154_289, q154_291, q154_294, q154_295, q154_298, q154_301, kl_int, kl_ref, kl_tok, cS_nil, cS_int, cS_ref, cS_long, tl_some, tl_none, List.cons_append, List.nil_append, nI_add, nI_ltb, nI_leb, nI_eqb, nI_cl, zin_nI, oI, setO, e1, nI_shl, Nat.one_mul, nI_or]
          simp
      have e111 : exe (d + 4) 154 111 [.ref 127, .int (nI t), .int (nI S), .int (nI (1024 * t + S)), .int (nI s), .int (oI ob), .int (nI i), .int (nI (setO S ob)), k8, k9, k10] [] M R = exe (d + 4) 154 173 [.ref 127, .int (nI t), .int (nI S), .int (nI (1024 * t + S)), .int (nI s), .int (oI ob), .int (nI i), .int (nI (setO S ob)), .int (iI (sdV s (v (rem Rw (S ||| 2 ^ i))) - sdV s (v (rem Rw (setO S ob))))), .int (iI (sdV (1 - s) (v (rem Rw (S ||| 2 ^ i))) - sdV (1 - s) (v (rem Rw (setO S ob))))), k10] [] M R := by
        simp (disch := first | assumption | exact nar_b0 | exact nar_b1 | exact nar_b | exact Or.inl rfl | exact Or.inr rfl | exact zin_t (by omega) (by omega) | exact Nat.le_of_ble_eq_true rfl | (rw [nI_cl (by omega)]; assumption) | omega) only [q154_0, q154_3, q154_4, q154_5, q154_6, q154_7, q154_8, q154_9, q154_12, q154_13, q154_14, q154_15, q154_16, q154_17, q154_20, q154_23, q154_24, q154_28, q154_29, q154_32, q154_33, q154_36, q154_37, q154_38, q154_39, q154_41, q154_42, q154_43, q154_44, q154_46, q154_49, q154_50, q154_53, q154_56, q154_57, q154_58, q154_61, q154_62, q154_63, q154_65, q154_66, q154_68, q154_69, q154_73, q154_74, q154_77, q154_80, q154_81, q154_83, q154_84, q154_87, q154_90, q154_93, q154_95, q154_96, q154_99, q154_100, q154_103, q154_104, q154_105, q154_107, q154_108, q154_109, q154_111, q154_112, q154_113, q154_114, q154_115, q154_116, q154_117, q154_119, q154_120, q154_121, q154_123, q154_126, q154_127, q154_128, q154_129, q154_130, q154_132, q154_134, q154_137, q154_138, q154_140, q154_141, q154_142, q154_143, q154_144, q154_145, q154_146, q154_148, q154_149, q154_150, q154_151, q154_153, q154_154, q154_157, q154_158, q154_159, q154_160, q154_161, q154_163, q154_164, q154_166, q154_167, q154_170, q154_171, q154_175, q154_176, q154_179, q154_180, q154_183, q154_185, q154_186, q154_187, q154_190, q154_192, q154_193, q154_196, q154_197, q154_200, q154_201, q154_203, q154_205, q154_208, q154_210, q154_213, q154_215, q154_218, q154_220, q154_223, q154_225, q154_228, q154_230, q154_232, q154_235, q154_238, q154_239, q154_242, q154_243, q154_245, q154_246, q154_248, q154_249, q154_252, q154_253, q154_256, q154_257, q154_258, q154_260, q154_261, q154_262, q154_264, q154_265, q154_269, q154_270, q154_273, q154_274, q154_277, q154_278, q154_279, q154_280, q154_282, q154_283, q154_284, q154_285, q154_286, q154_287, q154_289, q154_291, q154_294, q154_295, q154_298, q154_301, kl_int, kl_ref, kl_tok, cS_nil, cS_int, cS_ref, cS_long, tl_some, tl_none, List.cons_append, List.nil_append, nI_add, nI_ltb, nI_leb, nI_eqb, nI_cl, zin_nI, nI_shl, Nat.one_mul, nI_or, hva, zk0_inl, q1.1, q2.1, q3.1, q4.1, iI_sub, nI1s]
      have e173 : ∀ (x8 x9 : Value), exe (d + 4) 154 173 [.ref 127, .int (nI t), .int (nI S), .int (nI (1024 * t + S)), .int (nI s), .int (oI ob), .int (nI i), .int (nI (setO S ob)), x8, .int (iI (sdV (1 - s) (v (rem Rw (S ||| 2 ^ i))) - sdV (1 - s) (v (rem Rw (setO S ob))))), k10] [] M R = exe (d + 4) 154 203 [.ref 127, .int (nI t), .int (nI S), .int (nI (1024 * t + S)), .int (nI s), .int (oI ob), .int (nI i), .int (nI (setO S ob)), x8, .int (iI (sdV (1 - s) (v (rem Rw (S ||| 2 ^ i))) - sdV (1 - s) (v (rem Rw (setO S ob))))), .int (nI 0)] [] M R := by
        intro x8 x9
        cases ob with
        | none =>
          simp (disch := first | assumption | exact nar_b0 | exact nar_b1 | exact nar_b | exact Or.inl rfl | exact Or.inr rfl | exact zin_t (by omega) (by omega) | exact Nat.le_of_ble_eq_true rfl | (rw [nI_cl (by omega)]; assumption) | omega) only [q154_0, q154_3, q154_4, q154_5, q154_6, q154_7, q154_8, q154_9, q154_12, q154_13, q154_14, q154_15, q154_16, q154_17, q154_20, q154_23, q154_24, q154_28, q154_29, q154_32, q154_33, q154_36, q154_37, q154_38, q154_39, q154_41, q154_42, q154_43, q154_44, q154_46, q154_49, q154_50, q154_53, q154_56, q154_57, q154_58, q154_61, q154_62, q154_63, q154_65, q154_66, q154_68, q154_69, q154_73, q154_74, q154_77, q154_80, q154_81, q154_83, q154_84, q154_87, q154_90, q154_93, q154_95, q154_96, q154_99, q154_100, q154_103, q154_104, q154_105, q154_107, q154_108, q154_109, q154_111, q154_112, q154_113, q154_114, q154_115, q154_116, q154_117, q154_119, q154_120, q154_121, q154_123, q154_126, q154_127, q154_128, q154_129, q154_130, q154_132, q154_134, q154_137, q154_138, q154_140, q154_141, q154_142, q154_143, q154_144, q154_145, q154_146, q154_148, q154_149, q154_150, q154_151, q154_153, q154_154, q154_157, q154_158, q154_159, q154_160, q154_161, q154_163, q154_164, q154_166, q154_167, q154_170, q154_171, q154_173, q154_175, q154_176, q154_179, q154_180, q154_183, q154_185, q154_186, q154_187, q154_190, q154_192, q154_193, q154_196, q154_197, q154_200, q154_201, q154_205, q154_208, q154_210, q154_213, q154_215, q154_218, q154_220, q154_223, q154_225, q154_228, q154_230, q154_232, q154_235, q154_238, q154_239, q154_242, q154_243, q154_245, q154_246, q154_248, q154_249, q154_252, q154_253, q154_256, q154_257, q154_258, q154_260, q154_261, q154_262, q154_264, q154_265, q154_269, q154_270, q154_273, q154_274, q154_277, q154_278, q154_279, q154_280, q154_282, q154_283, q154_284, q154_285, q154_286, q154_287, q154_289, q154_291, q154_294, q154_295, q154_298, q154_301, kl_int, kl_ref, kl_tok, cS_nil, cS_int, cS_ref, cS_long, tl_some, tl_none, List.cons_append, List.nil_append, nI_add, nI_ltb, nI_leb, nI_eqb, nI_cl, zin_nI, oI, setO]
          simp
        | some j =>
          have hj := hpl.lt j rfl
          have hji := hob j rfl
          have e1 : ¬ nI j = -1 := by rw [nI_m1 (by omega)]; exact id
          have w1 := (hG.2.1 i (by omega)).1
          have w2 := (hG.2.1 j hj).1
          have w3 := hG.2.2.2.2.2.1 j i hji (by omega)
          have w4 := (hG.2.2.2.2.1 _ (List.getElem_mem (show i < Rw.length by omega))).1
          simp (disch := first | assumption | exact nar_b0 | exact nar_b1 | exact nar_b | exact Or.inl rfl | exact Or.inr rfl | exact zin_t (by omega) (by omega) | exact Nat.le_of_ble_eq_true rfl | (rw [nI_cl (by omega)]; assumption) | omega) only [q154_0, q154_3, q154_4, q154_5, q154_6, q154_7, q154_8, q154_9, q154_12, q154_13, q154_14, q154_15, q154_16, q154_17, q154_20, q154_23, q154_24, q154_28, q154_29, q154_32, q154_33, q154_36, q154_37, q154_38, q154_39, q154_41, q154_42, q154_43, q154_44, q154_46, q154_49, q154_50, q154_53, q154_56, q154_57, q154_58, q154_61, q154_62, q154_63, q154_65, q154_66, q154_68, q154_69, q154_73, q154_74, q154_77, q154_80, q154_81, q154_83, q154_84, q154_87, q154_90, q154_93, q154_95, q154_96, q154_99, q154_100, q154_103, q154_104, q154_105, q154_107, q154_108, q154_109, q154_111, q154_112, q154_113, q154_114, q154_115, q154_116, q154_117, q154_119, q154_120, q154_121, q154_123, q154_126, q154_127, q154_128, q154_129, q154_130, q154_132, q154_134, q154_137, q154_138, q154_140, q154_141, q154_142, q154_143, q154_144, q154_145, q154_146, q154_148, q154_149, q154_150, q154_151, q154_153, q154_154, q154_157, q154_158, q154_159, q154_160, q154_161, q154_163, q154_164, q154_166, q154_167, q154_170, q154_171, q154_173, q154_175, q154_176, q154_179, q154_180, q154_183, q154_185, q154_186, q154_187, q154_190, q154_192, q154_193, q154_196, q154_197, q154_200, q154_201, q154_205, q154_208, q154_210, q154_213, q154_215, q154_218, q154_220, q154_223, q154_225, q154_228, q154_230, q154_232, q154_235, q154_238, q154_239, q154_242, q154_243, q154_245, q154_246, q154_248, q154_249, q154_252, q154_253, q154_256, q154_257, q154_258, q154_260, q154_261, q154_262, q154_264, q154_265, q154_269, q154_270, q154_273, q154_274, q154_277, q154_278, q154_279, q154_280, q154_282, q154_283, q154_284, q154_285, q154_286, q154_287, q154_289, q154_291, q154_294, q154_295, q154_298, q154_301, kl_int, kl_ref, kl_tok, cS_nil, cS_int, cS_ref, cS_long, tl_some, tl_none, List.cons_append, List.nil_append, nI_add, nI_ltb, nI_leb, nI_eqb, nI_cl, zin_nI, oI, setO, e1, w1, w2]
          rw [if_neg (by simp), if_pos (by omega)]
      have e203 : exe (d + 4) 154 203 [.ref 127, .int (nI t), .int (nI S), .int (nI (1024 * t + S)), .int (nI s), .int (oI ob), .int (nI i), .int (nI (setO S ob)), .int (iI (sdV s (v (rem Rw (S ||| 2 ^ i))) - sdV s (v (rem Rw (setO S ob))))), .int (iI (sdV (1 - s) (v (rem Rw (S ||| 2 ^ i))) - sdV (1 - s) (v (rem Rw (setO S ob))))), .int (nI 0)] [] M R = if btr s (v ((rem Rw S).eraseIdx (cnt S i))) (v (aft (rem Rw S) b)) = true then exe (d + 4) 154 71 [.ref 127, .int (nI t), .int (nI S), .int (nI (1024 * t + S)), .int (nI s), .int (nI i), .int (nI (i + 1)), .int (nI (setO S ob)), .int (iI (sdV s (v (rem Rw (S ||| 2 ^ i))) - sdV s (v (rem Rw (setO S ob))))), .int (iI (sdV (1 - s) (v (rem Rw (S ||| 2 ^ i))) - sdV (1 - s) (v (rem Rw (setO S ob))))), .int (nI 0)] [] M R else exe (d + 4) 154 71 [.ref 127, .int (nI t), .int (nI S), .int (nI (1024 * t + S)), .int (nI s), .int (oI ob), .int (nI (i + 1)), .int (nI (setO S ob)), .int (iI (sdV s (v (rem Rw (S ||| 2 ^ i))) - sdV s (v (rem Rw (setO S ob))))), .int (iI (sdV (1 - s) (v (rem Rw (S ||| 2 ^ i))) - sdV (1 - s) (v (rem Rw (setO S ob))))), .int (nI 0)] [] M R := by
        rw [← r1, ← r2]
        have q1b := q1.2
        have q2b := q2.2
        have q3b := q3.2
        have q4b := q4.2
        unfold btr
        generalize sdV s (v (rem Rw (S ||| 2 ^ i))) = a1 at q3b ⊢
        generalize sdV s (v (rem Rw (setO S ob))) = a2 at q1b ⊢
        generalize sdV (1 - s) (v (rem Rw (S ||| 2 ^ i))) = a3 at q4b ⊢
        generalize sdV (1 - s) (v (rem Rw (setO S ob))) = a4 at q2b ⊢
        simp (disch := first | assumption | exact nar_b0 | exact nar_b1 | exact nar_b | exact Or.inl rfl | exact Or.inr rfl | exact zin_t (by omega) (by omega) | exact Nat.le_of_ble_eq_true rfl | (rw [nI_cl (by omega)]; assumption) | omega) only [q154_0, q154_3, q154_4, q154_5, q154_6, q154_7, q154_8, q154_9, q154_12, q154_13, q154_14, q154_15, q154_16, q154_17, q154_20, q154_23, q154_24, q154_28, q154_29, q154_32, q154_33, q154_36, q154_37, q154_38, q154_39, q154_41, q154_42, q154_43, q154_44, q154_46, q154_49, q154_50, q154_53, q154_56, q154_57, q154_58, q154_61, q154_62, q154_63, q154_65, q154_66, q154_68, q154_69, q154_73, q154_74, q154_77, q154_80, q154_81, q154_83, q154_84, q154_87, q154_90, q154_93, q154_95, q154_96, q154_99, q154_100, q154_103, q154_104, q154_105, q154_107, q154_108, q154_109, q154_111, q154_112, q154_113, q154_114, q154_115, q154_116, q154_117, q154_119, q154_120, q154_121, q154_123, q154_126, q154_127, q154_128, q154_129, q154_130, q154_132, q154_134, q154_137, q154_138, q154_140, q154_141, q154_142, q154_143, q154_144, q154_145, q154_146, q154_148, q154_149, q154_150, q154_151, q154_153, q154_154, q154_157, q154_158, q154_159, q154_160, q154_161, q154_163, q154_164, q154_166, q154_167, q154_170, q154_171, q154_173, q154_175, q154_176, q154_179, q154_180, q154_183, q154_185, q154_186, q154_187, q154_190, q154_192, q154_193, q154_196, q154_197, q154_200, q154_201, q154_203, q154_205, q154_208, q154_210, q154_213, q154_215, q154_218, q154_220, q154_223, q154_225, q154_228, q154_230, q154_232, q154_235, q154_238, q154_239, q154_242, q154_243, q154_245, q154_246, q154_248, q154_249, q154_252, q154_253, q154_256, q154_257, q154_258, q154_260, q154_261, q154_262, q154_264, q154_265, q154_269, q154_270, q154_273, q154_274, q154_277, q154_278, q154_279, q154_280, q154_282, q154_283, q154_284, q154_285, q154_286, q154_287, q154_289, q154_291, q154_294, q154_295, q154_298, q154_301, kl_int, kl_ref, kl_tok, cS_nil, cS_int, cS_ref, cS_long, tl_some, tl_none, List.cons_append, List.nil_append, nI_add, nI_ltb, nI_leb, nI_eqb, nI_cl, zin_nI, iI_pos0, iI_eq0]
        by_cases c1 : a2 < a1
        · simp [c1, show 0 < a1 - a2 by omega]
        · by_cases c2 : a1 = a2
          · subst c2
            by_cases c3 : a4 < a3
            · simp [c3, show 0 < a3 - a4 by omega]
            · by_cases c4 : a3 - a4 = 0
              · simp [c3, c4]
              · simp [c3, c4, show ¬ 0 < a3 - a4 by omega]
          · simp [c1, c2, show ¬ 0 < a1 - a2 by omega, show ¬ a1 - a2 = 0 by omega]
      rw [e93, e111, e173 _ tok, e203]
      by_cases hbt : btr s (v ((rem Rw S).eraseIdx (cnt S i))) (v (aft (rem Rw S) b)) = true
      · rw [if_pos hbt, if_pos hbt]
        obtain ⟨o, g1, g2⟩ := ih (i + 1) (.int (nI (setO S ob))) (.int (iI (sdV s (v (rem Rw (S ||| 2 ^ i))) - sdV s (v (rem Rw (setO S ob)))))) (.int (iI (sdV (1 - s) (v (rem Rw (S ||| 2 ^ i))) - sdV (1 - s) (v (rem Rw (setO S ob)))))) (.int (nI 0)) (some i) (some (cnt S i)) (by omega) hpl2 (fun j e => by cases e; omega)
        rw [show cnt S i + 1 = cnt S (i + 1) by rw [hci1]; simp]
        exact ⟨o, g1, g2⟩
      · rw [if_neg hbt, if_neg hbt]
        obtain ⟨o, g1, g2⟩ := ih (i + 1) (.int (nI (setO S ob))) (.int (iI (sdV s (v (rem Rw (S ||| 2 ^ i))) - sdV s (v (rem Rw (setO S ob)))))) (.int (iI (sdV (1 - s) (v (rem Rw (S ||| 2 ^ i))) - sdV (1 - s) (v (rem Rw (setO S ob)))))) (.int (nI 0)) ob b (by omega) hpl (fun j e => by have := hob j e; omega)
        rw [show cnt S i + 1 = cnt S (i + 1) by rw [hci1]; simp]
        exact ⟨o, g1, g2⟩
def WkO (bx se sp : Nat) (Rw : List P3) (ts : List Nat) (t S : Nat) (o : Option Nat) : Prop := PlR S Rw.length o (bst bx se (VV bx se sp (ts.drop (t + 1))) (ts.getD t 0) (rem Rw S))
def WkA (M : ZM) (bx se sp : Nat) (Rw : List P3) (ts : List Nat) (t S : Nat) : Prop := ∀ t' S', S' < 2 ^ Rw.length → t' ≤ ts.length → (t < t' ∨ (t' = t ∧ S' < S)) → (∀ q, q < 2 → M 141 (2 * (1024 * t' + S') + q) = iI (sdV q (VV bx se sp (ts.drop t') (rem Rw S')))) ∧ (t' < ts.length → ∃ o, M 142 (1024 * t' + S') = oI o ∧ WkO bx se sp Rw ts t' S' o)
set_option maxHeartbeats 4000000 in
theorem look_ {t S : Nat} (ht : t ≤ ts.length) (hSt : S < 2 ^ Rw.length) (hS : Sh R) (hG : GmR M se sp bx Rw ts) (hA : WkA M bx se sp Rw ts t S) : ∃ o, (t < ts.length → WkO bx se sp Rw ts t S o) ∧ cal (d + 4) 154 [.ref 127, .int (nI t), .int (nI S)] M R = some (.inl none, lokM M t S (VV bx se sp (ts.drop t) (rem Rw S)) o, R) := by
  obtain ⟨nN, k127, k128, l128, k129, l129, k130, l130, k131, l131, k132, l132, k133, l133, k134, l134, k135, l135, k136, l136, k137, l137, k138, l138, k139, l139, k140, l140, k141, l141, k142, l142, k143, l143, k144, l144, k145, l145, k146, l146, f127_1, f127_2, f127_3, f127_4, f127_6, f127_7, f127_17, f127_18, f127_19, f127_22, f127_24, f127_25, f127_26, f127_29, f127_30, f127_31, f127_32, f127_33⟩ := modF hS
  have h2 := hG.1
  have hl := hG.2.2.2.1
  have hp := pow10 hl.1
  generalize hM1 : up2 M 142 (1024 * t + S) (-1) = M1
  have f1 : ∀ c, c ≠ 142 → M1 c = M c := fun c h => by rw [← hM1]; exact up2_ne h
  have hG1 : GmR M1 se sp bx Rw ts := hG.frame (by rw [f1 _ (by decide)]) (by rw [f1 _ (by decide)]) (f1 _ (by decide)) (f1 _ (by decide)) (f1 _ (by decide))
  have h28 : M1 127 28 = nI ts.length := hG1.1.2.1
  by_cases e : t = ts.length
  · refine ⟨none, fun h => absurd h (by omega), ?_⟩
    generalize hM2 : up2 M1 141 (2 * (1024 * t + S) + 0) (iI (endF se sp 0 ((rem Rw S).map (wS 0)))) = M2
    have hG2 : GmR M2 se sp bx Rw ts := hG1.frame (by rw [← hM2, up2_c (by decide)]) (by rw [← hM2, up2_c (by decide)]) (by rw [← hM2, up2_ne (by decide)]) (by rw [← hM2, up2_ne (by decide)]) (by rw [← hM2, up2_ne (by decide)])
    rw [List.drop_eq_nil_of_le (by omega)]
    have hst : ∀ (M' : ZM) (k : Nat) (k5 k6 k7 k8 k9 k10 : Value), k < 2 → GmR M' se sp bx Rw ts → exe (d + 4) 154 26 [.ref 127, .int (nI t), .int (nI S), .int (nI (1024 * t + S)), .int (nI k), k5, k6, k7, k8, k9, k10] [] M' R = exe (d + 4) 154 26 [.ref 127, .int (nI t), .int (nI S), .int (nI (1024 * t + S)), .int (nI (k + 1)), k5, k6, k7, k8, k9, k10] [] (up2 M' 141 (2 * (1024 * t + S) + k) (iI (endF se sp 0 ((rem Rw S).map (wS k))))) R := by
      intro M' k k5 k6 k7 k8 k9 k10 hk hG'
      have c0 := endWR_ (d := d) (s := k) (S := S) hk (by omega) hS hG'
      rw [q154_26]
      simp (disch := first | assumption | exact nar_b0 | exact nar_b1 | exact nar_b | exact Or.inl rfl | exact Or.inr rfl | exact zin_t (by omega) (by omega) | exact Nat.le_of_ble_eq_true rfl | (rw [nI_cl (by omega)]; assumption) | omega) only [q154_0, q154_3, q154_4, q154_5, q154_6, q154_7, q154_8, q154_9, q154_12, q154_13, q154_14, q154_15, q154_16, q154_17, q154_20, q154_23, q154_24, q154_28, q154_29, q154_32, q154_33, q154_36, q154_37, q154_38, q154_39, q154_41, q154_42, q154_43, q154_44, q154_46, q154_49, q154_50, q154_53, q154_56, q154_57, q154_58, q154_61, q154_62, q154_63, q154_65, q154_66, q154_68, q154_69, q154_73, q154_74, q154_77, q154_80, q154_81, q154_83, q154_84, q154_87, q154_90, q154_93, q154_95, q154_96, q154_99, q154_100, q154_103, q154_104, q154_105, q154_107, q154_108, q154_109, q154_111, q154_112, q154_113, q154_114, q154_115, q154_116, q154_117, q154_119, q154_120, q154_121, q154_123, q154_126, q154_127, q154_128, q154_129, q154_130, q154_132, q154_134, q154_137, q154_138, q154_140, q154_141, q154_142, q154_143, q154_144, q154_145, q154_146, q154_148, q154_149, q154_150, q154_151, q154_153, q154_154, q154_157, q154_158, q154_159, q154_160, q154_161, q154_163, q154_164, q154_166, q154_167, q154_170, q154_171, q154_173, q154_175, q154_176, q154_179, q154_180, q154_183, q154_185, q154_186, q154_187, q154_190, q154_192, q154_193, q154_196, q154_197, q154_200, q154_201, q154_203, q154_205, q154_208, q154_210, q154_213, q154_215, q154_218, q154_220, q154_223, q154_225, q154_228, q154_230, q154_232, q154_235, q154_238, q154_239, q154_242, q154_243, q154_245, q154_246, q154_248, q154_249, q154_252, q154_253, q154_256, q154_257, q154_258, q154_260, q154_261, q154_262, q154_264, q154_265, q154_269, q154_270, q154_273, q154_274, q154_277, q154_278, q154_279, q154_280, q154_282, q154_283, q154_284, q154_285, q154_286, q154_287, q154_289, q154_291, q154_294, q154_295, q154_298, q154_301, kl_int, kl_ref, kl_tok, cS_nil, cS_int, cS_ref, cS_long, tl_some, tl_none, List.cons_append, List.nil_append, nI_add, nI_ltb, nI_leb, nI_eqb, nI_cl, zin_nI, c0, zk0_inl, nI_mul]
      rw [if_neg (by omega)]
    have hen : ∀ (M' : ZM) (k5 k6 k7 k8 k9 k10 : Value), exe (d + 4) 154 26 [.ref 127, .int (nI t), .int (nI S), .int (nI (1024 * t + S)), .int (nI 2), k5, k6, k7, k8, k9, k10] [] M' R = some (.inl none, M', R) := by
      intro M' k5 k6 k7 k8 k9 k10
      rw [q154_26]
      simp (disch := first | assumption | exact nar_b0 | exact nar_b1 | exact nar_b | exact Or.inl rfl | exact Or.inr rfl | exact zin_t (by omega) (by omega) | exact Nat.le_of_ble_eq_true rfl | (rw [nI_cl (by omega)]; assumption) | omega) only [q154_0, q154_3, q154_4, q154_5, q154_6, q154_7, q154_8, q154_9, q154_12, q154_13, q154_14, q154_15, q154_16, q154_17, q154_20, q154_23, q154_24, q154_28, q154_29, q154_32, q154_33, q154_36, q154_37, q154_38, q154_39, q154_41, q154_42, q154_43, q154_44, q154_46, q154_49, q154_50, q154_53, q154_56, q154_57, q154_58, q154_61, q154_62, q154_63, q154_65, q154_66, q154_68, q154_69, q154_73, q154_74, q154_77, q154_80, q154_81, q154_83, q154_84, q154_87, q154_90, q154_93, q154_95, q154_96, q154_99, q154_100, q154_103, q154_104, q154_105, q154_107, q154_108, q154_109, q154_111, q154_112, q154_113, q154_114, q154_115, q154_116, q154_117, q154_119, q154_120, q154_121, q154_123, q154_126, q154_127, q154_128, q154_129, q154_130, q154_132, q154_134, q154_137, q154_138, q154_140, q154_141, q154_142, q154_143, q154_144, q154_145, q154_146, q154_148, q154_149, q154_150, q154_151, q154_153, q154_154, q154_157, q154_158, q154_159, q154_160, q154_161, q154_163, q154_164, q154_166, q154_167, q154_170, q154_171, q154_173, q154_175, q154_176, q154_179, q154_180, q154_183, q154_185, q154_186, q154_187, q154_190, q154_192, q154_193, q154_196, q154_197, q154_200, q154_201, q154_203, q154_205, q154_208, q154_210, q154_213, q154_215, q154_218, q154_220, q154_223, q154_225, q154_228, q154_230, q154_232, q154_235, q154_238, q154_239, q154_242, q154_243, q154_245, q154_246, q154_248, q154_249, q154_252, q154_253, q154_256, q154_257, q154_258, q154_260, q154_261, q154_262, q154_264, q154_265, q154_269, q154_270, q154_273, q154_274, q154_277, q154_278, q154_279, q154_280, q154_282, q154_283, q154_284, q154_285, q154_286, q154_287, q154_289, q154_291, q154_294, q154_295, q154_298, q154_301, kl_int, kl_ref, kl_tok, cS_nil, cS_int, cS_ref, cS_long, tl_some, tl_none, List.cons_append, List.nil_append, nI_add, nI_ltb, nI_leb, nI_eqb, nI_cl, zin_nI]
      rw [if_pos (Nat.le_refl _)]
    rw [e154]
    simp (disch := first | assumption | exact nar_b0 | exact nar_b1 | exact nar_b | exact Or.inl rfl | exact Or.inr rfl | exact zin_t (by omega) (by omega) | exact Nat.le_of_ble_eq_true rfl | (rw [nI_cl (by omega)]; assumption) | omega) only [q154_0, q154_3, q154_4, q154_5, q154_6, q154_7, q154_8, q154_9, q154_12, q154_13, q154_14, q154_15, q154_16, q154_17, q154_20, q154_23, q154_24, q154_28, q154_29, q154_32, q154_33, q154_36, q154_37, q154_38, q154_39, q154_41, q154_42, q154_43, q154_44, q154_46, q154_49, q154_50, q154_53, q154_56, q154_57, q154_58, q154_61, q154_62, q154_63, q154_65, q154_66, q154_68, q154_69, q154_73, q154_74, q154_77, q154_80, q154_81, q154_83, q154_84, q154_87, q154_90, q154_93, q154_95, q154_96, q154_99, q154_100, q154_103, q154_104, q154_105, q154_107, q154_108, q154_109, q154_111, q154_112, q154_113, q154_114, q154_115, q154_116, q154_117, q154_119, q154_120, q154_121, q154_123, q154_126, q154_127, q154_128, q154_129, q154_130, q154_132, q154_134, q154_137, q154_138, q154_140, q154_141, q154_142, q154_143, q154_144, q154_145, q154_146, q154_148, q154_149, q154_150, q154_151, q154_153, q154_154, q154_157, q154_158, q154_159, q154_160, q154_161, q154_163, q154_164, q154_166, q154_167, q154_170, q154_171, q154_173, q154_175, q154_176, q154_179, q154_180, q154_183, q154_185, q154_186, q154_187, q154_190, q154_192, q154_193, q154_196, q154_197, q154_200, q154_201, q154_203, q154_205, q154_208, q154_210, q154_213, q154_215, q154_218, q154_220, q154_223, q154_225, q154_228, q154_230, q154_232, q154_235, q154_238, q154_239, q154_242, q154_243, q154_245, q154_246, q154_248, q154_249, q154_252, q154_253, q154_256, q154_257, q154_258, q154_260, q154_261, q154_262, q154_264, q154_265, q154_269, q154_270, q154_273, q154_274, q154_277, q154_278, q154_279, q154_280, q154_282, q154_283, q154_284, q154_285, q154_286, q154_287, q154_289, q154_291, q154_294, q154_295, q154_298, q154_301, kl_int, kl_ref, kl_tok, cS_nil, cS_int, cS_ref, cS_long, tl_some, tl_none, List.cons_append, List.nil_append, nI_add, nI_ltb, nI_leb, nI_eqb, nI_cl, zin_nI, nI_mul, hM1, h28]
    rw [if_neg (by omega), hst _ 0 _ _ _ _ _ _ (by omega) hG1, hst _ 1 _ _ _ _ _ _ (by omega) (by rw [hM2]; exact hG2), hen, ← hM1]
    rfl
  · have hv : ∀ S', S' < 2 ^ Rw.length → ∀ q, q < 2 → M1 141 (2 * (1024 * (t + 1) + S') + q) = iI (sdV q (VV bx se sp (ts.drop (t + 1)) (rem Rw S'))) ∧ -100000 ≤ sdV q (VV bx se sp (ts.drop (t + 1)) (rem Rw S')) ∧ sdV q (VV bx se sp (ts.drop (t + 1)) (rem Rw S')) ≤ 100000 := by
      intro S' h1 q hq
      have h3 := (hA (t + 1) S' h1 (by omega) (Or.inl (by omega))).1 q hq
      have h4 := VV_abs (bx := bx) (se := se) (sp := sp) (q := q) (ts.drop (t + 1)) (rem Rw S') (hG.ok.rem _)
      refine ⟨?_, by omega, by omega⟩
      rw [f1 _ (by decide)]
      exact h3
    have hts : ts.drop t = ts[t] :: ts.drop (t + 1) := List.drop_eq_getElem_cons (by omega)
    have hsd : ts.getD t 0 = ts[t] := by
      rw [List.getD_eq_getElem?_getD, List.getElem?_eq_getElem (by omega)]
      rfl
    have hs : ts[t] < 2 := hG.2.2.2.2.2.2 _ (List.getElem_mem _)
    have h40 := hG1.2.2.1 t (by omega)
    obtain ⟨o, g1, g2⟩ := look_L (d := d) (t := t) (v := VV bx se sp (ts.drop (t + 1))) hs (by omega) hSt hS hG1 hv Rw.length 0 tok tok tok tok none none (by omega) trivial (fun j e => by cases e)
    refine ⟨o, fun _ => ?_, ?_⟩
    · unfold WkO
      rw [hsd]
      exact g1
    · rw [hts]
      have g3 : VV bx se sp (ts[t] :: ts.drop (t + 1)) (rem Rw S) = VV bx se sp (ts.drop (t + 1)) (rem Rw (setO S o)) := by
        rw [VV, g1.rem]
        rfl
      rw [g3]
      have g4 : lokM M1 t S (VV bx se sp (ts.drop (t + 1)) (rem Rw (setO S o))) o = lokM M t S (VV bx se sp (ts.drop (t + 1)) (rem Rw (setO S o))) o := by
        unfold lokM
        rw [← hM1, up2_twice]
      rw [← g4, ← g2, e154]
      simp (disch := first | assumption | exact nar_b0 | exact nar_b1 | exact nar_b | exact Or.inl rfl | exact Or.inr rfl | exact zin_t (by omega) (by omega) | exact Nat.le_of_ble_eq_true rfl | (rw [nI_cl (by omega)]; assumption) | omega) only [q154_0, q154_3, q154_4, q154_5, q154_6, q154_7, q154_8, q154_9, q154_12, q154_13, q154_14, q154_15, q154_16, q154_17, q154_20, q154_23, q154_24, q154_28, q154_29, q154_32, q154_33, q154_36, q154_37, q154_38, q154_39, q154_41, q154_42, q154_43, q154_44, q154_46, q154_49, q154_50, q154_53, q154_56, q154_57, q154_58, q154_61, q154_62, q154_63, q154_65, q154_66, q154_68, q154_69, q154_73, q154_74, q154_77, q154_80, q154_81, q154_83, q154_84, q154_87, q154_90, q154_93, q154_95, q154_96, q154_99, q154_100, q154_103, q154_104, q154_105, q154_107, q154_108, q154_109, q154_111, q154_112, q154_113, q154_114, q154_115, q154_116, q154_117, q154_119, q154_120, q154_121, q154_123, q154_126, q154_127, q154_128, q154_129, q154_130, q154_132, q154_134, q154_137, q154_138, q154_140, q154_141, q154_142, q154_143, q154_144, q154_145, q154_146, q154_148, q154_149, q154_150, q154_151, q154_153, q154_154, q154_157, q154_158, q154_159, q154_160, q154_161, q154_163, q154_164, q154_166, q154_167, q154_170, q154_171, q154_173, q154_175, q154_176, q154_179, q154_180, q154_183, q154_185, q154_186, q154_187, q154_190, q154_192, q154_193, q154_196, q154_197, q154_200, q154_201, q154_203, q154_205, q154_208, q154_210, q154_213, q154_215, q154_218, q154_220, q154_223, q154_225, q154_228, q154_230, q154_232, q154_235, q154_238, q154_239, q154_242, q154_243, q154_245, q154_246, q154_248, q154_249, q154_252, q154_253, q154_256, q154_257, q154_258, q154_260, q154_261, q154_262, q154_264, q154_265, q154_269, q154_270, q154_273, q154_274, q154_277, q154_278, q154_279, q154_280, q154_282, q154_283, q154_284, q154_285, q154_286, q154_287, q154_289, q154_291, q154_294, q154_295, q154_298, q154_301, kl_int, kl_ref, kl_tok, cS_nil, cS_int, cS_ref, cS_long, tl_some, tl_none, List.cons_append, List.nil_append, nI_add, nI_ltb, nI_leb, nI_eqb, nI_cl, zin_nI, nI_mul, hM1, h28, h40]
      rw [if_pos e]
      rfl
theorem works_1 (hS : Sh R) : ∀ (m S t : Nat) (M : ZM), S + m = 2 ^ Rw.length → t ≤ ts.length → GmR M se sp bx Rw ts → WkA M bx se sp Rw ts t S → ∃ M', exe (d + 5) 152 11 [.ref 127, .int (nI t), .int (nI S)] [] M R = exe (d + 5) 152 5 [.ref 127, .int (iI ((t : Int) - 1)), .int (nI (2 ^ Rw.length))] [] M' R ∧ WkA M' bx se sp Rw ts t (2 ^ Rw.length) ∧ ∀ c, c ≠ 141 → c ≠ 142 → M' c = M c := by
  obtain ⟨nN, k127, k128, l128, k129, l129, k130, l130, k131, l131, k132, l132, k133, l133, k134, l134, k135, l135, k136, l136, k137, l137, k138, l138, k139, l139, k140, l140, k141, l141, k142, l142, k143, l143, k144, l144, k145, l145, k146, l146, f127_1, f127_2, f127_3, f127_4, f127_6, f127_7, f127_17, f127_18, f127_19, f127_22, f127_24, f127_25, f127_26, f127_29, f127_30, f127_31, f127_32, f127_33⟩ := modF hS
  intro m
  induction m with
  | zero =>
    intro S t M hSm ht hG hA
    have hp := pow10 hG.2.2.2.1.1
    have h27 := hG.1.1
    have hl := hG.2.2.2.1
    refine ⟨M, ?_, by rw [← show S = 2 ^ Rw.length by omega]; exact hA, fun _ _ _ => rfl⟩
    rw [q152_11]
    simp (disch := first | assumption | exact nar_b0 | exact nar_b1 | exact nar_b | exact Or.inl rfl | exact Or.inr rfl | exact zin_t (by omega) (by omega) | exact Nat.le_of_ble_eq_true rfl | (rw [nI_cl (by omega)]; assumption) | omega) only [q152_0, q152_1, q152_4, q152_6, q152_9, q152_10, q152_12, q152_13, q152_14, q152_17, q152_18, q152_21, q152_22, q152_23, q152_24, q152_27, q152_30, q152_33, q152_36, q152_39, kl_int, kl_ref, kl_tok, cS_nil, cS_int, cS_ref, cS_long, tl_some, tl_none, List.cons_append, List.nil_append, nI_add, nI_ltb, nI_leb, nI_eqb, nI_cl, zin_nI, h27, nI_shl, Nat.one_mul, nI_m]
    rw [if_pos (by omega), show S = 2 ^ Rw.length by omega]
  | succ m ih =>
    intro S t M hSm ht hG hA
    have hp := pow10 hG.2.2.2.1.1
    have h27 := hG.1.1
    have hl := hG.2.2.2.1
    obtain ⟨o, g1, g2⟩ := look_ (d := d) (t := t) (S := S) ht (by omega) hS hG hA
    generalize hM1 : lokM M t S (VV bx se sp (ts.drop t) (rem Rw S)) o = M1 at g2
    have f1 : ∀ c, c ≠ 141 → c ≠ 142 → M1 c = M c := fun c h h' => by rw [← hM1]; exact lokM_fr h h'
    obtain ⟨M', k1, k2, k3⟩ := ih (S + 1) t M1 (by omega) ht (hG.frame (by rw [f1 _ (by decide) (by decide)]) (by rw [f1 _ (by decide) (by decide)]) (f1 _ (by decide) (by decide)) (f1 _ (by decide) (by decide)) (f1 _ (by decide) (by decide)))
      (by
        intro t' S' h1 h2 h3
        by_cases e : t' = t ∧ S' = S
        · obtain ⟨rfl, rfl⟩ := e
          refine ⟨fun q hq => ?_, fun h => ⟨o, ?_, g1 h⟩⟩
          · rw [← hM1, lokM_v (by omega) (by omega) hq, if_pos ⟨rfl, rfl⟩]
          · rw [← hM1, lokM_a (by omega) (by omega), if_pos ⟨rfl, rfl⟩]
        · obtain ⟨p1, p2⟩ := hA t' S' h1 h2 (by omega)
          refine ⟨fun q hq => ?_, fun h => ?_⟩
          · rw [← hM1, lokM_v (by omega) (by omega) hq, if_neg e]; exact p1 q hq
          · obtain ⟨o2, p3, p4⟩ := p2 h
            refine ⟨o2, ?_, p4⟩
            rw [← hM1, lokM_a (by omega) (by omega), if_neg e]; exact p3)
    refine ⟨M', ?_, k2, fun c h h' => by rw [k3 c h h', f1 c h h']⟩
    rw [← k1]
    rw [q152_11]
    simp (disch := first | assumption | exact nar_b0 | exact nar_b1 | exact nar_b | exact Or.inl rfl | exact Or.inr rfl | exact zin_t (by omega) (by omega) | exact Nat.le_of_ble_eq_true rfl | (rw [nI_cl (by omega)]; assumption) | omega) only [q152_0, q152_1, q152_4, q152_6, q152_9, q152_10, q152_12, q152_13, q152_14, q152_17, q152_18, q152_21, q152_22, q152_23, q152_24, q152_27, q152_30, q152_33, q152_36, q152_39, kl_int, kl_ref, kl_tok, cS_nil, cS_int, cS_ref, cS_long, tl_some, tl_none, List.cons_append, List.nil_append, nI_add, nI_ltb, nI_leb, nI_eqb, nI_cl, zin_nI, h27, nI_shl, Nat.one_mul, g2, zk0_inl]
    rw [if_neg (by omega)]
theorem works_2 (hS : Sh R) : ∀ (t : Nat) (tk : Value) (M : ZM), t ≤ ts.length + 1 → GmR M se sp bx Rw ts → (∀ t' S', S' < 2 ^ Rw.length → t' ≤ ts.length → t ≤ t' → (∀ q, q < 2 → M 141 (2 * (1024 * t' + S') + q) = iI (sdV q (VV bx se sp (ts.drop t') (rem Rw S')))) ∧ (t' < ts.length → ∃ o, M 142 (1024 * t' + S') = oI o ∧ WkO bx se sp Rw ts t' S' o)) →
    ∃ M', exe (d + 5) 152 5 [.ref 127, .int (iI ((t : Int) - 1)), tk] [] M R = some (.inl none, M', R) ∧ WkA M' bx se sp Rw ts 0 (2 ^ Rw.length) ∧ ∀ c, c ≠ 141 → c ≠ 142 → M' c = M c := by
  obtain ⟨nN, k127, k128, l128, k129, l129, k130, l130, k131, l131, k132, l132, k133, l133, k134, l134, k135, l135, k136, l136, k137, l137, k138, l138, k139, l139, k140, l140, k141, l141, k142, l142, k143, l143, k144, l144, k145, l145, k146, l146, f127_1, f127_2, f127_3, f127_4, f127_6, f127_7, f127_17, f127_18, f127_19, f127_22, f127_24, f127_25, f127_26, f127_29, f127_30, f127_31, f127_32, f127_33⟩ := modF hS
  intro t
  induction t with
  | zero =>
    intro tk M ht hG hA
    refine ⟨M, ?_, fun t' S' h1 h2 h3 => hA t' S' h1 h2 (Nat.zero_le _), fun _ _ _ => rfl⟩
    have e : (iI (((0 : Nat) : Int) - 1) < nI 0) = True := by
      rw [nI_iI, iI_ltb (by omega) (by omega) (by omega) (by omega)]
      simp
    rw [q152_5]
    simp (disch := first | assumption | exact nar_b0 | exact nar_b1 | exact nar_b | exact Or.inl rfl | exact Or.inr rfl | exact zin_t (by omega) (by omega) | exact Nat.le_of_ble_eq_true rfl | (rw [nI_cl (by omega)]; assumption) | omega) only [q152_0, q152_1, q152_4, q152_6, q152_9, q152_10, q152_12, q152_13, q152_14, q152_17, q152_18, q152_21, q152_22, q152_23, q152_24, q152_27, q152_30, q152_33, q152_36, q152_39, kl_int, kl_ref, kl_tok, cS_nil, cS_int, cS_ref, cS_long, tl_some, tl_none, List.cons_append, List.nil_append, nI_add, nI_ltb, nI_leb, nI_eqb, nI_cl, zin_nI, e, if_true]
  | succ t ih =>
    intro tk M ht hG hA
    have hl := hG.2.2.2.1
    obtain ⟨M1, a1, a2, a3⟩ := works_1 (d := d) hS (2 ^ Rw.length) 0 t M (by omega) (by omega) hG (fun t' S' h1 h2 h3 => hA t' S' h1 h2 (by omega))
    obtain ⟨M', k1, k2, k3⟩ := ih (.int (nI (2 ^ Rw.length))) M1 (by omega) (hG.frame (by rw [a3 _ (by decide) (by decide)]) (by rw [a3 _ (by decide) (by decide)]) (a3 _ (by decide) (by decide)) (a3 _ (by decide) (by decide)) (a3 _ (by decide) (by decide))) (fun t' S' h1 h2 h3 => a2 t' S' h1 h2 (by omega))
    refine ⟨M', ?_, k2, fun c h h' => by rw [k3 c h h', a3 c h h']⟩
    rw [← k1, ← a1, nI_t1]
    rw [q152_5]
    simp (disch := first | assumption | exact nar_b0 | exact nar_b1 | exact nar_b | exact Or.inl rfl | exact Or.inr rfl | exact zin_t (by omega) (by omega) | exact Nat.le_of_ble_eq_true rfl | (rw [nI_cl (by omega)]; assumption) | omega) only [q152_0, q152_1, q152_4, q152_6, q152_9, q152_10, q152_12, q152_13, q152_14, q152_17, q152_18, q152_21, q152_22, q152_23, q152_24, q152_27, q152_30, q152_33, q152_36, q152_39, kl_int, kl_ref, kl_tok, cS_nil, cS_int, cS_ref, cS_long, tl_some, tl_none, List.cons_append, List.nil_append, nI_add, nI_ltb, nI_leb, nI_eqb, nI_cl, zin_nI]
    rw [if_neg (by omega)]
theorem works_ (hS : Sh R) (hG : GmR M se sp bx Rw ts) : ∃ M', cal (d + 5) 152 [.ref 127] M R = some (.inl none, M', R) ∧ GmR M' se sp bx Rw ts ∧ WkA M' bx se sp Rw ts 0 (2 ^ Rw.length) ∧ ∀ c, c ≠ 141 → c ≠ 142 → M' c = M c := by
  obtain ⟨nN, k127, k128, l128, k129, l129, k130, l130, k131, l131, k132, l132, k133, l133, k134, l134, k135, l135, k136, l136, k137, l137, k138, l138, k139, l139, k140, l140, k141, l141, k142, l142, k143, l143, k144, l144, k145, l145, k146, l146, f127_1, f127_2, f127_3, f127_4, f127_6, f127_7, f127_17, f127_18, f127_19, f127_22, f127_24, f127_25, f127_26, f127_29, f127_30, f127_31, f127_32, f127_33⟩ := modF hS
  have h28 := hG.1.2.1
  obtain ⟨M', k1, k2, k3⟩ := works_2 (d := d) (Rw := Rw) (ts := ts) hS (ts.length + 1) tok M (Nat.le_refl _) hG (fun t' S' h1 h2 h3 => absurd h3 (by omega))
  refine ⟨M', ?_, hG.frame (by rw [k3 _ (by decide) (by decide)]) (by rw [k3 _ (by decide) (by decide)]) (k3 _ (by decide) (by decide)) (k3 _ (by decide) (by decide)) (k3 _ (by decide) (by decide)), k2, k3⟩
  rw [nI_t1] at k1
  rw [← k1, e152]
  simp (disch := first | assumption | exact nar_b0 | exact nar_b1 | exact nar_b | exact Or.inl rfl | exact Or.inr rfl | exact zin_t (by omega) (by omega) | exact Nat.le_of_ble_eq_true rfl | (rw [nI_cl (by omega)]; assumption) | omega) only [q152_0, q152_1, q152_4, q152_6, q152_9, q152_10, q152_12, q152_13, q152_14, q152_17, q152_18, q152_21, q152_22, q152_23, q152_24, q152_27, q152_30, q152_33, q152_36, q152_39, kl_int, kl_ref, kl_tok, cS_nil, cS_int, cS_ref, cS_long, tl_some, tl_none, List.cons_append, List.nil_append, nI_add, nI_ltb, nI_leb, nI_eqb, nI_cl, zin_nI, h28]
end Lo
