-- the reference: the first of the rests
theorem mx_le {v : Nat → Int} {g : Nat} {l : List Nat} {x : Int} (hx : mn0 ≤ x) : mx v g l mn0 ≤ x ↔ ∀ s ∈ l, v (g ||| s) ≤ x := by
  obtain ⟨h1, h2, h3⟩ := mx_spec v g l mn0
  constructor
  · intro h s hs
    exact Int.le_trans (h2 s hs) h
  · intro h
    rcases h3 with h3 | ⟨s, hs, h3⟩
    · rw [h3]; exact hx
    · rw [h3]; exact h s hs
def rsR (v0 v1 : Nat → Int) (S0 k0 k1 n a b : Nat) : Bool := cnm S0 k1 b && (decide (∀ s ∈ cnL S0 k0 n, v0 (S0 ||| b ||| s) ≤ v0 (S0 ||| a ||| b)) && decide (∀ s ∈ cnL S0 k1 n, v1 (S0 ||| a ||| s) ≤ v1 (S0 ||| a ||| b)))
def LRf (v0 v1 : Nat → Int) (S0 k0 k1 n a : Nat) : List (Nat × Nat) := if cnm S0 k0 a = true then ((List.range (2 ^ n)).filter (rsR v0 v1 S0 k0 k1 n a)).map (fun b => (a, b)) else []
def LRn (v0 v1 : Nat → Int) (S0 k0 k1 n a : Nat) : List (Nat × Nat) := (List.range a).flatMap (LRf v0 v1 S0 k0 k1 n)
theorem LRn_succ {v0 v1 : Nat → Int} {S0 k0 k1 n a : Nat} : LRn v0 v1 S0 k0 k1 n (a + 1) = LRn v0 v1 S0 k0 k1 n a ++ LRf v0 v1 S0 k0 k1 n a := by
  unfold LRn
  rw [List.range_succ, List.flatMap_append]
  simp
theorem LRn_mem {v0 v1 : Nat → Int} {S0 k0 k1 n a : Nat} {p : Nat × Nat} (h : p ∈ LRn v0 v1 S0 k0 k1 n a) : p.1 < a ∧ p.2 < 2 ^ n := by
  unfold LRn at h
  obtain ⟨x, hx, hp⟩ := List.mem_flatMap.mp h
  unfold LRf at hp
  split at hp
  · obtain ⟨b, hb, rfl⟩ := List.mem_map.mp hp
    exact ⟨List.mem_range.mp hx, List.mem_range.mp (List.mem_filter.mp hb).1⟩
  · cases hp
def frI (L : List (Nat × Nat)) : Int32 := match L with
  | [] => -1
  | p :: _ => nI p.1
def scI (L : List (Nat × Nat)) : Int32 := match L with
  | [] => -1
  | p :: _ => nI p.2
theorem frI_app {p : Nat × Nat} {L K : List (Nat × Nat)} : frI (p :: L ++ K) = nI p.1 := rfl
theorem scI_app {p : Nat × Nat} {L K : List (Nat × Nat)} : scI (p :: L ++ K) = nI p.2 := rfl
section Fr
variable {d se sp bx T B S0 : Nat} {M : ZM} {R : ZH} {Rw : List P3} {ts : List Nat}
set_option maxHeartbeats 4000000 in
theorem on_3b {w a : Nat} (hS : Sh R) (hG : GmR M se sp bx Rw ts) (hS0 : S0 < 2 ^ Rw.length) (hC : onC M T B) (hE : EndT M se sp Rw) (hB : ∀ s' b', s' < 2 → b' < 2 ^ Rw.length → BstT M se sp T B S0 Rw s' b') (ha : a < 2 ^ Rw.length) (hca : cnm S0 (lfo 0 B T) a = true) {L0 : List (Nat × Nat)} (hL0 : ∀ p ∈ L0, p.1 < a ∧ p.2 < 2 ^ Rw.length) :
    ∀ (m b : Nat) (k9 k10 : Value), b + m = 2 ^ Rw.length →
    ∃ k9' k10', exe (d + 4) 186 198 [.ref 127, .int (nI w), .int (nI S0), .int (nI (2 ^ Rw.length)), .int (nI (L0 ++ ((List.range b).filter (rsR (vE se sp Rw 0) (vE se sp Rw 1) S0 (lfo 0 B T) (lfo 1 B T) Rw.length a)).map (fun b => (a, b))).length), .int (frI (L0 ++ ((List.range b).filter (rsR (vE se sp Rw 0) (vE se sp Rw 1) S0 (lfo 0 B T) (lfo 1 B T) Rw.length a)).map (fun b => (a, b)))), .int (scI (L0 ++ ((List.range b).filter (rsR (vE se sp Rw 0) (vE se sp Rw 1) S0 (lfo 0 B T) (lfo 1 B T) Rw.length a)).map (fun b => (a, b)))), .int (nI a), .int (nI b), k9, k10] [] M R =
      exe (d + 4) 186 175 [.ref 127, .int (nI w), .int (nI S0), .int (nI (2 ^ Rw.length)), .int (nI (L0 ++ ((List.range (2 ^ Rw.length)).filter (rsR (vE se sp Rw 0) (vE se sp Rw 1) S0 (lfo 0 B T) (lfo 1 B T) Rw.length a)).map (fun b => (a, b))).length), .int (frI (L0 ++ ((List.range (2 ^ Rw.length)).filter (rsR (vE se sp Rw 0) (vE se sp Rw 1) S0 (lfo 0 B T) (lfo 1 B T) Rw.length a)).map (fun b => (a, b)))), .int (scI (L0 ++ ((List.range (2 ^ Rw.length)).filter (rsR (vE se sp Rw 0) (vE se sp Rw 1) S0 (lfo 0 B T) (lfo 1 B T) Rw.length a)).map (fun b => (a, b)))), .int (nI (a + 1)), .int (nI (2 ^ Rw.length)), k9', k10'] [] M R := by
  obtain ⟨nN, k127, k128, l128, k129, l129, k130, l130, k131, l131, k132, l132, k133, l133, k134, l134, k135, l135, k136, l136, k137, l137, k138, l138, k139, l139, k140, l140, k141, l141, k142, l142, k143, l143, k144, l144, k145, l145, k146, l146, f127_1, f127_2, f127_3, f127_4, f127_6, f127_7, f127_17, f127_18, f127_19, f127_22, f127_24, f127_25, f127_26, f127_29, f127_30, f127_31, f127_32, f127_33⟩ := modF hS
  have hok := hG.ok
  have hp := pow10 hok.1
  intro m
  induction m with
  | zero =>
    intro b k9 k10 hb
    have e : b = 2 ^ Rw.length := by omega
    subst e
    refine ⟨k9, k10, ?_⟩
    have hle : 2 ^ Rw.length ≤ 2 ^ Rw.length := Nat.le_refl _
    rw [q186_198]
    simp (disch := first | assumption | exact nar_b0 | exact nar_b1 | exact nar_b | exact Or.inl rfl | exact Or.inr rfl | exact zin_t (by omega) (by omega) | exact Nat.le_of_ble_eq_true rfl | (rw [nI_cl (by omega)]; assumption) | omega) only [↓reduceIte, reduceCtorEq, not_true_eq_false, not_false_eq_true, q186_0, q186_1, q186_2, q186_5, q186_6, q186_7, q186_8, q186_9, q186_12, q186_15, q186_16, q186_17, q186_20, q186_23, q186_24, q186_25, q186_26, q186_29, q186_30, q186_33, q186_34, q186_35, q186_38, q186_39, q186_42, q186_43, q186_46, q186_47, q186_48, q186_49, q186_52, q186_55, q186_56, q186_57, q186_58, q186_61, q186_62, q186_65, q186_66, q186_67, q186_68, q186_71, q186_72, q186_73, q186_74, q186_78, q186_79, q186_82, q186_83, q186_87, q186_88, q186_91, q186_92, q186_95, q186_96, q186_98, q186_99, q186_101, q186_102, q186_103, q186_105, q186_107, q186_110, q186_111, q186_114, q186_117, q186_120, q186_123, q186_124, q186_128, q186_129, q186_132, q186_133, q186_137, q186_138, q186_141, q186_142, q186_144, q186_146, q186_147, q186_148, q186_151, q186_154, q186_157, q186_160, q186_163, q186_164, q186_166, q186_167, q186_169, q186_170, q186_172, q186_173, q186_177, q186_178, q186_181, q186_182, q186_184, q186_185, q186_186, q186_189, q186_192, q186_195, q186_196, q186_200, q186_201, q186_204, q186_205, q186_207, q186_208, q186_210, q186_211, q186_213, q186_214, q186_216, q186_217, q186_218, q186_221, q186_224, q186_225, q186_228, q186_229, q186_231, q186_232, q186_233, q186_234, q186_237, q186_238, q186_240, q186_241, q186_242, q186_245, q186_246, q186_249, q186_250, q186_252, q186_253, q186_254, q186_255, q186_256, q186_257, q186_260, q186_261, q186_263, q186_264, q186_265, q186_266, q186_267, q186_270, q186_273, q186_276, q186_278, q186_279, q186_282, q186_283, q186_285, q186_288, q186_289, q186_291, q186_294, q186_297, q186_298, q186_300, q186_303, q186_304, q186_306, q186_309, q186_312, q186_313, q186_315, q186_318, q186_319, q186_321, q186_324, q186_327, q186_328, q186_331, q186_332, q186_334, q186_336, q186_339, q186_341, q186_344, q186_346, q186_348, q186_350, q186_353, q186_355, q186_357, q186_360, q186_362, q186_365, q186_367, q186_369, q186_372, q186_375, q186_378, q186_381, q186_382, q186_385, q186_387, q186_388, q186_390, q186_393, q186_396, q186_397, q186_398, q186_399, q186_402, q186_403, q186_405, q186_408, q186_411, q186_412, q186_413, q186_416, q186_417, q186_419, q186_422, q186_425, q186_426, q186_429, q186_430, q186_431, q186_433, q186_434, q186_436, q186_437, q186_438, q186_439, q186_440, q186_441, q186_442, q186_443, kl_int, kl_ref, kl_tok, cS_nil, cS_int, cS_ref, cS_long, tl_some, tl_none, List.cons_append, List.nil_append, nI_add, nI_ltb, nI_leb, nI_eqb, nI_cl, zin_nI, hle]
  | succ m ih =>
    intro b k9 k10 hb
    have hlt : ¬ 2 ^ Rw.length ≤ b := by omega
    have hbl : b < 2 ^ Rw.length := by omega
    have hfs := rng_filter_succ (rsR (vE se sp Rw 0) (vE se sp Rw 1) S0 (lfo 0 B T) (lfo 1 B T) Rw.length a) b
    have hcn := canName_ (d := d + 2) (M := M) (R := R) (S := b) (S0 := S0) (s := 1) (by omega) hC.2.2.1 hC.2.2.2 (by omega) (by omega) hS hC.1 hC.2.1
    have hor : S0 ||| a ||| b < 2 ^ Rw.length := Nat.or_lt_two_pow (Nat.or_lt_two_pow hS0 ha) hbl
    have hv0 := hE _ hor 0 (by omega)
    rw [Nat.add_zero] at hv0
    have hv1 := hE _ hor 1 (by omega)
    have vb0 := vE_b (se := se) (sp := sp) (q := 0) (S := S0 ||| a ||| b) hok
    have vb1 := vE_b (se := se) (sp := sp) (q := 1) (S := S0 ||| a ||| b) hok
    have mb0 := mxR_b (se := se) (sp := sp) (q := 0) (g := S0 ||| b) hok (cnL S0 (lfo 0 B T) Rw.length)
    have mb1 := mxR_b (se := se) (sp := sp) (q := 1) (g := S0 ||| a) hok (cnL S0 (lfo 1 B T) Rw.length)
    have hba := hB 1 a (by omega) ha hca
    have ml0 := mx_le (v := vE se sp Rw 0) (g := S0 ||| b) (l := cnL S0 (lfo 0 B T) Rw.length) (x := vE se sp Rw 0 (S0 ||| a ||| b)) (by unfold mn0; omega)
    have ml1 := mx_le (v := vE se sp Rw 1) (g := S0 ||| a) (l := cnL S0 (lfo 1 B T) Rw.length) (x := vE se sp Rw 1 (S0 ||| a ||| b)) (by unfold mn0; omega)
    generalize hmx0 : mx (vE se sp Rw 0) (S0 ||| b) (cnL S0 (lfo 0 B T) Rw.length) mn0 = m0 at mb0 ml0
    generalize hmx1 : mx (vE se sp Rw 1) (S0 ||| a) (cnL S0 (lfo 1 B T) Rw.length) mn0 = m1 at mb1 ml1 hba
    have hrs : rsR (vE se sp Rw 0) (vE se sp Rw 1) S0 (lfo 0 B T) (lfo 1 B T) Rw.length a b = (cnm S0 (lfo 1 B T) b && (decide (m0 ≤ vE se sp Rw 0 (S0 ||| a ||| b)) && decide (m1 ≤ vE se sp Rw 1 (S0 ||| a ||| b)))) := by
      unfold rsR
      rw [decide_eq_decide.mpr ml0, decide_eq_decide.mpr ml1]
    by_cases hr : rsR (vE se sp Rw 0) (vE se sp Rw 1) S0 (lfo 0 B T) (lfo 1 B T) Rw.length a b = true
    · have hr2 := hr
      rw [hrs, Bool.and_eq_true, Bool.and_eq_true, decide_eq_true_iff, decide_eq_true_iff] at hr2
      obtain ⟨r1, r2, r3⟩ := hr2
      rw [r1] at hcn
      have hbb := hB 0 b (by omega) hbl r1
      rw [Nat.add_zero, hmx0] at hbb
      have nr2 : ¬ vE se sp Rw 0 (S0 ||| a ||| b) < m0 := by omega
      rw [hr, if_pos rfl] at hfs
      obtain ⟨k9', k10', g⟩ := ih (b + 1) (.int (nI (S0 ||| a ||| b))) (.int (nI (if L0 ++ ((List.range b).filter (rsR (vE se sp Rw 0) (vE se sp Rw 1) S0 (lfo 0 B T) (lfo 1 B T) Rw.length a)).map (fun b => (a, b)) = [] then 1 else 0))) (by omega)
      refine ⟨k9', k10', ?_⟩
      rw [← g]
      rw [hfs, List.map_append, ← List.append_assoc]
      have hmem : ∀ p ∈ L0 ++ ((List.range b).filter (rsR (vE se sp Rw 0) (vE se sp Rw 1) S0 (lfo 0 B T) (lfo 1 B T) Rw.length a)).map (fun b => (a, b)), (p.1 < a ∨ (p.1 = a ∧ p.2 < b)) ∧ p.2 < 2 ^ Rw.length := by
        intro p hpm
        rcases List.mem_append.mp hpm with h | h
        · exact ⟨Or.inl (hL0 p h).1, (hL0 p h).2⟩
        · obtain ⟨b', hb', rfl⟩ := List.mem_map.mp h
          have := List.mem_range.mp (List.mem_filter.mp hb').1
          exact ⟨Or.inr ⟨rfl, this⟩, by show b' < _; omega⟩
      generalize L0 ++ ((List.range b).filter (rsR (vE se sp Rw 0) (vE se sp Rw 1) S0 (lfo 0 B T) (lfo 1 B T) Rw.length a)).map (fun b => (a, b)) = L at hmem
      cases L with
      | nil =>
        have z1 : (-1 : Int32) = -1 := rfl
        have aa : a = a := rfl
        rw [q186_198]
        simp (disch := first | assumption | exact nar_b0 | exact nar_b1 | exact nar_b | exact Or.inl rfl | exact Or.inr rfl | exact zin_t (by omega) (by omega) | exact Nat.le_of_ble_eq_true rfl | (rw [nI_cl (by omega)]; assumption) | omega) only [↓reduceIte, reduceCtorEq, not_true_eq_false, not_false_eq_true, q186_0, q186_1, q186_2, q186_5, q186_6, q186_7, q186_8, q186_9, q186_12, q186_15, q186_16, q186_17, q186_20, q186_23, q186_24, q186_25, q186_26, q186_29, q186_30, q186_33, q186_34, q186_35, q186_38, q186_39, q186_42, q186_43, q186_46, q186_47, q186_48, q186_49, q186_52, q186_55, q186_56, q186_57, q186_58, q186_61, q186_62, q186_65, q186_66, q186_67, q186_68, q186_71, q186_72, q186_73, q186_74, q186_78, q186_79, q186_82, q186_83, q186_87, q186_88, q186_91, q186_92, q186_95, q186_96, q186_98, q186_99, q186_101, q186_102, q186_103, q186_105, q186_107, q186_110, q186_111, q186_114, q186_117, q186_120, q186_123, q186_124, q186_128, q186_129, q186_132, q186_133, q186_137, q186_138, q186_141, q186_142, q186_144, q186_146, q186_147, q186_148, q186_151, q186_154, q186_157, q186_160, q186_163, q186_164, q186_166, q186_167, q186_169, q186_170, q186_172, q186_173, q186_177, q186_178, q186_181, q186_182, q186_184, q186_185, q186_186, q186_189, q186_192, q186_195, q186_196, q186_200, q186_201, q186_204, q186_205, q186_207, q186_208, q186_210, q186_211, q186_213, q186_214, q186_216, q186_217, q186_218, q186_221, q186_224, q186_225, q186_228, q186_229, q186_231, q186_232, q186_233, q186_234, q186_237, q186_238, q186_240, q186_241, q186_242, q186_245, q186_246, q186_249, q186_250, q186_252, q186_253, q186_254, q186_255, q186_256, q186_257, q186_260, q186_261, q186_263, q186_264, q186_265, q186_266, q186_267, q186_270, q186_273, q186_276, q186_278, q186_279, q186_282, q186_283, q186_285, q186_288, q186_289, q186_291, q186_294, q186_297, q186_298, q186_300, q186_303, q186_304, q186_306, q186_309, q186_312, q186_313, q186_315, q186_318, q186_319, q186_321, q186_324, q186_327, q186_328, q186_331, q186_332, q186_334, q186_336, q186_339, q186_341, q186_344, q186_346, q186_348, q186_350, q186_353, q186_355, q186_357, q186_360, q186_362, q186_365, q186_367, q186_369, q186_372, q186_375, q186_378, q186_381, q186_382, q186_385, q186_387, q186_388, q186_390, q186_393, q186_396, q186_397, q186_398, q186_399, q186_402, q186_403, q186_405, q186_408, q186_411, q186_412, q186_413, q186_416, q186_417, q186_419, q186_422, q186_425, q186_426, q186_429, q186_430, q186_431, q186_433, q186_434, q186_436, q186_437, q186_438, q186_439, q186_440, q186_441, q186_442, q186_443, kl_int, kl_ref, kl_tok, cS_nil, cS_int, cS_ref, cS_long, tl_some, tl_none, List.cons_append, List.nil_append, nI_add, nI_ltb, nI_leb, nI_eqb, nI_cl, zin_nI, hlt, nI_or, hcn, zk0_inl, b2i_0, nI_mul, hv0, hbb, iI_ltb, nr2, hv1, hba, iI_leb, r3, frI, scI, List.length_nil]
        rfl
      | cons p L =>
        obtain ⟨hp1, hp2⟩ := hmem p List.mem_cons_self
        have hm2 : ∀ (i j : Nat) (_ : i < j) (h : j < (Rw.map (fun p => p.1)).length), (Rw.map (fun p => p.1))[i] < (Rw.map (fun p => p.1))[j] := by
          intro i j h1 h2
          rw [List.getElem_map, List.getElem_map]
          rw [List.length_map] at h2
          exact hG.2.2.2.2.2.1 i j h1 h2
        have h14 : ∀ x ∈ Rw.map (fun p => p.1), x < 14 := by
          intro x hx
          obtain ⟨p, hp, rfl⟩ := List.mem_map.mp hx
          exact (hG.2.2.2.2.1 p hp).1
        have na := numbers_ (d := d + 2) (S := a) (by omega) hS hG
        have nb := numbers_ (d := d + 2) (S := b) (by omega) hS hG
        have nf := numbers_ (d := d + 2) (S := p.1) (by omega) hS hG
        have ns := numbers_ (d := d + 2) (S := p.2) (by omega) hS hG
        have ba := nmb_14 (S := a) h14
        have bb := nmb_14 (S := b) h14
        have bf := nmb_14 (S := p.1) h14
        have bs' := nmb_14 (S := p.2) h14
        have z1 : ¬ nI p.1 = -1 := by rw [nI_m1 (by omega)]; exact id
        have hne : ¬ (p :: L = []) := by simp
        rcases hp1 with hp1 | ⟨hp1, hp3⟩
        · have l1 := nmb_lt hm2 (by rw [List.length_map]; exact ha) hp1
          have l2 : ¬ nmbI (Rw.map (fun p => p.1)) a 0 < nmbI (Rw.map (fun p => p.1)) p.1 0 := by omega
          have l3 : ¬ nmbI (Rw.map (fun p => p.1)) a 0 = nmbI (Rw.map (fun p => p.1)) p.1 0 := by omega
          rw [q186_198]
          simp (disch := first | assumption | exact nar_b0 | exact nar_b1 | exact nar_b | exact Or.inl rfl | exact Or.inr rfl | exact zin_t (by omega) (by omega) | exact Nat.le_of_ble_eq_true rfl | (rw [nI_cl (by omega)]; assumption) | omega) only [↓reduceIte, reduceCtorEq, not_true_eq_false, not_false_eq_true, q186_0, q186_1, q186_2, q186_5, q186_6, q186_7, q186_8, q186_9, q186_12, q186_15, q186_16, q186_17, q186_20, q186_23, q186_24, q186_25, q186_26, q186_29, q186_30, q186_33, q186_34, q186_35, q186_38, q186_39, q186_42, q186_43, q186_46, q186_47, q186_48, q186_49, q186_52, q186_55, q186_56, q186_57, q186_58, q186_61, q186_62, q186_65, q186_66, q186_67, q186_68, q186_71, q186_72, q186_73, q186_74, q186_78, q186_79, q186_82, q186_83, q186_87, q186_88, q186_91, q186_92, q186_95, q186_96, q186_98, q186_99, q186_101, q186_102, q186_103, q186_105, q186_107, q186_110, q186_111, q186_114, q186_117, q186_120, q186_123, q186_124, q186_128, q186_129, q186_132, q186_133, q186_137, q186_138, q186_141, q186_142, q186_144, q186_146, q186_147, q186_148, q186_151, q186_154, q186_157, q186_160, q186_163, q186_164, q186_166, q186_167, q186_169, q186_170, q186_172, q186_173, q186_177, q186_178, q186_181, q186_182, q186_184, q186_185, q186_186, q186_189, q186_192, q186_195, q186_196, q186_200, q186_201, q186_204, q186_205, q186_207, q186_208, q186_210, q186_211, q186_213, q186_214, q186_216, q186_217, q186_218, q186_221, q186_224, q186_225, q186_228, q186_229, q186_231, q186_232, q186_233, q186_234, q186_237, q186_238, q186_240, q186_241, q186_242, q186_245, q186_246, q186_249, q186_250, q186_252, q186_253, q186_254, q186_255, q186_256, q186_257, q186_260, q186_261, q186_263, q186_264, q186_265, q186_266, q186_267, q186_270, q186_273, q186_276, q186_278, q186_279, q186_282, q186_283, q186_285, q186_288, q186_289, q186_291, q186_294, q186_297, q186_298, q186_300, q186_303, q186_304, q186_306, q186_309, q186_312, q186_313, q186_315, q186_318, q186_319, q186_321, q186_324, q186_327, q186_328, q186_331, q186_332, q186_334, q186_336, q186_339, q186_341, q186_344, q186_346, q186_348, q186_350, q186_353, q186_355, q186_357, q186_360, q186_362, q186_365, q186_367, q186_369, q186_372, q186_375, q186_378, q186_381, q186_382, q186_385, q186_387, q186_388, q186_390, q186_393, q186_396, q186_397, q186_398, q186_399, q186_402, q186_403, q186_405, q186_408, q186_411, q186_412, q186_413, q186_416, q186_417, q186_419, q186_422, q186_425, q186_426, q186_429, q186_430, q186_431, q186_433, q186_434, q186_436, q186_437, q186_438, q186_439, q186_440, q186_441, q186_442, q186_443, kl_int, kl_ref, kl_tok, cS_nil, cS_int, cS_ref, cS_long, tl_some, tl_none, List.cons_append, List.nil_append, nI_add, nI_ltb, nI_leb, nI_eqb, nI_cl, zin_nI, hlt, nI_or, hcn, zk0_inl, b2i_0, nI_mul, hv0, hbb, iI_ltb, nr2, hv1, hba, iI_leb, r3, frI, scI, z1, na, nf, l2, l3, hne]
          simp
        · have l1 := nmb_lt hm2 (by rw [List.length_map]; exact hbl) hp3
          rw [hp1] at nf z1
          have l2 : ¬ nmbI (Rw.map (fun p => p.1)) a 0 < nmbI (Rw.map (fun p => p.1)) a 0 := by omega
          have l3 : nmbI (Rw.map (fun p => p.1)) p.2 0 ≤ nmbI (Rw.map (fun p => p.1)) b 0 := by omega
          rw [q186_198]
          simp (disch := first | assumption | exact nar_b0 | exact nar_b1 | exact nar_b | exact Or.inl rfl | exact Or.inr rfl | exact zin_t (by omega) (by omega) | exact Nat.le_of_ble_eq_true rfl | (rw [nI_cl (by omega)]; assumption) | omega) only [↓reduceIte, reduceCtorEq, not_true_eq_false, not_false_eq_true, q186_0, q186_1, q186_2, q186_5, q186_6, q186_7, q186_8, q186_9, q186_12, q186_15, q186_16, q186_17, q186_20, q186_23, q186_24, q186_25, q186_26, q186_29, q186_30, q186_33, q186_34, q186_35, q186_38, q186_39, q186_42, q186_43, q186_46, q186_47, q186_48, q186_49, q186_52, q186_55, q186_56, q186_57, q186_58, q186_61, q186_62, q186_65, q186_66, q186_67, q186_68, q186_71, q186_72, q186_73, q186_74, q186_78, q186_79, q186_82, q186_83, q186_87, q186_88, q186_91, q186_92, q186_95, q186_96, q186_98, q186_99, q186_101, q186_102, q186_103, q186_105, q186_107, q186_110, q186_111, q186_114, q186_117, q186_120, q186_123, q186_124, q186_128, q186_129, q186_132, q186_133, q186_137, q186_138, q186_141, q186_142, q186_144, q186_146, q186_147, q186_148, q186_151, q186_154, q186_157, q186_160, q186_163, q186_164, q186_166, q186_167, q186_169, q186_170, q186_172, q186_173, q186_177, q186_178, q186_181, q186_182, q186_184, q186_185, q186_186, q186_189, q186_192, q186_195, q186_196, q186_200, q186_201, q186_204, q186_205, q186_207, q186_208, q186_210, q186_211, q186_213, q186_214, q186_216, q186_217, q186_218, q186_221, q186_224, q186_225, q186_228, q186_229, q186_231, q186_232, q186_233, q186_234, q186_237, q186_238, q186_240, q186_241, q186_242, q186_245, q186_246, q186_249, q186_250, q186_252, q186_253, q186_254, q186_255, q186_256, q186_257, q186_260, q186_261, q186_263, q186_264, q186_265, q186_266, q186_267, q186_270, q186_273, q186_276, q186_278, q186_279, q186_282, q186_283, q186_285, q186_288, q186_289, q186_291, q186_294, q186_297, q186_298, q186_300, q186_303, q186_304, q186_306, q186_309, q186_312, q186_313, q186_315, q186_318, q186_319, q186_321, q186_324, q186_327, q186_328, q186_331, q186_332, q186_334, q186_336, q186_339, q186_341, q186_344, q186_346, q186_348, q186_350, q186_353, q186_355, q186_357, q186_360, q186_362, q186_365, q186_367, q186_369, q186_372, q186_375, q186_378, q186_381, q186_382, q186_385, q186_387, q186_388, q186_390, q186_393, q186_396, q186_397, q186_398, q186_399, q186_402, q186_403, q186_405, q186_408, q186_411, q186_412, q186_413, q186_416, q186_417, q186_419, q186_422, q186_425, q186_426, q186_429, q186_430, q186_431, q186_433, q186_434, q186_436, q186_437, q186_438, q186_439, q186_440, q186_441, q186_442, q186_443, kl_int, kl_ref, kl_tok, cS_nil, cS_int, cS_ref, cS_long, tl_some, tl_none, List.cons_append, List.nil_append, nI_add, nI_ltb, nI_leb, nI_eqb, nI_cl, zin_nI, hlt, nI_or, hcn, zk0_inl, b2i_0, nI_mul, hv0, hbb, iI_ltb, nr2, hv1, hba, iI_leb, r3, frI, scI, hp1, z1, na, l2, l3, nb, ns, hne]
          simp [frI, scI, hp1]
    · have hr2 : rsR (vE se sp Rw 0) (vE se sp Rw 1) S0 (lfo 0 B T) (lfo 1 B T) Rw.length a b = false := by simpa using hr
      rw [hr2, if_neg (by decide), List.append_nil] at hfs
      obtain ⟨k9', k10', g⟩ := ih (b + 1) (.int (nI (S0 ||| a ||| b))) k10 (by omega)
      refine ⟨k9', k10', ?_⟩
      rw [← g, hfs]
      cases hc : cnm S0 (lfo 1 B T) b
      · rw [hc] at hcn
        rw [q186_198]
        simp (disch := first | assumption | exact nar_b0 | exact nar_b1 | exact nar_b | exact Or.inl rfl | exact Or.inr rfl | exact zin_t (by omega) (by omega) | exact Nat.le_of_ble_eq_true rfl | (rw [nI_cl (by omega)]; assumption) | omega) only [↓reduceIte, reduceCtorEq, not_true_eq_false, not_false_eq_true, q186_0, q186_1, q186_2, q186_5, q186_6, q186_7, q186_8, q186_9, q186_12, q186_15, q186_16, q186_17, q186_20, q186_23, q186_24, q186_25, q186_26, q186_29, q186_30, q186_33, q186_34, q186_35, q186_38, q186_39, q186_42, q186_43, q186_46, q186_47, q186_48, q186_49, q186_52, q186_55, q186_56, q186_57, q186_58, q186_61, q186_62, q186_65, q186_66, q186_67, q186_68, q186_71, q186_72, q186_73, q186_74, q186_78, q186_79, q186_82, q186_83, q186_87, q186_88, q186_91, q186_92, q186_95, q186_96, q186_98, q186_99, q186_101, q186_102, q186_103, q186_105, q186_107, q186_110, q186_111, q186_114, q186_117, q186_120, q186_123, q186_124, q186_128, q186_129, q186_132, q186_133, q186_137, q186_138, q186_141, q186_142, q186_144, q186_146, q186_147, q186_148, q186_151, q186_154, q186_157, q186_160, q186_163, q186_164, q186_166, q186_167, q186_169, q186_170, q186_172, q186_173, q186_177, q186_178, q186_181, q186_182, q186_184, q186_185, q186_186, q186_189, q186_192, q186_195, q186_196, q186_200, q186_201, q186_204, q186_205, q186_207, q186_208, q186_210, q186_211, q186_213, q186_214, q186_216, q186_217, q186_218, q186_221, q186_224, q186_225, q186_228, q186_229, q186_231, q186_232, q186_233, q186_234, q186_237, q186_238, q186_240, q186_241, q186_242, q186_245, q186_246, q186_249, q186_250, q186_252, q186_253, q186_254, q186_255, q186_256, q186_257, q186_260, q186_261, q186_263, q186_264, q186_265, q186_266, q186_267, q186_270, q186_273, q186_276, q186_278, q186_279, q186_282, q186_283, q186_285, q186_288, q186_289, q186_291, q186_294, q186_297, q186_298, q186_300, q186_303, q186_304, q186_306, q186_309, q186_312, q186_313, q186_315, q186_318, q186_319, q186_321, q186_324, q186_327, q186_328, q186_331, q186_332, q186_334, q186_336, q186_339, q186_341, q186_344, q186_346, q186_348, q186_350, q186_353, q186_355, q186_357, q186_360, q186_362, q186_365, q186_367, q186_369, q186_372, q186_375, q186_378, q186_381, q186_382, q186_385, q186_387, q186_388, q186_390, q186_393, q186_396, q186_397, q186_398, q186_399, q186_402, q186_403, q186_405, q186_408, q186_411, q186_412, q186_413, q186_416, q186_417, q186_419, q186_422, q186_425, q186_426, q186_429, q186_430, q186_431, q186_433, q186_434, q186_436, q186_437, q186_438, q186_439, q186_440, q186_441, q186_442, q186_443, kl_int, kl_ref, kl_tok, cS_nil, cS_int, cS_ref, cS_long, tl_some, tl_none, List.cons_append, List.nil_append, nI_add, nI_ltb, nI_leb, nI_eqb, nI_cl, zin_nI, hlt, nI_or, hcn, zk0_inl, b2i_0]
      · rw [hc] at hcn hrs
        have hbb := hB 0 b (by omega) hbl hc
        rw [Nat.add_zero, hmx0] at hbb
        by_cases c1 : vE se sp Rw 0 (S0 ||| a ||| b) < m0
        · rw [q186_198]
          simp (disch := first | assumption | exact nar_b0 | exact nar_b1 | exact nar_b | exact Or.inl rfl | exact Or.inr rfl | exact zin_t (by omega) (by omega) | exact Nat.le_of_ble_eq_true rfl | (rw [nI_cl (by omega)]; assumption) | omega) only [↓reduceIte, reduceCtorEq, not_true_eq_false, not_false_eq_true, q186_0, q186_1, q186_2, q186_5, q186_6, q186_7, q186_8, q186_9, q186_12, q186_15, q186_16, q186_17, q186_20, q186_23, q186_24, q186_25, q186_26, q186_29, q186_30, q186_33, q186_34, q186_35, q186_38, q186_39, q186_42, q186_43, q186_46, q186_47, q186_48, q186_49, q186_52, q186_55, q186_56, q186_57, q186_58, q186_61, q186_62, q186_65, q186_66, q186_67, q186_68, q186_71, q186_72, q186_73, q186_74, q186_78, q186_79, q186_82, q186_83, q186_87, q186_88, q186_91, q186_92, q186_95, q186_96, q186_98, q186_99, q186_101, q186_102, q186_103, q186_105, q186_107, q186_110, q186_111, q186_114, q186_117, q186_120, q186_123, q186_124, q186_128, q186_129, q186_132, q186_133, q186_137, q186_138, q186_141, q186_142, q186_144, q186_146, q186_147, q186_148, q186_151, q186_154, q186_157, q186_160, q186_163, q186_164, q186_166, q186_167, q186_169, q186_170, q186_172, q186_173, q186_177, q186_178, q186_181, q186_182, q186_184, q186_185, q186_186, q186_189, q186_192, q186_195, q186_196, q186_200, q186_201, q186_204, q186_205, q186_207, q186_208, q186_210, q186_211, q186_213, q186_214, q186_216, q186_217, q186_218, q186_221, q186_224, q186_225, q186_228, q186_229, q186_231, q186_232, q186_233, q186_234, q186_237, q186_238, q186_240, q186_241, q186_242, q186_245, q186_246, q186_249, q186_250, q186_252, q186_253, q186_254, q186_255, q186_256, q186_257, q186_260, q186_261, q186_263, q186_264, q186_265, q186_266, q186_267, q186_270, q186_273, q186_276, q186_278, q186_279, q186_282, q186_283, q186_285, q186_288, q186_289, q186_291, q186_294, q186_297, q186_298, q186_300, q186_303, q186_304, q186_306, q186_309, q186_312, q186_313, q186_315, q186_318, q186_319, q186_321, q186_324, q186_327, q186_328, q186_331, q186_332, q186_334, q186_336, q186_339, q186_341, q186_344, q186_346, q186_348, q186_350, q186_353, q186_355, q186_357, q186_360, q186_362, q186_365, q186_367, q186_369, q186_372, q186_375, q186_378, q186_381, q186_382, q186_385, q186_387, q186_388, q186_390, q186_393, q186_396, q186_397, q186_398, q186_399, q186_402, q186_403, q186_405, q186_408, q186_411, q186_412, q186_413, q186_416, q186_417, q186_419, q186_422, q186_425, q186_426, q186_429, q186_430, q186_431, q186_433, q186_434, q186_436, q186_437, q186_438, q186_439, q186_440, q186_441, q186_442, q186_443, kl_int, kl_ref, kl_tok, cS_nil, cS_int, cS_ref, cS_long, tl_some, tl_none, List.cons_append, List.nil_append, nI_add, nI_ltb, nI_leb, nI_eqb, nI_cl, zin_nI, hlt, nI_or, hcn, zk0_inl, b2i_0, nI_mul, hv0, hbb, iI_ltb, c1]
        · have c2 : ¬ m1 ≤ vE se sp Rw 1 (S0 ||| a ||| b) := by
            intro h
            rw [decide_eq_true h, decide_eq_true (show m0 ≤ vE se sp Rw 0 (S0 ||| a ||| b) by omega)] at hrs
            exact hr hrs
          rw [q186_198]
          simp (disch := first | assumption | exact nar_b0 | exact nar_b1 | exact nar_b | exact Or.inl rfl | exact Or.inr rfl | exact zin_t (by omega) (by omega) | exact Nat.le_of_ble_eq_true rfl | (rw [nI_cl (by omega)]; assumption) | omega) only [↓reduceIte, reduceCtorEq, not_true_eq_false, not_false_eq_true, q186_0, q186_1, q186_2, q186_5, q186_6, q186_7, q186_8, q186_9, q186_12, q186_15, q186_16, q186_17, q186_20, q186_23, q186_24, q186_25, q186_26, q186_29, q186_30, q186_33, q186_34, q186_35, q186_38, q186_39, q186_42, q186_43, q186_46, q186_47, q186_48, q186_49, q186_52, q186_55, q186_56, q186_57, q186_58, q186_61, q186_62, q186_65, q186_66, q186_67, q186_68, q186_71, q186_72, q186_73, q186_74, q186_78, q186_79, q186_82, q186_83, q186_87, q186_88, q186_91, q186_92, q186_95, q186_96, q186_98, q186_99, q186_101, q186_102, q186_103, q186_105, q186_107, q186_110, q186_111, q186_114, q186_117, q186_120, q186_123, q186_124, q186_128, q186_129, q186_132, q186_133, q186_137, q186_138, q186_141, q186_142, q186_144, q186_146, q186_147, q186_148, q186_151, q186_154, q186_157, q186_160, q186_163, q186_164, q186_166, q186_167, q186_169, q186_170, q186_172, q186_173, q186_177, q186_178, q186_181, q186_182, q186_184, q186_185, q186_186, q186_189, q186_192, q186_195, q186_196, q186_200, q186_201, q186_204, q186_205, q186_207, q186_208, q186_210, q186_211, q186_213, q186_214, q186_216, q186_217, q186_218, q186_221, q186_224, q186_225, q186_228, q186_229, q186_231, q186_232, q186_233, q186_234, q186_237, q186_238, q186_240, q186_241, q186_242, q186_245, q186_246, q186_249, q186_250, q186_252, q186_253, q186_254, q186_255, q186_256, q186_257, q186_260, q186_261, q186_263, q186_264, q186_265, q186_266, q186_267, q186_270, q186_273, q186_276, q186_278, q186_279, q186_282, q186_283, q186_285, q186_288, q186_289, q186_291, q186_294, q186_297, q186_298, q186_300, q186_303, q186_304, q186_306, q186_309, q186_312, q186_313, q186_315, q186_318, q186_319, q186_321, q186_324, q186_327, q186_328, q186_331, q186_332, q186_334, q186_336, q186_339, q186_341, q186_344, q186_346, q186_348, q186_350, q186_353, q186_355, q186_357, q186_360, q186_362, q186_365, q186_367, q186_369, q186_372, q186_375, q186_378, q186_381, q186_382, q186_385, q186_387, q186_388, q186_390, q186_393, q186_396, q186_397, q186_398, q186_399, q186_402, q186_403, q186_405, q186_408, q186_411, q186_412, q186_413, q186_416, q186_417, q186_419, q186_422, q186_425, q186_426, q186_429, q186_430, q186_431, q186_433, q186_434, q186_436, q186_437, q186_438, q186_439, q186_440, q186_441, q186_442, q186_443, kl_int, kl_ref, kl_tok, cS_nil, cS_int, cS_ref, cS_long, tl_some, tl_none, List.cons_append, List.nil_append, nI_add, nI_ltb, nI_leb, nI_eqb, nI_cl, zin_nI, hlt, nI_or, hcn, zk0_inl, b2i_0, nI_mul, hv0, hbb, iI_ltb, c1, hv1, hba, iI_leb, c2]
theorem on_3 {w : Nat} (hS : Sh R) (hG : GmR M se sp bx Rw ts) (hS0 : S0 < 2 ^ Rw.length) (hC : onC M T B) (hE : EndT M se sp Rw) (hB : ∀ s' b', s' < 2 → b' < 2 ^ Rw.length → BstT M se sp T B S0 Rw s' b') :
    ∀ (m a : Nat) (k8 k9 k10 : Value), a + m = 2 ^ Rw.length →
    ∃ k8' k9' k10', exe (d + 4) 186 175 [.ref 127, .int (nI w), .int (nI S0), .int (nI (2 ^ Rw.length)), .int (nI (LRn (vE se sp Rw 0) (vE se sp Rw 1) S0 (lfo 0 B T) (lfo 1 B T) Rw.length a).length), .int (frI (LRn (vE se sp Rw 0) (vE se sp Rw 1) S0 (lfo 0 B T) (lfo 1 B T) Rw.length a)), .int (scI (LRn (vE se sp Rw 0) (vE se sp Rw 1) S0 (lfo 0 B T) (lfo 1 B T) Rw.length a)), .int (nI a), k8, k9, k10] [] M R =
      exe (d + 4) 186 381 [.ref 127, .int (nI w), .int (nI S0), .int (nI (2 ^ Rw.length)), .int (nI (LRn (vE se sp Rw 0) (vE se sp Rw 1) S0 (lfo 0 B T) (lfo 1 B T) Rw.length (2 ^ Rw.length)).length), .int (frI (LRn (vE se sp Rw 0) (vE se sp Rw 1) S0 (lfo 0 B T) (lfo 1 B T) Rw.length (2 ^ Rw.length))), .int (scI (LRn (vE se sp Rw 0) (vE se sp Rw 1) S0 (lfo 0 B T) (lfo 1 B T) Rw.length (2 ^ Rw.length))), .int (nI (2 ^ Rw.length)), k8', k9', k10'] [] M R := by
  obtain ⟨nN, k127, k128, l128, k129, l129, k130, l130, k131, l131, k132, l132, k133, l133, k134, l134, k135, l135, k136, l136, k137, l137, k138, l138, k139, l139, k140, l140, k141, l141, k142, l142, k143, l143, k144, l144, k145, l145, k146, l146, f127_1, f127_2, f127_3, f127_4, f127_6, f127_7, f127_17, f127_18, f127_19, f127_22, f127_24, f127_25, f127_26, f127_29, f127_30, f127_31, f127_32, f127_33⟩ := modF hS
  have hp := pow10 hG.ok.1
  intro m
  induction m with
  | zero =>
    intro a k8 k9 k10 ha
    have e : a = 2 ^ Rw.length := by omega
    subst e
    refine ⟨k8, k9, k10, ?_⟩
    have hle : 2 ^ Rw.length ≤ 2 ^ Rw.length := Nat.le_refl _
    rw [q186_175]
    simp (disch := first | assumption | exact nar_b0 | exact nar_b1 | exact nar_b | exact Or.inl rfl | exact Or.inr rfl | exact zin_t (by omega) (by omega) | exact Nat.le_of_ble_eq_true rfl | (rw [nI_cl (by omega)]; assumption) | omega) only [↓reduceIte, reduceCtorEq, not_true_eq_false, not_false_eq_true, q186_0, q186_1, q186_2, q186_5, q186_6, q186_7, q186_8, q186_9, q186_12, q186_15, q186_16, q186_17, q186_20, q186_23, q186_24, q186_25, q186_26, q186_29, q186_30, q186_33, q186_34, q186_35, q186_38, q186_39, q186_42, q186_43, q186_46, q186_47, q186_48, q186_49, q186_52, q186_55, q186_56, q186_57, q186_58, q186_61, q186_62, q186_65, q186_66, q186_67, q186_68, q186_71, q186_72, q186_73, q186_74, q186_78, q186_79, q186_82, q186_83, q186_87, q186_88, q186_91, q186_92, q186_95, q186_96, q186_98, q186_99, q186_101, q186_102, q186_103, q186_105, q186_107, q186_110, q186_111, q186_114, q186_117, q186_120, q186_123, q186_124, q186_128, q186_129, q186_132, q186_133, q186_137, q186_138, q186_141, q186_142, q186_144, q186_146, q186_147, q186_148, q186_151, q186_154, q186_157, q186_160, q186_163, q186_164, q186_166, q186_167, q186_169, q186_170, q186_172, q186_173, q186_177, q186_178, q186_181, q186_182, q186_184, q186_185, q186_186, q186_189, q186_192, q186_195, q186_196, q186_200, q186_201, q186_204, q186_205, q186_207, q186_208, q186_210, q186_211, q186_213, q186_214, q186_216, q186_217, q186_218, q186_221, q186_224, q186_225, q186_228, q186_229, q186_231, q186_232, q186_233, q186_234, q186_237, q186_238, q186_240, q186_241, q186_242, q186_245, q186_246, q186_249, q186_250, q186_252, q186_253, q186_254, q186_255, q186_256, q186_257, q186_260, q186_261, q186_263, q186_264, q186_265, q186_266, q186_267, q186_270, q186_273, q186_276, q186_278, q186_279, q186_282, q186_283, q186_285, q186_288, q186_289, q186_291, q186_294, q186_297, q186_298, q186_300, q186_303, q186_304, q186_306, q186_309, q186_312, q186_313, q186_315, q186_318, q186_319, q186_321, q186_324, q186_327, q186_328, q186_331, q186_332, q186_334, q186_336, q186_339, q186_341, q186_344, q186_346, q186_348, q186_350, q186_353, q186_355, q186_357, q186_360, q186_362, q186_365, q186_367, q186_369, q186_372, q186_375, q186_378, q186_382, q186_385, q186_387, q186_388, q186_390, q186_393, q186_396, q186_397, q186_398, q186_399, q186_402, q186_403, q186_405, q186_408, q186_411, q186_412, q186_413, q186_416, q186_417, q186_419, q186_422, q186_425, q186_426, q186_429, q186_430, q186_431, q186_433, q186_434, q186_436, q186_437, q186_438, q186_439, q186_440, q186_441, q186_442, q186_443, kl_int, kl_ref, kl_tok, cS_nil, cS_int, cS_ref, cS_long, tl_some, tl_none, List.cons_append, List.nil_append, nI_add, nI_ltb, nI_leb, nI_eqb, nI_cl, zin_nI, hle]
  | succ m ih =>
    intro a k8 k9 k10 ha
    have hlt : ¬ 2 ^ Rw.length ≤ a := by omega
    have hcn := canName_ (d := d + 2) (M := M) (R := R) (S := a) (S0 := S0) (s := 0) (by omega) hC.2.2.1 hC.2.2.2 (by omega) (by omega) hS hC.1 hC.2.1
    have hsu := LRn_succ (v0 := vE se sp Rw 0) (v1 := vE se sp Rw 1) (S0 := S0) (k0 := lfo 0 B T) (k1 := lfo 1 B T) (n := Rw.length) (a := a)
    unfold LRf at hsu
    cases hc : cnm S0 (lfo 0 B T) a
    · rw [hc] at hcn hsu
      simp only [Bool.false_eq_true, if_false, List.append_nil] at hsu
      obtain ⟨k8', k9', k10', g⟩ := ih (a + 1) k8 k9 k10 (by omega)
      refine ⟨k8', k9', k10', ?_⟩
      rw [← g, hsu]
      rw [q186_175]
      simp (disch := first | assumption | exact nar_b0 | exact nar_b1 | exact nar_b | exact Or.inl rfl | exact Or.inr rfl | exact zin_t (by omega) (by omega) | exact Nat.le_of_ble_eq_true rfl | (rw [nI_cl (by omega)]; assumption) | omega) only [↓reduceIte, reduceCtorEq, not_true_eq_false, not_false_eq_true, q186_0, q186_1, q186_2, q186_5, q186_6, q186_7, q186_8, q186_9, q186_12, q186_15, q186_16, q186_17, q186_20, q186_23, q186_24, q186_25, q186_26, q186_29, q186_30, q186_33, q186_34, q186_35, q186_38, q186_39, q186_42, q186_43, q186_46, q186_47, q186_48, q186_49, q186_52, q186_55, q186_56, q186_57, q186_58, q186_61, q186_62, q186_65, q186_66, q186_67, q186_68, q186_71, q186_72, q186_73, q186_74, q186_78, q186_79, q186_82, q186_83, q186_87, q186_88, q186_91, q186_92, q186_95, q186_96, q186_98, q186_99, q186_101, q186_102, q186_103, q186_105, q186_107, q186_110, q186_111, q186_114, q186_117, q186_120, q186_123, q186_124, q186_128, q186_129, q186_132, q186_133, q186_137, q186_138, q186_141, q186_142, q186_144, q186_146, q186_147, q186_148, q186_151, q186_154, q186_157, q186_160, q186_163, q186_164, q186_166, q186_167, q186_169, q186_170, q186_172, q186_173, q186_177, q186_178, q186_181, q186_182, q186_184, q186_185, q186_186, q186_189, q186_192, q186_195, q186_196, q186_200, q186_201, q186_204, q186_205, q186_207, q186_208, q186_210, q186_211, q186_213, q186_214, q186_216, q186_217, q186_218, q186_221, q186_224, q186_225, q186_228, q186_229, q186_231, q186_232, q186_233, q186_234, q186_237, q186_238, q186_240, q186_241, q186_242, q186_245, q186_246, q186_249, q186_250, q186_252, q186_253, q186_254, q186_255, q186_256, q186_257, q186_260, q186_261, q186_263, q186_264, q186_265, q186_266, q186_267, q186_270, q186_273, q186_276, q186_278, q186_279, q186_282, q186_283, q186_285, q186_288, q186_289, q186_291, q186_294, q186_297, q186_298, q186_300, q186_303, q186_304, q186_306, q186_309, q186_312, q186_313, q186_315, q186_318, q186_319, q186_321, q186_324, q186_327, q186_328, q186_331, q186_332, q186_334, q186_336, q186_339, q186_341, q186_344, q186_346, q186_348, q186_350, q186_353, q186_355, q186_357, q186_360, q186_362, q186_365, q186_367, q186_369, q186_372, q186_375, q186_378, q186_381, q186_382, q186_385, q186_387, q186_388, q186_390, q186_393, q186_396, q186_397, q186_398, q186_399, q186_402, q186_403, q186_405, q186_408, q186_411, q186_412, q186_413, q186_416, q186_417, q186_419, q186_422, q186_425, q186_426, q186_429, q186_430, q186_431, q186_433, q186_434, q186_436, q186_437, q186_438, q186_439, q186_440, q186_441, q186_442, q186_443, kl_int, kl_ref, kl_tok, cS_nil, cS_int, cS_ref, cS_long, tl_some, tl_none, List.cons_append, List.nil_append, nI_add, nI_ltb, nI_leb, nI_eqb, nI_cl, zin_nI, hlt, hcn, zk0_inl, b2i_0]
    · rw [hc] at hcn hsu
      simp only [if_true] at hsu
      obtain ⟨k9', k10', g1⟩ := on_3b (d := d) (w := w) hS hG hS0 hC hE hB (show a < 2 ^ Rw.length by omega) hc (L0 := LRn (vE se sp Rw 0) (vE se sp Rw 1) S0 (lfo 0 B T) (lfo 1 B T) Rw.length a) (fun p h => LRn_mem h) (2 ^ Rw.length) 0 k9 k10 (by omega)
      rw [← hsu] at g1
      simp only [List.range_zero, List.filter_nil, List.map_nil, List.append_nil] at g1
      obtain ⟨k8'', k9'', k10'', g2⟩ := ih (a + 1) (.int (nI (2 ^ Rw.length))) k9' k10' (by omega)
      refine ⟨k8'', k9'', k10'', ?_⟩
      rw [← g2, ← g1]
      rw [q186_175]
      simp (disch := first | assumption | exact nar_b0 | exact nar_b1 | exact nar_b | exact Or.inl rfl | exact Or.inr rfl | exact zin_t (by omega) (by omega) | exact Nat.le_of_ble_eq_true rfl | (rw [nI_cl (by omega)]; assumption) | omega) only [↓reduceIte, reduceCtorEq, not_true_eq_false, not_false_eq_true, q186_0, q186_1, q186_2, q186_5, q186_6, q186_7, q186_8, q186_9, q186_12, q186_15, q186_16, q186_17, q186_20, q186_23, q186_24, q186_25, q186_26, q186_29, q186_30, q186_33, q186_34, q186_35, q186_38, q186_39, q186_42, q186_43, q186_46, q186_47, q186_48, q186_49, q186_52, q186_55, q186_56, q186_57, q186_58, q186_61, q186_62, q186_65, q186_66, q186_67, q186_68, q186_71, q186_72, q186_73, q186_74, q186_78, q186_79, q186_82, q186_83, q186_87, q186_88, q186_91, q186_92, q186_95, q186_96, q186_98, q186_99, q186_101, q186_102, q186_103, q186_105, q186_107, q186_110, q186_111, q186_114, q186_117, q186_120, q186_123, q186_124, q186_128, q186_129, q186_132, q186_133, q186_137, q186_138, q186_141, q186_142, q186_144, q186_146, q186_147, q186_148, q186_151, q186_154, q186_157, q186_160, q186_163, q186_164, q186_166, q186_167, q186_169, q186_170, q186_172, q186_173, q186_177, q186_178, q186_181, q186_182, q186_184, q186_185, q186_186, q186_189, q186_192, q186_195, q186_196, q186_200, q186_201, q186_204, q186_205, q186_207, q186_208, q186_210, q186_211, q186_213, q186_214, q186_216, q186_217, q186_218, q186_221, q186_224, q186_225, q186_228, q186_229, q186_231, q186_232, q186_233, q186_234, q186_237, q186_238, q186_240, q186_241, q186_242, q186_245, q186_246, q186_249, q186_250, q186_252, q186_253, q186_254, q186_255, q186_256, q186_257, q186_260, q186_261, q186_263, q186_264, q186_265, q186_266, q186_267, q186_270, q186_273, q186_276, q186_278, q186_279, q186_282, q186_283, q186_285, q186_288, q186_289, q186_291, q186_294, q186_297, q186_298, q186_300, q186_303, q186_304, q186_306, q186_309, q186_312, q186_313, q186_315, q186_318, q186_319, q186_321, q186_324, q186_327, q186_328, q186_331, q186_332, q186_334, q186_336, q186_339, q186_341, q186_344, q186_346, q186_348, q186_350, q186_353, q186_355, q186_357, q186_360, q186_362, q186_365, q186_367, q186_369, q186_372, q186_375, q186_378, q186_381, q186_382, q186_385, q186_387, q186_388, q186_390, q186_393, q186_396, q186_397, q186_398, q186_399, q186_402, q186_403, q186_405, q186_408, q186_411, q186_412, q186_413, q186_416, q186_417, q186_419, q186_422, q186_425, q186_426, q186_429, q186_430, q186_431, q186_433, q186_434, q186_436, q186_437, q186_438, q186_439, q186_440, q186_441, q186_442, q186_443, kl_int, kl_ref, kl_tok, cS_nil, cS_int, cS_ref, cS_long, tl_some, tl_none, List.cons_append, List.nil_append, nI_add, nI_ltb, nI_leb, nI_eqb, nI_cl, zin_nI, hlt, hcn, zk0_inl, b2i_0]
end Fr
def ansW (nums : List Nat) (v0 v1 : Nat → Int) (L : List (Nat × Nat)) (w : Nat) : Int32 := if w = 0 then nI L.length else match L with
  | [] => nob
  | p :: _ => if w = 1 then nI (nmbI nums p.1 0) else if w = 2 then nI (nmbI nums p.2 0) else if w = 3 then iI (v0 (p.1 ||| p.2)) else iI (v1 (p.1 ||| p.2))
theorem AnsRel.get {M : ZM} {nums : List Nat} {v0 v1 : Nat → Int} {L : List (Nat × Nat)} {w : Nat} (hw : w < 5) (h : AnsRel M nums v0 v1 L) : M 126 w = ansW nums v0 v1 L w := by
  obtain ⟨h0, h1⟩ := h
  unfold ansW
  cases L with
  | nil =>
    obtain ⟨a1, a2, a3, a4⟩ := h1
    rcases (show w = 0 ∨ w = 1 ∨ w = 2 ∨ w = 3 ∨ w = 4 by omega) with rfl | rfl | rfl | rfl | rfl
    · exact h0
    · exact a1
    · exact a2
    · exact a3
    · exact a4
  | cons p L =>
    obtain ⟨a1, a2, a3, a4⟩ := h1
    rcases (show w = 0 ∨ w = 1 ∨ w = 2 ∨ w = 3 ∨ w = 4 by omega) with rfl | rfl | rfl | rfl | rfl
    · exact h0
    · exact a1
    · exact a2
    · exact a3
    · exact a4
theorem filter_and2 {α : Type} (p q : α → Bool) (l : List α) : (l.filter p).filter q = l.filter (fun a => p a && q a) := by
  rw [List.filter_filter]
  apply List.filter_congr
  intro a _
  exact Bool.and_comm _ _
theorem cnL_emb {S0 k n : Nat} (hn : n ≤ 10) : cnL S0 k n = (LSt (cnt S0 n) k).map (emb S0 n) := by
  unfold cnL LSt cnm
  rw [← filter_and2 (fun S => decide (S &&& S0 = 0)) (fun S => decide (pop 10 S ≤ k)), rng_emb, List.filter_map]
  congr 1
  apply List.filter_congr
  intro S hS
  simp only [Function.comp]
  rw [pop10_emb hn (List.mem_range.mp hS)]
theorem LRn_RS {se sp S0 k0 k1 : Nat} {Rw : List P3} (hn : Rw.length ≤ 10) (h0 : S0 < 2 ^ Rw.length) : LRn (vE se sp Rw 0) (vE se sp Rw 1) S0 k0 k1 Rw.length (2 ^ Rw.length) = (RS (LSt (rem Rw S0).length k0) (LSt (rem Rw S0).length k1) (vE se sp (rem Rw S0) 0) (vE se sp (rem Rw S0) 1) (LSt (rem Rw S0).length k0)).map (fun p => (emb S0 Rw.length p.1, emb S0 Rw.length p.2)) := by
  rw [rem_len]
  have hv : ∀ q A B, vE se sp Rw q (S0 ||| emb S0 Rw.length A ||| emb S0 Rw.length B) = vE se sp (rem Rw S0) q (A ||| B) := by
    intro q A B
    unfold vE
    rw [ful_or h0, rem_ful]
  have h1 : LRn (vE se sp Rw 0) (vE se sp Rw 1) S0 k0 k1 Rw.length (2 ^ Rw.length) = (cnL S0 k0 Rw.length).flatMap (fun a => ((cnL S0 k1 Rw.length).filter (fun b => decide (∀ s ∈ cnL S0 k0 Rw.length, vE se sp Rw 0 (S0 ||| b ||| s) ≤ vE se sp Rw 0 (S0 ||| a ||| b)) && decide (∀ s ∈ cnL S0 k1 Rw.length, vE se sp Rw 1 (S0 ||| a ||| s) ≤ vE se sp Rw 1 (S0 ||| a ||| b)))).map (fun b => (a, b))) := by
    unfold LRn
    have key : ∀ (l : List Nat) (p : Nat → Bool) (g : Nat → List (Nat × Nat)), l.flatMap (fun a => if p a = true then g a else []) = (l.filter p).flatMap g := by
      intro l p g
      induction l with
      | nil => rfl
      | cons x l ih =>
        rw [List.flatMap_cons, ih, List.filter_cons]
        by_cases h : p x = true
        · rw [if_pos h, if_pos h, List.flatMap_cons]
        · rw [if_neg h, if_neg h, List.nil_append]
    show (List.range (2 ^ Rw.length)).flatMap (fun a => if cnm S0 k0 a = true then _ else []) = _
    rw [key]
    unfold cnL
    congr 1
    funext a
    rw [List.filter_filter]
    congr 1
    apply List.filter_congr
    intro b _
    unfold rsR cnL
    rw [Bool.and_comm]
  rw [h1, cnL_emb hn, cnL_emb hn]
  unfold RS
  rw [List.flatMap_map, List.map_flatMap]
  congr 1
  funext A
  rw [List.filter_map, List.map_map, List.map_map]
  have h2 : (LSt (cnt S0 Rw.length) k1).filter ((fun b => decide (∀ s ∈ (LSt (cnt S0 Rw.length) k0).map (emb S0 Rw.length), vE se sp Rw 0 (S0 ||| b ||| s) ≤ vE se sp Rw 0 (S0 ||| emb S0 Rw.length A ||| b)) && decide (∀ s ∈ (LSt (cnt S0 Rw.length) k1).map (emb S0 Rw.length), vE se sp Rw 1 (S0 ||| emb S0 Rw.length A ||| s) ≤ vE se sp Rw 1 (S0 ||| emb S0 Rw.length A ||| b))) ∘ emb S0 Rw.length) = (LSt (cnt S0 Rw.length) k1).filter (rsP (LSt (cnt S0 Rw.length) k0) (LSt (cnt S0 Rw.length) k1) (vE se sp (rem Rw S0) 0) (vE se sp (rem Rw S0) 1) A) := by
    apply List.filter_congr
    intro b _
    simp only [Function.comp]
    unfold rsP
    congr 1
    · rw [decide_eq_decide]
      constructor
      · intro h s hs
        have := h _ (List.mem_map_of_mem hs)
        rw [hv, hv, Nat.or_comm A b] at this
        exact this
      · intro h s hs
        obtain ⟨s', hs', rfl⟩ := List.mem_map.mp hs
        rw [hv, hv, Nat.or_comm A b]
        exact h s' hs'
    · rw [decide_eq_decide]
      constructor
      · intro h s hs
        have := h _ (List.mem_map_of_mem hs)
        rw [hv, hv] at this
        exact this
      · intro h s hs
        obtain ⟨s', hs', rfl⟩ := List.mem_map.mp hs
        rw [hv, hv]
        exact h s' hs'
  rw [h2]
  rfl
