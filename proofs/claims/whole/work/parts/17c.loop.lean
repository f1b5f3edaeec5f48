-- the law's loop
theorem lg_self {x : Int64} : lg_cmp x x = nI 0 := by
  unfold lg_cmp
  rw [if_neg (by show ¬ x < x; exact Int64.lt_irrefl), if_pos rfl]
  rfl
theorem nI_bits (x : Int32) : x = nI x.toBitVec.toNat := by
  apply Int32.toBitVec_inj.mp
  show x.toBitVec = BitVec.ofNat 32 x.toBitVec.toNat
  rw [BitVec.ofNat_toNat, BitVec.setWidth_eq]
theorem and31 (x : Int32) : ∃ k, k < 32 ∧ x &&& nI 31 = nI k := by
  refine ⟨x.toBitVec.toNat &&& 31, ?_, ?_⟩
  · have := Nat.and_lt_two_pow (n := 5) x.toBitVec.toNat (show 31 < 2 ^ 5 by decide)
    exact this
  · rw [nI_bits x, nI_and, ← nI_bits x]
theorem sub6 {L i : Nat} (h1 : L ≤ 3072) (h2 : i ≤ 100000) : (nI L - nI 6 < nI i) = (L < i + 6) := by
  rw [nI_iI, nI_iI, nI_iI, iI_sub, iI_ltb (by omega) (by omega) (by omega) (by omega)]
  exact propext ⟨fun h => by omega, fun h => by omega⟩
/-- what holds between calls -/
def LI (xs : Nat → Int32) (L : Nat) (M : ZM) (R : ZH) (k : Nat) : Prop := ∃ G i, CS M R i G ∧ MS M G ∧ WG G ∧ M 1000000 = xs ∧ zLn R 1000000 = L ∧ zC R ≤ 147 + k ∧ zL R ≤ 66276 + 6 * k
section Lw
variable {d i L k : Nat} {M : ZM} {R : ZH} {xs : Nat → Int32}
theorem LI.mono {k' : Nat} (h : LI xs L M R k) (hk : k ≤ k') : LI xs L M R k' := by
  obtain ⟨G, j, h1, h2, h3, h4, h5, h6, h7⟩ := h
  exact ⟨G, j, h1, h2, h3, h4, h5, by omega, by omega⟩
theorem thrown_ (hS : Sh R) : cal d 105 [.ref 127] M R = some (.inl (some (.int (M 127 0))), M, R) := by
  obtain ⟨nN, k127, k128, l128, k129, l129, k130, l130, k131, l131, k132, l132, k133, l133, k134, l134, k135, l135, k136, l136, k137, l137, k138, l138, k139, l139, k140, l140, k141, l141, k142, l142, k143, l143, k144, l144, k145, l145, k146, l146, f127_1, f127_2, f127_3, f127_4, f127_6, f127_7, f127_17, f127_18, f127_19, f127_22, f127_24, f127_25, f127_26, f127_29, f127_30, f127_31, f127_32, f127_33⟩ := modF hS
  rw [e105]
  simp (disch := first | assumption | exact nar_b0 | exact nar_b1 | exact nar_b | exact Or.inl rfl | exact Or.inr rfl | exact zin_t (by omega) (by omega) | exact Nat.le_of_ble_eq_true rfl | (rw [nI_cl (by omega)]; assumption) | omega) only [↓reduceIte, reduceCtorEq, not_true_eq_false, not_false_eq_true, q105_0, q105_1, q105_4, kl_int, kl_ref, kl_tok, cS_nil, cS_int, cS_ref, cS_long, tl_some, tl_none, List.cons_append, List.nil_append, nI_add, nI_ltb, nI_leb, nI_eqb, nI_cl, zin_nI]
/-- a wrapped call and the reference's -/
theorem wp {G : GS} {j cm mo w : Nat} {as : List Value} {al : List (Nat × Nat)} (hal : al.all (fun q => decide (q.2 < 4)) = true) (hp : PairO d M R G cm mo as al) (hw : ∀ c e v G', OutC (cal (d + 28) cm (.ref 0 :: as) M R) M R c e v G' → (c = 0 ∨ (e, c) ∈ al) → WrO (cal (d + 28 + 1) w (.ref 0 :: (as ++ [.ref 146])) M R) M R c v G') (hC : CS M R j G) (hM : MS M G) (hx : M 1000000 = xs) (hl : zLn R 1000000 = L) (h6 : zC R ≤ 147 + k) (h7 : zL R ≤ 66276 + 6 * k) :
    ∃ c v' M1 R1 M2, c < 4 ∧ cal (d + 29) w (.ref 0 :: (as ++ [.ref 146])) M R = some (.inl (some (.int (nI c))), M1, R1) ∧ cal (d + 29) mo (.ref 127 :: as) M1 R1 = some (.inl (some (.int v')), M2, R1) ∧ M2 127 0 = nI c ∧ (c = 0 → zJ R1 146 0 = v'.toInt64) ∧ M1 1000000 = xs ∧ zLn R1 1000000 = L ∧ Sh R1 ∧ LI xs L M2 R1 (k + 1) := by
  obtain ⟨c, e, v, G', h1, h2, h3, h4⟩ := hp
  obtain ⟨M1, R1, j1, g1, g2, g3, g4, g5⟩ := hw c e v G' h1 h2
  obtain ⟨M2, v', e1, e2, e3, e4, e5⟩ := h4 M1 R1 g3.1.1 g3.fo (hM.frC g4)
  have hx1 : M1 1000000 = xs := by rw [g4 _ (by decide)]; exact hx
  have hl1 : zLn R1 1000000 = L := by rw [g5.2.2]; exact hl
  refine ⟨c, v', M1, R1, M2, ?_, g1, e1, e4, fun q => by rw [g2 q, e2 q], hx1, hl1, g3.1.1, G', j1, g3.frM e5, e3, h3, by rw [e5 _ (Or.inr (by decide))]; exact hx1, hl1, by have := g5.1; omega, by have := g5.2.1; omega⟩
  rcases h2 with h2 | h2
  · omega
  · exact of_decide_eq_true (List.all_eq_true.mp hal _ h2)
/-- a call that never throws and the reference's -/
theorem wq {G : GS} {j cm mo : Nat} {as : List Value} (hp : PairQ d M R G cm mo as) (hC : CS M R j G) (hM : MS M G) (hx : M 1000000 = xs) (hl : zLn R 1000000 = L) (h6 : zC R ≤ 147 + k) (h7 : zL R ≤ 66276 + 6 * k) :
    ∃ v M1 R1 M2, cal (d + 29) cm (.ref 0 :: as) M R = some (.inl (some (.int v)), M1, R1) ∧ cal (d + 29) mo (.ref 127 :: as) M1 R1 = some (.inl (some (.int v)), M2, R1) ∧ M1 1000000 = xs ∧ zLn R1 1000000 = L ∧ Sh R1 ∧ LI xs L M2 R1 (k + 1) := by
  obtain ⟨v, G', ⟨M1, R1, j1, g1, g3, g4, g5⟩, h3, h4⟩ := hp
  rw [if_pos rfl] at g1
  obtain ⟨M2, v', e1, e2, e3, e4, e5⟩ := h4 M1 R1 g3.1.1 g3.fo (hM.frC g4)
  have hx1 : M1 1000000 = xs := by rw [g4 _ (by decide)]; exact hx
  have hl1 : zLn R1 1000000 = L := by rw [g5.2.2]; exact hl
  rw [e2 rfl] at e1
  exact ⟨v, M1, R1, M2, g1, e1, hx1, hl1, g3.1.1, G', j1, g3.frM e5, e3, h3, by rw [e5 _ (Or.inr (by decide))]; exact hx1, hl1, by have := g5.1; omega, by have := g5.2.1; omega⟩
def LoS (d : Nat) (xs : Nat → Int32) (L i : Nat) (M : ZM) (R : ZH) (k pc : Nat) (v5 v6 : Value) : Prop := ∃ M' R' v5' v6', exe (d + 30) 219 pc [.ref 1000000, .ref 0, .ref 127, .ref 146, .int (nI i), v5, v6] [] M R = exe (d + 30) 219 1516 [.ref 1000000, .ref 0, .ref 127, .ref 146, .int (nI i), v5', v6'] [] M' R' ∧ LI xs L M' R' (k + 1)
theorem s_0 {v5 v6 : Value} (hi : i + 6 ≤ L) (hL : L ≤ 3072) (h : LI xs L M R k) : LoS d xs L i M R k 160 v5 v6 := by
  obtain ⟨G, j, hC, hM, hW, hx, hl, h6, h7⟩ := h
  have hS := hC.1.1
  obtain ⟨v, M1, R1, M2, g1, g2, hx1, hl1, hS1, hLI⟩ := wq (d := d) (pr_feed (d := d) hW hC (xs (i + 1)) (xs (i + 2)) (xs (i + 3)) (xs (i + 4)) (xs (i + 5))) hC hM hx hl h6 h7
  have nN := hS.1
  have nN1 := hS1.1
  have eN : zN R1 = zN R := by rw [nN, nN1]
  have k0 := K0 hS
  have ks := hS.2.2.2.1
  have ks1 := hS1.2.2.2.1
  have k127 := K127 hS1
  have k146 := K146 hS1
  have l146 := L146 hS1
  refine ⟨M2, R1, v5, v6, ?_, hLI⟩
  simp (disch := first | assumption | exact nar_b0 | exact nar_b1 | exact nar_b | exact Or.inl rfl | exact Or.inr rfl | exact zin_t (by omega) (by omega) | exact Nat.le_of_ble_eq_true rfl | (rw [nI_cl (by omega)]; assumption) | omega) only [↓reduceIte, reduceCtorEq, not_true_eq_false, not_false_eq_true, q219_160, q219_161, q219_162, q219_164, q219_165, q219_166, q219_167, q219_168, q219_170, q219_171, q219_172, q219_173, q219_174, q219_176, q219_177, q219_178, q219_179, q219_180, q219_182, q219_183, q219_184, q219_185, q219_186, q219_188, q219_189, q219_190, q219_191, q219_194, q219_195, q219_196, q219_198, q219_199, q219_200, q219_201, q219_202, q219_204, q219_205, q219_206, q219_207, q219_208, q219_210, q219_211, q219_212, q219_213, q219_214, q219_216, q219_217, q219_218, q219_219, q219_220, q219_222, q219_223, q219_224, q219_225, q219_228, q219_231, q219_232, kl_int, kl_ref, kl_tok, cS_nil, cS_int, cS_ref, cS_long, tl_some, tl_none, List.cons_append, List.nil_append, nI_add, nI_ltb, nI_leb, nI_eqb, nI_cl, zin_nI, hx, hx1, g1, g2, zk0_inl]
theorem s_1 {v5 v6 : Value} (hi : i + 6 ≤ L) (hL : L ≤ 3072) (h : LI xs L M R k) : LoS d xs L i M R k 233 v5 v6 := by
  obtain ⟨G, j, hC, hM, hW, hx, hl, h6, h7⟩ := h
  have hS := hC.1.1
  obtain ⟨c, v', M1, R1, M2, hc, g1, g2, g3, g4, hx1, hl1, hS1, hLI⟩ := wp (d := d) (w := 200) (by decide) (pr_text (d := d) hW hC (xs (i + 1))) (fun c e v G' h ha => w_200 hS h ha) hC hM hx hl h6 h7
  have nN := hS.1
  have nN1 := hS1.1
  have eN : zN R1 = zN R := by rw [nN, nN1]
  have k0 := K0 hS
  have ks := hS.2.2.2.1
  have ks1 := hS1.2.2.2.1
  have k127 := K127 hS1
  have k146 := K146 hS1
  have l146 := L146 hS1
  have g1' : cal (d + 29) 200 [.ref 0, .int (xs (i + 1)), .ref 146] M R = some (.inl (some (.int (nI c))), M1, R1) := g1
  have gt := thrown_ (d := d + 29) (M := M2) hS1
  rw [g3] at gt
  refine ⟨M2, R1, .int (nI c), .int v', ?_, hLI⟩
  by_cases z : c = 0
  · have gj := g4 z
    subst z
    simp (disch := first | assumption | exact nar_b0 | exact nar_b1 | exact nar_b | exact Or.inl rfl | exact Or.inr rfl | exact zin_t (by omega) (by omega) | exact Nat.le_of_ble_eq_true rfl | (rw [nI_cl (by omega)]; assumption) | omega) only [↓reduceIte, reduceCtorEq, not_true_eq_false, not_false_eq_true, q219_233, q219_234, q219_235, q219_237, q219_238, q219_239, q219_240, q219_241, q219_244, q219_246, q219_247, q219_248, q219_250, q219_251, q219_252, q219_253, q219_256, q219_258, q219_259, q219_262, q219_264, q219_267, q219_268, q219_269, q219_271, q219_274, q219_275, q219_276, q219_277, q219_279, q219_280, q219_281, q219_284, q219_285, q219_286, kl_int, kl_ref, kl_tok, cS_nil, cS_int, cS_ref, cS_long, tl_some, tl_none, List.cons_append, List.nil_append, nI_add, nI_ltb, nI_leb, nI_eqb, nI_cl, zin_nI, hx, hx1, g1', g2, gt, zk0_inl, gj, lg_self]
  · simp (disch := first | assumption | exact nar_b0 | exact nar_b1 | exact nar_b | exact Or.inl rfl | exact Or.inr rfl | exact zin_t (by omega) (by omega) | exact Nat.le_of_ble_eq_true rfl | (rw [nI_cl (by omega)]; assumption) | omega) only [↓reduceIte, reduceCtorEq, not_true_eq_false, not_false_eq_true, q219_233, q219_234, q219_235, q219_237, q219_238, q219_239, q219_240, q219_241, q219_244, q219_246, q219_247, q219_248, q219_250, q219_251, q219_252, q219_253, q219_256, q219_258, q219_259, q219_262, q219_264, q219_267, q219_268, q219_269, q219_271, q219_274, q219_275, q219_276, q219_277, q219_279, q219_280, q219_281, q219_284, q219_285, q219_286, kl_int, kl_ref, kl_tok, cS_nil, cS_int, cS_ref, cS_long, tl_some, tl_none, List.cons_append, List.nil_append, nI_add, nI_ltb, nI_leb, nI_eqb, nI_cl, zin_nI, hx, hx1, g1', g2, gt, zk0_inl, z]
theorem s_2 {v5 v6 : Value} (hi : i + 6 ≤ L) (hL : L ≤ 3072) (h : LI xs L M R k) : LoS d xs L i M R k 289 v5 v6 := by
  obtain ⟨G, j, hC, hM, hW, hx, hl, h6, h7⟩ := h
  have hS := hC.1.1
  obtain ⟨v, M1, R1, M2, g1, g2, hx1, hl1, hS1, hLI⟩ := wq (d := d) (pr_fault (d := d) hW hC ) hC hM hx hl h6 h7
  have nN := hS.1
  have nN1 := hS1.1
  have eN : zN R1 = zN R := by rw [nN, nN1]
  have k0 := K0 hS
  have ks := hS.2.2.2.1
  have ks1 := hS1.2.2.2.1
  have k127 := K127 hS1
  have k146 := K146 hS1
  have l146 := L146 hS1
  refine ⟨M2, R1, v5, v6, ?_, hLI⟩
  simp (disch := first | assumption | exact nar_b0 | exact nar_b1 | exact nar_b | exact Or.inl rfl | exact Or.inr rfl | exact zin_t (by omega) (by omega) | exact Nat.le_of_ble_eq_true rfl | (rw [nI_cl (by omega)]; assumption) | omega) only [↓reduceIte, reduceCtorEq, not_true_eq_false, not_false_eq_true, q219_289, q219_290, q219_293, q219_294, q219_297, q219_300, q219_301, kl_int, kl_ref, kl_tok, cS_nil, cS_int, cS_ref, cS_long, tl_some, tl_none, List.cons_append, List.nil_append, nI_add, nI_ltb, nI_leb, nI_eqb, nI_cl, zin_nI, hx, hx1, g1, g2, zk0_inl]
theorem s_3 {v5 v6 : Value} (hi : i + 6 ≤ L) (hL : L ≤ 3072) (h : LI xs L M R k) : LoS d xs L i M R k 302 v5 v6 := by
  obtain ⟨G, j, hC, hM, hW, hx, hl, h6, h7⟩ := h
  have hS := hC.1.1
  obtain ⟨c, v', M1, R1, M2, hc, g1, g2, g3, g4, hx1, hl1, hS1, hLI⟩ := wp (d := d) (w := 201) (by decide) (pr_strike (d := d) hW hC (xs (i + 1))) (fun c e v G' h ha => w_201 hS h ha) hC hM hx hl h6 h7
  have nN := hS.1
  have nN1 := hS1.1
  have eN : zN R1 = zN R := by rw [nN, nN1]
  have k0 := K0 hS
  have ks := hS.2.2.2.1
  have ks1 := hS1.2.2.2.1
  have k127 := K127 hS1
  have k146 := K146 hS1
  have l146 := L146 hS1
  have g1' : cal (d + 29) 201 [.ref 0, .int (xs (i + 1)), .ref 146] M R = some (.inl (some (.int (nI c))), M1, R1) := g1
  have gt := thrown_ (d := d + 29) (M := M2) hS1
  rw [g3] at gt
  refine ⟨M2, R1, .int (nI c), .int v', ?_, hLI⟩
  by_cases z : c = 0
  · have gj := g4 z
    subst z
    simp (disch := first | assumption | exact nar_b0 | exact nar_b1 | exact nar_b | exact Or.inl rfl | exact Or.inr rfl | exact zin_t (by omega) (by omega) | exact Nat.le_of_ble_eq_true rfl | (rw [nI_cl (by omega)]; assumption) | omega) only [↓reduceIte, reduceCtorEq, not_true_eq_false, not_false_eq_true, q219_302, q219_303, q219_304, q219_306, q219_307, q219_308, q219_309, q219_310, q219_313, q219_315, q219_316, q219_317, q219_319, q219_320, q219_321, q219_322, q219_325, q219_327, q219_328, q219_331, q219_333, q219_336, q219_337, q219_338, q219_340, q219_343, q219_344, q219_345, q219_346, q219_348, q219_349, q219_350, q219_353, q219_354, q219_355, kl_int, kl_ref, kl_tok, cS_nil, cS_int, cS_ref, cS_long, tl_some, tl_none, List.cons_append, List.nil_append, nI_add, nI_ltb, nI_leb, nI_eqb, nI_cl, zin_nI, hx, hx1, g1', g2, gt, zk0_inl, gj, lg_self]
  · simp (disch := first | assumption | exact nar_b0 | exact nar_b1 | exact nar_b | exact Or.inl rfl | exact Or.inr rfl | exact zin_t (by omega) (by omega) | exact Nat.le_of_ble_eq_true rfl | (rw [nI_cl (by omega)]; assumption) | omega) only [↓reduceIte, reduceCtorEq, not_true_eq_false, not_false_eq_true, q219_302, q219_303, q219_304, q219_306, q219_307, q219_308, q219_309, q219_310, q219_313, q219_315, q219_316, q219_317, q219_319, q219_320, q219_321, q219_322, q219_325, q219_327, q219_328, q219_331, q219_333, q219_336, q219_337, q219_338, q219_340, q219_343, q219_344, q219_345, q219_346, q219_348, q219_349, q219_350, q219_353, q219_354, q219_355, kl_int, kl_ref, kl_tok, cS_nil, cS_int, cS_ref, cS_long, tl_some, tl_none, List.cons_append, List.nil_append, nI_add, nI_ltb, nI_leb, nI_eqb, nI_cl, zin_nI, hx, hx1, g1', g2, gt, zk0_inl, z]
theorem s_4 {v5 v6 : Value} (hi : i + 6 ≤ L) (hL : L ≤ 3072) (h : LI xs L M R k) : LoS d xs L i M R k 358 v5 v6 := by
  obtain ⟨G, j, hC, hM, hW, hx, hl, h6, h7⟩ := h
  have hS := hC.1.1
  obtain ⟨c, v', M1, R1, M2, hc, g1, g2, g3, g4, hx1, hl1, hS1, hLI⟩ := wp (d := d) (w := 202) (by decide) (pr_pass (d := d) hW hC ) (fun c e v G' h ha => w_202 hS h ha) hC hM hx hl h6 h7
  have nN := hS.1
  have nN1 := hS1.1
  have eN : zN R1 = zN R := by rw [nN, nN1]
  have k0 := K0 hS
  have ks := hS.2.2.2.1
  have ks1 := hS1.2.2.2.1
  have k127 := K127 hS1
  have k146 := K146 hS1
  have l146 := L146 hS1
  have g1' : cal (d + 29) 202 [.ref 0, .ref 146] M R = some (.inl (some (.int (nI c))), M1, R1) := g1
  have gt := thrown_ (d := d + 29) (M := M2) hS1
  rw [g3] at gt
  refine ⟨M2, R1, .int (nI c), .int v', ?_, hLI⟩
  by_cases z : c = 0
  · have gj := g4 z
    subst z
    simp (disch := first | assumption | exact nar_b0 | exact nar_b1 | exact nar_b | exact Or.inl rfl | exact Or.inr rfl | exact zin_t (by omega) (by omega) | exact Nat.le_of_ble_eq_true rfl | (rw [nI_cl (by omega)]; assumption) | omega) only [↓reduceIte, reduceCtorEq, not_true_eq_false, not_false_eq_true, q219_358, q219_359, q219_360, q219_363, q219_365, q219_366, q219_369, q219_371, q219_372, q219_375, q219_377, q219_380, q219_381, q219_382, q219_384, q219_387, q219_388, q219_389, q219_390, q219_392, q219_393, q219_394, q219_397, q219_398, q219_399, kl_int, kl_ref, kl_tok, cS_nil, cS_int, cS_ref, cS_long, tl_some, tl_none, List.cons_append, List.nil_append, nI_add, nI_ltb, nI_leb, nI_eqb, nI_cl, zin_nI, hx, hx1, g1', g2, gt, zk0_inl, gj, lg_self]
  · simp (disch := first | assumption | exact nar_b0 | exact nar_b1 | exact nar_b | exact Or.inl rfl | exact Or.inr rfl | exact zin_t (by omega) (by omega) | exact Nat.le_of_ble_eq_true rfl | (rw [nI_cl (by omega)]; assumption) | omega) only [↓reduceIte, reduceCtorEq, not_true_eq_false, not_false_eq_true, q219_358, q219_359, q219_360, q219_363, q219_365, q219_366, q219_369, q219_371, q219_372, q219_375, q219_377, q219_380, q219_381, q219_382, q219_384, q219_387, q219_388, q219_389, q219_390, q219_392, q219_393, q219_394, q219_397, q219_398, q219_399, kl_int, kl_ref, kl_tok, cS_nil, cS_int, cS_ref, cS_long, tl_some, tl_none, List.cons_append, List.nil_append, nI_add, nI_ltb, nI_leb, nI_eqb, nI_cl, zin_nI, hx, hx1, g1', g2, gt, zk0_inl, z]
theorem s_5 {v5 v6 : Value} (hi : i + 6 ≤ L) (hL : L ≤ 3072) (h : LI xs L M R k) : LoS d xs L i M R k 402 v5 v6 := by
  obtain ⟨G, j, hC, hM, hW, hx, hl, h6, h7⟩ := h
  have hS := hC.1.1
  obtain ⟨c, v', M1, R1, M2, hc, g1, g2, g3, g4, hx1, hl1, hS1, hLI⟩ := wp (d := d) (w := 203) (by decide) (pr_rule (d := d) hW hC (xs (i + 1)) (xs (i + 2))) (fun c e v G' h ha => w_203 hS h ha) hC hM hx hl h6 h7
  have nN := hS.1
  have nN1 := hS1.1
  have eN : zN R1 = zN R := by rw [nN, nN1]
  have k0 := K0 hS
  have ks := hS.2.2.2.1
  have ks1 := hS1.2.2.2.1
  have k127 := K127 hS1
  have k146 := K146 hS1
  have l146 := L146 hS1
  have g1' : cal (d + 29) 203 [.ref 0, .int (xs (i + 1)), .int (xs (i + 2)), .ref 146] M R = some (.inl (some (.int (nI c))), M1, R1) := g1
  have gt := thrown_ (d := d + 29) (M := M2) hS1
  rw [g3] at gt
  refine ⟨M2, R1, .int (nI c), .int v', ?_, hLI⟩
  by_cases z : c = 0
  · have gj := g4 z
    subst z
    simp (disch := first | assumption | exact nar_b0 | exact nar_b1 | exact nar_b | exact Or.inl rfl | exact Or.inr rfl | exact zin_t (by omega) (by omega) | exact Nat.le_of_ble_eq_true rfl | (rw [nI_cl (by omega)]; assumption) | omega) only [↓reduceIte, reduceCtorEq, not_true_eq_false, not_false_eq_true, q219_402, q219_403, q219_404, q219_406, q219_407, q219_408, q219_409, q219_410, q219_412, q219_413, q219_414, q219_415, q219_416, q219_419, q219_421, q219_422, q219_423, q219_425, q219_426, q219_427, q219_428, q219_429, q219_431, q219_432, q219_433, q219_434, q219_437, q219_439, q219_440, q219_443, q219_445, q219_448, q219_449, q219_450, q219_452, q219_455, q219_456, q219_457, q219_458, q219_460, q219_461, q219_462, q219_465, q219_466, q219_467, kl_int, kl_ref, kl_tok, cS_nil, cS_int, cS_ref, cS_long, tl_some, tl_none, List.cons_append, List.nil_append, nI_add, nI_ltb, nI_leb, nI_eqb, nI_cl, zin_nI, hx, hx1, g1', g2, gt, zk0_inl, gj, lg_self]
  · simp (disch := first | assumption | exact nar_b0 | exact nar_b1 | exact nar_b | exact Or.inl rfl | exact Or.inr rfl | exact zin_t (by omega) (by omega) | exact Nat.le_of_ble_eq_true rfl | (rw [nI_cl (by omega)]; assumption) | omega) only [↓reduceIte, reduceCtorEq, not_true_eq_false, not_false_eq_true, q219_402, q219_403, q219_404, q219_406, q219_407, q219_408, q219_409, q219_410, q219_412, q219_413, q219_414, q219_415, q219_416, q219_419, q219_421, q219_422, q219_423, q219_425, q219_426, q219_427, q219_428, q219_429, q219_431, q219_432, q219_433, q219_434, q219_437, q219_439, q219_440, q219_443, q219_445, q219_448, q219_449, q219_450, q219_452, q219_455, q219_456, q219_457, q219_458, q219_460, q219_461, q219_462, q219_465, q219_466, q219_467, kl_int, kl_ref, kl_tok, cS_nil, cS_int, cS_ref, cS_long, tl_some, tl_none, List.cons_append, List.nil_append, nI_add, nI_ltb, nI_leb, nI_eqb, nI_cl, zin_nI, hx, hx1, g1', g2, gt, zk0_inl, z]
theorem s_6 {v5 v6 : Value} (hi : i + 6 ≤ L) (hL : L ≤ 3072) (h : LI xs L M R k) : LoS d xs L i M R k 470 v5 v6 := by
  obtain ⟨G, j, hC, hM, hW, hx, hl, h6, h7⟩ := h
  have hS := hC.1.1
  obtain ⟨c, v', M1, R1, M2, hc, g1, g2, g3, g4, hx1, hl1, hS1, hLI⟩ := wp (d := d) (w := 204) (by decide) (pr_order (d := d) hW hC (xs (i + 1)) (xs (i + 2))) (fun c e v G' h ha => w_204 hS h ha) hC hM hx hl h6 h7
  have nN := hS.1
  have nN1 := hS1.1
  have eN : zN R1 = zN R := by rw [nN, nN1]
  have k0 := K0 hS
  have ks := hS.2.2.2.1
  have ks1 := hS1.2.2.2.1
  have k127 := K127 hS1
  have k146 := K146 hS1
  have l146 := L146 hS1
  have g1' : cal (d + 29) 204 [.ref 0, .int (xs (i + 1)), .int (xs (i + 2)), .ref 146] M R = some (.inl (some (.int (nI c))), M1, R1) := g1
  have gt := thrown_ (d := d + 29) (M := M2) hS1
  rw [g3] at gt
  refine ⟨M2, R1, .int (nI c), .int v', ?_, hLI⟩
  by_cases z : c = 0
  · have gj := g4 z
    subst z
    simp (disch := first | assumption | exact nar_b0 | exact nar_b1 | exact nar_b | exact Or.inl rfl | exact Or.inr rfl | exact zin_t (by omega) (by omega) | exact Nat.le_of_ble_eq_true rfl | (rw [nI_cl (by omega)]; assumption) | omega) only [↓reduceIte, reduceCtorEq, not_true_eq_false, not_false_eq_true, q219_470, q219_471, q219_472, q219_474, q219_475, q219_476, q219_477, q219_478, q219_480, q219_481, q219_482, q219_483, q219_484, q219_487, q219_489, q219_490, q219_491, q219_493, q219_494, q219_495, q219_496, q219_497, q219_499, q219_500, q219_501, q219_502, q219_505, q219_507, q219_508, q219_511, q219_513, q219_516, q219_517, q219_518, q219_520, q219_523, q219_524, q219_525, q219_526, q219_528, q219_529, q219_530, q219_533, q219_534, q219_535, kl_int, kl_ref, kl_tok, cS_nil, cS_int, cS_ref, cS_long, tl_some, tl_none, List.cons_append, List.nil_append, nI_add, nI_ltb, nI_leb, nI_eqb, nI_cl, zin_nI, hx, hx1, g1', g2, gt, zk0_inl, gj, lg_self]
  · simp (disch := first | assumption | exact nar_b0 | exact nar_b1 | exact nar_b | exact Or.inl rfl | exact Or.inr rfl | exact zin_t (by omega) (by omega) | exact Nat.le_of_ble_eq_true rfl | (rw [nI_cl (by omega)]; assumption) | omega) only [↓reduceIte, reduceCtorEq, not_true_eq_false, not_false_eq_true, q219_470, q219_471, q219_472, q219_474, q219_475, q219_476, q219_477, q219_478, q219_480, q219_481, q219_482, q219_483, q219_484, q219_487, q219_489, q219_490, q219_491, q219_493, q219_494, q219_495, q219_496, q219_497, q219_499, q219_500, q219_501, q219_502, q219_505, q219_507, q219_508, q219_511, q219_513, q219_516, q219_517, q219_518, q219_520, q219_523, q219_524, q219_525, q219_526, q219_528, q219_529, q219_530, q219_533, q219_534, q219_535, kl_int, kl_ref, kl_tok, cS_nil, cS_int, cS_ref, cS_long, tl_some, tl_none, List.cons_append, List.nil_append, nI_add, nI_ltb, nI_leb, nI_eqb, nI_cl, zin_nI, hx, hx1, g1', g2, gt, zk0_inl, z]
theorem s_7 {v5 v6 : Value} (hi : i + 6 ≤ L) (hL : L ≤ 3072) (h : LI xs L M R k) : LoS d xs L i M R k 538 v5 v6 := by
  obtain ⟨G, j, hC, hM, hW, hx, hl, h6, h7⟩ := h
  have hS := hC.1.1
  obtain ⟨v, M1, R1, M2, g1, g2, hx1, hl1, hS1, hLI⟩ := wq (d := d) (pr_undo (d := d) hW hC ) hC hM hx hl h6 h7
  have nN := hS.1
  have nN1 := hS1.1
  have eN : zN R1 = zN R := by rw [nN, nN1]
  have k0 := K0 hS
  have ks := hS.2.2.2.1
  have ks1 := hS1.2.2.2.1
  have k127 := K127 hS1
  have k146 := K146 hS1
  have l146 := L146 hS1
  refine ⟨M2, R1, v5, v6, ?_, hLI⟩
  simp (disch := first | assumption | exact nar_b0 | exact nar_b1 | exact nar_b | exact Or.inl rfl | exact Or.inr rfl | exact zin_t (by omega) (by omega) | exact Nat.le_of_ble_eq_true rfl | (rw [nI_cl (by omega)]; assumption) | omega) only [↓reduceIte, reduceCtorEq, not_true_eq_false, not_false_eq_true, q219_538, q219_539, q219_542, q219_543, q219_546, q219_549, q219_550, kl_int, kl_ref, kl_tok, cS_nil, cS_int, cS_ref, cS_long, tl_some, tl_none, List.cons_append, List.nil_append, nI_add, nI_ltb, nI_leb, nI_eqb, nI_cl, zin_nI, hx, hx1, g1, g2, zk0_inl]
theorem s_8 {v5 v6 : Value} (hi : i + 6 ≤ L) (hL : L ≤ 3072) (h : LI xs L M R k) : LoS d xs L i M R k 551 v5 v6 := by
  obtain ⟨G, j, hC, hM, hW, hx, hl, h6, h7⟩ := h
  have hS := hC.1.1
  obtain ⟨c, v', M1, R1, M2, hc, g1, g2, g3, g4, hx1, hl1, hS1, hLI⟩ := wp (d := d) (w := 205) (by decide) (pr_told (d := d) hW hC (xs (i + 1))) (fun c e v G' h ha => w_205 hS h ha) hC hM hx hl h6 h7
  have nN := hS.1
  have nN1 := hS1.1
  have eN : zN R1 = zN R := by rw [nN, nN1]
  have k0 := K0 hS
  have ks := hS.2.2.2.1
  have ks1 := hS1.2.2.2.1
  have k127 := K127 hS1
  have k146 := K146 hS1
  have l146 := L146 hS1
  have g1' : cal (d + 29) 205 [.ref 0, .int (xs (i + 1)), .ref 146] M R = some (.inl (some (.int (nI c))), M1, R1) := g1
  have gt := thrown_ (d := d + 29) (M := M2) hS1
  rw [g3] at gt
  refine ⟨M2, R1, .int (nI c), .int v', ?_, hLI⟩
  by_cases z : c = 0
  · have gj := g4 z
    subst z
    simp (disch := first | assumption | exact nar_b0 | exact nar_b1 | exact nar_b | exact Or.inl rfl | exact Or.inr rfl | exact zin_t (by omega) (by omega) | exact Nat.le_of_ble_eq_true rfl | (rw [nI_cl (by omega)]; assumption) | omega) only [↓reduceIte, reduceCtorEq, not_true_eq_false, not_false_eq_true, q219_551, q219_552, q219_553, q219_555, q219_556, q219_557, q219_558, q219_559, q219_562, q219_564, q219_565, q219_566, q219_568, q219_569, q219_570, q219_571, q219_574, q219_576, q219_577, q219_580, q219_582, q219_585, q219_586, q219_587, q219_589, q219_592, q219_593, q219_594, q219_595, q219_597, q219_598, q219_599, q219_602, q219_603, q219_604, kl_int, kl_ref, kl_tok, cS_nil, cS_int, cS_ref, cS_long, tl_some, tl_none, List.cons_append, List.nil_append, nI_add, nI_ltb, nI_leb, nI_eqb, nI_cl, zin_nI, hx, hx1, g1', g2, gt, zk0_inl, gj, lg_self]
  · simp (disch := first | assumption | exact nar_b0 | exact nar_b1 | exact nar_b | exact Or.inl rfl | exact Or.inr rfl | exact zin_t (by omega) (by omega) | exact Nat.le_of_ble_eq_true rfl | (rw [nI_cl (by omega)]; assumption) | omega) only [↓reduceIte, reduceCtorEq, not_true_eq_false, not_false_eq_true, q219_551, q219_552, q219_553, q219_555, q219_556, q219_557, q219_558, q219_559, q219_562, q219_564, q219_565, q219_566, q219_568, q219_569, q219_570, q219_571, q219_574, q219_576, q219_577, q219_580, q219_582, q219_585, q219_586, q219_587, q219_589, q219_592, q219_593, q219_594, q219_595, q219_597, q219_598, q219_599, q219_602, q219_603, q219_604, kl_int, kl_ref, kl_tok, cS_nil, cS_int, cS_ref, cS_long, tl_some, tl_none, List.cons_append, List.nil_append, nI_add, nI_ltb, nI_leb, nI_eqb, nI_cl, zin_nI, hx, hx1, g1', g2, gt, zk0_inl, z]
theorem s_9 {v5 v6 : Value} (hi : i + 6 ≤ L) (hL : L ≤ 3072) (h : LI xs L M R k) : LoS d xs L i M R k 607 v5 v6 := by
  obtain ⟨G, j, hC, hM, hW, hx, hl, h6, h7⟩ := h
  have hS := hC.1.1
  obtain ⟨c, v', M1, R1, M2, hc, g1, g2, g3, g4, hx1, hl1, hS1, hLI⟩ := wp (d := d) (w := 206) (by decide) (pr_juror (d := d) hW hC (xs (i + 1)) (xs (i + 2))) (fun c e v G' h ha => w_206 hS h ha) hC hM hx hl h6 h7
  have nN := hS.1
  have nN1 := hS1.1
  have eN : zN R1 = zN R := by rw [nN, nN1]
  have k0 := K0 hS
  have ks := hS.2.2.2.1
  have ks1 := hS1.2.2.2.1
  have k127 := K127 hS1
  have k146 := K146 hS1
  have l146 := L146 hS1
  have g1' : cal (d + 29) 206 [.ref 0, .int (xs (i + 1)), .int (xs (i + 2)), .ref 146] M R = some (.inl (some (.int (nI c))), M1, R1) := g1
  have gt := thrown_ (d := d + 29) (M := M2) hS1
  rw [g3] at gt
  refine ⟨M2, R1, .int (nI c), .int v', ?_, hLI⟩
  by_cases z : c = 0
  · have gj := g4 z
    subst z
    simp (disch := first | assumption | exact nar_b0 | exact nar_b1 | exact nar_b | exact Or.inl rfl | exact Or.inr rfl | exact zin_t (by omega) (by omega) | exact Nat.le_of_ble_eq_true rfl | (rw [nI_cl (by omega)]; assumption) | omega) only [↓reduceIte, reduceCtorEq, not_true_eq_false, not_false_eq_true, q219_607, q219_608, q219_609, q219_611, q219_612, q219_613, q219_614, q219_615, q219_617, q219_618, q219_619, q219_620, q219_621, q219_624, q219_626, q219_627, q219_628, q219_630, q219_631, q219_632, q219_633, q219_634, q219_636, q219_637, q219_638, q219_639, q219_642, q219_644, q219_645, q219_648, q219_650, q219_653, q219_654, q219_655, q219_657, q219_660, q219_661, q219_662, q219_663, q219_665, q219_666, q219_667, q219_670, q219_671, q219_672, kl_int, kl_ref, kl_tok, cS_nil, cS_int, cS_ref, cS_long, tl_some, tl_none, List.cons_append, List.nil_append, nI_add, nI_ltb, nI_leb, nI_eqb, nI_cl, zin_nI, hx, hx1, g1', g2, gt, zk0_inl, gj, lg_self]
  · simp (disch := first | assumption | exact nar_b0 | exact nar_b1 | exact nar_b | exact Or.inl rfl | exact Or.inr rfl | exact zin_t (by omega) (by omega) | exact Nat.le_of_ble_eq_true rfl | (rw [nI_cl (by omega)]; assumption) | omega) only [↓reduceIte, reduceCtorEq, not_true_eq_false, not_false_eq_true, q219_607, q219_608, q219_609, q219_611, q219_612, q219_613, q219_614, q219_615, q219_617, q219_618, q219_619, q219_620, q219_621, q219_624, q219_626, q219_627, q219_628, q219_630, q219_631, q219_632, q219_633, q219_634, q219_636, q219_637, q219_638, q219_639, q219_642, q219_644, q219_645, q219_648, q219_650, q219_653, q219_654, q219_655, q219_657, q219_660, q219_661, q219_662, q219_663, q219_665, q219_666, q219_667, q219_670, q219_671, q219_672, kl_int, kl_ref, kl_tok, cS_nil, cS_int, cS_ref, cS_long, tl_some, tl_none, List.cons_append, List.nil_append, nI_add, nI_ltb, nI_leb, nI_eqb, nI_cl, zin_nI, hx, hx1, g1', g2, gt, zk0_inl, z]
theorem s_10 {v5 v6 : Value} (hi : i + 6 ≤ L) (hL : L ≤ 3072) (h : LI xs L M R k) : LoS d xs L i M R k 675 v5 v6 := by
  obtain ⟨G, j, hC, hM, hW, hx, hl, h6, h7⟩ := h
  have hS := hC.1.1
  by_cases hb : xs (i + 2) = nI 0
  · obtain ⟨c, v', M1, R1, M2, hc, g1, g2, g3, g4, hx1, hl1, hS1, hLI⟩ := wp (d := d) (w := 207) (by decide) (pr_seat (d := d) hW hC (xs (i + 1)) false) (fun c e v G' h ha => w_207 hS h ha) hC hM hx hl h6 h7
    have nN := hS.1
    have nN1 := hS1.1
    have eN : zN R1 = zN R := by rw [nN, nN1]
    have k0 := K0 hS
    have ks := hS.2.2.2.1
    have ks1 := hS1.2.2.2.1
    have k127 := K127 hS1
    have k146 := K146 hS1
    have l146 := L146 hS1
    have g1' : cal (d + 29) 207 [.ref 0, .int (xs (i + 1)), .int (nI 0), .ref 146] M R = some (.inl (some (.int (nI c))), M1, R1) := g1
    have g2' : cal (d + 29) 167 [.ref 127, .int (xs (i + 1)), .int (nI 0)] M1 R1 = some (.inl (some (.int v')), M2, R1) := g2
    have gt := thrown_ (d := d + 29) (M := M2) hS1
    rw [g3] at gt
    refine ⟨M2, R1, .int (nI c), .int v', ?_, hLI⟩
    by_cases z : c = 0
    · have gj := g4 z
      subst z
      simp (disch := first | assumption | exact nar_b0 | exact nar_b1 | exact nar_b | exact Or.inl rfl | exact Or.inr rfl | exact zin_t (by omega) (by omega) | exact Nat.le_of_ble_eq_true rfl | (rw [nI_cl (by omega)]; assumption) | omega) only [↓reduceIte, reduceCtorEq, not_true_eq_false, not_false_eq_true, q219_675, q219_676, q219_677, q219_679, q219_680, q219_681, q219_682, q219_683, q219_685, q219_686, q219_687, q219_688, q219_691, q219_692, q219_695, q219_696, q219_697, q219_700, q219_702, q219_703, q219_704, q219_706, q219_707, q219_708, q219_709, q219_710, q219_712, q219_713, q219_714, q219_715, q219_718, q219_719, q219_722, q219_723, q219_726, q219_728, q219_729, q219_732, q219_734, q219_737, q219_738, q219_739, q219_741, q219_744, q219_745, q219_746, q219_747, q219_749, q219_750, q219_751, q219_754, q219_755, q219_756, kl_int, kl_ref, kl_tok, cS_nil, cS_int, cS_ref, cS_long, tl_some, tl_none, List.cons_append, List.nil_append, nI_add, nI_ltb, nI_leb, nI_eqb, nI_cl, zin_nI, hx, hx1, hb, g1', g2', gt, zk0_inl, gj, lg_self]
    · simp (disch := first | assumption | exact nar_b0 | exact nar_b1 | exact nar_b | exact Or.inl rfl | exact Or.inr rfl | exact zin_t (by omega) (by omega) | exact Nat.le_of_ble_eq_true rfl | (rw [nI_cl (by omega)]; assumption) | omega) only [↓reduceIte, reduceCtorEq, not_true_eq_false, not_false_eq_true, q219_675, q219_676, q219_677, q219_679, q219_680, q219_681, q219_682, q219_683, q219_685, q219_686, q219_687, q219_688, q219_691, q219_692, q219_695, q219_696, q219_697, q219_700, q219_702, q219_703, q219_704, q219_706, q219_707, q219_708, q219_709, q219_710, q219_712, q219_713, q219_714, q219_715, q219_718, q219_719, q219_722, q219_723, q219_726, q219_728, q219_729, q219_732, q219_734, q219_737, q219_738, q219_739, q219_741, q219_744, q219_745, q219_746, q219_747, q219_749, q219_750, q219_751, q219_754, q219_755, q219_756, kl_int, kl_ref, kl_tok, cS_nil, cS_int, cS_ref, cS_long, tl_some, tl_none, List.cons_append, List.nil_append, nI_add, nI_ltb, nI_leb, nI_eqb, nI_cl, zin_nI, hx, hx1, hb, g1', g2', gt, zk0_inl, z]
  · obtain ⟨c, v', M1, R1, M2, hc, g1, g2, g3, g4, hx1, hl1, hS1, hLI⟩ := wp (d := d) (w := 207) (by decide) (pr_seat (d := d) hW hC (xs (i + 1)) true) (fun c e v G' h ha => w_207 hS h ha) hC hM hx hl h6 h7
    have nN := hS.1
    have nN1 := hS1.1
    have eN : zN R1 = zN R := by rw [nN, nN1]
    have k0 := K0 hS
    have ks := hS.2.2.2.1
    have ks1 := hS1.2.2.2.1
    have k127 := K127 hS1
    have k146 := K146 hS1
    have l146 := L146 hS1
    have g1' : cal (d + 29) 207 [.ref 0, .int (xs (i + 1)), .int (nI 1), .ref 146] M R = some (.inl (some (.int (nI c))), M1, R1) := g1
    have g2' : cal (d + 29) 167 [.ref 127, .int (xs (i + 1)), .int (nI 1)] M1 R1 = some (.inl (some (.int v')), M2, R1) := g2
    have gt := thrown_ (d := d + 29) (M := M2) hS1
    rw [g3] at gt
    refine ⟨M2, R1, .int (nI c), .int v', ?_, hLI⟩
    by_cases z : c = 0
    · have gj := g4 z
      subst z
      simp (disch := first | assumption | exact nar_b0 | exact nar_b1 | exact nar_b | exact Or.inl rfl | exact Or.inr rfl | exact zin_t (by omega) (by omega) | exact Nat.le_of_ble_eq_true rfl | (rw [nI_cl (by omega)]; assumption) | omega) only [↓reduceIte, reduceCtorEq, not_true_eq_false, not_false_eq_true, q219_675, q219_676, q219_677, q219_679, q219_680, q219_681, q219_682, q219_683, q219_685, q219_686, q219_687, q219_688, q219_691, q219_692, q219_695, q219_696, q219_697, q219_700, q219_702, q219_703, q219_704, q219_706, q219_707, q219_708, q219_709, q219_710, q219_712, q219_713, q219_714, q219_715, q219_718, q219_719, q219_722, q219_723, q219_726, q219_728, q219_729, q219_732, q219_734, q219_737, q219_738, q219_739, q219_741, q219_744, q219_745, q219_746, q219_747, q219_749, q219_750, q219_751, q219_754, q219_755, q219_756, kl_int, kl_ref, kl_tok, cS_nil, cS_int, cS_ref, cS_long, tl_some, tl_none, List.cons_append, List.nil_append, nI_add, nI_ltb, nI_leb, nI_eqb, nI_cl, zin_nI, hx, hx1, hb, g1', g2', gt, zk0_inl, gj, lg_self]
    · simp (disch := first | assumption | exact nar_b0 | exact nar_b1 | exact nar_b | exact Or.inl rfl | exact Or.inr rfl | exact zin_t (by omega) (by omega) | exact Nat.le_of_ble_eq_true rfl | (rw [nI_cl (by omega)]; assumption) | omega) only [↓reduceIte, reduceCtorEq, not_true_eq_false, not_false_eq_true, q219_675, q219_676, q219_677, q219_679, q219_680, q219_681, q219_682, q219_683, q219_685, q219_686, q219_687, q219_688, q219_691, q219_692, q219_695, q219_696, q219_697, q219_700, q219_702, q219_703, q219_704, q219_706, q219_707, q219_708, q219_709, q219_710, q219_712, q219_713, q219_714, q219_715, q219_718, q219_719, q219_722, q219_723, q219_726, q219_728, q219_729, q219_732, q219_734, q219_737, q219_738, q219_739, q219_741, q219_744, q219_745, q219_746, q219_747, q219_749, q219_750, q219_751, q219_754, q219_755, q219_756, kl_int, kl_ref, kl_tok, cS_nil, cS_int, cS_ref, cS_long, tl_some, tl_none, List.cons_append, List.nil_append, nI_add, nI_ltb, nI_leb, nI_eqb, nI_cl, zin_nI, hx, hx1, hb, g1', g2', gt, zk0_inl, z]
theorem s_11 {v5 v6 : Value} (hi : i + 6 ≤ L) (hL : L ≤ 3072) (h : LI xs L M R k) : LoS d xs L i M R k 759 v5 v6 := by
  obtain ⟨G, j, hC, hM, hW, hx, hl, h6, h7⟩ := h
  have hS := hC.1.1
  obtain ⟨c, v', M1, R1, M2, hc, g1, g2, g3, g4, hx1, hl1, hS1, hLI⟩ := wp (d := d) (w := 208) (by decide) (pr_turn (d := d) hW hC (xs (i + 1))) (fun c e v G' h ha => w_208 hS h ha) hC hM hx hl h6 h7
  have nN := hS.1
  have nN1 := hS1.1
  have eN : zN R1 = zN R := by rw [nN, nN1]
  have k0 := K0 hS
  have ks := hS.2.2.2.1
  have ks1 := hS1.2.2.2.1
  have k127 := K127 hS1
  have k146 := K146 hS1
  have l146 := L146 hS1
  have g1' : cal (d + 29) 208 [.ref 0, .int (xs (i + 1)), .ref 146] M R = some (.inl (some (.int (nI c))), M1, R1) := g1
  have gt := thrown_ (d := d + 29) (M := M2) hS1
  rw [g3] at gt
  refine ⟨M2, R1, .int (nI c), .int v', ?_, hLI⟩
  by_cases z : c = 0
  · have gj := g4 z
    subst z
    simp (disch := first | assumption | exact nar_b0 | exact nar_b1 | exact nar_b | exact Or.inl rfl | exact Or.inr rfl | exact zin_t (by omega) (by omega) | exact Nat.le_of_ble_eq_true rfl | (rw [nI_cl (by omega)]; assumption) | omega) only [↓reduceIte, reduceCtorEq, not_true_eq_false, not_false_eq_true, q219_759, q219_760, q219_761, q219_763, q219_764, q219_765, q219_766, q219_767, q219_770, q219_772, q219_773, q219_774, q219_776, q219_777, q219_778, q219_779, q219_782, q219_784, q219_785, q219_788, q219_790, q219_793, q219_794, q219_795, q219_797, q219_800, q219_801, q219_802, q219_803, q219_805, q219_806, q219_807, q219_810, q219_811, q219_812, kl_int, kl_ref, kl_tok, cS_nil, cS_int, cS_ref, cS_long, tl_some, tl_none, List.cons_append, List.nil_append, nI_add, nI_ltb, nI_leb, nI_eqb, nI_cl, zin_nI, hx, hx1, g1', g2, gt, zk0_inl, gj, lg_self]
  · simp (disch := first | assumption | exact nar_b0 | exact nar_b1 | exact nar_b | exact Or.inl rfl | exact Or.inr rfl | exact zin_t (by omega) (by omega) | exact Nat.le_of_ble_eq_true rfl | (rw [nI_cl (by omega)]; assumption) | omega) only [↓reduceIte, reduceCtorEq, not_true_eq_false, not_false_eq_true, q219_759, q219_760, q219_761, q219_763, q219_764, q219_765, q219_766, q219_767, q219_770, q219_772, q219_773, q219_774, q219_776, q219_777, q219_778, q219_779, q219_782, q219_784, q219_785, q219_788, q219_790, q219_793, q219_794, q219_795, q219_797, q219_800, q219_801, q219_802, q219_803, q219_805, q219_806, q219_807, q219_810, q219_811, q219_812, kl_int, kl_ref, kl_tok, cS_nil, cS_int, cS_ref, cS_long, tl_some, tl_none, List.cons_append, List.nil_append, nI_add, nI_ltb, nI_leb, nI_eqb, nI_cl, zin_nI, hx, hx1, g1', g2, gt, zk0_inl, z]
theorem s_12 {v5 v6 : Value} (hi : i + 6 ≤ L) (hL : L ≤ 3072) (h : LI xs L M R k) : LoS d xs L i M R k 815 v5 v6 := by
  obtain ⟨G, j, hC, hM, hW, hx, hl, h6, h7⟩ := h
  have hS := hC.1.1
  obtain ⟨c, v', M1, R1, M2, hc, g1, g2, g3, g4, hx1, hl1, hS1, hLI⟩ := wp (d := d) (w := 209) (by decide) (pr_worth (d := d) hW hC (xs (i + 1))) (fun c e v G' h ha => w_209 hS h ha) hC hM hx hl h6 h7
  have nN := hS.1
  have nN1 := hS1.1
  have eN : zN R1 = zN R := by rw [nN, nN1]
  have k0 := K0 hS
  have ks := hS.2.2.2.1
  have ks1 := hS1.2.2.2.1
  have k127 := K127 hS1
  have k146 := K146 hS1
  have l146 := L146 hS1
  have g1' : cal (d + 29) 209 [.ref 0, .int (xs (i + 1)), .ref 146] M R = some (.inl (some (.int (nI c))), M1, R1) := g1
  have gt := thrown_ (d := d + 29) (M := M2) hS1
  rw [g3] at gt
  refine ⟨M2, R1, .int (nI c), .int v', ?_, hLI⟩
  by_cases z : c = 0
  · have gj := g4 z
    subst z
    simp (disch := first | assumption | exact nar_b0 | exact nar_b1 | exact nar_b | exact Or.inl rfl | exact Or.inr rfl | exact zin_t (by omega) (by omega) | exact Nat.le_of_ble_eq_true rfl | (rw [nI_cl (by omega)]; assumption) | omega) only [↓reduceIte, reduceCtorEq, not_true_eq_false, not_false_eq_true, q219_815, q219_816, q219_817, q219_819, q219_820, q219_821, q219_822, q219_823, q219_826, q219_828, q219_829, q219_830, q219_832, q219_833, q219_834, q219_835, q219_838, q219_840, q219_841, q219_844, q219_846, q219_849, q219_850, q219_851, q219_853, q219_856, q219_857, q219_858, q219_859, q219_861, q219_862, q219_863, q219_866, q219_867, q219_868, kl_int, kl_ref, kl_tok, cS_nil, cS_int, cS_ref, cS_long, tl_some, tl_none, List.cons_append, List.nil_append, nI_add, nI_ltb, nI_leb, nI_eqb, nI_cl, zin_nI, hx, hx1, g1', g2, gt, zk0_inl, gj, lg_self]
  · simp (disch := first | assumption | exact nar_b0 | exact nar_b1 | exact nar_b | exact Or.inl rfl | exact Or.inr rfl | exact zin_t (by omega) (by omega) | exact Nat.le_of_ble_eq_true rfl | (rw [nI_cl (by omega)]; assumption) | omega) only [↓reduceIte, reduceCtorEq, not_true_eq_false, not_false_eq_true, q219_815, q219_816, q219_817, q219_819, q219_820, q219_821, q219_822, q219_823, q219_826, q219_828, q219_829, q219_830, q219_832, q219_833, q219_834, q219_835, q219_838, q219_840, q219_841, q219_844, q219_846, q219_849, q219_850, q219_851, q219_853, q219_856, q219_857, q219_858, q219_859, q219_861, q219_862, q219_863, q219_866, q219_867, q219_868, kl_int, kl_ref, kl_tok, cS_nil, cS_int, cS_ref, cS_long, tl_some, tl_none, List.cons_append, List.nil_append, nI_add, nI_ltb, nI_leb, nI_eqb, nI_cl, zin_nI, hx, hx1, g1', g2, gt, zk0_inl, z]
theorem s_13 {v5 v6 : Value} (hi : i + 6 ≤ L) (hL : L ≤ 3072) (h : LI xs L M R k) : LoS d xs L i M R k 871 v5 v6 := by
  obtain ⟨G, j, hC, hM, hW, hx, hl, h6, h7⟩ := h
  have hS := hC.1.1
  obtain ⟨c, v', M1, R1, M2, hc, g1, g2, g3, g4, hx1, hl1, hS1, hLI⟩ := wp (d := d) (w := 210) (by decide) (pr_value (d := d) hW hC (xs (i + 1))) (fun c e v G' h ha => w_210 hS h ha) hC hM hx hl h6 h7
  have nN := hS.1
  have nN1 := hS1.1
  have eN : zN R1 = zN R := by rw [nN, nN1]
  have k0 := K0 hS
  have ks := hS.2.2.2.1
  have ks1 := hS1.2.2.2.1
  have k127 := K127 hS1
  have k146 := K146 hS1
  have l146 := L146 hS1
  have g1' : cal (d + 29) 210 [.ref 0, .int (xs (i + 1)), .ref 146] M R = some (.inl (some (.int (nI c))), M1, R1) := g1
  have gt := thrown_ (d := d + 29) (M := M2) hS1
  rw [g3] at gt
  refine ⟨M2, R1, .int (nI c), .int v', ?_, hLI⟩
  by_cases z : c = 0
  · have gj := g4 z
    subst z
    simp (disch := first | assumption | exact nar_b0 | exact nar_b1 | exact nar_b | exact Or.inl rfl | exact Or.inr rfl | exact zin_t (by omega) (by omega) | exact Nat.le_of_ble_eq_true rfl | (rw [nI_cl (by omega)]; assumption) | omega) only [↓reduceIte, reduceCtorEq, not_true_eq_false, not_false_eq_true, q219_871, q219_872, q219_873, q219_875, q219_876, q219_877, q219_878, q219_879, q219_882, q219_884, q219_885, q219_886, q219_888, q219_889, q219_890, q219_891, q219_894, q219_896, q219_897, q219_900, q219_902, q219_905, q219_906, q219_907, q219_909, q219_912, q219_913, q219_914, q219_915, q219_917, q219_918, q219_919, q219_922, q219_923, q219_924, kl_int, kl_ref, kl_tok, cS_nil, cS_int, cS_ref, cS_long, tl_some, tl_none, List.cons_append, List.nil_append, nI_add, nI_ltb, nI_leb, nI_eqb, nI_cl, zin_nI, hx, hx1, g1', g2, gt, zk0_inl, gj, lg_self]
  · simp (disch := first | assumption | exact nar_b0 | exact nar_b1 | exact nar_b | exact Or.inl rfl | exact Or.inr rfl | exact zin_t (by omega) (by omega) | exact Nat.le_of_ble_eq_true rfl | (rw [nI_cl (by omega)]; assumption) | omega) only [↓reduceIte, reduceCtorEq, not_true_eq_false, not_false_eq_true, q219_871, q219_872, q219_873, q219_875, q219_876, q219_877, q219_878, q219_879, q219_882, q219_884, q219_885, q219_886, q219_888, q219_889, q219_890, q219_891, q219_894, q219_896, q219_897, q219_900, q219_902, q219_905, q219_906, q219_907, q219_909, q219_912, q219_913, q219_914, q219_915, q219_917, q219_918, q219_919, q219_922, q219_923, q219_924, kl_int, kl_ref, kl_tok, cS_nil, cS_int, cS_ref, cS_long, tl_some, tl_none, List.cons_append, List.nil_append, nI_add, nI_ltb, nI_leb, nI_eqb, nI_cl, zin_nI, hx, hx1, g1', g2, gt, zk0_inl, z]
theorem s_14 {v5 v6 : Value} (hi : i + 6 ≤ L) (hL : L ≤ 3072) (h : LI xs L M R k) : LoS d xs L i M R k 927 v5 v6 := by
  obtain ⟨G, j, hC, hM, hW, hx, hl, h6, h7⟩ := h
  have hS := hC.1.1
  obtain ⟨v, M1, R1, M2, g1, g2, hx1, hl1, hS1, hLI⟩ := wq (d := d) (pr_best (d := d) hW hC ) hC hM hx hl h6 h7
  have nN := hS.1
  have nN1 := hS1.1
  have eN : zN R1 = zN R := by rw [nN, nN1]
  have k0 := K0 hS
  have ks := hS.2.2.2.1
  have ks1 := hS1.2.2.2.1
  have k127 := K127 hS1
  have k146 := K146 hS1
  have l146 := L146 hS1
  refine ⟨M2, R1, v5, v6, ?_, hLI⟩
  simp (disch := first | assumption | exact nar_b0 | exact nar_b1 | exact nar_b | exact Or.inl rfl | exact Or.inr rfl | exact zin_t (by omega) (by omega) | exact Nat.le_of_ble_eq_true rfl | (rw [nI_cl (by omega)]; assumption) | omega) only [↓reduceIte, reduceCtorEq, not_true_eq_false, not_false_eq_true, q219_927, q219_928, q219_931, q219_932, q219_935, q219_938, q219_939, kl_int, kl_ref, kl_tok, cS_nil, cS_int, cS_ref, cS_long, tl_some, tl_none, List.cons_append, List.nil_append, nI_add, nI_ltb, nI_leb, nI_eqb, nI_cl, zin_nI, hx, hx1, g1, g2, zk0_inl]
theorem s_15 {v5 v6 : Value} (hi : i + 6 ≤ L) (hL : L ≤ 3072) (h : LI xs L M R k) : LoS d xs L i M R k 940 v5 v6 := by
  obtain ⟨G, j, hC, hM, hW, hx, hl, h6, h7⟩ := h
  have hS := hC.1.1
  obtain ⟨c, v', M1, R1, M2, hc, g1, g2, g3, g4, hx1, hl1, hS1, hLI⟩ := wp (d := d) (w := 211) (by decide) (pr_line (d := d) hW hC (xs (i + 1))) (fun c e v G' h ha => w_211 hS h ha) hC hM hx hl h6 h7
  have nN := hS.1
  have nN1 := hS1.1
  have eN : zN R1 = zN R := by rw [nN, nN1]
  have k0 := K0 hS
  have ks := hS.2.2.2.1
  have ks1 := hS1.2.2.2.1
  have k127 := K127 hS1
  have k146 := K146 hS1
  have l146 := L146 hS1
  have g1' : cal (d + 29) 211 [.ref 0, .int (xs (i + 1)), .ref 146] M R = some (.inl (some (.int (nI c))), M1, R1) := g1
  have gt := thrown_ (d := d + 29) (M := M2) hS1
  rw [g3] at gt
  refine ⟨M2, R1, .int (nI c), .int v', ?_, hLI⟩
  by_cases z : c = 0
  · have gj := g4 z
    subst z
    simp (disch := first | assumption | exact nar_b0 | exact nar_b1 | exact nar_b | exact Or.inl rfl | exact Or.inr rfl | exact zin_t (by omega) (by omega) | exact Nat.le_of_ble_eq_true rfl | (rw [nI_cl (by omega)]; assumption) | omega) only [↓reduceIte, reduceCtorEq, not_true_eq_false, not_false_eq_true, q219_940, q219_941, q219_942, q219_944, q219_945, q219_946, q219_947, q219_948, q219_951, q219_953, q219_954, q219_955, q219_957, q219_958, q219_959, q219_960, q219_963, q219_965, q219_966, q219_969, q219_971, q219_974, q219_975, q219_976, q219_978, q219_981, q219_982, q219_983, q219_984, q219_986, q219_987, q219_988, q219_991, q219_992, q219_993, kl_int, kl_ref, kl_tok, cS_nil, cS_int, cS_ref, cS_long, tl_some, tl_none, List.cons_append, List.nil_append, nI_add, nI_ltb, nI_leb, nI_eqb, nI_cl, zin_nI, hx, hx1, g1', g2, gt, zk0_inl, gj, lg_self]
  · simp (disch := first | assumption | exact nar_b0 | exact nar_b1 | exact nar_b | exact Or.inl rfl | exact Or.inr rfl | exact zin_t (by omega) (by omega) | exact Nat.le_of_ble_eq_true rfl | (rw [nI_cl (by omega)]; assumption) | omega) only [↓reduceIte, reduceCtorEq, not_true_eq_false, not_false_eq_true, q219_940, q219_941, q219_942, q219_944, q219_945, q219_946, q219_947, q219_948, q219_951, q219_953, q219_954, q219_955, q219_957, q219_958, q219_959, q219_960, q219_963, q219_965, q219_966, q219_969, q219_971, q219_974, q219_975, q219_976, q219_978, q219_981, q219_982, q219_983, q219_984, q219_986, q219_987, q219_988, q219_991, q219_992, q219_993, kl_int, kl_ref, kl_tok, cS_nil, cS_int, cS_ref, cS_long, tl_some, tl_none, List.cons_append, List.nil_append, nI_add, nI_ltb, nI_leb, nI_eqb, nI_cl, zin_nI, hx, hx1, g1', g2, gt, zk0_inl, z]
theorem s_16 {v5 v6 : Value} (hi : i + 6 ≤ L) (hL : L ≤ 3072) (h : LI xs L M R k) : LoS d xs L i M R k 996 v5 v6 := by
  obtain ⟨G, j, hC, hM, hW, hx, hl, h6, h7⟩ := h
  have hS := hC.1.1
  obtain ⟨c, v', M1, R1, M2, hc, g1, g2, g3, g4, hx1, hl1, hS1, hLI⟩ := wp (d := d) (w := 212) (by decide) (pr_cost (d := d) hW hC (xs (i + 1))) (fun c e v G' h ha => w_212 hS h ha) hC hM hx hl h6 h7
  have nN := hS.1
  have nN1 := hS1.1
  have eN : zN R1 = zN R := by rw [nN, nN1]
  have k0 := K0 hS
  have ks := hS.2.2.2.1
  have ks1 := hS1.2.2.2.1
  have k127 := K127 hS1
  have k146 := K146 hS1
  have l146 := L146 hS1
  have g1' : cal (d + 29) 212 [.ref 0, .int (xs (i + 1)), .ref 146] M R = some (.inl (some (.int (nI c))), M1, R1) := g1
  have gt := thrown_ (d := d + 29) (M := M2) hS1
  rw [g3] at gt
  refine ⟨M2, R1, .int (nI c), .int v', ?_, hLI⟩
  by_cases z : c = 0
  · have gj := g4 z
    subst z
    simp (disch := first | assumption | exact nar_b0 | exact nar_b1 | exact nar_b | exact Or.inl rfl | exact Or.inr rfl | exact zin_t (by omega) (by omega) | exact Nat.le_of_ble_eq_true rfl | (rw [nI_cl (by omega)]; assumption) | omega) only [↓reduceIte, reduceCtorEq, not_true_eq_false, not_false_eq_true, q219_996, q219_997, q219_998, q219_1000, q219_1001, q219_1002, q219_1003, q219_1004, q219_1007, q219_1009, q219_1010, q219_1011, q219_1013, q219_1014, q219_1015, q219_1016, q219_1019, q219_1021, q219_1022, q219_1025, q219_1027, q219_1030, q219_1031, q219_1032, q219_1034, q219_1037, q219_1038, q219_1039, q219_1040, q219_1042, q219_1043, q219_1044, q219_1047, q219_1048, q219_1049, kl_int, kl_ref, kl_tok, cS_nil, cS_int, cS_ref, cS_long, tl_some, tl_none, List.cons_append, List.nil_append, nI_add, nI_ltb, nI_leb, nI_eqb, nI_cl, zin_nI, hx, hx1, g1', g2, gt, zk0_inl, gj, lg_self]
  · simp (disch := first | assumption | exact nar_b0 | exact nar_b1 | exact nar_b | exact Or.inl rfl | exact Or.inr rfl | exact zin_t (by omega) (by omega) | exact Nat.le_of_ble_eq_true rfl | (rw [nI_cl (by omega)]; assumption) | omega) only [↓reduceIte, reduceCtorEq, not_true_eq_false, not_false_eq_true, q219_996, q219_997, q219_998, q219_1000, q219_1001, q219_1002, q219_1003, q219_1004, q219_1007, q219_1009, q219_1010, q219_1011, q219_1013, q219_1014, q219_1015, q219_1016, q219_1019, q219_1021, q219_1022, q219_1025, q219_1027, q219_1030, q219_1031, q219_1032, q219_1034, q219_1037, q219_1038, q219_1039, q219_1040, q219_1042, q219_1043, q219_1044, q219_1047, q219_1048, q219_1049, kl_int, kl_ref, kl_tok, cS_nil, cS_int, cS_ref, cS_long, tl_some, tl_none, List.cons_append, List.nil_append, nI_add, nI_ltb, nI_leb, nI_eqb, nI_cl, zin_nI, hx, hx1, g1', g2, gt, zk0_inl, z]
theorem s_17 {v5 v6 : Value} (hi : i + 6 ≤ L) (hL : L ≤ 3072) (h : LI xs L M R k) : LoS d xs L i M R k 1052 v5 v6 := by
  obtain ⟨G, j, hC, hM, hW, hx, hl, h6, h7⟩ := h
  have hS := hC.1.1
  obtain ⟨v, M1, R1, M2, g1, g2, hx1, hl1, hS1, hLI⟩ := wq (d := d) (pr_states (d := d) hW hC ) hC hM hx hl h6 h7
  have nN := hS.1
  have nN1 := hS1.1
  have eN : zN R1 = zN R := by rw [nN, nN1]
  have k0 := K0 hS
  have ks := hS.2.2.2.1
  have ks1 := hS1.2.2.2.1
  have k127 := K127 hS1
  have k146 := K146 hS1
  have l146 := L146 hS1
  refine ⟨M2, R1, v5, v6, ?_, hLI⟩
  simp (disch := first | assumption | exact nar_b0 | exact nar_b1 | exact nar_b | exact Or.inl rfl | exact Or.inr rfl | exact zin_t (by omega) (by omega) | exact Nat.le_of_ble_eq_true rfl | (rw [nI_cl (by omega)]; assumption) | omega) only [↓reduceIte, reduceCtorEq, not_true_eq_false, not_false_eq_true, q219_1052, q219_1053, q219_1056, q219_1057, q219_1060, q219_1063, q219_1064, kl_int, kl_ref, kl_tok, cS_nil, cS_int, cS_ref, cS_long, tl_some, tl_none, List.cons_append, List.nil_append, nI_add, nI_ltb, nI_leb, nI_eqb, nI_cl, zin_nI, hx, hx1, g1, g2, zk0_inl]
theorem s_18 {v5 v6 : Value} (hi : i + 6 ≤ L) (hL : L ≤ 3072) (h : LI xs L M R k) : LoS d xs L i M R k 1065 v5 v6 := by
  obtain ⟨G, j, hC, hM, hW, hx, hl, h6, h7⟩ := h
  have hS := hC.1.1
  by_cases hb : xs (i + 2) = nI 0
  · obtain ⟨c, v', M1, R1, M2, hc, g1, g2, g3, g4, hx1, hl1, hS1, hLI⟩ := wp (d := d) (w := 213) (by decide) (pr_more (d := d) hW hC (xs (i + 1)) false) (fun c e v G' h ha => w_213 hS h ha) hC hM hx hl h6 h7
    have nN := hS.1
    have nN1 := hS1.1
    have eN : zN R1 = zN R := by rw [nN, nN1]
    have k0 := K0 hS
    have ks := hS.2.2.2.1
    have ks1 := hS1.2.2.2.1
    have k127 := K127 hS1
    have k146 := K146 hS1
    have l146 := L146 hS1
    have g1' : cal (d + 29) 213 [.ref 0, .int (xs (i + 1)), .int (nI 0), .ref 146] M R = some (.inl (some (.int (nI c))), M1, R1) := g1
    have g2' : cal (d + 29) 177 [.ref 127, .int (xs (i + 1)), .int (nI 0)] M1 R1 = some (.inl (some (.int v')), M2, R1) := g2
    have gt := thrown_ (d := d + 29) (M := M2) hS1
    rw [g3] at gt
    refine ⟨M2, R1, .int (nI c), .int v', ?_, hLI⟩
    by_cases z : c = 0
    · have gj := g4 z
      subst z
      simp (disch := first | assumption | exact nar_b0 | exact nar_b1 | exact nar_b | exact Or.inl rfl | exact Or.inr rfl | exact zin_t (by omega) (by omega) | exact Nat.le_of_ble_eq_true rfl | (rw [nI_cl (by omega)]; assumption) | omega) only [↓reduceIte, reduceCtorEq, not_true_eq_false, not_false_eq_true, q219_1065, q219_1066, q219_1067, q219_1069, q219_1070, q219_1071, q219_1072, q219_1073, q219_1075, q219_1076, q219_1077, q219_1078, q219_1081, q219_1082, q219_1085, q219_1086, q219_1087, q219_1090, q219_1092, q219_1093, q219_1094, q219_1096, q219_1097, q219_1098, q219_1099, q219_1100, q219_1102, q219_1103, q219_1104, q219_1105, q219_1108, q219_1109, q219_1112, q219_1113, q219_1116, q219_1118, q219_1119, q219_1122, q219_1124, q219_1127, q219_1128, q219_1129, q219_1131, q219_1134, q219_1135, q219_1136, q219_1137, q219_1139, q219_1140, q219_1141, q219_1144, q219_1145, q219_1146, kl_int, kl_ref, kl_tok, cS_nil, cS_int, cS_ref, cS_long, tl_some, tl_none, List.cons_append, List.nil_append, nI_add, nI_ltb, nI_leb, nI_eqb, nI_cl, zin_nI, hx, hx1, hb, g1', g2', gt, zk0_inl, gj, lg_self]
    · simp (disch := first | assumption | exact nar_b0 | exact nar_b1 | exact nar_b | exact Or.inl rfl | exact Or.inr rfl | exact zin_t (by omega) (by omega) | exact Nat.le_of_ble_eq_true rfl | (rw [nI_cl (by omega)]; assumption) | omega) only [↓reduceIte, reduceCtorEq, not_true_eq_false, not_false_eq_true, q219_1065, q219_1066, q219_1067, q219_1069, q219_1070, q219_1071, q219_1072, q219_1073, q219_1075, q219_1076, q219_1077, q219_1078, q219_1081, q219_1082, q219_1085, q219_1086, q219_1087, q219_1090, q219_1092, q219_1093, q219_1094, q219_1096, q219_1097, q219_1098, q219_1099, q219_1100, q219_1102, q219_1103, q219_1104, q219_1105, q219_1108, q219_1109, q219_1112, q219_1113, q219_1116, q219_1118, q219_1119, q219_1122, q219_1124, q219_1127, q219_1128, q219_1129, q219_1131, q219_1134, q219_1135, q219_1136, q219_1137, q219_1139, q219_1140, q219_1141, q219_1144, q219_1145, q219_1146, kl_int, kl_ref, kl_tok, cS_nil, cS_int, cS_ref, cS_long, tl_some, tl_none, List.cons_append, List.nil_append, nI_add, nI_ltb, nI_leb, nI_eqb, nI_cl, zin_nI, hx, hx1, hb, g1', g2', gt, zk0_inl, z]
  · obtain ⟨c, v', M1, R1, M2, hc, g1, g2, g3, g4, hx1, hl1, hS1, hLI⟩ := wp (d := d) (w := 213) (by decide) (pr_more (d := d) hW hC (xs (i + 1)) true) (fun c e v G' h ha => w_213 hS h ha) hC hM hx hl h6 h7
    have nN := hS.1
    have nN1 := hS1.1
    have eN : zN R1 = zN R := by rw [nN, nN1]
    have k0 := K0 hS
    have ks := hS.2.2.2.1
    have ks1 := hS1.2.2.2.1
    have k127 := K127 hS1
    have k146 := K146 hS1
    have l146 := L146 hS1
    have g1' : cal (d + 29) 213 [.ref 0, .int (xs (i + 1)), .int (nI 1), .ref 146] M R = some (.inl (some (.int (nI c))), M1, R1) := g1
    have g2' : cal (d + 29) 177 [.ref 127, .int (xs (i + 1)), .int (nI 1)] M1 R1 = some (.inl (some (.int v')), M2, R1) := g2
    have gt := thrown_ (d := d + 29) (M := M2) hS1
    rw [g3] at gt
    refine ⟨M2, R1, .int (nI c), .int v', ?_, hLI⟩
    by_cases z : c = 0
    · have gj := g4 z
      subst z
      simp (disch := first | assumption | exact nar_b0 | exact nar_b1 | exact nar_b | exact Or.inl rfl | exact Or.inr rfl | exact zin_t (by omega) (by omega) | exact Nat.le_of_ble_eq_true rfl | (rw [nI_cl (by omega)]; assumption) | omega) only [↓reduceIte, reduceCtorEq, not_true_eq_false, not_false_eq_true, q219_1065, q219_1066, q219_1067, q219_1069, q219_1070, q219_1071, q219_1072, q219_1073, q219_1075, q219_1076, q219_1077, q219_1078, q219_1081, q219_1082, q219_1085, q219_1086, q219_1087, q219_1090, q219_1092, q219_1093, q219_1094, q219_1096, q219_1097, q219_1098, q219_1099, q219_1100, q219_1102, q219_1103, q219_1104, q219_1105, q219_1108, q219_1109, q219_1112, q219_1113, q219_1116, q219_1118, q219_1119, q219_1122, q219_1124, q219_1127, q219_1128, q219_1129, q219_1131, q219_1134, q219_1135, q219_1136, q219_1137, q219_1139, q219_1140, q219_1141, q219_1144, q219_1145, q219_1146, kl_int, kl_ref, kl_tok, cS_nil, cS_int, cS_ref, cS_long, tl_some, tl_none, List.cons_append, List.nil_append, nI_add, nI_ltb, nI_leb, nI_eqb, nI_cl, zin_nI, hx, hx1, hb, g1', g2', gt, zk0_inl, gj, lg_self]
    · simp (disch := first | assumption | exact nar_b0 | exact nar_b1 | exact nar_b | exact Or.inl rfl | exact Or.inr rfl | exact zin_t (by omega) (by omega) | exact Nat.le_of_ble_eq_true rfl | (rw [nI_cl (by omega)]; assumption) | omega) only [↓reduceIte, reduceCtorEq, not_true_eq_false, not_false_eq_true, q219_1065, q219_1066, q219_1067, q219_1069, q219_1070, q219_1071, q219_1072, q219_1073, q219_1075, q219_1076, q219_1077, q219_1078, q219_1081, q219_1082, q219_1085, q219_1086, q219_1087, q219_1090, q219_1092, q219_1093, q219_1094, q219_1096, q219_1097, q219_1098, q219_1099, q219_1100, q219_1102, q219_1103, q219_1104, q219_1105, q219_1108, q219_1109, q219_1112, q219_1113, q219_1116, q219_1118, q219_1119, q219_1122, q219_1124, q219_1127, q219_1128, q219_1129, q219_1131, q219_1134, q219_1135, q219_1136, q219_1137, q219_1139, q219_1140, q219_1141, q219_1144, q219_1145, q219_1146, kl_int, kl_ref, kl_tok, cS_nil, cS_int, cS_ref, cS_long, tl_some, tl_none, List.cons_append, List.nil_append, nI_add, nI_ltb, nI_leb, nI_eqb, nI_cl, zin_nI, hx, hx1, hb, g1', g2', gt, zk0_inl, z]
theorem s_19 {v5 v6 : Value} (hi : i + 6 ≤ L) (hL : L ≤ 3072) (h : LI xs L M R k) : LoS d xs L i M R k 1149 v5 v6 := by
  obtain ⟨G, j, hC, hM, hW, hx, hl, h6, h7⟩ := h
  have hS := hC.1.1
  obtain ⟨c, v', M1, R1, M2, hc, g1, g2, g3, g4, hx1, hl1, hS1, hLI⟩ := wp (d := d) (w := 214) (by decide) (pr_other (d := d) hW hC (xs (i + 1)) (xs (i + 2))) (fun c e v G' h ha => w_214 hS h ha) hC hM hx hl h6 h7
  have nN := hS.1
  have nN1 := hS1.1
  have eN : zN R1 = zN R := by rw [nN, nN1]
  have k0 := K0 hS
  have ks := hS.2.2.2.1
  have ks1 := hS1.2.2.2.1
  have k127 := K127 hS1
  have k146 := K146 hS1
  have l146 := L146 hS1
  have g1' : cal (d + 29) 214 [.ref 0, .int (xs (i + 1)), .int (xs (i + 2)), .ref 146] M R = some (.inl (some (.int (nI c))), M1, R1) := g1
  have gt := thrown_ (d := d + 29) (M := M2) hS1
  rw [g3] at gt
  refine ⟨M2, R1, .int (nI c), .int v', ?_, hLI⟩
  by_cases z : c = 0
  · have gj := g4 z
    subst z
    simp (disch := first | assumption | exact nar_b0 | exact nar_b1 | exact nar_b | exact Or.inl rfl | exact Or.inr rfl | exact zin_t (by omega) (by omega) | exact Nat.le_of_ble_eq_true rfl | (rw [nI_cl (by omega)]; assumption) | omega) only [↓reduceIte, reduceCtorEq, not_true_eq_false, not_false_eq_true, q219_1149, q219_1150, q219_1151, q219_1153, q219_1154, q219_1155, q219_1156, q219_1157, q219_1159, q219_1160, q219_1161, q219_1162, q219_1163, q219_1166, q219_1168, q219_1169, q219_1170, q219_1172, q219_1173, q219_1174, q219_1175, q219_1176, q219_1178, q219_1179, q219_1180, q219_1181, q219_1184, q219_1186, q219_1187, q219_1190, q219_1192, q219_1195, q219_1196, q219_1197, q219_1199, q219_1202, q219_1203, q219_1204, q219_1205, q219_1207, q219_1208, q219_1209, q219_1212, q219_1213, q219_1214, kl_int, kl_ref, kl_tok, cS_nil, cS_int, cS_ref, cS_long, tl_some, tl_none, List.cons_append, List.nil_append, nI_add, nI_ltb, nI_leb, nI_eqb, nI_cl, zin_nI, hx, hx1, g1', g2, gt, zk0_inl, gj, lg_self]
  · simp (disch := first | assumption | exact nar_b0 | exact nar_b1 | exact nar_b | exact Or.inl rfl | exact Or.inr rfl | exact zin_t (by omega) (by omega) | exact Nat.le_of_ble_eq_true rfl | (rw [nI_cl (by omega)]; assumption) | omega) only [↓reduceIte, reduceCtorEq, not_true_eq_false, not_false_eq_true, q219_1149, q219_1150, q219_1151, q219_1153, q219_1154, q219_1155, q219_1156, q219_1157, q219_1159, q219_1160, q219_1161, q219_1162, q219_1163, q219_1166, q219_1168, q219_1169, q219_1170, q219_1172, q219_1173, q219_1174, q219_1175, q219_1176, q219_1178, q219_1179, q219_1180, q219_1181, q219_1184, q219_1186, q219_1187, q219_1190, q219_1192, q219_1195, q219_1196, q219_1197, q219_1199, q219_1202, q219_1203, q219_1204, q219_1205, q219_1207, q219_1208, q219_1209, q219_1212, q219_1213, q219_1214, kl_int, kl_ref, kl_tok, cS_nil, cS_int, cS_ref, cS_long, tl_some, tl_none, List.cons_append, List.nil_append, nI_add, nI_ltb, nI_leb, nI_eqb, nI_cl, zin_nI, hx, hx1, g1', g2, gt, zk0_inl, z]
theorem s_20 {v5 v6 : Value} (hi : i + 6 ≤ L) (hL : L ≤ 3072) (h : LI xs L M R k) : LoS d xs L i M R k 1217 v5 v6 := by
  obtain ⟨G, j, hC, hM, hW, hx, hl, h6, h7⟩ := h
  have hS := hC.1.1
  obtain ⟨c, v', M1, R1, M2, hc, g1, g2, g3, g4, hx1, hl1, hS1, hLI⟩ := wp (d := d) (w := 215) (by decide) (pr_wo (d := d) hW hC (xs (i + 1)) (xs (i + 2))) (fun c e v G' h ha => w_215 hS h ha) hC hM hx hl h6 h7
  have nN := hS.1
  have nN1 := hS1.1
  have eN : zN R1 = zN R := by rw [nN, nN1]
  have k0 := K0 hS
  have ks := hS.2.2.2.1
  have ks1 := hS1.2.2.2.1
  have k127 := K127 hS1
  have k146 := K146 hS1
  have l146 := L146 hS1
  have g1' : cal (d + 29) 215 [.ref 0, .int (xs (i + 1)), .int (xs (i + 2)), .ref 146] M R = some (.inl (some (.int (nI c))), M1, R1) := g1
  have gt := thrown_ (d := d + 29) (M := M2) hS1
  rw [g3] at gt
  refine ⟨M2, R1, .int (nI c), .int v', ?_, hLI⟩
  by_cases z : c = 0
  · have gj := g4 z
    subst z
    simp (disch := first | assumption | exact nar_b0 | exact nar_b1 | exact nar_b | exact Or.inl rfl | exact Or.inr rfl | exact zin_t (by omega) (by omega) | exact Nat.le_of_ble_eq_true rfl | (rw [nI_cl (by omega)]; assumption) | omega) only [↓reduceIte, reduceCtorEq, not_true_eq_false, not_false_eq_true, q219_1217, q219_1218, q219_1219, q219_1221, q219_1222, q219_1223, q219_1224, q219_1225, q219_1227, q219_1228, q219_1229, q219_1230, q219_1231, q219_1234, q219_1236, q219_1237, q219_1238, q219_1240, q219_1241, q219_1242, q219_1243, q219_1244, q219_1246, q219_1247, q219_1248, q219_1249, q219_1252, q219_1254, q219_1255, q219_1258, q219_1260, q219_1263, q219_1264, q219_1265, q219_1267, q219_1270, q219_1271, q219_1272, q219_1273, q219_1275, q219_1276, q219_1277, q219_1280, q219_1281, q219_1282, kl_int, kl_ref, kl_tok, cS_nil, cS_int, cS_ref, cS_long, tl_some, tl_none, List.cons_append, List.nil_append, nI_add, nI_ltb, nI_leb, nI_eqb, nI_cl, zin_nI, hx, hx1, g1', g2, gt, zk0_inl, gj, lg_self]
  · simp (disch := first | assumption | exact nar_b0 | exact nar_b1 | exact nar_b | exact Or.inl rfl | exact Or.inr rfl | exact zin_t (by omega) (by omega) | exact Nat.le_of_ble_eq_true rfl | (rw [nI_cl (by omega)]; assumption) | omega) only [↓reduceIte, reduceCtorEq, not_true_eq_false, not_false_eq_true, q219_1217, q219_1218, q219_1219, q219_1221, q219_1222, q219_1223, q219_1224, q219_1225, q219_1227, q219_1228, q219_1229, q219_1230, q219_1231, q219_1234, q219_1236, q219_1237, q219_1238, q219_1240, q219_1241, q219_1242, q219_1243, q219_1244, q219_1246, q219_1247, q219_1248, q219_1249, q219_1252, q219_1254, q219_1255, q219_1258, q219_1260, q219_1263, q219_1264, q219_1265, q219_1267, q219_1270, q219_1271, q219_1272, q219_1273, q219_1275, q219_1276, q219_1277, q219_1280, q219_1281, q219_1282, kl_int, kl_ref, kl_tok, cS_nil, cS_int, cS_ref, cS_long, tl_some, tl_none, List.cons_append, List.nil_append, nI_add, nI_ltb, nI_leb, nI_eqb, nI_cl, zin_nI, hx, hx1, g1', g2, gt, zk0_inl, z]
theorem s_21 {v5 v6 : Value} (hi : i + 6 ≤ L) (hL : L ≤ 3072) (h : LI xs L M R k) : LoS d xs L i M R k 1285 v5 v6 := by
  obtain ⟨G, j, hC, hM, hW, hx, hl, h6, h7⟩ := h
  have hS := hC.1.1
  obtain ⟨c, v', M1, R1, M2, hc, g1, g2, g3, g4, hx1, hl1, hS1, hLI⟩ := wp (d := d) (w := 216) (by decide) (pr_plain (d := d) hW hC (xs (i + 1)) (xs (i + 2))) (fun c e v G' h ha => w_216 hS h ha) hC hM hx hl h6 h7
  have nN := hS.1
  have nN1 := hS1.1
  have eN : zN R1 = zN R := by rw [nN, nN1]
  have k0 := K0 hS
  have ks := hS.2.2.2.1
  have ks1 := hS1.2.2.2.1
  have k127 := K127 hS1
  have k146 := K146 hS1
  have l146 := L146 hS1
  have g1' : cal (d + 29) 216 [.ref 0, .int (xs (i + 1)), .int (xs (i + 2)), .ref 146] M R = some (.inl (some (.int (nI c))), M1, R1) := g1
  have gt := thrown_ (d := d + 29) (M := M2) hS1
  rw [g3] at gt
  refine ⟨M2, R1, .int (nI c), .int v', ?_, hLI⟩
  by_cases z : c = 0
  · have gj := g4 z
    subst z
    simp (disch := first | assumption | exact nar_b0 | exact nar_b1 | exact nar_b | exact Or.inl rfl | exact Or.inr rfl | exact zin_t (by omega) (by omega) | exact Nat.le_of_ble_eq_true rfl | (rw [nI_cl (by omega)]; assumption) | omega) only [↓reduceIte, reduceCtorEq, not_true_eq_false, not_false_eq_true, q219_1285, q219_1286, q219_1287, q219_1289, q219_1290, q219_1291, q219_1292, q219_1293, q219_1295, q219_1296, q219_1297, q219_1298, q219_1299, q219_1302, q219_1304, q219_1305, q219_1306, q219_1308, q219_1309, q219_1310, q219_1311, q219_1312, q219_1314, q219_1315, q219_1316, q219_1317, q219_1320, q219_1322, q219_1323, q219_1326, q219_1328, q219_1331, q219_1332, q219_1333, q219_1335, q219_1338, q219_1339, q219_1340, q219_1341, q219_1343, q219_1344, q219_1345, q219_1348, q219_1349, q219_1350, kl_int, kl_ref, kl_tok, cS_nil, cS_int, cS_ref, cS_long, tl_some, tl_none, List.cons_append, List.nil_append, nI_add, nI_ltb, nI_leb, nI_eqb, nI_cl, zin_nI, hx, hx1, g1', g2, gt, zk0_inl, gj, lg_self]
  · simp (disch := first | assumption | exact nar_b0 | exact nar_b1 | exact nar_b | exact Or.inl rfl | exact Or.inr rfl | exact zin_t (by omega) (by omega) | exact Nat.le_of_ble_eq_true rfl | (rw [nI_cl (by omega)]; assumption) | omega) only [↓reduceIte, reduceCtorEq, not_true_eq_false, not_false_eq_true, q219_1285, q219_1286, q219_1287, q219_1289, q219_1290, q219_1291, q219_1292, q219_1293, q219_1295, q219_1296, q219_1297, q219_1298, q219_1299, q219_1302, q219_1304, q219_1305, q219_1306, q219_1308, q219_1309, q219_1310, q219_1311, q219_1312, q219_1314, q219_1315, q219_1316, q219_1317, q219_1320, q219_1322, q219_1323, q219_1326, q219_1328, q219_1331, q219_1332, q219_1333, q219_1335, q219_1338, q219_1339, q219_1340, q219_1341, q219_1343, q219_1344, q219_1345, q219_1348, q219_1349, q219_1350, kl_int, kl_ref, kl_tok, cS_nil, cS_int, cS_ref, cS_long, tl_some, tl_none, List.cons_append, List.nil_append, nI_add, nI_ltb, nI_leb, nI_eqb, nI_cl, zin_nI, hx, hx1, g1', g2, gt, zk0_inl, z]
theorem s_22 {v5 v6 : Value} (hi : i + 6 ≤ L) (hL : L ≤ 3072) (h : LI xs L M R k) : LoS d xs L i M R k 1353 v5 v6 := by
  obtain ⟨G, j, hC, hM, hW, hx, hl, h6, h7⟩ := h
  have hS := hC.1.1
  obtain ⟨c, v', M1, R1, M2, hc, g1, g2, g3, g4, hx1, hl1, hS1, hLI⟩ := wp (d := d) (w := 217) (by decide) (pr_once (d := d) hW hC (xs (i + 1))) (fun c e v G' h ha => w_217 hS h ha) hC hM hx hl h6 h7
  have nN := hS.1
  have nN1 := hS1.1
  have eN : zN R1 = zN R := by rw [nN, nN1]
  have k0 := K0 hS
  have ks := hS.2.2.2.1
  have ks1 := hS1.2.2.2.1
  have k127 := K127 hS1
  have k146 := K146 hS1
  have l146 := L146 hS1
  have g1' : cal (d + 29) 217 [.ref 0, .int (xs (i + 1)), .ref 146] M R = some (.inl (some (.int (nI c))), M1, R1) := g1
  have gt := thrown_ (d := d + 29) (M := M2) hS1
  rw [g3] at gt
  refine ⟨M2, R1, .int (nI c), .int v', ?_, hLI⟩
  by_cases z : c = 0
  · have gj := g4 z
    subst z
    simp (disch := first | assumption | exact nar_b0 | exact nar_b1 | exact nar_b | exact Or.inl rfl | exact Or.inr rfl | exact zin_t (by omega) (by omega) | exact Nat.le_of_ble_eq_true rfl | (rw [nI_cl (by omega)]; assumption) | omega) only [↓reduceIte, reduceCtorEq, not_true_eq_false, not_false_eq_true, q219_1353, q219_1354, q219_1355, q219_1357, q219_1358, q219_1359, q219_1360, q219_1361, q219_1364, q219_1366, q219_1367, q219_1368, q219_1370, q219_1371, q219_1372, q219_1373, q219_1376, q219_1378, q219_1379, q219_1382, q219_1384, q219_1387, q219_1388, q219_1389, q219_1391, q219_1394, q219_1395, q219_1396, q219_1397, q219_1399, q219_1400, q219_1401, q219_1404, q219_1405, q219_1406, kl_int, kl_ref, kl_tok, cS_nil, cS_int, cS_ref, cS_long, tl_some, tl_none, List.cons_append, List.nil_append, nI_add, nI_ltb, nI_leb, nI_eqb, nI_cl, zin_nI, hx, hx1, g1', g2, gt, zk0_inl, gj, lg_self]
  · simp (disch := first | assumption | exact nar_b0 | exact nar_b1 | exact nar_b | exact Or.inl rfl | exact Or.inr rfl | exact zin_t (by omega) (by omega) | exact Nat.le_of_ble_eq_true rfl | (rw [nI_cl (by omega)]; assumption) | omega) only [↓reduceIte, reduceCtorEq, not_true_eq_false, not_false_eq_true, q219_1353, q219_1354, q219_1355, q219_1357, q219_1358, q219_1359, q219_1360, q219_1361, q219_1364, q219_1366, q219_1367, q219_1368, q219_1370, q219_1371, q219_1372, q219_1373, q219_1376, q219_1378, q219_1379, q219_1382, q219_1384, q219_1387, q219_1388, q219_1389, q219_1391, q219_1394, q219_1395, q219_1396, q219_1397, q219_1399, q219_1400, q219_1401, q219_1404, q219_1405, q219_1406, kl_int, kl_ref, kl_tok, cS_nil, cS_int, cS_ref, cS_long, tl_some, tl_none, List.cons_append, List.nil_append, nI_add, nI_ltb, nI_leb, nI_eqb, nI_cl, zin_nI, hx, hx1, g1', g2, gt, zk0_inl, z]
theorem s_23 {v5 v6 : Value} (hi : i + 6 ≤ L) (hL : L ≤ 3072) (h : LI xs L M R k) : LoS d xs L i M R k 1409 v5 v6 := by
  obtain ⟨G, j, hC, hM, hW, hx, hl, h6, h7⟩ := h
  have hS := hC.1.1
  obtain ⟨c, v', M1, R1, M2, hc, g1, g2, g3, g4, hx1, hl1, hS1, hLI⟩ := wp (d := d) (w := 218) (by decide) (pr_count (d := d) hW hC (xs (i + 1)) (xs (i + 2))) (fun c e v G' h ha => w_218 hS h ha) hC hM hx hl h6 h7
  have nN := hS.1
  have nN1 := hS1.1
  have eN : zN R1 = zN R := by rw [nN, nN1]
  have k0 := K0 hS
  have ks := hS.2.2.2.1
  have ks1 := hS1.2.2.2.1
  have k127 := K127 hS1
  have k146 := K146 hS1
  have l146 := L146 hS1
  have g1' : cal (d + 29) 218 [.ref 0, .int (xs (i + 1)), .int (xs (i + 2)), .ref 146] M R = some (.inl (some (.int (nI c))), M1, R1) := g1
  have gt := thrown_ (d := d + 29) (M := M2) hS1
  rw [g3] at gt
  refine ⟨M2, R1, .int (nI c), .int v', ?_, hLI⟩
  by_cases z : c = 0
  · have gj := g4 z
    subst z
    simp (disch := first | assumption | exact nar_b0 | exact nar_b1 | exact nar_b | exact Or.inl rfl | exact Or.inr rfl | exact zin_t (by omega) (by omega) | exact Nat.le_of_ble_eq_true rfl | (rw [nI_cl (by omega)]; assumption) | omega) only [↓reduceIte, reduceCtorEq, not_true_eq_false, not_false_eq_true, q219_1409, q219_1410, q219_1411, q219_1413, q219_1414, q219_1415, q219_1416, q219_1417, q219_1419, q219_1420, q219_1421, q219_1422, q219_1423, q219_1426, q219_1428, q219_1429, q219_1430, q219_1432, q219_1433, q219_1434, q219_1435, q219_1436, q219_1438, q219_1439, q219_1440, q219_1441, q219_1444, q219_1446, q219_1447, q219_1450, q219_1452, q219_1455, q219_1456, q219_1457, q219_1459, q219_1462, q219_1463, q219_1464, q219_1465, q219_1467, q219_1468, q219_1469, q219_1472, q219_1473, q219_1474, kl_int, kl_ref, kl_tok, cS_nil, cS_int, cS_ref, cS_long, tl_some, tl_none, List.cons_append, List.nil_append, nI_add, nI_ltb, nI_leb, nI_eqb, nI_cl, zin_nI, hx, hx1, g1', g2, gt, zk0_inl, gj, lg_self]
  · simp (disch := first | assumption | exact nar_b0 | exact nar_b1 | exact nar_b | exact Or.inl rfl | exact Or.inr rfl | exact zin_t (by omega) (by omega) | exact Nat.le_of_ble_eq_true rfl | (rw [nI_cl (by omega)]; assumption) | omega) only [↓reduceIte, reduceCtorEq, not_true_eq_false, not_false_eq_true, q219_1409, q219_1410, q219_1411, q219_1413, q219_1414, q219_1415, q219_1416, q219_1417, q219_1419, q219_1420, q219_1421, q219_1422, q219_1423, q219_1426, q219_1428, q219_1429, q219_1430, q219_1432, q219_1433, q219_1434, q219_1435, q219_1436, q219_1438, q219_1439, q219_1440, q219_1441, q219_1444, q219_1446, q219_1447, q219_1450, q219_1452, q219_1455, q219_1456, q219_1457, q219_1459, q219_1462, q219_1463, q219_1464, q219_1465, q219_1467, q219_1468, q219_1469, q219_1472, q219_1473, q219_1474, kl_int, kl_ref, kl_tok, cS_nil, cS_int, cS_ref, cS_long, tl_some, tl_none, List.cons_append, List.nil_append, nI_add, nI_ltb, nI_leb, nI_eqb, nI_cl, zin_nI, hx, hx1, g1', g2, gt, zk0_inl, z]
theorem s_24 {v5 v6 : Value} (hi : i + 6 ≤ L) (hL : L ≤ 3072) (h : LI xs L M R k) : LoS d xs L i M R k 1477 v5 v6 := by
  obtain ⟨G, j, hC, hM, hW, hx, hl, h6, h7⟩ := h
  have hS := hC.1.1
  have g1 := c_print (d := d + 29) hW hC
  obtain ⟨M2, g2, e3, e5⟩ := m_print (d := d + 29) hS hW hM
  have nN := hS.1
  have k0 := K0 hS
  have k127 := K127 hS
  refine ⟨M2, R, v5, v6, ?_, G, j, hC.frM e5, e3, hW, by rw [e5 _ (Or.inr (by decide))]; exact hx, hl, by omega, by omega⟩
  simp (disch := first | assumption | exact nar_b0 | exact nar_b1 | exact nar_b | exact Or.inl rfl | exact Or.inr rfl | exact zin_t (by omega) (by omega) | exact Nat.le_of_ble_eq_true rfl | (rw [nI_cl (by omega)]; assumption) | omega) only [↓reduceIte, reduceCtorEq, not_true_eq_false, not_false_eq_true, q219_1477, q219_1478, q219_1481, q219_1482, q219_1485, q219_1486, q219_1489, q219_1490, kl_int, kl_ref, kl_tok, cS_nil, cS_int, cS_ref, cS_long, tl_some, tl_none, List.cons_append, List.nil_append, nI_add, nI_ltb, nI_leb, nI_eqb, nI_cl, zin_nI, g1, g2, zk0_inl, lg_self]
theorem s_25 {v5 v6 : Value} (hi : i + 6 ≤ L) (hL : L ≤ 3072) (h : LI xs L M R k) : LoS d xs L i M R k 1491 v5 v6 := by
  obtain ⟨G, j, hC, hM, hW, hx, hl, h6, h7⟩ := h
  have hS := hC.1.1
  obtain ⟨v, M1, R1, M2, g1, g2, hx1, hl1, hS1, hLI⟩ := wq (d := d) (pr_status (d := d) hW hC (xs (i + 1))) hC hM hx hl h6 h7
  have nN := hS.1
  have nN1 := hS1.1
  have eN : zN R1 = zN R := by rw [nN, nN1]
  have k0 := K0 hS
  have ks := hS.2.2.2.1
  have ks1 := hS1.2.2.2.1
  have k127 := K127 hS1
  have k146 := K146 hS1
  have l146 := L146 hS1
  refine ⟨M2, R1, v5, v6, ?_, hLI⟩
  simp (disch := first | assumption | exact nar_b0 | exact nar_b1 | exact nar_b | exact Or.inl rfl | exact Or.inr rfl | exact zin_t (by omega) (by omega) | exact Nat.le_of_ble_eq_true rfl | (rw [nI_cl (by omega)]; assumption) | omega) only [↓reduceIte, reduceCtorEq, not_true_eq_false, not_false_eq_true, q219_1491, q219_1492, q219_1493, q219_1495, q219_1496, q219_1497, q219_1498, q219_1501, q219_1502, q219_1503, q219_1505, q219_1506, q219_1507, q219_1508, q219_1511, q219_1514, q219_1515, kl_int, kl_ref, kl_tok, cS_nil, cS_int, cS_ref, cS_long, tl_some, tl_none, List.cons_append, List.nil_append, nI_add, nI_ltb, nI_leb, nI_eqb, nI_cl, zin_nI, hx, hx1, g1, g2, zk0_inl]
end Lw
