-- the law's wrappers
theorem zkh_inl {mi : Nat} {v : Option Value} {M' : ZM} {R' : ZH} {N : Nat} {lv : List Value} {k : Option Value → ZM → ZH → Option ZO} {kx : Nat → List Value → ZM → ZH → Option ZO} (h : zN R' = N) : zkh mi (some (.inl v, M', R')) N lv k kx = k v M' R' := if_pos h
theorem zkh_inr {mi p i : Nat} {E : String} {M' : ZM} {R' : ZH} {N : Nat} {lv : List Value} {k : Option Value → ZM → ZH → Option ZO} {kx : Nat → List Value → ZM → ZH → Option ZO} (hz : zhn mi 0 E = some (p, i)) (h : zN R' = N) : zkh mi (some (.inr E, M', R')) N lv k kx = kx p ((stB lv i).set i tok) M' R' := by
  unfold zkh
  simp only [hz]
  exact if_pos h
def WrO (r : Option ZO) (M : ZM) (R : ZH) (c : Nat) (v : Int32) (G' : GS) : Prop := ∃ M' R' i', r = some (.inl (some (.int (nI c))), M', R') ∧ (c = 0 → zJ R' 146 0 = v.toInt64) ∧ CS M' R' i' G' ∧ FrC M M' ∧ RmR R R'
theorem zJ_sJ {R : ZH} {a k : Nat} {v : Int64} : zJ (sJ R a k v) a k = v := if_pos ⟨rfl, rfl⟩
section Wa
variable {d c e : Nat} {M : ZM} {R : ZH} {G : GS} {v x y : Int32}
theorem w_200 (hS : Sh R) (h : OutC (cal d 69 [.ref 0, .int x] M R) M R c e v G) (ha : c = 0 ∨ (e, c) ∈ ([(1, 1)] : List (Nat × Nat))) : WrO (cal (d + 1) 200 [.ref 0, .int x, .ref 146] M R) M R c v G := by
  obtain ⟨M', R', i', h1, h2, h3, h4⟩ := h
  have hS' := h2.1.1
  have nN := hS.1
  have nN' := hS'.1
  have eN : zN R' = zN R := by rw [nN, nN']
  have k0 := K0 hS
  have k146 := K146 hS'
  have l146 := L146 hS'
  rcases ha with rfl | ha
  · rw [if_pos rfl] at h1
    refine ⟨M', sJ R' 146 0 v.toInt64, i', ?_, fun _ => zJ_sJ, h2.sJ (by decide), h3, h4⟩
    rw [e200]
    simp (disch := first | assumption | exact nar_b0 | exact nar_b1 | exact nar_b | exact Or.inl rfl | exact Or.inr rfl | exact zin_t (by omega) (by omega) | exact Nat.le_of_ble_eq_true rfl | (rw [nI_cl (by omega)]; assumption) | omega) only [↓reduceIte, reduceCtorEq, not_true_eq_false, not_false_eq_true, q200_0, q200_1, q200_2, q200_3, q200_4, q200_7, q200_8, q200_9, q200_13, q200_14, q200_15, q200_16, kl_int, kl_ref, kl_tok, cS_nil, cS_int, cS_ref, cS_long, tl_some, tl_none, List.cons_append, List.nil_append, nI_add, nI_ltb, nI_leb, nI_eqb, nI_cl, zin_nI, h1, zkh_inl]
  · simp only [List.mem_cons, Prod.mk.injEq, List.not_mem_nil, or_false] at ha
    rcases ha with ⟨rfl, rfl⟩
    · rw [if_neg (by decide)] at h1
      have hz : zhn 200 0 (zE 1) = some (13, 3) := by decide +kernel
      have hl : (stB [.ref 0, .int x, .ref 146, tok] 3).set 3 tok = [.ref 0, .int x, .ref 146, tok] := rfl
      refine ⟨M', R', i', ?_, fun q => absurd q (by decide), h2, h3, h4⟩
      rw [e200]
      simp (disch := first | assumption | exact nar_b0 | exact nar_b1 | exact nar_b | exact Or.inl rfl | exact Or.inr rfl | exact zin_t (by omega) (by omega) | exact Nat.le_of_ble_eq_true rfl | (rw [nI_cl (by omega)]; assumption) | omega) only [↓reduceIte, reduceCtorEq, not_true_eq_false, not_false_eq_true, q200_0, q200_1, q200_2, q200_3, q200_4, q200_7, q200_8, q200_9, q200_13, q200_14, q200_15, q200_16, kl_int, kl_ref, kl_tok, cS_nil, cS_int, cS_ref, cS_long, tl_some, tl_none, List.cons_append, List.nil_append, nI_add, nI_ltb, nI_leb, nI_eqb, nI_cl, zin_nI, h1, zkh_inr, hl]
theorem w_201 (hS : Sh R) (h : OutC (cal d 71 [.ref 0, .int x] M R) M R c e v G) (ha : c = 0 ∨ (e, c) ∈ ([(0, 1), (2, 2)] : List (Nat × Nat))) : WrO (cal (d + 1) 201 [.ref 0, .int x, .ref 146] M R) M R c v G := by
  obtain ⟨M', R', i', h1, h2, h3, h4⟩ := h
  have hS' := h2.1.1
  have nN := hS.1
  have nN' := hS'.1
  have eN : zN R' = zN R := by rw [nN, nN']
  have k0 := K0 hS
  have k146 := K146 hS'
  have l146 := L146 hS'
  rcases ha with rfl | ha
  · rw [if_pos rfl] at h1
    refine ⟨M', sJ R' 146 0 v.toInt64, i', ?_, fun _ => zJ_sJ, h2.sJ (by decide), h3, h4⟩
    rw [e201]
    simp (disch := first | assumption | exact nar_b0 | exact nar_b1 | exact nar_b | exact Or.inl rfl | exact Or.inr rfl | exact zin_t (by omega) (by omega) | exact Nat.le_of_ble_eq_true rfl | (rw [nI_cl (by omega)]; assumption) | omega) only [↓reduceIte, reduceCtorEq, not_true_eq_false, not_false_eq_true, q201_0, q201_1, q201_2, q201_3, q201_4, q201_7, q201_8, q201_9, q201_13, q201_14, q201_16, q201_17, q201_18, q201_19, kl_int, kl_ref, kl_tok, cS_nil, cS_int, cS_ref, cS_long, tl_some, tl_none, List.cons_append, List.nil_append, nI_add, nI_ltb, nI_leb, nI_eqb, nI_cl, zin_nI, h1, zkh_inl]
  · simp only [List.mem_cons, Prod.mk.injEq, List.not_mem_nil, or_false] at ha
    rcases ha with ⟨rfl, rfl⟩ | ⟨rfl, rfl⟩
    · rw [if_neg (by decide)] at h1
      have hz : zhn 201 0 (zE 0) = some (13, 3) := by decide +kernel
      have hl : (stB [.ref 0, .int x, .ref 146, tok] 3).set 3 tok = [.ref 0, .int x, .ref 146, tok] := rfl
      refine ⟨M', R', i', ?_, fun q => absurd q (by decide), h2, h3, h4⟩
      rw [e201]
      simp (disch := first | assumption | exact nar_b0 | exact nar_b1 | exact nar_b | exact Or.inl rfl | exact Or.inr rfl | exact zin_t (by omega) (by omega) | exact Nat.le_of_ble_eq_true rfl | (rw [nI_cl (by omega)]; assumption) | omega) only [↓reduceIte, reduceCtorEq, not_true_eq_false, not_false_eq_true, q201_0, q201_1, q201_2, q201_3, q201_4, q201_7, q201_8, q201_9, q201_13, q201_14, q201_16, q201_17, q201_18, q201_19, kl_int, kl_ref, kl_tok, cS_nil, cS_int, cS_ref, cS_long, tl_some, tl_none, List.cons_append, List.nil_append, nI_add, nI_ltb, nI_leb, nI_eqb, nI_cl, zin_nI, h1, zkh_inr, hl]
    · rw [if_neg (by decide)] at h1
      have hz : zhn 201 0 (zE 2) = some (16, 3) := by decide +kernel
      have hl : (stB [.ref 0, .int x, .ref 146, tok] 3).set 3 tok = [.ref 0, .int x, .ref 146, tok] := rfl
      refine ⟨M', R', i', ?_, fun q => absurd q (by decide), h2, h3, h4⟩
      rw [e201]
      simp (disch := first | assumption | exact nar_b0 | exact nar_b1 | exact nar_b | exact Or.inl rfl | exact Or.inr rfl | exact zin_t (by omega) (by omega) | exact Nat.le_of_ble_eq_true rfl | (rw [nI_cl (by omega)]; assumption) | omega) only [↓reduceIte, reduceCtorEq, not_true_eq_false, not_false_eq_true, q201_0, q201_1, q201_2, q201_3, q201_4, q201_7, q201_8, q201_9, q201_13, q201_14, q201_16, q201_17, q201_18, q201_19, kl_int, kl_ref, kl_tok, cS_nil, cS_int, cS_ref, cS_long, tl_some, tl_none, List.cons_append, List.nil_append, nI_add, nI_ltb, nI_leb, nI_eqb, nI_cl, zin_nI, h1, zkh_inr, hl]
theorem w_202 (hS : Sh R) (h : OutC (cal d 72 [.ref 0] M R) M R c e v G) (ha : c = 0 ∨ (e, c) ∈ ([(2, 1)] : List (Nat × Nat))) : WrO (cal (d + 1) 202 [.ref 0, .ref 146] M R) M R c v G := by
  obtain ⟨M', R', i', h1, h2, h3, h4⟩ := h
  have hS' := h2.1.1
  have nN := hS.1
  have nN' := hS'.1
  have eN : zN R' = zN R := by rw [nN, nN']
  have k0 := K0 hS
  have k146 := K146 hS'
  have l146 := L146 hS'
  rcases ha with rfl | ha
  · rw [if_pos rfl] at h1
    refine ⟨M', sJ R' 146 0 v.toInt64, i', ?_, fun _ => zJ_sJ, h2.sJ (by decide), h3, h4⟩
    rw [e202]
    simp (disch := first | assumption | exact nar_b0 | exact nar_b1 | exact nar_b | exact Or.inl rfl | exact Or.inr rfl | exact zin_t (by omega) (by omega) | exact Nat.le_of_ble_eq_true rfl | (rw [nI_cl (by omega)]; assumption) | omega) only [↓reduceIte, reduceCtorEq, not_true_eq_false, not_false_eq_true, q202_0, q202_1, q202_2, q202_3, q202_6, q202_7, q202_8, q202_12, q202_13, q202_14, q202_15, kl_int, kl_ref, kl_tok, cS_nil, cS_int, cS_ref, cS_long, tl_some, tl_none, List.cons_append, List.nil_append, nI_add, nI_ltb, nI_leb, nI_eqb, nI_cl, zin_nI, h1, zkh_inl]
  · simp only [List.mem_cons, Prod.mk.injEq, List.not_mem_nil, or_false] at ha
    rcases ha with ⟨rfl, rfl⟩
    · rw [if_neg (by decide)] at h1
      have hz : zhn 202 0 (zE 2) = some (12, 2) := by decide +kernel
      have hl : (stB [.ref 0, .ref 146, tok] 2).set 2 tok = [.ref 0, .ref 146, tok] := rfl
      refine ⟨M', R', i', ?_, fun q => absurd q (by decide), h2, h3, h4⟩
      rw [e202]
      simp (disch := first | assumption | exact nar_b0 | exact nar_b1 | exact nar_b | exact Or.inl rfl | exact Or.inr rfl | exact zin_t (by omega) (by omega) | exact Nat.le_of_ble_eq_true rfl | (rw [nI_cl (by omega)]; assumption) | omega) only [↓reduceIte, reduceCtorEq, not_true_eq_false, not_false_eq_true, q202_0, q202_1, q202_2, q202_3, q202_6, q202_7, q202_8, q202_12, q202_13, q202_14, q202_15, kl_int, kl_ref, kl_tok, cS_nil, cS_int, cS_ref, cS_long, tl_some, tl_none, List.cons_append, List.nil_append, nI_add, nI_ltb, nI_leb, nI_eqb, nI_cl, zin_nI, h1, zkh_inr, hl]
theorem w_203 (hS : Sh R) (h : OutC (cal d 73 [.ref 0, .int x, .int y] M R) M R c e v G) (ha : c = 0 ∨ (e, c) ∈ ([(1, 1)] : List (Nat × Nat))) : WrO (cal (d + 1) 203 [.ref 0, .int x, .int y, .ref 146] M R) M R c v G := by
  obtain ⟨M', R', i', h1, h2, h3, h4⟩ := h
  have hS' := h2.1.1
  have nN := hS.1
  have nN' := hS'.1
  have eN : zN R' = zN R := by rw [nN, nN']
  have k0 := K0 hS
  have k146 := K146 hS'
  have l146 := L146 hS'
  rcases ha with rfl | ha
  · rw [if_pos rfl] at h1
    refine ⟨M', sJ R' 146 0 v.toInt64, i', ?_, fun _ => zJ_sJ, h2.sJ (by decide), h3, h4⟩
    rw [e203]
    simp (disch := first | assumption | exact nar_b0 | exact nar_b1 | exact nar_b | exact Or.inl rfl | exact Or.inr rfl | exact zin_t (by omega) (by omega) | exact Nat.le_of_ble_eq_true rfl | (rw [nI_cl (by omega)]; assumption) | omega) only [↓reduceIte, reduceCtorEq, not_true_eq_false, not_false_eq_true, q203_0, q203_1, q203_2, q203_3, q203_4, q203_5, q203_8, q203_9, q203_10, q203_15, q203_16, q203_17, q203_18, kl_int, kl_ref, kl_tok, cS_nil, cS_int, cS_ref, cS_long, tl_some, tl_none, List.cons_append, List.nil_append, nI_add, nI_ltb, nI_leb, nI_eqb, nI_cl, zin_nI, h1, zkh_inl]
  · simp only [List.mem_cons, Prod.mk.injEq, List.not_mem_nil, or_false] at ha
    rcases ha with ⟨rfl, rfl⟩
    · rw [if_neg (by decide)] at h1
      have hz : zhn 203 0 (zE 1) = some (15, 4) := by decide +kernel
      have hl : (stB [.ref 0, .int x, .int y, .ref 146, tok] 4).set 4 tok = [.ref 0, .int x, .int y, .ref 146, tok] := rfl
      refine ⟨M', R', i', ?_, fun q => absurd q (by decide), h2, h3, h4⟩
      rw [e203]
      simp (disch := first | assumption | exact nar_b0 | exact nar_b1 | exact nar_b | exact Or.inl rfl | exact Or.inr rfl | exact zin_t (by omega) (by omega) | exact Nat.le_of_ble_eq_true rfl | (rw [nI_cl (by omega)]; assumption) | omega) only [↓reduceIte, reduceCtorEq, not_true_eq_false, not_false_eq_true, q203_0, q203_1, q203_2, q203_3, q203_4, q203_5, q203_8, q203_9, q203_10, q203_15, q203_16, q203_17, q203_18, kl_int, kl_ref, kl_tok, cS_nil, cS_int, cS_ref, cS_long, tl_some, tl_none, List.cons_append, List.nil_append, nI_add, nI_ltb, nI_leb, nI_eqb, nI_cl, zin_nI, h1, zkh_inr, hl]
theorem w_204 (hS : Sh R) (h : OutC (cal d 74 [.ref 0, .int x, .int y] M R) M R c e v G) (ha : c = 0 ∨ (e, c) ∈ ([(1, 1)] : List (Nat × Nat))) : WrO (cal (d + 1) 204 [.ref 0, .int x, .int y, .ref 146] M R) M R c v G := by
  obtain ⟨M', R', i', h1, h2, h3, h4⟩ := h
  have hS' := h2.1.1
  have nN := hS.1
  have nN' := hS'.1
  have eN : zN R' = zN R := by rw [nN, nN']
  have k0 := K0 hS
  have k146 := K146 hS'
  have l146 := L146 hS'
  rcases ha with rfl | ha
  · rw [if_pos rfl] at h1
    refine ⟨M', sJ R' 146 0 v.toInt64, i', ?_, fun _ => zJ_sJ, h2.sJ (by decide), h3, h4⟩
    rw [e204]
    simp (disch := first | assumption | exact nar_b0 | exact nar_b1 | exact nar_b | exact Or.inl rfl | exact Or.inr rfl | exact zin_t (by omega) (by omega) | exact Nat.le_of_ble_eq_true rfl | (rw [nI_cl (by omega)]; assumption) | omega) only [↓reduceIte, reduceCtorEq, not_true_eq_false, not_false_eq_true, q204_0, q204_1, q204_2, q204_3, q204_4, q204_5, q204_8, q204_9, q204_10, q204_15, q204_16, q204_17, q204_18, kl_int, kl_ref, kl_tok, cS_nil, cS_int, cS_ref, cS_long, tl_some, tl_none, List.cons_append, List.nil_append, nI_add, nI_ltb, nI_leb, nI_eqb, nI_cl, zin_nI, h1, zkh_inl]
  · simp only [List.mem_cons, Prod.mk.injEq, List.not_mem_nil, or_false] at ha
    rcases ha with ⟨rfl, rfl⟩
    · rw [if_neg (by decide)] at h1
      have hz : zhn 204 0 (zE 1) = some (15, 4) := by decide +kernel
      have hl : (stB [.ref 0, .int x, .int y, .ref 146, tok] 4).set 4 tok = [.ref 0, .int x, .int y, .ref 146, tok] := rfl
      refine ⟨M', R', i', ?_, fun q => absurd q (by decide), h2, h3, h4⟩
      rw [e204]
      simp (disch := first | assumption | exact nar_b0 | exact nar_b1 | exact nar_b | exact Or.inl rfl | exact Or.inr rfl | exact zin_t (by omega) (by omega) | exact Nat.le_of_ble_eq_true rfl | (rw [nI_cl (by omega)]; assumption) | omega) only [↓reduceIte, reduceCtorEq, not_true_eq_false, not_false_eq_true, q204_0, q204_1, q204_2, q204_3, q204_4, q204_5, q204_8, q204_9, q204_10, q204_15, q204_16, q204_17, q204_18, kl_int, kl_ref, kl_tok, cS_nil, cS_int, cS_ref, cS_long, tl_some, tl_none, List.cons_append, List.nil_append, nI_add, nI_ltb, nI_leb, nI_eqb, nI_cl, zin_nI, h1, zkh_inr, hl]
theorem w_205 (hS : Sh R) (h : OutC (cal d 76 [.ref 0, .int x] M R) M R c e v G) (ha : c = 0 ∨ (e, c) ∈ ([(1, 1)] : List (Nat × Nat))) : WrO (cal (d + 1) 205 [.ref 0, .int x, .ref 146] M R) M R c v G := by
  obtain ⟨M', R', i', h1, h2, h3, h4⟩ := h
  have hS' := h2.1.1
  have nN := hS.1
  have nN' := hS'.1
  have eN : zN R' = zN R := by rw [nN, nN']
  have k0 := K0 hS
  have k146 := K146 hS'
  have l146 := L146 hS'
  rcases ha with rfl | ha
  · rw [if_pos rfl] at h1
    refine ⟨M', sJ R' 146 0 v.toInt64, i', ?_, fun _ => zJ_sJ, h2.sJ (by decide), h3, h4⟩
    rw [e205]
    simp (disch := first | assumption | exact nar_b0 | exact nar_b1 | exact nar_b | exact Or.inl rfl | exact Or.inr rfl | exact zin_t (by omega) (by omega) | exact Nat.le_of_ble_eq_true rfl | (rw [nI_cl (by omega)]; assumption) | omega) only [↓reduceIte, reduceCtorEq, not_true_eq_false, not_false_eq_true, q205_0, q205_1, q205_2, q205_3, q205_4, q205_7, q205_8, q205_9, q205_13, q205_14, q205_15, q205_16, kl_int, kl_ref, kl_tok, cS_nil, cS_int, cS_ref, cS_long, tl_some, tl_none, List.cons_append, List.nil_append, nI_add, nI_ltb, nI_leb, nI_eqb, nI_cl, zin_nI, h1, zkh_inl]
  · simp only [List.mem_cons, Prod.mk.injEq, List.not_mem_nil, or_false] at ha
    rcases ha with ⟨rfl, rfl⟩
    · rw [if_neg (by decide)] at h1
      have hz : zhn 205 0 (zE 1) = some (13, 3) := by decide +kernel
      have hl : (stB [.ref 0, .int x, .ref 146, tok] 3).set 3 tok = [.ref 0, .int x, .ref 146, tok] := rfl
      refine ⟨M', R', i', ?_, fun q => absurd q (by decide), h2, h3, h4⟩
      rw [e205]
      simp (disch := first | assumption | exact nar_b0 | exact nar_b1 | exact nar_b | exact Or.inl rfl | exact Or.inr rfl | exact zin_t (by omega) (by omega) | exact Nat.le_of_ble_eq_true rfl | (rw [nI_cl (by omega)]; assumption) | omega) only [↓reduceIte, reduceCtorEq, not_true_eq_false, not_false_eq_true, q205_0, q205_1, q205_2, q205_3, q205_4, q205_7, q205_8, q205_9, q205_13, q205_14, q205_15, q205_16, kl_int, kl_ref, kl_tok, cS_nil, cS_int, cS_ref, cS_long, tl_some, tl_none, List.cons_append, List.nil_append, nI_add, nI_ltb, nI_leb, nI_eqb, nI_cl, zin_nI, h1, zkh_inr, hl]
theorem w_206 (hS : Sh R) (h : OutC (cal d 77 [.ref 0, .int x, .int y] M R) M R c e v G) (ha : c = 0 ∨ (e, c) ∈ ([(0, 1), (1, 2)] : List (Nat × Nat))) : WrO (cal (d + 1) 206 [.ref 0, .int x, .int y, .ref 146] M R) M R c v G := by
  obtain ⟨M', R', i', h1, h2, h3, h4⟩ := h
  have hS' := h2.1.1
  have nN := hS.1
  have nN' := hS'.1
  have eN : zN R' = zN R := by rw [nN, nN']
  have k0 := K0 hS
  have k146 := K146 hS'
  have l146 := L146 hS'
  rcases ha with rfl | ha
  · rw [if_pos rfl] at h1
    refine ⟨M', sJ R' 146 0 v.toInt64, i', ?_, fun _ => zJ_sJ, h2.sJ (by decide), h3, h4⟩
    rw [e206]
    simp (disch := first | assumption | exact nar_b0 | exact nar_b1 | exact nar_b | exact Or.inl rfl | exact Or.inr rfl | exact zin_t (by omega) (by omega) | exact Nat.le_of_ble_eq_true rfl | (rw [nI_cl (by omega)]; assumption) | omega) only [↓reduceIte, reduceCtorEq, not_true_eq_false, not_false_eq_true, q206_0, q206_1, q206_2, q206_3, q206_4, q206_5, q206_8, q206_9, q206_10, q206_15, q206_16, q206_19, q206_20, q206_21, q206_22, kl_int, kl_ref, kl_tok, cS_nil, cS_int, cS_ref, cS_long, tl_some, tl_none, List.cons_append, List.nil_append, nI_add, nI_ltb, nI_leb, nI_eqb, nI_cl, zin_nI, h1, zkh_inl]
  · simp only [List.mem_cons, Prod.mk.injEq, List.not_mem_nil, or_false] at ha
    rcases ha with ⟨rfl, rfl⟩ | ⟨rfl, rfl⟩
    · rw [if_neg (by decide)] at h1
      have hz : zhn 206 0 (zE 0) = some (15, 4) := by decide +kernel
      have hl : (stB [.ref 0, .int x, .int y, .ref 146, tok] 4).set 4 tok = [.ref 0, .int x, .int y, .ref 146, tok] := rfl
      refine ⟨M', R', i', ?_, fun q => absurd q (by decide), h2, h3, h4⟩
      rw [e206]
      simp (disch := first | assumption | exact nar_b0 | exact nar_b1 | exact nar_b | exact Or.inl rfl | exact Or.inr rfl | exact zin_t (by omega) (by omega) | exact Nat.le_of_ble_eq_true rfl | (rw [nI_cl (by omega)]; assumption) | omega) only [↓reduceIte, reduceCtorEq, not_true_eq_false, not_false_eq_true, q206_0, q206_1, q206_2, q206_3, q206_4, q206_5, q206_8, q206_9, q206_10, q206_15, q206_16, q206_19, q206_20, q206_21, q206_22, kl_int, kl_ref, kl_tok, cS_nil, cS_int, cS_ref, cS_long, tl_some, tl_none, List.cons_append, List.nil_append, nI_add, nI_ltb, nI_leb, nI_eqb, nI_cl, zin_nI, h1, zkh_inr, hl]
    · rw [if_neg (by decide)] at h1
      have hz : zhn 206 0 (zE 1) = some (19, 4) := by decide +kernel
      have hl : (stB [.ref 0, .int x, .int y, .ref 146, tok] 4).set 4 tok = [.ref 0, .int x, .int y, .ref 146, tok] := rfl
      refine ⟨M', R', i', ?_, fun q => absurd q (by decide), h2, h3, h4⟩
      rw [e206]
      simp (disch := first | assumption | exact nar_b0 | exact nar_b1 | exact nar_b | exact Or.inl rfl | exact Or.inr rfl | exact zin_t (by omega) (by omega) | exact Nat.le_of_ble_eq_true rfl | (rw [nI_cl (by omega)]; assumption) | omega) only [↓reduceIte, reduceCtorEq, not_true_eq_false, not_false_eq_true, q206_0, q206_1, q206_2, q206_3, q206_4, q206_5, q206_8, q206_9, q206_10, q206_15, q206_16, q206_19, q206_20, q206_21, q206_22, kl_int, kl_ref, kl_tok, cS_nil, cS_int, cS_ref, cS_long, tl_some, tl_none, List.cons_append, List.nil_append, nI_add, nI_ltb, nI_leb, nI_eqb, nI_cl, zin_nI, h1, zkh_inr, hl]
theorem w_207 (hS : Sh R) (h : OutC (cal d 78 [.ref 0, .int x, .int y] M R) M R c e v G) (ha : c = 0 ∨ (e, c) ∈ ([(1, 1)] : List (Nat × Nat))) : WrO (cal (d + 1) 207 [.ref 0, .int x, .int y, .ref 146] M R) M R c v G := by
  obtain ⟨M', R', i', h1, h2, h3, h4⟩ := h
  have hS' := h2.1.1
  have nN := hS.1
  have nN' := hS'.1
  have eN : zN R' = zN R := by rw [nN, nN']
  have k0 := K0 hS
  have k146 := K146 hS'
  have l146 := L146 hS'
  rcases ha with rfl | ha
  · rw [if_pos rfl] at h1
    refine ⟨M', sJ R' 146 0 v.toInt64, i', ?_, fun _ => zJ_sJ, h2.sJ (by decide), h3, h4⟩
    rw [e207]
    simp (disch := first | assumption | exact nar_b0 | exact nar_b1 | exact nar_b | exact Or.inl rfl | exact Or.inr rfl | exact zin_t (by omega) (by omega) | exact Nat.le_of_ble_eq_true rfl | (rw [nI_cl (by omega)]; assumption) | omega) only [↓reduceIte, reduceCtorEq, not_true_eq_false, not_false_eq_true, q207_0, q207_1, q207_2, q207_3, q207_4, q207_5, q207_8, q207_9, q207_10, q207_15, q207_16, q207_17, q207_18, kl_int, kl_ref, kl_tok, cS_nil, cS_int, cS_ref, cS_long, tl_some, tl_none, List.cons_append, List.nil_append, nI_add, nI_ltb, nI_leb, nI_eqb, nI_cl, zin_nI, h1, zkh_inl]
  · simp only [List.mem_cons, Prod.mk.injEq, List.not_mem_nil, or_false] at ha
    rcases ha with ⟨rfl, rfl⟩
    · rw [if_neg (by decide)] at h1
      have hz : zhn 207 0 (zE 1) = some (15, 4) := by decide +kernel
      have hl : (stB [.ref 0, .int x, .int y, .ref 146, tok] 4).set 4 tok = [.ref 0, .int x, .int y, .ref 146, tok] := rfl
      refine ⟨M', R', i', ?_, fun q => absurd q (by decide), h2, h3, h4⟩
      rw [e207]
      simp (disch := first | assumption | exact nar_b0 | exact nar_b1 | exact nar_b | exact Or.inl rfl | exact Or.inr rfl | exact zin_t (by omega) (by omega) | exact Nat.le_of_ble_eq_true rfl | (rw [nI_cl (by omega)]; assumption) | omega) only [↓reduceIte, reduceCtorEq, not_true_eq_false, not_false_eq_true, q207_0, q207_1, q207_2, q207_3, q207_4, q207_5, q207_8, q207_9, q207_10, q207_15, q207_16, q207_17, q207_18, kl_int, kl_ref, kl_tok, cS_nil, cS_int, cS_ref, cS_long, tl_some, tl_none, List.cons_append, List.nil_append, nI_add, nI_ltb, nI_leb, nI_eqb, nI_cl, zin_nI, h1, zkh_inr, hl]
theorem w_208 (hS : Sh R) (h : OutC (cal d 79 [.ref 0, .int x] M R) M R c e v G) (ha : c = 0 ∨ (e, c) ∈ ([(0, 1)] : List (Nat × Nat))) : WrO (cal (d + 1) 208 [.ref 0, .int x, .ref 146] M R) M R c v G := by
  obtain ⟨M', R', i', h1, h2, h3, h4⟩ := h
  have hS' := h2.1.1
  have nN := hS.1
  have nN' := hS'.1
  have eN : zN R' = zN R := by rw [nN, nN']
  have k0 := K0 hS
  have k146 := K146 hS'
  have l146 := L146 hS'
  rcases ha with rfl | ha
  · rw [if_pos rfl] at h1
    refine ⟨M', sJ R' 146 0 v.toInt64, i', ?_, fun _ => zJ_sJ, h2.sJ (by decide), h3, h4⟩
    rw [e208]
    simp (disch := first | assumption | exact nar_b0 | exact nar_b1 | exact nar_b | exact Or.inl rfl | exact Or.inr rfl | exact zin_t (by omega) (by omega) | exact Nat.le_of_ble_eq_true rfl | (rw [nI_cl (by omega)]; assumption) | omega) only [↓reduceIte, reduceCtorEq, not_true_eq_false, not_false_eq_true, q208_0, q208_1, q208_2, q208_3, q208_4, q208_7, q208_8, q208_9, q208_13, q208_14, q208_15, q208_16, kl_int, kl_ref, kl_tok, cS_nil, cS_int, cS_ref, cS_long, tl_some, tl_none, List.cons_append, List.nil_append, nI_add, nI_ltb, nI_leb, nI_eqb, nI_cl, zin_nI, h1, zkh_inl]
  · simp only [List.mem_cons, Prod.mk.injEq, List.not_mem_nil, or_false] at ha
    rcases ha with ⟨rfl, rfl⟩
    · rw [if_neg (by decide)] at h1
      have hz : zhn 208 0 (zE 0) = some (13, 3) := by decide +kernel
      have hl : (stB [.ref 0, .int x, .ref 146, tok] 3).set 3 tok = [.ref 0, .int x, .ref 146, tok] := rfl
      refine ⟨M', R', i', ?_, fun q => absurd q (by decide), h2, h3, h4⟩
      rw [e208]
      simp (disch := first | assumption | exact nar_b0 | exact nar_b1 | exact nar_b | exact Or.inl rfl | exact Or.inr rfl | exact zin_t (by omega) (by omega) | exact Nat.le_of_ble_eq_true rfl | (rw [nI_cl (by omega)]; assumption) | omega) only [↓reduceIte, reduceCtorEq, not_true_eq_false, not_false_eq_true, q208_0, q208_1, q208_2, q208_3, q208_4, q208_7, q208_8, q208_9, q208_13, q208_14, q208_15, q208_16, kl_int, kl_ref, kl_tok, cS_nil, cS_int, cS_ref, cS_long, tl_some, tl_none, List.cons_append, List.nil_append, nI_add, nI_ltb, nI_leb, nI_eqb, nI_cl, zin_nI, h1, zkh_inr, hl]
theorem w_209 (hS : Sh R) (h : OutC (cal d 80 [.ref 0, .int x] M R) M R c e v G) (ha : c = 0 ∨ (e, c) ∈ ([(1, 1)] : List (Nat × Nat))) : WrO (cal (d + 1) 209 [.ref 0, .int x, .ref 146] M R) M R c v G := by
  obtain ⟨M', R', i', h1, h2, h3, h4⟩ := h
  have hS' := h2.1.1
  have nN := hS.1
  have nN' := hS'.1
  have eN : zN R' = zN R := by rw [nN, nN']
  have k0 := K0 hS
  have k146 := K146 hS'
  have l146 := L146 hS'
  rcases ha with rfl | ha
  · rw [if_pos rfl] at h1
    refine ⟨M', sJ R' 146 0 v.toInt64, i', ?_, fun _ => zJ_sJ, h2.sJ (by decide), h3, h4⟩
    rw [e209]
    simp (disch := first | assumption | exact nar_b0 | exact nar_b1 | exact nar_b | exact Or.inl rfl | exact Or.inr rfl | exact zin_t (by omega) (by omega) | exact Nat.le_of_ble_eq_true rfl | (rw [nI_cl (by omega)]; assumption) | omega) only [↓reduceIte, reduceCtorEq, not_true_eq_false, not_false_eq_true, q209_0, q209_1, q209_2, q209_3, q209_4, q209_7, q209_8, q209_9, q209_13, q209_14, q209_15, q209_16, kl_int, kl_ref, kl_tok, cS_nil, cS_int, cS_ref, cS_long, tl_some, tl_none, List.cons_append, List.nil_append, nI_add, nI_ltb, nI_leb, nI_eqb, nI_cl, zin_nI, h1, zkh_inl]
  · simp only [List.mem_cons, Prod.mk.injEq, List.not_mem_nil, or_false] at ha
    rcases ha with ⟨rfl, rfl⟩
    · rw [if_neg (by decide)] at h1
      have hz : zhn 209 0 (zE 1) = some (13, 3) := by decide +kernel
      have hl : (stB [.ref 0, .int x, .ref 146, tok] 3).set 3 tok = [.ref 0, .int x, .ref 146, tok] := rfl
      refine ⟨M', R', i', ?_, fun q => absurd q (by decide), h2, h3, h4⟩
      rw [e209]
      simp (disch := first | assumption | exact nar_b0 | exact nar_b1 | exact nar_b | exact Or.inl rfl | exact Or.inr rfl | exact zin_t (by omega) (by omega) | exact Nat.le_of_ble_eq_true rfl | (rw [nI_cl (by omega)]; assumption) | omega) only [↓reduceIte, reduceCtorEq, not_true_eq_false, not_false_eq_true, q209_0, q209_1, q209_2, q209_3, q209_4, q209_7, q209_8, q209_9, q209_13, q209_14, q209_15, q209_16, kl_int, kl_ref, kl_tok, cS_nil, cS_int, cS_ref, cS_long, tl_some, tl_none, List.cons_append, List.nil_append, nI_add, nI_ltb, nI_leb, nI_eqb, nI_cl, zin_nI, h1, zkh_inr, hl]
theorem w_210 (hS : Sh R) (h : OutC (cal d 81 [.ref 0, .int x] M R) M R c e v G) (ha : c = 0 ∨ (e, c) ∈ ([(1, 1)] : List (Nat × Nat))) : WrO (cal (d + 1) 210 [.ref 0, .int x, .ref 146] M R) M R c v G := by
  obtain ⟨M', R', i', h1, h2, h3, h4⟩ := h
  have hS' := h2.1.1
  have nN := hS.1
  have nN' := hS'.1
  have eN : zN R' = zN R := by rw [nN, nN']
  have k0 := K0 hS
  have k146 := K146 hS'
  have l146 := L146 hS'
  rcases ha with rfl | ha
  · rw [if_pos rfl] at h1
    refine ⟨M', sJ R' 146 0 v.toInt64, i', ?_, fun _ => zJ_sJ, h2.sJ (by decide), h3, h4⟩
    rw [e210]
    simp (disch := first | assumption | exact nar_b0 | exact nar_b1 | exact nar_b | exact Or.inl rfl | exact Or.inr rfl | exact zin_t (by omega) (by omega) | exact Nat.le_of_ble_eq_true rfl | (rw [nI_cl (by omega)]; assumption) | omega) only [↓reduceIte, reduceCtorEq, not_true_eq_false, not_false_eq_true, q210_0, q210_1, q210_2, q210_3, q210_4, q210_7, q210_8, q210_9, q210_13, q210_14, q210_15, q210_16, kl_int, kl_ref, kl_tok, cS_nil, cS_int, cS_ref, cS_long, tl_some, tl_none, List.cons_append, List.nil_append, nI_add, nI_ltb, nI_leb, nI_eqb, nI_cl, zin_nI, h1, zkh_inl]
  · simp only [List.mem_cons, Prod.mk.injEq, List.not_mem_nil, or_false] at ha
    rcases ha with ⟨rfl, rfl⟩
    · rw [if_neg (by decide)] at h1
      have hz : zhn 210 0 (zE 1) = some (13, 3) := by decide +kernel
      have hl : (stB [.ref 0, .int x, .ref 146, tok] 3).set 3 tok = [.ref 0, .int x, .ref 146, tok] := rfl
      refine ⟨M', R', i', ?_, fun q => absurd q (by decide), h2, h3, h4⟩
      rw [e210]
      simp (disch := first | assumption | exact nar_b0 | exact nar_b1 | exact nar_b | exact Or.inl rfl | exact Or.inr rfl | exact zin_t (by omega) (by omega) | exact Nat.le_of_ble_eq_true rfl | (rw [nI_cl (by omega)]; assumption) | omega) only [↓reduceIte, reduceCtorEq, not_true_eq_false, not_false_eq_true, q210_0, q210_1, q210_2, q210_3, q210_4, q210_7, q210_8, q210_9, q210_13, q210_14, q210_15, q210_16, kl_int, kl_ref, kl_tok, cS_nil, cS_int, cS_ref, cS_long, tl_some, tl_none, List.cons_append, List.nil_append, nI_add, nI_ltb, nI_leb, nI_eqb, nI_cl, zin_nI, h1, zkh_inr, hl]
theorem w_211 (hS : Sh R) (h : OutC (cal d 83 [.ref 0, .int x] M R) M R c e v G) (ha : c = 0 ∨ (e, c) ∈ ([(1, 1)] : List (Nat × Nat))) : WrO (cal (d + 1) 211 [.ref 0, .int x, .ref 146] M R) M R c v G := by
  obtain ⟨M', R', i', h1, h2, h3, h4⟩ := h
  have hS' := h2.1.1
  have nN := hS.1
  have nN' := hS'.1
  have eN : zN R' = zN R := by rw [nN, nN']
  have k0 := K0 hS
  have k146 := K146 hS'
  have l146 := L146 hS'
  rcases ha with rfl | ha
  · rw [if_pos rfl] at h1
    refine ⟨M', sJ R' 146 0 v.toInt64, i', ?_, fun _ => zJ_sJ, h2.sJ (by decide), h3, h4⟩
    rw [e211]
    simp (disch := first | assumption | exact nar_b0 | exact nar_b1 | exact nar_b | exact Or.inl rfl | exact Or.inr rfl | exact zin_t (by omega) (by omega) | exact Nat.le_of_ble_eq_true rfl | (rw [nI_cl (by omega)]; assumption) | omega) only [↓reduceIte, reduceCtorEq, not_true_eq_false, not_false_eq_true, q211_0, q211_1, q211_2, q211_3, q211_4, q211_7, q211_8, q211_9, q211_13, q211_14, q211_15, q211_16, kl_int, kl_ref, kl_tok, cS_nil, cS_int, cS_ref, cS_long, tl_some, tl_none, List.cons_append, List.nil_append, nI_add, nI_ltb, nI_leb, nI_eqb, nI_cl, zin_nI, h1, zkh_inl]
  · simp only [List.mem_cons, Prod.mk.injEq, List.not_mem_nil, or_false] at ha
    rcases ha with ⟨rfl, rfl⟩
    · rw [if_neg (by decide)] at h1
      have hz : zhn 211 0 (zE 1) = some (13, 3) := by decide +kernel
      have hl : (stB [.ref 0, .int x, .ref 146, tok] 3).set 3 tok = [.ref 0, .int x, .ref 146, tok] := rfl
      refine ⟨M', R', i', ?_, fun q => absurd q (by decide), h2, h3, h4⟩
      rw [e211]
      simp (disch := first | assumption | exact nar_b0 | exact nar_b1 | exact nar_b | exact Or.inl rfl | exact Or.inr rfl | exact zin_t (by omega) (by omega) | exact Nat.le_of_ble_eq_true rfl | (rw [nI_cl (by omega)]; assumption) | omega) only [↓reduceIte, reduceCtorEq, not_true_eq_false, not_false_eq_true, q211_0, q211_1, q211_2, q211_3, q211_4, q211_7, q211_8, q211_9, q211_13, q211_14, q211_15, q211_16, kl_int, kl_ref, kl_tok, cS_nil, cS_int, cS_ref, cS_long, tl_some, tl_none, List.cons_append, List.nil_append, nI_add, nI_ltb, nI_leb, nI_eqb, nI_cl, zin_nI, h1, zkh_inr, hl]
theorem w_212 (hS : Sh R) (h : OutC (cal d 84 [.ref 0, .int x] M R) M R c e v G) (ha : c = 0 ∨ (e, c) ∈ ([(0, 1), (2, 2)] : List (Nat × Nat))) : WrO (cal (d + 1) 212 [.ref 0, .int x, .ref 146] M R) M R c v G := by
  obtain ⟨M', R', i', h1, h2, h3, h4⟩ := h
  have hS' := h2.1.1
  have nN := hS.1
  have nN' := hS'.1
  have eN : zN R' = zN R := by rw [nN, nN']
  have k0 := K0 hS
  have k146 := K146 hS'
  have l146 := L146 hS'
  rcases ha with rfl | ha
  · rw [if_pos rfl] at h1
    refine ⟨M', sJ R' 146 0 v.toInt64, i', ?_, fun _ => zJ_sJ, h2.sJ (by decide), h3, h4⟩
    rw [e212]
    simp (disch := first | assumption | exact nar_b0 | exact nar_b1 | exact nar_b | exact Or.inl rfl | exact Or.inr rfl | exact zin_t (by omega) (by omega) | exact Nat.le_of_ble_eq_true rfl | (rw [nI_cl (by omega)]; assumption) | omega) only [↓reduceIte, reduceCtorEq, not_true_eq_false, not_false_eq_true, q212_0, q212_1, q212_2, q212_3, q212_4, q212_7, q212_8, q212_9, q212_13, q212_14, q212_16, q212_17, q212_18, q212_19, kl_int, kl_ref, kl_tok, cS_nil, cS_int, cS_ref, cS_long, tl_some, tl_none, List.cons_append, List.nil_append, nI_add, nI_ltb, nI_leb, nI_eqb, nI_cl, zin_nI, h1, zkh_inl]
  · simp only [List.mem_cons, Prod.mk.injEq, List.not_mem_nil, or_false] at ha
    rcases ha with ⟨rfl, rfl⟩ | ⟨rfl, rfl⟩
    · rw [if_neg (by decide)] at h1
      have hz : zhn 212 0 (zE 0) = some (13, 3) := by decide +kernel
      have hl : (stB [.ref 0, .int x, .ref 146, tok] 3).set 3 tok = [.ref 0, .int x, .ref 146, tok] := rfl
      refine ⟨M', R', i', ?_, fun q => absurd q (by decide), h2, h3, h4⟩
      rw [e212]
      simp (disch := first | assumption | exact nar_b0 | exact nar_b1 | exact nar_b | exact Or.inl rfl | exact Or.inr rfl | exact zin_t (by omega) (by omega) | exact Nat.le_of_ble_eq_true rfl | (rw [nI_cl (by omega)]; assumption) | omega) only [↓reduceIte, reduceCtorEq, not_true_eq_false, not_false_eq_true, q212_0, q212_1, q212_2, q212_3, q212_4, q212_7, q212_8, q212_9, q212_13, q212_14, q212_16, q212_17, q212_18, q212_19, kl_int, kl_ref, kl_tok, cS_nil, cS_int, cS_ref, cS_long, tl_some, tl_none, List.cons_append, List.nil_append, nI_add, nI_ltb, nI_leb, nI_eqb, nI_cl, zin_nI, h1, zkh_inr, hl]
    · rw [if_neg (by decide)] at h1
      have hz : zhn 212 0 (zE 2) = some (16, 3) := by decide +kernel
      have hl : (stB [.ref 0, .int x, .ref 146, tok] 3).set 3 tok = [.ref 0, .int x, .ref 146, tok] := rfl
      refine ⟨M', R', i', ?_, fun q => absurd q (by decide), h2, h3, h4⟩
      rw [e212]
      simp (disch := first | assumption | exact nar_b0 | exact nar_b1 | exact nar_b | exact Or.inl rfl | exact Or.inr rfl | exact zin_t (by omega) (by omega) | exact Nat.le_of_ble_eq_true rfl | (rw [nI_cl (by omega)]; assumption) | omega) only [↓reduceIte, reduceCtorEq, not_true_eq_false, not_false_eq_true, q212_0, q212_1, q212_2, q212_3, q212_4, q212_7, q212_8, q212_9, q212_13, q212_14, q212_16, q212_17, q212_18, q212_19, kl_int, kl_ref, kl_tok, cS_nil, cS_int, cS_ref, cS_long, tl_some, tl_none, List.cons_append, List.nil_append, nI_add, nI_ltb, nI_leb, nI_eqb, nI_cl, zin_nI, h1, zkh_inr, hl]
theorem w_213 (hS : Sh R) (h : OutC (cal d 86 [.ref 0, .int x, .int y] M R) M R c e v G) (ha : c = 0 ∨ (e, c) ∈ ([(1, 1)] : List (Nat × Nat))) : WrO (cal (d + 1) 213 [.ref 0, .int x, .int y, .ref 146] M R) M R c v G := by
  obtain ⟨M', R', i', h1, h2, h3, h4⟩ := h
  have hS' := h2.1.1
  have nN := hS.1
  have nN' := hS'.1
  have eN : zN R' = zN R := by rw [nN, nN']
  have k0 := K0 hS
  have k146 := K146 hS'
  have l146 := L146 hS'
  rcases ha with rfl | ha
  · rw [if_pos rfl] at h1
    refine ⟨M', sJ R' 146 0 v.toInt64, i', ?_, fun _ => zJ_sJ, h2.sJ (by decide), h3, h4⟩
    rw [e213]
    simp (disch := first | assumption | exact nar_b0 | exact nar_b1 | exact nar_b | exact Or.inl rfl | exact Or.inr rfl | exact zin_t (by omega) (by omega) | exact Nat.le_of_ble_eq_true rfl | (rw [nI_cl (by omega)]; assumption) | omega) only [↓reduceIte, reduceCtorEq, not_true_eq_false, not_false_eq_true, q213_0, q213_1, q213_2, q213_3, q213_4, q213_5, q213_8, q213_9, q213_10, q213_15, q213_16, q213_17, q213_18, kl_int, kl_ref, kl_tok, cS_nil, cS_int, cS_ref, cS_long, tl_some, tl_none, List.cons_append, List.nil_append, nI_add, nI_ltb, nI_leb, nI_eqb, nI_cl, zin_nI, h1, zkh_inl]
  · simp only [List.mem_cons, Prod.mk.injEq, List.not_mem_nil, or_false] at ha
    rcases ha with ⟨rfl, rfl⟩
    · rw [if_neg (by decide)] at h1
      have hz : zhn 213 0 (zE 1) = some (15, 4) := by decide +kernel
      have hl : (stB [.ref 0, .int x, .int y, .ref 146, tok] 4).set 4 tok = [.ref 0, .int x, .int y, .ref 146, tok] := rfl
      refine ⟨M', R', i', ?_, fun q => absurd q (by decide), h2, h3, h4⟩
      rw [e213]
      simp (disch := first | assumption | exact nar_b0 | exact nar_b1 | exact nar_b | exact Or.inl rfl | exact Or.inr rfl | exact zin_t (by omega) (by omega) | exact Nat.le_of_ble_eq_true rfl | (rw [nI_cl (by omega)]; assumption) | omega) only [↓reduceIte, reduceCtorEq, not_true_eq_false, not_false_eq_true, q213_0, q213_1, q213_2, q213_3, q213_4, q213_5, q213_8, q213_9, q213_10, q213_15, q213_16, q213_17, q213_18, kl_int, kl_ref, kl_tok, cS_nil, cS_int, cS_ref, cS_long, tl_some, tl_none, List.cons_append, List.nil_append, nI_add, nI_ltb, nI_leb, nI_eqb, nI_cl, zin_nI, h1, zkh_inr, hl]
theorem w_214 (hS : Sh R) (h : OutC (cal d 87 [.ref 0, .int x, .int y] M R) M R c e v G) (ha : c = 0 ∨ (e, c) ∈ ([(0, 1), (1, 2)] : List (Nat × Nat))) : WrO (cal (d + 1) 214 [.ref 0, .int x, .int y, .ref 146] M R) M R c v G := by
  obtain ⟨M', R', i', h1, h2, h3, h4⟩ := h
  have hS' := h2.1.1
  have nN := hS.1
  have nN' := hS'.1
  have eN : zN R' = zN R := by rw [nN, nN']
  have k0 := K0 hS
  have k146 := K146 hS'
  have l146 := L146 hS'
  rcases ha with rfl | ha
  · rw [if_pos rfl] at h1
    refine ⟨M', sJ R' 146 0 v.toInt64, i', ?_, fun _ => zJ_sJ, h2.sJ (by decide), h3, h4⟩
    rw [e214]
    simp (disch := first | assumption | exact nar_b0 | exact nar_b1 | exact nar_b | exact Or.inl rfl | exact Or.inr rfl | exact zin_t (by omega) (by omega) | exact Nat.le_of_ble_eq_true rfl | (rw [nI_cl (by omega)]; assumption) | omega) only [↓reduceIte, reduceCtorEq, not_true_eq_false, not_false_eq_true, q214_0, q214_1, q214_2, q214_3, q214_4, q214_5, q214_8, q214_9, q214_10, q214_15, q214_16, q214_19, q214_20, q214_21, q214_22, kl_int, kl_ref, kl_tok, cS_nil, cS_int, cS_ref, cS_long, tl_some, tl_none, List.cons_append, List.nil_append, nI_add, nI_ltb, nI_leb, nI_eqb, nI_cl, zin_nI, h1, zkh_inl]
  · simp only [List.mem_cons, Prod.mk.injEq, List.not_mem_nil, or_false] at ha
    rcases ha with ⟨rfl, rfl⟩ | ⟨rfl, rfl⟩
    · rw [if_neg (by decide)] at h1
      have hz : zhn 214 0 (zE 0) = some (15, 4) := by decide +kernel
      have hl : (stB [.ref 0, .int x, .int y, .ref 146, tok] 4).set 4 tok = [.ref 0, .int x, .int y, .ref 146, tok] := rfl
      refine ⟨M', R', i', ?_, fun q => absurd q (by decide), h2, h3, h4⟩
      rw [e214]
      simp (disch := first | assumption | exact nar_b0 | exact nar_b1 | exact nar_b | exact Or.inl rfl | exact Or.inr rfl | exact zin_t (by omega) (by omega) | exact Nat.le_of_ble_eq_true rfl | (rw [nI_cl (by omega)]; assumption) | omega) only [↓reduceIte, reduceCtorEq, not_true_eq_false, not_false_eq_true, q214_0, q214_1, q214_2, q214_3, q214_4, q214_5, q214_8, q214_9, q214_10, q214_15, q214_16, q214_19, q214_20, q214_21, q214_22, kl_int, kl_ref, kl_tok, cS_nil, cS_int, cS_ref, cS_long, tl_some, tl_none, List.cons_append, List.nil_append, nI_add, nI_ltb, nI_leb, nI_eqb, nI_cl, zin_nI, h1, zkh_inr, hl]
    · rw [if_neg (by decide)] at h1
      have hz : zhn 214 0 (zE 1) = some (19, 4) := by decide +kernel
      have hl : (stB [.ref 0, .int x, .int y, .ref 146, tok] 4).set 4 tok = [.ref 0, .int x, .int y, .ref 146, tok] := rfl
      refine ⟨M', R', i', ?_, fun q => absurd q (by decide), h2, h3, h4⟩
      rw [e214]
      simp (disch := first | assumption | exact nar_b0 | exact nar_b1 | exact nar_b | exact Or.inl rfl | exact Or.inr rfl | exact zin_t (by omega) (by omega) | exact Nat.le_of_ble_eq_true rfl | (rw [nI_cl (by omega)]; assumption) | omega) only [↓reduceIte, reduceCtorEq, not_true_eq_false, not_false_eq_true, q214_0, q214_1, q214_2, q214_3, q214_4, q214_5, q214_8, q214_9, q214_10, q214_15, q214_16, q214_19, q214_20, q214_21, q214_22, kl_int, kl_ref, kl_tok, cS_nil, cS_int, cS_ref, cS_long, tl_some, tl_none, List.cons_append, List.nil_append, nI_add, nI_ltb, nI_leb, nI_eqb, nI_cl, zin_nI, h1, zkh_inr, hl]
theorem w_215 (hS : Sh R) (h : OutC (cal d 88 [.ref 0, .int x, .int y] M R) M R c e v G) (ha : c = 0 ∨ (e, c) ∈ ([(0, 1), (1, 2), (2, 3)] : List (Nat × Nat))) : WrO (cal (d + 1) 215 [.ref 0, .int x, .int y, .ref 146] M R) M R c v G := by
  obtain ⟨M', R', i', h1, h2, h3, h4⟩ := h
  have hS' := h2.1.1
  have nN := hS.1
  have nN' := hS'.1
  have eN : zN R' = zN R := by rw [nN, nN']
  have k0 := K0 hS
  have k146 := K146 hS'
  have l146 := L146 hS'
  rcases ha with rfl | ha
  · rw [if_pos rfl] at h1
    refine ⟨M', sJ R' 146 0 v.toInt64, i', ?_, fun _ => zJ_sJ, h2.sJ (by decide), h3, h4⟩
    rw [e215]
    simp (disch := first | assumption | exact nar_b0 | exact nar_b1 | exact nar_b | exact Or.inl rfl | exact Or.inr rfl | exact zin_t (by omega) (by omega) | exact Nat.le_of_ble_eq_true rfl | (rw [nI_cl (by omega)]; assumption) | omega) only [↓reduceIte, reduceCtorEq, not_true_eq_false, not_false_eq_true, q215_0, q215_1, q215_2, q215_3, q215_4, q215_5, q215_8, q215_9, q215_10, q215_15, q215_16, q215_19, q215_20, q215_23, q215_24, q215_25, q215_26, kl_int, kl_ref, kl_tok, cS_nil, cS_int, cS_ref, cS_long, tl_some, tl_none, List.cons_append, List.nil_append, nI_add, nI_ltb, nI_leb, nI_eqb, nI_cl, zin_nI, h1, zkh_inl]
  · simp only [List.mem_cons, Prod.mk.injEq, List.not_mem_nil, or_false] at ha
    rcases ha with ⟨rfl, rfl⟩ | ⟨rfl, rfl⟩ | ⟨rfl, rfl⟩
    · rw [if_neg (by decide)] at h1
      have hz : zhn 215 0 (zE 0) = some (15, 4) := by decide +kernel
      have hl : (stB [.ref 0, .int x, .int y, .ref 146, tok] 4).set 4 tok = [.ref 0, .int x, .int y, .ref 146, tok] := rfl
      refine ⟨M', R', i', ?_, fun q => absurd q (by decide), h2, h3, h4⟩
      rw [e215]
      simp (disch := first | assumption | exact nar_b0 | exact nar_b1 | exact nar_b | exact Or.inl rfl | exact Or.inr rfl | exact zin_t (by omega) (by omega) | exact Nat.le_of_ble_eq_true rfl | (rw [nI_cl (by omega)]; assumption) | omega) only [↓reduceIte, reduceCtorEq, not_true_eq_false, not_false_eq_true, q215_0, q215_1, q215_2, q215_3, q215_4, q215_5, q215_8, q215_9, q215_10, q215_15, q215_16, q215_19, q215_20, q215_23, q215_24, q215_25, q215_26, kl_int, kl_ref, kl_tok, cS_nil, cS_int, cS_ref, cS_long, tl_some, tl_none, List.cons_append, List.nil_append, nI_add, nI_ltb, nI_leb, nI_eqb, nI_cl, zin_nI, h1, zkh_inr, hl]
    · rw [if_neg (by decide)] at h1
      have hz : zhn 215 0 (zE 1) = some (19, 4) := by decide +kernel
      have hl : (stB [.ref 0, .int x, .int y, .ref 146, tok] 4).set 4 tok = [.ref 0, .int x, .int y, .ref 146, tok] := rfl
      refine ⟨M', R', i', ?_, fun q => absurd q (by decide), h2, h3, h4⟩
      rw [e215]
      simp (disch := first | assumption | exact nar_b0 | exact nar_b1 | exact nar_b | exact Or.inl rfl | exact Or.inr rfl | exact zin_t (by omega) (by omega) | exact Nat.le_of_ble_eq_true rfl | (rw [nI_cl (by omega)]; assumption) | omega) only [↓reduceIte, reduceCtorEq, not_true_eq_false, not_false_eq_true, q215_0, q215_1, q215_2, q215_3, q215_4, q215_5, q215_8, q215_9, q215_10, q215_15, q215_16, q215_19, q215_20, q215_23, q215_24, q215_25, q215_26, kl_int, kl_ref, kl_tok, cS_nil, cS_int, cS_ref, cS_long, tl_some, tl_none, List.cons_append, List.nil_append, nI_add, nI_ltb, nI_leb, nI_eqb, nI_cl, zin_nI, h1, zkh_inr, hl]
    · rw [if_neg (by decide)] at h1
      have hz : zhn 215 0 (zE 2) = some (23, 4) := by decide +kernel
      have hl : (stB [.ref 0, .int x, .int y, .ref 146, tok] 4).set 4 tok = [.ref 0, .int x, .int y, .ref 146, tok] := rfl
      refine ⟨M', R', i', ?_, fun q => absurd q (by decide), h2, h3, h4⟩
      rw [e215]
      simp (disch := first | assumption | exact nar_b0 | exact nar_b1 | exact nar_b | exact Or.inl rfl | exact Or.inr rfl | exact zin_t (by omega) (by omega) | exact Nat.le_of_ble_eq_true rfl | (rw [nI_cl (by omega)]; assumption) | omega) only [↓reduceIte, reduceCtorEq, not_true_eq_false, not_false_eq_true, q215_0, q215_1, q215_2, q215_3, q215_4, q215_5, q215_8, q215_9, q215_10, q215_15, q215_16, q215_19, q215_20, q215_23, q215_24, q215_25, q215_26, kl_int, kl_ref, kl_tok, cS_nil, cS_int, cS_ref, cS_long, tl_some, tl_none, List.cons_append, List.nil_append, nI_add, nI_ltb, nI_leb, nI_eqb, nI_cl, zin_nI, h1, zkh_inr, hl]
theorem w_216 (hS : Sh R) (h : OutC (cal d 89 [.ref 0, .int x, .int y] M R) M R c e v G) (ha : c = 0 ∨ (e, c) ∈ ([(1, 1)] : List (Nat × Nat))) : WrO (cal (d + 1) 216 [.ref 0, .int x, .int y, .ref 146] M R) M R c v G := by
  obtain ⟨M', R', i', h1, h2, h3, h4⟩ := h
  have hS' := h2.1.1
  have nN := hS.1
  have nN' := hS'.1
  have eN : zN R' = zN R := by rw [nN, nN']
  have k0 := K0 hS
  have k146 := K146 hS'
  have l146 := L146 hS'
  rcases ha with rfl | ha
  · rw [if_pos rfl] at h1
    refine ⟨M', sJ R' 146 0 v.toInt64, i', ?_, fun _ => zJ_sJ, h2.sJ (by decide), h3, h4⟩
    rw [e216]
    simp (disch := first | assumption | exact nar_b0 | exact nar_b1 | exact nar_b | exact Or.inl rfl | exact Or.inr rfl | exact zin_t (by omega) (by omega) | exact Nat.le_of_ble_eq_true rfl | (rw [nI_cl (by omega)]; assumption) | omega) only [↓reduceIte, reduceCtorEq, not_true_eq_false, not_false_eq_true, q216_0, q216_1, q216_2, q216_3, q216_4, q216_5, q216_8, q216_9, q216_10, q216_15, q216_16, q216_17, q216_18, kl_int, kl_ref, kl_tok, cS_nil, cS_int, cS_ref, cS_long, tl_some, tl_none, List.cons_append, List.nil_append, nI_add, nI_ltb, nI_leb, nI_eqb, nI_cl, zin_nI, h1, zkh_inl]
  · simp only [List.mem_cons, Prod.mk.injEq, List.not_mem_nil, or_false] at ha
    rcases ha with ⟨rfl, rfl⟩
    · rw [if_neg (by decide)] at h1
      have hz : zhn 216 0 (zE 1) = some (15, 4) := by decide +kernel
      have hl : (stB [.ref 0, .int x, .int y, .ref 146, tok] 4).set 4 tok = [.ref 0, .int x, .int y, .ref 146, tok] := rfl
      refine ⟨M', R', i', ?_, fun q => absurd q (by decide), h2, h3, h4⟩
      rw [e216]
      simp (disch := first | assumption | exact nar_b0 | exact nar_b1 | exact nar_b | exact Or.inl rfl | exact Or.inr rfl | exact zin_t (by omega) (by omega) | exact Nat.le_of_ble_eq_true rfl | (rw [nI_cl (by omega)]; assumption) | omega) only [↓reduceIte, reduceCtorEq, not_true_eq_false, not_false_eq_true, q216_0, q216_1, q216_2, q216_3, q216_4, q216_5, q216_8, q216_9, q216_10, q216_15, q216_16, q216_17, q216_18, kl_int, kl_ref, kl_tok, cS_nil, cS_int, cS_ref, cS_long, tl_some, tl_none, List.cons_append, List.nil_append, nI_add, nI_ltb, nI_leb, nI_eqb, nI_cl, zin_nI, h1, zkh_inr, hl]
theorem w_217 (hS : Sh R) (h : OutC (cal d 90 [.ref 0, .int x] M R) M R c e v G) (ha : c = 0 ∨ (e, c) ∈ ([(1, 1), (2, 2)] : List (Nat × Nat))) : WrO (cal (d + 1) 217 [.ref 0, .int x, .ref 146] M R) M R c v G := by
  obtain ⟨M', R', i', h1, h2, h3, h4⟩ := h
  have hS' := h2.1.1
  have nN := hS.1
  have nN' := hS'.1
  have eN : zN R' = zN R := by rw [nN, nN']
  have k0 := K0 hS
  have k146 := K146 hS'
  have l146 := L146 hS'
  rcases ha with rfl | ha
  · rw [if_pos rfl] at h1
    refine ⟨M', sJ R' 146 0 v.toInt64, i', ?_, fun _ => zJ_sJ, h2.sJ (by decide), h3, h4⟩
    rw [e217]
    simp (disch := first | assumption | exact nar_b0 | exact nar_b1 | exact nar_b | exact Or.inl rfl | exact Or.inr rfl | exact zin_t (by omega) (by omega) | exact Nat.le_of_ble_eq_true rfl | (rw [nI_cl (by omega)]; assumption) | omega) only [↓reduceIte, reduceCtorEq, not_true_eq_false, not_false_eq_true, q217_0, q217_1, q217_2, q217_3, q217_4, q217_7, q217_8, q217_9, q217_13, q217_14, q217_16, q217_17, q217_18, q217_19, kl_int, kl_ref, kl_tok, cS_nil, cS_int, cS_ref, cS_long, tl_some, tl_none, List.cons_append, List.nil_append, nI_add, nI_ltb, nI_leb, nI_eqb, nI_cl, zin_nI, h1, zkh_inl]
  · simp only [List.mem_cons, Prod.mk.injEq, List.not_mem_nil, or_false] at ha
    rcases ha with ⟨rfl, rfl⟩ | ⟨rfl, rfl⟩
    · rw [if_neg (by decide)] at h1
      have hz : zhn 217 0 (zE 1) = some (13, 3) := by decide +kernel
      have hl : (stB [.ref 0, .int x, .ref 146, tok] 3).set 3 tok = [.ref 0, .int x, .ref 146, tok] := rfl
      refine ⟨M', R', i', ?_, fun q => absurd q (by decide), h2, h3, h4⟩
      rw [e217]
      simp (disch := first | assumption | exact nar_b0 | exact nar_b1 | exact nar_b | exact Or.inl rfl | exact Or.inr rfl | exact zin_t (by omega) (by omega) | exact Nat.le_of_ble_eq_true rfl | (rw [nI_cl (by omega)]; assumption) | omega) only [↓reduceIte, reduceCtorEq, not_true_eq_false, not_false_eq_true, q217_0, q217_1, q217_2, q217_3, q217_4, q217_7, q217_8, q217_9, q217_13, q217_14, q217_16, q217_17, q217_18, q217_19, kl_int, kl_ref, kl_tok, cS_nil, cS_int, cS_ref, cS_long, tl_some, tl_none, List.cons_append, List.nil_append, nI_add, nI_ltb, nI_leb, nI_eqb, nI_cl, zin_nI, h1, zkh_inr, hl]
    · rw [if_neg (by decide)] at h1
      have hz : zhn 217 0 (zE 2) = some (16, 3) := by decide +kernel
      have hl : (stB [.ref 0, .int x, .ref 146, tok] 3).set 3 tok = [.ref 0, .int x, .ref 146, tok] := rfl
      refine ⟨M', R', i', ?_, fun q => absurd q (by decide), h2, h3, h4⟩
      rw [e217]
      simp (disch := first | assumption | exact nar_b0 | exact nar_b1 | exact nar_b | exact Or.inl rfl | exact Or.inr rfl | exact zin_t (by omega) (by omega) | exact Nat.le_of_ble_eq_true rfl | (rw [nI_cl (by omega)]; assumption) | omega) only [↓reduceIte, reduceCtorEq, not_true_eq_false, not_false_eq_true, q217_0, q217_1, q217_2, q217_3, q217_4, q217_7, q217_8, q217_9, q217_13, q217_14, q217_16, q217_17, q217_18, q217_19, kl_int, kl_ref, kl_tok, cS_nil, cS_int, cS_ref, cS_long, tl_some, tl_none, List.cons_append, List.nil_append, nI_add, nI_ltb, nI_leb, nI_eqb, nI_cl, zin_nI, h1, zkh_inr, hl]
theorem w_218 (hS : Sh R) (h : OutC (cal d 91 [.ref 0, .int x, .int y] M R) M R c e v G) (ha : c = 0 ∨ (e, c) ∈ ([(1, 1)] : List (Nat × Nat))) : WrO (cal (d + 1) 218 [.ref 0, .int x, .int y, .ref 146] M R) M R c v G := by
  obtain ⟨M', R', i', h1, h2, h3, h4⟩ := h
  have hS' := h2.1.1
  have nN := hS.1
  have nN' := hS'.1
  have eN : zN R' = zN R := by rw [nN, nN']
  have k0 := K0 hS
  have k146 := K146 hS'
  have l146 := L146 hS'
  rcases ha with rfl | ha
  · rw [if_pos rfl] at h1
    refine ⟨M', sJ R' 146 0 v.toInt64, i', ?_, fun _ => zJ_sJ, h2.sJ (by decide), h3, h4⟩
    rw [e218]
    simp (disch := first | assumption | exact nar_b0 | exact nar_b1 | exact nar_b | exact Or.inl rfl | exact Or.inr rfl | exact zin_t (by omega) (by omega) | exact Nat.le_of_ble_eq_true rfl | (rw [nI_cl (by omega)]; assumption) | omega) only [↓reduceIte, reduceCtorEq, not_true_eq_false, not_false_eq_true, q218_0, q218_1, q218_2, q218_3, q218_4, q218_5, q218_8, q218_9, q218_10, q218_15, q218_16, q218_17, q218_18, kl_int, kl_ref, kl_tok, cS_nil, cS_int, cS_ref, cS_long, tl_some, tl_none, List.cons_append, List.nil_append, nI_add, nI_ltb, nI_leb, nI_eqb, nI_cl, zin_nI, h1, zkh_inl]
  · simp only [List.mem_cons, Prod.mk.injEq, List.not_mem_nil, or_false] at ha
    rcases ha with ⟨rfl, rfl⟩
    · rw [if_neg (by decide)] at h1
      have hz : zhn 218 0 (zE 1) = some (15, 4) := by decide +kernel
      have hl : (stB [.ref 0, .int x, .int y, .ref 146, tok] 4).set 4 tok = [.ref 0, .int x, .int y, .ref 146, tok] := rfl
      refine ⟨M', R', i', ?_, fun q => absurd q (by decide), h2, h3, h4⟩
      rw [e218]
      simp (disch := first | assumption | exact nar_b0 | exact nar_b1 | exact nar_b | exact Or.inl rfl | exact Or.inr rfl | exact zin_t (by omega) (by omega) | exact Nat.le_of_ble_eq_true rfl | (rw [nI_cl (by omega)]; assumption) | omega) only [↓reduceIte, reduceCtorEq, not_true_eq_false, not_false_eq_true, q218_0, q218_1, q218_2, q218_3, q218_4, q218_5, q218_8, q218_9, q218_10, q218_15, q218_16, q218_17, q218_18, kl_int, kl_ref, kl_tok, cS_nil, cS_int, cS_ref, cS_long, tl_some, tl_none, List.cons_append, List.nil_append, nI_add, nI_ltb, nI_leb, nI_eqb, nI_cl, zin_nI, h1, zkh_inr, hl]
end Wa
