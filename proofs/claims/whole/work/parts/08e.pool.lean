-- what a pool's entry says, in words of the tables
theorem zp_spec {oc idx kd a b : Nat} (h : zp oc idx = (kd, a, b)) (hk : kd ≠ 0) : (idx, kd, a, b) ∈ zpool.getD oc [] ∧ oc < 15 := by
  unfold zp at h
  split at h
  · rename_i q hq
    have h1 := List.mem_of_find?_eq_some hq
    have h2 := List.find?_some hq
    simp only [beq_iff_eq] at h2
    obtain ⟨q1, q2⟩ := q
    simp only at h h2
    subst h2
    subst h
    refine ⟨h1, ?_⟩
    by_cases ho : oc < 15
    · exact ho
    · have : zpool.getD oc [] = [] := by
        rw [List.getD_eq_getElem?_getD, List.getElem?_eq_none (by show 15 ≤ oc; omega)]
        rfl
      rw [this] at h1
      cases h1
  · simp only [Prod.mk.injEq] at h
    exact absurd h.1.symm hk
theorem zp_cov' {oc idx kd a b : Nat} (h : zp oc idx = (kd, a, b)) (hk : kd ≠ 0) : ((!(kd == 1) || zfl.any (fun r => r.2 == (oc, idx, a, b))) && (!(kd == 2) || zml.any (fun r => r.2 == (oc, idx, a, b, 0))) && (!(kd == 16) || zml.any (fun r => r.2 == (oc, idx, a, b, 2))) && (!(kd == 17) || zml.any (fun r => r.2 == (oc, idx, a, b, 1))) && (!(kd == 3) || znl.any (fun r => r.2.1 == oc && r.2.2.1 == idx && r.2.2.2.1 == a && r.2.2.2.2.1 == b)) && (!(kd == 8) || zsl.any (fun r => r.2 == (oc, idx, a)))) = true := by
  obtain ⟨h1, h2⟩ := zp_spec h hk
  have := List.all_eq_true.mp zp_cov oc (List.mem_range.mpr h2)
  exact List.all_eq_true.mp this _ h1
theorem ckW_good {i : Nat} {w : Cond} (h : ckW i w = true) : w ∈ lw_good := by
  unfold ckW at h
  simp only [Bool.and_eq_true, decide_eq_true_eq] at h
  exact lw_good_of h.1 h.2
theorem zpF {oc idx ci k : Nat} (h : zp oc idx = (1, ci, k)) : Cond.fieldLink (zcnm oc) idx (zTT ci k).1 (zTT ci k).2.1 (zTT ci k).2.2.1 ∈ lw_good ∧ ci < 9 ∧ k < zNN ci := by
  have h1 := zp_cov' h (by decide)
  simp at h1
  obtain ⟨pl, hm⟩ := h1
  have h2 := List.all_eq_true.mp zfl_ok _ hm
  unfold ckF at h2
  simp only [Bool.and_eq_true, decide_eq_true_eq] at h2
  exact ⟨ckW_good h2.1.1, h2.1.2, h2.2⟩
theorem zpM' {pl oc idx cm n fl : Nat} (hm : (pl, oc, idx, cm, n, fl) ∈ zml) : Cond.methodLink (zcnm oc) idx (zyn cm) ∈ lw_good ∧ (parseMethodDescriptor (zyn cm).desc).map (fun d => d.parameters.length) = some n ∧ ∃ q ∈ zmf, q.1 = cm ∧ q.2.2.1 = fl := by
  have h2 := List.all_eq_true.mp zml_ok _ hm
  unfold ckM at h2
  simp only [Bool.and_eq_true, decide_eq_true_eq] at h2
  have h3 := List.all_eq_true.mp zmf_cov _ hm
  simp only [List.any_eq_true, Bool.and_eq_true, beq_iff_eq] at h3
  exact ⟨ckW_good h2.1, h2.2, h3⟩
theorem zpV {oc idx cm n : Nat} (h : zp oc idx = (2, cm, n)) : Cond.methodLink (zcnm oc) idx (zyn cm) ∈ lw_good ∧ (parseMethodDescriptor (zyn cm).desc).map (fun d => d.parameters.length) = some n ∧ ∃ q ∈ zmf, q.1 = cm ∧ q.2.2.1 = 0 := by
  have h1 := zp_cov' h (by decide)
  simp at h1
  obtain ⟨pl, hm⟩ := h1
  exact zpM' hm
theorem zpI {oc idx cm n : Nat} (h : zp oc idx = (16, cm, n)) : Cond.methodLink (zcnm oc) idx (zyn cm) ∈ lw_good ∧ (parseMethodDescriptor (zyn cm).desc).map (fun d => d.parameters.length) = some n ∧ ∃ q ∈ zmf, q.1 = cm ∧ q.2.2.1 = 2 := by
  have h1 := zp_cov' h (by decide)
  simp at h1
  obtain ⟨pl, hm⟩ := h1
  exact zpM' hm
theorem zpT {oc idx cm n : Nat} (h : zp oc idx = (17, cm, n)) : Cond.methodLink (zcnm oc) idx (zyn cm) ∈ lw_good ∧ (parseMethodDescriptor (zyn cm).desc).map (fun d => d.parameters.length) = some n ∧ ∃ q ∈ zmf, q.1 = cm ∧ q.2.2.1 = 1 := by
  have h1 := zp_cov' h (by decide)
  simp at h1
  obtain ⟨pl, hm⟩ := h1
  exact zpM' hm
theorem zpN {oc idx ci n : Nat} (h : zp oc idx = (3, ci, n)) : Cond.classLink (zcnm oc) idx (zcnm ci) ∈ lw_good ∧ Cond.instantiable (zcnm ci) n ∈ lw_good ∧ Cond.initialized (zcnm ci) ∈ lw_good ∧ ci < 8 ∧ zNN ci = n := by
  have h1 := zp_cov' h (by decide)
  simp at h1
  obtain ⟨pl, p1, p2, hm⟩ := h1
  have h2 := List.all_eq_true.mp znl_ok _ hm
  unfold ckN at h2
  simp only [Bool.and_eq_true, decide_eq_true_eq] at h2
  exact ⟨ckW_good h2.1.1.1.1, ckW_good h2.1.1.1.2, ckW_good h2.1.1.2, h2.1.2, h2.2⟩
theorem zpS {oc idx j b : Nat} (h : zp oc idx = (8, j, b)) : ∃ pl, (pl, oc, idx, j) ∈ zsl := by
  have h1 := zp_cov' h (by decide)
  simp at h1
  exact h1
theorem zmfs {q : Nat × Nat × Nat × Nat × Nat × Nat} (hq : q ∈ zmf) : Cond.initialized (zyn q.1).cls ∈ lw_good ∧ (zyn q.1).cls = zcnm (zoc q.1) ∧ plainName (zyn q.1).cls = true ∧ (q.2.2.1 = 0 → Cond.instanceMethod (zyn q.1) ∈ lw_good ∧ Cond.selects (zyn q.1).cls (zyn q.1) (zyn q.1) ∈ lw_good ∧ zhh q.1 = []) ∧ (q.2.2.1 = 1 → Cond.static (zyn q.1) ∈ lw_good) ∧ (q.2.2.1 ≠ 0 → q.2.2.1 ≠ 1 → Cond.instanceMethod (zyn q.1) ∈ lw_good ∧ (zyn q.1).name = "<init>" ∧ zrt q.1 = none ∧ zhh q.1 = []) := by
  have h := List.all_eq_true.mp zmf_ok _ hq
  unfold ckQ at h
  simp only [Bool.and_eq_true, Bool.or_eq_true, decide_eq_true_eq] at h
  obtain ⟨⟨⟨⟨h1, h2⟩, h3⟩, h4⟩, h5⟩ := h
  refine ⟨ckW_good h1, h2, h3, fun e => ?_, fun e => ?_, fun e e' => ?_⟩
  · rw [if_pos e] at h4
    simp only [Bool.and_eq_true, decide_eq_true_eq] at h4
    refine ⟨ckW_good h4.1, lw_good_of2 h4.2.1 h4.2.2, h5.elim id (fun q => absurd q (by omega))⟩
  · rw [if_neg (by omega), if_pos e] at h4
    exact ckW_good h4
  · rw [if_neg e, if_neg e'] at h4
    simp only [Bool.and_eq_true, decide_eq_true_eq] at h4
    exact ⟨ckW_good h4.1.1.1, h4.1.1.2, h4.1.2, h4.2⟩
theorem zmf_lt : zmf.all (fun q => decide (q.1 < 219 ∨ q.1 = 220 ∨ q.1 = 221)) = true := by decide +kernel
theorem zcw_good {q : Nat × Nat × Nat × Nat × Nat × Nat} (hq : q ∈ zmf) : zcw q.1 ∈ lw_good := by
  have h := of_decide_eq_true (List.all_eq_true.mp zmf_lt _ hq)
  rcases h with h | h | h
  · exact cwU_219 _ h
  · rw [h]; exact cw_220
  · rw [h]; exact cw_221
theorem zTT_cl : ∀ ci, ci < 8 → vwCl[ci]? = some (zcnm ci, zTT ci, zNN ci) := by
  intro ci h
  match ci, h with
  | 0, _ => rfl
  | 1, _ => rfl
  | 2, _ => rfl
  | 3, _ => rfl
  | 4, _ => rfl
  | 5, _ => rfl
  | 6, _ => rfl
  | 7, _ => rfl
  | n + 8, h => omega
def zty (ci : Nat) : Nat → FieldType := match ci with
  | 0 => tyX0
  | 1 => tyX1
  | 2 => tyX2
  | 3 => tyX3
  | 4 => tyX4
  | 5 => tyX5
  | 6 => tyX6
  | _ => tyX7
theorem zty_ok : ∀ ci, ci < 8 → ∀ k, k < zNN ci → parseFieldDescriptor (zTT ci k).2.2.1 = some (zty ci k) := by
  intro ci h
  match ci, h with
  | 0, _ => exact tyX0_ok
  | 1, _ => exact tyX1_ok
  | 2, _ => exact tyX2_ok
  | 3, _ => exact tyX3_ok
  | 4, _ => exact tyX4_ok
  | 5, _ => exact tyX5_ok
  | 6, _ => exact tyX6_ok
  | 7, _ => exact tyX7_ok
  | n + 8, h => omega
theorem znm_ok : ∀ ci, ci < 8 → ∀ a, a < zNN ci → ∀ b, b < zNN ci → a ≠ b → (zTT ci a).2.1 ≠ (zTT ci b).2.1 := by
  intro ci h
  match ci, h with
  | 0, _ => exact nmX0
  | 1, _ => exact nmX1
  | 2, _ => exact nmX2
  | 3, _ => exact nmX3
  | 4, _ => exact nmX4
  | 5, _ => exact nmX5
  | 6, _ => exact nmX6
  | 7, _ => exact nmX7
  | n + 8, h => omega
theorem lay_in {ci : Nat} {pls : List Nat} (h1 : (List.range (zNN ci)).map (fun k => tables_1[pls.getD k 0]?) = (u_ws (zcnm ci) (zTT ci) (zNN ci)).map some) (h2 : (u_ws (zcnm ci) (zTT ci) (zNN ci)).all goodWord = true) : ∀ w ∈ u_ws (zcnm ci) (zTT ci) (zNN ci), w ∈ lw_good := by
  intro w hw
  have : some w ∈ (u_ws (zcnm ci) (zTT ci) (zNN ci)).map some := List.mem_map.mpr ⟨w, hw, rfl⟩
  rw [← h1] at this
  obtain ⟨k, -, hk⟩ := List.mem_map.mp this
  exact lw_good_of hk (List.all_eq_true.mp h2 w hw)
theorem zlays : ∀ ci, ci < 8 → ∀ w ∈ u_ws (zcnm ci) (zTT ci) (zNN ci), w ∈ lw_good := by
  intro ci h
  match ci, h with
  | 0, _ => exact lay_in lay_0 layg_0
  | 1, _ => exact lay_in lay_1 layg_1
  | 2, _ => exact lay_in lay_2 layg_2
  | 3, _ => exact lay_in lay_3 layg_3
  | 4, _ => exact lay_in lay_4 layg_4
  | 5, _ => exact lay_in lay_5 layg_5
  | 6, _ => exact lay_in lay_6 layg_6
  | 7, _ => exact lay_in lay_7 layg_7
  | n + 8, h => omega
theorem zft_ty : (List.range 8).all (fun ci => (List.range (zNN ci)).all (fun k => match zty ci k with
  | .int => zft ci k == 0
  | .boolean => zft ci k == 1
  | .array _ => zft ci k == 2
  | .object _ => zft ci k == 2
  | _ => false)) = true := by decide +kernel
theorem zft_int {ci k : Nat} (hc : ci < 8) (hk : k < zNN ci) : (zft ci k = 0 ∧ zty ci k = .int) ∨ (zft ci k = 1 ∧ zty ci k = .boolean) ∨ (zft ci k = 2 ∧ ((∃ t, zty ci k = .array t) ∨ ∃ n, zty ci k = .object n)) := by
  have h := List.all_eq_true.mp (List.all_eq_true.mp zft_ty ci (List.mem_range.mpr hc)) k (List.mem_range.mpr hk)
  cases ht : zty ci k with
  | int => rw [ht] at h; exact Or.inl ⟨by simpa using h, rfl⟩
  | boolean => rw [ht] at h; exact Or.inr (Or.inl ⟨by simpa using h, rfl⟩)
  | array t => rw [ht] at h; exact Or.inr (Or.inr ⟨by simpa using h, Or.inl ⟨t, rfl⟩⟩)
  | object n => rw [ht] at h; exact Or.inr (Or.inr ⟨by simpa using h, Or.inr ⟨n, rfl⟩⟩)
  | _ => rw [ht] at h; cases h
theorem zfin_int : (List.range 8).all (fun ci => (List.range (zNN ci)).all (fun k => (zft ci k == 2) || !(zTT ci k).2.2.2)) = true := by decide +kernel
theorem zdecl : (List.range 8).all (fun ci => (List.range (zNN ci)).all (fun k => (zTT ci k).1 == zcnm ci)) = true := by decide +kernel
