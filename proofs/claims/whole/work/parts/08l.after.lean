theorem zhn_row {r : Nat × Nat × Nat × Nat × Nat × Nat × Nat × Nat} (hr : r ∈ zhnT) : zoc r.1 = 9 ∧ Cond.classLink (zcnm 9) r.2.2.2.2.2.2.2 (zE r.2.1) ∈ lw_good ∧ r.2.2.2.2.2.2.2 ≠ 0 ∧ r.2.2.2.2.1 < zmx r.1 ∧ ((r.2.2.2.2.1 < 4 ∧ decode (zcod r.1) r.2.2.1 = .ok (.astore_n (Fin.ofNat 4 r.2.2.2.2.1), 1) ∧ r.2.2.2.1 = r.2.2.1 + 1) ∨ (decode (zcod r.1) r.2.2.1 = .ok (.astore r.2.2.2.2.1, 2) ∧ r.2.2.2.1 = r.2.2.1 + 2)) := by
  obtain ⟨i, hi⟩ := zip_mem _ _ zhn_len zhn_ok r hr
  unfold ckH at hi
  simp only [Bool.and_eq_true, decide_eq_true_eq] at hi
  obtain ⟨⟨⟨⟨h1, h2⟩, h3⟩, h4⟩, h5⟩ := hi
  refine ⟨h1, ckW_good h2, h3, h4, ?_⟩
  split at h5
  · rename_i hlt
    simp only [Bool.and_eq_true, decide_eq_true_eq] at h5
    exact Or.inl ⟨hlt, h5⟩
  · simp only [Bool.and_eq_true, decide_eq_true_eq] at h5
    exact Or.inr h5
def zrowE (q : Nat × Nat × Nat × Nat × Nat × Nat × Nat × Nat) : ExceptionTableEntry := ⟨q.2.2.2.2.2.1, q.2.2.2.2.2.2.1, q.2.2.1, q.2.2.2.2.2.2.2⟩
theorem ztab (mi : Nat) : tableOf (zhh mi) = (zhnT.filter (fun q => q.1 == mi)).map zrowE := by
  unfold tableOf zhh
  rw [List.map_map]
  rfl
theorem zhn_none {mi pc : Nat} {E : String} (h : zhn mi pc E = none) : ∀ z ∈ tableOf (zhh mi), covers z pc = false ∨ ∃ r ∈ zhnT, r.1 = mi ∧ z = zrowE r ∧ zE r.2.1 ≠ E := by
  intro z hz
  rw [ztab] at hz
  obtain ⟨r, hr, rfl⟩ := List.mem_map.mp hz
  obtain ⟨hr1, hr2⟩ := List.mem_filter.mp hr
  unfold zhn at h
  rw [Option.map_eq_none_iff, List.find?_eq_none] at h
  have := h r hr1
  simp only [hr2, Bool.true_and, Bool.and_eq_true, decide_eq_true_eq, beq_iff_eq] at this
  by_cases hE : zE r.2.1 = E
  · refine Or.inl ?_
    show (decide (r.2.2.2.2.2.1 ≤ pc) && decide (pc < r.2.2.2.2.2.2.1)) = false
    rw [Bool.and_eq_false_iff, decide_eq_false_iff_not, decide_eq_false_iff_not]
    by_cases q : r.2.2.2.2.2.1 ≤ pc
    · exact Or.inr (fun q2 => this ⟨⟨hE, q⟩, q2⟩)
    · exact Or.inl q
  · exact Or.inr ⟨r, hr1, by simpa using hr2, rfl, hE⟩
theorem zhn_some {mi pc hp i : Nat} {E : String} (h : zhn mi pc E = some (hp, i)) : ∃ (r : Nat × Nat × Nat × Nat × Nat × Nat × Nat × Nat) (pre suf : List ExceptionTableEntry), r ∈ zhnT ∧ r.1 = mi ∧ zE r.2.1 = E ∧ r.2.2.2.1 = hp ∧ r.2.2.2.2.1 = i ∧ covers (zrowE r) pc = true ∧ tableOf (zhh mi) = pre ++ zrowE r :: suf ∧ ∀ z ∈ pre, covers z pc = false ∨ ∃ r ∈ zhnT, r.1 = mi ∧ z = zrowE r ∧ zE r.2.1 ≠ E := by
  unfold zhn at h
  rw [Option.map_eq_some_iff] at h
  obtain ⟨r, hf, he⟩ := h
  have he1 : r.2.2.2.1 = hp := (Prod.mk.inj he).1
  have he2 : r.2.2.2.2.1 = i := (Prod.mk.inj he).2
  obtain ⟨hp1, as, bs, hsplit, hnot⟩ := List.find?_eq_some_iff_append.mp hf
  simp only [Bool.and_eq_true, decide_eq_true_eq, beq_iff_eq] at hp1
  refine ⟨r, (as.filter (fun q => q.1 == mi)).map zrowE, (bs.filter (fun q => q.1 == mi)).map zrowE, List.mem_of_find?_eq_some hf, hp1.1.1.1, hp1.1.1.2, he1, he2, ?_, ?_, ?_⟩
  · show (decide (r.2.2.2.2.2.1 ≤ pc) && decide (pc < r.2.2.2.2.2.2.1)) = true
    rw [Bool.and_eq_true, decide_eq_true_eq, decide_eq_true_eq]
    exact ⟨hp1.1.2, hp1.2⟩
  · rw [ztab]
    generalize zhnT = Z at hsplit
    subst hsplit
    rw [List.filter_append, List.filter_cons_of_pos (by simpa using hp1.1.1.1), List.map_append, List.map_cons]
  · intro z hz
    obtain ⟨x, hx, rfl⟩ := List.mem_map.mp hz
    obtain ⟨hx1, hx2⟩ := List.mem_filter.mp hx
    have h1 := hnot x hx1
    simp only [hx2, Bool.true_and] at h1
    have hmem : x ∈ zhnT := by rw [hsplit]; exact List.mem_append_left _ hx1
    by_cases hE : zE x.2.1 = E
    · refine Or.inl ?_
      show (decide (x.2.2.2.2.2.1 ≤ pc) && decide (pc < x.2.2.2.2.2.2.1)) = false
      simp only [hE, beq_self_eq_true, Bool.true_and] at h1
      simp at h1
      rw [Bool.and_eq_false_iff, decide_eq_false_iff_not, decide_eq_false_iff_not]
      omega
    · exact Or.inr ⟨x, hmem, by simpa using hx2, rfl, hE⟩

section Sound
variable {l : Launch} {D : va_G} {B0 : Nat} {fa : Nat → Nat} {fx : Value} {FM : ZM} {FS : ZH}
variable {p : Program} {e : Env} {R : Room} {s : State} {m : MethodId} {args : Array Value} {below : List Frame} {meth : Method} {c : Code} {Q : State → Prop}
variable {n0 c0 s0 : Nat} {ad0 : Nat → Nat} {mi d pc : Nat} {lv r : List Value} {h : Hp}

set_option maxHeartbeats 2000000 in
theorem sd_after (C : zCtx B0 fa fx FM FS p R s m args meth c mi d) {o o1 : ZO} {st0 : List Value} {aa : Array Value} {ini : Bool} (hq : Q = vx_MQ below (zQc D B0 fa fx FM FS n0 ad0 o) (zXC D B0 fa FM FS n0 ad0 o) args s (zC o.2.2 - c0) (zL o.2.2 - s0) (zA B0)) (hlv : lv.length = zmx mi) (hge : c0 ≤ zC h.2 ∧ s0 ≤ zL h.2) (hmo : zC h.2 ≤ zC o1.2.2 ∧ zL h.2 ≤ zL o1.2.2)
    (k1 : ∀ v, o1.1 = .inl v → zaft ini h o1.2 lv r = true ∧ zGd l D B0 fa fx FM FS p e R s m args below meth c Q n0 c0 s0 ad0 (pc + 3) (lv) (v.toList ++ r) (o1.2))
    (k2 : ∀ E, o1.1 = .inr E → (∃ e1, E = zE e1) ∧ ((zhn mi pc E = none ∧ o = (.inr E, o1.2)) ∨ ∃ hp i, zhn mi pc E = some (hp, i) ∧ zN o1.2.2 = zN h.2 ∧ zGd l D B0 fa fx FM FS p e R s m args below meth c Q n0 c0 s0 ad0 (hp) ((stB lv i).set i tok) ([]) (o1.2)))
    {ad : Nat → Nat} {cf : Nat → ClassId} {tys : List (ClassId × FieldType)} {H : Heap} {locs : List Loc} {ls : Array Slot} (I : zInv D B0 fa fx FM FS s n0 ad0 lv h ad cf tys H locs ls)
    (hr : vx_Run p l e R s m args below meth c H locs (zC h.2 - c0) (zL h.2 - s0) (zC o1.2.2 - zC h.2) (zL o1.2.2 - zL h.2) (F0 m pc ls st0) (r.map (tr fx ad)) (zQc D B0 fa fx FM FS (zN h.2) ad o1 aa) (zXC D B0 fa FM FS (zN h.2) ad o1) (zA B0)) :
    W p l e R s m args below meth c H locs (zC h.2 - c0) (zL h.2 - s0) Q (F0 m pc ls st0) := by
  have ec : zC h.2 - c0 + (zC o1.2.2 - zC h.2) = zC o1.2.2 - c0 := by omega
  have es : zL h.2 - s0 + (zL o1.2.2 - zL h.2) = zL o1.2.2 - s0 := by omega
  refine zW_run hr I.2.2.1 ?_ ?_
  · intro v st₀ t locs1 h0 hal hqc hS
    obtain ⟨v0, ad', cf', tys', hv0, hout, hK, hR, hF, hag⟩ := hqc
    obtain ⟨hz, kk⟩ := k1 v0 hv0
    have hout' : v = v0.map (tr fx ad') := by injection hout
    have hsame := tr_same (fx := fx) hag hR.2.2.2.2.2.1 hz
    have g := kk ad' cf' tys' t.heap locs1 ls ⟨va_K.moved hal.symm hK, hR, hS hF, I.2.2.2.1.same hsame.1, zag_keep I.2.2.2.2 hag⟩
    have est : (v0.toList ++ r).map (tr fx ad') = v.toList ++ r.map (tr fx ad) := by
      rw [List.map_append, hout', List.map_congr_left hsame.2]
      cases v0 <;> rfl
    rw [est] at g
    rw [ec, es]
    exact g
  · intro q st₀ t locs1 E ce h0 hal hxc hce hv hcl hS
    obtain ⟨ad', cf', tys', hE, hK, hR, hF, hag⟩ := hxc
    obtain ⟨⟨e1, he1⟩, k3⟩ := k2 E hE
    rw [ec, es]
    have hS' := hS hF
    have pass : ∀ z : ExceptionTableEntry, (covers z pc = false ∨ ∃ r ∈ zhnT, r.1 = mi ∧ z = zrowE r ∧ zE r.2.1 ≠ E) → covers z pc = false ∨ (z.catchType ≠ 0 ∧ ∃ nm : String, (Cond.classLink (zcnm (zoc mi)) z.catchType nm).before args s = true ∧ va_Nc E nm s) := by
      intro z hz
      rcases hz with g | ⟨rr, hrr, hrm, rfl, hne⟩
      · exact Or.inl g
      · obtain ⟨w1, w2, w3, -, -⟩ := zhn_row hrr
        rw [hrm] at w1
        refine Or.inr ⟨w3, zE rr.2.1, ?_, ?_⟩
        · rw [w1]
          exact C.2.2.2.2.2.1 _ w2
        · rw [he1]
          exact C.2.2.2.2.2.2.2.2.2.1.2.2.2.2.2.2.2.1.2.1 e1 rr.2.1 (by rw [← he1]; exact fun q9 => hne q9.symm)
    rcases k3 with ⟨hn, ho⟩ | ⟨hp, i, hn, hN, kk⟩
    · rw [hq]
      subst ho
      refine vx_outP C.2.2.2.2.1 C.2.2.2.2.2.2.1 (fun z hz => pass z (zhn_none hn z (by rw [← C.2.2.2.2.2.2.2.2.1]; exact hz))) hce hv hcl ?_ hS'.2.2 (Nat.le_refl _) (Nat.le_refl _)
      intro t' ht' hal'
      exact ⟨ad', cf', tys', rfl, va_K.moved (hal.symm.trans hal') hK, by rw [ht']; exact hR, by have := hS'.F (t := t') ht'; exact this, zag_keep I.2.2.2.2 hag⟩
    · obtain ⟨rr, pre, suf, hrr, hrm, hrE, hr1, hr2, hcov, hsplit, hpre⟩ := zhn_some hn
      obtain ⟨w1, w2, w3, w4, w5⟩ := zhn_row hrr
      rw [hrm] at w1 w4 w5
      rw [hr2] at w4 w5
      rw [hr1] at w5
      have hlink : (Cond.classLink (zcnm (zoc mi)) (zrowE rr).catchType (zE rr.2.1)).before args s = true := by
        rw [w1]
        exact C.2.2.2.2.2.1 _ w2
      have hcast : (Cond.castable E (zE rr.2.1)).before args s = true := by
        rw [hrE, he1]
        exact (C.2.2.2.2.2.2.2.2.2.1.2.2.2.2.2.2.2.1.1 e1).use rfl
      have hsame := tr_same (fx := fx) (ini := false) (st := []) (lv := lv) hag hR.2.2.2.2.2.1 (by unfold zaft; rw [decide_eq_true hN]; rfl)
      have hok : okL fx ad' lv ls := I.2.2.2.1.same hsame.1
      have hst : ∀ ls' : Array Slot, lv_has ls' lv.length ((i, .ref q) :: (toL fx ad' lv).filter (fun q => !(q.1 == i) && !(q.1 + 1 == i && q.2.category == 2))) → W p l e R s m args below meth c t.heap locs1 (zC o1.2.2 - c0) (zL o1.2.2 - s0) Q (F0 m hp ls' []) := by
        intro ls' hl'
        have g := kk ad' cf' tys' t.heap locs1 ls' ⟨va_K.moved hal.symm hK, hR, hS', okL.store1 C.2.2.2.2.2.2.2.2.2.1.2.2.2.2.2.2.2.2.2.1 (by rw [hlv]; exact w4) (Or.inl rfl) hl', zag_keep I.2.2.2.2 hag⟩
        exact g
      refine vx_catch C.2.2.2.2.1 pre (zrowE rr) suf (by rw [C.2.2.2.2.2.2.2.2.1]; exact hsplit) (fun z hz => pass z (hpre z hz)) hcov w3 hlink hcast hce hv hcl ?_
      rcases w5 with ⟨h4, hd, hh⟩ | ⟨hd, hh⟩
      · have e5 : hp = rr.2.2.1 + 1 := hh
        subst e5
        exact lv_astore_n C.1 C.2.1 hd (by show i % 4 = i; omega) hok.has (by rw [hlv]; exact w4) rfl hst
      · have e5 : hp = rr.2.2.1 + 2 := hh
        subst e5
        exact lv_astore C.1 C.2.1 hd hok.has (by rw [hlv]; exact w4) rfl hst

end Sound
