-- FROM THE SMALL MACHINE TO THE MACHINE: pictures of values, locals, cells
def tr (fx : Value) (ad : Nat → Nat) (v : Value) : Value := match v with
  | .ref a => .ref (ad a)
  | .retAddr 1 => fx
  | w => w
theorem tr_cat {fx : Value} {ad : Nat → Nat} (hfx : fx.category = 1) (v : Value) : (tr fx ad v).category = v.category := by
  cases v with
  | retAddr k =>
    unfold tr
    split
    · rename_i h; cases h
    · rw [hfx]; rfl
    · rfl
  | _ => rfl
theorem tr_cS {fx : Value} {ad : Nat → Nat} (hfx : fx.category = 1) (st : List Value) : ((st.map (tr fx ad)).map fun v => v.category).sum = cS st := by
  unfold cS
  rw [List.map_map]
  congr 1
  apply List.map_congr_left
  intro v _
  exact tr_cat hfx v
def okL (fx : Value) (ad : Nat → Nat) (lv : List Value) (ls : Array Slot) : Prop := ls.size = lv.length ∧ lv_wf ls ∧ ∀ (i : Nat) (v : Value), lv[i]? = some v → v ≠ tok → ls[i]? = some (.val (tr fx ad v))
def toL (fx : Value) (ad : Nat → Nat) (lv : List Value) : List (Nat × Value) := (List.range lv.length).filterMap (fun i => match lv[i]? with
  | some v => if v = tok then none else some (i, tr fx ad v)
  | none => none)
theorem toL_mem {fx : Value} {ad : Nat → Nat} {lv : List Value} {i : Nat} {w : Value} : (i, w) ∈ toL fx ad lv ↔ ∃ v, lv[i]? = some v ∧ v ≠ tok ∧ w = tr fx ad v := by
  unfold toL
  rw [List.mem_filterMap]
  constructor
  · rintro ⟨j, hj, h⟩
    cases hv : lv[j]? with
    | none => rw [hv] at h; cases h
    | some v =>
      rw [hv] at h
      simp only at h
      split at h
      · cases h
      · rename_i hne
        cases h
        exact ⟨v, hv, hne, rfl⟩
  · rintro ⟨v, hv, hne, rfl⟩
    have hl : i < lv.length := (List.getElem?_eq_some_iff.mp hv).1
    refine ⟨i, List.mem_range.mpr hl, ?_⟩
    rw [hv]
    simp only
    rw [if_neg hne]
theorem okL.has {fx : Value} {ad : Nat → Nat} {lv : List Value} {ls : Array Slot} (h : okL fx ad lv ls) : lv_has ls lv.length (toL fx ad lv) := by
  refine ⟨h.1, h.2.1, ?_⟩
  rintro ⟨i, w⟩ hq
  obtain ⟨v, h1, h2, rfl⟩ := toL_mem.mp hq
  exact h.2.2 i v h1 h2
theorem stB_len (lv : List Value) (i : Nat) : (stB lv i).length = lv.length := by
  cases i <;> simp [stB]
theorem stB_get {lv : List Value} {i j : Nat} (hj : j ≠ i) : (stB lv i)[j]? = if j + 1 = i then (lv[j]?).map kl else lv[j]? := by
  cases i with
  | zero => simp [stB]
  | succ k =>
    unfold stB
    by_cases e : j = k
    · subst e
      rw [if_pos rfl]
      by_cases hl : j < lv.length
      · simp [hl]
      · simp [hl]
    · rw [if_neg (by omega), List.getElem?_set_ne (fun q => e q.symm)]
theorem okL.store1 {fx : Value} {ad : Nat → Nat} {lv : List Value} {ls : Array Slot} {i : Nat} {v w9 : Value} (hfx : fx.category = 1) (hi : i < lv.length) (hv : v = tok ∨ w9 = tr fx ad v) (h : lv_has ls lv.length ((i, w9) :: (toL fx ad lv).filter (fun q => !(q.1 == i) && !(q.1 + 1 == i && q.2.category == 2)))) : okL fx ad ((stB lv i).set i v) ls := by
  refine ⟨by rw [h.1, List.length_set, stB_len], h.2.1, ?_⟩
  intro j w hj hne
  by_cases e : j = i
  · subst e
    rw [List.getElem?_set_self (by rw [stB_len]; exact hi)] at hj
    cases hj
    rcases hv with hv | hv
    · exact absurd hv hne
    · have := h.2.2 (j, w9) List.mem_cons_self
      rw [hv] at this
      exact this
  · rw [List.getElem?_set_ne (fun q => e q.symm), stB_get e] at hj
    have hw : lv[j]? = some w ∧ ¬ (j + 1 = i ∧ (tr fx ad w).category = 2) := by
      by_cases e2 : j + 1 = i
      · rw [if_pos e2] at hj
        cases hx : lv[j]? with
        | none => rw [hx] at hj; cases hj
        | some x =>
          rw [hx] at hj
          simp only [Option.map_some, Option.some.injEq] at hj
          unfold kl at hj
          split at hj
          · exact absurd hj.symm hne
          · rename_i hc
            subst hj
            refine ⟨rfl, fun ⟨_, c⟩ => hc ?_⟩
            rw [← tr_cat hfx (ad := ad)]
            exact c
      · rw [if_neg e2] at hj
        exact ⟨hj, fun ⟨c, _⟩ => e2 c⟩
    refine h.2.2 (j, tr fx ad w) (List.mem_cons_of_mem _ (List.mem_filter.mpr ⟨toL_mem.mpr ⟨w, hw.1, hne, rfl⟩, ?_⟩))
    have h2 := hw.2
    simp only [Bool.and_eq_true, Bool.not_eq_true', beq_eq_false_iff_ne, ne_eq]
    refine ⟨e, ?_⟩
    simp only [Bool.and_eq_false_iff, beq_eq_false_iff_ne, ne_eq]
    by_cases e2 : j + 1 = i
    · exact Or.inr (fun c => h2 ⟨e2, c⟩)
    · exact Or.inl e2
theorem okL.store2 {fx : Value} {ad : Nat → Nat} {lv : List Value} {ls : Array Slot} {i : Nat} {v : Value} (hfx : fx.category = 1) (hi : i + 1 < lv.length) (h : lv_has ls lv.length ((i, tr fx ad v) :: (toL fx ad lv).filter (fun q => !(q.1 == i) && (!(q.1 == i + 1) && !(q.1 + 1 == i && q.2.category == 2))))) : okL fx ad (((stB lv i).set i v).set (i + 1) tok) ls := by
  refine ⟨by rw [h.1, List.length_set, List.length_set, stB_len], h.2.1, ?_⟩
  intro j w hj hne
  by_cases e1 : j = i + 1
  · subst e1
    rw [List.getElem?_set_self (by rw [List.length_set, stB_len]; exact hi)] at hj
    cases hj
    exact absurd rfl hne
  rw [List.getElem?_set_ne (fun q => e1 q.symm)] at hj
  by_cases e : j = i
  · subst e
    rw [List.getElem?_set_self (by rw [stB_len]; omega)] at hj
    cases hj
    exact h.2.2 (j, tr fx ad v) List.mem_cons_self
  · rw [List.getElem?_set_ne (fun q => e q.symm), stB_get e] at hj
    have hw : lv[j]? = some w ∧ ¬ (j + 1 = i ∧ (tr fx ad w).category = 2) := by
      by_cases e2 : j + 1 = i
      · rw [if_pos e2] at hj
        cases hx : lv[j]? with
        | none => rw [hx] at hj; cases hj
        | some x =>
          rw [hx] at hj
          simp only [Option.map_some, Option.some.injEq] at hj
          unfold kl at hj
          split at hj
          · exact absurd hj.symm hne
          · rename_i hc
            subst hj
            refine ⟨rfl, fun ⟨_, c⟩ => hc ?_⟩
            rw [← tr_cat hfx (ad := ad)]
            exact c
      · rw [if_neg e2] at hj
        exact ⟨hj, fun ⟨c, _⟩ => e2 c⟩
    refine h.2.2 (j, tr fx ad w) (List.mem_cons_of_mem _ (List.mem_filter.mpr ⟨toL_mem.mpr ⟨w, hw.1, hne, rfl⟩, ?_⟩))
    have h2 := hw.2
    simp only [Bool.and_eq_true, Bool.not_eq_true', beq_eq_false_iff_ne, ne_eq]
    refine ⟨e, e1, ?_⟩
    simp only [Bool.and_eq_false_iff, beq_eq_false_iff_ne, ne_eq]
    by_cases e2 : j + 1 = i
    · exact Or.inr (fun c => h2 ⟨e2, c⟩)
    · exact Or.inl e2
/-- the entry's locals -/
theorem zlay_len (vs : List Value) {fx : Value} {ad : Nat → Nat} (hfx : fx.category = 1) : (lg_sl (vs.map (tr fx ad))).length = (zlay vs).length := by
  induction vs with
  | nil => rfl
  | cons v r ih =>
    unfold zlay
    show ((if (tr fx ad v).category = 2 then [Slot.val (tr fx ad v), Slot.second] else [Slot.val (tr fx ad v)]) ++ lg_sl (r.map (tr fx ad))).length = _
    rw [tr_cat hfx]
    by_cases h : v.category = 2
    · rw [if_pos h, if_pos h]
      simp [ih]
    · rw [if_neg h, if_neg h]
      simp [ih]
theorem zlay_args {fx : Value} {ad : Nat → Nat} (hfx : fx.category = 1) : ∀ (vs : List Value) (k i : Nat) (v : Value), (zlay vs)[i]? = some v → v ≠ tok → (k + i, tr fx ad v) ∈ lv_args k (vs.map (tr fx ad)) := by
  intro vs
  induction vs with
  | nil => intro k i v h; simp [zlay] at h
  | cons x r ih =>
    intro k i v h hne
    unfold zlay at h
    rw [List.map_cons, lv_args, tr_cat hfx]
    by_cases hc : x.category = 2
    · rw [if_pos hc] at h ⊢
      match i, h with
      | 0, h => simp at h; subst h; exact List.mem_cons_self
      | 1, h => simp at h; exact absurd h.symm hne
      | i + 2, h =>
        have := ih (k + 2) i v (by simpa using h) hne
        rw [show k + (i + 2) = k + 2 + i by omega]
        exact List.mem_cons_of_mem _ this
    · rw [if_neg hc] at h ⊢
      match i, h with
      | 0, h => simp at h; subst h; exact List.mem_cons_self
      | i + 1, h =>
        have := ih (k + 1) i v (by simpa using h) hne
        rw [show k + (i + 1) = k + 1 + i by omega]
        exact List.mem_cons_of_mem _ this
theorem okL.entry {fx : Value} {ad : Nat → Nat} {vs : List Value} {cm : Nat} (hfx : fx.category = 1) (h : (zlay vs).length ≤ zmx cm) : okL fx ad (zent cm vs) ((lg_sl (vs.map (tr fx ad)) ++ List.replicate (zmx cm - (lg_sl (vs.map (tr fx ad))).length) Slot.unset).toArray) := by
  have hl := lv_entry (vs.map (tr fx ad)) (n := zmx cm) (by rw [zlay_len vs hfx]; exact h)
  refine ⟨?_, hl.2.1, ?_⟩
  · rw [hl.1]
    unfold zent
    rw [List.length_append, List.length_replicate]
    omega
  · intro i v hi hne
    unfold zent at hi
    by_cases hlt : i < (zlay vs).length
    · rw [List.getElem?_append_left hlt] at hi
      have := zlay_args hfx (ad := ad) vs 0 i v hi hne
      rw [Nat.zero_add] at this
      exact hl.2.2 _ this
    · rw [List.getElem?_append_right (by omega), List.getElem?_replicate] at hi
      split at hi
      · cases hi; exact absurd rfl hne
      · cases hi
