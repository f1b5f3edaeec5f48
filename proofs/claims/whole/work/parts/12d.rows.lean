-- who is not struck, out of the row
def rwL (f : Nat → Int32) : List Nat := (List.range (ln f)).map (rw f)
def stS (f : Nat → Int32) : Nat := setB (fun k => stk f (rw f k)) (ln f)
theorem rwL_len {f : Nat → Int32} : (rwL f).length = ln f := by simp [rwL]
theorem rwL_get {f : Nat → Int32} {k : Nat} (h : k < (rwL f).length) : (rwL f)[k] = rw f k := by simp [rwL]
theorem RowL_map {f : Nat → Int32} : RowL f = (rwL f).map (pers f) := by
  unfold RowL rwL
  rw [List.map_map]
  rfl
theorem stN_eq {f : Nat → Int32} : stN f (RowL f) = stS f := by
  unfold stN stS
  rw [RowL_len]
  apply setB_cong
  intro k hk
  unfold nmK
  rw [getD_lt (by rw [RowL_len]; exact hk), RowL_get]
  rfl
theorem stS_lt {f : Nat → Int32} : stS f < 2 ^ ln f := setB_lt _ _
theorem stS_bit {f : Nat → Int32} {k : Nat} (h : k < ln f) : (stS f).testBit k = stk f (rw f k) := by
  unfold stS
  rw [setB_bit, decide_eq_true h, Bool.true_and]
theorem tkF_rem {f : Nat → Int32} {x : Int32} {S : Nat} : ∀ (m j : Nat), j + m = ln f → (∀ k, j ≤ k → k < ln f → S.testBit k = decide (f (92 + k) = x ∨ stk f (rw f k) = true)) → tkF f x m j = remI ((rwL f).drop j) S j := by
  intro m
  induction m with
  | zero =>
    intro j hj _
    rw [remI_end (by rw [rwL_len]; omega)]
    rfl
  | succ m ih =>
    intro j hj hS
    have hl : j < (rwL f).length := by rw [rwL_len]; omega
    rw [remI_step hl, tkF, ih (j + 1) (by omega) (fun k h1 h2 => hS k (by omega) h2), hS j (Nat.le_refl _) (by omega), rwL_get]
    by_cases h : f (92 + j) = x ∨ stk f (rw f j) = true
    · rw [if_pos h, if_pos (decide_eq_true h)]
    · rw [if_neg h, if_neg (by simpa using h)]
theorem UL_rem {f : Nat → Int32} (hW : Wf f) : UL f = rem (rwL f) (stS f) := by
  have h := tkF_rem (f := f) (x := -1) (S := stS f) (ln f) 0 (by omega) (fun k _ hk => by
    rw [stS_bit hk]
    have h1 := hW.2.2.1 k hk
    have hw := hW.nums
    have : ¬ f (92 + k) = -1 := by
      rw [h1.1, nI_m1 (by omega)]
      exact id
    simp [this])
  rw [tkF_m1 hW _ _ (by omega)] at h
  exact h
theorem Un_rem {f : Nat → Int32} (hW : Wf f) : rem (RowL f) (stS f) = Un f := by
  rw [RowL_map, rem_map, ← UL_rem hW]
  rfl
theorem rw_inj {f : Nat → Int32} (hW : Wf f) {i j : Nat} (hi : i < ln f) (hj : j < ln f) (h : rw f i = rw f j) : i = j := by
  rcases Nat.lt_trichotomy i j with h1 | h1 | h1
  · have := hW.2.2.2.1 i j h1 hj; omega
  · exact h1
  · have := hW.2.2.2.1 j i h1 hi; omega
theorem Tk_rem {f : Nat → Int32} (hW : Wf f) {p : Nat} (hp : p < ln f) : rem (RowL f) (stS f ||| 2 ^ p) = Tk f (nI (rw f p)) := by
  have h := tkF_rem (f := f) (x := nI (rw f p)) (S := stS f ||| 2 ^ p) (ln f) 0 (by omega) (fun k _ hk => by
    rw [tb_or, stS_bit hk]
    have h1 := hW.2.2.1 k hk
    have h2 := hW.2.2.1 p hp
    have hw := hW.nums
    have e : (f (92 + k) = nI (rw f p)) ↔ p = k := by
      rw [h1.1, nI_eqb (by omega) (by omega)]
      exact ⟨fun q => (rw_inj hW hk hp q).symm, fun q => by rw [q]⟩
    cases hs : stk f (rw f k) <;> simp [e])
  rw [RowL_map, rem_map]
  unfold Tk
  rw [h]
  rfl
theorem plI_rw {f : Nat → Int32} (hW : Wf f) {p : Nat} (hp : p < ln f) : plI f (nI (rw f p)) = some p := by
  cases h : plI f (nI (rw f p)) with
  | none =>
    exact absurd (hW.2.2.1 p hp).1 (plc_none _ _ h p (Nat.zero_le _) (by omega))
  | some q =>
    obtain ⟨h1, h2, h3, h4⟩ := plI_some hW h
    have hw := hW.nums
    have h5 := (hW.2.2.1 p hp).2
    rw [nI_eqb (by omega) (by omega)] at h2
    rw [rw_inj hW hp h1 h2]
/-- the place of one who is not struck, among those -/
theorem plUn {f : Nat → Int32} (hW : Wf f) {p : Nat} (hp : p < ln f) (hu : stk f (rw f p) = false) : (UL f)[cnt (stS f) p]? = some (rw f p) ∧ cnt (stS f) p < (Un f).length := by
  have h1 := rem_get (l := rwL f) (S := stS f) (i := p) (by rw [rwL_len]; exact hp) (by rw [stS_bit hp]; exact hu)
  rw [← UL_rem hW, rwL_get] at h1
  refine ⟨h1, ?_⟩
  have := (List.getElem?_eq_some_iff.mp h1).1
  unfold Un
  rw [List.length_map]
  exact this
theorem Un_erase {f : Nat → Int32} (hW : Wf f) {p : Nat} (hp : p < ln f) (hu : stk f (rw f p) = false) : rem (Un f) (2 ^ cnt (stS f) p) = Tk f (nI (rw f p)) := by
  rw [← Tk_rem hW hp, ← Un_rem hW, ← rem_ful]
  have hb : (stS f).testBit p = false := by rw [stS_bit hp]; exact hu
  have h1 := ful_set (S0 := stS f) (n := (RowL f).length) (S := 0) (by rw [RowL_len]; exact hp) hb
  rw [ful_zero (by rw [RowL_len]; exact stS_lt), Nat.zero_or] at h1
  rw [h1]
theorem remI_inc {S : Nat} : ∀ (l : List Nat) (i : Nat), List.Pairwise (· < ·) l → List.Pairwise (· < ·) (remI l S i)
  | [], _, _ => List.Pairwise.nil
  | x :: l, i, h => by
    rw [remI]
    have h2 := List.pairwise_cons.mp h
    split
    · exact remI_inc l (i + 1) h2.2
    · exact List.pairwise_cons.mpr ⟨fun y hy => h2.1 y (remI_mem l S (i + 1) hy), remI_inc l (i + 1) h2.2⟩
theorem UL_inc {f : Nat → Int32} (hW : Wf f) : List.Pairwise (· < ·) (UL f) := by
  rw [UL_rem hW]
  apply remI_inc
  rw [List.pairwise_iff_getElem]
  intro i j h1 h2 h3
  rw [rwL_get, rwL_get]
  rw [rwL_len] at h2
  exact hW.2.2.2.1 i j h3 h2
theorem ctB_img {p : Nat → Bool} {r : Nat → Nat} : ∀ (N n : Nat), (∀ i j, i < j → j < n → r i < r j) → (∀ j, j < n → r j < N) → (∀ k, k < N → p k = true → ∃ j, j < n ∧ r j = k) → ctB (fun j => p (r j)) n = ctB p N
  | 0, n, _, hb, _ => by
    cases n with
    | zero => rfl
    | succ n => exact absurd (hb 0 (by omega)) (Nat.not_lt_zero _)
  | N + 1, n, hm, hb, hs => by
    have hcase : (∃ m, n = m + 1 ∧ r m = N) ∨ (∀ j, j < n → r j < N) := by
      cases n with
      | zero => exact Or.inr (fun j h => absurd h (Nat.not_lt_zero _))
      | succ m =>
        by_cases e : r m = N
        · exact Or.inl ⟨m, rfl, e⟩
        · right
          intro j hj
          have h1 := hb m (by omega)
          by_cases q : j = m
          · subst q; omega
          · have := hm j m (by omega) (by omega); omega
    show _ = ctB p N + if p N then 1 else 0
    rcases hcase with ⟨m, rfl, hrm⟩ | hall
    · have ih := ctB_img N m (p := p) (r := r) (fun i j h1 h2 => hm i j h1 (by omega)) (fun j hj => by have := hm j m hj (by omega); omega) (fun k hk hp => by
        obtain ⟨j, hj, e⟩ := hs k (by omega) hp
        refine ⟨j, ?_, e⟩
        by_cases q : j = m
        · subst q; omega
        · omega)
      show ctB (fun j => p (r j)) m + (if p (r m) then 1 else 0) = _
      rw [ih, hrm]
    · have ih := ctB_img N n (p := p) (r := r) hm hall (fun k hk hp => hs k (by omega) hp)
      have : p N = false := by
        cases h : p N
        · rfl
        · obtain ⟨j, hj, e⟩ := hs N (by omega) h
          have := hall j hj
          omega
      rw [ih, this]
      rfl
theorem struck_ct {f : Nat → Int32} (hW : Wf f) : ctB (fun j => stk f (rw f j)) (ln f) = ctB (stk f) 14 := by
  have hw := hW.nums
  refine ctB_img 14 (ln f) (p := stk f) (r := rw f) hW.2.2.2.1 (fun j hj => by have := (hW.2.2.1 j hj).2; omega) (fun k hk hp => hW.2.2.2.2 k hk hp)
theorem mem_take_rem {x : Nat} {S c : Nat} : ∀ (l : List Nat) (i : Nat), x ∈ (remI l S i).take c ↔ ∃ (p : Nat) (h : p < l.length), l[p] = x ∧ S.testBit (i + p) = false ∧ cnt S (i + p) < cnt S i + c := by
  intro l
  induction l generalizing c with
  | nil => intro i; simp [remI]
  | cons y l ih =>
    intro i
    rw [remI]
    have hci : cnt S (i + 1) = cnt S i + if S.testBit i then 0 else 1 := rfl
    cases hb : S.testBit i
    · rw [hb] at hci
      simp at hci
      rw [if_neg (by decide)]
      cases c with
      | zero =>
        simp
        intro p _ _ _
        exact cnt_add S i p
      | succ c =>
        rw [List.take_succ_cons, List.mem_cons, ih (i + 1)]
        constructor
        · rintro (rfl | ⟨p, h1, h2, h3, h4⟩)
          · exact ⟨0, by simp, rfl, by rw [Nat.add_zero]; exact hb, by rw [Nat.add_zero]; omega⟩
          · refine ⟨p + 1, by simpa using h1, by simpa using h2, ?_, ?_⟩
            · rw [show i + (p + 1) = i + 1 + p by omega]; exact h3
            · rw [show i + (p + 1) = i + 1 + p by omega]; omega
        · rintro ⟨p, h1, h2, h3, h4⟩
          cases p with
          | zero => exact Or.inl (by simpa using h2.symm)
          | succ p =>
            rw [show i + (p + 1) = i + 1 + p by omega] at h3 h4
            exact Or.inr ⟨p, by simpa using h1, by simpa using h2, h3, by omega⟩
    · rw [hb] at hci
      simp at hci
      rw [if_pos rfl, ih (i + 1)]
      constructor
      · rintro ⟨p, h1, h2, h3, h4⟩
        refine ⟨p + 1, by simpa using h1, by simpa using h2, ?_, ?_⟩
        · rw [show i + (p + 1) = i + 1 + p by omega]; exact h3
        · rw [show i + (p + 1) = i + 1 + p by omega]; omega
      · rintro ⟨p, h1, h2, h3, h4⟩
        cases p with
        | zero => rw [Nat.add_zero, hb] at h3; cases h3
        | succ p =>
          rw [show i + (p + 1) = i + 1 + p by omega] at h3 h4
          exact ⟨p, by simpa using h1, by simpa using h2, h3, by omega⟩
/-- in the box: in the row, not struck, few ahead -/
theorem box_iff {f : Nat → Int32} (hW : Wf f) {k : Nat} : ((UL f).take (sn f)).contains k = true ↔ ∃ p, p < ln f ∧ rw f p = k ∧ stk f k = false ∧ cnt (stS f) p < sn f := by
  rw [List.contains_iff_mem, UL_rem hW]
  unfold rem
  rw [mem_take_rem]
  constructor
  · rintro ⟨p, h1, h2, h3, h4⟩
    rw [rwL_get] at h2
    rw [rwL_len] at h1
    rw [Nat.zero_add] at h3 h4
    rw [stS_bit h1, h2] at h3
    have : cnt (stS f) 0 = 0 := rfl
    exact ⟨p, h1, h2, h3, by omega⟩
  · rintro ⟨p, h1, h2, h3, h4⟩
    refine ⟨p, by rw [rwL_len]; exact h1, by rw [rwL_get]; exact h2, ?_, ?_⟩
    · rw [Nat.zero_add, stS_bit h1, h2]; exact h3
    · rw [Nat.zero_add]
      have : cnt (stS f) 0 = 0 := rfl
      omega
