-- conditions: what they come to
def CEc (Q : Nat → List CdS → Prop) : Prop :=
  (∀ (h k : Nat) (l r : Int), k < 3 → (-99 ≤ l ∧ l ≤ 104) → (-99 ≤ r ∧ r ≤ 104) → Q (h + 1) [(k, l, r)]) ∧
  (∀ (h : Nat) (L : List CdS), Q h L → Q h (L ++ [(3, 0, 0)])) ∧
  (∀ (h k : Nat) (L L' : List CdS), k = 4 ∨ k = 5 → Q (h + 1) L → Q h L' → Q (h + 1) (L ++ L' ++ [(k, 0, 0)]))
def CE (h : Nat) (L : List CdS) : Prop := ∀ Q, CEc Q → Q h L
theorem CE.cmp {h k : Nat} {l r : Int} (h1 : k < 3) (h2 : -99 ≤ l ∧ l ≤ 104) (h3 : -99 ≤ r ∧ r ≤ 104) : CE (h + 1) [(k, l, r)] := fun _ c => c.1 h k l r h1 h2 h3
theorem CE.neg {h : Nat} {L : List CdS} (h1 : CE h L) : CE h (L ++ [(3, 0, 0)]) := fun Q c => c.2.1 h L (h1 Q c)
theorem CE.bin {h k : Nat} {L L' : List CdS} (hk : k = 4 ∨ k = 5) (h1 : CE (h + 1) L) (h2 : CE h L') : CE (h + 1) (L ++ L' ++ [(k, 0, 0)]) := fun Q c => c.2.2 h k L L' hk (h1 Q c) (h2 Q c)
theorem CE.mono {h h' : Nat} {L : List CdS} (h1 : CE h L) (hh : h ≤ h') : CE h' L := by
  refine h1 (fun h L => ∀ h', h ≤ h' → CE h' L) ⟨?_, ?_, ?_⟩ h' hh
  · intro h k l r c1 c2 c3 h' e
    obtain ⟨x, rfl⟩ : ∃ x, h' = x + 1 := ⟨h' - 1, by omega⟩
    exact CE.cmp c1 c2 c3
  · intro h L i h' e
    exact (i h' e).neg
  · intro h k L L' c1 i1 i2 h' e
    obtain ⟨x, rfl⟩ : ∃ x, h' = x + 1 := ⟨h' - 1, by omega⟩
    exact CE.bin c1 (i1 _ e) (i2 _ (by omega))
theorem pNum_k {b : Nat → Int32} {n i k p : Nat} {sg : Bool} {lo hi : Int} (h : pNum b n i sg lo hi = .inl (k, p)) : 1 ≤ k ∧ k ≤ 5 := by
  unfold pNum at h
  split at h
  · cases h; omega
  · split at h
    · cases h
    · cases h; omega
theorem pOp_k {b : Nat → Int32} {n i k p : Nat} (h : pOp b n i = .inl (k, p)) : 1 ≤ k ∧ k ≤ 5 := by
  unfold pOp at h
  repeat (split at h; · cases h)
  exact pNum_k h
theorem pCmp_c {b : Nat → Int32} {n i : Nat} (hi : i ≤ n) : (∀ st i', pCmp b n i = .inr (st, i') → (i ≤ i' ∧ i' ≤ n ∧ 2 * st.length ≤ i' - i) ∧ ∀ h, CE (h + 1) st) ∧ (∀ k p, pCmp b n i = .inl (k, p) → 1 ≤ k ∧ k ≤ 5) := by
  unfold pCmp
  cases e1 : pOp b n i with
  | inl f => exact ⟨fun st i' h => (by cases h), fun k p h => (by cases h; exact pOp_k e1)⟩
  | inr w =>
    obtain ⟨l, i1⟩ := w
    have p1 := pOp_pos hi e1
    have hge := sk_ge b n i1
    have hle := sk_le (b := b) p1.2.1
    by_cases c : kOf b n (sk b n i1) = 2 ∧ isH b n (sk b n i1) (nI 62) = false
    · simp only [c, and_self, if_true]
      exact ⟨fun st i' h => (by cases h), fun k p h => (by cases h; omega)⟩
    · simp only [c, if_false]
      have hlt : sk b n i1 < n := by
        unfold kOf at c
        by_cases d1 : isH b n (sk b n i1) (nI 60) = true
        · exact isH_lt d1
        · by_cases d2 : isH b n (sk b n i1) (nI 61) = true
          · exact isH_lt d2
          · rw [if_neg d1, if_neg d2] at c
            cases d3 : isH b n (sk b n i1) (nI 62)
            · exact absurd ⟨rfl, d3⟩ c
            · exact isH_lt d3
      have hk : kOf b n (sk b n i1) < 3 := by unfold kOf; split <;> (try split) <;> omega
      cases e2 : pOp b n (sk b n i1 + 1) with
      | inl f => exact ⟨fun st i' h => (by cases h), fun k p h => (by cases h; exact pOp_k e2)⟩
      | inr w2 =>
        obtain ⟨r, i2⟩ := w2
        have p2 := pOp_pos (by omega) e2
        refine ⟨fun st i' h => ?_, fun k p h => (by cases h)⟩
        cases h
        exact ⟨⟨by omega, p2.2.1, by show 2 * 1 ≤ _; omega⟩, fun h => CE.cmp hk p1.2.2 p2.2.2⟩
/-- reads conditions of a height -/
def PdC (n h : Nat) (P : Nat → PR (List CdS)) : Prop := ∀ i, i ≤ n → (∀ st i', P i = .inr (st, i') → (i ≤ i' ∧ i' ≤ n ∧ 2 * st.length ≤ i' - i) ∧ CE h st) ∧ (∀ k p, P i = .inl (k, p) → 1 ≤ k ∧ k ≤ 5)
theorem lpW_c {P : Nat → PR (List CdS)} {b : Nat → Int32} {n h j kd : Nat} (hP : PdC n h P) (hk : kd = 4 ∨ kd = 5) (hw : 2 ≤ wln j) : ∀ (m i : Nat) (acc : List CdS), i ≤ n → CE (h + 1) acc → (∀ st i', lpW P b n j kd m i acc = .inr (st, i') → (i ≤ i' ∧ i' ≤ n ∧ 2 * st.length ≤ 2 * acc.length + (i' - i)) ∧ CE (h + 1) st) ∧ (∀ k p, lpW P b n j kd m i acc = .inl (k, p) → 1 ≤ k ∧ k ≤ 5)
  | 0, i, acc, hi, ha => by
    unfold lpW
    exact ⟨fun st i' h => (by cases h; exact ⟨⟨sk_ge b n i, sk_le hi, by omega⟩, ha⟩), fun k p h => (by cases h)⟩
  | m + 1, i, acc, hi, ha => by
    unfold lpW
    cases w : wm b n (sk b n i) j
    · simp only [Bool.false_eq_true, if_false]
      exact ⟨fun st i' h => (by cases h; exact ⟨⟨sk_ge b n i, sk_le hi, by omega⟩, ha⟩), fun k p h => (by cases h)⟩
    · simp only [if_true]
      obtain ⟨q1, q2⟩ := hP (sk b n i + wln j) (wm_le w)
      cases e : P (sk b n i + wln j) with
      | inl f => exact ⟨fun st i' h => (by cases h), fun k p h => (by cases h; exact q2 _ _ e)⟩
      | inr w2 =>
        obtain ⟨st, i'⟩ := w2
        obtain ⟨r1, r2⟩ := q1 st i' e
        obtain ⟨u1, u2⟩ := lpW_c hP hk hw m i' (acc ++ st ++ [(kd, 0, 0)]) r1.2.1 (CE.bin hk ha r2)
        refine ⟨fun st' i2 h => ?_, u2⟩
        obtain ⟨⟨x1, x2, x3⟩, x4⟩ := u1 st' i2 h
        have hl : (acc ++ st ++ [((kd, 0, 0) : CdS)]).length = acc.length + st.length + 1 := by simp; omega
        rw [hl] at x3
        have hge := sk_ge b n i
        exact ⟨⟨by omega, x2, by omega⟩, x4⟩
theorem pLoop_c {P : Nat → PR (List CdS)} {b : Nat → Int32} {n h j kd : Nat} (hP : PdC n h P) (hk : kd = 4 ∨ kd = 5) (hw : 2 ≤ wln j) : PdC n (h + 1) (pLoop P b n j kd) := by
  intro i hi
  unfold pLoop
  obtain ⟨q1, q2⟩ := hP i hi
  cases e : P i with
  | inl f => exact ⟨fun st i' h => (by cases h), fun k p h => (by cases h; exact q2 _ _ e)⟩
  | inr w2 =>
    obtain ⟨st, i'⟩ := w2
    obtain ⟨r1, r2⟩ := q1 st i' e
    obtain ⟨u1, u2⟩ := lpW_c hP hk hw (n - i') i' st r1.2.1 (r2.mono (by omega))
    refine ⟨fun st' i2 h => ?_, u2⟩
    obtain ⟨⟨x1, x2, x3⟩, x4⟩ := u1 st' i2 h
    exact ⟨⟨by omega, x2, by omega⟩, x4⟩
theorem pAny_c {P : Nat → PR (List CdS)} {b : Nat → Int32} {n h : Nat} (hP : PdC n h P) : PdC n (h + 2) (pAny P b n) := pLoop_c (pLoop_c hP (Or.inl rfl) (by decide)) (Or.inr rfl) (by decide)
theorem pOne_c {b : Nat → Int32} {n : Nat} : ∀ d, PdC n (1 + 2 * d) (pOne b n d)
  | 0 => by
    intro i hi
    have hle := sk_le (b := b) hi
    have hge := sk_ge b n i
    unfold pOne
    cases c : (wm b n (sk b n i) 11 || isH b n (sk b n i) (nI 40))
    · simp only [Bool.false_eq_true, if_false]
      obtain ⟨q1, q2⟩ := pCmp_c (b := b) hle
      exact ⟨fun st i' h => ⟨by have := (q1 st i' h).1; omega, (q1 st i' h).2 0⟩, q2⟩
    · simp only [if_true]
      exact ⟨fun st i' h => (by cases h), fun k p h => (by cases h; omega)⟩
  | d + 1 => by
    intro i hi
    have hle := sk_le (b := b) hi
    have hge := sk_ge b n i
    unfold pOne
    cases c : wm b n (sk b n i) 11
    · cases c2 : isH b n (sk b n i) (nI 40)
      · simp only [Bool.false_eq_true, if_false]
        obtain ⟨q1, q2⟩ := pCmp_c (b := b) hle
        exact ⟨fun st i' h => ⟨by have := (q1 st i' h).1; omega, by rw [Nat.add_comm]; exact (q1 st i' h).2 _⟩, q2⟩
      · simp only [Bool.false_eq_true, if_false, if_true]
        have hlt := isH_lt c2
        obtain ⟨q1, q2⟩ := pAny_c (b := b) (n := n) (pOne_c d) (sk b n i + 1) (by omega)
        cases e : pAny (pOne b n d) b n (sk b n i + 1) with
        | inl f => exact ⟨fun st i' h => (by cases h), fun k p h => (by cases h; exact q2 _ _ e)⟩
        | inr w2 =>
          obtain ⟨st, i1⟩ := w2
          obtain ⟨r1, r2⟩ := q1 st i1 e
          cases c3 : isH b n (sk b n i1) (nI 41)
          · simp only [c3, Bool.false_eq_true, if_false]
            exact ⟨fun st i' h => (by cases h), fun k p h => (by cases h; omega)⟩
          · simp only [c3, if_true]
            have hlt2 := isH_lt c3
            refine ⟨fun st' i' h => ?_, fun k p h => (by cases h)⟩
            cases h
            have hge2 := sk_ge b n i1
            exact ⟨by omega, r2.mono (by omega)⟩
    · simp only [if_true]
      have hw := wm_le c
      have l : wln 11 = 3 := rfl
      obtain ⟨q1, q2⟩ := pOne_c (b := b) (n := n) d (sk b n i + 3) (by omega)
      cases e : pOne b n d (sk b n i + 3) with
      | inl f => exact ⟨fun st i' h => (by cases h), fun k p h => (by cases h; exact q2 _ _ e)⟩
      | inr w2 =>
        obtain ⟨st, i1⟩ := w2
        obtain ⟨r1, r2⟩ := q1 st i1 e
        refine ⟨fun st' i' h => ?_, fun k p h => (by cases h)⟩
        cases h
        exact ⟨by simp; omega, (r2.mono (by omega)).neg⟩
theorem CdO.len {b : Nat → Int32} {n : Nat} {st : List CdS} (h : CdO b n st) : 2 * st.length ≤ n := by
  obtain ⟨i, i', hi, e⟩ := h
  have := ((pAny_c (b := b) (n := n) (pOne_c 4) i hi).1 st i' e).1
  omega
theorem CdO.ce {b : Nat → Int32} {n : Nat} {st : List CdS} (h : CdO b n st) : CE 11 st := by
  obtain ⟨i, i', hi, e⟩ := h
  exact ((pAny_c (b := b) (n := n) (pOne_c 4) i hi).1 st i' e).2
-- what a condition says of a person
def cpB (k : Nat) (a b : Int32) : Bool := if k = 0 then decide (a < b) else if k = 1 then decide (a = b) else decide (b < a)
def evS (q : Int → Int32) (c : CdS) (s : List Bool) : List Bool := if c.1 = 3 then (match s with
    | x :: t => (!x) :: t
    | [] => []) else if c.1 = 4 then (match s with
    | x :: y :: t => (y && x) :: t
    | _ => []) else if c.1 = 5 then (match s with
    | x :: y :: t => (y || x) :: t
    | _ => []) else cpB c.1 (q c.2.1) (q c.2.2) :: s
def evL (q : Int → Int32) (L : List CdS) (s : List Bool) : List Bool := L.foldl (fun s c => evS q c s) s
def hv (q : Int → Int32) (L : List CdS) : Bool := (evL q L []).headD false
theorem evL_app {q : Int → Int32} {L L' : List CdS} {s : List Bool} : evL q (L ++ L') s = evL q L' (evL q L s) := List.foldl_append
theorem evL_CE {q : Int → Int32} {h : Nat} {L : List CdS} (hc : CE h L) : ∀ s, evL q L s = hv q L :: s := by
  have : ∃ v, ∀ s, evL q L s = v :: s := by
    refine hc (fun _ L => ∃ v, ∀ s, evL q L s = v :: s) ⟨?_, ?_, ?_⟩
    · intro h k l r c1 c2 c3
      refine ⟨cpB k (q l) (q r), fun s => ?_⟩
      show evS q (k, l, r) s = _
      unfold evS
      rw [if_neg (by show ¬ k = 3; omega), if_neg (by show ¬ k = 4; omega), if_neg (by show ¬ k = 5; omega)]
    · intro h L ⟨v, i⟩
      refine ⟨!v, fun s => ?_⟩
      rw [evL_app, i]
      rfl
    · intro h k L L' hk ⟨v, i⟩ ⟨v', i'⟩
      rcases hk with rfl | rfl
      · refine ⟨v && v', fun s => ?_⟩
        rw [evL_app, evL_app, i, i']
        rfl
      · refine ⟨v || v', fun s => ?_⟩
        rw [evL_app, evL_app, i, i']
        rfl
  obtain ⟨v, e⟩ := this
  intro s
  have e0 : hv q L = v := by unfold hv; rw [e]; rfl
  rw [e0, e]
theorem hv_cmp {q : Int → Int32} {k : Nat} {l r : Int} (hk : k < 3) : hv q [(k, l, r)] = cpB k (q l) (q r) := by
  unfold hv
  show (evS q (k, l, r) []).headD false = _
  unfold evS
  rw [if_neg (by show ¬ k = 3; omega), if_neg (by show ¬ k = 4; omega), if_neg (by show ¬ k = 5; omega)]
  rfl
theorem hv_neg {q : Int → Int32} {h : Nat} {L : List CdS} (hc : CE h L) : hv q (L ++ [(3, 0, 0)]) = !hv q L := by
  have : evL q (L ++ [(3, 0, 0)]) [] = [!hv q L] := by rw [evL_app, evL_CE hc]; rfl
  unfold hv at this ⊢
  rw [this]
  rfl
theorem hv_and {q : Int → Int32} {h h' : Nat} {L L' : List CdS} (hc : CE h L) (hc' : CE h' L') : hv q (L ++ L' ++ [(4, 0, 0)]) = (hv q L && hv q L') := by
  have : evL q (L ++ L' ++ [(4, 0, 0)]) [] = [hv q L && hv q L'] := by rw [evL_app, evL_app, evL_CE hc, evL_CE hc']; rfl
  unfold hv at this ⊢
  rw [this]
  rfl
theorem hv_or {q : Int → Int32} {h h' : Nat} {L L' : List CdS} (hc : CE h L) (hc' : CE h' L') : hv q (L ++ L' ++ [(5, 0, 0)]) = (hv q L || hv q L') := by
  have : evL q (L ++ L' ++ [(5, 0, 0)]) [] = [hv q L || hv q L'] := by rw [evL_app, evL_app, evL_CE hc, evL_CE hc']; rfl
  unfold hv at this ⊢
  rw [this]
  rfl
/-- a person's number -/
def pvl (f : Nat → Int32) (k : Nat) (x : Int) : Int32 := if x = 100 then f (8 + 4 * k) else if x = 101 then f (9 + 4 * k) else if x = 102 then f (10 + 4 * k) else if x = 103 then f (11 + 4 * k) else if x = 104 then f (8 + 4 * k) - f (9 + 4 * k) else iI x
