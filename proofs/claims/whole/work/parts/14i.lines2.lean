-- the class reads lines
theorem PSC.fr {M M' : ZM} {j : Nat} {P : PS} (h : PSC M j P) (hj : j < 10) (ht : ∀ c, tb j ≤ c → c ≤ tb j + 8 → M' c = M c) (h7 : M' 92 7 = M 92 7) (h8 : M' 92 8 = M 92 8) (hc : ∀ c, 94 ≤ c → c ≤ 105 → M' c = M c) : PSC M' j P := by
  obtain ⟨a, b, c, d, e, f1, f2, f3⟩ := h
  refine ⟨?_, ?_, ?_, ?_, ?_, ?_⟩
  · rw [ht _ (by omega) (by omega)]; exact a
  · intro k hk; rw [ht _ (by omega) (by omega), ht _ (by omega) (by omega), ht _ (by omega) (by omega), ht _ (by omega) (by omega)]; exact b k hk
  · intro k hk; rw [ht _ (by omega) (by omega), ht _ (by omega) (by omega), ht _ (by omega) (by omega), ht _ (by omega) (by omega)]; exact c k hk
  · intro k hk; rw [ht _ (by omega) (by omega), ht _ (by omega) (by omega)]; exact d k hk
  · rw [h7, h8]; exact e
  · exact ⟨f1.fr (fun c h1 h2 => hc c (by omega) (by omega)), f2.fr (fun c h1 h2 => hc c (by omega) (by omega)), f3.fr (fun c h1 h2 => hc c (by omega) (by omega))⟩
theorem perM_c {M : ZM} {j pl i' c : Nat} {q : Int × Int × Int × Int} (h : c ≠ 92) (h2 : c < tb j + 2 ∨ tb j + 5 < c) : perM M j pl q i' c = M c := by
  unfold perM
  rw [up2_ne (by omega), up2_ne (by omega), up2_ne (by omega), up2_ne (by omega), nmM_c h]
theorem perM_92 {M : ZM} {j pl i' k : Nat} {q : Int × Int × Int × Int} (hj : j < 10) : perM M j pl q i' 92 k = nmM M i' q.2.2.2 92 k := by
  have := tb_lt hj
  unfold perM
  rw [up2_c (by omega), up2_c (by omega), up2_c (by omega), up2_c (by omega)]
theorem perM_v {M : ZM} {j pl i' k : Nat} {q : Int × Int × Int × Int} (hj : j < 10) : perM M j pl q i' (tb j + 2) k = (if k = pl then iI q.1 else M (tb j + 2) k) ∧ perM M j pl q i' (tb j + 3) k = (if k = pl then iI q.2.1 else M (tb j + 3) k) ∧ perM M j pl q i' (tb j + 4) k = (if k = pl then iI q.2.2.1 else M (tb j + 4) k) ∧ perM M j pl q i' (tb j + 5) k = (if k = pl then iI q.2.2.2 else M (tb j + 5) k) := by
  have := tb_lt hj
  unfold perM
  refine ⟨?_, ?_, ?_, ?_⟩
  · rw [up2_c (by omega), up2_c (by omega), up2_c (by omega)]
    by_cases e : k = pl
    · subst e; rw [up2_at, if_pos rfl]
    · rw [up2_s e, if_neg e, nmM_c (by omega)]
  · rw [up2_c (by omega), up2_c (by omega)]
    by_cases e : k = pl
    · subst e; rw [up2_at, if_pos rfl]
    · rw [up2_s e, if_neg e, up2_s e, nmM_c (by omega)]
  · rw [up2_c (by omega)]
    by_cases e : k = pl
    · subst e; rw [up2_at, if_pos rfl]
    · rw [up2_s e, if_neg e, up2_s e, up2_s e, nmM_c (by omega)]
  · by_cases e : k = pl
    · subst e; rw [up2_at, if_pos rfl]
    · rw [up2_s e, if_neg e, up2_s e, up2_s e, up2_s e, nmM_c (by omega)]
theorem up4_0 {f : Nat → Int32} {k : Nat} {q : Int × Int × Int × Int} : up4 f k q k = iI q.1 ∧ up4 f k q (k + 1) = iI q.2.1 ∧ up4 f k q (k + 2) = iI q.2.2.1 ∧ up4 f k q (k + 3) = iI q.2.2.2 := by
  unfold up4
  refine ⟨?_, ?_, ?_, ?_⟩
  · rw [upf_ne (by omega), upf_ne (by omega), upf_ne (by omega), upf_at]
  · rw [upf_ne (by omega), upf_ne (by omega), upf_at]
  · rw [upf_ne (by omega), upf_at]
  · rw [upf_at]
theorem up4_n {f : Nat → Int32} {k x : Nat} {q : Int × Int × Int × Int} (h : x < k ∨ k + 3 < x) : up4 f k q x = f x := by
  unfold up4
  rw [upf_ne (by omega), upf_ne (by omega), upf_ne (by omega), upf_ne (by omega)]
theorem jn_up {f : Nat → Int32} {k : Nat} (h : k < 2147483648) : jn (upf f 0 (nI k)) = k := by
  unfold jn
  rw [upf_at, nI_cl h]
theorem jn_ne {f : Nat → Int32} {k : Nat} {v : Int32} (h : k ≠ 0) : jn (upf f k v) = jn f := by
  unfold jn
  rw [upf_ne (fun q => h q.symm)]
theorem jn_up4 {f : Nat → Int32} {k : Nat} {q : Int × Int × Int × Int} (h : k ≠ 0) : jn (up4 f k q) = jn f := by
  unfold jn
  rw [up4_n (by omega)]
theorem PW.jur {P : PS} {q : Int × Int × Int × Int} (h : PW P) (hj : jn (rD P) < 10) (h1 : (-50 ≤ q.1 ∧ q.1 ≤ 50) ∧ (-50 ≤ q.2.1 ∧ q.2.1 ≤ 50)) : PW (jurP P q) := by
  obtain ⟨⟨a1, a2, a3, a4, a5, a6, a7⟩, b, c, e, f⟩ := h
  have jj : jn (rD (jurP P q)) = jn (rD P) + 1 := jn_up (by omega)
  have g : ∀ k, k ≠ 0 → (k < 8 + 4 * jn (rD P) ∨ 8 + 4 * jn (rD P) + 3 < k) → rD (jurP P q) k = rD P k := fun k h0 h1 => by
    show upf (up4 (rD P) (8 + 4 * jn (rD P)) q) 0 (nI (jn (rD P) + 1)) k = _
    rw [upf_ne h0, up4_n h1]
  have u := up4_0 (f := rD P) (k := 8 + 4 * jn (rD P)) (q := q)
  refine ⟨⟨⟨?_, by omega⟩, ?_, ?_, ?_, ?_, ?_, ?_⟩, ?_, c, ?_, f⟩
  · rw [jj]
    show upf (up4 (rD P) (8 + 4 * jn (rD P)) q) 0 (nI (jn (rD P) + 1)) 0 = _
    exact upf_at
  · rw [g _ (by decide) (by omega)]; exact a2
  · rw [g _ (by decide) (by omega)]; exact a3
  · rw [g _ (by decide) (by omega)]; exact a4
  · rw [g _ (by decide) (by omega)]; exact a5
  · rw [g _ (by decide) (by omega), g _ (by decide) (by omega)]; exact a6
  · rw [g _ (by decide) (by omega)]; exact a7
  · intro k hk
    rw [jj] at hk
    by_cases e : k = jn (rD P)
    · subst e
      refine ⟨q, h1, ?_, ?_⟩
      · show upf (up4 (rD P) (8 + 4 * jn (rD P)) q) 0 (nI (jn (rD P) + 1)) _ = _
        rw [upf_ne (by omega)]; exact u.1
      · show upf (up4 (rD P) (8 + 4 * jn (rD P)) q) 0 (nI (jn (rD P) + 1)) _ = _
        rw [upf_ne (by omega), show 9 + 4 * jn (rD P) = 8 + 4 * jn (rD P) + 1 by omega]; exact u.2.1
    · rw [g _ (by omega) (by omega), g _ (by omega) (by omega)]
      exact b k (by omega)
  · intro k hk
    rw [g _ (by omega) (by omega)]
    exact e k hk
theorem PW.tal {P : PS} {q : Int × Int × Int × Int} (h : PW P) (hj : fN P < 4) (h1 : (-50 ≤ q.1 ∧ q.1 ≤ 50) ∧ (-50 ≤ q.2.1 ∧ q.2.1 ≤ 50)) : PW (talP P q) := by
  obtain ⟨⟨a1, a2, a3, a4, a5, a6, a7⟩, b, c, e, f⟩ := h
  have jj : jn (rD (talP P q)) = jn (rD P) := jn_up4 (by decide)
  have g : ∀ k, (k < 60 ∨ 63 < k) → rD (talP P q) k = rD P k := fun k h1 => up4_n h1
  have u := up4_0 (f := fI P) (k := 4 * fN P) (q := q)
  refine ⟨⟨?_, ?_, ?_, ?_, ?_, ?_, ?_⟩, ?_, ?_, ?_, by show fN P + 1 ≤ 4; omega, f.2⟩
  · rw [jj, g _ (by omega)]; exact a1
  · rw [g _ (by omega)]; exact a2
  · rw [g _ (by omega)]; exact a3
  · rw [g _ (by omega)]; exact a4
  · rw [g _ (by omega)]; exact a5
  · rw [g _ (by omega), g _ (by omega)]; exact a6
  · rw [g _ (by omega)]; exact a7
  · intro k hk
    rw [jj] at hk
    rw [g _ (by omega), g _ (by omega)]
    exact b k hk
  · intro k hk
    have hk2 : k < fN P + 1 := hk
    by_cases e : k = fN P
    · subst e
      exact ⟨q, h1, u.1, u.2.1⟩
    · have g2 : ∀ x, x < 4 * fN P → fI (talP P q) x = fI P x := fun x hx => up4_n (Or.inl hx)
      rw [g2 _ (by omega), g2 _ (by omega)]
      exact c k (by omega)
  · intro k hk
    rw [g _ (by omega)]
    exact e k hk
theorem PW.rd {P : PS} {k : Nat} {v : Int32} {t : Nat} (h : PW P) (ht : t < 256) (hk : (k = 2 ∧ ∃ s, v = nI s ∧ 1 ≤ s ∧ s ≤ 6) ∨ (k = 3 ∧ ∃ s, v = nI s ∧ s ≤ 3) ∨ (k = 4 ∧ ∃ s, v = nI s ∧ s ≤ 1)) : PW (rdP P k v t) := by
  obtain ⟨⟨a1, a2, a3, a4, a5, a6, a7⟩, b, c, e, f1, f2, f3⟩ := h
  have hk0 : 2 ≤ k ∧ k ≤ 4 := by omega
  have jj : jn (rD (rdP P k v t)) = jn (rD P) := jn_ne (by omega)
  have g : ∀ x, x ≠ k → rD (rdP P k v t) x = rD P x := fun x hx => upf_ne hx
  have gk : rD (rdP P k v t) k = v := upf_at
  have tt : tL P ||| t < 256 := Nat.or_lt_two_pow (n := 8) f2 ht
  refine ⟨⟨?_, ?_, ?_, ?_, ?_, ?_, ?_⟩, ?_, c, ?_, f1, tt, f3⟩
  · rw [jj, g _ (by omega)]; exact a1
  · rw [g _ (by omega)]; exact a2
  · by_cases q : k = 2
    · subst q; rw [gk]; rcases hk with ⟨_, hk⟩ | ⟨hk, _⟩ | ⟨hk, _⟩
      · exact hk
      · omega
      · omega
    · rw [g _ (by omega)]; exact a3
  · by_cases q : k = 3
    · subst q; rw [gk]; rcases hk with ⟨hk, _⟩ | ⟨_, hk⟩ | ⟨hk, _⟩
      · omega
      · exact hk
      · omega
    · rw [g _ (by omega)]; exact a4
  · by_cases q : k = 4
    · subst q; rw [gk]; rcases hk with ⟨hk, _⟩ | ⟨hk, _⟩ | ⟨_, hk⟩
      · omega
      · omega
      · exact hk
    · rw [g _ (by omega)]; exact a5
  · rw [g _ (by omega), g _ (by omega)]; exact a6
  · rw [g _ (by omega)]; exact a7
  · intro x hx
    rw [jj] at hx
    rw [g _ (by omega), g _ (by omega)]
    exact b x hx
  · intro x hx
    rw [g _ (by omega)]
    exact e x hx
theorem PW.tu {P : PS} {c B : Nat} (h : PW P) (hc : c ≤ 8) (hB : B < 2 ^ c) : PW (tuP P c B) := by
  obtain ⟨⟨a1, a2, a3, a4, a5, a6, a7⟩, b, c', e, f1, f2, f3⟩ := h
  have g : ∀ x, x ≠ 5 → x ≠ 6 → rD (tuP P c B) x = rD P x := fun x h5 h6 => by
    show upf (upf (rD P) 5 (nI c)) 6 (nI B) x = _
    rw [upf_ne h6, upf_ne h5]
  have jj : jn (rD (tuP P c B)) = jn (rD P) := by unfold jn; rw [g _ (by decide) (by decide)]
  have tt : tL P ||| 4 < 256 := Nat.or_lt_two_pow (n := 8) f2 (by decide)
  refine ⟨⟨?_, ?_, ?_, ?_, ?_, ?_, ?_⟩, ?_, c', ?_, f1, tt, f3⟩
  · rw [jj, g _ (by decide) (by decide)]; exact a1
  · rw [g _ (by decide) (by decide)]; exact a2
  · rw [g _ (by decide) (by decide)]; exact a3
  · rw [g _ (by decide) (by decide)]; exact a4
  · rw [g _ (by decide) (by decide)]; exact a5
  · refine ⟨c, hc, ?_, B, hB, ?_⟩
    · show upf (upf (rD P) 5 (nI c)) 6 (nI B) 5 = _
      rw [upf_ne (by decide), upf_at]
    · show upf (upf (rD P) 5 (nI c)) 6 (nI B) 6 = _
      exact upf_at
  · rw [g _ (by decide) (by decide)]; exact a7
  · intro x hx
    rw [jj] at hx
    rw [g _ (by omega) (by omega), g _ (by omega) (by omega)]
    exact b x hx
  · intro x hx
    rw [g _ (by omega) (by omega)]
    exact e x hx
theorem PW.tl {P P' : PS} (h : PW P) (h1 : rD P' = rD P) (h2 : fI P' = fI P) (h3 : fN P' = fN P) (h4 : tL P' < 256) (h5 : 0 ≤ gR P' ∧ gR P' ≤ 9) : PW P' := by
  obtain ⟨a, b, c, e, f1, f2, f3⟩ := h
  unfold PW
  rw [h1, h2, h3]
  exact ⟨a, b, c, e, f1, h4, h5⟩
theorem PW.zero : PW ps0 := by
  have j0 : jn rd0 = 0 := by decide +kernel
  refine ⟨⟨?_, ?_, ⟨2, ?_, by decide, by decide⟩, ⟨0, ?_, by decide⟩, ⟨0, ?_, by decide⟩, ⟨0, by decide, ?_, 0, by decide, ?_⟩, ?_⟩, ?_, ?_, ?_, by decide, by decide, by decide⟩
  · show rd0 0 = nI (jn rd0) ∧ jn rd0 ≤ 10
    rw [j0]
    exact ⟨rfl, by decide⟩
  · rfl
  · rfl
  · rfl
  · rfl
  · rfl
  · rfl
  · rfl
  · intro k hk
    have : k < jn rd0 := hk
    rw [j0] at this
    omega
  · intro k hk
    exact absurd hk (Nat.not_lt_zero _)
  · intro k hk
    show rd0 k = -1
    unfold rd0
    rw [if_neg (by omega), if_pos hk]
