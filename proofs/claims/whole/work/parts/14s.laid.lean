-- the row that is laid
def Inc (L : List Nat) (b : Nat) : Prop := (∀ t, t < L.length → L.getD t 0 < b) ∧ (∀ s t, s < t → t < L.length → L.getD s 0 < L.getD t 0)
theorem Inc.mono {L : List Nat} {b c : Nat} (h : Inc L b) (hc : b ≤ c) : Inc L c := ⟨fun t ht => Nat.lt_of_lt_of_le (h.1 t ht) hc, h.2⟩
theorem gD_l {L : List Nat} {x t : Nat} (h : t < L.length) : (L ++ [x]).getD t 0 = L.getD t 0 := by
  rw [gD h, gD (by simp; omega), List.getElem_append_left h]
theorem gD_r {L : List Nat} {x : Nat} : (L ++ [x]).getD L.length 0 = x := by
  rw [gD (by simp)]
  simp
theorem Inc.snoc {L : List Nat} {b x : Nat} (h : Inc L b) (hx : b ≤ x) : Inc (L ++ [x]) (x + 1) := by
  have hl : (L ++ [x]).length = L.length + 1 := by simp
  refine ⟨fun t ht => ?_, fun s t hst ht => ?_⟩
  · by_cases e : t = L.length
    · subst e; rw [gD_r]; omega
    · rw [gD_l (by omega)]
      have := h.1 t (by omega)
      omega
  · by_cases e : t = L.length
    · subst e
      rw [gD_r, gD_l hst]
      have := h.1 s hst
      omega
    · rw [gD_l (by omega), gD_l (by omega)]
      exact h.2 s t hst (by omega)
theorem rwA_inc (P : PS) : ∀ k, Inc (rwA P k) k
  | 0 => ⟨fun t ht => absurd ht (Nat.not_lt_zero t), fun s t _ ht => absurd ht (Nat.not_lt_zero t)⟩
  | k + 1 => by
    have ih := rwA_inc P k
    unfold rwA
    split
    · exact ih.snoc (Nat.le_refl _)
    · exact ih.mono (by omega)
theorem rwB_inc (P : PS) : ∀ i, Inc (rwB P i) (jn (rD P) + i)
  | 0 => rwA_inc P _
  | i + 1 => (rwB_inc P i).snoc (Nat.le_refl _)
def laid (P : PS) : Nat → Int32 := fun x => if x = 1 then nI (fN P) else if x = 7 then nI (rowL P).length else if 64 ≤ x ∧ x < 64 + jn (rD P) then hrE P (x - 64) else if 92 ≤ x ∧ x < 92 + (rowL P).length then nI ((rowL P).getD (x - 92) 0) else if 8 + 4 * jn (rD P) ≤ x ∧ x < 8 + 4 * (jn (rD P) + fN P) then fI P (x - (8 + 4 * jn (rD P))) else rD P x
section Lh
variable {d n j k a : Nat} {M : ZM} {R : ZH} {P : PS}
theorem rowL_len (hF : fN P ≤ 4) : (rowL P).length ≤ jn (rD P) ∧ (rowL P).length + exC P = jn (rD P) + min (fN P) (exC P) := by
  have := rwB_len P (min (fN P) (exC P))
  unfold rowL
  omega
theorem laid_lo {x : Nat} (h1 : x ≠ 1) (h7 : x ≠ 7) (hx : x < 8 + 4 * jn (rD P)) (hJ : jn (rD P) ≤ 10) : laid P x = rD P x := by
  unfold laid
  rw [if_neg h1, if_neg h7, if_neg (by omega), if_neg (by omega), if_neg (by omega)]
theorem laid_tal {t : Nat} (hJ : jn (rD P) ≤ 10) (hF : fN P ≤ 4) (ht : t < 4 * fN P) : laid P (8 + 4 * jn (rD P) + t) = fI P t := by
  unfold laid
  rw [if_neg (by omega), if_neg (by omega), if_neg (by omega), if_neg (by omega), if_pos (by omega)]
  congr 1
  omega
theorem laid_ex {k : Nat} (hW : PW P) (hk : k < 28) : laid P (64 + k) = if k < jn (rD P) then hrE P k else -1 := by
  have hJ := hW.1.1.2
  have hF := hW.2.2.2.2.1
  unfold laid
  rw [if_neg (by omega), if_neg (by omega)]
  by_cases c : k < jn (rD P)
  · rw [if_pos (by omega), if_pos c, Nat.add_sub_cancel_left]
  · rw [if_neg (by omega), if_neg (by omega), if_neg (by omega), if_neg c]
    exact hW.2.2.2.1 _ (by omega)
theorem laid_row {k : Nat} (hJ : jn (rD P) ≤ 10) (hk : k < (rowL P).length) : laid P (92 + k) = nI ((rowL P).getD k 0) := by
  unfold laid
  rw [if_neg (by omega), if_neg (by omega), if_neg (by omega), if_pos (by omega), Nat.add_sub_cancel_left]
theorem laid_n (hW : PW P) : jn (laid P) = jn (rD P) ∧ tn (laid P) = fN P ∧ ln (laid P) = (rowL P).length := by
  have hJ := hW.1.1.2
  have hF := hW.2.2.2.2.1
  have hl := (rowL_len (P := P) hF).1
  refine ⟨?_, ?_, ?_⟩
  · unfold jn
    rw [laid_lo (by decide) (by decide) (by omega) hJ]
  · show (nI (fN P)).toNatClampNeg = _
    exact nI_cl (by omega)
  · show (nI (rowL P).length).toNatClampNeg = _
    exact nI_cl (by omega)
theorem laid_exn (hW : PW P) : exn (laid P) = exC P := by
  unfold exn
  rw [(laid_n hW).1]
  have hJ := hW.1.1.2
  have : ∀ k, k ≤ jn (rD P) → ctB (fun k => decide (laid P (64 + k) ≠ -1)) k = (hrC P k).1 + (hrC P k).2 := by
    intro k
    induction k with
    | zero => intro _; rfl
    | succ k ih =>
      intro hk
      have ih' := ih (by omega)
      have e : ctB (fun k => decide (laid P (64 + k) ≠ -1)) (k + 1) = ctB (fun k => decide (laid P (64 + k) ≠ -1)) k + if decide (laid P (64 + k) ≠ -1) then 1 else 0 := rfl
      have el : laid P (64 + k) = hrE P k := by rw [laid_ex hW (by omega), if_pos (by omega)]
      have eC : hrC P (k + 1) = if ((hrC P k).1 : Int) < gR P ∧ caB P 0 k = true then ((hrC P k).1 + 1, (hrC P k).2) else if ((hrC P k).2 : Int) < gR P ∧ caB P 1 k = true then ((hrC P k).1, (hrC P k).2 + 1) else hrC P k := rfl
      rw [e, ih', el, eC]
      unfold hrE
      by_cases c1 : ((hrC P k).1 : Int) < gR P ∧ caB P 0 k = true
      · rw [if_pos c1, if_pos c1, if_pos (by decide +kernel)]
        show _ = (hrC P k).1 + 1 + (hrC P k).2
        omega
      · rw [if_neg c1, if_neg c1]
        by_cases c2 : ((hrC P k).2 : Int) < gR P ∧ caB P 1 k = true
        · rw [if_pos c2, if_pos c2, if_pos (by decide +kernel)]
          show _ = (hrC P k).1 + ((hrC P k).2 + 1)
          omega
        · rw [if_neg c2, if_neg c2, if_neg (by decide +kernel)]
          omega
  exact this _ (Nat.le_refl _)
theorem laid_Wf (hW : PW P) : Wf (laid P) := by
  have hJ := hW.1.1.2
  have hF := hW.2.2.2.2.1
  obtain ⟨n1, n2, n3⟩ := laid_n hW
  obtain ⟨l1, l2⟩ := rowL_len (P := P) hF
  obtain ⟨⟨a1, a2, a3, a4, a5, a6, a7⟩, b, c, e, f⟩ := hW
  have hW' : PW P := ⟨⟨a1, a2, a3, a4, a5, a6, a7⟩, b, c, e, f⟩
  have lo : ∀ x, x ≠ 1 → x ≠ 7 → x < 8 → laid P x = rD P x := fun x h1 h7 h8 => laid_lo h1 h7 (by omega) hJ
  have inc : Inc (rowL P) (jn (rD P) + fN P) := (rwB_inc P _).mono (by have := Nat.min_le_left (fN P) (exC P); omega)
  have rwv : ∀ i, i < (rowL P).length → rw (laid P) i = (rowL P).getD i 0 := fun i hi => by
    unfold rw
    rw [laid_row hJ hi]
    have := inc.1 i hi
    exact nI_cl (by omega)
  refine ⟨⟨⟨?_, ?_⟩, ⟨?_, ?_⟩, ?_, ?_, ?_, ?_, ?_, ⟨?_, ?_⟩⟩, ?_, ?_, ?_, ?_⟩
  · rw [n1, lo 0 (by decide) (by decide) (by decide)]; exact a1.1
  · rw [n1]; exact hJ
  · rw [n2]; rfl
  · rw [n2]; exact hF
  · obtain ⟨s, h1, h2, h3⟩ := a3
    unfold sn
    rw [lo 2 (by decide) (by decide) (by decide), h1, nI_cl (by omega)]
    exact ⟨rfl, h2, h3⟩
  · obtain ⟨s, h1, h2⟩ := a4
    unfold pn
    rw [lo 3 (by decide) (by decide) (by decide), h1, nI_cl (by omega)]
    exact ⟨rfl, h2⟩
  · obtain ⟨s, h1, h2⟩ := a5
    unfold bn
    rw [lo 4 (by decide) (by decide) (by decide), h1, nI_cl (by omega)]
    exact ⟨rfl, h2⟩
  · obtain ⟨c, h1, h2, B, h3, h4⟩ := a6
    unfold lf
    rw [lo 5 (by decide) (by decide) (by decide), h2, nI_cl (by omega)]
    exact ⟨rfl, h1⟩
  · obtain ⟨c, h1, h2, B, h3, h4⟩ := a6
    have hp : 2 ^ c ≤ 2 ^ 8 := Nat.pow_le_pow_right (by decide) h1
    have h5 : B < 256 := Nat.lt_of_lt_of_le h3 hp
    unfold lf bs
    rw [lo 5 (by decide) (by decide) (by decide), lo 6 (by decide) (by decide) (by decide), h2, h4, nI_cl (by omega), nI_cl (by omega)]
    exact ⟨rfl, h3⟩
  · rw [n3]; rfl
  · rw [n3]; omega
  · intro k hk
    rw [n1, n2] at hk
    by_cases c1 : k < jn (rD P)
    · obtain ⟨q, ⟨h1, h2⟩, h3, h4⟩ := b k c1
      rw [laid_lo (by omega) (by omega) (by omega) hJ, laid_lo (by omega) (by omega) (by omega) hJ, h3, h4, iI_toInt (by omega) (by omega), iI_toInt (by omega) (by omega)]
      exact ⟨h1, h2⟩
    · obtain ⟨t, rfl⟩ : ∃ t, k = jn (rD P) + t := ⟨k - jn (rD P), by omega⟩
      obtain ⟨q, ⟨h1, h2⟩, h3, h4⟩ := c t (by omega)
      rw [show 8 + 4 * (jn (rD P) + t) = 8 + 4 * jn (rD P) + 4 * t by omega, show 9 + 4 * (jn (rD P) + t) = 8 + 4 * jn (rD P) + (4 * t + 1) by omega, laid_tal hJ hF (by omega), laid_tal hJ hF (by omega), h3, h4, iI_toInt (by omega) (by omega), iI_toInt (by omega) (by omega)]
      exact ⟨h1, h2⟩
  · intro i hi
    rw [n3] at hi
    rw [rwv i hi, laid_row hJ hi, n1, n2]
    exact ⟨rfl, inc.1 i hi⟩
  · intro i k hik hk
    rw [n3] at hk
    rw [rwv i (by omega), rwv k hk]
    exact inc.2 i k hik hk
  · intro k hk hs
    have := of_decide_eq_true hs
    rw [show 78 + k = 64 + (14 + k) by omega, laid_ex hW' (by omega), if_neg (by omega)] at this
    exact absurd rfl this
def fiM (M : ZM) (j : Nat) (P : PS) : ZM := rwM (tlM (heM M j P) j P (fN P)) j (rowL P)
theorem heM_c {c : Nat} (h : c ≠ tb j) (h2 : c ≠ tb j + 6) : heM M j P c = M c := by
  unfold heM
  rw [up2_ne h, hM_c h2]
theorem heM_s {t : Nat} (h : t ≠ 8) : heM M j P (tb j) t = M (tb j) t := by
  unfold heM
  rw [up2_s h, hM_c (by omega)]
theorem fill_run (hS : Sh R) (hj : j < 10) (hC : PSC M j P) (hW : PW P) : cal (d + 1) 57 [.ref (tb j)] (heM M j P) R = some (.inl none, fiM M j P, R) := by
  obtain ⟨⟨t1, t2, t3, t4, t5, t6, t7, t8, t9⟩, u1, u2, u3, u4, u5⟩ := hC
  refine fillRow_ hS hj ?_ ?_ ?_ ?_ hW.1.1.2 hW.2.2.2.2.1 ?_ ?_
  · rw [heM_s (by decide), t1]; exact hW.1.1.1
  · rw [heM_s (by decide)]; exact t2
  · exact up2_at
  · rw [heM_s (by decide)]; exact t4
  · intro k hk
    unfold heM
    rw [up2_c (by omega)]
    exact if_pos ⟨rfl, hk⟩
  · intro k hk
    rw [heM_c (by omega) (by omega), heM_c (by omega) (by omega), heM_c (by omega) (by omega), heM_c (by omega) (by omega)]
    exact u2 k hk
theorem fiM_c {c : Nat} (h : c < tb j ∨ tb j + 8 < c) : fiM M j P c = M c := by
  unfold fiM
  rw [rwM_c (by omega) (by omega), tlM_c (by omega), heM_c (by omega) (by omega)]
theorem laid_tab (hj : j < 10) (hC : PSC M j P) (hW : PW P) : TabRel (fiM M j P) j (laid P) := by
  have hJ := hW.1.1.2
  have hF := hW.2.2.2.2.1
  obtain ⟨n1, n2, n3⟩ := laid_n hW
  obtain ⟨l1, l2⟩ := rowL_len (P := P) hF
  have hex := laid_exn hW
  obtain ⟨⟨t1, t2, t3, t4, t5, t6, t7, t8, t9⟩, u1, u2, u3, u4, u5⟩ := hC
  have lo : ∀ x, x ≠ 1 → x ≠ 7 → x < 8 → laid P x = rD P x := fun x h1 h7 h8 => laid_lo h1 h7 (by omega) hJ
  have s0 : ∀ t, t ≠ 9 → t ≠ 8 → fiM M j P (tb j) t = M (tb j) t := fun t h1 h2 => by
    unfold fiM
    rw [rwM_s h1, tlM_c (by omega), heM_s h2]
  have pe : ∀ c t, (tb j + 2 ≤ c ∧ c ≤ tb j + 5) → fiM M j P c t = tlM M j P (fN P) c t := fun c t h => by
    unfold fiM
    rw [rwM_c (by omega) (by omega)]
    unfold tlM
    rw [heM_c (by omega) (by omega)]
  refine ⟨⟨?_, ?_, ?_, ?_, ?_, ?_, ?_, ?_, ?_⟩, ?_, ?_, ?_⟩
  · rw [s0 _ (by decide) (by decide), lo _ (by decide) (by decide) (by decide)]; exact t1
  · rw [s0 _ (by decide) (by decide)]; exact t2
  · unfold fiM
    rw [rwM_s (by decide), tlM_c (by omega), hex]
    exact up2_at
  · unfold fiM
    rw [rwM_9]
    rfl
  · rw [s0 _ (by decide) (by decide), lo _ (by decide) (by decide) (by decide)]; exact t5
  · rw [s0 _ (by decide) (by decide), lo _ (by decide) (by decide) (by decide)]; exact t6
  · rw [s0 _ (by decide) (by decide), lo _ (by decide) (by decide) (by decide)]; exact t7
  · rw [s0 _ (by decide) (by decide), lo _ (by decide) (by decide) (by decide)]; exact t8
  · rw [s0 _ (by decide) (by decide), lo _ (by decide) (by decide) (by decide)]; exact t9
  · intro k hk
    rw [n1, n2] at hk
    rw [pe _ _ (by omega), pe _ _ (by omega), pe _ _ (by omega), pe _ _ (by omega)]
    by_cases c1 : k < jn (rD P)
    · rw [tlM_t (Or.inl c1), tlM_t (Or.inl c1), tlM_t (Or.inl c1), tlM_t (Or.inl c1), laid_lo (by omega) (by omega) (by omega) hJ, laid_lo (by omega) (by omega) (by omega) hJ, laid_lo (by omega) (by omega) (by omega) hJ, laid_lo (by omega) (by omega) (by omega) hJ]
      exact u1 k c1
    · obtain ⟨t, rfl⟩ : ∃ t, k = jn (rD P) + t := ⟨k - jn (rD P), by omega⟩
      rw [show 8 + 4 * (jn (rD P) + t) = 8 + 4 * jn (rD P) + 4 * t by omega, show 9 + 4 * (jn (rD P) + t) = 8 + 4 * jn (rD P) + (4 * t + 1) by omega, show 10 + 4 * (jn (rD P) + t) = 8 + 4 * jn (rD P) + (4 * t + 2) by omega, show 11 + 4 * (jn (rD P) + t) = 8 + 4 * jn (rD P) + (4 * t + 3) by omega, laid_tal hJ hF (by omega), laid_tal hJ hF (by omega), laid_tal hJ hF (by omega), laid_tal hJ hF (by omega)]
      unfold tlM
      rw [if_pos (by omega), if_pos (by omega), if_pos (by omega), if_pos (by omega), Nat.add_sub_cancel_left, show 4 * t + (tb j + 2 - (tb j + 2)) = 4 * t by omega, show 4 * t + (tb j + 3 - (tb j + 2)) = 4 * t + 1 by omega, show 4 * t + (tb j + 4 - (tb j + 2)) = 4 * t + 2 by omega, show 4 * t + (tb j + 5 - (tb j + 2)) = 4 * t + 3 by omega]
      exact ⟨rfl, rfl, rfl, rfl⟩
  · intro k hk
    rw [laid_ex hW (by omega), show 78 + k = 64 + (14 + k) by omega, laid_ex hW (by omega), if_neg (show ¬ 14 + k < jn (rD P) by omega)]
    obtain ⟨v1, v2⟩ := u3 k hk
    refine ⟨?_, ?_⟩
    · unfold fiM
      rw [rwM_c (by omega) (by omega), tlM_c (by omega)]
      unfold heM
      rw [up2_c (by omega)]
      unfold hM
      by_cases c1 : k < jn (rD P)
      · rw [if_pos ⟨rfl, c1⟩, if_pos c1]
      · rw [if_neg (fun e => c1 e.2), if_neg c1]; exact v1
    · unfold fiM
      rw [rwM_c (by omega) (by omega), tlM_c (by omega), heM_c (by omega) (by omega)]
      exact v2
  · intro k hk
    rw [n3] at hk
    unfold fiM
    rw [rwM_8 hk, laid_row hJ hk]
end Lh
