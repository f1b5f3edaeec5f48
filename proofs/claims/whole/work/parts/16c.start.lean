-- the reference's constructor, the law's start
def f00 : Nat → Int32 := unF rd0 (fun _ => 0)
def G00 : GS := (f00, [], 0, fun _ => nI 0, -1, nI 0, nI 0, nI 0)
section Gd
variable {d L : Nat} {M : ZM} {R : ZH}
theorem bgg_L {a : Nat} (hk : zK R a = 11) (hl : zLn R a = 106) (ha : a < zN R) : ∀ (m k : Nat) (M : ZM), k + m = 106 → (∀ j, j < k → M a j = if 64 ≤ j then -1 else nI 0) → ∃ M', exe d 110 2 [.ref a, .int (nI k)] [] M R = some (.inl none, M', R) ∧ (∀ j, j < 106 → M' a j = rd0 j) ∧ (∀ j, 106 ≤ j → M' a j = M a j) ∧ ∀ c, c ≠ a → M' c = M c := by
  intro m
  induction m with
  | zero =>
    intro k M hk' h
    have e : k = 106 := by omega
    subst e
    refine ⟨up2 M a 2 (nI 2), ?_, fun j hj => ?_, fun j hj => up2_s (by omega), fun c hc => up2_ne hc⟩
    · rw [q110_2]
      simp (disch := first | assumption | exact nar_b0 | exact nar_b1 | exact nar_b | exact Or.inl rfl | exact Or.inr rfl | exact zin_t (by omega) (by omega) | exact Nat.le_of_ble_eq_true rfl | (rw [nI_cl (by omega)]; assumption) | omega) only [↓reduceIte, reduceCtorEq, not_true_eq_false, not_false_eq_true, q110_0, q110_1, q110_3, q110_5, q110_8, q110_9, q110_10, q110_11, q110_13, q110_16, q110_17, q110_20, q110_21, q110_22, q110_25, q110_28, q110_29, q110_30, q110_31, q110_32, kl_int, kl_ref, kl_tok, cS_nil, cS_int, cS_ref, cS_long, tl_some, tl_none, List.cons_append, List.nil_append, nI_add, nI_ltb, nI_leb, nI_eqb, nI_cl, zin_nI, Nat.le_refl]
    · unfold rd0
      by_cases c : j = 2
      · rw [if_pos c, c, up2_at]
      · rw [if_neg c, up2_s c]; exact h j hj
  | succ m ih =>
    intro k M hk' h
    have z : ¬ 106 ≤ k := by omega
    by_cases c : k < 64
    · obtain ⟨M', g1, g2, g4, g3⟩ := ih (k + 1) (up2 M a k (nI 0)) (by omega) (fun j hj => by
        by_cases e : j = k
        · rw [e, up2_at, if_neg (by omega)]
        · rw [up2_s e]; exact h j (by omega))
      refine ⟨M', ?_, g2, fun j hj => by rw [g4 j hj, up2_s (by omega)], fun c hc => by rw [g3 c hc, up2_ne hc]⟩
      rw [← g1, q110_2]
      simp (disch := first | assumption | exact nar_b0 | exact nar_b1 | exact nar_b | exact Or.inl rfl | exact Or.inr rfl | exact zin_t (by omega) (by omega) | exact Nat.le_of_ble_eq_true rfl | (rw [nI_cl (by omega)]; assumption) | omega) only [↓reduceIte, reduceCtorEq, not_true_eq_false, not_false_eq_true, q110_0, q110_1, q110_3, q110_5, q110_8, q110_9, q110_10, q110_11, q110_13, q110_16, q110_17, q110_20, q110_21, q110_22, q110_25, q110_28, q110_29, q110_30, q110_31, q110_32, kl_int, kl_ref, kl_tok, cS_nil, cS_int, cS_ref, cS_long, tl_some, tl_none, List.cons_append, List.nil_append, nI_add, nI_ltb, nI_leb, nI_eqb, nI_cl, zin_nI, z, c]
    · obtain ⟨M', g1, g2, g4, g3⟩ := ih (k + 1) (up2 M a k (-1)) (by omega) (fun j hj => by
        by_cases e : j = k
        · rw [e, up2_at, if_pos (by omega)]
        · rw [up2_s e]; exact h j (by omega))
      refine ⟨M', ?_, g2, fun j hj => by rw [g4 j hj, up2_s (by omega)], fun c hc => by rw [g3 c hc, up2_ne hc]⟩
      rw [← g1, q110_2]
      simp (disch := first | assumption | exact nar_b0 | exact nar_b1 | exact nar_b | exact Or.inl rfl | exact Or.inr rfl | exact zin_t (by omega) (by omega) | exact Nat.le_of_ble_eq_true rfl | (rw [nI_cl (by omega)]; assumption) | omega) only [↓reduceIte, reduceCtorEq, not_true_eq_false, not_false_eq_true, q110_0, q110_1, q110_3, q110_5, q110_8, q110_9, q110_10, q110_11, q110_13, q110_16, q110_17, q110_20, q110_21, q110_22, q110_25, q110_28, q110_29, q110_30, q110_31, q110_32, kl_int, kl_ref, kl_tok, cS_nil, cS_int, cS_ref, cS_long, tl_some, tl_none, List.cons_append, List.nil_append, nI_add, nI_ltb, nI_leb, nI_eqb, nI_cl, zin_nI, z, c]
theorem bgg_ {a : Nat} (hk : zK R a = 11) (hl : zLn R a = 106) (ha : a < zN R) : ∃ M', cal d 110 [.ref a] M R = some (.inl none, M', R) ∧ (∀ j, j < 106 → M' a j = rd0 j) ∧ (∀ j, 106 ≤ j → M' a j = M a j) ∧ ∀ c, c ≠ a → M' c = M c := by
  obtain ⟨M', g1, g2, g4, g3⟩ := bgg_L (d := d) hk hl ha 106 0 M (by omega) (fun j h => absurd h (Nat.not_lt_zero _))
  refine ⟨M', ?_, g2, g4, g3⟩
  rw [← g1, e110]
  simp (disch := first | assumption | exact nar_b0 | exact nar_b1 | exact nar_b | exact Or.inl rfl | exact Or.inr rfl | exact zin_t (by omega) (by omega) | exact Nat.le_of_ble_eq_true rfl | (rw [nI_cl (by omega)]; assumption) | omega) only [↓reduceIte, reduceCtorEq, not_true_eq_false, not_false_eq_true, q110_0, q110_1, q110_3, q110_5, q110_8, q110_9, q110_10, q110_11, q110_13, q110_16, q110_17, q110_20, q110_21, q110_22, q110_25, q110_28, q110_29, q110_30, q110_31, q110_32, kl_int, kl_ref, kl_tok, cS_nil, cS_int, cS_ref, cS_long, tl_some, tl_none, List.cons_append, List.nil_append, nI_add, nI_ltb, nI_leb, nI_eqb, nI_cl, zin_nI]
theorem c109_ (hZ : ∀ c, 127 ≤ c → c < 1000 → ∀ t, M c t = 0) : ∃ M', cal (d + 1) 109 [.ref 127] M (tbR L 128 129) = some (.inl none, M', tbR L 146 147) ∧ M' 129 = f00 ∧ (∀ c, c ≠ 127 → c ≠ 129 → M' c = M c) ∧ M' 127 14 = -1 ∧ ∀ q, q ≠ 14 → M' 127 q = M 127 q := by
  have h1 : cal (d + 1) 109 [.ref 127] M (tbR L 128 129) = exe (d + 1) 109 59 [.ref 127] [] (up2 M 127 14 (-1)) (tbR L 134 135) := by
    rw [e109]
    simp (disch := first | assumption | exact tbK (by decide +kernel) | exact tbL (by decide +kernel) | exact tbN (by decide) | exact tbA (by decide +kernel) | exact hZ _ (by decide) (by decide) | exact zin_t (by decide) (by decide) | exact Nat.le_of_ble_eq_true rfl | decide +kernel | omega) only [q109_0, q109_1, q109_4, q109_5, a109_6, p109_8, q109_11, q109_12, a109_14, p109_16, q109_19, q109_20, a109_22, p109_24, q109_27, q109_28, a109_31, p109_33, q109_36, q109_37, a109_40, p109_42, q109_45, q109_46, a109_49, p109_51, q109_54, q109_55, q109_56, q109_60, a109_63, p109_65, q109_68, q109_69, a109_70, p109_72, q109_75, q109_76, a109_77, p109_79, q109_82, q109_83, a109_85, p109_87, q109_90, q109_91, a109_94, p109_96, q109_99, q109_100, a109_102, p109_104, q109_107, q109_108, a109_110, p109_112, q109_115, q109_116, a109_119, p109_121, q109_124, q109_125, a109_128, p109_130, q109_133, q109_134, a109_137, p109_139, q109_142, q109_143, a109_146, p109_148, q109_151, q109_152, a109_155, p109_157, q109_160, q109_161, q109_164, q109_167, kl_int, kl_ref, kl_tok, cS_nil, cS_int, cS_ref, cS_long, tl_some, tl_none, List.cons_append, List.nil_append, nI_add, nI_ltb, nI_leb, nI_eqb, nI_cl, zin_nI, Nat.reduceAdd]
  have hZ2 : ∀ c, 128 ≤ c → c < 1000 → ∀ t, up2 M 127 14 (-1) c t = 0 := fun c h1 h2 t => by rw [up2_c (by omega)]; exact hZ c (by omega) h2 t
  have k129 : up2 M 127 14 (-1) 129 = fun _ => 0 := by
    rw [up2_ne (by decide)]
    funext t
    exact hZ 129 (by decide) (by decide) t
  have hc : ∀ c, c ≠ 127 → up2 M 127 14 (-1) c = M c := fun c h => up2_ne h
  have h14 : up2 M 127 14 (-1) 127 14 = -1 := up2_at
  have hq : ∀ q, q ≠ 14 → up2 M 127 14 (-1) 127 q = M 127 q := fun q h => up2_s h
  generalize up2 M 127 14 (-1) = N at h1 hZ2 k129 hc h14 hq
  have hZ := hZ2
  obtain ⟨M', g1, g2, g4, g3⟩ := bgg_ (d := d) (M := N) (R := tbR L 146 147) (a := 129) (tbK (by decide +kernel)) (tbL (by decide +kernel)) (tbN (by decide))
  have f2 : zRf (tbR L 146 147) 127 2 = some 129 := tbF (by decide) (by decide +kernel)
  refine ⟨M', ?_, ?_, fun c h h2 => by rw [g3 c h2, hc c h], by rw [g3 _ (by decide)]; exact h14, fun q h => by rw [g3 _ (by decide)]; exact hq q h⟩
  · rw [h1]
    simp (disch := first | assumption | exact tbK (by decide +kernel) | exact tbL (by decide +kernel) | exact tbN (by decide) | exact tbA (by decide +kernel) | exact hZ _ (by decide) (by decide) | exact zin_t (by decide) (by decide) | exact Nat.le_of_ble_eq_true rfl | decide +kernel | omega) only [q109_0, q109_1, q109_4, q109_5, a109_6, p109_8, q109_11, q109_12, a109_14, p109_16, q109_19, q109_20, a109_22, p109_24, q109_27, q109_28, a109_31, p109_33, q109_36, q109_37, a109_40, p109_42, q109_45, q109_46, a109_49, p109_51, q109_54, q109_55, q109_56, q109_59, q109_60, a109_63, p109_65, q109_68, q109_69, a109_70, p109_72, q109_75, q109_76, a109_77, p109_79, q109_82, q109_83, a109_85, p109_87, q109_90, q109_91, a109_94, p109_96, q109_99, q109_100, a109_102, p109_104, q109_107, q109_108, a109_110, p109_112, q109_115, q109_116, a109_119, p109_121, q109_124, q109_125, a109_128, p109_130, q109_133, q109_134, a109_137, p109_139, q109_142, q109_143, a109_146, p109_148, q109_151, q109_152, a109_155, p109_157, q109_160, q109_161, q109_164, q109_167, kl_int, kl_ref, kl_tok, cS_nil, cS_int, cS_ref, cS_long, tl_some, tl_none, List.cons_append, List.nil_append, nI_add, nI_ltb, nI_leb, nI_eqb, nI_cl, zin_nI, Nat.reduceAdd, g1, f2, zk0_inl]
  · funext j
    unfold f00 unF
    by_cases c : j < 106
    · rw [if_pos c]; exact g2 j c
    · rw [if_neg c, g4 j (by omega), k129]
theorem tabs_c {c : Nat} (h : c < 2 ∨ 91 < c) : tabs M c = M c := by
  unfold tabs
  have : ∀ j, j < 10 → tb j = 2 + 9 * j := fun _ _ => rfl
  rw [clM_c (by unfold tb; omega), clM_c (by unfold tb; omega), clM_c (by unfold tb; omega), clM_c (by unfold tb; omega), clM_c (by unfold tb; omega), clM_c (by unfold tb; omega), clM_c (by unfold tb; omega), clM_c (by unfold tb; omega), clM_c (by unfold tb; omega), clM_c (by unfold tb; omega)]
theorem tabs_0 {c : Nat} (h : c ≤ 10) : tabs M c = clM M 0 c := by
  unfold tabs
  rw [clM_c (by unfold tb; omega), clM_c (by unfold tb; omega), clM_c (by unfold tb; omega), clM_c (by unfold tb; omega), clM_c (by unfold tb; omega), clM_c (by unfold tb; omega), clM_c (by unfold tb; omega), clM_c (by unfold tb; omega), clM_c (by unfold tb; omega)]
theorem tb_0 : FS0 L = tbR L 0 0 := by
  refine Prod.ext ?_ (Prod.ext rfl (Prod.ext ?_ rfl))
  · funext b j; show (FS0 L).1 b j = if b < 0 then rfL 0 b j else (FS0 L).1 b j; rw [if_neg (by omega)]
  · funext b; show (FS0 L).2.2.1 b = if b < 0 then shT.getD b (0, 0) else (FS0 L).2.2.1 b; rw [if_neg (by omega)]
/-- the state behind the constructors -/
def ST0 (xs : Nat → Int32) (N : ZM) : Prop := N 129 = f00 ∧ (∀ c, c ≠ 127 → c ≠ 129 → N c = up2 (tabs (FM0 xs)) 0 6 (-1) c) ∧ N 127 14 = -1 ∧ ∀ q, q ≠ 14 → N 127 q = 0
theorem FM0_z {xs : Nat → Int32} {c t : Nat} (h : c < 1000) : FM0 xs c t = 0 := by
  unfold FM0
  rw [if_neg (by omega), if_neg (by omega)]
theorem law_start {xs : Nat → Int32} : ∃ N, exe (d + 5) 219 0 [.ref 1000000, tok, tok, tok, tok, tok, tok] [] (FM0 xs) (FS0 L) = exe (d + 5) 219 23 [.ref 1000000, .ref 0, .ref 127, .ref 146, .int (nI 0), tok, tok] [] N (tbR L 147 147) ∧ ST0 xs N := by
  have hZ0 : ∀ c, 0 ≤ c → c < 1000 → ∀ t, FM0 xs c t = 0 := fun c _ h t => FM0_z h
  have h67 := c67_ (d := d + 1) (L := L) (M := FM0 xs) (fun c _ h => hZ0 c (by omega) h)
  have hZ1 : ∀ c, 127 ≤ c → c < 1000 → ∀ t, up2 (tabs (FM0 xs)) 0 6 (-1) c t = 0 := fun c h1 h2 t => by rw [up2_c (by omega), tabs_c (by omega)]; exact FM0_z h2
  obtain ⟨N, g1, g2, g3, g4, g5⟩ := c109_ (d := d + 3) (L := L) (M := up2 (tabs (FM0 xs)) 0 6 (-1)) hZ1
  refine ⟨N, ?_, g2, g3, g4, fun q h => by rw [g5 q h]; exact hZ1 127 (by decide) (by decide) q⟩
  have hZ3 : ∀ c, 146 ≤ c → c < 1000 → ∀ t, N c t = 0 := fun c h1 h2 t => by rw [g3 c (by omega) (by omega)]; exact hZ1 c (by omega) h2 t
  rw [tb_0]
  have s1 : exe (d + 5) 219 0 [.ref 1000000, tok, tok, tok, tok, tok, tok] [] (FM0 xs) (tbR L 0 0) = exe (d + 5) 219 8 [.ref 1000000, .ref 0, tok, tok, tok, tok, tok] [] (up2 (tabs (FM0 xs)) 0 6 (-1)) (tbR L 127 129) := by
    simp (disch := first | assumption | exact tbK (by decide +kernel) | exact tbL (by decide +kernel) | exact tbN (by decide) | exact tbA (by decide +kernel) | exact hZ0 _ (by decide) (by decide) | exact zin_t (by decide) (by decide) | exact Nat.le_of_ble_eq_true rfl | decide +kernel | omega) only [a219_0, q219_3i, q219_3a, q219_4, q219_7, kl_int, kl_ref, kl_tok, cS_nil, cS_int, cS_ref, cS_long, tl_some, tl_none, List.cons_append, List.nil_append, nI_add, nI_ltb, nI_leb, nI_eqb, nI_cl, zin_nI, Nat.reduceAdd]
  have s2 : exe (d + 5) 219 8 [.ref 1000000, .ref 0, tok, tok, tok, tok, tok] [] (up2 (tabs (FM0 xs)) 0 6 (-1)) (tbR L 127 129) = exe (d + 5) 219 16 [.ref 1000000, .ref 0, .ref 127, tok, tok, tok, tok] [] N (tbR L 146 147) := by
    simp (disch := first | assumption | exact tbK (by decide +kernel) | exact tbL (by decide +kernel) | exact tbN (by decide) | exact tbA (by decide +kernel) | exact hZ1 _ (by decide) (by decide) | exact zin_t (by decide) (by decide) | exact Nat.le_of_ble_eq_true rfl | decide +kernel | omega) only [a219_8, q219_11i, q219_11a, q219_12, q219_15, kl_int, kl_ref, kl_tok, cS_nil, cS_int, cS_ref, cS_long, tl_some, tl_none, List.cons_append, List.nil_append, nI_add, nI_ltb, nI_leb, nI_eqb, nI_cl, zin_nI, Nat.reduceAdd]
  rw [s1, s2]
  simp (disch := first | assumption | exact tbK (by decide +kernel) | exact tbL (by decide +kernel) | exact tbN (by decide) | exact tbA (by decide +kernel) | exact hZ3 _ (by decide) (by decide) | exact zin_t (by decide) (by decide) | exact Nat.le_of_ble_eq_true rfl | decide +kernel | omega) only [q219_16, a219_17, q219_19, q219_20, q219_21, kl_int, kl_ref, kl_tok, cS_nil, cS_int, cS_ref, cS_long, tl_some, tl_none, List.cons_append, List.nil_append, nI_add, nI_ltb, nI_leb, nI_eqb, nI_cl, zin_nI, Nat.reduceAdd]
theorem rfT_ok : rfT.all (fun q => decide (q.1 < 147) && decide (rfL 147 q.1 q.2.1 = some q.2.2)) = true := by decide +kernel
theorem Sh_0 : Sh (tbR L 147 147) := by
  refine ⟨rfl, fun a ha => if_pos ha, fun q hq => ?_, ?_, fun j hj => ⟨?_, ?_, ?_, ?_⟩⟩
  · have := List.all_eq_true.mp rfT_ok q hq
    rw [Bool.and_eq_true] at this
    exact tbF (of_decide_eq_true this.1) (of_decide_eq_true this.2)
  · rfl
  · show (if 1000001 + j < 147 then shT.getD (1000001 + j) (0, 0) else (if 1000001 + j = 1000000 then (11, L) else if 1000001 ≤ 1000001 + j ∧ 1000001 + j < 1000018 then (9, 2) else if 1000101 ≤ 1000001 + j ∧ 1000001 + j < 1000118 then (12, zstL.getD (1000001 + j - 1000101) 0) else (0, 0) : Nat × Nat)).1 = 9
    rw [if_neg (by omega), if_neg (by omega), if_pos (by omega)]
  · show (if 1000001 + j < 147 then rfL 147 (1000001 + j) 0 else if (1000001 ≤ 1000001 + j ∧ 1000001 + j < 1000018) ∧ 0 = 0 then some (1000001 + j + 100) else none) = _
    rw [if_neg (by omega), if_pos ⟨by omega, rfl⟩]
    congr 1
    omega
  · show (if 1000101 + j < 147 then shT.getD (1000101 + j) (0, 0) else (if 1000101 + j = 1000000 then (11, L) else if 1000001 ≤ 1000101 + j ∧ 1000101 + j < 1000018 then (9, 2) else if 1000101 ≤ 1000101 + j ∧ 1000101 + j < 1000118 then (12, zstL.getD (1000101 + j - 1000101) 0) else (0, 0) : Nat × Nat)).1 = 12
    rw [if_neg (by omega), if_neg (by omega), if_neg (by omega), if_pos (by omega)]
  · show (if 1000101 + j < 147 then shT.getD (1000101 + j) (0, 0) else (if 1000101 + j = 1000000 then (11, L) else if 1000001 ≤ 1000101 + j ∧ 1000101 + j < 1000018 then (9, 2) else if 1000101 ≤ 1000101 + j ∧ 1000101 + j < 1000118 then (12, zstL.getD (1000101 + j - 1000101) 0) else (0, 0) : Nat × Nat)).2 = _
    rw [if_neg (by omega), if_neg (by omega), if_neg (by omega), if_pos (by omega)]
    rw [Nat.add_sub_cancel_left]
theorem FO_0 {xs : Nat → Int32} {N : ZM} (h : ST0 xs N) : FO N := by
  have hc : ∀ c, 1000 ≤ c → N c = FM0 xs c := fun c hc => by rw [h.2.1 c (by omega) (by omega), up2_ne (by omega), tabs_c (by omega)]
  intro j hj
  rw [hc _ (by omega), hc _ (by omega)]
  refine ⟨?_, fun k => ?_⟩
  · unfold FM0
    rw [if_neg (by omega), if_neg (by omega)]
    rfl
  · unfold FM0
    rw [if_neg (by omega), if_pos (by omega), Nat.add_sub_cancel_left]
theorem f00_lt {k : Nat} (h : k < 106) : f00 k = rd0 k := unF_lt h
theorem f00_n : jn f00 = 0 ∧ tn f00 = 0 ∧ ln f00 = 0 := ⟨rfl, rfl, rfl⟩
theorem WG_0 : WG G00 := by
  refine ⟨?_, fun g hg => (by cases hg), Nat.zero_le _, Nat.zero_le _, fun k hk => absurd hk (Nat.not_lt_zero k)⟩
  refine (laid_Wf PW.zero).cg (fun k hk => ?_)
  show f00 k = laid ps0 k
  rw [f00_lt hk]
  unfold laid
  have j0 : jn (rD ps0) = 0 := rfl
  have n0 : fN ps0 = 0 := rfl
  have r0 : (rowL ps0).length = 0 := rfl
  rw [j0, n0, r0]
  by_cases c1 : k = 1
  · rw [if_pos c1, c1]; rfl
  · rw [if_neg c1]
    by_cases c7 : k = 7
    · rw [if_pos c7, c7]; rfl
    · rw [if_neg c7, if_neg (by omega), if_neg (by omega), if_neg (by omega)]
      rfl
theorem CS_0 {xs : Nat → Int32} {N : ZM} (h : ST0 xs N) : CS N (tbR L 147 147) 0 G00 := by
  have c0 : ∀ q, q ≠ 6 → N 0 q = 0 := fun q hq => by rw [h.2.1 0 (by decide) (by decide), up2_s hq, tabs_c (by decide)]; exact FM0_z (by decide)
  have ct : ∀ c, 2 ≤ c → c ≤ 10 → N c = clM (FM0 xs) 0 c := fun c h1 h2 => by rw [h.2.1 c (by omega) (by omega), up2_ne (by omega), tabs_0 h2]
  obtain ⟨j0, t0, l0⟩ := f00_n
  have ex0 : exn f00 = 0 := rfl
  refine ⟨⟨Sh_0, FO_0 h, tbF (by decide) (by decide +kernel), by decide⟩, ⟨c0 1 (by decide), c0 3 (by decide), c0 5 (by decide), ?_, c0 7 (by decide), c0 8 (by decide), c0 9 (by decide)⟩, fun k hk => absurd hk (Nat.not_lt_zero k), ⟨?_, ?_, ?_, ?_⟩, fun j hj => absurd hj (Nat.not_lt_zero j), ⟨Or.inl (c0 13 (by decide)), Or.inl (c0 15 (by decide))⟩⟩
  · rw [h.2.1 0 (by decide) (by decide)]; exact up2_at
  · show N 2 6 = f00 0 ∧ N 2 7 = f00 1 ∧ N 2 8 = nI (exn f00) ∧ N 2 9 = f00 7 ∧ N 2 10 = f00 2 ∧ N 2 11 = f00 3 ∧ N 2 12 = f00 4 ∧ N 2 13 = f00 5 ∧ N 2 14 = f00 6
    rw [ct 2 (by decide) (by decide), ex0]
    exact ⟨rfl, rfl, rfl, rfl, rfl, rfl, rfl, rfl, rfl⟩
  · intro k hk
    have hk : k < jn f00 + tn f00 := hk
    rw [j0, t0] at hk
    omega
  · intro k hk
    show N 8 k = f00 (64 + k) ∧ N 9 k = f00 (78 + k)
    rw [ct 8 (by decide) (by decide), ct 9 (by decide) (by decide), f00_lt (by omega), f00_lt (by omega)]
    have e6 : clM (FM0 xs) 0 8 = filM (filM (FM0 xs) 8 14 (-1)) 9 14 (-1) 8 := rfl
    have e7 : clM (FM0 xs) 0 9 = filM (filM (FM0 xs) 8 14 (-1)) 9 14 (-1) 9 := rfl
    rw [e6, e7, filM_c (by decide), filM_v hk, filM_v hk]
    unfold rd0
    rw [if_neg (by omega), if_pos (by omega), if_neg (by omega), if_pos (by omega)]
    exact ⟨rfl, rfl⟩
  · intro k hk
    have hk : k < ln f00 := hk
    rw [l0] at hk
    omega
theorem MS_0 {xs : Nat → Int32} {N : ZM} (h : ST0 xs N) : MS N G00 := by
  have hc : ∀ c, 128 ≤ c → c < 1000 → c ≠ 129 → ∀ t, N c t = 0 := fun c h1 h2 h3 t => by rw [h.2.1 c (by omega) h3, up2_c (by omega), tabs_c (by omega)]; exact FM0_z h2
  refine ⟨⟨h.2.2.2 8 (by decide), h.2.2.2 5 (by decide), h.2.2.1, hc 128 (by decide) (by decide) (by decide) 0, hc 128 (by decide) (by decide) (by decide) 1, hc 128 (by decide) (by decide) (by decide) 2⟩, fun k hk => absurd hk (Nat.not_lt_zero k), h.1, fun j hj => absurd hj (Nat.not_lt_zero j)⟩
theorem room_0 : zC (tbR L 147 147) = 147 ∧ zL (tbR L 147 147) = 58084 ∧ zLn (tbR L 147 147) 1000000 = L := ⟨rfl, by show slS 147 = _; decide +kernel, rfl⟩
theorem scr_0 {xs : Nat → Int32} {N : ZM} (h : ST0 xs N) : N 1000000 = xs := by
  rw [h.2.1 _ (by decide) (by decide), up2_ne (by decide), tabs_c (by decide)]
  rfl
end Gd
