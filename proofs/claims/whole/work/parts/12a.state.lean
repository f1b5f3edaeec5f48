-- what is told, kept, fed, refused: now, kept, tape's length, tape, place of the fault, counts
abbrev GS : Type := (Nat → Int32) × List (Nat → Int32) × Nat × (Nat → Int32) × Int32 × Int32 × Int32 × Int32
def gF (G : GS) : Nat → Int32 := G.1
def gK (G : GS) : List (Nat → Int32) := G.2.1
def gT (G : GS) : Nat := G.2.2.1
def gB (G : GS) : Nat → Int32 := G.2.2.2.1
def gL (G : GS) : Int32 := G.2.2.2.2.1
def gN (G : GS) : Int32 := G.2.2.2.2.2.1
def gA (G : GS) : Int32 := G.2.2.2.2.2.2.1
def gS (G : GS) : Int32 := G.2.2.2.2.2.2.2
def rfN (G : GS) : GS := (gF G, gK G, gT G, gB G, gL G, gN G + nI 1, gA G, gS G)
def rfA (G : GS) : GS := (gF G, gK G, gT G, gB G, gL G, gN G, gA G + nI 1, gS G)
def rfS (G : GS) : GS := (gF G, gK G, gT G, gB G, gL G, gN G, gA G, gS G + nI 1)
def onK (f : Nat → Int32) (s : Nat) : Nat := lfo s (bs f) (lf f)
def onL (f : Nat → Int32) : List (Nat × Nat) := RS (LSt (Un f).length (onK f 0)) (LSt (Un f).length (onK f 1)) (vE (sn f) (pn f) (Un f) 0) (vE (sn f) (pn f) (Un f) 1) (LSt (Un f).length (onK f 0))
def LkR (M : ZM) (J : Nat → Nat → Int64) (f : Nat → Int32) : Prop := LokRel M J (bn f) (sn f) (pn f) (Un f) (bs f) (lf f)
def OnR (M : ZM) (f : Nat → Int32) : Prop := AnsRel M ((Un f).map (fun p => p.1)) (vE (sn f) (pn f) (Un f) 0) (vE (sn f) (pn f) (Un f) 1) (onL f)
def FlR (M : ZM) (J : Nat → Nat → Int64) (f : Nat → Int32) : Prop := (M 0 13 = nI 0 ∨ (M 0 13 = nI 1 ∧ LkR M J f)) ∧ (M 0 15 = nI 0 ∨ (M 0 15 = nI 1 ∧ OnR M f))
def ringI (i n j : Nat) : Nat := (i + 10 - n + j) % 10
def CS (M : ZM) (R : ZH) (i : Nat) (G : GS) : Prop :=
  (Sh R ∧ FO M ∧ zRf R 0 4 = some (tb i) ∧ i < 10) ∧
  (M 0 1 = nI (gT G) ∧ M 0 3 = nI i ∧ M 0 5 = nI (gK G).length ∧ M 0 6 = gL G ∧ M 0 7 = gN G ∧ M 0 8 = gA G ∧ M 0 9 = gS G) ∧
  (∀ k, k < gT G → M 93 k = gB G k) ∧ TabRel M i (gF G) ∧ (∀ (j : Nat) (h : j < (gK G).length), TabRel M (ringI i (gK G).length j) (gK G)[j]) ∧ FlR M (zJ R) (gF G)
def WG (G : GS) : Prop := Wf (gF G) ∧ (∀ g ∈ gK G, Wf g) ∧ (gK G).length ≤ 8 ∧ gT G ≤ 500 ∧ (∀ k, k < gT G → zi2b (gB G k) = gB G k)
def MS (M : ZM) (G : GS) : Prop :=
  (M 127 8 = nI (gT G) ∧ M 127 5 = nI (gK G).length ∧ M 127 14 = gL G ∧ M 128 0 = gN G ∧ M 128 1 = gA G ∧ M 128 2 = gS G) ∧ (∀ k, k < gT G → M 132 k = gB G k) ∧ M 129 = gF G ∧ (∀ (j : Nat) (h : j < (gK G).length) (k : Nat), k < 106 → M 131 (106 * j + k) = (gK G)[j] k)
def FrC (M M' : ZM) : Prop := ∀ c, 127 ≤ c → M' c = M c
def FrM (M M' : ZM) : Prop := ∀ c, c < 127 ∨ 146 ≤ c → M' c = M c
theorem ring_lt {i n j : Nat} : ringI i n j < 10 := Nat.mod_lt _ (by decide)
theorem FO.fr {M M' : ZM} (h : FO M) (hM : ∀ c, 127 ≤ c → M' c = M c) : FO M' := by
  intro j hj
  rw [hM _ (by omega), hM _ (by omega)]
  exact h j hj
theorem CS.frJ {M M' : ZM} {R : ZH} {J' : Nat → Nat → Int64} {i : Nat} {G : GS} (h : CS M R i G) (hC : FrC M M') (h1 : ∀ c, 1 ≤ c → c < 106 → M' c = M c) (h0 : ∀ j, j ≠ 13 → j ≠ 15 → M' 0 j = M 0 j) (hF : FlR M' J' (gF G)) : CS M' (jR R J') i G := by
  obtain ⟨⟨a1, a2, a3, a4⟩, ⟨b1, b2, b3, b4, b5, b6, b7⟩, c1, c2, c3, -⟩ := h
  refine ⟨⟨a1, a2.fr hC, a3, a4⟩, ⟨?_, ?_, ?_, ?_, ?_, ?_, ?_⟩, ?_, ?_, ?_, hF⟩
  · rw [h0 _ (by decide) (by decide)]; exact b1
  · rw [h0 _ (by decide) (by decide)]; exact b2
  · rw [h0 _ (by decide) (by decide)]; exact b3
  · rw [h0 _ (by decide) (by decide)]; exact b4
  · rw [h0 _ (by decide) (by decide)]; exact b5
  · rw [h0 _ (by decide) (by decide)]; exact b6
  · rw [h0 _ (by decide) (by decide)]; exact b7
  · intro k hk; rw [h1 _ (by decide) (by decide)]; exact c1 k hk
  · exact c2.frame (fun c h2 h3 => h1 c (by unfold tb at h2; omega) (by have := tb_lt a4; omega))
  · intro j hj
    exact (c3 j hj).frame (fun c h2 h3 => h1 c (by unfold tb at h2; omega) (by have := tb_lt (ring_lt (i := i) (n := (gK G).length) (j := j)); omega))
theorem CS.fr {M M' : ZM} {R : ZH} {i : Nat} {G : GS} (h : CS M R i G) (hC : FrC M M') (h1 : ∀ c, 1 ≤ c → c < 106 → M' c = M c) (h0 : ∀ j, j ≠ 13 → j ≠ 15 → M' 0 j = M 0 j) (hF : FlR M' (zJ R) (gF G)) : CS M' R i G := CS.frJ (J' := zJ R) h hC h1 h0 hF
theorem LkR.fr {M M' : ZM} {J : Nat → Nat → Int64} {f : Nat → Int32} (h : LkR M J f) (hM : ∀ c, 106 ≤ c → c < 117 → M' c = M c) : LkR M' J f := by
  obtain ⟨h1, h2, h3, h4, h5⟩ := h
  refine ⟨h1.frame (hM _ (by decide) (by decide)) (hM _ (by decide) (by decide)) (hM _ (by decide) (by decide)) (hM _ (by decide) (by decide)), ?_, ?_, ?_, ?_⟩
  · rw [hM _ (by decide) (by decide)]; exact h2
  · intro S' a b q hq; rw [hM _ (by omega) (by omega)]; exact h3 S' a b q hq
  · exact h4
  · intro a q hq; rw [hM _ (by decide) (by decide)]; exact h5 a q hq
theorem OnR.fr {M M' : ZM} {f : Nat → Int32} (h : OnR M f) (hM : M' 126 = M 126) : OnR M' f := by
  unfold OnR AnsRel at h ⊢
  rw [hM]
  exact h
-- counts go up
theorem TabRel.c0 {M : ZM} {i k j : Nat} {f : Nat → Int32} {v : Int32} (h : TabRel M i f) (hj : j < 2) : TabRel (up2 M j k v) i f := h.frame (fun c h1 _ => up2_ne (by unfold tb at h1; omega))
theorem FlR.c0 {M : ZM} {J : Nat → Nat → Int64} {k : Nat} {f : Nat → Int32} {v : Int32} (h : FlR M J f) (h1 : k ≠ 13) (h2 : k ≠ 15) : FlR (up2 M 0 k v) J f := by
  obtain ⟨a, b⟩ := h
  refine ⟨?_, ?_⟩
  · rw [up2_s (fun q => h1 q.symm)]
    exact a.imp id (fun ⟨p, q⟩ => ⟨p, q.fr (fun c h _ => up2_ne (by omega))⟩)
  · rw [up2_s (fun q => h2 q.symm)]
    exact b.imp id (fun ⟨p, q⟩ => ⟨p, q.fr (up2_ne (by decide))⟩)
theorem FO.c0 {M : ZM} {k j : Nat} {v : Int32} (h : FO M) (hj : j < 127) : FO (up2 M j k v) := h.fr (fun c h => up2_ne (by omega))
theorem CS.rN {M : ZM} {R : ZH} {i : Nat} {G : GS} (h : CS M R i G) : CS (up2 M 0 7 (gN G + nI 1)) (thR R) i (rfN G) := by
  obtain ⟨⟨a1, a2, a3, a4⟩, ⟨b1, b2, b3, b4, b5, b6, b7⟩, c1, c2, c3, c4⟩ := h
  refine ⟨⟨a1.thr, a2.c0 (by decide), a3, a4⟩, ⟨?_, ?_, ?_, ?_, up2_at, ?_, ?_⟩, ?_, c2.c0 (by decide), fun j hj => (c3 j hj).c0 (by decide), c4.c0 (by decide) (by decide)⟩
  · rw [up2_s (by decide)]; exact b1
  · rw [up2_s (by decide)]; exact b2
  · rw [up2_s (by decide)]; exact b3
  · rw [up2_s (by decide)]; exact b4
  · rw [up2_s (by decide)]; exact b6
  · rw [up2_s (by decide)]; exact b7
  · intro k hk; rw [up2_c (by decide)]; exact c1 k hk
theorem CS.rA {M : ZM} {R : ZH} {i : Nat} {G : GS} (h : CS M R i G) : CS (up2 M 0 8 (gA G + nI 1)) (thR R) i (rfA G) := by
  obtain ⟨⟨a1, a2, a3, a4⟩, ⟨b1, b2, b3, b4, b5, b6, b7⟩, c1, c2, c3, c4⟩ := h
  refine ⟨⟨a1.thr, a2.c0 (by decide), a3, a4⟩, ⟨?_, ?_, ?_, ?_, ?_, up2_at, ?_⟩, ?_, c2.c0 (by decide), fun j hj => (c3 j hj).c0 (by decide), c4.c0 (by decide) (by decide)⟩
  · rw [up2_s (by decide)]; exact b1
  · rw [up2_s (by decide)]; exact b2
  · rw [up2_s (by decide)]; exact b3
  · rw [up2_s (by decide)]; exact b4
  · rw [up2_s (by decide)]; exact b5
  · rw [up2_s (by decide)]; exact b7
  · intro k hk; rw [up2_c (by decide)]; exact c1 k hk
theorem CS.rS {M : ZM} {R : ZH} {i : Nat} {G : GS} (h : CS M R i G) : CS (up2 M 0 9 (gS G + nI 1)) (thR R) i (rfS G) := by
  obtain ⟨⟨a1, a2, a3, a4⟩, ⟨b1, b2, b3, b4, b5, b6, b7⟩, c1, c2, c3, c4⟩ := h
  refine ⟨⟨a1.thr, a2.c0 (by decide), a3, a4⟩, ⟨?_, ?_, ?_, ?_, ?_, ?_, up2_at⟩, ?_, c2.c0 (by decide), fun j hj => (c3 j hj).c0 (by decide), c4.c0 (by decide) (by decide)⟩
  · rw [up2_s (by decide)]; exact b1
  · rw [up2_s (by decide)]; exact b2
  · rw [up2_s (by decide)]; exact b3
  · rw [up2_s (by decide)]; exact b4
  · rw [up2_s (by decide)]; exact b5
  · rw [up2_s (by decide)]; exact b6
  · intro k hk; rw [up2_c (by decide)]; exact c1 k hk
theorem Wf.nums {f : Nat → Int32} (h : Wf f) : (jn f ≤ 10 ∧ tn f ≤ 4 ∧ 1 ≤ sn f ∧ sn f ≤ 6 ∧ pn f ≤ 3 ∧ bn f ≤ 1 ∧ lf f ≤ 8 ∧ bs f < 256 ∧ bs f < 2 ^ lf f ∧ ln f ≤ 10) := by
  have h1 := h.1
  have hp : 2 ^ lf f ≤ 2 ^ 8 := Nat.pow_le_pow_right (by decide) h1.2.2.2.2.2.1.2
  exact ⟨h1.1.2, h1.2.1.2, h1.2.2.1.2.1, h1.2.2.1.2.2, h1.2.2.2.1.2, h1.2.2.2.2.1.2, h1.2.2.2.2.2.1.2, Nat.lt_of_lt_of_le h1.2.2.2.2.2.2.1.2 hp, h1.2.2.2.2.2.2.1.2, h1.2.2.2.2.2.2.2.2⟩
/-- the table's numbers, as numbers -/
theorem TabRel.nums {M : ZM} {i : Nat} {f : Nat → Int32} (hT : TabRel M i f) (hW : Wf f) : M (tb i) 6 = nI (jn f) ∧ M (tb i) 7 = nI (tn f) ∧ M (tb i) 8 = nI (exn f) ∧ M (tb i) 9 = nI (ln f) ∧ M (tb i) 10 = nI (sn f) ∧ M (tb i) 11 = nI (pn f) ∧ M (tb i) 12 = nI (bn f) ∧ M (tb i) 13 = nI (lf f) ∧ M (tb i) 14 = nI (bs f) := by
  obtain ⟨⟨a1, a2, a3, a4, a5, a6, a7, a8, a9⟩, -⟩ := hT
  have w := hW.1
  refine ⟨?_, ?_, a3, ?_, ?_, ?_, ?_, ?_, ?_⟩
  · rw [a1]; exact w.1.1
  · rw [a2]; exact w.2.1.1
  · rw [a4]; exact w.2.2.2.2.2.2.2.1
  · rw [a5]; exact w.2.2.1.1
  · rw [a6]; exact w.2.2.2.1.1
  · rw [a7]; exact w.2.2.2.2.1.1
  · rw [a8]; exact w.2.2.2.2.2.1.1
  · rw [a9]; exact w.2.2.2.2.2.2.1.1
section Cl
variable {d i : Nat} {M : ZM} {R : ZH} {G : GS}
theorem needSide_t {s : Nat} (hs : s < 2) (hC : CS M R i G) : cal d 94 [.ref 0, .int (nI s)] M R = some (.inl none, M, R) := by
  have hS := hC.1.1
  obtain ⟨nN, k0, k1, l1, f0_2, f0_10, f0_0, f0_12, f0_11, f0_14⟩ := benF hS
  rw [e94]
  rcases (show s = 0 ∨ s = 1 by omega) with rfl | rfl
  · simp (disch := first | assumption | exact nar_b0 | exact nar_b1 | exact nar_b | exact Or.inl rfl | exact Or.inr rfl | exact zin_t (by omega) (by omega) | exact Nat.le_of_ble_eq_true rfl | (rw [nI_cl (by omega)]; assumption) | omega) only [q94_0, q94_1, q94_4, q94_5, q94_6, q94_9, q94_10i, q94_10a, q94_11, q94_14, q94_15, q94_16, q94_19, q94_22i, q94_22a, q94_30, kl_int, kl_ref, kl_tok, cS_nil, cS_int, cS_ref, cS_long, tl_some, tl_none, List.cons_append, List.nil_append, nI_add, nI_ltb, nI_leb, nI_eqb, nI_cl, zin_nI]
    simp
  · simp (disch := first | assumption | exact nar_b0 | exact nar_b1 | exact nar_b | exact Or.inl rfl | exact Or.inr rfl | exact zin_t (by omega) (by omega) | exact Nat.le_of_ble_eq_true rfl | (rw [nI_cl (by omega)]; assumption) | omega) only [q94_0, q94_1, q94_4, q94_5, q94_6, q94_9, q94_10i, q94_10a, q94_11, q94_14, q94_15, q94_16, q94_19, q94_22i, q94_22a, q94_30, kl_int, kl_ref, kl_tok, cS_nil, cS_int, cS_ref, cS_long, tl_some, tl_none, List.cons_append, List.nil_append, nI_add, nI_ltb, nI_leb, nI_eqb, nI_cl, zin_nI]
    simp
theorem needSide_f {x : Int32} (h0 : ¬ x = nI 0) (h1 : ¬ x = nI 1) (hC : CS M R i G) : cal d 94 [.ref 0, .int x] M R = some (.inr (zE 1), up2 M 0 8 (gA G + nI 1), thR R) := by
  have hS := hC.1.1
  obtain ⟨nN, k0, k1, l1, f0_2, f0_10, f0_0, f0_12, f0_11, f0_14⟩ := benF hS
  have h8 := hC.2.1.2.2.2.2.2.1
  rw [e94]
  simp (disch := first | assumption | exact nar_b0 | exact nar_b1 | exact nar_b | exact Or.inl rfl | exact Or.inr rfl | exact zin_t (by omega) (by omega) | exact Nat.le_of_ble_eq_true rfl | (rw [nI_cl (by omega)]; assumption) | omega) only [↓reduceIte, reduceCtorEq, not_true_eq_false, not_false_eq_true, q94_0, q94_1, q94_4, q94_5, q94_6, q94_9, q94_10i, q94_10a, q94_11, q94_14, q94_15, q94_16, q94_19, q94_22i, q94_22a, q94_30, kl_int, kl_ref, kl_tok, cS_nil, cS_int, cS_ref, cS_long, tl_some, tl_none, List.cons_append, List.nil_append, nI_add, nI_ltb, nI_leb, nI_eqb, nI_cl, zin_nI, h0, h1, h8]
theorem needTurn_t {x : Nat} (hx : x < lf (gF G)) (hW : WG G) (hC : CS M R i G) : cal d 96 [.ref 0, .int (nI x)] M R = some (.inl none, M, R) := by
  have hS := hC.1.1
  have hi := hC.1.2.2.2
  have hnow := hC.1.2.2.1
  obtain ⟨nN, k0, k1, l1, f0_2, f0_10, f0_0, f0_12, f0_11, f0_14⟩ := benF hS
  obtain ⟨nN, tlt, kt0, kt1, lt1, kt2, lt2, kt3, lt3, kt4, lt4, kt5, lt5, kt6, lt6, kt7, lt7, kt8, lt8, ft0_0, ft1_0, ft1_1, ft0_1, ft0_2, ft0_3, ft0_4, ft0_5⟩ := tabF hS hi
  have hn := hC.2.2.2.1.nums hW.1
  have hw := hW.1.nums
  have h0 : ¬ x < 0 := by omega
  rw [e96]
  simp (disch := first | assumption | exact nar_b0 | exact nar_b1 | exact nar_b | exact Or.inl rfl | exact Or.inr rfl | exact zin_t (by omega) (by omega) | exact Nat.le_of_ble_eq_true rfl | (rw [nI_cl (by omega)]; assumption) | omega) only [↓reduceIte, reduceCtorEq, not_true_eq_false, not_false_eq_true, q96_0, q96_1, q96_4, q96_5, q96_6, q96_9, q96_12, q96_15, q96_16i, q96_16a, q96_17, q96_20, q96_21, q96_22, q96_25, q96_28i, q96_28a, q96_36, kl_int, kl_ref, kl_tok, cS_nil, cS_int, cS_ref, cS_long, tl_some, tl_none, List.cons_append, List.nil_append, nI_add, nI_ltb, nI_leb, nI_eqb, nI_cl, zin_nI, h0, hn.2.2.2.2.2.2.2.1, hx]
theorem needTurn_f {x : Int32} (hx : ¬ ∃ k, k < lf (gF G) ∧ x = nI k) (hW : WG G) (hC : CS M R i G) : cal d 96 [.ref 0, .int x] M R = some (.inr (zE 0), up2 M 0 7 (gN G + nI 1), thR R) := by
  have hS := hC.1.1
  have hi := hC.1.2.2.2
  have hnow := hC.1.2.2.1
  obtain ⟨nN, k0, k1, l1, f0_2, f0_10, f0_0, f0_12, f0_11, f0_14⟩ := benF hS
  obtain ⟨nN, tlt, kt0, kt1, lt1, kt2, lt2, kt3, lt3, kt4, lt4, kt5, lt5, kt6, lt6, kt7, lt7, kt8, lt8, ft0_0, ft1_0, ft1_1, ft0_1, ft0_2, ft0_3, ft0_4, ft0_5⟩ := tabF hS hi
  have hn := hC.2.2.2.1.nums hW.1
  have hw := hW.1.nums
  have h7 := hC.2.1.2.2.2.2.1
  rw [e96]
  by_cases h0 : x < nI 0
  · simp (disch := first | assumption | exact nar_b0 | exact nar_b1 | exact nar_b | exact Or.inl rfl | exact Or.inr rfl | exact zin_t (by omega) (by omega) | exact Nat.le_of_ble_eq_true rfl | (rw [nI_cl (by omega)]; assumption) | omega) only [↓reduceIte, reduceCtorEq, not_true_eq_false, not_false_eq_true, q96_0, q96_1, q96_4, q96_5, q96_6, q96_9, q96_12, q96_15, q96_16i, q96_16a, q96_17, q96_20, q96_21, q96_22, q96_25, q96_28i, q96_28a, q96_36, kl_int, kl_ref, kl_tok, cS_nil, cS_int, cS_ref, cS_long, tl_some, tl_none, List.cons_append, List.nil_append, nI_add, nI_ltb, nI_leb, nI_eqb, nI_cl, zin_nI, h0, h7]
  · have h1 : ¬ x < nI (lf (gF G)) := by
      intro h
      apply hx
      have e0 : ¬ x.toInt < 0 := fun q => h0 (by rw [Int32.lt_iff_toInt_lt, nI_toInt (by decide)]; exact q)
      rw [Int32.lt_iff_toInt_lt, nI_toInt (by omega)] at h
      refine ⟨x.toInt.toNat, by omega, ?_⟩
      rw [nI_iI, Int.toNat_of_nonneg (by omega)]
      exact iI_of x
    simp (disch := first | assumption | exact nar_b0 | exact nar_b1 | exact nar_b | exact Or.inl rfl | exact Or.inr rfl | exact zin_t (by omega) (by omega) | exact Nat.le_of_ble_eq_true rfl | (rw [nI_cl (by omega)]; assumption) | omega) only [↓reduceIte, reduceCtorEq, not_true_eq_false, not_false_eq_true, q96_0, q96_1, q96_4, q96_5, q96_6, q96_9, q96_12, q96_15, q96_16i, q96_16a, q96_17, q96_20, q96_21, q96_22, q96_25, q96_28i, q96_28a, q96_36, kl_int, kl_ref, kl_tok, cS_nil, cS_int, cS_ref, cS_long, tl_some, tl_none, List.cons_append, List.nil_append, nI_add, nI_ltb, nI_leb, nI_eqb, nI_cl, zin_nI, h0, hn.2.2.2.2.2.2.2.1, h1, h7]
def plI (f : Nat → Int32) (x : Int32) : Option Nat := plc (fun k => f (92 + k)) x (ln f) 0
theorem plc_some {r : Nat → Int32} {x : Int32} : ∀ (m k p : Nat), plc r x m k = some p → k ≤ p ∧ p < k + m ∧ r p = x := by
  intro m
  induction m with
  | zero => intro k p h; cases h
  | succ m ih =>
    intro k p h
    rw [plc] at h
    split at h
    · rename_i e
      cases h
      exact ⟨Nat.le_refl _, by omega, e⟩
    · have := ih (k + 1) p h
      exact ⟨by omega, by omega, this.2.2⟩
theorem plc_none {r : Nat → Int32} {x : Int32} : ∀ (m k : Nat), plc r x m k = none → ∀ p, k ≤ p → p < k + m → r p ≠ x := by
  intro m
  induction m with
  | zero => intro k h p h1 h2; omega
  | succ m ih =>
    intro k h p h1 h2
    rw [plc] at h
    split at h
    · cases h
    · rename_i e
      by_cases q : p = k
      · subst q; exact e
      · exact ih (k + 1) h p (by omega) (by omega)
/-- one in the row: his place, his number -/
theorem plI_some {f : Nat → Int32} {x : Int32} {p : Nat} (hW : Wf f) (h : plI f x = some p) : p < ln f ∧ x = nI (rw f p) ∧ rw f p < jn f + tn f ∧ rw f p < 14 := by
  obtain ⟨h1, h2, h3⟩ := plc_some _ _ _ h
  have h4 := hW.2.2.1 p (by omega)
  have h5 := hW.1.1.2
  have h6 := hW.1.2.1.2
  exact ⟨by omega, by rw [← h3, h4.1], h4.2, by omega⟩
theorem oI_inj {o : Option Nat} (h : ∀ k, o = some k → k < 2147483648) : (oI o = -1) = (o = none) := by
  cases o with
  | none => simp [oI]
  | some k =>
    have := h k rfl
    simp only [oI, nI_m1 this]
    simp
theorem needInRow_t {x : Int32} {p : Nat} (hx : plI (gF G) x = some p) (hW : WG G) (hC : CS M R i G) : cal (d + 1) 95 [.ref 0, .int x] M R = some (.inl none, M, R) := by
  have hS := hC.1.1
  have hi := hC.1.2.2.2
  have hnow := hC.1.2.2.1
  obtain ⟨nN, k0, k1, l1, f0_2, f0_10, f0_0, f0_12, f0_11, f0_14⟩ := benF hS
  obtain ⟨nN, tlt, kt0, kt1, lt1, kt2, lt2, kt3, lt3, kt4, lt4, kt5, lt5, kt6, lt6, kt7, lt7, kt8, lt8, ft0_0, ft1_0, ft1_1, ft0_1, ft0_2, ft0_3, ft0_4, ft0_5⟩ := tabF hS hi
  have hc := placeInRow_ (d := d) (x := x) hS hi hW.1 hC.2.2.2.1
  unfold plI at hx
  rw [hx] at hc
  have hp := plI_some hW.1 hx
  have hw := hW.1.nums
  have e1 : ¬ nI p = -1 := by rw [nI_m1 (by omega)]; exact id
  rw [e95]
  simp (disch := first | assumption | exact nar_b0 | exact nar_b1 | exact nar_b | exact Or.inl rfl | exact Or.inr rfl | exact zin_t (by omega) (by omega) | exact Nat.le_of_ble_eq_true rfl | (rw [nI_cl (by omega)]; assumption) | omega) only [↓reduceIte, reduceCtorEq, not_true_eq_false, not_false_eq_true, q95_0, q95_1, q95_4, q95_5, q95_8, q95_9, q95_12, q95_13i, q95_13a, q95_14, q95_17, q95_18, q95_19, q95_22, q95_25i, q95_25a, q95_33, kl_int, kl_ref, kl_tok, cS_nil, cS_int, cS_ref, cS_long, tl_some, tl_none, List.cons_append, List.nil_append, nI_add, nI_ltb, nI_leb, nI_eqb, nI_cl, zin_nI, hc, zk0_inl, oI, e1]
theorem needInRow_f {x : Int32} (hx : plI (gF G) x = none) (hW : WG G) (hC : CS M R i G) : cal (d + 1) 95 [.ref 0, .int x] M R = some (.inr (zE 0), up2 M 0 7 (gN G + nI 1), thR R) := by
  have hS := hC.1.1
  have hi := hC.1.2.2.2
  have hnow := hC.1.2.2.1
  obtain ⟨nN, k0, k1, l1, f0_2, f0_10, f0_0, f0_12, f0_11, f0_14⟩ := benF hS
  obtain ⟨nN, tlt, kt0, kt1, lt1, kt2, lt2, kt3, lt3, kt4, lt4, kt5, lt5, kt6, lt6, kt7, lt7, kt8, lt8, ft0_0, ft1_0, ft1_1, ft0_1, ft0_2, ft0_3, ft0_4, ft0_5⟩ := tabF hS hi
  have hc := placeInRow_ (d := d) (x := x) hS hi hW.1 hC.2.2.2.1
  have h7 := hC.2.1.2.2.2.2.1
  unfold plI at hx
  rw [hx] at hc
  rw [e95]
  simp (disch := first | assumption | exact nar_b0 | exact nar_b1 | exact nar_b | exact Or.inl rfl | exact Or.inr rfl | exact zin_t (by omega) (by omega) | exact Nat.le_of_ble_eq_true rfl | (rw [nI_cl (by omega)]; assumption) | omega) only [↓reduceIte, reduceCtorEq, not_true_eq_false, not_false_eq_true, q95_0, q95_1, q95_4, q95_5, q95_8, q95_9, q95_12, q95_13i, q95_13a, q95_14, q95_17, q95_18, q95_19, q95_22, q95_25i, q95_25a, q95_33, kl_int, kl_ref, kl_tok, cS_nil, cS_int, cS_ref, cS_long, tl_some, tl_none, List.cons_append, List.nil_append, nI_add, nI_ltb, nI_leb, nI_eqb, nI_cl, zin_nI, hc, zk0_inl, oI, h7]
theorem seeField_0 (h0 : M 0 13 = nI 0) (hW : WG G) (hC : CS M R i G) : ∃ M', cal (d + 2) 221 [.ref 0] M R = some (.inl none, M', R) ∧ FldRel M' (sn (gF G)) (pn (gF G)) (bn (gF G)) (Un (gF G)) ∧ ∀ c, c ≠ 107 → c ≠ 108 → c ≠ 110 → c ≠ 111 → M' c = M c := by
  have hS := hC.1.1
  have hi := hC.1.2.2.2
  have hnow := hC.1.2.2.1
  obtain ⟨nN, k0, k1, l1, f0_2, f0_10, f0_0, f0_12, f0_11, f0_14⟩ := benF hS
  obtain ⟨nN, tlt, kt0, kt1, lt1, kt2, lt2, kt3, lt3, kt4, lt4, kt5, lt5, kt6, lt6, kt7, lt7, kt8, lt8, ft0_0, ft1_0, ft1_1, ft0_1, ft0_2, ft0_3, ft0_4, ft0_5⟩ := tabF hS hi
  obtain ⟨nN, k107, k108, l108, k109, l109, k110, l110, k111, l111, f107_0, f107_1, f109_0, f109_1⟩ := fldF hS
  obtain ⟨M1, a1, a2, a3⟩ := take_ (d := d) (x := -1) hS hi hW.1 hC.2.2.2.1
  rw [Tk_m1 hW.1] at a2
  refine ⟨M1, ?_, a2, a3⟩
  rw [e221]
  simp (disch := first | assumption | exact nar_b0 | exact nar_b1 | exact nar_b | exact Or.inl rfl | exact Or.inr rfl | exact zin_t (by omega) (by omega) | exact Nat.le_of_ble_eq_true rfl | (rw [nI_cl (by omega)]; assumption) | omega) only [↓reduceIte, reduceCtorEq, not_true_eq_false, not_false_eq_true, q221_0, q221_1, q221_4, q221_7, q221_8, q221_11, q221_12, q221_15, q221_16, q221_19, kl_int, kl_ref, kl_tok, cS_nil, cS_int, cS_ref, cS_long, tl_some, tl_none, List.cons_append, List.nil_append, nI_add, nI_ltb, nI_leb, nI_eqb, nI_cl, zin_nI, h0, a1, zk0_inl]
theorem seeField_ (hW : WG G) (hC : CS M R i G) : ∃ M', cal (d + 2) 221 [.ref 0] M R = some (.inl none, M', R) ∧ CS M' R i G ∧ FldRel M' (sn (gF G)) (pn (gF G)) (bn (gF G)) (Un (gF G)) ∧ FrC M M' ∧ (∀ c, c < 106 ∨ 112 ≤ c → M' c = M c) := by
  have hS := hC.1.1
  have hi := hC.1.2.2.2
  have hnow := hC.1.2.2.1
  obtain ⟨nN, k0, k1, l1, f0_2, f0_10, f0_0, f0_12, f0_11, f0_14⟩ := benF hS
  obtain ⟨nN, tlt, kt0, kt1, lt1, kt2, lt2, kt3, lt3, kt4, lt4, kt5, lt5, kt6, lt6, kt7, lt7, kt8, lt8, ft0_0, ft1_0, ft1_1, ft0_1, ft0_2, ft0_3, ft0_4, ft0_5⟩ := tabF hS hi
  obtain ⟨hf1, hf2⟩ := hC.2.2.2.2.2
  rcases hf1 with hf1 | ⟨hf1, hlk⟩
  · obtain ⟨M1, a1, a2, a3⟩ := seeField_0 (d := d) hf1 hW hC
    have fr : ∀ c, c < 106 ∨ 112 ≤ c → M1 c = M c := fun c h => a3 c (by omega) (by omega) (by omega) (by omega)
    refine ⟨M1, a1, ?_, a2, fun c h => fr c (by omega), fr⟩
    refine hC.fr (fun c h => fr c (by omega)) (fun c h1 h2 => fr c (by omega)) (fun j h1 h2 => by rw [fr _ (by omega)]) ⟨Or.inl (by rw [fr _ (by omega)]; exact hf1), ?_⟩
    rw [fr _ (by omega)]
    exact hf2.imp id (fun ⟨p, q⟩ => ⟨p, q.fr (fr _ (by omega))⟩)
  · refine ⟨M, ?_, hC, hlk.1, fun _ _ => rfl, fun _ _ => rfl⟩
    have z : ¬ (1 = 0) := by decide
    rw [e221]
    simp (disch := first | assumption | exact nar_b0 | exact nar_b1 | exact nar_b | exact Or.inl rfl | exact Or.inr rfl | exact zin_t (by omega) (by omega) | exact Nat.le_of_ble_eq_true rfl | (rw [nI_cl (by omega)]; assumption) | omega) only [↓reduceIte, reduceCtorEq, not_true_eq_false, not_false_eq_true, q221_0, q221_1, q221_4, q221_7, q221_8, q221_11, q221_12, q221_15, q221_16, q221_19, kl_int, kl_ref, kl_tok, cS_nil, cS_int, cS_ref, cS_long, tl_some, tl_none, List.cons_append, List.nil_append, nI_add, nI_ltb, nI_leb, nI_eqb, nI_cl, zin_nI, hf1, z]
theorem lookAhead_ (hW : WG G) (hC : CS M R i G) : ∃ M' J', cal (d + 3) 103 [.ref 0] M R = some (.inl none, M', jR R J') ∧ CS M' (jR R J') i G ∧ LkR M' J' (gF G) ∧ FrC M M' := by
  have hS := hC.1.1
  have hi := hC.1.2.2.2
  have hnow := hC.1.2.2.1
  obtain ⟨nN, k0, k1, l1, f0_2, f0_10, f0_0, f0_12, f0_11, f0_14⟩ := benF hS
  obtain ⟨nN, tlt, kt0, kt1, lt1, kt2, lt2, kt3, lt3, kt4, lt4, kt5, lt5, kt6, lt6, kt7, lt7, kt8, lt8, ft0_0, ft1_0, ft1_1, ft0_1, ft0_2, ft0_3, ft0_4, ft0_5⟩ := tabF hS hi
  obtain ⟨nN, k106, k107, k108, l108, k109, l109, k110, l110, k111, l111, k112, l112, k113, l113, k114, l114, k115, l115, k116, l116, k117, l117, f106_0, f107_0, f107_1, f109_0, f109_1, f106_1, f112_0, f112_1, f106_2, f106_3, f106_4⟩ := lokF hS
  have htb := tb_lt hi
  have hn := hC.2.2.2.1.nums hW.1
  have hw := hW.1.nums
  obtain ⟨hf1, hf2⟩ := hC.2.2.2.2.2
  rcases hf1 with hf1 | ⟨hf1, hlk⟩
  · obtain ⟨M1, a1, a2, a3⟩ := seeField_0 (d := d) hf1 hW hC
    have n13 : M1 (tb i) 13 = nI (lf (gF G)) := by rw [a3 _ (by omega) (by omega) (by omega) (by omega)]; exact hn.2.2.2.2.2.2.2.1
    have n14 : M1 (tb i) 14 = nI (bs (gF G)) := by rw [a3 _ (by omega) (by omega) (by omega) (by omega)]; exact hn.2.2.2.2.2.2.2.2
    obtain ⟨M2, J2, b1, b2, b3⟩ := lookBack_ (d := d) (T := lf (gF G)) (bits := bs (gF G)) (by omega) (by omega) hS a2
    have hSJ : Sh (jR R J2) := hS.j
    obtain ⟨nN_2, k0_2, k1_2, l1_2, f0_2_2, f0_10_2, f0_0_2, f0_12_2, f0_11_2, f0_14_2⟩ := benF hSJ
    have fr : ∀ c, c < 106 ∨ 117 ≤ c → M2 c = M c := fun c h => by rw [b3 c (by omega) (by omega) (by omega) (by omega), a3 c (by omega) (by omega) (by omega) (by omega)]
    have hlk : LkR (up2 M2 0 13 (nI 1)) J2 (gF G) := LkR.fr (M := M2) b2 (fun c h _ => up2_ne (by omega))
    have m15 : up2 M2 0 13 (nI 1) 0 15 = M 0 15 := by rw [up2_s (by decide), fr _ (by omega)]
    have m126 : up2 M2 0 13 (nI 1) 126 = M 126 := by rw [up2_ne (by decide), fr _ (by omega)]
    refine ⟨up2 M2 0 13 (nI 1), J2, ?_, ?_, hlk, ?_⟩
    · rw [e103]
      simp (disch := first | assumption | exact nar_b0 | exact nar_b1 | exact nar_b | exact Or.inl rfl | exact Or.inr rfl | exact zin_t (by omega) (by omega) | exact Nat.le_of_ble_eq_true rfl | (rw [nI_cl (by omega)]; assumption) | omega) only [↓reduceIte, reduceCtorEq, not_true_eq_false, not_false_eq_true, q103_0, q103_1, q103_4, q103_7, q103_8, q103_11, q103_12, q103_15, q103_16, q103_19, q103_22, q103_23, q103_26, q103_29, q103_32, q103_33, q103_34, q103_37, kl_int, kl_ref, kl_tok, cS_nil, cS_int, cS_ref, cS_long, tl_some, tl_none, List.cons_append, List.nil_append, nI_add, nI_ltb, nI_leb, nI_eqb, nI_cl, zin_nI, hf1, a1, zk0_inl, n13, n14, b1]
    · refine hC.frJ (fun c h => by rw [up2_ne (by omega), fr _ (by omega)]) (fun c h1 h2 => by rw [up2_ne (by omega), fr _ (by omega)]) (fun j h1 h2 => by rw [up2_s h1, fr _ (by omega)]) ⟨Or.inr ⟨up2_at, hlk⟩, ?_⟩
      rw [m15]
      exact hf2.imp id (fun ⟨p, q⟩ => ⟨p, q.fr m126⟩)
    · intro c h
      rw [up2_ne (by omega), fr _ (by omega)]
  · refine ⟨M, zJ R, ?_, hC, hlk, fun _ _ => rfl⟩
    have z : ¬ (1 = 0) := by decide
    rw [e103, jR_z]
    simp (disch := first | assumption | exact nar_b0 | exact nar_b1 | exact nar_b | exact Or.inl rfl | exact Or.inr rfl | exact zin_t (by omega) (by omega) | exact Nat.le_of_ble_eq_true rfl | (rw [nI_cl (by omega)]; assumption) | omega) only [↓reduceIte, reduceCtorEq, not_true_eq_false, not_false_eq_true, q103_0, q103_1, q103_4, q103_7, q103_8, q103_11, q103_12, q103_15, q103_16, q103_19, q103_22, q103_23, q103_26, q103_29, q103_32, q103_33, q103_34, q103_37, kl_int, kl_ref, kl_tok, cS_nil, cS_int, cS_ref, cS_long, tl_some, tl_none, List.cons_append, List.nil_append, nI_add, nI_ltb, nI_leb, nI_eqb, nI_cl, zin_nI, hf1, z]
theorem LkR.val {f : Nat → Int32} {s : Nat} (hs : s < 2) {J : Nat → Nat → Int64} (h : LkR M J f) : M (113 + s) 0 = iI (sdV s (VV (bn f) (sn f) (pn f) (tsl (bs f) (lf f)) (Un f))) := by
  have h1 := h.2.2.1 0 (Nat.two_pow_pos _) (by rw [pop_zero]; exact Nat.zero_le _) s hs
  rw [if_pos (Nat.two_pow_pos _), pop_zero, Nat.max_self, rem_zero] at h1
  exact h1
theorem valueIf_ {s T bits : Nat} {x : Int32} (hs : s < 2) (hT : T ≤ 9) (hb : bits < 1024) (hW : WG G) (hC : CS M R i G) : ∃ M' J', cal (d + 3) 104 [.ref 0, .int (nI s), .int x, .int (nI T), .int (nI bits)] M R = some (.inl (some (.int (iI (sdV s (VV (bn (gF G)) (sn (gF G)) (pn (gF G)) (tsl bits T) (Tk (gF G) x)))))), M', jR R J') ∧ CS M' (jR R J') i G ∧ FrC M M' := by
  have hS := hC.1.1
  have hi := hC.1.2.2.2
  have hnow := hC.1.2.2.1
  obtain ⟨nN, k0, k1, l1, f0_2, f0_10, f0_0, f0_12, f0_11, f0_14⟩ := benF hS
  obtain ⟨nN, tlt, kt0, kt1, lt1, kt2, lt2, kt3, lt3, kt4, lt4, kt5, lt5, kt6, lt6, kt7, lt7, kt8, lt8, ft0_0, ft1_0, ft1_1, ft0_1, ft0_2, ft0_3, ft0_4, ft0_5⟩ := tabF hS hi
  obtain ⟨nN, k106, k107, k108, l108, k109, l109, k110, l110, k111, l111, k112, l112, k113, l113, k114, l114, k115, l115, k116, l116, k117, l117, f106_0, f107_0, f107_1, f109_0, f109_1, f106_1, f112_0, f112_1, f106_2, f106_3, f106_4⟩ := lokF hS
  have htb := tb_lt hi
  obtain ⟨ks, ls, fs⟩ := KVs hS hs
  obtain ⟨hf1, hf2⟩ := hC.2.2.2.2.2
  generalize hM0 : up2 M 0 13 (nI 0) = M0
  have f0 : ∀ c, c ≠ 0 → M0 c = M c := fun c h => by rw [← hM0]; exact up2_ne h
  have hT0 : TabRel M0 i (gF G) := hC.2.2.2.1.frame (fun c h _ => f0 c (by unfold tb at h; omega))
  obtain ⟨M1, a1, a2, a3⟩ := take_ (d := d + 1) (x := x) hS hi hW.1 hT0
  obtain ⟨M2, J2, b1, b2, b3⟩ := lookBack_ (d := d) (T := T) (bits := bits) hT hb hS a2
  have hSJ : Sh (jR R J2) := hS.j
  obtain ⟨nN_2, k0_2, k1_2, l1_2, f0_2_2, f0_10_2, f0_0_2, f0_12_2, f0_11_2, f0_14_2⟩ := benF hSJ
  obtain ⟨nN_2, k106_2, k107_2, k108_2, l108_2, k109_2, l109_2, k110_2, l110_2, k111_2, l111_2, k112_2, l112_2, k113_2, l113_2, k114_2, l114_2, k115_2, l115_2, k116_2, l116_2, k117_2, l117_2, f106_0_2, f107_0_2, f107_1_2, f109_0_2, f109_1_2, f106_1_2, f112_0_2, f112_1_2, f106_2_2, f106_3_2, f106_4_2⟩ := lokF hSJ
  obtain ⟨ks_2, ls_2, fs_2⟩ := KVs hSJ hs
  have fr : ∀ c, c < 106 ∨ 117 ≤ c → M2 c = M0 c := fun c h => by rw [b3 c (by omega) (by omega) (by omega) (by omega), a3 c (by omega) (by omega) (by omega) (by omega)]
  have hv := b2.2.2.1 0 (Nat.two_pow_pos _) (by rw [pop_zero]; exact Nat.zero_le _) s hs
  rw [if_pos (Nat.two_pow_pos _), pop_zero, Nat.max_self, rem_zero, List.drop_zero] at hv
  refine ⟨M2, J2, ?_, ?_, ?_⟩
  · rw [e104]
    simp (disch := first | assumption | exact nar_b0 | exact nar_b1 | exact nar_b | exact Or.inl rfl | exact Or.inr rfl | exact zin_t (by omega) (by omega) | exact Nat.le_of_ble_eq_true rfl | (rw [nI_cl (by omega)]; assumption) | omega) only [↓reduceIte, reduceCtorEq, not_true_eq_false, not_false_eq_true, q104_0, q104_1, q104_2, q104_5, q104_6, q104_9, q104_10, q104_13, q104_14, q104_17, q104_18, q104_21, q104_22, q104_24, q104_27, q104_28, q104_31, q104_34, q104_35, q104_36, q104_37, q104_38, kl_int, kl_ref, kl_tok, cS_nil, cS_int, cS_ref, cS_long, tl_some, tl_none, List.cons_append, List.nil_append, nI_add, nI_ltb, nI_leb, nI_eqb, nI_cl, zin_nI, hM0, a1, zk0_inl, b1, hv]
  · refine hC.frJ (fun c h => by rw [fr _ (by omega), f0 _ (by omega)]) (fun c h1 h2 => by rw [fr _ (by omega), f0 _ (by omega)]) (fun j h1 h2 => by rw [fr _ (by omega), ← hM0, up2_s h1]) ⟨Or.inl (by rw [fr _ (by omega), ← hM0, up2_at]), ?_⟩
    rw [fr _ (by omega), ← hM0, up2_s (by decide)]
    exact hf2.imp id (fun ⟨p, q⟩ => ⟨p, q.fr (by rw [fr _ (by omega), f0 _ (by decide)])⟩)
  · intro c h
    rw [fr _ (by omega), f0 _ (by omega)]
end Cl
