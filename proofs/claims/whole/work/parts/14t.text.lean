-- the class: text
theorem mp_inl {α : Type} {r : PR α} {f : α → PS} {k p : Nat} (h : mp r f = .inl (k, p)) : r = .inl (k, p) := by
  unfold mp at h
  split at h
  · cases h; rfl
  · cases h
theorem onc_inl {P : PS} {bit i k p : Nat} {r : PR PS} (h : onc P bit i r = .inl (k, p)) : k = 1 ∨ r = .inl (k, p) := by
  unfold onc at h
  split at h
  · cases h; exact Or.inl rfl
  · exact Or.inr h
theorem pPer_k {b : Nat → Int32} {n i k p : Nat} (h : pPer b n i = .inl (k, p)) : 1 ≤ k ∧ k ≤ 5 := by
  unfold pPer at h
  split at h
  · rename_i e; cases h; exact pNum_k e
  · split at h
    · rename_i e; cases h; exact pNum_k e
    · split at h
      · rename_i e; cases h; exact pNum_k e
      · split at h
        · rename_i e; cases h; exact pNum_k e
        · cases h
theorem pBody_k {b : Nat → Int32} {n i k p : Nat} {P : PS} (h : pBody b n P i = .inl (k, p)) : 1 ≤ k ∧ k ≤ 5 := by
  have on : ∀ {bit j : Nat} {r : PR PS}, onc P bit j r = .inl (k, p) → (r = .inl (k, p) → 1 ≤ k ∧ k ≤ 5) → 1 ≤ k ∧ k ≤ 5 := fun h1 h2 => (onc_inl h1).elim (fun e => by omega) h2
  have an : ∀ j, j ≤ n → pAny (pOne b n 4) b n j = .inl (k, p) → 1 ≤ k ∧ k ≤ 5 := fun j hj h1 => (pAny_c (b := b) (n := n) (pOne_c 4) j hj).2 k p h1
  unfold pBody at h
  split at h
  · split at h
    · cases h; omega
    · exact pPer_k (mp_inl h)
  · split at h
    · split at h
      · cases h; omega
      · exact pPer_k (mp_inl h)
    · split at h
      · exact on h (fun h => pNum_k (mp_inl h))
      · split at h
        · exact on h (fun h => pNum_k (mp_inl h))
        · split at h
          · exact on h (fun h => by cases h)
          · split at h
            · exact on h (fun h => by cases h)
            · split at h
              · split at h
                · rename_i e; have := isH_lt e; exact on h (fun h => an _ (by omega) (mp_inl h))
                · split at h
                  · rename_i e; have := isH_lt e; exact on h (fun h => an _ (by omega) (mp_inl h))
                  · cases h; omega
              · split at h
                · rename_i e; have := wm_le e; have l : wln 7 = 5 := rfl; exact on h (fun h => an _ (by omega) (mp_inl h))
                · split at h
                  · exact on h (fun h => pNum_k (mp_inl h))
                  · cases h; omega
theorem pAll_k {b : Nat → Int32} {n k p : Nat} : ∀ (m : Nat) (P : PS) (i : Nat), pAll b n m P i = .inl (k, p) → 1 ≤ k ∧ k ≤ 5
  | 0, P, i, h => by cases h
  | m + 1, P, i, h => by
    unfold pAll at h
    split at h
    · cases e : pLine b n P i with
      | inl f =>
        rw [e] at h
        cases h
        unfold pLine at e
        cases e2 : pBody b n P i with
        | inl f => rw [e2] at e; cases e; exact pBody_k e2
        | inr w =>
          rw [e2] at e
          obtain ⟨P1, i1⟩ := w
          by_cases c : isH b n (sk b n i1) (nI 59) = true
          · simp only [c, if_true] at e; cases e
          · simp only [c] at e; cases e; omega
      | inr w =>
        rw [e] at h
        obtain ⟨P1, i1⟩ := w
        exact pAll_k m P1 _ h
    · cases h
theorem pText_k {b : Nat → Int32} {n k p : Nat} (h : pText b n = .inl (k, p)) : 1 ≤ k ∧ k ≤ 5 := by
  unfold pText at h
  cases e : pAll b n n ps0 (sk b n 0) with
  | inl f => rw [e] at h; cases h; exact pAll_k _ _ _ e
  | inr w =>
    rw [e] at h
    obtain ⟨P, i⟩ := w
    by_cases c : jn (rD P) = 0
    · simp only [c, if_true] at h; cases h; omega
    · simp only [c, if_false] at h; cases h
theorem CS.rd {M M' : ZM} {R : ZH} {i : Nat} {G : GS} (h : CS M R i G) (hK : (gK G).length ≤ 8) (hM : LnF (nx i) M M') : CS M' R i G := by
  obtain ⟨⟨a1, a2, a3, a4⟩, b, c1, c2, c3, d1, d2⟩ := h
  have hx := tb_lt (nx_lt a4)
  have hx2 : 2 ≤ tb (nx i) := by unfold tb; omega
  have f0 : M' 0 = M 0 := hM _ (by omega) (by omega) (by omega)
  refine ⟨⟨a1, a2.fr (fun c hc => hM c (by omega) (by omega) (by omega)), a3, a4⟩, ?_, ?_, ?_, ?_, ?_⟩
  · rw [f0]; exact b
  · intro k hk; rw [hM _ (by omega) (by omega) (by omega)]; exact c1 k hk
  · exact c2.frame (fun c h1 h2 => hM c (by have := tb_lt a4; omega) (by have := tb_lt a4; omega) (by have := tb_ne (nx_ne a4); omega))
  · intro j hj
    exact (c3 j hj).frame (fun c h1 h2 => hM c (by have := tb_lt (ring_lt (i := i) (n := (gK G).length) (j := j)); omega) (by have := tb_lt (ring_lt (i := i) (n := (gK G).length) (j := j)); omega) (by have := tb_ne (nx_ring a4 hK hj); omega))
  · refine ⟨?_, ?_⟩
    · rw [f0]; exact d1.imp id (fun ⟨p, q⟩ => ⟨p, q.fr (fun c h1 h2 => hM c (by omega) (by omega) (by omega))⟩)
    · rw [f0]; exact d2.imp id (fun ⟨p, q⟩ => ⟨p, q.fr (hM _ (by omega) (by omega) (by omega))⟩)
def txE (G : GS) (v : Int32) : GS := (gF G, gK G, 0, gB G, v, gN G, gA G, gS G)
theorem CS.tx {M : ZM} {R : ZH} {i : Nat} {G : GS} {v : Int32} (h : CS M R i G) : CS (up2 (up2 M 0 1 (nI 0)) 0 6 v) R i (txE G v) := by
  obtain ⟨⟨a1, a2, a3, a4⟩, ⟨b1, b2, b3, b4, b5, b6, b7⟩, c1, c2, c3, c4⟩ := h
  refine ⟨⟨a1, (a2.c0 (by decide)).c0 (by decide), a3, a4⟩, ⟨?_, ?_, ?_, up2_at, ?_, ?_, ?_⟩, ?_, (c2.c0 (by decide)).c0 (by decide), fun j hj => ((c3 j hj).c0 (by decide)).c0 (by decide), (c4.c0 (by decide) (by decide)).c0 (by decide) (by decide)⟩
  · rw [up2_s (by decide), up2_at]; rfl
  · rw [up2_s (by decide), up2_s (by decide)]; exact b2
  · rw [up2_s (by decide), up2_s (by decide)]; exact b3
  · rw [up2_s (by decide), up2_s (by decide)]; exact b5
  · rw [up2_s (by decide), up2_s (by decide)]; exact b6
  · rw [up2_s (by decide), up2_s (by decide)]; exact b7
  · intro k hk; exact absurd hk (Nat.not_lt_zero k)
theorem WG.tx {G : GS} {v : Int32} (h : WG G) : WG (txE G v) := ⟨h.1, h.2.1, h.2.2.1, Nat.zero_le _, fun k hk => absurd hk (Nat.not_lt_zero k)⟩
def txG (G : GS) (P : PS) : GS := (unF (laid P) (gF G), kp (gK G) (gF G), 0, gB G, -1, gN G, gA G, gS G)
section Lv
variable {d i n : Nat} {M : ZM} {R : ZH} {G : GS} {P : PS}
theorem c_text_f {x v : Int32} (hx : ¬ ∃ n, n ≤ gT G ∧ x = nI n) (hW : WG G) (hC : CS M R i G) : OutC (cal (d + 24) 69 [.ref 0, .int x] M R) M R 1 1 v (rfA G) := by
  have hS := hC.1.1
  obtain ⟨nN, k0, k1, l1, f0_2, f0_10, f0_0, f0_12, f0_11, f0_14⟩ := benF hS
  have h8 := hC.2.1.2.2.2.2.2.1
  have h1 := hC.2.1.1
  have h500 := hW.2.2.2.1
  refine OutC.rA ?_ (by decide) hC FrC.refl
  rw [e69]
  by_cases h0 : x < nI 0
  · simp (disch := first | assumption | exact nar_b0 | exact nar_b1 | exact nar_b | exact Or.inl rfl | exact Or.inr rfl | exact zin_t (by omega) (by omega) | exact Nat.le_of_ble_eq_true rfl | (rw [nI_cl (by omega)]; assumption) | omega) only [↓reduceIte, reduceCtorEq, not_true_eq_false, not_false_eq_true, q69_0, q69_1, q69_4, q69_5, q69_6, q69_9, q69_12, q69_13i, q69_13a, q69_14, q69_17, q69_18, q69_19, q69_22, q69_25i, q69_25a, q69_32, q69_33, q69_36, q69_37, q69_38, q69_41, q69_42, q69_43, q69_46, q69_47, q69_48, q69_49, q69_52, q69_53, q69_56, q69_57, q69_58, q69_61, q69_64, q69_67, q69_68, q69_70, q69_71, q69_72, q69_73, q69_74, q69_77, q69_78, q69_81, q69_82, q69_85, q69_86, q69_89, q69_90, q69_93, q69_94, q69_97, q69_100, kl_int, kl_ref, kl_tok, cS_nil, cS_int, cS_ref, cS_long, tl_some, tl_none, List.cons_append, List.nil_append, nI_add, nI_ltb, nI_leb, nI_eqb, nI_cl, zin_nI, h0, h8]
  · obtain ⟨k, hk, rfl⟩ := nneg h0
    have h3 : ¬ k ≤ gT G := fun q => hx ⟨k, q, rfl⟩
    have h00 : ¬ k < 0 := by omega
    simp (disch := first | assumption | exact nar_b0 | exact nar_b1 | exact nar_b | exact Or.inl rfl | exact Or.inr rfl | exact zin_t (by omega) (by omega) | exact Nat.le_of_ble_eq_true rfl | (rw [nI_cl (by omega)]; assumption) | omega) only [↓reduceIte, reduceCtorEq, not_true_eq_false, not_false_eq_true, q69_0, q69_1, q69_4, q69_5, q69_6, q69_9, q69_12, q69_13i, q69_13a, q69_14, q69_17, q69_18, q69_19, q69_22, q69_25i, q69_25a, q69_32, q69_33, q69_36, q69_37, q69_38, q69_41, q69_42, q69_43, q69_46, q69_47, q69_48, q69_49, q69_52, q69_53, q69_56, q69_57, q69_58, q69_61, q69_64, q69_67, q69_68, q69_70, q69_71, q69_72, q69_73, q69_74, q69_77, q69_78, q69_81, q69_82, q69_85, q69_86, q69_89, q69_90, q69_93, q69_94, q69_97, q69_100, kl_int, kl_ref, kl_tok, cS_nil, cS_int, cS_ref, cS_long, tl_some, tl_none, List.cons_append, List.nil_append, nI_add, nI_ltb, nI_leb, nI_eqb, nI_cl, zin_nI, h00, h1, h3, h8]
theorem c_text_k {k p : Nat} (hn : n ≤ gT G) (hp : pText (gB G) n = .inl (k, p)) (hW : WG G) (hC : CS M R i G) : OutC (cal (d + 24) 69 [.ref 0, .int (nI n)] M R) M R 0 0 (nI k - nI 10) (txE G (nI p)) := by
  have hS := hC.1.1
  have hi := hC.1.2.2.2
  have hj := nx_lt hi
  obtain ⟨nN, k0, k1, l1, f0_2, f0_10, f0_0, f0_12, f0_11, f0_14⟩ := benF hS
  obtain ⟨nN, k92, k93, l93, k94, k95, l95, k96, l96, k97, l97, k98, k99, l99, k100, l100, k101, l101, k102, k103, l103, k104, l104, k105, l105, f92_0, f92_1, f94_0, f94_1, f94_2, f92_2, f98_0, f98_1, f98_2, f92_3, f102_0, f102_1, f102_2⟩ := parF hS
  have h1 := hC.2.1.1
  have h500 := hW.2.2.2.1
  have hk := pText_k hp
  have ft := freeTable_ (d := d + 23) hC
  obtain ⟨M1, g1, g2, g3, g4⟩ := (read_ (d := d) (M := M) hS hj hC.1.2.1 (n := n) (b := gB G) (by omega) (fun t ht => hC.2.2.1 t (by omega))).2 k p hp
  have hC1 := hC.rd hW.2.2.1 g4
  have h00 : ¬ n < 0 := by omega
  have z : ¬ k = 0 := by omega
  have g3' : up2 M1 0 1 (nI 0) 92 10 = nI p := by rw [up2_c (by decide)]; exact g3
  refine OutC.ok (M' := up2 (up2 M1 0 1 (nI 0)) 0 6 (nI p)) (i := i) ?_ hC1.tx (fun c h => by rw [up2_ne (by omega), up2_ne (by omega), g4 c (by omega) (by omega) (by have := tb_lt hj; omega)])
  rw [e69]
  simp (disch := first | assumption | exact nar_b0 | exact nar_b1 | exact nar_b | exact Or.inl rfl | exact Or.inr rfl | exact zin_t (by omega) (by omega) | exact Nat.le_of_ble_eq_true rfl | (rw [nI_cl (by omega)]; assumption) | omega) only [↓reduceIte, reduceCtorEq, not_true_eq_false, not_false_eq_true, q69_0, q69_1, q69_4, q69_5, q69_6, q69_9, q69_12, q69_13i, q69_13a, q69_14, q69_17, q69_18, q69_19, q69_22, q69_25i, q69_25a, q69_32, q69_33, q69_36, q69_37, q69_38, q69_41, q69_42, q69_43, q69_46, q69_47, q69_48, q69_49, q69_52, q69_53, q69_56, q69_57, q69_58, q69_61, q69_64, q69_67, q69_68, q69_70, q69_71, q69_72, q69_73, q69_74, q69_77, q69_78, q69_81, q69_82, q69_85, q69_86, q69_89, q69_90, q69_93, q69_94, q69_97, q69_100, kl_int, kl_ref, kl_tok, cS_nil, cS_int, cS_ref, cS_long, tl_some, tl_none, List.cons_append, List.nil_append, nI_add, nI_ltb, nI_leb, nI_eqb, nI_cl, zin_nI, h00, h1, hn, ft, g1, g3', z, zk0_inl]
theorem PE.gd {b : Nat → Int32} (h : PE b n P) (hn : n ≤ 500) : CGd (cA P) ∧ CGd (cB P) ∧ CGd (cC P) := by
  have g : ∀ (t : Bool) (st : List CdS), (t = false → st = []) ∧ (t = true → CdO b n st) → CGd st := by
    intro t st ⟨h1, h2⟩
    cases t
    · rw [h1 rfl]
      exact ⟨by decide, Or.inl rfl⟩
    · have := (h2 rfl).len
      exact ⟨by omega, Or.inr (h2 rfl).ce⟩
  exact ⟨g _ _ h.1, g _ _ h.2.1, g _ _ h.2.2⟩
theorem WG.txg (h : WG G) (hP : PW P) : WG (txG G P) := by
  refine ⟨(laid_Wf hP).cg (fun k hk => unF_lt hk), fun g hg => ?_, (by have := kp_len (K := gK G) (f := gF G) h.2.2.1; show (kp (gK G) (gF G)).length ≤ 8; rw [this]; split <;> omega), Nat.zero_le _, fun k hk => absurd hk (Nat.not_lt_zero k)⟩
  have hg' : g ∈ kp (gK G) (gF G) := hg
  unfold kp at hg'
  rw [List.mem_append] at hg'
  rcases hg' with hg' | hg'
  · refine h.2.1 g ?_
    split at hg'
    · exact hg'
    · exact List.mem_of_mem_drop hg'
  · rw [List.mem_singleton] at hg'
    rw [hg']
    exact h.1
theorem c_text_t (hn : n ≤ gT G) (hp : pText (gB G) n = .inr P) (hW : WG G) (hC : CS M R i G) : (PW P ∧ PE (gB G) n P) ∧ OutC (cal (d + 24) 69 [.ref 0, .int (nI n)] M R) M R 0 0 (nI (rowL P).length) (txG G P) := by
  have hS := hC.1.1
  have hi := hC.1.2.2.2
  have hj := nx_lt hi
  have htj := tb_lt hj
  have hx2 : 2 ≤ tb (nx i) := by unfold tb; omega
  obtain ⟨nN, k0, k1, l1, f0_2, f0_10, f0_0, f0_12, f0_11, f0_14⟩ := benF hS
  obtain ⟨nN, k92, k93, l93, k94, k95, l95, k96, l96, k97, l97, k98, k99, l99, k100, l100, k101, l101, k102, k103, l103, k104, l104, k105, l105, f92_0, f92_1, f94_0, f94_1, f94_2, f92_2, f98_0, f98_1, f98_2, f92_3, f102_0, f102_1, f102_2⟩ := parF hS
  have h1 := hC.2.1.1
  have h500 := hW.2.2.2.1
  have ft := freeTable_ (d := d + 23) hC
  obtain ⟨hPW, hPE, -, M1, g1, g2, g4⟩ := (read_ (d := d) (M := M) hS hj hC.1.2.1 (n := n) (b := gB G) (by omega) (fun t ht => hC.2.2.1 t (by omega))).1 P hp
  obtain ⟨gA', gB', gC'⟩ := hPE.gd (by omega)
  have hC1 := (hC.rd hW.2.2.1 g4).tx (v := -1)
  have hPs : PSC (up2 (up2 M1 0 1 (nI 0)) 0 6 (-1)) (nx i) P := g2.fr hj (fun c c1 c2 => by rw [up2_ne (by omega), up2_ne (by omega)]) (by rw [up2_c (by decide), up2_c (by decide)]) (by rw [up2_c (by decide), up2_c (by decide)]) (fun c c1 c2 => by rw [up2_ne (by omega), up2_ne (by omega)])
  have hF2 : ∀ c, c ≠ 0 → up2 (up2 M1 0 1 (nI 0)) 0 6 (-1) c = M1 c := fun c h => by rw [up2_ne h, up2_ne h]
  generalize hM2 : up2 (up2 M1 0 1 (nI 0)) 0 6 (-1) = M2 at hC1 hPs hF2
  have k1 := hear_ (d := d + 19) hS hj hPs hPW gA' gB' gC'
  have k2 := fill_run (d := d + 22) hS hj hPs hPW
  have hT := laid_tab hj hPs hPW
  have hl9 : fiM M2 (nx i) P (tb (nx i)) 9 = nI (rowL P).length := by rw [hT.1.2.2.2.1]; rfl
  have hT2 : TabRel (fiM M2 (nx i) P) (nx i) (unF (laid P) (gF G)) := hT.cg (laid_Wf hPW) (fun k hk => unF_lt hk)
  have hC3 : CS (fiM M2 (nx i) P) R i (txE G (-1)) := hC1.tab hW.2.2.1 (fun c h => fiM_c h)
  have hFi : ∀ c, (c < tb (nx i) ∨ tb (nx i) + 8 < c) → fiM M2 (nx i) P c = M2 c := fun c h => fiM_c h
  generalize hM3 : fiM M2 (nx i) P = M3 at k2 hT2 hC3 hl9 hFi
  obtain ⟨M4, k3, hC4, hF4⟩ := keepAct_ (d := d + 22) (WG.tx (v := -1) hW) hC3 hT2
  have hS2 : Sh (sRf R 0 4 (some (tb (nx i)))) := hS.now
  obtain ⟨nN_2, k0_2, k1_2, l1_2, f0_2_2, f0_10_2, f0_0_2, f0_12_2, f0_11_2, f0_14_2⟩ := benF hS2
  have kt := Kt0 hS hj
  have kt2 := Kt0 hS2 hj
  have hnow2 := hC4.1.2.2.1
  have m9 : M4 (tb (nx i)) 9 = nI (rowL P).length := by rw [hF4 _ (by omega)]; exact hl9
  have h00 : ¬ n < 0 := by omega
  have hN : zN (sRf R 0 4 (some (tb (nx i)))) = zN R := rfl
  refine ⟨⟨hPW, hPE⟩, OutC.act (M' := M4) (i := nx i) (q := some (tb (nx i))) ?_ hC4 (fun c h => by rw [hF4 c (by omega), hFi c (by omega), hF2 c (by omega), g4 c (by omega) (by omega) (by omega)])⟩
  rw [e69]
  simp (disch := first | assumption | exact nar_b0 | exact nar_b1 | exact nar_b | exact Or.inl rfl | exact Or.inr rfl | exact zin_t (by omega) (by omega) | exact Nat.le_of_ble_eq_true rfl | (rw [nI_cl (by omega)]; assumption) | omega) only [↓reduceIte, reduceCtorEq, not_true_eq_false, not_false_eq_true, q69_0, q69_1, q69_4, q69_5, q69_6, q69_9, q69_12, q69_13i, q69_13a, q69_14, q69_17, q69_18, q69_19, q69_22, q69_25i, q69_25a, q69_32, q69_33, q69_36, q69_37, q69_38, q69_41, q69_42, q69_43, q69_46, q69_47, q69_48, q69_49, q69_52, q69_53, q69_56, q69_57, q69_58, q69_61, q69_64, q69_67, q69_68, q69_70, q69_71, q69_72, q69_73, q69_74, q69_77, q69_78, q69_81, q69_82, q69_85, q69_86, q69_89, q69_90, q69_93, q69_94, q69_97, q69_100, kl_int, kl_ref, kl_tok, cS_nil, cS_int, cS_ref, cS_long, tl_some, tl_none, List.cons_append, List.nil_append, nI_add, nI_ltb, nI_leb, nI_eqb, nI_cl, zin_nI, h00, h1, hn, ft, g1, hM2, k1, k2, k3, m9, zk0_inl, hN]
end Lv
