-- acts: what becomes of the row
def upf (f : Nat → Int32) (k : Nat) (v : Int32) : Nat → Int32 := fun j => if j = k then v else f j
theorem upf_at {f : Nat → Int32} {k : Nat} {v : Int32} : upf f k v k = v := if_pos rfl
theorem upf_ne {f : Nat → Int32} {k j : Nat} {v : Int32} (h : j ≠ k) : upf f k v j = f j := if_neg h
theorem up2_rwf {M : ZM} {a k : Nat} {v : Int32} : up2 M a k v a = upf (M a) k v := by
  funext j
  unfold up2 upf
  simp
def keepsF (k : Nat) : Prop := k < 2 ∨ k = 7 ∨ (8 ≤ k ∧ k < 78) ∨ 92 ≤ k
theorem Wf.upd {f f' : Nat → Int32} {s p b l c : Nat} (h : Wf f) (he : ∀ k, keepsF k → f' k = f k) (h2 : f' 2 = nI s) (h2b : 1 ≤ s ∧ s ≤ 6) (h3 : f' 3 = nI p) (h3b : p ≤ 3) (h4 : f' 4 = nI b) (h4b : b ≤ 1) (h5 : f' 5 = nI l) (h5b : l ≤ 8) (h6 : f' 6 = nI c) (h6b : c < 2 ^ l) (hs : ∀ k, k < 14 → stk f' k = true → ∃ i, i < ln f ∧ rw f i = k) : Wf f' := by
  obtain ⟨⟨⟨a1, a2⟩, ⟨a3, a4⟩, -, -, -, -, -, ⟨a5, a6⟩⟩, b1, b2, b3, b4⟩ := h
  have hp : 2 ^ l ≤ 2 ^ 8 := Nat.pow_le_pow_right (by decide) h5b
  have e0 : f' 0 = f 0 := he 0 (Or.inl (by decide))
  have e1 : f' 1 = f 1 := he 1 (Or.inl (by decide))
  have e7 : f' 7 = f 7 := he 7 (Or.inr (Or.inl rfl))
  have ej : jn f' = jn f := by unfold jn; rw [e0]
  have et : tn f' = tn f := by unfold tn; rw [e1]
  have el : ln f' = ln f := by unfold ln; rw [e7]
  have er : ∀ k, rw f' k = rw f k := fun k => congrArg Int32.toNatClampNeg (he _ (Or.inr (Or.inr (Or.inr (by omega)))))
  have es : sn f' = s := by unfold sn; rw [h2, nI_cl (by omega)]
  have ep : pn f' = p := by unfold pn; rw [h3, nI_cl (by omega)]
  have eb : bn f' = b := by unfold bn; rw [h4, nI_cl (by omega)]
  have ell : lf f' = l := by unfold lf; rw [h5, nI_cl (by omega)]
  have ec : bs f' = c := by unfold bs; rw [h6, nI_cl (by omega)]
  unfold Wf
  rw [ej, et, el, es, ep, eb, ell, ec, e0, e1, e7]
  refine ⟨⟨⟨a1, a2⟩, ⟨a3, a4⟩, ⟨h2, h2b⟩, ⟨h3, h3b⟩, ⟨h4, h4b⟩, ⟨h5, h5b⟩, ⟨h6, h6b⟩, ⟨a5, a6⟩⟩, ?_, ?_, ?_, ?_⟩
  · intro k hk
    rw [he _ (Or.inr (Or.inr (Or.inl (by omega)))), he _ (Or.inr (Or.inr (Or.inl (by omega))))]
    exact b1 k hk
  · intro i hi
    rw [er, he _ (Or.inr (Or.inr (Or.inr (by omega))))]
    exact b2 i hi
  · intro i j h1 h2
    rw [er, er]
    exact b3 i j h1 h2
  · intro k hk hst
    obtain ⟨i, h1, h2⟩ := hs k hk hst
    exact ⟨i, h1, by rw [er]; exact h2⟩
theorem exn_eq {f f' : Nat → Int32} (he : ∀ k, keepsF k → f' k = f k) (hj : jn f ≤ 10) : exn f' = exn f := by
  have ej : jn f' = jn f := by unfold jn; rw [he 0 (Or.inl (by decide))]
  unfold exn
  rw [ej]
  apply ctB_cong
  intro k hk
  rw [he _ (Or.inr (Or.inr (Or.inl (by omega))))]
theorem TabRel.upd {M M' : ZM} {j : Nat} {f f' : Nat → Int32} (h : TabRel M j f) (hW : Wf f) (he : ∀ k, keepsF k → f' k = f k)
    (m0 : ∀ q, q ≠ 10 → q ≠ 11 → q ≠ 12 → q ≠ 13 → q ≠ 14 → M' (tb j) q = M (tb j) q) (m10 : M' (tb j) 10 = f' 2) (m11 : M' (tb j) 11 = f' 3) (m12 : M' (tb j) 12 = f' 4) (m13 : M' (tb j) 13 = f' 5) (m14 : M' (tb j) 14 = f' 6)
    (mc : ∀ c, tb j < c → c ≤ tb j + 8 → c ≠ tb j + 7 → M' c = M c) (m7 : ∀ k, k < 14 → M' (tb j + 7) k = f' (78 + k)) : TabRel M' j f' := by
  obtain ⟨⟨t1, t2, t3, t4, t5, t6, t7, t8, t9⟩, u1, u2, u3⟩ := h
  have hw := hW.nums
  have e0 : f' 0 = f 0 := he 0 (Or.inl (by decide))
  have e1 : f' 1 = f 1 := he 1 (Or.inl (by decide))
  have e7 : f' 7 = f 7 := he 7 (Or.inr (Or.inl rfl))
  have ej : jn f' = jn f := by unfold jn; rw [e0]
  have et : tn f' = tn f := by unfold tn; rw [e1]
  have el : ln f' = ln f := by unfold ln; rw [e7]
  unfold TabRel
  rw [ej, et, el, exn_eq he hw.1, e0, e1, e7]
  refine ⟨⟨?_, ?_, ?_, ?_, m10, m11, m12, m13, m14⟩, ?_, ?_, ?_⟩
  · rw [m0 _ (by decide) (by decide) (by decide) (by decide) (by decide)]; exact t1
  · rw [m0 _ (by decide) (by decide) (by decide) (by decide) (by decide)]; exact t2
  · rw [m0 _ (by decide) (by decide) (by decide) (by decide) (by decide)]; exact t3
  · rw [m0 _ (by decide) (by decide) (by decide) (by decide) (by decide)]; exact t4
  · intro k hk
    rw [mc _ (by omega) (by omega) (by omega), mc _ (by omega) (by omega) (by omega), mc _ (by omega) (by omega) (by omega), mc _ (by omega) (by omega) (by omega), he _ (Or.inr (Or.inr (Or.inl (by omega)))), he _ (Or.inr (Or.inr (Or.inl (by omega)))), he _ (Or.inr (Or.inr (Or.inl (by omega)))), he _ (Or.inr (Or.inr (Or.inl (by omega))))]
    exact u1 k hk
  · intro k hk
    refine ⟨?_, m7 k hk⟩
    rw [mc _ (by omega) (by omega) (by omega), he _ (Or.inr (Or.inr (Or.inl (by omega))))]
    exact (u2 k hk).1
  · intro k hk
    rw [mc _ (by omega) (by omega) (by omega), he _ (Or.inr (Or.inr (Or.inr (by omega))))]
    exact u3 k hk
def paF (f : Nat → Int32) : Nat → Int32 := upf (upf f 5 (f 5 - nI 1)) 6 (zshr (f 6) (nI 1))
def stF (f : Nat → Int32) (k : Nat) : Nat → Int32 := paF (upf f (78 + k) (f 6 &&& nI 1))
def ruF (f : Nat → Int32) (w n : Nat) : Nat → Int32 := upf f (2 + w) (nI n)
def orF (f : Nat → Int32) (n b : Nat) : Nat → Int32 := upf (upf f 5 (nI n)) 6 (nI b)
theorem paF_n {f : Nat → Int32} (hW : Wf f) (h0 : 0 < lf f) : paF f 5 = nI (lf f - 1) ∧ paF f 6 = nI (bs f / 2) ∧ bs f / 2 < 2 ^ (lf f - 1) := by
  have hw := hW.nums
  refine ⟨?_, ?_, ?_⟩
  · unfold paF
    rw [upf_ne (by decide), upf_at, hW.1.2.2.2.2.2.1.1, nI_sub1 h0]
  · unfold paF
    rw [upf_at, hW.1.2.2.2.2.2.2.1.1, nI_shr (by omega) (by decide), Nat.shiftRight_eq_div_pow, Nat.pow_one]
  · have e : lf f = (lf f - 1) + 1 := by omega
    have h1 := hw.2.2.2.2.2.2.2.2.1
    rw [e, Nat.pow_succ] at h1
    omega
theorem paF_keep {f : Nat → Int32} {k : Nat} (h5 : k ≠ 5) (h6 : k ≠ 6) : paF f k = f k := by
  unfold paF
  rw [upf_ne h6, upf_ne h5]
theorem Wf.pa {f : Nat → Int32} (hW : Wf f) (h0 : 0 < lf f) : Wf (paF f) := by
  have hw := hW.nums
  obtain ⟨h1, h2, h3⟩ := paF_n hW h0
  refine hW.upd (s := sn f) (p := pn f) (b := bn f) (l := lf f - 1) (c := bs f / 2) (fun k hk => paF_keep (by unfold keepsF at hk; omega) (by unfold keepsF at hk; omega)) ?_ (by omega) ?_ (by omega) ?_ (by omega) h1 (by omega) h2 h3 ?_
  · rw [paF_keep (by decide) (by decide)]; exact hW.1.2.2.1.1
  · rw [paF_keep (by decide) (by decide)]; exact hW.1.2.2.2.1.1
  · rw [paF_keep (by decide) (by decide)]; exact hW.1.2.2.2.2.1.1
  · intro k hk hs
    unfold stk at hs
    rw [paF_keep (by omega) (by omega)] at hs
    exact hW.2.2.2.2 k hk hs
theorem stk_upf {f : Nat → Int32} {k q : Nat} {v : Int32} (h : stk (upf f (78 + k) v) q = true) : q = k ∨ stk f q = true := by
  by_cases e : q = k
  · exact Or.inl e
  · right
    unfold stk at h ⊢
    rw [upf_ne (by omega)] at h
    exact h
theorem Wf.st {f : Nat → Int32} (hW : Wf f) (h0 : 0 < lf f) {p : Nat} (hp : p < ln f) : Wf (stF f (rw f p)) := by
  have hw := hW.nums
  have h14 := (hW.2.2.1 p hp).2
  have hW2 : Wf (upf f (78 + rw f p) (f 6 &&& nI 1)) := by
    refine hW.upd (s := sn f) (p := pn f) (b := bn f) (l := lf f) (c := bs f) (fun k hk => upf_ne (by unfold keepsF at hk; omega)) ?_ (by omega) ?_ (by omega) ?_ (by omega) ?_ (by omega) ?_ hw.2.2.2.2.2.2.2.2.1 ?_
    · rw [upf_ne (by omega)]; exact hW.1.2.2.1.1
    · rw [upf_ne (by omega)]; exact hW.1.2.2.2.1.1
    · rw [upf_ne (by omega)]; exact hW.1.2.2.2.2.1.1
    · rw [upf_ne (by omega)]; exact hW.1.2.2.2.2.2.1.1
    · rw [upf_ne (by omega)]; exact hW.1.2.2.2.2.2.2.1.1
    · intro k hk hs
      rcases stk_upf hs with rfl | h
      · exact ⟨p, hp, rfl⟩
      · exact hW.2.2.2.2 k hk h
  have e : lf (upf f (78 + rw f p) (f 6 &&& nI 1)) = lf f := by unfold lf; rw [upf_ne (by omega)]
  exact hW2.pa (by rw [e]; exact h0)
def isRu (w n : Nat) : Prop := (w = 0 ∧ 1 ≤ n ∧ n ≤ 6) ∨ (w = 1 ∧ n ≤ 3) ∨ (w = 2 ∧ n ≤ 1)
theorem Wf.ru {f : Nat → Int32} (hW : Wf f) {w n : Nat} (h : isRu w n) : Wf (ruF f w n) := by
  have hw := hW.nums
  have hs : ∀ k, k < 14 → stk (ruF f w n) k = true → ∃ i, i < ln f ∧ rw f i = k := by
    intro k hk hs
    unfold stk ruF at hs
    rw [upf_ne (by unfold isRu at h; omega)] at hs
    exact hW.2.2.2.2 k hk hs
  have hk : ∀ k, keepsF k → ruF f w n k = f k := fun k hk => upf_ne (by unfold keepsF at hk; unfold isRu at h; omega)
  unfold ruF at hs hk ⊢
  rcases h with ⟨rfl, h⟩ | ⟨rfl, h⟩ | ⟨rfl, h⟩
  · exact hW.upd (s := n) (p := pn f) (b := bn f) (l := lf f) (c := bs f) hk upf_at h (by rw [upf_ne (by decide)]; exact hW.1.2.2.2.1.1) (by omega) (by rw [upf_ne (by decide)]; exact hW.1.2.2.2.2.1.1) (by omega) (by rw [upf_ne (by decide)]; exact hW.1.2.2.2.2.2.1.1) (by omega) (by rw [upf_ne (by decide)]; exact hW.1.2.2.2.2.2.2.1.1) hw.2.2.2.2.2.2.2.2.1 hs
  · exact hW.upd (s := sn f) (p := n) (b := bn f) (l := lf f) (c := bs f) hk (by rw [upf_ne (by decide)]; exact hW.1.2.2.1.1) (by omega) upf_at h (by rw [upf_ne (by decide)]; exact hW.1.2.2.2.2.1.1) (by omega) (by rw [upf_ne (by decide)]; exact hW.1.2.2.2.2.2.1.1) (by omega) (by rw [upf_ne (by decide)]; exact hW.1.2.2.2.2.2.2.1.1) hw.2.2.2.2.2.2.2.2.1 hs
  · exact hW.upd (s := sn f) (p := pn f) (b := n) (l := lf f) (c := bs f) hk (by rw [upf_ne (by decide)]; exact hW.1.2.2.1.1) (by omega) (by rw [upf_ne (by decide)]; exact hW.1.2.2.2.1.1) (by omega) upf_at h (by rw [upf_ne (by decide)]; exact hW.1.2.2.2.2.2.1.1) (by omega) (by rw [upf_ne (by decide)]; exact hW.1.2.2.2.2.2.2.1.1) hw.2.2.2.2.2.2.2.2.1 hs
theorem Wf.or {f : Nat → Int32} (hW : Wf f) {n b : Nat} (h1 : n ≤ 8) (h2 : b < 2 ^ n) : Wf (orF f n b) := by
  have hw := hW.nums
  have hk : ∀ k, k ≠ 5 → k ≠ 6 → orF f n b k = f k := fun k h5 h6 => by unfold orF; rw [upf_ne h6, upf_ne h5]
  refine hW.upd (s := sn f) (p := pn f) (b := bn f) (l := n) (c := b) (fun k h => hk k (by unfold keepsF at h; omega) (by unfold keepsF at h; omega)) (by rw [hk _ (by decide) (by decide)]; exact hW.1.2.2.1.1) (by omega) (by rw [hk _ (by decide) (by decide)]; exact hW.1.2.2.2.1.1) (by omega) (by rw [hk _ (by decide) (by decide)]; exact hW.1.2.2.2.2.1.1) (by omega) ?_ h1 upf_at h2 ?_
  · unfold orF
    rw [upf_ne (by decide), upf_at]
  · intro k hk' hs
    unfold stk at hs
    rw [hk _ (by omega) (by omega)] at hs
    exact hW.2.2.2.2 k hk' hs
def acG (G : GS) (f : Nat → Int32) : GS := (f, kp (gK G) (gF G), gT G, gB G, gL G, gN G, gA G, gS G)
theorem WG.ac {G : GS} {f : Nat → Int32} (h : WG G) (hf : Wf f) : WG (acG G f) := by
  obtain ⟨h1, h2, h3, h4, h5⟩ := h
  refine ⟨hf, ?_, ?_, h4, h5⟩
  · intro g hg
    rcases List.mem_append.mp hg with hg | hg
    · split at hg
      · exact h2 g hg
      · exact h2 g (List.mem_of_mem_drop hg)
    · rw [List.mem_singleton] at hg
      subst hg
      exact h1
  · have := kp_len (K := gK G) (f := gF G) h3
    show (kp (gK G) (gF G)).length ≤ 8
    rw [this]
    split <;> omega
section Ad
variable {d i j : Nat} {M : ZM} {R : ZH} {G : GS} {f : Nat → Int32}
theorem endTurn_ (hS : Sh R) (hj : j < 10) (hW : Wf f) (h0 : 0 < lf f) (hT : TabRel M j f) : ∃ M', cal d 66 [.ref (tb j)] M R = some (.inl none, M', R) ∧ TabRel M' j (paF f) ∧ ∀ c, c ≠ tb j → M' c = M c := by
  obtain ⟨nN_j, tlt_j, kt0_j, kt1_j, lt1_j, kt2_j, lt2_j, kt3_j, lt3_j, kt4_j, lt4_j, kt5_j, lt5_j, kt6_j, lt6_j, kt7_j, lt7_j, kt8_j, lt8_j, ft0_0_j, ft1_0_j, ft1_1_j, ft0_1_j, ft0_2_j, ft0_3_j, ft0_4_j, ft0_5_j⟩ := tabF hS hj
  have t8 := hT.1.2.2.2.2.2.2.2.1
  have t9 := hT.1.2.2.2.2.2.2.2.2
  refine ⟨up2 (up2 M (tb j) 13 (f 5 - nI 1)) (tb j) 14 (zshr (f 6) (nI 1)), ?_, ?_, fun c h => by rw [up2_ne h, up2_ne h]⟩
  · rw [e66]
    simp (disch := first | assumption | exact nar_b0 | exact nar_b1 | exact nar_b | exact Or.inl rfl | exact Or.inr rfl | exact zin_t (by omega) (by omega) | exact Nat.le_of_ble_eq_true rfl | (rw [nI_cl (by omega)]; assumption) | omega) only [↓reduceIte, reduceCtorEq, not_true_eq_false, not_false_eq_true, q66_0, q66_1i, q66_1a, q66_2, q66_5, q66_6, q66_7, q66_10, q66_11i, q66_11a, q66_12, q66_15, q66_16, q66_17, q66_20, kl_int, kl_ref, kl_tok, cS_nil, cS_int, cS_ref, cS_long, tl_some, tl_none, List.cons_append, List.nil_append, nI_add, nI_ltb, nI_leb, nI_eqb, nI_cl, zin_nI, t8, up2_s, t9]
  · refine hT.upd hW (fun k hk => paF_keep (by unfold keepsF at hk; omega) (by unfold keepsF at hk; omega)) (fun q _ _ _ h1 h2 => by rw [up2_s h2, up2_s h1]) ?_ ?_ ?_ ?_ ?_ (fun c h1 h2 h3 => by rw [up2_ne (by omega), up2_ne (by omega)]) ?_
    · rw [up2_s (by decide), up2_s (by decide), paF_keep (by decide) (by decide)]; exact hT.1.2.2.2.2.1
    · rw [up2_s (by decide), up2_s (by decide), paF_keep (by decide) (by decide)]; exact hT.1.2.2.2.2.2.1
    · rw [up2_s (by decide), up2_s (by decide), paF_keep (by decide) (by decide)]; exact hT.1.2.2.2.2.2.2.1
    · rw [up2_s (by decide), up2_at]; unfold paF; rw [upf_ne (by decide), upf_at]
    · rw [up2_at]; unfold paF; rw [upf_at]
    · intro k hk
      rw [up2_c (by omega), up2_c (by omega), paF_keep (by omega) (by omega)]
      exact (hT.2.2.1 k hk).2
end Ad
