-- conditions: pure
abbrev CdS : Type := Nat × Int × Int
def pOp (b : Nat → Int32) (n i : Nat) : PR Int :=
  if wm b n (sk b n i) 12 then .inr (100, sk b n i + 5) else if wm b n (sk b n i) 13 then .inr (101, sk b n i + 6) else if wm b n (sk b n i) 14 then .inr (102, sk b n i + 3)
  else if wm b n (sk b n i) 15 then .inr (103, sk b n i + 3) else if wm b n (sk b n i) 16 then .inr (104, sk b n i + 3) else pNum b n (sk b n i) true (-99) 99
def kOf (b : Nat → Int32) (n s : Nat) : Nat := if isH b n s (nI 60) then 0 else if isH b n s (nI 61) then 1 else 2
def pCmp (b : Nat → Int32) (n i : Nat) : PR (List CdS) := match pOp b n i with
  | .inl f => .inl f
  | .inr (l, i1) => if kOf b n (sk b n i1) = 2 ∧ isH b n (sk b n i1) (nI 62) = false then .inl (1, sk b n i1) else match pOp b n (sk b n i1 + 1) with
    | .inl f => .inl f
    | .inr (r, i2) => .inr ([(kOf b n (sk b n i1), l, r)], i2)
def lpW (P : Nat → PR (List CdS)) (b : Nat → Int32) (n j kd : Nat) : Nat → Nat → List CdS → PR (List CdS)
  | 0, i, acc => .inr (acc, sk b n i)
  | m + 1, i, acc => if wm b n (sk b n i) j then (match P (sk b n i + wln j) with
    | .inl f => .inl f
    | .inr (st, i') => lpW P b n j kd m i' (acc ++ st ++ [(kd, 0, 0)])) else .inr (acc, sk b n i)
def pLoop (P : Nat → PR (List CdS)) (b : Nat → Int32) (n j kd : Nat) (i : Nat) : PR (List CdS) := match P i with
  | .inl f => .inl f
  | .inr (st, i') => lpW P b n j kd (n - i') i' st
def pAny (P : Nat → PR (List CdS)) (b : Nat → Int32) (n : Nat) (i : Nat) : PR (List CdS) := pLoop (pLoop P b n 10 4) b n 9 5 i
def pOne (b : Nat → Int32) (n : Nat) : Nat → Nat → PR (List CdS)
  | 0, i => if wm b n (sk b n i) 11 || isH b n (sk b n i) (nI 40) then .inl (4, sk b n i) else pCmp b n (sk b n i)
  | d + 1, i => if wm b n (sk b n i) 11 then (match pOne b n d (sk b n i + 3) with
      | .inl f => .inl f
      | .inr (st, i') => .inr (st ++ [(3, 0, 0)], i'))
    else if isH b n (sk b n i) (nI 40) then (match pAny (pOne b n d) b n (sk b n i + 1) with
      | .inl f => .inl f
      | .inr (st, i') => if isH b n (sk b n i') (nI 41) then .inr (st, sk b n i' + 1) else .inl (1, sk b n i'))
    else pCmp b n (sk b n i)
theorem wm_le {b : Nat → Int32} {n i j : Nat} (h : wm b n i j = true) : i + wln j ≤ n := by
  unfold wm at h
  rw [Bool.and_eq_true] at h
  exact of_decide_eq_true h.1
theorem isH_lt {b : Nat → Int32} {n i : Nat} {c : Int32} (h : isH b n i c = true) : i < n := (of_decide_eq_true h).1
theorem pOp_pos {b : Nat → Int32} {n i i' : Nat} {v : Int} (hi : i ≤ n) (h : pOp b n i = .inr (v, i')) : i < i' ∧ i' ≤ n ∧ -99 ≤ v ∧ v ≤ 104 := by
  have h1 := sk_ge b n i
  have h2 := sk_le (b := b) hi
  unfold pOp at h
  split at h
  · rename_i e; have := wm_le e; have l : wln 12 = 5 := rfl; cases h; omega
  · split at h
    · rename_i e; have := wm_le e; have l : wln 13 = 6 := rfl; cases h; omega
    · split at h
      · rename_i e; have := wm_le e; have l : wln 14 = 3 := rfl; cases h; omega
      · split at h
        · rename_i e; have := wm_le e; have l : wln 15 = 3 := rfl; cases h; omega
        · split at h
          · rename_i e; have := wm_le e; have l : wln 16 = 3 := rfl; cases h; omega
          · have := pNum_pos h2 h
            omega
-- the class's clauses
def ClR (M : ZM) (a : Nat) (st : List CdS) : Prop := M a 3 = nI st.length ∧ ∀ (k : Nat) (h : k < st.length), M (a + 1) k = nI (st[k]).1 ∧ M (a + 2) k = iI (st[k]).2.1 ∧ M (a + 3) k = iI (st[k]).2.2
def isCl (a : Nat) : Prop := a = 94 ∨ a = 98 ∨ a = 102
theorem clK {R : ZH} (hS : Sh R) {a : Nat} (ha : isCl a) : zK R a = 2 ∧ zRf R a 0 = some (a + 1) ∧ zRf R a 1 = some (a + 2) ∧ zRf R a 2 = some (a + 3) ∧ (zK R (a + 1) = 11 ∧ zLn R (a + 1) = 256) ∧ (zK R (a + 2) = 11 ∧ zLn R (a + 2) = 256) ∧ (zK R (a + 3) = 11 ∧ zLn R (a + 3) = 256) := by
  rcases ha with rfl | rfl | rfl
  · exact ⟨K94 hS, F94_0 hS, F94_1 hS, F94_2 hS, ⟨K95 hS, L95 hS⟩, ⟨K96 hS, L96 hS⟩, ⟨K97 hS, L97 hS⟩⟩
  · exact ⟨K98 hS, F98_0 hS, F98_1 hS, F98_2 hS, ⟨K99 hS, L99 hS⟩, ⟨K100 hS, L100 hS⟩, ⟨K101 hS, L101 hS⟩⟩
  · exact ⟨K102 hS, F102_0 hS, F102_1 hS, F102_2 hS, ⟨K103 hS, L103 hS⟩, ⟨K104 hS, L104 hS⟩, ⟨K105 hS, L105 hS⟩⟩
def CdF (a : Nat) (M M' : ZM) : Prop := (∀ c, c ≠ 92 → (c < a ∨ a + 3 < c) → M' c = M c) ∧ ∀ q, q ≠ 5 → q ≠ 6 → M' 92 q = M 92 q
def CdE (a : Nat) (M M' : ZM) (k p : Nat) : Prop := M' 92 9 = nI k ∧ M' 92 10 = nI p ∧ (∃ L, L ≤ 256 ∧ M' a 3 = nI L) ∧ ∀ c, c ≠ 92 → (c < a ∨ a + 3 < c) → M' c = M c
theorem CdF.refl {a : Nat} {M : ZM} : CdF a M M := ⟨fun _ _ _ => rfl, fun _ _ _ => rfl⟩
theorem CdF.trans {a : Nat} {M M1 M2 : ZM} (h1 : CdF a M M1) (h2 : CdF a M1 M2) : CdF a M M2 := ⟨fun c h h' => by rw [h2.1 c h h', h1.1 c h h'], fun q h h' => by rw [h2.2 q h h', h1.2 q h h']⟩
theorem CdF.at {a i : Nat} {M : ZM} : CdF a M (atM M i) := ⟨fun c h _ => atM_c h, fun q h _ => atM_s h⟩
theorem CdF.nm {a i : Nat} {v : Int} {M : ZM} : CdF a M (nmM M i v) := ⟨fun c h _ => nmM_c h, fun q h h' => nmM_s h h'⟩
theorem CdE.after {a k p : Nat} {M M1 M2 : ZM} (h1 : CdF a M M1) (h2 : CdE a M1 M2 k p) : CdE a M M2 k p := ⟨h2.1, h2.2.1, h2.2.2.1, fun c h h' => by rw [h2.2.2.2 c h h', h1.1 c h h']⟩
theorem ClR.fr {M M' : ZM} {a : Nat} {st : List CdS} (h : ClR M a st) (hM : ∀ c, a ≤ c → c ≤ a + 3 → M' c = M c) : ClR M' a st := by
  unfold ClR
  rw [hM _ (by omega) (by omega), hM (a + 1) (by omega) (by omega), hM (a + 2) (by omega) (by omega), hM (a + 3) (by omega) (by omega)]
  exact h
theorem CFt.cd {a k p : Nat} {M M' : ZM} {acc : List CdS} (ha : isCl a) (h : CFt M' M k p) (hc : ClR M a acc) (hl : acc.length ≤ 256) : CdE a M M' k p := by
  refine ⟨h.1, h.2.1, ⟨acc.length, hl, ?_⟩, fun c h1 _ => h.2.2 c h1⟩
  rw [h.2.2 a (by rcases ha with rfl | rfl | rfl <;> decide)]
  exact hc.1
def adM (M : ZM) (a L : Nat) (s : Int32) (l r : Int32) : ZM := up2 (up2 (up2 (up2 M (a + 1) L s) (a + 2) L l) (a + 3) L r) a 3 (nI (L + 1))
theorem adM_c {M : ZM} {a L c : Nat} {s l r : Int32} (h : c < a ∨ a + 3 < c) : adM M a L s l r c = M c := by
  unfold adM
  rw [up2_ne (by omega), up2_ne (by omega), up2_ne (by omega), up2_ne (by omega)]
section Cd
variable {d n i a : Nat} {M : ZM} {R : ZH} {b : Nat → Int32}
theorem add_ {L : Nat} {s l r : Int32} (ha : isCl a) (hS : Sh R) (h3 : M a 3 = nI L) (hL : L < 256) : cal d 6 [.ref a, .int s, .int l, .int r] M R = some (.inl none, adM M a L s l r, R) := by
  obtain ⟨q1, q2, q3, q4, ⟨q5, q6⟩, ⟨q7, q8⟩, ⟨q9, q10⟩⟩ := clK hS ha
  have nN := hS.1
  have hal : a + 3 < 147 := by rcases ha with rfl | rfl | rfl <;> decide
  have z : ¬ 256 ≤ L := by omega
  have w1 : up2 M (a + 1) L s a 3 = nI L := by rw [up2_c (by omega)]; exact h3
  have w2 : up2 (up2 M (a + 1) L s) (a + 2) L l a 3 = nI L := by rw [up2_c (by omega)]; exact w1
  have w3 : up2 (up2 (up2 M (a + 1) L s) (a + 2) L l) (a + 3) L r a 3 = nI L := by rw [up2_c (by omega)]; exact w2
  rw [e6]
  simp (disch := first | assumption | exact nar_b0 | exact nar_b1 | exact nar_b | exact Or.inl rfl | exact Or.inr rfl | exact zin_t (by omega) (by omega) | exact Nat.le_of_ble_eq_true rfl | (rw [nI_cl (by omega)]; assumption) | omega) only [↓reduceIte, reduceCtorEq, not_true_eq_false, not_false_eq_true, q6_0, q6_1, q6_4, q6_7, q6_10, q6_11, q6_14, q6_15, q6_18, q6_19, q6_20, q6_21, q6_24, q6_25, q6_28, q6_29, q6_30, q6_31, q6_34, q6_35, q6_38, q6_39, q6_40, q6_41i, q6_41a, q6_42, q6_45, q6_46, q6_47, q6_50, kl_int, kl_ref, kl_tok, cS_nil, cS_int, cS_ref, cS_long, tl_some, tl_none, List.cons_append, List.nil_append, nI_add, nI_ltb, nI_leb, nI_eqb, nI_cl, zin_nI, h3, z, w1, w2, w3]
  rfl
theorem add_any {L : Nat} {s l r : Int32} (ha : isCl a) (hS : Sh R) (h3 : M a 3 = nI L) (hL : L ≤ 256) : ∃ M', cal d 6 [.ref a, .int s, .int l, .int r] M R = some (.inl none, M', R) ∧ (∃ L, L ≤ 256 ∧ M' a 3 = nI L) ∧ ∀ c, (c < a ∨ a + 3 < c) → M' c = M c := by
  by_cases c : L < 256
  · exact ⟨_, add_ ha hS h3 c, ⟨L + 1, by omega, up2_at⟩, fun c h => adM_c h⟩
  · obtain ⟨q1, -⟩ := clK hS ha
    refine ⟨M, ?_, ⟨L, hL, h3⟩, fun _ _ => rfl⟩
    have z : 256 ≤ L := by omega
    rw [e6]
    simp (disch := first | assumption | exact nar_b0 | exact nar_b1 | exact nar_b | exact Or.inl rfl | exact Or.inr rfl | exact zin_t (by omega) (by omega) | exact Nat.le_of_ble_eq_true rfl | (rw [nI_cl (by omega)]; assumption) | omega) only [↓reduceIte, reduceCtorEq, not_true_eq_false, not_false_eq_true, q6_0, q6_1, q6_4, q6_7, q6_10, q6_11, q6_14, q6_15, q6_18, q6_19, q6_20, q6_21, q6_24, q6_25, q6_28, q6_29, q6_30, q6_31, q6_34, q6_35, q6_38, q6_39, q6_40, q6_41i, q6_41a, q6_42, q6_45, q6_46, q6_47, q6_50, kl_int, kl_ref, kl_tok, cS_nil, cS_int, cS_ref, cS_long, tl_some, tl_none, List.cons_append, List.nil_append, nI_add, nI_ltb, nI_leb, nI_eqb, nI_cl, zin_nI, h3, z]
theorem adM_1 {L q : Nat} {s l r : Int32} : adM M a L s l r (a + 1) q = if q = L then s else M (a + 1) q := by
  unfold adM
  rw [up2_c (show a + 1 ≠ a by omega), up2_c (show a + 1 ≠ a + 3 by omega), up2_c (show a + 1 ≠ a + 2 by omega)]
  by_cases e : q = L
  · subst e; rw [up2_at, if_pos rfl]
  · rw [up2_s e, if_neg e]
theorem adM_2 {L q : Nat} {s l r : Int32} : adM M a L s l r (a + 2) q = if q = L then l else M (a + 2) q := by
  unfold adM
  rw [up2_c (show a + 2 ≠ a by omega), up2_c (show a + 2 ≠ a + 3 by omega)]
  by_cases e : q = L
  · subst e; rw [up2_at, if_pos rfl]
  · rw [up2_s e, if_neg e, up2_s e]
theorem adM_3 {L q : Nat} {s l r : Int32} : adM M a L s l r (a + 3) q = if q = L then r else M (a + 3) q := by
  unfold adM
  rw [up2_c (show a + 3 ≠ a by omega)]
  by_cases e : q = L
  · subst e; rw [up2_at, if_pos rfl]
  · rw [up2_s e, if_neg e, up2_s e, up2_s e]
theorem ClR.add {acc : List CdS} {k : Nat} {l r : Int} (h : ClR M a acc) : ClR (adM M a acc.length (nI k) (iI l) (iI r)) a (acc ++ [(k, l, r)]) := by
  refine ⟨?_, ?_⟩
  · unfold adM
    rw [up2_at, List.length_append]
    rfl
  · intro q hq
    rw [List.length_append, List.length_singleton] at hq
    rw [adM_1, adM_2, adM_3]
    by_cases e : q = acc.length
    · subst e
      simp
    · rw [if_neg e, if_neg e, if_neg e, List.getElem_append_left (by omega)]
      exact h.2 q (by omega)
theorem PCx.fr {M' : ZM} (h : PCx M b n i) (h92 : M' 92 4 = M 92 4) (h925 : M' 92 5 = M 92 5) (h929 : M' 92 9 = M 92 9) (h93 : M' 93 = M 93) : PCx M' b n i := by
  unfold PCx
  rw [h92, h925, h929, h93]
  exact h
theorem pNum_sk {sg : Bool} {lo hi : Int} (h : i ≤ n) : pNum b n (sk b n i) sg lo hi = pNum b n i sg lo hi := by
  unfold pNum nG nMi
  rw [sk_sk h]
theorem readOperand_ {e : Nat} (he : 5 ≤ e) (hS : Sh R) (hF : FO M) (hP : PCx M b n i) : (∀ v i', pOp b n i = .inr (v, i') → cal e 46 [.ref 92] M R = some (.inl (some (.int (nI 1))), nmM M i' v, R)) ∧ (∀ k p, pOp b n i = .inl (k, p) → ∃ M', cal e 46 [.ref 92] M R = some (.inl (some (.int (nI 0))), M', R) ∧ CFt M' M k p) := by
  obtain ⟨d, rfl⟩ : ∃ d, e = d + 5 := ⟨e - 5, by omega⟩
  obtain ⟨nN, k92, k93, l93, k94, k95, l95, k96, l96, k97, l97, k98, k99, l99, k100, l100, k101, l101, k102, k103, l103, k104, l104, k105, l105, f92_0, f92_1, f94_0, f94_1, f94_2, f92_2, f98_0, f98_1, f98_2, f92_3, f102_0, f102_1, f102_2⟩ := parF hS
  have hle := sk_le (b := b) hP.2.2.1.1
  have w12 := takeWord_ (d := d) (R := R) (a := 1000013) (j := 12) rfl (by decide) hS hF hP
  have hP2 : PCx (atM M (sk b n i)) b n (sk b n i) := hP.mv hle
  have hF2 : FO (atM M (sk b n i)) := hF.fr (fun c h => atM_c (by omega))
  have wj : ∀ (a j : Nat), a = 1000001 + j → j < 17 → cal (d + 4) 52 [.ref 92, .ref a] (atM M (sk b n i)) R = some (.inl (some (.int (b2i (wm b n (sk b n i) j)))), atM M (if wm b n (sk b n i) j then sk b n i + wln j else sk b n i), R) := by
    intro a j ha hj
    have := takeWord_ (d := d) (R := R) (a := a) (j := j) ha hj hS hF2 hP2
    rw [sk_sk hP.2.2.1.1, atM_at] at this
    exact this
  have w13 := wj 1000014 13 rfl (by decide)
  have w14 := wj 1000015 14 rfl (by decide)
  have w15 := wj 1000016 15 rfl (by decide)
  have w16 := wj 1000017 16 rfl (by decide)
  unfold pOp
  cases c12 : wm b n (sk b n i) 12
  · rw [c12] at w12
    cases c13 : wm b n (sk b n i) 13
    · rw [c13] at w13
      cases c14 : wm b n (sk b n i) 14
      · rw [c14] at w14
        cases c15 : wm b n (sk b n i) 15
        · rw [c15] at w15
          cases c16 : wm b n (sk b n i) 16
          · rw [c16] at w16
            simp only [Bool.false_eq_true, if_false] at w12 w13 w14 w15 w16 ⊢
            have hm : (-99 : Int32) = iI (-99) := by decide +kernel
            have hh : nI 99 = iI 99 := rfl
            have e0 : cal (d + 5) 46 [.ref 92] M R = exe (d + 5) 46 90 [.ref 92] [] (atM M (sk b n i)) R := by
              rw [e46]
              simp (disch := first | assumption | exact nar_b0 | exact nar_b1 | exact nar_b | exact Or.inl rfl | exact Or.inr rfl | exact zin_t (by omega) (by omega) | exact Nat.le_of_ble_eq_true rfl | (rw [nI_cl (by omega)]; assumption) | omega) only [↓reduceIte, reduceCtorEq, not_true_eq_false, not_false_eq_true, q46_0, q46_1, q46_3, q46_6, q46_9, q46_10, q46_12, q46_15, q46_18, q46_19, q46_21, q46_24, q46_27, q46_28, q46_30, q46_33, q46_36, q46_37, q46_39, q46_42, q46_45, q46_46, q46_48, q46_51, q46_54, q46_55, q46_57, q46_60, q46_63, q46_64, q46_66, q46_69, q46_72, q46_73, q46_75, q46_78, q46_81, q46_82, q46_84, q46_87, q46_91, q46_93, q46_95, q46_98, q46_99, q46_100, kl_int, kl_ref, kl_tok, cS_nil, cS_int, cS_ref, cS_long, tl_some, tl_none, List.cons_append, List.nil_append, nI_add, nI_ltb, nI_leb, nI_eqb, nI_cl, zin_nI, w12, w13, w14, w15, w16, zk0_inl, b2i_0]
            constructor
            · intro v i' h
              have hr := readNumber_t (d := d + 3) (R := R) hS hP2 hm hh (by decide) (by decide) (by decide) h
              rw [e0]
              simp (disch := first | assumption | exact nar_b0 | exact nar_b1 | exact nar_b | exact Or.inl rfl | exact Or.inr rfl | exact zin_t (by omega) (by omega) | exact Nat.le_of_ble_eq_true rfl | (rw [nI_cl (by omega)]; assumption) | omega) only [↓reduceIte, reduceCtorEq, not_true_eq_false, not_false_eq_true, q46_0, q46_1, q46_3, q46_6, q46_9, q46_10, q46_12, q46_15, q46_18, q46_19, q46_21, q46_24, q46_27, q46_28, q46_30, q46_33, q46_36, q46_37, q46_39, q46_42, q46_45, q46_46, q46_48, q46_51, q46_54, q46_55, q46_57, q46_60, q46_63, q46_64, q46_66, q46_69, q46_72, q46_73, q46_75, q46_78, q46_81, q46_82, q46_84, q46_87, q46_90, q46_91, q46_93, q46_95, q46_98, q46_99, q46_100, kl_int, kl_ref, kl_tok, cS_nil, cS_int, cS_ref, cS_long, tl_some, tl_none, List.cons_append, List.nil_append, nI_add, nI_ltb, nI_leb, nI_eqb, nI_cl, zin_nI, hr, zk0_inl]
              unfold nmM
              rw [atM_at]
            · intro k p h
              obtain ⟨M', hr, hc⟩ := readNumber_f (d := d + 3) (R := R) hS hP2 hm hh (by decide) (by decide) (by decide) h
              refine ⟨M', ?_, hc.1, hc.2.1, fun c h => by rw [hc.2.2 c h, atM_c h]⟩
              rw [e0]
              simp (disch := first | assumption | exact nar_b0 | exact nar_b1 | exact nar_b | exact Or.inl rfl | exact Or.inr rfl | exact zin_t (by omega) (by omega) | exact Nat.le_of_ble_eq_true rfl | (rw [nI_cl (by omega)]; assumption) | omega) only [↓reduceIte, reduceCtorEq, not_true_eq_false, not_false_eq_true, q46_0, q46_1, q46_3, q46_6, q46_9, q46_10, q46_12, q46_15, q46_18, q46_19, q46_21, q46_24, q46_27, q46_28, q46_30, q46_33, q46_36, q46_37, q46_39, q46_42, q46_45, q46_46, q46_48, q46_51, q46_54, q46_55, q46_57, q46_60, q46_63, q46_64, q46_66, q46_69, q46_72, q46_73, q46_75, q46_78, q46_81, q46_82, q46_84, q46_87, q46_90, q46_91, q46_93, q46_95, q46_98, q46_99, q46_100, kl_int, kl_ref, kl_tok, cS_nil, cS_int, cS_ref, cS_long, tl_some, tl_none, List.cons_append, List.nil_append, nI_add, nI_ltb, nI_leb, nI_eqb, nI_cl, zin_nI, hr, zk0_inl]
          · rw [c16] at w16
            simp only [Bool.false_eq_true, if_false, if_true] at w12 w13 w14 w15 w16 ⊢
            refine ⟨fun v i' h => ?_, fun k p h => by cases h⟩
            cases h
            rw [e46]
            simp (disch := first | assumption | exact nar_b0 | exact nar_b1 | exact nar_b | exact Or.inl rfl | exact Or.inr rfl | exact zin_t (by omega) (by omega) | exact Nat.le_of_ble_eq_true rfl | (rw [nI_cl (by omega)]; assumption) | omega) only [↓reduceIte, reduceCtorEq, not_true_eq_false, not_false_eq_true, q46_0, q46_1, q46_3, q46_6, q46_9, q46_10, q46_12, q46_15, q46_18, q46_19, q46_21, q46_24, q46_27, q46_28, q46_30, q46_33, q46_36, q46_37, q46_39, q46_42, q46_45, q46_46, q46_48, q46_51, q46_54, q46_55, q46_57, q46_60, q46_63, q46_64, q46_66, q46_69, q46_72, q46_73, q46_75, q46_78, q46_81, q46_82, q46_84, q46_87, q46_90, q46_91, q46_93, q46_95, q46_98, q46_99, q46_100, kl_int, kl_ref, kl_tok, cS_nil, cS_int, cS_ref, cS_long, tl_some, tl_none, List.cons_append, List.nil_append, nI_add, nI_ltb, nI_leb, nI_eqb, nI_cl, zin_nI, w12, w13, w14, w15, w16, zk0_inl, b2i_0]
            rfl
        · rw [c15] at w15
          simp only [Bool.false_eq_true, if_false, if_true] at w12 w13 w14 w15 ⊢
          refine ⟨fun v i' h => ?_, fun k p h => by cases h⟩
          cases h
          rw [e46]
          simp (disch := first | assumption | exact nar_b0 | exact nar_b1 | exact nar_b | exact Or.inl rfl | exact Or.inr rfl | exact zin_t (by omega) (by omega) | exact Nat.le_of_ble_eq_true rfl | (rw [nI_cl (by omega)]; assumption) | omega) only [↓reduceIte, reduceCtorEq, not_true_eq_false, not_false_eq_true, q46_0, q46_1, q46_3, q46_6, q46_9, q46_10, q46_12, q46_15, q46_18, q46_19, q46_21, q46_24, q46_27, q46_28, q46_30, q46_33, q46_36, q46_37, q46_39, q46_42, q46_45, q46_46, q46_48, q46_51, q46_54, q46_55, q46_57, q46_60, q46_63, q46_64, q46_66, q46_69, q46_72, q46_73, q46_75, q46_78, q46_81, q46_82, q46_84, q46_87, q46_90, q46_91, q46_93, q46_95, q46_98, q46_99, q46_100, kl_int, kl_ref, kl_tok, cS_nil, cS_int, cS_ref, cS_long, tl_some, tl_none, List.cons_append, List.nil_append, nI_add, nI_ltb, nI_leb, nI_eqb, nI_cl, zin_nI, w12, w13, w14, w15, zk0_inl, b2i_0]
          rfl
      · rw [c14] at w14
        simp only [Bool.false_eq_true, if_false, if_true] at w12 w13 w14 ⊢
        refine ⟨fun v i' h => ?_, fun k p h => by cases h⟩
        cases h
        rw [e46]
        simp (disch := first | assumption | exact nar_b0 | exact nar_b1 | exact nar_b | exact Or.inl rfl | exact Or.inr rfl | exact zin_t (by omega) (by omega) | exact Nat.le_of_ble_eq_true rfl | (rw [nI_cl (by omega)]; assumption) | omega) only [↓reduceIte, reduceCtorEq, not_true_eq_false, not_false_eq_true, q46_0, q46_1, q46_3, q46_6, q46_9, q46_10, q46_12, q46_15, q46_18, q46_19, q46_21, q46_24, q46_27, q46_28, q46_30, q46_33, q46_36, q46_37, q46_39, q46_42, q46_45, q46_46, q46_48, q46_51, q46_54, q46_55, q46_57, q46_60, q46_63, q46_64, q46_66, q46_69, q46_72, q46_73, q46_75, q46_78, q46_81, q46_82, q46_84, q46_87, q46_90, q46_91, q46_93, q46_95, q46_98, q46_99, q46_100, kl_int, kl_ref, kl_tok, cS_nil, cS_int, cS_ref, cS_long, tl_some, tl_none, List.cons_append, List.nil_append, nI_add, nI_ltb, nI_leb, nI_eqb, nI_cl, zin_nI, w12, w13, w14, zk0_inl, b2i_0]
        rfl
    · rw [c13] at w13
      simp only [Bool.false_eq_true, if_false, if_true] at w12 w13 ⊢
      refine ⟨fun v i' h => ?_, fun k p h => by cases h⟩
      cases h
      rw [e46]
      simp (disch := first | assumption | exact nar_b0 | exact nar_b1 | exact nar_b | exact Or.inl rfl | exact Or.inr rfl | exact zin_t (by omega) (by omega) | exact Nat.le_of_ble_eq_true rfl | (rw [nI_cl (by omega)]; assumption) | omega) only [↓reduceIte, reduceCtorEq, not_true_eq_false, not_false_eq_true, q46_0, q46_1, q46_3, q46_6, q46_9, q46_10, q46_12, q46_15, q46_18, q46_19, q46_21, q46_24, q46_27, q46_28, q46_30, q46_33, q46_36, q46_37, q46_39, q46_42, q46_45, q46_46, q46_48, q46_51, q46_54, q46_55, q46_57, q46_60, q46_63, q46_64, q46_66, q46_69, q46_72, q46_73, q46_75, q46_78, q46_81, q46_82, q46_84, q46_87, q46_90, q46_91, q46_93, q46_95, q46_98, q46_99, q46_100, kl_int, kl_ref, kl_tok, cS_nil, cS_int, cS_ref, cS_long, tl_some, tl_none, List.cons_append, List.nil_append, nI_add, nI_ltb, nI_leb, nI_eqb, nI_cl, zin_nI, w12, w13, zk0_inl, b2i_0]
      rfl
  · rw [c12] at w12
    simp only [if_true] at w12 ⊢
    refine ⟨fun v i' h => ?_, fun k p h => by cases h⟩
    cases h
    rw [e46]
    simp (disch := first | assumption | exact nar_b0 | exact nar_b1 | exact nar_b | exact Or.inl rfl | exact Or.inr rfl | exact zin_t (by omega) (by omega) | exact Nat.le_of_ble_eq_true rfl | (rw [nI_cl (by omega)]; assumption) | omega) only [↓reduceIte, reduceCtorEq, not_true_eq_false, not_false_eq_true, q46_0, q46_1, q46_3, q46_6, q46_9, q46_10, q46_12, q46_15, q46_18, q46_19, q46_21, q46_24, q46_27, q46_28, q46_30, q46_33, q46_36, q46_37, q46_39, q46_42, q46_45, q46_46, q46_48, q46_51, q46_54, q46_55, q46_57, q46_60, q46_63, q46_64, q46_66, q46_69, q46_72, q46_73, q46_75, q46_78, q46_81, q46_82, q46_84, q46_87, q46_90, q46_91, q46_93, q46_95, q46_98, q46_99, q46_100, kl_int, kl_ref, kl_tok, cS_nil, cS_int, cS_ref, cS_long, tl_some, tl_none, List.cons_append, List.nil_append, nI_add, nI_ltb, nI_leb, nI_eqb, nI_cl, zin_nI, w12, zk0_inl, b2i_0]
    rfl
end Cd
