section Cf
variable {d n i a : Nat} {M : ZM} {R : ZH} {b : Nat → Int32}
theorem loop_43 {lo nst : Nat} {P : Nat → PR (List CdS)} (ha : isCl a) (hS : Sh R) (hR : CdR R b n a 44 lo nst P) (hlo : 4 ≤ lo) : ∀ (m i : Nat) (e more : Nat) (M : ZM) (acc : List CdS), n - i ≤ m → lo < e → PCx M b n i → FO M → ClR M a acc → 2 * acc.length ≤ i → 2 * more ≤ i →
    (∀ st i', lpW P b n 10 4 m i acc = .inr (st, i') → i ≤ i' ∧ i' ≤ n ∧ 2 * st.length ≤ i' ∧ acc.length ≤ st.length ∧ 2 * (st.length - acc.length) ≤ i' - i ∧ ∃ M', exe e 43 13 [.ref 92, .ref a, .int (nI nst), .int (nI more)] [] M R = some (.inl (some (.int (nI 1))), M', R) ∧ PCx M' b n i' ∧ ClR M' a st ∧ CdF a M M') ∧
    (∀ k p, lpW P b n 10 4 m i acc = .inl (k, p) → ∃ M', exe e 43 13 [.ref 92, .ref a, .int (nI nst), .int (nI more)] [] M R = some (.inl (some (.int (nI 0))), M', R) ∧ CdE a M M' k p) := by
  obtain ⟨nN, k92, k93, l93, k94, k95, l95, k96, l96, k97, l97, k98, k99, l99, k100, l100, k101, l101, k102, k103, l103, k104, l104, k105, l105, f92_0, f92_1, f94_0, f94_1, f94_2, f92_2, f98_0, f98_1, f98_2, f92_3, f102_0, f102_1, f102_2⟩ := parF hS
  have han := isCl_n ha
  obtain ⟨q1, -⟩ := clK hS ha
  have z1 : ¬ 1 = 0 := by decide
  intro m
  induction m with
  | zero =>
    intro i e more M acc hm he hP hF hC hl hmo
    obtain ⟨d, rfl⟩ : ∃ d, e = d + 5 := ⟨e - 5, by omega⟩
    have hn := hP.2.2.1
    have hi : i = n := by omega
    have hw := takeWord_ (d := d) (R := R) (a := 1000011) (j := 10) rfl (by decide) hS hF hP
    have hsk : sk b n i = i := sk_id (by omega)
    have c : wm b n (sk b n i) 10 = false := by
      cases q : wm b n (sk b n i) 10
      · rfl
      · have := wm_le q
        have l : 2 ≤ wln 10 := by decide
        omega
    rw [c] at hw
    simp only [Bool.false_eq_true, if_false] at hw
    refine ⟨fun st i' h => ?_, fun k p h => by cases h⟩
    have h2 : (Sum.inr (acc, sk b n i) : PR (List CdS)) = .inr (st, i') := h
    cases h2
    rw [hsk] at hw ⊢
    refine ⟨Nat.le_refl _, by omega, hl, Nat.le_refl _, by omega, atM M i, ?_, hP.mv (by omega), hC.fr (fun c h1 h2 => atM_c (by omega)), CdF.at⟩
    have z : ¬ 500 ≤ more := by omega
    rw [q43_13]
    simp (disch := first | assumption | exact nar_b0 | exact nar_b1 | exact nar_b | exact Or.inl rfl | exact Or.inr rfl | exact zin_t (by omega) (by omega) | exact Nat.le_of_ble_eq_true rfl | (rw [nI_cl (by omega)]; assumption) | omega) only [↓reduceIte, reduceCtorEq, not_true_eq_false, not_false_eq_true, q43_0, q43_1, q43_2, q43_3, q43_6, q43_9, q43_10, q43_11, q43_12, q43_14, q43_17, q43_20, q43_21, q43_23, q43_26, q43_29, q43_30, q43_31, q43_32, q43_35, q43_38, q43_39, q43_40, q43_41, q43_42, q43_43, q43_44, q43_47, q43_50, q43_53, q43_54, kl_int, kl_ref, kl_tok, cS_nil, cS_int, cS_ref, cS_long, tl_some, tl_none, List.cons_append, List.nil_append, nI_add, nI_ltb, nI_leb, nI_eqb, nI_cl, zin_nI, z, hw, zk0_inl, b2i_0]
  | succ m ih =>
    intro i e more M acc hm he hP hF hC hl hmo
    obtain ⟨d, rfl⟩ : ∃ d, e = d + 5 := ⟨e - 5, by omega⟩
    have hn := hP.2.2.1
    have hw := takeWord_ (d := d) (R := R) (a := 1000011) (j := 10) rfl (by decide) hS hF hP
    have hle := sk_le (b := b) hn.1
    have hge := sk_ge b n i
    have z : ¬ 500 ≤ more := by omega
    have l : 2 ≤ wln 10 := by decide
    cases c : wm b n (sk b n i) 10
    · rw [c] at hw
      simp only [Bool.false_eq_true, if_false] at hw
      have hpw : lpW P b n 10 4 (m + 1) i acc = .inr (acc, sk b n i) := by
        rw [lpW, c]
        rfl
      rw [hpw]
      refine ⟨fun st i' h => ?_, fun k p h => by cases h⟩
      cases h
      refine ⟨hge, hle, by omega, Nat.le_refl _, by omega, atM M (sk b n i), ?_, hP.mv hle, hC.fr (fun c h1 h2 => atM_c (by omega)), CdF.at⟩
      rw [q43_13]
      simp (disch := first | assumption | exact nar_b0 | exact nar_b1 | exact nar_b | exact Or.inl rfl | exact Or.inr rfl | exact zin_t (by omega) (by omega) | exact Nat.le_of_ble_eq_true rfl | (rw [nI_cl (by omega)]; assumption) | omega) only [↓reduceIte, reduceCtorEq, not_true_eq_false, not_false_eq_true, q43_0, q43_1, q43_2, q43_3, q43_6, q43_9, q43_10, q43_11, q43_12, q43_14, q43_17, q43_20, q43_21, q43_23, q43_26, q43_29, q43_30, q43_31, q43_32, q43_35, q43_38, q43_39, q43_40, q43_41, q43_42, q43_43, q43_44, q43_47, q43_50, q43_53, q43_54, kl_int, kl_ref, kl_tok, cS_nil, cS_int, cS_ref, cS_long, tl_some, tl_none, List.cons_append, List.nil_append, nI_add, nI_ltb, nI_leb, nI_eqb, nI_cl, zin_nI, z, hw, zk0_inl, b2i_0]
    · rw [c] at hw
      simp only [if_true] at hw
      have hwl := wm_le c
      have hP1 : PCx (atM M (sk b n i + wln 10)) b n (sk b n i + wln 10) := hP.mv hwl
      have hC1 : ClR (atM M (sk b n i + wln 10)) a acc := hC.fr (fun c h1 h2 => atM_c (by omega))
      have hF1 : FO (atM M (sk b n i + wln 10)) := hF.fr (fun c h => atM_c (by omega))
      obtain ⟨r1, r2⟩ := hR (d + 4) (atM M (sk b n i + wln 10)) (sk b n i + wln 10) acc (by omega) hP1 hF1 hC1 (by omega)
      have hpw : lpW P b n 10 4 (m + 1) i acc = match P (sk b n i + wln 10) with
        | .inl f => .inl f
        | .inr (st, i') => lpW P b n 10 4 m i' (acc ++ st ++ [(4, 0, 0)]) := by
        rw [lpW, c]
        rfl
      rw [hpw]
      cases hp : P (sk b n i + wln 10) with
      | inl f =>
        obtain ⟨k, p⟩ := f
        obtain ⟨M1, g1, g2⟩ := r2 k p hp
        refine ⟨fun st i' h => (by cases h), fun k' p' h => ?_⟩
        cases h
        refine ⟨M1, ?_, CdE.after CdF.at g2⟩
        rw [q43_13]
        simp (disch := first | assumption | exact nar_b0 | exact nar_b1 | exact nar_b | exact Or.inl rfl | exact Or.inr rfl | exact zin_t (by omega) (by omega) | exact Nat.le_of_ble_eq_true rfl | (rw [nI_cl (by omega)]; assumption) | omega) only [↓reduceIte, reduceCtorEq, not_true_eq_false, not_false_eq_true, q43_0, q43_1, q43_2, q43_3, q43_6, q43_9, q43_10, q43_11, q43_12, q43_14, q43_17, q43_20, q43_21, q43_23, q43_26, q43_29, q43_30, q43_31, q43_32, q43_35, q43_38, q43_39, q43_40, q43_41, q43_42, q43_43, q43_44, q43_47, q43_50, q43_53, q43_54, kl_int, kl_ref, kl_tok, cS_nil, cS_int, cS_ref, cS_long, tl_some, tl_none, List.cons_append, List.nil_append, nI_add, nI_ltb, nI_leb, nI_eqb, nI_cl, zin_nI, z, hw, zk0_inl, b2i_0, g1]
      | inr w =>
        obtain ⟨st, i1⟩ := w
        obtain ⟨p1, p2, p3, M1, g1, g2, g3, g4⟩ := r1 st i1 hp
        have hlen : (acc ++ st).length = acc.length + st.length := List.length_append
        have hadd := add_ (d := d + 4) (M := M1) (R := R) (s := nI 4) (l := nI 0) (r := nI 0) ha hS g3.1 (by omega)
        have i00 : nI 0 = iI 0 := rfl
        have hC2 : ClR (adM M1 a (acc ++ st).length (nI 4) (nI 0) (nI 0)) a (acc ++ st ++ [(4, 0, 0)]) := g3.add (k := 4) (l := 0) (r := 0)
        have f2 : CdF a M (adM M1 a (acc ++ st).length (nI 4) (nI 0) (nI 0)) := CdF.trans (CdF.trans CdF.at g4) ⟨fun c h1 h2 => adM_c h2, fun q h1 h2 => by rw [adM_c (by omega)]⟩
        have hP2 : PCx (adM M1 a (acc ++ st).length (nI 4) (nI 0) (nI 0)) b n i1 := g2.fr (by rw [adM_c (by omega)]) (by rw [adM_c (by omega)]) (by rw [adM_c (by omega)]) (adM_c (by omega))
        have hF2 : FO (adM M1 a (acc ++ st).length (nI 4) (nI 0) (nI 0)) := hF.cd ha f2.1
        have hl2 : (acc ++ st ++ [(4, 0, 0)]).length = acc.length + st.length + 1 := by simp; omega
        obtain ⟨s1, s2⟩ := ih i1 (d + 5) (more + 1) _ (acc ++ st ++ [(4, 0, 0)]) (by omega) he hP2 hF2 hC2 (by omega) (by omega)
        have est : exe (d + 5) 43 13 [.ref 92, .ref a, .int (nI nst), .int (nI more)] [] M R = exe (d + 5) 43 13 [.ref 92, .ref a, .int (nI nst), .int (nI (more + 1))] [] (adM M1 a (acc ++ st).length (nI 4) (nI 0) (nI 0)) R := by
          rw [q43_13]
          simp (disch := first | assumption | exact nar_b0 | exact nar_b1 | exact nar_b | exact Or.inl rfl | exact Or.inr rfl | exact zin_t (by omega) (by omega) | exact Nat.le_of_ble_eq_true rfl | (rw [nI_cl (by omega)]; assumption) | omega) only [↓reduceIte, reduceCtorEq, not_true_eq_false, not_false_eq_true, q43_0, q43_1, q43_2, q43_3, q43_6, q43_9, q43_10, q43_11, q43_12, q43_14, q43_17, q43_20, q43_21, q43_23, q43_26, q43_29, q43_30, q43_31, q43_32, q43_35, q43_38, q43_39, q43_40, q43_41, q43_42, q43_43, q43_44, q43_47, q43_50, q43_53, q43_54, kl_int, kl_ref, kl_tok, cS_nil, cS_int, cS_ref, cS_long, tl_some, tl_none, List.cons_append, List.nil_append, nI_add, nI_ltb, nI_leb, nI_eqb, nI_cl, zin_nI, z, hw, zk0_inl, b2i_0, g1, z1, hadd]
        refine ⟨fun st' i' h => ?_, fun k p h => ?_⟩
        · obtain ⟨t1, t2, t3, t4, t5, M', t6, t7, t8, t9⟩ := s1 st' i' h
          exact ⟨by omega, t2, t3, by omega, by omega, M', by rw [est]; exact t6, t7, t8, CdF.trans f2 t9⟩
        · obtain ⟨M', t6, t7⟩ := s2 k p h
          exact ⟨M', by rw [est]; exact t6, CdE.after f2 t7⟩
theorem cdR_43 {lo nst : Nat} {P : Nat → PR (List CdS)} (ha : isCl a) (hS : Sh R) (hR : CdR R b n a 44 lo nst P) (hlo : 4 ≤ lo) : CdR R b n a 43 (lo + 1) nst (pLoop P b n 10 4) := by
  intro e M i acc he hP hF hC hl
  obtain ⟨nN, k92, k93, l93, k94, k95, l95, k96, l96, k97, l97, k98, k99, l99, k100, l100, k101, l101, k102, k103, l103, k104, l104, k105, l105, f92_0, f92_1, f94_0, f94_1, f94_2, f92_2, f98_0, f98_1, f98_2, f92_3, f102_0, f102_1, f102_2⟩ := parF hS
  have han := isCl_n ha
  have hn := hP.2.2.1
  have z1 : ¬ 1 = 0 := by decide
  obtain ⟨d, rfl⟩ : ∃ d, e = d + 1 := ⟨e - 1, by omega⟩
  obtain ⟨r1, r2⟩ := hR d M i acc (by omega) hP hF hC hl
  unfold pLoop
  cases hp : P i with
  | inl f =>
    obtain ⟨k, p⟩ := f
    obtain ⟨M1, g1, g2⟩ := r2 k p hp
    refine ⟨fun st i' h => (by cases h), fun k' p' h => ?_⟩
    cases h
    refine ⟨M1, ?_, g2⟩
    rw [e43]
    simp (disch := first | assumption | exact nar_b0 | exact nar_b1 | exact nar_b | exact Or.inl rfl | exact Or.inr rfl | exact zin_t (by omega) (by omega) | exact Nat.le_of_ble_eq_true rfl | (rw [nI_cl (by omega)]; assumption) | omega) only [↓reduceIte, reduceCtorEq, not_true_eq_false, not_false_eq_true, q43_0, q43_1, q43_2, q43_3, q43_6, q43_9, q43_10, q43_11, q43_12, q43_14, q43_17, q43_20, q43_21, q43_23, q43_26, q43_29, q43_30, q43_31, q43_32, q43_35, q43_38, q43_39, q43_40, q43_41, q43_42, q43_43, q43_44, q43_47, q43_50, q43_53, q43_54, kl_int, kl_ref, kl_tok, cS_nil, cS_int, cS_ref, cS_long, tl_some, tl_none, List.cons_append, List.nil_append, nI_add, nI_ltb, nI_leb, nI_eqb, nI_cl, zin_nI, g1, zk0_inl]
  | inr w =>
    obtain ⟨st, i1⟩ := w
    obtain ⟨p1, p2, p3, M1, g1, g2, g3, g4⟩ := r1 st i1 hp
    have hlen : (acc ++ st).length = acc.length + st.length := List.length_append
    have e13 : cal (d + 1) 43 [.ref 92, .ref a, .int (nI nst)] M R = exe (d + 1) 43 13 [.ref 92, .ref a, .int (nI nst), .int (nI 0)] [] M1 R := by
      rw [e43]
      simp (disch := first | assumption | exact nar_b0 | exact nar_b1 | exact nar_b | exact Or.inl rfl | exact Or.inr rfl | exact zin_t (by omega) (by omega) | exact Nat.le_of_ble_eq_true rfl | (rw [nI_cl (by omega)]; assumption) | omega) only [↓reduceIte, reduceCtorEq, not_true_eq_false, not_false_eq_true, q43_0, q43_1, q43_2, q43_3, q43_6, q43_9, q43_10, q43_11, q43_12, q43_14, q43_17, q43_20, q43_21, q43_23, q43_26, q43_29, q43_30, q43_31, q43_32, q43_35, q43_38, q43_39, q43_40, q43_41, q43_42, q43_43, q43_44, q43_47, q43_50, q43_53, q43_54, kl_int, kl_ref, kl_tok, cS_nil, cS_int, cS_ref, cS_long, tl_some, tl_none, List.cons_append, List.nil_append, nI_add, nI_ltb, nI_leb, nI_eqb, nI_cl, zin_nI, g1, zk0_inl, z1]
    have key : ∀ (m i : Nat) (x y : List CdS), lpW P b n 10 4 m i (x ++ y) = match lpW P b n 10 4 m i y with
        | .inl f => .inl f
        | .inr (st, i') => .inr (x ++ st, i') := by
      intro m
      induction m with
      | zero => intro i x y; rfl
      | succ m ih =>
        intro i x y
        rw [lpW, lpW]
        cases wm b n (sk b n i) 10
        · rfl
        · simp only [if_true]
          cases P (sk b n i + wln 10) with
          | inl f => rfl
          | inr w =>
            obtain ⟨st, i'⟩ := w
            show lpW P b n 10 4 m i' (x ++ y ++ st ++ [(4, 0, 0)]) = _
            rw [List.append_assoc x y st, List.append_assoc x (y ++ st), ih]
    obtain ⟨s1, s2⟩ := loop_43 (a := a) (lo := lo) (nst := nst) ha hS hR hlo (n - i1) i1 (d + 1) 0 M1 (acc ++ st) (Nat.le_refl _) (by omega) g2 (hF.cd ha g4.1) g3 (by omega) (by omega)
    rw [key] at s1 s2
    show (∀ st' i', lpW P b n 10 4 (n - i1) i1 st = .inr (st', i') → _) ∧ (∀ k p, lpW P b n 10 4 (n - i1) i1 st = .inl (k, p) → _)
    refine ⟨fun st' i' h => ?_, fun k p h => ?_⟩
    · rw [h] at s1
      obtain ⟨t1, t2, t3, t4, t5, M', t6, t7, t8, t9⟩ := s1 (acc ++ st') i' rfl
      rw [List.length_append, List.length_append] at t4 t5
      exact ⟨by omega, t2, by omega, M', by rw [e13]; exact t6, t7, t8, CdF.trans g4 t9⟩
    · rw [h] at s2
      obtain ⟨M', t6, t7⟩ := s2 k p rfl
      exact ⟨M', by rw [e13]; exact t6, CdE.after g4 t7⟩
theorem loop_42 {lo nst : Nat} {P : Nat → PR (List CdS)} (ha : isCl a) (hS : Sh R) (hR : CdR R b n a 43 lo nst P) (hlo : 4 ≤ lo) : ∀ (m i : Nat) (e more : Nat) (M : ZM) (acc : List CdS), n - i ≤ m → lo < e → PCx M b n i → FO M → ClR M a acc → 2 * acc.length ≤ i → 2 * more ≤ i →
    (∀ st i', lpW P b n 9 5 m i acc = .inr (st, i') → i ≤ i' ∧ i' ≤ n ∧ 2 * st.length ≤ i' ∧ acc.length ≤ st.length ∧ 2 * (st.length - acc.length) ≤ i' - i ∧ ∃ M', exe e 42 13 [.ref 92, .ref a, .int (nI nst), .int (nI more)] [] M R = some (.inl (some (.int (nI 1))), M', R) ∧ PCx M' b n i' ∧ ClR M' a st ∧ CdF a M M') ∧
    (∀ k p, lpW P b n 9 5 m i acc = .inl (k, p) → ∃ M', exe e 42 13 [.ref 92, .ref a, .int (nI nst), .int (nI more)] [] M R = some (.inl (some (.int (nI 0))), M', R) ∧ CdE a M M' k p) := by
  obtain ⟨nN, k92, k93, l93, k94, k95, l95, k96, l96, k97, l97, k98, k99, l99, k100, l100, k101, l101, k102, k103, l103, k104, l104, k105, l105, f92_0, f92_1, f94_0, f94_1, f94_2, f92_2, f98_0, f98_1, f98_2, f92_3, f102_0, f102_1, f102_2⟩ := parF hS
  have han := isCl_n ha
  obtain ⟨q1, -⟩ := clK hS ha
  have z1 : ¬ 1 = 0 := by decide
  intro m
  induction m with
  | zero =>
    intro i e more M acc hm he hP hF hC hl hmo
    obtain ⟨d, rfl⟩ : ∃ d, e = d + 5 := ⟨e - 5, by omega⟩
    have hn := hP.2.2.1
    have hi : i = n := by omega
    have hw := takeWord_ (d := d) (R := R) (a := 1000010) (j := 9) rfl (by decide) hS hF hP
    have hsk : sk b n i = i := sk_id (by omega)
    have c : wm b n (sk b n i) 9 = false := by
      cases q : wm b n (sk b n i) 9
      · rfl
      · have := wm_le q
        have l : 2 ≤ wln 9 := by decide
        omega
    rw [c] at hw
    simp only [Bool.false_eq_true, if_false] at hw
    refine ⟨fun st i' h => ?_, fun k p h => by cases h⟩
    have h2 : (Sum.inr (acc, sk b n i) : PR (List CdS)) = .inr (st, i') := h
    cases h2
    rw [hsk] at hw ⊢
    refine ⟨Nat.le_refl _, by omega, hl, Nat.le_refl _, by omega, atM M i, ?_, hP.mv (by omega), hC.fr (fun c h1 h2 => atM_c (by omega)), CdF.at⟩
    have z : ¬ 500 ≤ more := by omega
    rw [q42_13]
    simp (disch := first | assumption | exact nar_b0 | exact nar_b1 | exact nar_b | exact Or.inl rfl | exact Or.inr rfl | exact zin_t (by omega) (by omega) | exact Nat.le_of_ble_eq_true rfl | (rw [nI_cl (by omega)]; assumption) | omega) only [↓reduceIte, reduceCtorEq, not_true_eq_false, not_false_eq_true, q42_0, q42_1, q42_2, q42_3, q42_6, q42_9, q42_10, q42_11, q42_12, q42_14, q42_17, q42_20, q42_21, q42_23, q42_26, q42_29, q42_30, q42_31, q42_32, q42_35, q42_38, q42_39, q42_40, q42_41, q42_42, q42_43, q42_44, q42_47, q42_50, q42_53, q42_54, kl_int, kl_ref, kl_tok, cS_nil, cS_int, cS_ref, cS_long, tl_some, tl_none, List.cons_append, List.nil_append, nI_add, nI_ltb, nI_leb, nI_eqb, nI_cl, zin_nI, z, hw, zk0_inl, b2i_0]
  | succ m ih =>
    intro i e more M acc hm he hP hF hC hl hmo
    obtain ⟨d, rfl⟩ : ∃ d, e = d + 5 := ⟨e - 5, by omega⟩
    have hn := hP.2.2.1
    have hw := takeWord_ (d := d) (R := R) (a := 1000010) (j := 9) rfl (by decide) hS hF hP
    have hle := sk_le (b := b) hn.1
    have hge := sk_ge b n i
    have z : ¬ 500 ≤ more := by omega
    have l : 2 ≤ wln 9 := by decide
    cases c : wm b n (sk b n i) 9
    · rw [c] at hw
      simp only [Bool.false_eq_true, if_false] at hw
      have hpw : lpW P b n 9 5 (m + 1) i acc = .inr (acc, sk b n i) := by
        rw [lpW, c]
        rfl
      rw [hpw]
      refine ⟨fun st i' h => ?_, fun k p h => by cases h⟩
      cases h
      refine ⟨hge, hle, by omega, Nat.le_refl _, by omega, atM M (sk b n i), ?_, hP.mv hle, hC.fr (fun c h1 h2 => atM_c (by omega)), CdF.at⟩
      rw [q42_13]
      simp (disch := first | assumption | exact nar_b0 | exact nar_b1 | exact nar_b | exact Or.inl rfl | exact Or.inr rfl | exact zin_t (by omega) (by omega) | exact Nat.le_of_ble_eq_true rfl | (rw [nI_cl (by omega)]; assumption) | omega) only [↓reduceIte, reduceCtorEq, not_true_eq_false, not_false_eq_true, q42_0, q42_1, q42_2, q42_3, q42_6, q42_9, q42_10, q42_11, q42_12, q42_14, q42_17, q42_20, q42_21, q42_23, q42_26, q42_29, q42_30, q42_31, q42_32, q42_35, q42_38, q42_39, q42_40, q42_41, q42_42, q42_43, q42_44, q42_47, q42_50, q42_53, q42_54, kl_int, kl_ref, kl_tok, cS_nil, cS_int, cS_ref, cS_long, tl_some, tl_none, List.cons_append, List.nil_append, nI_add, nI_ltb, nI_leb, nI_eqb, nI_cl, zin_nI, z, hw, zk0_inl, b2i_0]
    · rw [c] at hw
      simp only [if_true] at hw
      have hwl := wm_le c
      have hP1 : PCx (atM M (sk b n i + wln 9)) b n (sk b n i + wln 9) := hP.mv hwl
      have hC1 : ClR (atM M (sk b n i + wln 9)) a acc := hC.fr (fun c h1 h2 => atM_c (by omega))
      have hF1 : FO (atM M (sk b n i + wln 9)) := hF.fr (fun c h => atM_c (by omega))
      obtain ⟨r1, r2⟩ := hR (d + 4) (atM M (sk b n i + wln 9)) (sk b n i + wln 9) acc (by omega) hP1 hF1 hC1 (by omega)
      have hpw : lpW P b n 9 5 (m + 1) i acc = match P (sk b n i + wln 9) with
        | .inl f => .inl f
        | .inr (st, i') => lpW P b n 9 5 m i' (acc ++ st ++ [(5, 0, 0)]) := by
        rw [lpW, c]
        rfl
      rw [hpw]
      cases hp : P (sk b n i + wln 9) with
      | inl f =>
        obtain ⟨k, p⟩ := f
        obtain ⟨M1, g1, g2⟩ := r2 k p hp
        refine ⟨fun st i' h => (by cases h), fun k' p' h => ?_⟩
        cases h
        refine ⟨M1, ?_, CdE.after CdF.at g2⟩
        rw [q42_13]
        simp (disch := first | assumption | exact nar_b0 | exact nar_b1 | exact nar_b | exact Or.inl rfl | exact Or.inr rfl | exact zin_t (by omega) (by omega) | exact Nat.le_of_ble_eq_true rfl | (rw [nI_cl (by omega)]; assumption) | omega) only [↓reduceIte, reduceCtorEq, not_true_eq_false, not_false_eq_true, q42_0, q42_1, q42_2, q42_3, q42_6, q42_9, q42_10, q42_11, q42_12, q42_14, q42_17, q42_20, q42_21, q42_23, q42_26, q42_29, q42_30, q42_31, q42_32, q42_35, q42_38, q42_39, q42_40, q42_41, q42_42, q42_43, q42_44, q42_47, q42_50, q42_53, q42_54, kl_int, kl_ref, kl_tok, cS_nil, cS_int, cS_ref, cS_long, tl_some, tl_none, List.cons_append, List.nil_append, nI_add, nI_ltb, nI_leb, nI_eqb, nI_cl, zin_nI, z, hw, zk0_inl, b2i_0, g1]
      | inr w =>
        obtain ⟨st, i1⟩ := w
        obtain ⟨p1, p2, p3, M1, g1, g2, g3, g4⟩ := r1 st i1 hp
        have hlen : (acc ++ st).length = acc.length + st.length := List.length_append
        have hadd := add_ (d := d + 4) (M := M1) (R := R) (s := nI 5) (l := nI 0) (r := nI 0) ha hS g3.1 (by omega)
        have i00 : nI 0 = iI 0 := rfl
        have hC2 : ClR (adM M1 a (acc ++ st).length (nI 5) (nI 0) (nI 0)) a (acc ++ st ++ [(5, 0, 0)]) := g3.add (k := 5) (l := 0) (r := 0)
        have f2 : CdF a M (adM M1 a (acc ++ st).length (nI 5) (nI 0) (nI 0)) := CdF.trans (CdF.trans CdF.at g4) ⟨fun c h1 h2 => adM_c h2, fun q h1 h2 => by rw [adM_c (by omega)]⟩
        have hP2 : PCx (adM M1 a (acc ++ st).length (nI 5) (nI 0) (nI 0)) b n i1 := g2.fr (by rw [adM_c (by omega)]) (by rw [adM_c (by omega)]) (by rw [adM_c (by omega)]) (adM_c (by omega))
        have hF2 : FO (adM M1 a (acc ++ st).length (nI 5) (nI 0) (nI 0)) := hF.cd ha f2.1
        have hl2 : (acc ++ st ++ [(5, 0, 0)]).length = acc.length + st.length + 1 := by simp; omega
        obtain ⟨s1, s2⟩ := ih i1 (d + 5) (more + 1) _ (acc ++ st ++ [(5, 0, 0)]) (by omega) he hP2 hF2 hC2 (by omega) (by omega)
        have est : exe (d + 5) 42 13 [.ref 92, .ref a, .int (nI nst), .int (nI more)] [] M R = exe (d + 5) 42 13 [.ref 92, .ref a, .int (nI nst), .int (nI (more + 1))] [] (adM M1 a (acc ++ st).length (nI 5) (nI 0) (nI 0)) R := by
          rw [q42_13]
          simp (disch := first | assumption | exact nar_b0 | exact nar_b1 | exact nar_b | exact Or.inl rfl | exact Or.inr rfl | exact zin_t (by omega) (by omega) | exact Nat.le_of_ble_eq_true rfl | (rw [nI_cl (by omega)]; assumption) | omega) only [↓reduceIte, reduceCtorEq, not_true_eq_false, not_false_eq_true, q42_0, q42_1, q42_2, q42_3, q42_6, q42_9, q42_10, q42_11, q42_12, q42_14, q42_17, q42_20, q42_21, q42_23, q42_26, q42_29, q42_30, q42_31, q42_32, q42_35, q42_38, q42_39, q42_40, q42_41, q42_42, q42_43, q42_44, q42_47, q42_50, q42_53, q42_54, kl_int, kl_ref, kl_tok, cS_nil, cS_int, cS_ref, cS_long, tl_some, tl_none, List.cons_append, List.nil_append, nI_add, nI_ltb, nI_leb, nI_eqb, nI_cl, zin_nI, z, hw, zk0_inl, b2i_0, g1, z1, hadd]
        refine ⟨fun st' i' h => ?_, fun k p h => ?_⟩
        · obtain ⟨t1, t2, t3, t4, t5, M', t6, t7, t8, t9⟩ := s1 st' i' h
          exact ⟨by omega, t2, t3, by omega, by omega, M', by rw [est]; exact t6, t7, t8, CdF.trans f2 t9⟩
        · obtain ⟨M', t6, t7⟩ := s2 k p h
          exact ⟨M', by rw [est]; exact t6, CdE.after f2 t7⟩
theorem cdR_42 {lo nst : Nat} {P : Nat → PR (List CdS)} (ha : isCl a) (hS : Sh R) (hR : CdR R b n a 43 lo nst P) (hlo : 4 ≤ lo) : CdR R b n a 42 (lo + 1) nst (pLoop P b n 9 5) := by
  intro e M i acc he hP hF hC hl
  obtain ⟨nN, k92, k93, l93, k94, k95, l95, k96, l96, k97, l97, k98, k99, l99, k100, l100, k101, l101, k102, k103, l103, k104, l104, k105, l105, f92_0, f92_1, f94_0, f94_1, f94_2, f92_2, f98_0, f98_1, f98_2, f92_3, f102_0, f102_1, f102_2⟩ := parF hS
  have han := isCl_n ha
  have hn := hP.2.2.1
  have z1 : ¬ 1 = 0 := by decide
  obtain ⟨d, rfl⟩ : ∃ d, e = d + 1 := ⟨e - 1, by omega⟩
  obtain ⟨r1, r2⟩ := hR d M i acc (by omega) hP hF hC hl
  unfold pLoop
  cases hp : P i with
  | inl f =>
    obtain ⟨k, p⟩ := f
    obtain ⟨M1, g1, g2⟩ := r2 k p hp
    refine ⟨fun st i' h => (by cases h), fun k' p' h => ?_⟩
    cases h
    refine ⟨M1, ?_, g2⟩
    rw [e42]
    simp (disch := first | assumption | exact nar_b0 | exact nar_b1 | exact nar_b | exact Or.inl rfl | exact Or.inr rfl | exact zin_t (by omega) (by omega) | exact Nat.le_of_ble_eq_true rfl | (rw [nI_cl (by omega)]; assumption) | omega) only [↓reduceIte, reduceCtorEq, not_true_eq_false, not_false_eq_true, q42_0, q42_1, q42_2, q42_3, q42_6, q42_9, q42_10, q42_11, q42_12, q42_14, q42_17, q42_20, q42_21, q42_23, q42_26, q42_29, q42_30, q42_31, q42_32, q42_35, q42_38, q42_39, q42_40, q42_41, q42_42, q42_43, q42_44, q42_47, q42_50, q42_53, q42_54, kl_int, kl_ref, kl_tok, cS_nil, cS_int, cS_ref, cS_long, tl_some, tl_none, List.cons_append, List.nil_append, nI_add, nI_ltb, nI_leb, nI_eqb, nI_cl, zin_nI, g1, zk0_inl]
  | inr w =>
    obtain ⟨st, i1⟩ := w
    obtain ⟨p1, p2, p3, M1, g1, g2, g3, g4⟩ := r1 st i1 hp
    have hlen : (acc ++ st).length = acc.length + st.length := List.length_append
    have e13 : cal (d + 1) 42 [.ref 92, .ref a, .int (nI nst)] M R = exe (d + 1) 42 13 [.ref 92, .ref a, .int (nI nst), .int (nI 0)] [] M1 R := by
      rw [e42]
      simp (disch := first | assumption | exact nar_b0 | exact nar_b1 | exact nar_b | exact Or.inl rfl | exact Or.inr rfl | exact zin_t (by omega) (by omega) | exact Nat.le_of_ble_eq_true rfl | (rw [nI_cl (by omega)]; assumption) | omega) only [↓reduceIte, reduceCtorEq, not_true_eq_false, not_false_eq_true, q42_0, q42_1, q42_2, q42_3, q42_6, q42_9, q42_10, q42_11, q42_12, q42_14, q42_17, q42_20, q42_21, q42_23, q42_26, q42_29, q42_30, q42_31, q42_32, q42_35, q42_38, q42_39, q42_40, q42_41, q42_42, q42_43, q42_44, q42_47, q42_50, q42_53, q42_54, kl_int, kl_ref, kl_tok, cS_nil, cS_int, cS_ref, cS_long, tl_some, tl_none, List.cons_append, List.nil_append, nI_add, nI_ltb, nI_leb, nI_eqb, nI_cl, zin_nI, g1, zk0_inl, z1]
    have key : ∀ (m i : Nat) (x y : List CdS), lpW P b n 9 5 m i (x ++ y) = match lpW P b n 9 5 m i y with
        | .inl f => .inl f
        | .inr (st, i') => .inr (x ++ st, i') := by
      intro m
      induction m with
      | zero => intro i x y; rfl
      | succ m ih =>
        intro i x y
        rw [lpW, lpW]
        cases wm b n (sk b n i) 9
        · rfl
        · simp only [if_true]
          cases P (sk b n i + wln 9) with
          | inl f => rfl
          | inr w =>
            obtain ⟨st, i'⟩ := w
            show lpW P b n 9 5 m i' (x ++ y ++ st ++ [(5, 0, 0)]) = _
            rw [List.append_assoc x y st, List.append_assoc x (y ++ st), ih]
    obtain ⟨s1, s2⟩ := loop_42 (a := a) (lo := lo) (nst := nst) ha hS hR hlo (n - i1) i1 (d + 1) 0 M1 (acc ++ st) (Nat.le_refl _) (by omega) g2 (hF.cd ha g4.1) g3 (by omega) (by omega)
    rw [key] at s1 s2
    show (∀ st' i', lpW P b n 9 5 (n - i1) i1 st = .inr (st', i') → _) ∧ (∀ k p, lpW P b n 9 5 (n - i1) i1 st = .inl (k, p) → _)
    refine ⟨fun st' i' h => ?_, fun k p h => ?_⟩
    · rw [h] at s1
      obtain ⟨t1, t2, t3, t4, t5, M', t6, t7, t8, t9⟩ := s1 (acc ++ st') i' rfl
      rw [List.length_append, List.length_append] at t4 t5
      exact ⟨by omega, t2, by omega, M', by rw [e13]; exact t6, t7, t8, CdF.trans g4 t9⟩
    · rw [h] at s2
      obtain ⟨M', t6, t7⟩ := s2 k p rfl
      exact ⟨M', by rw [e13]; exact t6, CdE.after g4 t7⟩
end Cf
