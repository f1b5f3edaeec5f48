-- strikes at once
def LSt (n k : Nat) : List Nat := (List.range (2 ^ n)).filter (fun S => decide (pop 10 S ≤ k))
theorem LSt_len0 : (List.range 11).all (fun n => (List.range 4).all (fun k => decide ((LSt n k).length ≤ 176))) = true := by decide +kernel
theorem LSt_len {n k : Nat} (hn : n ≤ 10) (hk : k ≤ 3) : (LSt n k).length ≤ 176 := by
  have h1 := List.all_eq_true.mp LSt_len0 n (List.mem_range.mpr (by omega))
  have h2 := List.all_eq_true.mp h1 k (List.mem_range.mpr (by omega))
  simpa using h2
theorem LSt_mem {n k S : Nat} : S ∈ LSt n k ↔ S < 2 ^ n ∧ pop 10 S ≤ k := by
  unfold LSt
  rw [List.mem_filter, List.mem_range, decide_eq_true_iff]
theorem pop_or2 (a b : Nat) : ∀ n, pop n (a ||| b) ≤ pop n a + pop n b := by
  intro n
  induction n with
  | zero => exact Nat.zero_le _
  | succ n ih =>
    unfold pop
    rw [Nat.testBit_or]
    cases a.testBit n <;> cases b.testBit n <;> simp <;> omega
def ArrL (M : ZM) (a : Nat) (l : List Nat) : Prop := ∀ (j : Nat) (h : j < l.length), M a j = nI l[j]
def mx (v : Nat → Int) (g : Nat) : List Nat → Int → Int
  | [], m => m
  | s :: l, m => mx v g l (if m < v (g ||| s) then v (g ||| s) else m)
theorem mx_spec (v : Nat → Int) (g : Nat) : ∀ (l : List Nat) (m : Int), m ≤ mx v g l m ∧ (∀ s ∈ l, v (g ||| s) ≤ mx v g l m) ∧ (mx v g l m = m ∨ ∃ s ∈ l, mx v g l m = v (g ||| s))
  | [], m => ⟨Int.le_refl _, fun s h => absurd h List.not_mem_nil, Or.inl rfl⟩
  | s :: l, m => by
    rw [mx]
    by_cases e : m < v (g ||| s)
    · rw [if_pos e]
      obtain ⟨h1, h2, h3⟩ := mx_spec v g l (v (g ||| s))
      refine ⟨by omega, fun t ht => ?_, ?_⟩
      · rcases List.mem_cons.mp ht with rfl | ht
        · exact h1
        · exact h2 t ht
      · rcases h3 with h3 | ⟨t, ht, h3⟩
        · exact Or.inr ⟨s, List.mem_cons_self, h3⟩
        · exact Or.inr ⟨t, List.mem_cons_of_mem _ ht, h3⟩
    · rw [if_neg e]
      obtain ⟨h1, h2, h3⟩ := mx_spec v g l m
      refine ⟨h1, fun t ht => ?_, ?_⟩
      · rcases List.mem_cons.mp ht with rfl | ht
        · omega
        · exact h2 t ht
      · rcases h3 with h3 | ⟨t, ht, h3⟩
        · exact Or.inl h3
        · exact Or.inr ⟨t, List.mem_cons_of_mem _ ht, h3⟩
theorem mx_eq {v : Nat → Int} {g a : Nat} {l : List Nat} (h0 : 0 ∈ l) (ha : a ∈ l) : (v (g ||| a) = mx v g l (v g)) ↔ ∀ s ∈ l, v (g ||| s) ≤ v (g ||| a) := by
  obtain ⟨h1, h2, h3⟩ := mx_spec v g l (v g)
  constructor
  · intro h s hs
    rw [h]
    exact h2 s hs
  · intro h
    have e1 := h2 a ha
    rcases h3 with h3 | ⟨s, hs, h3⟩
    · have := h 0 h0
      rw [Nat.or_zero] at this
      omega
    · have := h s hs
      omega
def rsP (LA LB : List Nat) (v0 v1 : Nat → Int) (a b : Nat) : Bool := decide (∀ s ∈ LA, v0 (b ||| s) ≤ v0 (b ||| a)) && decide (∀ s ∈ LB, v1 (a ||| s) ≤ v1 (a ||| b))
def RS (LA LB : List Nat) (v0 v1 : Nat → Int) (l : List Nat) : List (Nat × Nat) := l.flatMap (fun a => (LB.filter (rsP LA LB v0 v1 a)).map (fun b => (a, b)))
def AnsRel (M : ZM) (nums : List Nat) (v0 v1 : Nat → Int) (L : List (Nat × Nat)) : Prop := M 126 0 = nI L.length ∧ match L with
  | [] => M 126 1 = nob ∧ M 126 2 = nob ∧ M 126 3 = nob ∧ M 126 4 = nob
  | (a, b) :: _ => M 126 1 = nI (nmbI nums a 0) ∧ M 126 2 = nI (nmbI nums b 0) ∧ M 126 3 = iI (v0 (a ||| b)) ∧ M 126 4 = iI (v1 (a ||| b))
def vE (se sp : Nat) (Fl : List P3) (q S : Nat) : Int := sdV q (endV se sp (rem Fl S))
theorem KEs {R : ZH} (hS : Sh R) {s : Nat} (hs : s < 2) : zK R (120 + s) = 11 ∧ zLn R (120 + s) = 1024 ∧ zRf R 119 s = some (120 + s) := by
  rcases (show s = 0 ∨ s = 1 by omega) with rfl | rfl
  · exact ⟨Sh.K hS (by decide) (by decide +kernel), Sh.L hS (by decide) (by decide +kernel), Sh.F hS (by decide +kernel)⟩
  · exact ⟨Sh.K hS (by decide) (by decide +kernel), Sh.L hS (by decide) (by decide +kernel), Sh.F hS (by decide +kernel)⟩
theorem rng_split {S m N : Nat} (p : Nat → Bool) (h : S + m = N) : (List.range N).filter p = (List.range S).filter p ++ (List.range' S m).filter p := by
  rw [← List.filter_append]
  congr 1
  subst h
  rw [List.range_eq_range', List.range_eq_range', ← List.range'_append_1]
  simp
section On
variable {d se sp bx : Nat} {M : ZM} {R : ZH} {Fl : List P3}
theorem listSets_L {a n k : Nat} (hn : n ≤ 10) (hk : k ≤ 3) (hka : zK R a = 11) (hla : zLn R a = 176) (haN : a < zN R) : ∀ (m S : Nat) (M : ZM), S + m = 2 ^ n → ArrL M a ((List.range S).filter (fun S => decide (pop 10 S ≤ k))) → ∃ M', exe (d + 1) 2 5 [.ref a, .int (nI n), .int (nI k), .int (nI ((List.range S).filter (fun S => decide (pop 10 S ≤ k))).length), .int (nI S)] [] M R = some (.inl (some (.int (nI (LSt n k).length))), M', R) ∧ ArrL M' a (LSt n k) ∧ ∀ c, c ≠ a → M' c = M c := by
  have hp := pow10 hn
  have hlen := LSt_len hn hk
  intro m
  induction m with
  | zero =>
    intro S M hSm hA
    have e : S = 2 ^ n := by omega
    subst e
    refine ⟨M, ?_, hA, fun _ _ => rfl⟩
    rw [q2_5]
    simp (disch := first | assumption | exact nar_b0 | exact nar_b1 | exact nar_b | exact Or.inl rfl | exact Or.inr rfl | exact zin_t (by omega) (by omega) | exact Nat.le_of_ble_eq_true rfl | (rw [nI_cl (by omega)]; assumption) | omega) only [q2_0, q2_1, q2_2, q2_3, q2_7, q2_8, q2_9, q2_10, q2_13, q2_14, q2_17, q2_20, q2_22, q2_25, q2_26, q2_29, q2_30, q2_31, q2_33, q2_34, q2_37, q2_40, q2_43, q2_44, kl_int, kl_ref, kl_tok, cS_nil, cS_int, cS_ref, cS_long, tl_some, tl_none, List.cons_append, List.nil_append, nI_add, nI_ltb, nI_leb, nI_eqb, nI_cl, zin_nI, nI_shl, Nat.one_mul]
    rw [if_pos (Nat.le_refl _)]
    rfl
  | succ m ih =>
    intro S M hSm hA
    have hsp := rng_split (fun S => decide (pop 10 S ≤ k)) hSm
    have hl1 : (LSt n k).length = ((List.range S).filter (fun S => decide (pop 10 S ≤ k))).length + ((List.range' S (m + 1)).filter (fun S => decide (pop 10 S ≤ k))).length := by
      unfold LSt
      rw [hsp, List.length_append]
    have hbc := bitCount_ (d := d) (S := S) (M := M) (R := R) (by omega)
    have hpo := pop_le S 10
    have hrs : List.range (S + 1) = List.range S ++ [S] := List.range_succ
    by_cases h176 : 176 ≤ ((List.range S).filter (fun S => decide (pop 10 S ≤ k))).length
    · have hnil : (List.range' S (m + 1)).filter (fun S => decide (pop 10 S ≤ k)) = [] := List.eq_nil_of_length_eq_zero (by omega)
      have hLS : LSt n k = (List.range S).filter (fun S => decide (pop 10 S ≤ k)) := by
        unfold LSt
        rw [hsp, hnil, List.append_nil]
      rw [hLS]
      refine ⟨M, ?_, hA, fun _ _ => rfl⟩
      have hb : ((List.range S).filter (fun S => decide (pop 10 S ≤ k))).length < 1000 := by omega
      rw [q2_5]
      simp (disch := first | assumption | exact nar_b0 | exact nar_b1 | exact nar_b | exact Or.inl rfl | exact Or.inr rfl | exact zin_t (by omega) (by omega) | exact Nat.le_of_ble_eq_true rfl | (rw [nI_cl (by omega)]; assumption) | omega) only [q2_0, q2_1, q2_2, q2_3, q2_7, q2_8, q2_9, q2_10, q2_13, q2_14, q2_17, q2_20, q2_22, q2_25, q2_26, q2_29, q2_30, q2_31, q2_33, q2_34, q2_37, q2_40, q2_43, q2_44, kl_int, kl_ref, kl_tok, cS_nil, cS_int, cS_ref, cS_long, tl_some, tl_none, List.cons_append, List.nil_append, nI_add, nI_ltb, nI_leb, nI_eqb, nI_cl, zin_nI, nI_shl, Nat.one_mul]
      rw [if_neg (by omega), if_pos h176]
    · by_cases hle : pop 10 S ≤ k
      · have hfl : (List.range (S + 1)).filter (fun S => decide (pop 10 S ≤ k)) = (List.range S).filter (fun S => decide (pop 10 S ≤ k)) ++ [S] := by
          rw [hrs, List.filter_append]
          simp [hle]
        have hA1 : ArrL (up2 M a ((List.range S).filter (fun S => decide (pop 10 S ≤ k))).length (nI S)) a ((List.range (S + 1)).filter (fun S => decide (pop 10 S ≤ k))) := by
          intro j hj
          simp only [hfl] at hj ⊢
          rw [List.length_append, List.length_singleton] at hj
          by_cases e : j = ((List.range S).filter (fun S => decide (pop 10 S ≤ k))).length
          · subst e
            rw [up2_at]
            simp
          · rw [up2_s e, List.getElem_append_left (by omega)]
            exact hA j (by omega)
        obtain ⟨M', g1, g2, g3⟩ := ih (S + 1) _ (by omega) hA1
        refine ⟨M', ?_, g2, fun c h => by rw [g3 c h, up2_ne h]⟩
        rw [← g1, hfl, List.length_append, List.length_singleton]
        rw [q2_5]
        simp (disch := first | assumption | exact nar_b0 | exact nar_b1 | exact nar_b | exact Or.inl rfl | exact Or.inr rfl | exact zin_t (by omega) (by omega) | exact Nat.le_of_ble_eq_true rfl | (rw [nI_cl (by omega)]; assumption) | omega) only [q2_0, q2_1, q2_2, q2_3, q2_7, q2_8, q2_9, q2_10, q2_13, q2_14, q2_17, q2_20, q2_22, q2_25, q2_26, q2_29, q2_30, q2_31, q2_33, q2_34, q2_37, q2_40, q2_43, q2_44, kl_int, kl_ref, kl_tok, cS_nil, cS_int, cS_ref, cS_long, tl_some, tl_none, List.cons_append, List.nil_append, nI_add, nI_ltb, nI_leb, nI_eqb, nI_cl, zin_nI, nI_shl, Nat.one_mul, hbc, zk0_inl]
        rw [if_neg (by omega), if_neg h176, if_neg (by omega)]
      · have hfl : (List.range (S + 1)).filter (fun S => decide (pop 10 S ≤ k)) = (List.range S).filter (fun S => decide (pop 10 S ≤ k)) := by
          rw [hrs, List.filter_append]
          simp [hle]
        obtain ⟨M', g1, g2, g3⟩ := ih (S + 1) M (by omega) (by rw [hfl]; exact hA)
        refine ⟨M', ?_, g2, g3⟩
        rw [← g1, hfl]
        rw [q2_5]
        simp (disch := first | assumption | exact nar_b0 | exact nar_b1 | exact nar_b | exact Or.inl rfl | exact Or.inr rfl | exact zin_t (by omega) (by omega) | exact Nat.le_of_ble_eq_true rfl | (rw [nI_cl (by omega)]; assumption) | omega) only [q2_0, q2_1, q2_2, q2_3, q2_7, q2_8, q2_9, q2_10, q2_13, q2_14, q2_17, q2_20, q2_22, q2_25, q2_26, q2_29, q2_30, q2_31, q2_33, q2_34, q2_37, q2_40, q2_43, q2_44, kl_int, kl_ref, kl_tok, cS_nil, cS_int, cS_ref, cS_long, tl_some, tl_none, List.cons_append, List.nil_append, nI_add, nI_ltb, nI_leb, nI_eqb, nI_cl, zin_nI, nI_shl, Nat.one_mul, hbc, zk0_inl]
        rw [if_neg (by omega), if_neg h176, if_pos (by omega)]
theorem listSets_ {a n k : Nat} (hn : n ≤ 10) (hk : k ≤ 3) (hka : zK R a = 11) (hla : zLn R a = 176) (haN : a < zN R) : ∃ M', cal (d + 1) 2 [.ref a, .int (nI n), .int (nI k)] M R = some (.inl (some (.int (nI (LSt n k).length))), M', R) ∧ ArrL M' a (LSt n k) ∧ ∀ c, c ≠ a → M' c = M c := by
  obtain ⟨M', g1, g2, g3⟩ := listSets_L (d := d) hn hk hka hla haN (2 ^ n) 0 M (by omega) (fun j h => absurd h (Nat.not_lt_zero _))
  refine ⟨M', ?_, g2, g3⟩
  rw [← g1, e2]
  simp (disch := first | assumption | exact nar_b0 | exact nar_b1 | exact nar_b | exact Or.inl rfl | exact Or.inr rfl | exact zin_t (by omega) (by omega) | exact Nat.le_of_ble_eq_true rfl | (rw [nI_cl (by omega)]; assumption) | omega) only [q2_0, q2_1, q2_2, q2_3, q2_7, q2_8, q2_9, q2_10, q2_13, q2_14, q2_17, q2_20, q2_22, q2_25, q2_26, q2_29, q2_30, q2_31, q2_33, q2_34, q2_37, q2_40, q2_43, q2_44, kl_int, kl_ref, kl_tok, cS_nil, cS_int, cS_ref, cS_long, tl_some, tl_none, List.cons_append, List.nil_append, nI_add, nI_ltb, nI_leb, nI_eqb, nI_cl, zin_nI]
  rfl
theorem mostWith_L {g w a : Nat} {l : List Nat} {v : Nat → Int} (hg : g < 1024) (hl : l.length ≤ 176) (hkw : zK R w = 11) (hlw : zLn R w = 1024) (hka : zK R a = 11) (hla : zLn R a = 176) (hA : ArrL M a l) (hv : ∀ s ∈ l, g ||| s < 1024 ∧ M w (g ||| s) = iI (v (g ||| s)) ∧ -100000 ≤ v (g ||| s) ∧ v (g ||| s) ≤ 100000) : ∀ (m i : Nat) (b : Int), i + m = l.length → -100000 ≤ b ∧ b ≤ 100000 → exe d 3 8 [.int (nI g), .ref w, .ref a, .int (nI l.length), .int (iI b), .int (nI i)] [] M R = some (.inl (some (.int (iI (mx v g (l.drop i) b)))), M, R) := by
  intro m
  induction m with
  | zero =>
    intro i b hi hb
    rw [q3_8]
    simp (disch := first | assumption | exact nar_b0 | exact nar_b1 | exact nar_b | exact Or.inl rfl | exact Or.inr rfl | exact zin_t (by omega) (by omega) | exact Nat.le_of_ble_eq_true rfl | (rw [nI_cl (by omega)]; assumption) | omega) only [q3_0, q3_1, q3_2, q3_3, q3_5, q3_6, q3_10, q3_11, q3_14, q3_16, q3_17, q3_18, q3_19, q3_21, q3_22, q3_23, q3_24, q3_27, q3_29, q3_32, q3_35, q3_37, kl_int, kl_ref, kl_tok, cS_nil, cS_int, cS_ref, cS_long, tl_some, tl_none, List.cons_append, List.nil_append, nI_add, nI_ltb, nI_leb, nI_eqb, nI_cl, zin_nI]
    rw [if_pos (by omega), List.drop_eq_nil_of_le (by omega)]
    rfl
  | succ m ih =>
    intro i b hi hb
    have hai := hA i (by omega)
    obtain ⟨v1, v2, v3, v4⟩ := hv l[i] (List.getElem_mem _)
    have gg := ih (i + 1) (if b < v (g ||| l[i]) then v (g ||| l[i]) else b) (by omega) (by split <;> omega)
    rw [q3_8]
    simp (disch := first | assumption | exact nar_b0 | exact nar_b1 | exact nar_b | exact Or.inl rfl | exact Or.inr rfl | exact zin_t (by omega) (by omega) | exact Nat.le_of_ble_eq_true rfl | (rw [nI_cl (by omega)]; assumption) | omega) only [q3_0, q3_1, q3_2, q3_3, q3_5, q3_6, q3_10, q3_11, q3_14, q3_16, q3_17, q3_18, q3_19, q3_21, q3_22, q3_23, q3_24, q3_27, q3_29, q3_32, q3_35, q3_37, kl_int, kl_ref, kl_tok, cS_nil, cS_int, cS_ref, cS_long, tl_some, tl_none, List.cons_append, List.nil_append, nI_add, nI_ltb, nI_leb, nI_eqb, nI_cl, zin_nI, hai, nI_or, v2, iI_ltb]
    rw [if_neg (by omega), List.drop_eq_getElem_cons (show i < l.length by omega), mx, ← gg]
    split <;> rfl
theorem mostWith_ {g w a : Nat} {l : List Nat} {v : Nat → Int} (hg : g < 1024) (hl : l.length ≤ 176) (hkw : zK R w = 11) (hlw : zLn R w = 1024) (hka : zK R a = 11) (hla : zLn R a = 176) (hA : ArrL M a l) (hv : ∀ s ∈ l, g ||| s < 1024 ∧ M w (g ||| s) = iI (v (g ||| s)) ∧ -100000 ≤ v (g ||| s) ∧ v (g ||| s) ≤ 100000) (hv0 : M w g = iI (v g) ∧ -100000 ≤ v g ∧ v g ≤ 100000) : cal d 3 [.int (nI g), .ref w, .ref a, .int (nI l.length)] M R = some (.inl (some (.int (iI (mx v g l (v g))))), M, R) := by
  have h := mostWith_L (d := d) hg hl hkw hlw hka hla hA hv l.length 0 (v g) (by omega) hv0.2
  rw [List.drop_zero] at h
  rw [e3]
  simp (disch := first | assumption | exact nar_b0 | exact nar_b1 | exact nar_b | exact Or.inl rfl | exact Or.inr rfl | exact zin_t (by omega) (by omega) | exact Nat.le_of_ble_eq_true rfl | (rw [nI_cl (by omega)]; assumption) | omega) only [q3_0, q3_1, q3_2, q3_3, q3_5, q3_6, q3_10, q3_11, q3_14, q3_16, q3_17, q3_18, q3_19, q3_21, q3_22, q3_23, q3_24, q3_27, q3_29, q3_32, q3_35, q3_37, kl_int, kl_ref, kl_tok, cS_nil, cS_int, cS_ref, cS_long, tl_some, tl_none, List.cons_append, List.nil_append, nI_add, nI_ltb, nI_leb, nI_eqb, nI_cl, zin_nI, hv0.1]
  exact h
end On
