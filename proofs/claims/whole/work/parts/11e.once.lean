-- the reference: strikes at once
def lfo (s B : Nat) (t : Nat) : Nat := if s = 1 then pop t B else t - pop t B
theorem pop_n {B : Nat} : ∀ t, pop t B ≤ t := fun t => pop_le B t
theorem lfo_step {s B t : Nat} (hs : s < 2) : lfo s B (t + 1) = lfo s B t + if sbit B t = s then 1 else 0 := by
  have h := pop_le B t
  have e : pop (t + 1) B = pop t B + if B.testBit t then 1 else 0 := rfl
  unfold lfo sbit
  rw [e]
  rcases (show s = 0 ∨ s = 1 by omega) with rfl | rfl
  · cases B.testBit t <;> simp
    omega
  · cases B.testBit t <;> simp
theorem lfo_le {s B t : Nat} : lfo s B t ≤ t := by
  have h := pop_le B t
  unfold lfo
  split <;> omega
theorem kern_ok : (List.range 1024).all (fun x => x == 0 || decide (pop 10 (x &&& (x - 1)) + 1 = pop 10 x)) = true := by decide +kernel
theorem kern {x : Nat} (h : x < 1024) (h0 : x ≠ 0) : pop 10 (x &&& (x - 1)) + 1 = pop 10 x := by
  have := List.all_eq_true.mp kern_ok x (List.mem_range.mpr h)
  simpa [h0] using this
theorem pop_pos {x : Nat} : ∀ n, pop n x = 0 → x < 2 ^ n → x = 0
  | 0, _, h => by omega
  | n + 1, h, hx => by
    unfold pop at h
    have hb : x.testBit n = false := by
      cases hb : x.testBit n
      · rfl
      · rw [hb] at h; simp at h
    have h2 : x < 2 ^ n := by
      apply Nat.lt_pow_two_of_testBit
      intro i hi
      by_cases e : i = n
      · subst e; exact hb
      · exact lt_bit hx (by omega)
    exact pop_pos n (by omega) h2
section Nm
variable {d se sp bx : Nat} {M : ZM} {R : ZH} {Rw : List P3} {ts : List Nat}
theorem leftOf_L {s B T : Nat} (hs : s < 2) (hT : T ≤ 8) (hB : B < 1024) (hS : Sh R) (h5 : M 129 5 = nI T) (h6 : M 129 6 = nI B) : ∀ (m t : Nat), t + m = T → exe d 182 4 [.ref 127, .int (nI s), .int (nI (lfo s B t)), .int (nI t)] [] M R = some (.inl (some (.int (nI (lfo s B T)))), M, R) := by
  obtain ⟨nN, k127, k128, l128, k129, l129, k130, l130, k131, l131, k132, l132, k133, l133, k134, l134, k135, l135, k136, l136, k137, l137, k138, l138, k139, l139, k140, l140, k141, l141, k142, l142, k143, l143, k144, l144, k145, l145, k146, l146, f127_1, f127_2, f127_3, f127_4, f127_6, f127_7, f127_17, f127_18, f127_19, f127_22, f127_24, f127_25, f127_26, f127_29, f127_30, f127_31, f127_32, f127_33⟩ := modF hS
  intro m
  induction m with
  | zero =>
    intro t ht
    rw [q182_4]
    simp (disch := first | assumption | exact nar_b0 | exact nar_b1 | exact nar_b | exact Or.inl rfl | exact Or.inr rfl | exact zin_t (by omega) (by omega) | exact Nat.le_of_ble_eq_true rfl | (rw [nI_cl (by omega)]; assumption) | omega) only [q182_0, q182_1, q182_2, q182_3, q182_5, q182_6, q182_9, q182_10, q182_11, q182_14, q182_15, q182_16, q182_19, q182_21, q182_22, q182_23, q182_24, q182_25, q182_26, q182_27, q182_30, q182_31, q182_34, q182_35, q182_36, q182_37, q182_40, q182_43, q182_44, kl_int, kl_ref, kl_tok, cS_nil, cS_int, cS_ref, cS_long, tl_some, tl_none, List.cons_append, List.nil_append, nI_add, nI_ltb, nI_leb, nI_eqb, nI_cl, zin_nI, h5]
    rw [if_pos (by omega), show t = T by omega]
  | succ m ih =>
    intro t ht
    have g := ih (t + 1) (by omega)
    have hsb := sbit2 B t
    have hle := lfo_le (s := s) (B := B) (t := t)
    rw [lfo_step hs] at g
    rw [q182_4]
    simp (disch := first | assumption | exact nar_b0 | exact nar_b1 | exact nar_b | exact Or.inl rfl | exact Or.inr rfl | exact zin_t (by omega) (by omega) | exact Nat.le_of_ble_eq_true rfl | (rw [nI_cl (by omega)]; assumption) | omega) only [q182_0, q182_1, q182_2, q182_3, q182_5, q182_6, q182_9, q182_10, q182_11, q182_14, q182_15, q182_16, q182_19, q182_21, q182_22, q182_23, q182_24, q182_25, q182_26, q182_27, q182_30, q182_31, q182_34, q182_35, q182_36, q182_37, q182_40, q182_43, q182_44, kl_int, kl_ref, kl_tok, cS_nil, cS_int, cS_ref, cS_long, tl_some, tl_none, List.cons_append, List.nil_append, nI_add, nI_ltb, nI_leb, nI_eqb, nI_cl, zin_nI, h5, h6, tbit, b2s]
    rw [if_neg (by omega)]
    by_cases e : sbit B t = s
    · simpa [e] using g
    · simpa [e] using g
theorem leftOf_ {s B T : Nat} (hs : s < 2) (hT : T ≤ 8) (hB : B < 1024) (hS : Sh R) (h5 : M 129 5 = nI T) (h6 : M 129 6 = nI B) : cal d 182 [.ref 127, .int (nI s)] M R = some (.inl (some (.int (nI (lfo s B T)))), M, R) := by
  rw [e182]
  simp (disch := first | assumption | exact nar_b0 | exact nar_b1 | exact nar_b | exact Or.inl rfl | exact Or.inr rfl | exact zin_t (by omega) (by omega) | exact Nat.le_of_ble_eq_true rfl | (rw [nI_cl (by omega)]; assumption) | omega) only [q182_0, q182_1, q182_2, q182_3, q182_5, q182_6, q182_9, q182_10, q182_11, q182_14, q182_15, q182_16, q182_19, q182_21, q182_22, q182_23, q182_24, q182_25, q182_26, q182_27, q182_30, q182_31, q182_34, q182_35, q182_36, q182_37, q182_40, q182_43, q182_44, kl_int, kl_ref, kl_tok, cS_nil, cS_int, cS_ref, cS_long, tl_some, tl_none, List.cons_append, List.nil_append, nI_add, nI_ltb, nI_leb, nI_eqb, nI_cl, zin_nI]
  have := leftOf_L (d := d) hs hT hB hS h5 h6 T 0 (by omega)
  have e : lfo s B 0 = 0 := by unfold lfo; split <;> rfl
  rw [e] at this
  exact this
theorem bits_L {x : Int32} : ∀ (m l n : Nat), pop 10 l = m → l < 1024 → n + m < 1000 → exe d 183 4 [.int x, .int (nI n), .int (nI l)] [] M R = some (.inl (some (.int (nI (n + m)))), M, R) := by
  intro m
  induction m with
  | zero =>
    intro l n hp hl hn
    have e := pop_pos 10 hp hl
    subst e
    rw [q183_4]
    simp (disch := first | assumption | exact nar_b0 | exact nar_b1 | exact nar_b | exact Or.inl rfl | exact Or.inr rfl | exact zin_t (by omega) (by omega) | exact Nat.le_of_ble_eq_true rfl | (rw [nI_cl (by omega)]; assumption) | omega) only [↓reduceIte, reduceCtorEq, not_true_eq_false, not_false_eq_true, q183_0, q183_1, q183_2, q183_3, q183_5, q183_8, q183_11, q183_12, q183_13, q183_14, q183_15, q183_16, q183_17, q183_20, q183_21, kl_int, kl_ref, kl_tok, cS_nil, cS_int, cS_ref, cS_long, tl_some, tl_none, List.cons_append, List.nil_append, nI_add, nI_ltb, nI_leb, nI_eqb, nI_cl, zin_nI]
    rfl
  | succ m ih =>
    intro l n hp hl hn
    have h0 : l ≠ 0 := by
      intro e
      subst e
      rw [pop_zero] at hp
      omega
    have hk := kern hl h0
    have hand : l &&& (l - 1) ≤ l := Nat.and_le_left
    have hpl := pop_le l 10
    have g := ih (l &&& (l - 1)) (n + 1) (by omega) (by omega) (by omega)
    have e1 : ¬ l = 0 := h0
    rw [q183_4]
    simp (disch := first | assumption | exact nar_b0 | exact nar_b1 | exact nar_b | exact Or.inl rfl | exact Or.inr rfl | exact zin_t (by omega) (by omega) | exact Nat.le_of_ble_eq_true rfl | (rw [nI_cl (by omega)]; assumption) | omega) only [↓reduceIte, reduceCtorEq, not_true_eq_false, not_false_eq_true, q183_0, q183_1, q183_2, q183_3, q183_5, q183_8, q183_11, q183_12, q183_13, q183_14, q183_15, q183_16, q183_17, q183_20, q183_21, kl_int, kl_ref, kl_tok, cS_nil, cS_int, cS_ref, cS_long, tl_some, tl_none, List.cons_append, List.nil_append, nI_add, nI_ltb, nI_leb, nI_eqb, nI_cl, zin_nI, nI_sub1, nI_and, e1]
    rw [g, show n + 1 + m = n + (m + 1) by omega]
theorem bits_ {S : Nat} (hSt : S < 1024) : cal d 183 [.int (nI S)] M R = some (.inl (some (.int (nI (pop 10 S)))), M, R) := by
  rw [e183]
  simp (disch := first | assumption | exact nar_b0 | exact nar_b1 | exact nar_b | exact Or.inl rfl | exact Or.inr rfl | exact zin_t (by omega) (by omega) | exact Nat.le_of_ble_eq_true rfl | (rw [nI_cl (by omega)]; assumption) | omega) only [q183_0, q183_1, q183_2, q183_3, q183_5, q183_8, q183_11, q183_12, q183_13, q183_14, q183_15, q183_16, q183_17, q183_20, q183_21, kl_int, kl_ref, kl_tok, cS_nil, cS_int, cS_ref, cS_long, tl_some, tl_none, List.cons_append, List.nil_append, nI_add, nI_ltb, nI_leb, nI_eqb, nI_cl, zin_nI]
  have := bits_L (d := d) (M := M) (R := R) (x := nI S) (pop 10 S) S 0 rfl hSt (by have := pop_le S 10; omega)
  rw [Nat.zero_add] at this
  exact this
def cnm (S0 k S : Nat) : Bool := decide (S &&& S0 = 0) && decide (pop 10 S ≤ k)
theorem canName_ {s B T S S0 : Nat} (hs : s < 2) (hT : T ≤ 8) (hB : B < 1024) (hSt : S < 1024) (hS0 : S0 < 1024) (hS : Sh R) (h5 : M 129 5 = nI T) (h6 : M 129 6 = nI B) : cal (d + 1) 184 [.ref 127, .int (nI S), .int (nI S0), .int (nI s)] M R = some (.inl (some (.int (b2i (cnm S0 (lfo s B T) S)))), M, R) := by
  obtain ⟨nN, k127, k128, l128, k129, l129, k130, l130, k131, l131, k132, l132, k133, l133, k134, l134, k135, l135, k136, l136, k137, l137, k138, l138, k139, l139, k140, l140, k141, l141, k142, l142, k143, l143, k144, l144, k145, l145, k146, l146, f127_1, f127_2, f127_3, f127_4, f127_6, f127_7, f127_17, f127_18, f127_19, f127_22, f127_24, f127_25, f127_26, f127_29, f127_30, f127_31, f127_32, f127_33⟩ := modF hS
  have c1 := bits_ (d := d) (M := M) (R := R) hSt
  have c2 := leftOf_ (d := d) (M := M) (R := R) hs hT hB hS h5 h6
  have hand : S &&& S0 ≤ S := Nat.and_le_left
  have hpl := pop_le S 10
  have hle := lfo_le (s := s) (B := B) (t := T)
  rw [e184]
  simp (disch := first | assumption | exact nar_b0 | exact nar_b1 | exact nar_b | exact Or.inl rfl | exact Or.inr rfl | exact zin_t (by omega) (by omega) | exact Nat.le_of_ble_eq_true rfl | (rw [nI_cl (by omega)]; assumption) | omega) only [q184_0, q184_1, q184_2, q184_3, q184_6, q184_7, q184_10, q184_11, q184_12, q184_15, q184_18, q184_19, q184_22, q184_23, kl_int, kl_ref, kl_tok, cS_nil, cS_int, cS_ref, cS_long, tl_some, tl_none, List.cons_append, List.nil_append, nI_add, nI_ltb, nI_leb, nI_eqb, nI_cl, zin_nI, nI_and, c1, c2, zk0_inl]
  unfold cnm
  by_cases e1 : S &&& S0 = 0
  · by_cases e2 : pop 10 S ≤ lfo s B T
    · simp [e1, e2, show ¬ lfo s B T < pop 10 S by omega, b2i]
    · simp [e1, e2, show lfo s B T < pop 10 S by omega, b2i]
  · simp [e1, b2i]
theorem numbers_L {S : Nat} (hSt : S < 1024) (hS : Sh R) (hG : GmR M se sp bx Rw ts) : ∀ (m i u : Nat), i + m = Rw.length → exe (d + 1) 185 4 [.ref 127, .int (nI S), .int (nI u), .int (nI i)] [] M R = some (.inl (some (.int (nI (u ||| nmbI ((Rw.drop i).map (fun p => p.1)) S i)))), M, R) := by
  obtain ⟨nN, k127, k128, l128, k129, l129, k130, l130, k131, l131, k132, l132, k133, l133, k134, l134, k135, l135, k136, l136, k137, l137, k138, l138, k139, l139, k140, l140, k141, l141, k142, l142, k143, l143, k144, l144, k145, l145, k146, l146, f127_1, f127_2, f127_3, f127_4, f127_6, f127_7, f127_17, f127_18, f127_19, f127_22, f127_24, f127_25, f127_26, f127_29, f127_30, f127_31, f127_32, f127_33⟩ := modF hS
  have h2 := hG.1
  have hl := hG.2.2.2.1
  intro m
  induction m with
  | zero =>
    intro i u hi
    rw [q185_4]
    simp (disch := first | assumption | exact nar_b0 | exact nar_b1 | exact nar_b | exact Or.inl rfl | exact Or.inr rfl | exact zin_t (by omega) (by omega) | exact Nat.le_of_ble_eq_true rfl | (rw [nI_cl (by omega)]; assumption) | omega) only [q185_0, q185_1, q185_2, q185_3, q185_5, q185_6, q185_9, q185_12, q185_13, q185_14, q185_15, q185_18, q185_21, q185_22, q185_23, q185_26, q185_27, q185_28, q185_29, q185_32, q185_33, q185_34, q185_35, q185_38, q185_41, q185_42, kl_int, kl_ref, kl_tok, cS_nil, cS_int, cS_ref, cS_long, tl_some, tl_none, List.cons_append, List.nil_append, nI_add, nI_ltb, nI_leb, nI_eqb, nI_cl, zin_nI, h2.1]
    rw [if_pos (by omega), List.drop_eq_nil_of_le (by omega)]
    simp [nmbI]
  | succ m ih =>
    intro i u hi
    have hw := (hG.2.1 i (by omega)).1
    have hb := (hG.2.2.2.2.1 Rw[i] (List.getElem_mem (by omega))).1
    have hh := has_ (d := d) (M := M) (R := R) (S := S) (k := i) (by omega) (by omega)
    rw [q185_4]
    simp (disch := first | assumption | exact nar_b0 | exact nar_b1 | exact nar_b | exact Or.inl rfl | exact Or.inr rfl | exact zin_t (by omega) (by omega) | exact Nat.le_of_ble_eq_true rfl | (rw [nI_cl (by omega)]; assumption) | omega) only [q185_0, q185_1, q185_2, q185_3, q185_5, q185_6, q185_9, q185_12, q185_13, q185_14, q185_15, q185_18, q185_21, q185_22, q185_23, q185_26, q185_27, q185_28, q185_29, q185_32, q185_33, q185_34, q185_35, q185_38, q185_41, q185_42, kl_int, kl_ref, kl_tok, cS_nil, cS_int, cS_ref, cS_long, tl_some, tl_none, List.cons_append, List.nil_append, nI_add, nI_ltb, nI_leb, nI_eqb, nI_cl, zin_nI, h2.1, hh, zk0_inl, b2i_0, hw, nI_shl, Nat.one_mul, nI_or, ih]
    rw [if_neg (by omega), List.drop_eq_getElem_cons (show i < Rw.length by omega), List.map_cons, nmbI]
    cases S.testBit i <;> simp [Nat.or_assoc]
theorem numbers_ {S : Nat} (hSt : S < 1024) (hS : Sh R) (hG : GmR M se sp bx Rw ts) : cal (d + 1) 185 [.ref 127, .int (nI S)] M R = some (.inl (some (.int (nI (nmbI (Rw.map (fun p => p.1)) S 0)))), M, R) := by
  rw [e185]
  simp (disch := first | assumption | exact nar_b0 | exact nar_b1 | exact nar_b | exact Or.inl rfl | exact Or.inr rfl | exact zin_t (by omega) (by omega) | exact Nat.le_of_ble_eq_true rfl | (rw [nI_cl (by omega)]; assumption) | omega) only [q185_0, q185_1, q185_2, q185_3, q185_5, q185_6, q185_9, q185_12, q185_13, q185_14, q185_15, q185_18, q185_21, q185_22, q185_23, q185_26, q185_27, q185_28, q185_29, q185_32, q185_33, q185_34, q185_35, q185_38, q185_41, q185_42, kl_int, kl_ref, kl_tok, cS_nil, cS_int, cS_ref, cS_long, tl_some, tl_none, List.cons_append, List.nil_append, nI_add, nI_ltb, nI_leb, nI_eqb, nI_cl, zin_nI]
  have h := numbers_L (d := d) hSt hS hG Rw.length 0 0 (by omega)
  rw [Nat.zero_or, List.drop_zero] at h
  exact h
end Nm
-- numbers rise with places
def nmbN (num : Nat → Nat) (S : Nat) : Nat → Nat
  | 0 => 0
  | n + 1 => nmbN num S n ||| (if S.testBit n then 2 ^ num n else 0)
theorem nmbN_lt {num : Nat → Nat} {S x : Nat} : ∀ n, (∀ k, k < n → num k < x) → nmbN num S n < 2 ^ x
  | 0, _ => Nat.two_pow_pos _
  | n + 1, h => by
    unfold nmbN
    refine Nat.or_lt_two_pow (nmbN_lt n (fun k hk => h k (by omega))) ?_
    split
    · exact Nat.pow_lt_pow_right (by decide) (h n (by omega))
    · exact Nat.two_pow_pos _
theorem mod2s (x n : Nat) : x % 2 ^ (n + 1) = x % 2 ^ n + if x.testBit n then 2 ^ n else 0 := by
  rw [Nat.pow_succ, Nat.mod_mul, Nat.testBit_eq_decide_div_mod_eq]
  rcases Nat.mod_two_eq_zero_or_one (x / 2 ^ n) with h | h <;> simp [h]
theorem nmbN_mono {num : Nat → Nat} {S T : Nat} : ∀ n, (∀ i j, i < j → j < n → num i < num j) → S % 2 ^ n < T % 2 ^ n → nmbN num S n < nmbN num T n
  | 0, _, h => by simp [Nat.mod_one] at h
  | n + 1, hm, h => by
    have e1 := mod2s S n
    have e2 := mod2s T n
    rw [e1, e2] at h
    have b1 : S % 2 ^ n < 2 ^ n := Nat.mod_lt _ (Nat.two_pow_pos _)
    have b2 : T % 2 ^ n < 2 ^ n := Nat.mod_lt _ (Nat.two_pow_pos _)
    have l1 := nmbN_lt (num := num) (S := S) (x := num n) n (fun k hk => hm k n hk (by omega))
    have l2 := nmbN_lt (num := num) (S := T) (x := num n) n (fun k hk => hm k n hk (by omega))
    have ih := nmbN_mono (num := num) (S := S) (T := T) n (fun i j h1 h2 => hm i j h1 (by omega))
    unfold nmbN
    cases hs : S.testBit n <;> cases ht : T.testBit n
    · rw [hs, ht] at h
      simp at h
      simpa using ih h
    · simp only [Bool.false_eq_true, if_false, if_true, Nat.or_zero]
      rw [or_add l2]
      omega
    · rw [hs, ht] at h
      simp at h
      omega
    · rw [hs, ht] at h
      simp at h
      simp only [if_true]
      rw [or_add l1, or_add l2]
      have := ih h
      omega
theorem nmbI_N : ∀ (l : List Nat) (S i : Nat), nmbI l S i = nmbN (fun k => l.getD k 0) (S / 2 ^ i) l.length := by
  intro l S
  have key : ∀ (n i : Nat) (l : List Nat), l.length = n → nmbI l S i = nmbN (fun k => l.getD k 0) (S / 2 ^ i) l.length := by
    intro n
    induction n with
    | zero =>
      intro i l hl
      rw [List.eq_nil_of_length_eq_zero hl]
      rfl
    | succ n ih =>
      intro i l hl
      have hne : l ≠ [] := by intro e; rw [e] at hl; simp at hl
      obtain ⟨l', x, rfl⟩ : ∃ l' x, l = l' ++ [x] := ⟨l.dropLast, l.getLast hne, (List.dropLast_concat_getLast hne).symm⟩
      have hl' : l'.length = n := by simpa using hl
      have ap : ∀ (l' : List Nat) (i : Nat), nmbI (l' ++ [x]) S i = nmbI l' S i ||| (if S.testBit (i + l'.length) then 2 ^ x else 0) := by
        intro l'
        induction l' with
        | nil => intro i; simp [nmbI]
        | cons y l' ih2 =>
          intro i
          rw [List.cons_append, nmbI, ih2, nmbI, Nat.or_assoc, List.length_cons, show i + 1 + l'.length = i + (l'.length + 1) by omega]
      rw [ap, ih i l' hl', List.length_append, List.length_singleton, nmbN]
      have c1 : nmbN (fun k => (l' ++ [x]).getD k 0) (S / 2 ^ i) l'.length = nmbN (fun k => l'.getD k 0) (S / 2 ^ i) l'.length := by
        have key2 : ∀ m, m ≤ l'.length → nmbN (fun k => (l' ++ [x]).getD k 0) (S / 2 ^ i) m = nmbN (fun k => l'.getD k 0) (S / 2 ^ i) m := by
          intro m
          induction m with
          | zero => intro _; rfl
          | succ m ih3 =>
            intro hm
            unfold nmbN
            rw [ih3 (by omega)]
            have : (l' ++ [x]).getD m 0 = l'.getD m 0 := by
              rw [List.getD_eq_getElem?_getD, List.getD_eq_getElem?_getD, List.getElem?_append_left (by omega)]
            rw [this]
        exact key2 _ (Nat.le_refl _)
      have c2 : (l' ++ [x]).getD l'.length 0 = x := by
        rw [List.getD_eq_getElem?_getD, List.getElem?_append_right (Nat.le_refl _)]
        simp
      rw [c1, c2, Nat.testBit_div_two_pow, Nat.add_comm i]
  intro i
  exact key l.length i l rfl
theorem nmb_lt {l : List Nat} {S T : Nat} (hm : ∀ (i j : Nat) (_ : i < j) (h : j < l.length), l[i] < l[j]) (hT : T < 2 ^ l.length) (h : S < T) : nmbI l S 0 < nmbI l T 0 := by
  rw [nmbI_N, nmbI_N]
  simp only [Nat.pow_zero, Nat.div_one]
  apply nmbN_mono
  · intro i j h1 h2
    rw [getD_lt h2, getD_lt (show i < l.length by omega)]
    exact hm i j h1 h2
  · rw [Nat.mod_eq_of_lt hT, Nat.mod_eq_of_lt (by omega)]
    exact h
theorem nmb_14 {l : List Nat} {S : Nat} (h : ∀ x ∈ l, x < 14) : nmbI l S 0 < 16384 := by
  rw [nmbI_N]
  refine nmbN_lt (x := 14) _ (fun k hk => ?_)
  rw [getD_lt hk]
  exact h _ (List.getElem_mem hk)
