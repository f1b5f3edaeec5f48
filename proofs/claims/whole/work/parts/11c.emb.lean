-- sets of places of the row, and sets of places of those who are not struck
def emb (S0 n S : Nat) : Nat := setB (fun k => !S0.testBit k && S.testBit (cnt S0 k)) n
def ful (S0 n S : Nat) : Nat := setB (fun k => S0.testBit k || S.testBit (cnt S0 k)) n
theorem emb_bit (S0 n S k : Nat) : (emb S0 n S).testBit k = (decide (k < n) && (!S0.testBit k && S.testBit (cnt S0 k))) := setB_bit _ _ _
theorem ful_bit (S0 n S k : Nat) : (ful S0 n S).testBit k = (decide (k < n) && (S0.testBit k || S.testBit (cnt S0 k))) := setB_bit _ _ _
theorem emb_lt (S0 n S : Nat) : emb S0 n S < 2 ^ n := setB_lt _ _
theorem ful_lt (S0 n S : Nat) : ful S0 n S < 2 ^ n := setB_lt _ _
theorem lt_bit {S n k : Nat} (h : S < 2 ^ n) (hk : n ≤ k) : S.testBit k = false := Nat.testBit_lt_two_pow (Nat.lt_of_lt_of_le h (Nat.pow_le_pow_right (by decide) hk))
theorem ful_or {S0 n A B : Nat} (h0 : S0 < 2 ^ n) : S0 ||| emb S0 n A ||| emb S0 n B = ful S0 n (A ||| B) := by
  apply Nat.eq_of_testBit_eq
  intro k
  rw [Nat.testBit_or, Nat.testBit_or, emb_bit, emb_bit, ful_bit, Nat.testBit_or]
  by_cases h : k < n
  · rw [decide_eq_true h]
    cases S0.testBit k <;> cases A.testBit (cnt S0 k) <;> cases B.testBit (cnt S0 k) <;> rfl
  · rw [decide_eq_false h, lt_bit h0 (by omega)]
    rfl
theorem emb_dis {S0 n A : Nat} : emb S0 n A &&& S0 = 0 := by
  apply Nat.eq_of_testBit_eq
  intro k
  rw [Nat.testBit_and, emb_bit, Nat.zero_testBit]
  cases S0.testBit k <;> simp
theorem ful_zero {S0 n : Nat} (h0 : S0 < 2 ^ n) : ful S0 n 0 = S0 := by
  apply Nat.eq_of_testBit_eq
  intro k
  rw [ful_bit, Nat.zero_testBit, Bool.or_false]
  by_cases h : k < n
  · simp [h]
  · simp [h, lt_bit h0 (show n ≤ k by omega)]
theorem remI_ful {α : Type} (S0 S F : Nat) : ∀ (l : List α) (i : Nat), (∀ k, i ≤ k → k < i + l.length → F.testBit k = (S0.testBit k || S.testBit (cnt S0 k))) → remI l F i = remI (remI l S0 i) S (cnt S0 i)
  | [], _, _ => rfl
  | x :: l, i, h => by
    have h1 := h i (Nat.le_refl _) (by simp)
    have ih := remI_ful S0 S F l (i + 1) (fun k h1 h2 => h k (by omega) (by simp at h2 ⊢; omega))
    have e : cnt S0 (i + 1) = cnt S0 i + if S0.testBit i then 0 else 1 := rfl
    rw [remI, remI, h1, ih, e]
    cases S0.testBit i
    · simp only [Bool.false_or, Bool.false_eq_true, if_false]
      rw [remI]
    · simp
theorem rem_ful {α : Type} {l : List α} {S0 S : Nat} : rem l (ful S0 l.length S) = rem (rem l S0) S := remI_ful S0 S _ l 0 (fun k _ h => by rw [ful_bit, decide_eq_true (by omega), Bool.true_and])
theorem nmbI_emb (S0 S E : Nat) : ∀ (l : List P3) (i : Nat), (∀ k, i ≤ k → k < i + l.length → E.testBit k = (!S0.testBit k && S.testBit (cnt S0 k))) → nmbI (l.map (fun p => p.1)) E i = nmbI ((remI l S0 i).map (fun p => p.1)) S (cnt S0 i)
  | [], _, _ => rfl
  | x :: l, i, h => by
    have h1 := h i (Nat.le_refl _) (by simp)
    have ih := nmbI_emb S0 S E l (i + 1) (fun k h1 h2 => h k (by omega) (by simp at h2 ⊢; omega))
    have e : cnt S0 (i + 1) = cnt S0 i + if S0.testBit i then 0 else 1 := rfl
    rw [List.map_cons, nmbI, remI, h1, ih, e]
    cases S0.testBit i
    · simp [nmbI]
    · simp
theorem nmb_emb {l : List P3} {S0 S : Nat} : nmbI (l.map (fun p => p.1)) (emb S0 l.length S) 0 = nmbI ((rem l S0).map (fun p => p.1)) S 0 := nmbI_emb S0 S _ l 0 (fun k _ h => by rw [emb_bit, decide_eq_true (by omega), Bool.true_and])
theorem pop_cong {S T : Nat} : ∀ n, (∀ k, k < n → S.testBit k = T.testBit k) → pop n S = pop n T
  | 0, _ => rfl
  | n + 1, h => by
    unfold pop
    rw [pop_cong n (fun k hk => h k (by omega)), h n (by omega)]
theorem pop_hi {S m : Nat} (h : S < 2 ^ m) : ∀ k, pop (m + k) S = pop m S
  | 0 => rfl
  | k + 1 => by
    show pop (m + k) S + (if S.testBit (m + k) then 1 else 0) = _
    rw [pop_hi h k, lt_bit h (by omega)]
    rfl
theorem pop_ten {S m : Nat} (h : S < 2 ^ m) (hm : m ≤ 10) : pop 10 S = pop m S := by
  have := pop_hi h (10 - m)
  rw [show m + (10 - m) = 10 by omega] at this
  exact this
theorem pop_emb (S0 S N : Nat) : ∀ n, n ≤ N → pop n (emb S0 N S) = pop (cnt S0 n) S
  | 0, _ => rfl
  | n + 1, h => by
    have ih := pop_emb S0 S N n (by omega)
    show pop n (emb S0 N S) + (if (emb S0 N S).testBit n then 1 else 0) = pop (cnt S0 n + if S0.testBit n then 0 else 1) S
    rw [ih, emb_bit, decide_eq_true (by omega)]
    cases S0.testBit n
    · simp [pop]
    · simp
theorem pop10_emb {S0 S n : Nat} (hn : n ≤ 10) (hS : S < 2 ^ cnt S0 n) : pop 10 (emb S0 n S) = pop 10 S := by
  have h1 := cnt_le S0 n
  rw [pop_ten (emb_lt S0 n S) hn, pop_emb S0 S n n (Nat.le_refl _), pop_ten hS (by omega)]
theorem setB_cong {p q : Nat → Bool} : ∀ n, (∀ k, k < n → p k = q k) → setB p n = setB q n
  | 0, _ => rfl
  | n + 1, h => by
    unfold setB
    rw [setB_cong n (fun k hk => h k (by omega)), h n (by omega)]
theorem or_add {S n : Nat} (h : S < 2 ^ n) : S ||| 2 ^ n = S + 2 ^ n := by
  have h1 := Nat.two_pow_add_eq_or_of_lt h 1
  rw [Nat.mul_one] at h1
  rw [Nat.or_comm, ← h1, Nat.add_comm]
theorem add_bit {S n k : Nat} (h : S < 2 ^ n) : (S + 2 ^ n).testBit k = (S.testBit k || decide (n = k)) := by
  rw [← or_add h, tb_or]
theorem rng_two {n : Nat} : List.range (2 ^ (n + 1)) = List.range (2 ^ n) ++ (List.range (2 ^ n)).map (fun a => a + 2 ^ n) := by
  have e : 2 ^ (n + 1) = 2 ^ n + 2 ^ n := by rw [Nat.pow_succ]; omega
  rw [e, List.range_add]
  congr 1
  exact List.map_congr_left (fun a _ => Nat.add_comm _ _)
theorem and_zero_iff {a b : Nat} : a &&& b = 0 ↔ ∀ k, a.testBit k = true → b.testBit k = false := by
  constructor
  · intro h k ha
    have := congrArg (fun x => Nat.testBit x k) h
    simp only [Nat.testBit_and, Nat.zero_testBit, ha, Bool.true_and] at this
    exact this
  · intro h
    apply Nat.eq_of_testBit_eq
    intro k
    rw [Nat.testBit_and, Nat.zero_testBit]
    cases ha : a.testBit k
    · rfl
    · rw [h k ha]
      rfl
theorem rng_emb (S0 : Nat) : ∀ n, (List.range (2 ^ n)).filter (fun a => decide (a &&& S0 = 0)) = (List.range (2 ^ cnt S0 n)).map (emb S0 n)
  | 0 => by
    have : cnt S0 0 = 0 := rfl
    rw [this]
    simp [emb, setB]
  | n + 1 => by
    have ih := rng_emb S0 n
    rw [rng_two, List.filter_append, ih]
    have e : cnt S0 (n + 1) = cnt S0 n + if S0.testBit n then 0 else 1 := rfl
    rw [List.filter_map]
    cases hb : S0.testBit n
    · rw [hb] at e
      have e2 : cnt S0 (n + 1) = cnt S0 n + 1 := by simpa using e
      rw [e2, rng_two, List.map_append, List.map_map]
      have h1 : (List.range (2 ^ n)).filter ((fun a => decide (a &&& S0 = 0)) ∘ fun a => a + 2 ^ n) = (List.range (2 ^ n)).filter (fun a => decide (a &&& S0 = 0)) := by
        apply List.filter_congr
        intro a ha
        have hlt := List.mem_range.mp ha
        simp only [Function.comp]
        rw [decide_eq_decide, and_zero_iff, and_zero_iff]
        constructor
        · intro h k hk
          exact h k (by rw [add_bit hlt, hk]; rfl)
        · intro h k hk
          rw [add_bit hlt] at hk
          by_cases e3 : n = k
          · subst e3; exact hb
          · simp [e3] at hk
            exact h k hk
      rw [h1, ih, List.map_map]
      congr 1
      · apply List.map_congr_left
        intro S hS
        have hlt := List.mem_range.mp hS
        unfold emb
        rw [setB, hb, lt_bit hlt (Nat.le_refl _)]
        simp
      · apply List.map_congr_left
        intro S hS
        have hlt := List.mem_range.mp hS
        simp only [Function.comp]
        have h3 : emb S0 (n + 1) (S + 2 ^ cnt S0 n) = emb S0 n S ||| 2 ^ n := by
          unfold emb
          rw [setB, hb, add_bit hlt]
          simp only [Bool.not_false, Bool.true_and, decide_true, Bool.or_true, if_true]
          congr 1
          apply setB_cong
          intro k hk
          rw [add_bit hlt]
          by_cases hbk : S0.testBit k = true
          · simp [hbk]
          · have hbk2 : S0.testBit k = false := by simpa using hbk
            have : cnt S0 (k + 1) ≤ cnt S0 n := cnt_mono (by omega)
            have h4 : cnt S0 (k + 1) = cnt S0 k + if S0.testBit k then 0 else 1 := rfl
            rw [hbk2] at h4
            simp at h4
            rw [decide_eq_false (by omega), Bool.or_false]
        rw [h3, or_add (emb_lt S0 n S)]
    · rw [hb] at e
      have e2 : cnt S0 (n + 1) = cnt S0 n := by simpa using e
      have h1 : (List.range (2 ^ n)).filter ((fun a => decide (a &&& S0 = 0)) ∘ fun a => a + 2 ^ n) = [] := by
        rw [List.filter_eq_nil_iff]
        intro a ha
        have hlt := List.mem_range.mp ha
        simp only [Function.comp, decide_eq_true_eq]
        intro h
        have := and_zero_iff.mp h n (by rw [add_bit hlt]; simp)
        rw [hb] at this
        cases this
      rw [h1, List.map_nil, List.append_nil, e2]
      apply List.map_congr_left
      intro S hS
      unfold emb
      rw [setB, hb]
      simp
theorem ctB_add (p : Nat → Bool) (n : Nat) : ∀ m, ctB p (n + m) = ctB p n + ctB (fun k => p (k + n)) m
  | 0 => rfl
  | m + 1 => by
    show ctB p (n + m) + (if p (n + m) then 1 else 0) = ctB p n + (ctB (fun k => p (k + n)) m + if p (m + n) then 1 else 0)
    rw [ctB_add p n m, Nat.add_comm m n]
    omega
theorem ctB_cong {p q : Nat → Bool} : ∀ n, (∀ k, k < n → p k = q k) → ctB p n = ctB q n
  | 0, _ => rfl
  | n + 1, h => by
    unfold ctB
    rw [ctB_cong n (fun k hk => h k (by omega)), h n (by omega)]
theorem ctB_none {p : Nat → Bool} : ∀ n, (∀ k, k < n → p k = false) → ctB p n = 0
  | 0, _ => rfl
  | n + 1, h => by
    unfold ctB
    rw [ctB_none n (fun k hk => h k (by omega)), h n (by omega)]
    rfl
theorem ctB_ful (S0 : Nat) : ∀ (n : Nat) (p : Nat → Bool), (∀ S, S < 2 ^ n → p S = true → ∀ k, k < n → S0.testBit k = true → S.testBit k = true) → ctB p (2 ^ n) = ctB (fun S => p (ful S0 n S)) (2 ^ cnt S0 n)
  | 0, p, _ => by
    have : cnt S0 0 = 0 := rfl
    rw [this]
    simp [ctB, ful, setB]
  | n + 1, p, h => by
    have e : cnt S0 (n + 1) = cnt S0 n + if S0.testBit n then 0 else 1 := rfl
    have e2 : 2 ^ (n + 1) = 2 ^ n + 2 ^ n := by rw [Nat.pow_succ]; omega
    have hlt2 : ∀ S, S < 2 ^ n → S + 2 ^ n < 2 ^ (n + 1) := fun S h => by omega
    have ih2 := ctB_ful S0 n (fun S => p (S + 2 ^ n)) (fun S hS hp k hk hb => by
      have := h (S + 2 ^ n) (hlt2 S hS) hp k (by omega) hb
      rw [add_bit hS, decide_eq_false (by omega), Bool.or_false] at this
      exact this)
    rw [e2, ctB_add]
    cases hb : S0.testBit n
    · have ih1 := ctB_ful S0 n p (fun S hS hp k hk hb => h S (by omega) hp k (by omega) hb)
      rw [hb] at e
      have e3 : cnt S0 (n + 1) = cnt S0 n + 1 := by simpa using e
      have e4 : 2 ^ (cnt S0 n + 1) = 2 ^ cnt S0 n + 2 ^ cnt S0 n := by rw [Nat.pow_succ]; omega
      rw [e3, e4, ctB_add, ih1, ih2]
      congr 1
      · apply ctB_cong
        intro S hS
        congr 1
        unfold ful
        rw [setB, hb, lt_bit hS (Nat.le_refl _)]
        simp
      · apply ctB_cong
        intro S hS
        show p _ = p _
        congr 1
        have h3 : ful S0 (n + 1) (S + 2 ^ cnt S0 n) = ful S0 n S ||| 2 ^ n := by
          unfold ful
          rw [setB, hb, add_bit hS]
          simp only [Bool.false_or, decide_true, Bool.or_true, if_true]
          congr 1
          apply setB_cong
          intro k hk
          rw [add_bit hS]
          by_cases hbk : S0.testBit k = true
          · simp [hbk]
          · have hbk2 : S0.testBit k = false := by simpa using hbk
            have : cnt S0 (k + 1) ≤ cnt S0 n := cnt_mono (by omega)
            have h4 : cnt S0 (k + 1) = cnt S0 k + if S0.testBit k then 0 else 1 := rfl
            rw [hbk2] at h4
            simp at h4
            rw [decide_eq_false (by omega), Bool.or_false]
        rw [h3, or_add (ful_lt S0 n S)]
    · rw [hb] at e
      have e3 : cnt S0 (n + 1) = cnt S0 n := by simpa using e
      have z : ctB p (2 ^ n) = 0 := ctB_none _ (fun S hS => by
        cases hp : p S
        · rfl
        · have := h S (by omega) hp n (by omega) hb
          rw [lt_bit hS (Nat.le_refl _)] at this
          cases this)
      rw [z, Nat.zero_add, ih2, e3]
      apply ctB_cong
      intro S hS
      show p _ = p _
      congr 1
      have h3 : ful S0 (n + 1) S = ful S0 n S ||| 2 ^ n := by
        unfold ful
        rw [setB, hb]
        simp
      rw [h3, or_add (ful_lt S0 n S)]
-- how many states, by the row's sets
theorem cnt_ful (S0 S n : Nat) : ∀ i, i ≤ n → cnt (ful S0 n S) i = cnt S (cnt S0 i)
  | 0, _ => rfl
  | i + 1, h => by
    have ih := cnt_ful S0 S n i (by omega)
    show cnt (ful S0 n S) i + (if (ful S0 n S).testBit i then 0 else 1) = cnt S (cnt S0 i + if S0.testBit i then 0 else 1)
    rw [ih, ful_bit, decide_eq_true (by omega)]
    cases S0.testBit i
    · simp [cnt]
    · simp
theorem cnt_sur (S0 : Nat) : ∀ (n j : Nat), j < cnt S0 n → ∃ k, k < n ∧ S0.testBit k = false ∧ cnt S0 k = j
  | 0, j, h => absurd h (Nat.not_lt_zero _)
  | n + 1, j, h => by
    have e : cnt S0 (n + 1) = cnt S0 n + if S0.testBit n then 0 else 1 := rfl
    by_cases h1 : j < cnt S0 n
    · obtain ⟨k, h2, h3⟩ := cnt_sur S0 n j h1
      exact ⟨k, by omega, h3⟩
    · cases hb : S0.testBit n
      · rw [hb] at e
        simp at e
        exact ⟨n, by omega, hb, by omega⟩
      · rw [hb] at e
        simp at e
        omega
theorem ful_set {S0 n S k : Nat} (hk : k < n) (hb : S0.testBit k = false) : ful S0 n S ||| 2 ^ k = ful S0 n (S ||| 2 ^ cnt S0 k) := by
  apply Nat.eq_of_testBit_eq
  intro i
  rw [tb_or, ful_bit, ful_bit, tb_or]
  by_cases hi : i < n
  · rw [decide_eq_true hi, Bool.true_and, Bool.true_and]
    by_cases e : k = i
    · subst e
      simp
    · have : decide (cnt S0 k = cnt S0 i) = true → S0.testBit i = true := by
        intro h
        have h := of_decide_eq_true h
        cases hbi : S0.testBit i
        · exfalso
          have h1 : cnt S0 (k + 1) = cnt S0 k + if S0.testBit k then 0 else 1 := rfl
          have h2 : cnt S0 (i + 1) = cnt S0 i + if S0.testBit i then 0 else 1 := rfl
          rw [hb] at h1
          rw [hbi] at h2
          simp at h1 h2
          rcases (show k < i ∨ i < k by omega) with h3 | h3
          · have := cnt_mono (S := S0) (show k + 1 ≤ i by omega)
            omega
          · have := cnt_mono (S := S0) (show i + 1 ≤ k by omega)
            omega
        · rfl
      rw [decide_eq_false e, Bool.or_false]
      cases hbi : S0.testBit i
      · cases hd : decide (cnt S0 k = cnt S0 i)
        · simp
        · rw [this hd] at hbi
          cases hbi
      · simp
  · rw [decide_eq_false hi, decide_eq_false (by omega)]
    rfl
theorem ful_inj {S0 n S T : Nat} (hS : S < 2 ^ cnt S0 n) (hT : T < 2 ^ cnt S0 n) (h : ful S0 n S = ful S0 n T) : S = T := by
  apply Nat.eq_of_testBit_eq
  intro j
  by_cases hj : j < cnt S0 n
  · obtain ⟨k, h1, h2, h3⟩ := cnt_sur S0 n j hj
    have := congrArg (fun x => Nat.testBit x k) h
    simp only [ful_bit, h1, h2, h3, decide_true, Bool.true_and, Bool.false_or] at this
    exact this
  · rw [lt_bit hS (by omega), lt_bit hT (by omega)]
noncomputable def RnR (bx se n S0 : Nat) : Nat → Nat → Bool
  | 0 => fun S => decide (S = S0)
  | t + 1 => nxtR bx se n (RnR bx se n S0 t)
theorem canS_ful {bx se n S0 S k : Nat} (hk : k < n) (hb : S0.testBit k = false) : canS bx se n (ful S0 n S) k ↔ canS bx se (cnt S0 n) S (cnt S0 k) := by
  unfold canS
  rw [ful_bit, cnt_ful _ _ _ _ (by omega), decide_eq_true hk, hb]
  have h1 : cnt S0 (k + 1) ≤ cnt S0 n := cnt_mono (by omega)
  have h2 : cnt S0 (k + 1) = cnt S0 k + if S0.testBit k then 0 else 1 := rfl
  rw [hb] at h2
  simp at h2
  have h3 := cnt_le S (cnt S0 k)
  have h4 := cnt_le S0 k
  by_cases e : bx = 1
  · simp [e, hk, show cnt S0 k < cnt S0 n by omega]
  · simp [e, hk, show cnt S0 k < cnt S0 n by omega, show cnt S (cnt S0 k) < n by omega, show cnt S (cnt S0 k) < cnt S0 n by omega]
theorem RnR_iff {bx se n S0 : Nat} (h0 : S0 < 2 ^ n) : ∀ (t S : Nat), RnR bx se n S0 t S = true ↔ ∃ S', S' < 2 ^ cnt S0 n ∧ Rn bx se (cnt S0 n) t S' = true ∧ S = ful S0 n S'
  | 0, S => by
    simp only [RnR, Rn, decide_eq_true_eq]
    constructor
    · intro h
      exact ⟨0, Nat.two_pow_pos _, rfl, by rw [ful_zero h0]; exact h⟩
    · rintro ⟨S', _, rfl, h⟩
      rw [h, ful_zero h0]
  | t + 1, S => by
    have ih := RnR_iff (bx := bx) (se := se) h0 t
    simp only [RnR, Rn, nxtR, dcd_iff]
    constructor
    · rintro (h | ⟨T, j, h1, h2, h3, h4⟩)
      · obtain ⟨S', g1, g2, g3⟩ := (ih S).mp h
        exact ⟨S', g1, Or.inl g2, g3⟩
      · obtain ⟨T', g1, g2, g3⟩ := (ih T).mp h2
        subst g3
        have hj := h3.1
        have hb : S0.testBit j = false := by
          have := h3.2.1
          rw [ful_bit, decide_eq_true hj] at this
          cases hb : S0.testBit j
          · rfl
          · rw [hb] at this
            simp at this
        have h5 := (canS_ful hj hb).mp h3
        refine ⟨T' ||| 2 ^ cnt S0 j, or_lt g1 h5.1, Or.inr ⟨T', cnt S0 j, g1, g2, h5, rfl⟩, ?_⟩
        rw [h4, ful_set hj hb]
    · rintro ⟨S', g1, g2, g3⟩
      rcases g2 with g2 | ⟨T', j, k1, k2, k3, k4⟩
      · exact Or.inl ((ih S).mpr ⟨S', g1, g2, g3⟩)
      · obtain ⟨k, m1, m2, m3⟩ := cnt_sur S0 n j k3.1
        subst m3
        refine Or.inr ⟨ful S0 n T', k, ful_lt _ _ _, (ih _).mpr ⟨T', k1, k2, rfl⟩, (canS_ful m1 m2).mpr k3, ?_⟩
        rw [ful_set m1 m2, ← k4]
        exact g3
theorem RnR_ct {bx se n S0 : Nat} (h0 : S0 < 2 ^ n) (t : Nat) : ctB (RnR bx se n S0 t) (2 ^ n) = ctB (Rn bx se (cnt S0 n) t) (2 ^ cnt S0 n) := by
  rw [ctB_ful S0 n]
  · apply ctB_cong
    intro S hS
    have h1 := RnR_iff (bx := bx) (se := se) h0 t (ful S0 n S)
    cases hr : Rn bx se (cnt S0 n) t S
    · cases hq : RnR bx se n S0 t (ful S0 n S)
      · rfl
      · obtain ⟨S', g1, g2, g3⟩ := h1.mp hq
        rw [ful_inj hS g1 g3] at hr
        rw [hr] at g2
        cases g2
    · exact h1.mpr ⟨S, hS, hr, rfl⟩
  · intro S hS hp k hk hb
    obtain ⟨S', _, _, rfl⟩ := (RnR_iff h0 t S).mp hp
    rw [ful_bit, decide_eq_true hk, hb]
    rfl
noncomputable def totR (bx se n S0 : Nat) : Nat → Nat
  | 0 => 0
  | t + 1 => totR bx se n S0 t + ctB (RnR bx se n S0 t) (2 ^ n)
theorem ctB_one {N : Nat} : ∀ n, ctB (fun S => decide (S = N)) n = if N < n then 1 else 0
  | 0 => by simp [ctB]
  | n + 1 => by
    unfold ctB
    rw [ctB_one n]
    by_cases e : n = N
    · subst e
      simp
    · by_cases h : N < n
      · simp [h, e, show N < n + 1 by omega]
      · simp [h, e, show ¬ N < n + 1 by omega]
theorem totR_eq {bx se n S0 : Nat} (h0 : S0 < 2 ^ n) : ∀ t, totR bx se n S0 (t + 1) = totS bx se (cnt S0 n) t
  | 0 => by
    show 0 + ctB (RnR bx se n S0 0) (2 ^ n) = 1
    simp only [RnR]
    rw [ctB_one, if_pos h0]
  | t + 1 => by
    show totR bx se n S0 (t + 1) + ctB (RnR bx se n S0 (t + 1)) (2 ^ n) = totS bx se (cnt S0 n) t + ctB (Rn bx se (cnt S0 n) (t + 1)) (2 ^ cnt S0 n)
    rw [totR_eq h0 t, RnR_ct h0]
