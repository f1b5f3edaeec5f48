-- what the small machine comes to, as a function
theorem zrun_mono : ∀ (n d mi : Nat) (s : ZS) (o : ZO), zrun n d mi s = some o → zrun (n + 1) d mi s = some o := by
  intro n
  induction n with
  | zero => intro d mi s o h; simp [zrun] at h
  | succ n ih =>
    intro d mi s o h
    rw [zrun] at h ⊢
    cases hs : zstep mi s with
    | none => rw [hs] at h; exact h
    | some r =>
      rw [hs] at h
      match r, h with
      | .inl s', h => exact ih _ _ _ _ h
      | .inr (.inl o'), h => exact h
      | .inr (.inr (cm, as, ini, s')), h =>
        cases d with
        | zero => exact h
        | succ d' =>
          simp only at h ⊢
          by_cases hz : (zlay as).length ≤ zmx cm
          case neg => rw [if_neg hz] at h; cases h
          rw [if_pos hz] at h ⊢
          cases hc : zrun n d' cm (0, zent cm as, [], s'.2.2.2) with
          | none => rw [hc] at h; cases h
          | some q =>
            rw [ih _ _ _ _ hc]
            rw [hc] at h
            match q, h with
            | (.inl v, h'), h =>
              simp only at h ⊢
              split at h
              · rename_i c
                rw [if_pos c]
                exact ih _ _ _ _ h
              · cases h
            | (.inr E, h'), h =>
              simp only at h ⊢
              cases hh : zhn mi s.1 E with
              | none => rw [hh] at h; exact h
              | some q2 =>
                rw [hh] at h
                simp only at h ⊢
                split at h
                · rename_i c
                  rw [if_pos c]
                  exact ih _ _ _ _ h
                · cases h
theorem zrun_le {n m d mi : Nat} {s : ZS} {o : ZO} (h : zrun n d mi s = some o) (hm : n ≤ m) : zrun m d mi s = some o := by
  obtain ⟨k, rfl⟩ := Nat.le.dest hm
  induction k with
  | zero => exact h
  | succ k ih => exact zrun_mono _ _ _ _ _ (ih (Nat.le_add_right _ _))
noncomputable def exs (d mi : Nat) (s : ZS) : Option ZO := zrun (Classical.epsilon (fun n => (zrun n d mi s).isSome = true)) d mi s
theorem exs_eq {n d mi : Nat} {s : ZS} {o : ZO} (h : zrun n d mi s = some o) : exs d mi s = some o := by
  have hx : ∃ k, (zrun k d mi s).isSome = true := ⟨n, by rw [h]; rfl⟩
  have he := Classical.epsilon_spec hx
  unfold exs
  cases hv : zrun (Classical.epsilon (fun n => (zrun n d mi s).isSome = true)) d mi s with
  | none => rw [hv] at he; cases he
  | some o2 =>
    have h1 := zrun_le h (Nat.le_max_left n (Classical.epsilon (fun n => (zrun n d mi s).isSome = true)))
    have h2 := zrun_le hv (Nat.le_max_right n (Classical.epsilon (fun n => (zrun n d mi s).isSome = true)))
    rw [h1] at h2
    exact h2.symm
theorem exs_iff {d mi : Nat} {s : ZS} {o : ZO} : exs d mi s = some o ↔ ∃ n, zrun n d mi s = some o := ⟨fun h => ⟨_, h⟩, fun ⟨_, h⟩ => exs_eq h⟩
theorem opt_ext {α : Type} {a b : Option α} (h : ∀ o, a = some o ↔ b = some o) : a = b := by
  cases a with
  | none =>
    cases b with
    | none => rfl
    | some y => exact absurd ((h y).mpr rfl) (by simp)
  | some x => exact ((h x).mp rfl).symm
theorem exs_next {d mi : Nat} {s s' : ZS} (h : zstep mi s = some (.inl s')) : exs d mi s = exs d mi s' := by
  apply opt_ext
  intro o
  rw [exs_iff, exs_iff]
  constructor
  · rintro ⟨n, hn⟩
    cases n with
    | zero => simp [zrun] at hn
    | succ n => rw [zrun, h] at hn; exact ⟨n, hn⟩
  · rintro ⟨n, hn⟩
    exact ⟨n + 1, by rw [zrun, h]; exact hn⟩
theorem exs_done {d mi : Nat} {s : ZS} {o : ZO} (h : zstep mi s = some (.inr (.inl o))) : exs d mi s = some o := exs_eq (n := 1) (by rw [zrun, h])
/-- behind a callee: its answer, or its exception caught here, or gone on -/
noncomputable def zbnd (d mi pc : Nat) (ini : Bool) (s' : ZS) (r : Option ZO) : Option ZO := match r with
  | none => none
  | some (.inl v, h') => if zaft ini s'.2.2.2 h' s'.2.1 s'.2.2.1 = true then exs d mi (s'.1, s'.2.1, v.toList ++ s'.2.2.1, h') else none
  | some (.inr E, h') => match zhn mi pc E with
    | none => some (.inr E, h')
    | some (hp, i) => if zN h'.2 = zN s'.2.2.2.2 then exs d mi (hp, (stB s'.2.1 i).set i tok, [], h') else none
noncomputable def cls (d cm : Nat) (as : List Value) (h : Hp) : Option ZO := if (zlay as).length ≤ zmx cm then exs d cm (0, zent cm as, [], h) else none
theorem exs_call {d mi cm : Nat} {as : List Value} {ini : Bool} {s s' : ZS} (h : zstep mi s = some (.inr (.inr (cm, as, ini, s')))) : exs (d + 1) mi s = zbnd (d + 1) mi s.1 ini s' (cls d cm as s'.2.2.2) := by
  apply opt_ext
  intro o
  constructor
  · intro h1
    obtain ⟨n, hn⟩ := exs_iff.mp h1
    cases n with
    | zero => simp [zrun] at hn
    | succ n =>
      rw [zrun, h] at hn
      simp only at hn
      by_cases hz : (zlay as).length ≤ zmx cm
      case neg => rw [if_neg hz] at hn; cases hn
      rw [if_pos hz] at hn
      unfold cls
      rw [if_pos hz]
      cases hc : zrun n d cm (0, zent cm as, [], s'.2.2.2) with
      | none => rw [hc] at hn; cases hn
      | some q =>
        rw [exs_eq hc]
        rw [hc] at hn
        match q, hn with
        | (.inl v, h'), hn =>
          simp only [zbnd] at hn ⊢
          split at hn
          · rename_i c
            rw [if_pos c]
            exact exs_eq hn
          · cases hn
        | (.inr E, h'), hn =>
          simp only [zbnd] at hn ⊢
          cases hh : zhn mi s.1 E with
          | none => rw [hh] at hn; exact hn
          | some q2 =>
            rw [hh] at hn
            simp only at hn ⊢
            split at hn
            · rename_i c
              rw [if_pos c]
              exact exs_eq hn
            · cases hn
  · intro h1
    unfold cls at h1
    by_cases hz : (zlay as).length ≤ zmx cm
    case neg => rw [if_neg hz] at h1; simp [zbnd] at h1
    rw [if_pos hz] at h1
    cases hc : exs d cm (0, zent cm as, [], s'.2.2.2) with
    | none => rw [hc] at h1; simp [zbnd] at h1
    | some q =>
      rw [hc] at h1
      obtain ⟨n, hn⟩ := exs_iff.mp hc
      match q, h1, hn with
      | (.inl v, h'), h1, hn =>
        simp only [zbnd] at h1
        split at h1
        · rename_i c
          obtain ⟨k, hk⟩ := exs_iff.mp h1
          refine exs_eq (n := n + k + 1) ?_
          rw [zrun, h]
          simp only
          rw [if_pos hz, zrun_le hn (Nat.le_add_right n k)]
          simp only
          rw [if_pos c]
          exact zrun_le hk (Nat.le_add_left k n)
        · cases h1
      | (.inr E, h'), h1, hn =>
        simp only [zbnd] at h1
        cases hh : zhn mi s.1 E with
        | none =>
          rw [hh] at h1
          refine exs_eq (n := n + 1) ?_
          rw [zrun, h]
          simp only
          rw [if_pos hz, hn]
          simp only
          rw [hh]
          exact h1
        | some q2 =>
          rw [hh] at h1
          simp only at h1
          split at h1
          · rename_i c
            obtain ⟨k, hk⟩ := exs_iff.mp h1
            refine exs_eq (n := n + k + 1) ?_
            rw [zrun, h]
            simp only
            rw [if_pos hz, zrun_le hn (Nat.le_add_right n k)]
            simp only
            rw [hh]
            simp only
            rw [if_pos c]
            exact zrun_le hk (Nat.le_add_left k n)
          · cases h1
noncomputable def exe (d mi pc : Nat) (lv st : List Value) (M : ZM) (R : ZH) : Option ZO := exs d mi (pc, lv, st, M, R)
noncomputable def cal (d cm : Nat) (as : List Value) (M : ZM) (R : ZH) : Option ZO := cls d cm as (M, R)
theorem cal_of {d cm : Nat} {as : List Value} {M : ZM} {R : ZH} (h : (zlay as).length ≤ zmx cm) : cal d cm as M R = exe d cm 0 (zent cm as) [] M R := if_pos h
