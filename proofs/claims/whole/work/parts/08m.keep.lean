-- what a step keeps
def zok (lv : List Value) (h : Hp) (r : ZR) : Prop := match r with
  | none => True
  | some (.inl s') => s'.2.1.length = lv.length ∧ zC h.2 ≤ zC s'.2.2.2.2 ∧ zL h.2 ≤ zL s'.2.2.2.2
  | some (.inr (.inl o)) => (zC h.2 ≤ zC o.2.2 ∧ zL h.2 ≤ zL o.2.2) ∧ ∀ E, o.1 = .inr E → ∃ e, E = zE e
  | some (.inr (.inr q)) => q.2.2.2.2.1 = lv ∧ q.2.2.2.2.2.2 = h
theorem ok_go {lv lv' st : List Value} {h h' : Hp} {pc : Nat} (hl : lv'.length = lv.length) (hc : zC h.2 ≤ zC h'.2 ∧ zL h.2 ≤ zL h'.2) : zok lv h (zgo pc lv' st h') := ⟨hl, hc⟩
theorem ok_g0 {lv st : List Value} {h : Hp} {pc : Nat} : zok lv h (zgo pc lv st h) := ⟨rfl, Nat.le_refl _, Nat.le_refl _⟩
theorem ok_gM {lv st : List Value} {M M' : ZM} {R : ZH} {pc : Nat} : zok lv (M, R) (zgo pc lv st (M', R)) := ⟨rfl, Nat.le_refl _, Nat.le_refl _⟩
theorem ok_no {lv : List Value} {h : Hp} : zok lv h none := trivial
theorem ok_ite {c : Prop} [Decidable c] {lv : List Value} {h : Hp} {a b : ZR} (ha : zok lv h a) (hb : zok lv h b) : zok lv h (if c then a else b) := by
  split
  · exact ha
  · exact hb
theorem ok_zst {lv st : List Value} {i pc : Nat} {v : Value} {h : Hp} : zok lv h (zst lv i v pc st h) := ok_ite (ok_go (by rw [List.length_set, stB_len]) ⟨Nat.le_refl _, Nat.le_refl _⟩) ok_no
theorem ok_zst2 {lv st : List Value} {i pc : Nat} {v : Value} {h : Hp} : zok lv h (zst2 lv i v pc st h) := ok_ite (ok_go (by rw [List.length_set, List.length_set, stB_len]) ⟨Nat.le_refl _, Nat.le_refl _⟩) ok_no
theorem ok_zbr {c : Bool} {pc n : Nat} {off : Int} {lv st : List Value} {h : Hp} : zok lv h (zbr c pc n off lv st h) := ok_ite (ok_ite ok_g0 ok_g0) ok_no
theorem ok_zload {lv st : List Value} {i k pc : Nat} {h : Hp} : zok lv h (zload lv i k pc st h) := by
  unfold zload
  split
  · exact ok_g0
  · exact ok_g0
  · exact ok_g0
  · exact ok_no
theorem ok_zii {f : Int32 → Int32 → Int32} {pc : Nat} {lv st : List Value} {h : Hp} : zok lv h (zii f pc lv st h) := by
  unfold zii
  split
  · exact ok_g0
  · exact ok_no
theorem ok_zll {f : Int64 → Int64 → Int64} {pc : Nat} {lv st : List Value} {h : Hp} : zok lv h (zll f pc lv st h) := by
  unfold zll
  split
  · exact ok_g0
  · exact ok_no
theorem ok_zli {f : Int64 → Int32 → Int64} {pc : Nat} {lv st : List Value} {h : Hp} : zok lv h (zli f pc lv st h) := by
  unfold zli
  split
  · exact ok_g0
  · exact ok_no
theorem ok_zl1 {f : Int64 → Value} {pc : Nat} {lv st : List Value} {h : Hp} : zok lv h (zl1 f pc lv st h) := by
  unfold zl1
  split
  · exact ok_g0
  · exact ok_no
theorem ok_zi1 {f : Int32 → Value} {pc : Nat} {lv st : List Value} {h : Hp} : zok lv h (zi1 f pc lv st h) := by
  unfold zi1
  split
  · exact ok_g0
  · exact ok_no
theorem ok_zget {oc idx pc : Nat} {lv st : List Value} {h : Hp} : zok lv h (zget oc idx pc lv st h) := by
  unfold zget
  split
  · refine ok_ite (ok_ite ?_ (ok_ite ok_no ok_g0)) ok_no
    split
    · exact ok_g0
    · exact ok_no
  · exact ok_no
theorem ok_zput {mi oc idx pc : Nat} {lv st : List Value} {h : Hp} : zok lv h (zput mi oc idx pc lv st h) := by
  unfold zput
  split
  · exact ok_ite (ok_go rfl ⟨Nat.le_refl _, Nat.le_refl _⟩) ok_no
  · exact ok_ite (ok_go rfl ⟨Nat.le_refl _, Nat.le_refl _⟩) ok_no
  · exact ok_no
theorem ok_zcallV {oc idx pc : Nat} {lv st : List Value} {h : Hp} : zok lv h (zcallV oc idx pc lv st h) := by
  unfold zcallV
  split
  · refine ok_ite ?_ ok_no
    split
    · exact ok_ite ⟨rfl, rfl⟩ ok_no
    · exact ok_no
  · exact ok_no
theorem ok_zcallI {oc idx pc : Nat} {lv st : List Value} {h : Hp} : zok lv h (zcallI oc idx pc lv st h) := by
  unfold zcallI
  split
  · refine ok_ite ?_ ok_no
    split
    · exact ok_ite ⟨rfl, rfl⟩ ok_no
    · exact ok_no
  · split
    · exact ok_ite ok_g0 ok_no
    · exact ok_no
  · exact ok_no
theorem ok_zcallS {oc idx pc : Nat} {lv st : List Value} {h : Hp} : zok lv h (zcallS oc idx pc lv st h) := by
  unfold zcallS
  split
  · exact ok_ite ⟨rfl, rfl⟩ ok_no
  · split
    · exact ok_ite (ok_go rfl ⟨Nat.le_refl _, Nat.le_refl _⟩) ok_no
    · exact ok_no
  · split
    · exact ok_ite ok_g0 ok_no
    · exact ok_no
  · split
    · exact ok_ite ok_g0 ok_no
    · exact ok_no
  · exact ok_no
theorem ok_znew {mi oc idx pc0 pc : Nat} {lv st : List Value} {h : Hp} : zok lv h (znew mi oc idx pc0 pc lv st h) := by
  unfold znew
  split
  · exact ok_ite (ok_go rfl ⟨Nat.le_add_right _ _, Nat.le_add_right _ _⟩) ok_no
  · split
    · refine ok_ite ⟨⟨Nat.le_add_right _ _, Nat.le_add_right _ _⟩, ?_⟩ ok_no
      intro E hE
      injection hE with hE
      exact ⟨_, hE.symm⟩
    · exact ok_no
  · exact ok_no
theorem ok_znwa {kd pc : Nat} {lv st : List Value} {h : Hp} : zok lv h (znwa kd pc lv st h) := by
  unfold znwa
  split
  · exact ok_ite (ok_go rfl ⟨Nat.le_add_right _ _, Nat.le_add_right _ _⟩) ok_no
  · exact ok_no
theorem ok_zmna {pc : Nat} {lv st : List Value} {h : Hp} : zok lv h (zmna pc lv st h) := by
  unfold zmna
  split
  · refine ok_ite (ok_go rfl ⟨?_, ?_⟩) ok_no
    · show zC h.2 ≤ zC h.2 + 1 + 2
      omega
    · show zL h.2 ≤ zL h.2 + 2 + _
      omega
  · exact ok_no
theorem ok_zald {k pc : Nat} {lv st : List Value} {h : Hp} : zok lv h (zald k pc lv st h) := by
  unfold zald
  split
  · refine ok_ite (ok_ite ok_g0 (ok_ite ok_g0 (ok_ite ?_ ok_no))) ok_no
    split
    · exact ok_g0
    · exact ok_no
  · exact ok_no
theorem ok_zast {k pc : Nat} {lv st : List Value} {h : Hp} : zok lv h (zast k pc lv st h) := by
  unfold zast
  split
  · exact ok_ite (ok_ite (ok_go rfl ⟨Nat.le_refl _, Nat.le_refl _⟩) (ok_ite (ok_go rfl ⟨Nat.le_refl _, Nat.le_refl _⟩) (ok_ite (ok_go rfl ⟨Nat.le_refl _, Nat.le_refl _⟩) ok_no))) ok_no
  · exact ok_ite (ok_go rfl ⟨Nat.le_refl _, Nat.le_refl _⟩) ok_no
  · exact ok_ite (ok_go rfl ⟨Nat.le_refl _, Nat.le_refl _⟩) ok_no
  · exact ok_no
theorem ok_zalen {pc : Nat} {lv st : List Value} {h : Hp} : zok lv h (zalen pc lv st h) := by
  unfold zalen
  split
  · exact ok_ite ok_g0 ok_no
  · exact ok_no
theorem ok_zret {mi k : Nat} {lv st : List Value} {h : Hp} : zok lv h (zret mi k st h) := by
  have g : ∀ v : Option Value, zok lv h (some (.inr (.inl (.inl v, h)))) := fun v => ⟨⟨Nat.le_refl _, Nat.le_refl _⟩, fun E hE => by cases hE⟩
  unfold zret
  split
  · split
    · exact ok_ite (g _) ok_no
    · exact ok_no
  · split
    · exact g _
    · exact ok_no
  · exact ok_ite (g _) ok_no
  · exact ok_ite (g _) ok_no
  · exact ok_no
theorem ok_zldc {oc idx pc : Nat} {lv st : List Value} {h : Hp} : zok lv h (zldc oc idx pc lv st h) := by
  unfold zldc
  split
  · split
    · exact ok_g0
    · exact ok_no
  · exact ok_g0
  · exact ok_no
set_option maxHeartbeats 4000000 in
theorem zins_ok {mi oc : Nat} {i : Instr} {pc : Nat} {lv st : List Value} {h : Hp} : zok lv h (zins mi oc i pc lv st h) := by
  cases i with
  | iconst k => exact ok_g0
  | bipush k => exact ok_g0
  | sipush k => exact ok_g0
  | lconst k => exact ok_g0
  | iload i => exact ok_zload
  | iload_n i => exact ok_zload
  | aload i => exact ok_zload
  | aload_n i => exact ok_zload
  | lload i => exact ok_zload
  | lload_n i => exact ok_zload
  | istore i => 
    unfold zins
    simp only
    split
    · exact ok_zst
    · exact ok_no
  | istore_n i => 
    unfold zins
    simp only
    split
    · exact ok_zst
    · exact ok_no
  | astore i => 
    unfold zins
    simp only
    split
    · exact ok_zst
    · exact ok_no
  | astore_n i => 
    unfold zins
    simp only
    split
    · exact ok_zst
    · exact ok_no
  | lstore_n i => 
    unfold zins
    simp only
    split
    · exact ok_zst2
    · exact ok_no
  | iinc i k => 
    unfold zins
    simp only
    split
    · exact ok_zst
    · exact ok_no
  | iadd => exact ok_zii
  | isub => exact ok_zii
  | imul => exact ok_zii
  | iand => exact ok_zii
  | ior => exact ok_zii
  | ixor => exact ok_zii
  | ishl => exact ok_zii
  | ishr => exact ok_zii
  | iushr => exact ok_zii
  | ladd => exact ok_zll
  | lmul => exact ok_zll
  | land => exact ok_zll
  | lor => exact ok_zll
  | lshl => exact ok_zli
  | lshr => exact ok_zli
  | l2i => exact ok_zl1
  | ineg => exact ok_zi1
  | i2b => exact ok_zi1
  | i2c => exact ok_zi1
  | i2l => exact ok_zi1
  | lcmp => 
    unfold zins
    simp only
    split
    · exact ok_g0
    · exact ok_no
  | dup => 
    unfold zins
    simp only
    split
    · exact ok_ite ok_g0 ok_no
    · exact ok_no
  | pop => 
    unfold zins
    simp only
    split
    · exact ok_g0
    · exact ok_g0
    · exact ok_no
  | dup2 => 
    unfold zins
    simp only
    split
    · exact ok_g0
    · exact ok_no
  | ifCond q off => 
    unfold zins
    simp only
    split
    · exact ok_zbr
    · exact ok_no
  | if_icmp q off => 
    unfold zins
    simp only
    split
    · exact ok_zbr
    · exact ok_no
  | goto off => exact ok_zbr
  | tableswitch a b c d => 
    unfold zins
    simp only
    split
    · refine ok_ite ok_zbr ?_
      split
      · exact ok_zbr
      · exact ok_no
    · exact ok_no
  | lookupswitch a b => 
    unfold zins
    simp only
    split
    · exact ok_ite ok_zbr ok_no
    · exact ok_no
  | ldc i => exact ok_zldc
  | ldc_w i => 
    unfold zins
    simp only
    split
    · exact ok_g0
    · exact ok_no
  | ldc2_w i => 
    unfold zins
    simp only
    split
    · exact ok_g0
    · exact ok_no
  | getfield i => exact ok_zget
  | putfield i => exact ok_zput
  | getstatic i => 
    unfold zins
    simp only
    split
    · exact ok_g0
    · exact ok_g0
    · exact ok_no
  | invokevirtual i => exact ok_zcallV
  | invokespecial i => exact ok_zcallI
  | invokestatic i => exact ok_zcallS
  | new i => exact ok_znew
  | newarray t => 
    cases t with
    | int => exact ok_znwa
    | byte => exact ok_znwa
    | boolean => exact ok_znwa
    | long => exact ok_znwa
    | _ => exact ok_no
  | anewarray i => exact ok_ite ok_znwa ok_no
  | multianewarray i d => exact ok_ite ok_zmna ok_no
  | iaload => exact ok_zald
  | baload => exact ok_zald
  | laload => exact ok_zald
  | aaload => exact ok_zald
  | iastore => exact ok_zast
  | bastore => exact ok_zast
  | lastore => exact ok_zast
  | aastore => exact ok_zast
  | arraylength => exact ok_zalen
  | ireturn => exact ok_zret
  | areturn => exact ok_zret
  | lreturn => exact ok_zret
  | return_ => exact ok_zret
  | _ => exact ok_no
theorem zstep_ok {mi : Nat} {s : ZS} : zok s.2.1 s.2.2.2 (zstep mi s) := by
  unfold zstep
  split
  · exact ok_ite zins_ok ok_no
  · exact ok_no
theorem zrun_ok : ∀ (n d mi : Nat) (s : ZS) (o : ZO), zrun n d mi s = some o → (zC s.2.2.2.2 ≤ zC o.2.2 ∧ zL s.2.2.2.2 ≤ zL o.2.2) ∧ ∀ E, o.1 = .inr E → ∃ e, E = zE e := by
  intro n
  induction n with
  | zero => intro d mi s o h; simp [zrun] at h
  | succ n ih =>
    intro d mi s o h
    rw [zrun] at h
    have ho := zstep_ok (mi := mi) (s := s)
    cases hs : zstep mi s with
    | none => rw [hs] at h; cases h
    | some r =>
      rw [hs] at h ho
      match r, h, ho with
      | .inl s', h, ho =>
        have g := ih _ _ _ _ h
        exact ⟨⟨Nat.le_trans ho.2.1 g.1.1, Nat.le_trans ho.2.2 g.1.2⟩, g.2⟩
      | .inr (.inl o'), h, ho =>
        cases h
        exact ho
      | .inr (.inr (cm, as, ini, s')), h, ho =>
        have hh : s'.2.2.2 = s.2.2.2 := ho.2
        cases d with
        | zero => cases h
        | succ d' =>
          simp only at h
          by_cases hz : (zlay as).length ≤ zmx cm
          case neg => rw [if_neg hz] at h; cases h
          rw [if_pos hz] at h
          cases hc : zrun n d' cm (0, zent cm as, [], s'.2.2.2) with
          | none => rw [hc] at h; cases h
          | some q =>
            have g1 := ih _ _ _ _ hc
            have g1' : zC s.2.2.2.2 ≤ zC q.2.2 ∧ zL s.2.2.2.2 ≤ zL q.2.2 := by
              rw [← hh]
              exact g1.1
            rw [hc] at h
            match q, h, g1, g1' with
            | (.inl v, h'), h, g1, g1' =>
              simp only at h
              split at h
              · have g := ih _ _ _ _ h
                exact ⟨⟨Nat.le_trans g1'.1 g.1.1, Nat.le_trans g1'.2 g.1.2⟩, g.2⟩
              · cases h
            | (.inr E, h'), h, g1, g1' =>
              simp only at h
              cases hh2 : zhn mi s.1 E with
              | none =>
                rw [hh2] at h
                cases h
                exact ⟨g1', g1.2⟩
              | some q2 =>
                rw [hh2] at h
                simp only at h
                split at h
                · have g := ih _ _ _ _ h
                  exact ⟨⟨Nat.le_trans g1'.1 g.1.1, Nat.le_trans g1'.2 g.1.2⟩, g.2⟩
                · cases h
