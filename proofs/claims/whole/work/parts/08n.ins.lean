theorem zgo_inj {pc pc' : Nat} {lv lv' st st' : List Value} {h h' : Hp} (hz : zgo pc lv st h = some (.inl (pc', lv', st', h'))) : pc = pc' ∧ lv = lv' ∧ st = st' ∧ h = h' := by
  have := Sum.inl.inj (Option.some.inj hz)
  simpa only [Prod.mk.injEq] using this
theorem if_inl {c : Prop} [Decidable c] {a : ZR} {x : ZS ⊕ (ZO ⊕ (Nat × List Value × Bool × ZS))} (h : (if c then a else none) = some x) : c ∧ a = some x := by
  split at h
  · rename_i hc; exact ⟨hc, h⟩
  · cases h
theorem zii_inv {f : Int32 → Int32 → Int32} {pc pc' : Nat} {lv lv' st st' : List Value} {h h' : Hp} (hz : zii f pc lv st h = some (.inl (pc', lv', st', h'))) : ∃ x y r, st = .int y :: .int x :: r ∧ pc = pc' ∧ lv = lv' ∧ .int (f x y) :: r = st' ∧ h = h' := by
  unfold zii at hz
  split at hz
  · exact ⟨_, _, _, rfl, zgo_inj hz⟩
  · cases hz
theorem zll_inv {f : Int64 → Int64 → Int64} {pc pc' : Nat} {lv lv' st st' : List Value} {h h' : Hp} (hz : zll f pc lv st h = some (.inl (pc', lv', st', h'))) : ∃ x y r, st = .long y :: .long x :: r ∧ pc = pc' ∧ lv = lv' ∧ .long (f x y) :: r = st' ∧ h = h' := by
  unfold zll at hz
  split at hz
  · exact ⟨_, _, _, rfl, zgo_inj hz⟩
  · cases hz
theorem zli_inv {f : Int64 → Int32 → Int64} {pc pc' : Nat} {lv lv' st st' : List Value} {h h' : Hp} (hz : zli f pc lv st h = some (.inl (pc', lv', st', h'))) : ∃ x y r, st = .int y :: .long x :: r ∧ pc = pc' ∧ lv = lv' ∧ .long (f x y) :: r = st' ∧ h = h' := by
  unfold zli at hz
  split at hz
  · exact ⟨_, _, _, rfl, zgo_inj hz⟩
  · cases hz
theorem zl1_inv {f : Int64 → Value} {pc pc' : Nat} {lv lv' st st' : List Value} {h h' : Hp} (hz : zl1 f pc lv st h = some (.inl (pc', lv', st', h'))) : ∃ x r, st = .long x :: r ∧ pc = pc' ∧ lv = lv' ∧ f x :: r = st' ∧ h = h' := by
  unfold zl1 at hz
  split at hz
  · exact ⟨_, _, rfl, zgo_inj hz⟩
  · cases hz
theorem zi1_inv {f : Int32 → Value} {pc pc' : Nat} {lv lv' st st' : List Value} {h h' : Hp} (hz : zi1 f pc lv st h = some (.inl (pc', lv', st', h'))) : ∃ x r, st = .int x :: r ∧ pc = pc' ∧ lv = lv' ∧ f x :: r = st' ∧ h = h' := by
  unfold zi1 at hz
  split at hz
  · exact ⟨_, _, rfl, zgo_inj hz⟩
  · cases hz
theorem zload_inv {lv lv' st st' : List Value} {i k pc pc' : Nat} {h h' : Hp} (hz : zload lv i k pc st h = some (.inl (pc', lv', st', h'))) : pc = pc' ∧ lv = lv' ∧ h = h' ∧ ((k = 0 ∧ ∃ x, lv[i]? = some (.int x) ∧ .int x :: st = st') ∨ (k = 1 ∧ ∃ x, lv[i]? = some (.ref x) ∧ .ref x :: st = st') ∨ (k = 2 ∧ ∃ x, lv[i]? = some (.long x) ∧ .long x :: st = st')) := by
  unfold zload at hz
  split at hz
  · rename_i hx; obtain ⟨a, b, c, d⟩ := zgo_inj hz; exact ⟨a, b, d, Or.inl ⟨rfl, _, hx, c⟩⟩
  · rename_i hx; obtain ⟨a, b, c, d⟩ := zgo_inj hz; exact ⟨a, b, d, Or.inr (Or.inl ⟨rfl, _, hx, c⟩)⟩
  · rename_i hx; obtain ⟨a, b, c, d⟩ := zgo_inj hz; exact ⟨a, b, d, Or.inr (Or.inr ⟨rfl, _, hx, c⟩)⟩
  · cases hz
theorem zst_inv {lv lv' st st' : List Value} {i pc pc' : Nat} {v : Value} {h h' : Hp} (hz : zst lv i v pc st h = some (.inl (pc', lv', st', h'))) : i < lv.length ∧ pc = pc' ∧ (stB lv i).set i v = lv' ∧ st = st' ∧ h = h' := by
  obtain ⟨a, b⟩ := if_inl hz
  exact ⟨a, zgo_inj b⟩
theorem zst2_inv {lv lv' st st' : List Value} {i pc pc' : Nat} {v : Value} {h h' : Hp} (hz : zst2 lv i v pc st h = some (.inl (pc', lv', st', h'))) : i + 1 < lv.length ∧ pc = pc' ∧ ((stB lv i).set i v).set (i + 1) tok = lv' ∧ st = st' ∧ h = h' := by
  obtain ⟨a, b⟩ := if_inl hz
  exact ⟨a, zgo_inj b⟩
theorem zbr_inv {c : Bool} {pc pc' n : Nat} {off : Int} {lv lv' st st' : List Value} {h h' : Hp} (hz : zbr c pc n off lv st h = some (.inl (pc', lv', st', h'))) : ∃ tgt : Nat, (pc : Int) + off = (tgt : Int) ∧ lv = lv' ∧ st = st' ∧ h = h' ∧ ((c = true ∧ tgt = pc') ∨ (c = false ∧ pc + n = pc')) := by
  obtain ⟨a, b⟩ := if_inl hz
  refine ⟨((pc : Int) + off).toNat, by omega, ?_⟩
  cases c with
  | true => obtain ⟨x, y, z, w⟩ := zgo_inj b; exact ⟨y, z, w, Or.inl ⟨rfl, x⟩⟩
  | false => obtain ⟨x, y, z, w⟩ := zgo_inj b; exact ⟨y, z, w, Or.inr ⟨rfl, x⟩⟩

theorem ret_noinl (k : Nat) {mi : Nat} {st : List Value} {h : Hp} {s' : ZS} : ¬ zret mi k st h = some (.inl s') := by
  intro hz
  unfold zret at hz
  split at hz
  · split at hz
    · obtain ⟨_, hz⟩ := if_inl hz
      injection hz with hz
      cases hz
    · cases hz
  · split at hz
    · injection hz with hz
      cases hz
    · cases hz
  · obtain ⟨_, hz⟩ := if_inl hz
    injection hz with hz
    cases hz
  · obtain ⟨_, hz⟩ := if_inl hz
    injection hz with hz
    cases hz
  · cases hz
section Sound
variable {l : Launch} {D : va_G} {B0 : Nat} {fa : Nat → Nat} {fx : Value} {FM : ZM} {FS : ZH}
variable {p : Program} {e : Env} {R : Room} {s : State} {m : MethodId} {args : Array Value} {below : List Frame} {meth : Method} {c : Code} {Q : State → Prop}
variable {n0 c0 s0 : Nat} {ad0 : Nat → Nat} {mi d pc : Nat} {lv r : List Value} {h : Hp}

variable {st st' lv' : List Value} {h' : Hp} {pc' : Nat}
set_option maxHeartbeats 8000000 in
theorem sd_ins (F : zFSok FM FS) (C : zCtx B0 fa fx FM FS p R s m args meth c mi d) {i : Instr} {n : Nat} (hd : decode (zcod mi) pc = .ok (i, n)) (hn : n = zlen i ∨ zvar i = true) (hz : zins mi (zoc mi) i pc lv st h = some (.inl (pc', lv', st', h'))) (hlv : lv.length = zmx mi) (hge : c0 ≤ zC h.2 ∧ s0 ≤ zL h.2) (hcap : zC h'.2 ≤ c0 + R.cells ∧ zL h'.2 ≤ s0 + R.slots) (kk : zGd l D B0 fa fx FM FS p e R s m args below meth c Q n0 c0 s0 ad0 (pc') (lv') (st') (h')) : zGd l D B0 fa fx FM FS p e R s m args below meth c Q n0 c0 s0 ad0 (pc) (lv) (st) (h) := by
  obtain ⟨M, Rz⟩ := h
  cases i with
  | iconst k =>
    obtain rfl : n = 1 := hn.elim id (fun q => by cases q)
    obtain ⟨rfl, rfl, rfl, rfl⟩ := zgo_inj hz
    exact sd_iconst C hd kk
  | bipush k =>
    obtain rfl : n = 2 := hn.elim id (fun q => by cases q)
    obtain ⟨rfl, rfl, rfl, rfl⟩ := zgo_inj hz
    exact sd_bipush C hd kk
  | sipush k =>
    obtain rfl : n = 3 := hn.elim id (fun q => by cases q)
    obtain ⟨rfl, rfl, rfl, rfl⟩ := zgo_inj hz
    exact sd_sipush C hd kk
  | lconst k =>
    obtain rfl : n = 1 := hn.elim id (fun q => by cases q)
    obtain ⟨rfl, rfl, rfl, rfl⟩ := zgo_inj hz
    exact sd_lconst C hd kk
  | iload i =>
    obtain rfl : n = 2 := hn.elim id (fun q => by cases q)
    obtain ⟨rfl, rfl, rfl, g⟩ := zload_inv hz
    rcases g with g | g | g
    · obtain ⟨-, x, hx, rfl⟩ := g
      exact sd_iload C hx hd kk
    · exact absurd g.1 (by decide)
    · exact absurd g.1 (by decide)
  | iload_n i =>
    obtain rfl : n = 1 := hn.elim id (fun q => by cases q)
    obtain ⟨rfl, rfl, rfl, g⟩ := zload_inv hz
    rcases g with g | g | g
    · obtain ⟨-, x, hx, rfl⟩ := g
      exact sd_iload_n C hx hd kk
    · exact absurd g.1 (by decide)
    · exact absurd g.1 (by decide)
  | aload i =>
    obtain rfl : n = 2 := hn.elim id (fun q => by cases q)
    obtain ⟨rfl, rfl, rfl, g⟩ := zload_inv hz
    rcases g with g | g | g
    · exact absurd g.1 (by decide)
    · obtain ⟨-, x, hx, rfl⟩ := g
      exact sd_aload C hx hd kk
    · exact absurd g.1 (by decide)
  | aload_n i =>
    obtain rfl : n = 1 := hn.elim id (fun q => by cases q)
    obtain ⟨rfl, rfl, rfl, g⟩ := zload_inv hz
    rcases g with g | g | g
    · exact absurd g.1 (by decide)
    · obtain ⟨-, x, hx, rfl⟩ := g
      exact sd_aload_n C hx hd kk
    · exact absurd g.1 (by decide)
  | lload i =>
    obtain rfl : n = 2 := hn.elim id (fun q => by cases q)
    obtain ⟨rfl, rfl, rfl, g⟩ := zload_inv hz
    rcases g with g | g | g
    · exact absurd g.1 (by decide)
    · exact absurd g.1 (by decide)
    · obtain ⟨-, x, hx, rfl⟩ := g
      exact sd_lload C hx hd kk
  | lload_n i =>
    obtain rfl : n = 1 := hn.elim id (fun q => by cases q)
    obtain ⟨rfl, rfl, rfl, g⟩ := zload_inv hz
    rcases g with g | g | g
    · exact absurd g.1 (by decide)
    · exact absurd g.1 (by decide)
    · obtain ⟨-, x, hx, rfl⟩ := g
      exact sd_lload_n C hx hd kk
  | istore i =>
    obtain rfl : n = 2 := hn.elim id (fun q => by cases q)
    unfold zins at hz
    simp only at hz
    split at hz
    · obtain ⟨hi, rfl, rfl, rfl, rfl⟩ := zst_inv hz
      exact sd_istore C hi hd kk
    · cases hz
  | istore_n i =>
    obtain rfl : n = 1 := hn.elim id (fun q => by cases q)
    unfold zins at hz
    simp only at hz
    split at hz
    · obtain ⟨hi, rfl, rfl, rfl, rfl⟩ := zst_inv hz
      exact sd_istore_n C hi hd kk
    · cases hz
  | astore i =>
    obtain rfl : n = 2 := hn.elim id (fun q => by cases q)
    unfold zins at hz
    simp only at hz
    split at hz
    · obtain ⟨hi, rfl, rfl, rfl, rfl⟩ := zst_inv hz
      exact sd_astore C hi hd kk
    · cases hz
  | astore_n i =>
    obtain rfl : n = 1 := hn.elim id (fun q => by cases q)
    unfold zins at hz
    simp only at hz
    split at hz
    · obtain ⟨hi, rfl, rfl, rfl, rfl⟩ := zst_inv hz
      exact sd_astore_n C hi hd kk
    · cases hz
  | lstore_n i =>
    obtain rfl : n = 1 := hn.elim id (fun q => by cases q)
    unfold zins at hz
    simp only at hz
    split at hz
    · obtain ⟨hi, rfl, rfl, rfl, rfl⟩ := zst2_inv hz
      exact sd_lstore_n C hi hd kk
    · cases hz
  | iinc i k =>
    obtain rfl : n = 3 := hn.elim id (fun q => by cases q)
    unfold zins at hz
    simp only at hz
    split at hz
    · rename_i hx
      obtain ⟨hi, rfl, rfl, rfl, rfl⟩ := zst_inv hz
      exact sd_iinc C hx hi hd kk
    · cases hz
  | iadd =>
    obtain rfl : n = 1 := hn.elim id (fun q => by cases q)
    obtain ⟨x, y, r, rfl, rfl, rfl, rfl, rfl⟩ := zii_inv hz
    exact sd_iadd C hd kk
  | isub =>
    obtain rfl : n = 1 := hn.elim id (fun q => by cases q)
    obtain ⟨x, y, r, rfl, rfl, rfl, rfl, rfl⟩ := zii_inv hz
    exact sd_isub C hd kk
  | imul =>
    obtain rfl : n = 1 := hn.elim id (fun q => by cases q)
    obtain ⟨x, y, r, rfl, rfl, rfl, rfl, rfl⟩ := zii_inv hz
    exact sd_imul C hd kk
  | iand =>
    obtain rfl : n = 1 := hn.elim id (fun q => by cases q)
    obtain ⟨x, y, r, rfl, rfl, rfl, rfl, rfl⟩ := zii_inv hz
    exact sd_iand C hd kk
  | ior =>
    obtain rfl : n = 1 := hn.elim id (fun q => by cases q)
    obtain ⟨x, y, r, rfl, rfl, rfl, rfl, rfl⟩ := zii_inv hz
    exact sd_ior C hd kk
  | ixor =>
    obtain rfl : n = 1 := hn.elim id (fun q => by cases q)
    obtain ⟨x, y, r, rfl, rfl, rfl, rfl, rfl⟩ := zii_inv hz
    exact sd_ixor C hd kk
  | ishl =>
    obtain rfl : n = 1 := hn.elim id (fun q => by cases q)
    obtain ⟨x, y, r, rfl, rfl, rfl, rfl, rfl⟩ := zii_inv hz
    exact sd_ishl C hd kk
  | ishr =>
    obtain rfl : n = 1 := hn.elim id (fun q => by cases q)
    obtain ⟨x, y, r, rfl, rfl, rfl, rfl, rfl⟩ := zii_inv hz
    exact sd_ishr C hd kk
  | iushr =>
    obtain rfl : n = 1 := hn.elim id (fun q => by cases q)
    obtain ⟨x, y, r, rfl, rfl, rfl, rfl, rfl⟩ := zii_inv hz
    exact sd_iushr C hd kk
  | ladd =>
    obtain rfl : n = 1 := hn.elim id (fun q => by cases q)
    obtain ⟨x, y, r, rfl, rfl, rfl, rfl, rfl⟩ := zll_inv hz
    exact sd_ladd C hd kk
  | lmul =>
    obtain rfl : n = 1 := hn.elim id (fun q => by cases q)
    obtain ⟨x, y, r, rfl, rfl, rfl, rfl, rfl⟩ := zll_inv hz
    exact sd_lmul C hd kk
  | land =>
    obtain rfl : n = 1 := hn.elim id (fun q => by cases q)
    obtain ⟨x, y, r, rfl, rfl, rfl, rfl, rfl⟩ := zll_inv hz
    exact sd_land C hd kk
  | lor =>
    obtain rfl : n = 1 := hn.elim id (fun q => by cases q)
    obtain ⟨x, y, r, rfl, rfl, rfl, rfl, rfl⟩ := zll_inv hz
    exact sd_lor C hd kk
  | ineg =>
    obtain rfl : n = 1 := hn.elim id (fun q => by cases q)
    obtain ⟨x, r, rfl, rfl, rfl, rfl, rfl⟩ := zi1_inv hz
    exact sd_ineg C hd kk
  | i2b =>
    obtain rfl : n = 1 := hn.elim id (fun q => by cases q)
    obtain ⟨x, r, rfl, rfl, rfl, rfl, rfl⟩ := zi1_inv hz
    exact sd_i2b C hd kk
  | i2c =>
    obtain rfl : n = 1 := hn.elim id (fun q => by cases q)
    obtain ⟨x, r, rfl, rfl, rfl, rfl, rfl⟩ := zi1_inv hz
    exact sd_i2c C hd kk
  | i2l =>
    obtain rfl : n = 1 := hn.elim id (fun q => by cases q)
    obtain ⟨x, r, rfl, rfl, rfl, rfl, rfl⟩ := zi1_inv hz
    exact sd_i2l C hd kk
  | lshl =>
    obtain rfl : n = 1 := hn.elim id (fun q => by cases q)
    obtain ⟨x, y, r, rfl, rfl, rfl, rfl, rfl⟩ := zli_inv hz
    exact sd_lshl C hd kk
  | lshr =>
    obtain rfl : n = 1 := hn.elim id (fun q => by cases q)
    obtain ⟨x, y, r, rfl, rfl, rfl, rfl, rfl⟩ := zli_inv hz
    exact sd_lshr C hd kk
  | l2i =>
    obtain rfl : n = 1 := hn.elim id (fun q => by cases q)
    obtain ⟨x, r, rfl, rfl, rfl, rfl, rfl⟩ := zl1_inv hz
    exact sd_l2i C hd kk
  | lcmp =>
    obtain rfl : n = 1 := hn.elim id (fun q => by cases q)
    unfold zins at hz
    simp only at hz
    split at hz
    · obtain ⟨rfl, rfl, rfl, rfl⟩ := zgo_inj hz
      exact sd_lcmp C hd kk
    · cases hz
  | dup =>
    obtain rfl : n = 1 := hn.elim id (fun q => by cases q)
    unfold zins at hz
    simp only at hz
    split at hz
    · obtain ⟨hc, hz⟩ := if_inl hz
      obtain ⟨rfl, rfl, rfl, rfl⟩ := zgo_inj hz
      exact sd_dup C hc.1 hd kk
    · cases hz
  | pop =>
    obtain rfl : n = 1 := hn.elim id (fun q => by cases q)
    unfold zins at hz
    simp only at hz
    split at hz
    · obtain ⟨rfl, rfl, rfl, rfl⟩ := zgo_inj hz
      exact sd_pop C rfl hd kk
    · obtain ⟨rfl, rfl, rfl, rfl⟩ := zgo_inj hz
      exact sd_pop C rfl hd kk
    · cases hz
  | dup2 =>
    obtain rfl : n = 1 := hn.elim id (fun q => by cases q)
    unfold zins at hz
    simp only at hz
    split at hz
    · obtain ⟨rfl, rfl, rfl, rfl⟩ := zgo_inj hz
      exact sd_dup2 C hd kk
    · cases hz
  | ifCond q off =>
    obtain rfl : n = 3 := hn.elim id (fun q => by cases q)
    unfold zins at hz
    simp only at hz
    split at hz
    · obtain ⟨tgt, ht, rfl, rfl, rfl, g⟩ := zbr_inv hz
      rcases g with ⟨g1, rfl⟩ | ⟨g1, rfl⟩
      · exact sd_ifCond C hd ht (fun _ => kk) (fun g2 => by rw [g1] at g2; cases g2)
      · exact sd_ifCond C hd ht (fun g2 => by rw [g1] at g2; cases g2) (fun _ => kk)
    · cases hz
  | if_icmp q off =>
    obtain rfl : n = 3 := hn.elim id (fun q => by cases q)
    unfold zins at hz
    simp only at hz
    split at hz
    · obtain ⟨tgt, ht, rfl, rfl, rfl, g⟩ := zbr_inv hz
      rcases g with ⟨g1, rfl⟩ | ⟨g1, rfl⟩
      · exact sd_if_icmp C hd ht (fun _ => kk) (fun g2 => by rw [g1] at g2; cases g2)
      · exact sd_if_icmp C hd ht (fun g2 => by rw [g1] at g2; cases g2) (fun _ => kk)
    · cases hz
  | goto off =>
    obtain rfl : n = 3 := hn.elim id (fun q => by cases q)
    obtain ⟨tgt, ht, rfl, rfl, rfl, g⟩ := zbr_inv hz
    rcases g with ⟨g1, rfl⟩ | ⟨g1, rfl⟩
    · exact sd_goto C ht hd kk
    · cases g1
  | tableswitch dflt lo hi offs =>
    unfold zins at hz
    simp only at hz
    split at hz
    · split at hz
      · rename_i hx
        obtain ⟨tgt, ht, rfl, rfl, rfl, g⟩ := zbr_inv hz
        rcases g with ⟨g1, rfl⟩ | ⟨g1, rfl⟩
        · exact sd_tsOut C hx ht hd kk
        · cases g1
      · rename_i hx
        split at hz
        · rename_i off ho
          obtain ⟨tgt, ht, rfl, rfl, rfl, g⟩ := zbr_inv hz
          rcases g with ⟨g1, rfl⟩ | ⟨g1, rfl⟩
          · exact sd_tsIn C (fun q => hx (Or.inl q)) (fun q => hx (Or.inr q)) ho ht hd kk
          · cases g1
        · cases hz
    · cases hz
  | lookupswitch dflt ps =>
    unfold zins at hz
    simp only at hz
    split at hz
    · obtain ⟨hs, hz⟩ := if_inl hz
      obtain ⟨tgt, ht, rfl, rfl, rfl, g⟩ := zbr_inv hz
      rcases g with ⟨g1, rfl⟩ | ⟨g1, rfl⟩
      · exact sd_ls C hs ht hd kk
      · cases g1
    · cases hz
  | ldc idx =>
    obtain rfl : n = 2 := hn.elim id (fun q => by cases q)
    replace hz : zldc (zoc mi) idx (pc + 2) lv st (M, Rz) = _ := hz
    unfold zldc at hz
    split at hz
    · split at hz
      · rename_i hv
        obtain ⟨rfl, rfl, rfl, rfl⟩ := zgo_inj hz
        exact sd_ldcI F C hd hv kk
      · cases hz
    · rename_i hp
      obtain ⟨rfl, rfl, rfl, rfl⟩ := zgo_inj hz
      exact sd_ldcS F C hd hp kk
    · cases hz
  | ldc_w idx =>
    obtain rfl : n = 3 := hn.elim id (fun q => by cases q)
    unfold zins at hz
    simp only at hz
    split at hz
    · rename_i hv
      obtain ⟨rfl, rfl, rfl, rfl⟩ := zgo_inj hz
      exact sd_ldcw F C hd hv kk
    · cases hz
  | ldc2_w idx =>
    obtain rfl : n = 3 := hn.elim id (fun q => by cases q)
    unfold zins at hz
    simp only at hz
    split at hz
    · rename_i hv
      obtain ⟨rfl, rfl, rfl, rfl⟩ := zgo_inj hz
      exact sd_ldc2 F C hd hv kk
    · cases hz
  | getfield idx =>
    obtain rfl : n = 3 := hn.elim id (fun q => by cases q)
    replace hz : zget (zoc mi) idx (pc + 3) lv st (M, Rz) = _ := hz
    unfold zget at hz
    split at hz
    · rename_i ci k a r hp
      obtain ⟨hk, hz⟩ := if_inl hz
      split at hz
      · rename_i hf
        split at hz
        · rename_i b hb
          obtain ⟨rfl, rfl, rfl, rfl⟩ := zgo_inj hz
          exact sd_getR F C hd hp hf hk hb kk
        · cases hz
      · rename_i hf
        split at hz
        · cases hz
        · obtain ⟨rfl, rfl, rfl, rfl⟩ := zgo_inj hz
          exact sd_getI F C hd hp hf hk kk
    · cases hz
  | putfield idx =>
    obtain rfl : n = 3 := hn.elim id (fun q => by cases q)
    replace hz : zput mi (zoc mi) idx (pc + 3) lv st (M, Rz) = _ := hz
    unfold zput at hz
    split at hz
    · rename_i ci k x a r hp
      obtain ⟨hk, hz⟩ := if_inl hz
      obtain ⟨rfl, rfl, rfl, rfl⟩ := zgo_inj hz
      exact sd_putI F C hd hp hk.2.2 hk.1 hk.2.1 kk
    · rename_i ci k b a r hp
      obtain ⟨hk, hz⟩ := if_inl hz
      obtain ⟨rfl, rfl, rfl, rfl⟩ := zgo_inj hz
      exact sd_putR F C hd hp hk.2.2.1 hk.1 hk.2.1 hk.2.2.2.1 hk.2.2.2.2 kk
    · cases hz
  | getstatic idx =>
    obtain rfl : n = 3 := hn.elim id (fun q => by cases q)
    unfold zins at hz
    simp only at hz
    split at hz
    · rename_i hp
      obtain ⟨rfl, rfl, rfl, rfl⟩ := zgo_inj hz
      exact sd_gs1 F C hd hp kk
    · rename_i hp
      obtain ⟨rfl, rfl, rfl, rfl⟩ := zgo_inj hz
      exact sd_gs2 F C hd hp kk
    · cases hz
  | invokevirtual idx =>
    replace hz : zcallV (zoc mi) idx (pc + 3) lv st (M, Rz) = _ := hz
    unfold zcallV at hz
    split at hz
    · obtain ⟨_, hz⟩ := if_inl hz
      split at hz
      · obtain ⟨_, hz⟩ := if_inl hz
        injection hz with hz
        cases hz
      · cases hz
    · cases hz
  | invokespecial idx =>
    obtain rfl : n = 3 := hn.elim id (fun q => by cases q)
    replace hz : zcallI (zoc mi) idx (pc + 3) lv st (M, Rz) = _ := hz
    unfold zcallI at hz
    split at hz
    · obtain ⟨_, hz⟩ := if_inl hz
      split at hz
      · obtain ⟨_, hz⟩ := if_inl hz
        injection hz with hz
        cases hz
      · cases hz
    · rename_i hp
      split at hz
      · obtain ⟨hc, hz⟩ := if_inl hz
        obtain ⟨rfl, rfl, rfl, rfl⟩ := zgo_inj hz
        exact sd_obj F C hd hp hc hlv kk
      · cases hz
    · cases hz
  | invokestatic idx =>
    obtain rfl : n = 3 := hn.elim id (fun q => by cases q)
    replace hz : zcallS (zoc mi) idx (pc + 3) lv st (M, Rz) = _ := hz
    unfold zcallS at hz
    split at hz
    · obtain ⟨_, hz⟩ := if_inl hz
      injection hz with hz
      cases hz
    · rename_i hp
      split at hz
      · obtain ⟨hc, hz⟩ := if_inl hz
        obtain ⟨rfl, rfl, rfl, rfl⟩ := zgo_inj hz
        exact sd_cpy F C hd hp hc.1 hc.2.1 hc.2.2.1 hc.2.2.2.1 hc.2.2.2.2.1 hc.2.2.2.2.2.1 hc.2.2.2.2.2.2.1 hc.2.2.2.2.2.2.2.1 hc.2.2.2.2.2.2.2.2.1 hc.2.2.2.2.2.2.2.2.2 hlv kk
      · cases hz
    · rename_i hp
      split at hz
      · obtain ⟨hc, hz⟩ := if_inl hz
        obtain ⟨rfl, rfl, rfl, rfl⟩ := zgo_inj hz
        exact sd_max F C hd hp hc hcap hlv kk
      · cases hz
    · rename_i hp
      split at hz
      · obtain ⟨hc, hz⟩ := if_inl hz
        obtain ⟨rfl, rfl, rfl, rfl⟩ := zgo_inj hz
        exact sd_min F C hd hp hc hcap hlv kk
      · cases hz
    · cases hz
  | new idx =>
    obtain rfl : n = 3 := hn.elim id (fun q => by cases q)
    replace hz : znew mi (zoc mi) idx pc (pc + 3) lv st (M, Rz) = _ := hz
    unfold znew at hz
    split at hz
    · rename_i hp
      obtain ⟨hc, hz⟩ := if_inl hz
      obtain ⟨rfl, rfl, rfl, rfl⟩ := zgo_inj hz
      exact sd_new F C hd hp hc.1 hc.2 hge hcap kk
    · split at hz
      · obtain ⟨_, hz⟩ := if_inl hz
        injection hz with hz
        cases hz
      · cases hz
    · cases hz
  | newarray t =>
    obtain rfl : n = 2 := hn.elim id (fun q => by cases q)
    cases t with
    | int =>
      replace hz : znwa 11 (pc + 2) lv st (M, Rz) = _ := hz
      unfold znwa at hz
      split at hz
      · obtain ⟨hc, hz⟩ := if_inl hz
        obtain ⟨rfl, rfl, rfl, rfl⟩ := zgo_inj hz
        exact sd_nwa_int F C hd hc.1 hc.2.1 hc.2.2.1 hc.2.2.2 hge hcap kk
      · cases hz
    | byte =>
      replace hz : znwa 12 (pc + 2) lv st (M, Rz) = _ := hz
      unfold znwa at hz
      split at hz
      · obtain ⟨hc, hz⟩ := if_inl hz
        obtain ⟨rfl, rfl, rfl, rfl⟩ := zgo_inj hz
        exact sd_nwa_byte F C hd hc.1 hc.2.1 hc.2.2.1 hc.2.2.2 hge hcap kk
      · cases hz
    | boolean =>
      replace hz : znwa 13 (pc + 2) lv st (M, Rz) = _ := hz
      unfold znwa at hz
      split at hz
      · obtain ⟨hc, hz⟩ := if_inl hz
        obtain ⟨rfl, rfl, rfl, rfl⟩ := zgo_inj hz
        exact sd_nwa_boolean F C hd hc.1 hc.2.1 hc.2.2.1 hc.2.2.2 hge hcap kk
      · cases hz
    | long =>
      replace hz : znwa 14 (pc + 2) lv st (M, Rz) = _ := hz
      unfold znwa at hz
      split at hz
      · obtain ⟨hc, hz⟩ := if_inl hz
        obtain ⟨rfl, rfl, rfl, rfl⟩ := zgo_inj hz
        exact sd_nwa_long F C hd hc.1 hc.2.1 hc.2.2.1 hc.2.2.2 hge hcap kk
      · cases hz
    | _ => cases hz
  | anewarray idx =>
    obtain rfl : n = 3 := hn.elim id (fun q => by cases q)
    replace hz : (if zp (zoc mi) idx = (3, 5, 15) then znwa 15 (pc + 3) lv st (M, Rz) else none) = _ := hz
    replace hz := if_inl hz
    obtain ⟨hp, hz⟩ := hz
    unfold znwa at hz
    split at hz
    · obtain ⟨hc, hz⟩ := if_inl hz
      obtain ⟨rfl, rfl, rfl, rfl⟩ := zgo_inj hz
      exact sd_anwa F C hd hp hc.1 hc.2.1 hc.2.2.1 hc.2.2.2 hge hcap kk
    · cases hz
  | multianewarray idx dm =>
    obtain rfl : n = 4 := hn.elim id (fun q => by cases q)
    replace hz : (if dm = 2 ∧ (zp (zoc mi) idx).1 = 5 then zmna (pc + 4) lv st (M, Rz) else none) = _ := hz
    replace hz := if_inl hz
    obtain ⟨⟨rfl, hp⟩, hz⟩ := hz
    unfold zmna at hz
    split at hz
    · replace hz := if_inl hz
      obtain ⟨⟨h2, hc⟩, hz⟩ := hz
      subst h2
      obtain ⟨rfl, rfl, rfl, rfl⟩ := zgo_inj hz
      exact sd_mna F C hd hp hc.1 hc.2.1 hc.2.2.1 hc.2.2.2 hge (by have h1 : zC Rz + 1 + 2 ≤ _ := hcap.1; have h2 : zL Rz + 2 + 2 * _ ≤ _ := hcap.2; exact ⟨h1, h2⟩) kk
    · cases hz
  | iaload =>
    obtain rfl : n = 1 := hn.elim id (fun q => by cases q)
    replace hz : zald 0 (pc + 1) lv st (M, Rz) = _ := hz
    unfold zald at hz
    split at hz
    · obtain ⟨hi, hz⟩ := if_inl hz
      split at hz
      · rename_i hc
        obtain ⟨rfl, rfl, rfl, rfl⟩ := zgo_inj hz
        exact sd_iald F C hd (hc.elim (fun q => q.2) (fun q => absurd q.1 (by decide))) hi kk
      · split at hz
        · rename_i hc
          exact absurd hc.1 (by decide)
        · split at hz
          · rename_i hc
            exact absurd hc.1 (by decide)
          · cases hz
    · cases hz
  | baload =>
    obtain rfl : n = 1 := hn.elim id (fun q => by cases q)
    replace hz : zald 1 (pc + 1) lv st (M, Rz) = _ := hz
    unfold zald at hz
    split at hz
    · obtain ⟨hi, hz⟩ := if_inl hz
      split at hz
      · rename_i hc
        obtain ⟨rfl, rfl, rfl, rfl⟩ := zgo_inj hz
        exact sd_bald F C hd (hc.elim (fun q => absurd q.1 (by decide)) (fun q => q.2)) hi kk
      · split at hz
        · rename_i hc
          exact absurd hc.1 (by decide)
        · split at hz
          · rename_i hc
            exact absurd hc.1 (by decide)
          · cases hz
    · cases hz
  | laload =>
    obtain rfl : n = 1 := hn.elim id (fun q => by cases q)
    replace hz : zald 2 (pc + 1) lv st (M, Rz) = _ := hz
    unfold zald at hz
    split at hz
    · obtain ⟨hi, hz⟩ := if_inl hz
      split at hz
      · rename_i hc
        exact absurd hc (by simp)
      · split at hz
        · rename_i hc
          obtain ⟨rfl, rfl, rfl, rfl⟩ := zgo_inj hz
          exact sd_lald F C hd hc.2 hi kk
        · split at hz
          · rename_i hc
            exact absurd hc.1 (by decide)
          · cases hz
    · cases hz
  | aaload =>
    obtain rfl : n = 1 := hn.elim id (fun q => by cases q)
    replace hz : zald 3 (pc + 1) lv st (M, Rz) = _ := hz
    unfold zald at hz
    split at hz
    · obtain ⟨hi, hz⟩ := if_inl hz
      split at hz
      · rename_i hc
        exact absurd hc (by simp)
      · split at hz
        · rename_i hc
          exact absurd hc.1 (by decide)
        · split at hz
          · rename_i hc
            split at hz
            · rename_i hb
              obtain ⟨rfl, rfl, rfl, rfl⟩ := zgo_inj hz
              exact sd_aald F C hd hc.2 hi hb kk
            · cases hz
          · cases hz
    · cases hz
  | iastore =>
    obtain rfl : n = 1 := hn.elim id (fun q => by cases q)
    replace hz : zast 0 (pc + 1) lv st (M, Rz) = _ := hz
    unfold zast at hz
    split at hz
    · obtain ⟨hi, hz⟩ := if_inl hz
      split at hz
      · rename_i hc
        obtain ⟨rfl, rfl, rfl, rfl⟩ := zgo_inj hz
        exact sd_iast F C hd hc.2 hi.2 hi.1 kk
      · split at hz
        · rename_i hc
          exact absurd hc.1 (by decide)
        · split at hz
          · rename_i hc
            exact absurd hc.1 (by decide)
          · cases hz
    · obtain ⟨hi, hz⟩ := if_inl hz
      exact absurd hi.2.2.1 (by decide)
    · obtain ⟨hi, hz⟩ := if_inl hz
      exact absurd hi.2.2.1 (by decide)
    · cases hz
  | bastore =>
    obtain rfl : n = 1 := hn.elim id (fun q => by cases q)
    replace hz : zast 1 (pc + 1) lv st (M, Rz) = _ := hz
    unfold zast at hz
    split at hz
    · obtain ⟨hi, hz⟩ := if_inl hz
      split at hz
      · rename_i hc
        exact absurd hc.1 (by decide)
      · split at hz
        · rename_i hc
          obtain ⟨rfl, rfl, rfl, rfl⟩ := zgo_inj hz
          exact sd_bast F C hd hc.2 hi.2 hi.1 kk
        · split at hz
          · rename_i hc
            obtain ⟨rfl, rfl, rfl, rfl⟩ := zgo_inj hz
            exact sd_zast F C hd hc.2 hi.2 hi.1 kk
          · cases hz
    · obtain ⟨hi, hz⟩ := if_inl hz
      exact absurd hi.2.2.1 (by decide)
    · obtain ⟨hi, hz⟩ := if_inl hz
      exact absurd hi.2.2.1 (by decide)
    · cases hz
  | lastore =>
    obtain rfl : n = 1 := hn.elim id (fun q => by cases q)
    replace hz : zast 2 (pc + 1) lv st (M, Rz) = _ := hz
    unfold zast at hz
    split at hz
    · obtain ⟨hi, hz⟩ := if_inl hz
      split at hz
      · rename_i hc
        exact absurd hc.1 (by decide)
      · split at hz
        · rename_i hc
          exact absurd hc.1 (by decide)
        · split at hz
          · rename_i hc
            exact absurd hc.1 (by decide)
          · cases hz
    · obtain ⟨hi, hz⟩ := if_inl hz
      obtain ⟨rfl, rfl, rfl, rfl⟩ := zgo_inj hz
      exact sd_last F C hd hi.2.2.2 hi.2.1 hi.1 kk
    · obtain ⟨hi, hz⟩ := if_inl hz
      exact absurd hi.2.2.1 (by decide)
    · cases hz
  | aastore =>
    obtain rfl : n = 1 := hn.elim id (fun q => by cases q)
    replace hz : zast 3 (pc + 1) lv st (M, Rz) = _ := hz
    unfold zast at hz
    split at hz
    · obtain ⟨hi, hz⟩ := if_inl hz
      split at hz
      · rename_i hc
        exact absurd hc.1 (by decide)
      · split at hz
        · rename_i hc
          exact absurd hc.1 (by decide)
        · split at hz
          · rename_i hc
            exact absurd hc.1 (by decide)
          · cases hz
    · obtain ⟨hi, hz⟩ := if_inl hz
      exact absurd hi.2.2.1 (by decide)
    · obtain ⟨hi, hz⟩ := if_inl hz
      obtain ⟨rfl, rfl, rfl, rfl⟩ := zgo_inj hz
      exact sd_aast F C hd hi.2.2.2.1 hi.2.1 hi.1 hi.2.2.2.2.1 hi.2.2.2.2.2 kk
    · cases hz
  | arraylength =>
    obtain rfl : n = 1 := hn.elim id (fun q => by cases q)
    replace hz : zalen (pc + 1) lv st (M, Rz) = _ := hz
    unfold zalen at hz
    split at hz
    · obtain ⟨hi, hz⟩ := if_inl hz
      obtain ⟨rfl, rfl, rfl, rfl⟩ := zgo_inj hz
      exact sd_alen F C hd hi kk
    · cases hz
  | ireturn =>
    exact absurd hz (ret_noinl 0)
  | areturn =>
    exact absurd hz (ret_noinl 1)
  | lreturn =>
    exact absurd hz (ret_noinl 2)
  | return_ =>
    exact absurd hz (ret_noinl 3)
  | _ =>
    cases hz
end Sound
