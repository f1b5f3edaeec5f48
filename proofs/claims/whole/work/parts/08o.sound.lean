-- instructions that go on to a next one, or nowhere
def zpl (r : ZR) : Prop := match r with
  | some (.inr _) => False
  | _ => True
theorem pl_g0 {pc : Nat} {lv st : List Value} {h : Hp} : zpl (zgo pc lv st h) := trivial
theorem pl_no : zpl none := trivial
theorem pl_ite {c : Prop} [Decidable c] {a b : ZR} (ha : zpl a) (hb : zpl b) : zpl (if c then a else b) := by
  split
  · exact ha
  · exact hb
theorem pl_zst {lv st : List Value} {i pc : Nat} {v : Value} {h : Hp} : zpl (zst lv i v pc st h) := pl_ite pl_g0 pl_no
theorem pl_zst2 {lv st : List Value} {i pc : Nat} {v : Value} {h : Hp} : zpl (zst2 lv i v pc st h) := pl_ite pl_g0 pl_no
theorem pl_zbr {c : Bool} {pc n : Nat} {off : Int} {lv st : List Value} {h : Hp} : zpl (zbr c pc n off lv st h) := pl_ite (pl_ite pl_g0 pl_g0) pl_no
theorem pl_zload {lv st : List Value} {i k pc : Nat} {h : Hp} : zpl (zload lv i k pc st h) := by
  unfold zload
  split
  · exact pl_g0
  · exact pl_g0
  · exact pl_g0
  · exact pl_no
theorem pl_zii {f : Int32 → Int32 → Int32} {pc : Nat} {lv st : List Value} {h : Hp} : zpl (zii f pc lv st h) := by
  unfold zii
  split
  · exact pl_g0
  · exact pl_no
theorem pl_zll {f : Int64 → Int64 → Int64} {pc : Nat} {lv st : List Value} {h : Hp} : zpl (zll f pc lv st h) := by
  unfold zll
  split
  · exact pl_g0
  · exact pl_no
theorem pl_zli {f : Int64 → Int32 → Int64} {pc : Nat} {lv st : List Value} {h : Hp} : zpl (zli f pc lv st h) := by
  unfold zli
  split
  · exact pl_g0
  · exact pl_no
theorem pl_zl1 {f : Int64 → Value} {pc : Nat} {lv st : List Value} {h : Hp} : zpl (zl1 f pc lv st h) := by
  unfold zl1
  split
  · exact pl_g0
  · exact pl_no
theorem pl_zi1 {f : Int32 → Value} {pc : Nat} {lv st : List Value} {h : Hp} : zpl (zi1 f pc lv st h) := by
  unfold zi1
  split
  · exact pl_g0
  · exact pl_no
theorem pl_zget {oc idx pc : Nat} {lv st : List Value} {h : Hp} : zpl (zget oc idx pc lv st h) := by
  unfold zget
  split
  · refine pl_ite (pl_ite ?_ (pl_ite pl_no pl_g0)) pl_no
    split
    · exact pl_g0
    · exact pl_no
  · exact pl_no
theorem pl_zput {mi oc idx pc : Nat} {lv st : List Value} {h : Hp} : zpl (zput mi oc idx pc lv st h) := by
  unfold zput
  split
  · exact pl_ite pl_g0 pl_no
  · exact pl_ite pl_g0 pl_no
  · exact pl_no
theorem pl_znwa {kd pc : Nat} {lv st : List Value} {h : Hp} : zpl (znwa kd pc lv st h) := by
  unfold znwa
  split
  · exact pl_ite pl_g0 pl_no
  · exact pl_no
theorem pl_zmna {pc : Nat} {lv st : List Value} {h : Hp} : zpl (zmna pc lv st h) := by
  unfold zmna
  split
  · exact pl_ite pl_g0 pl_no
  · exact pl_no
theorem pl_zald {k pc : Nat} {lv st : List Value} {h : Hp} : zpl (zald k pc lv st h) := by
  unfold zald
  split
  · refine pl_ite (pl_ite pl_g0 (pl_ite pl_g0 (pl_ite ?_ pl_no))) pl_no
    split
    · exact pl_g0
    · exact pl_no
  · exact pl_no
theorem pl_zast {k pc : Nat} {lv st : List Value} {h : Hp} : zpl (zast k pc lv st h) := by
  unfold zast
  split
  · exact pl_ite (pl_ite pl_g0 (pl_ite pl_g0 (pl_ite pl_g0 pl_no))) pl_no
  · exact pl_ite pl_g0 pl_no
  · exact pl_ite pl_g0 pl_no
  · exact pl_no
theorem pl_zalen {pc : Nat} {lv st : List Value} {h : Hp} : zpl (zalen pc lv st h) := by
  unfold zalen
  split
  · exact pl_ite pl_g0 pl_no
  · exact pl_no
theorem pl_zldc {oc idx pc : Nat} {lv st : List Value} {h : Hp} : zpl (zldc oc idx pc lv st h) := by
  unfold zldc
  split
  · split
    · exact pl_g0
    · exact pl_no
  · exact pl_g0
  · exact pl_no
def zspec (i : Instr) : Bool := match i with
  | .invokevirtual _ | .invokespecial _ | .invokestatic _ | .new _ | .ireturn | .areturn | .lreturn | .return_ => true
  | _ => false
set_option maxHeartbeats 4000000 in
theorem zins_pl {mi oc : Nat} {i : Instr} {pc : Nat} {lv st : List Value} {h : Hp} (hs : zspec i = false) : zpl (zins mi oc i pc lv st h) := by
  cases i with
  | iconst k => exact pl_g0
  | bipush k => exact pl_g0
  | sipush k => exact pl_g0
  | lconst k => exact pl_g0
  | iload i => exact pl_zload
  | iload_n i => exact pl_zload
  | aload i => exact pl_zload
  | aload_n i => exact pl_zload
  | lload i => exact pl_zload
  | lload_n i => exact pl_zload
  | istore i => 
    unfold zins
    simp only
    split
    · exact pl_zst
    · exact pl_no
  | istore_n i => 
    unfold zins
    simp only
    split
    · exact pl_zst
    · exact pl_no
  | astore i => 
    unfold zins
    simp only
    split
    · exact pl_zst
    · exact pl_no
  | astore_n i => 
    unfold zins
    simp only
    split
    · exact pl_zst
    · exact pl_no
  | lstore_n i => 
    unfold zins
    simp only
    split
    · exact pl_zst2
    · exact pl_no
  | iinc i k => 
    unfold zins
    simp only
    split
    · exact pl_zst
    · exact pl_no
  | iadd => exact pl_zii
  | isub => exact pl_zii
  | imul => exact pl_zii
  | iand => exact pl_zii
  | ior => exact pl_zii
  | ixor => exact pl_zii
  | ishl => exact pl_zii
  | ishr => exact pl_zii
  | iushr => exact pl_zii
  | ladd => exact pl_zll
  | lmul => exact pl_zll
  | land => exact pl_zll
  | lor => exact pl_zll
  | lshl => exact pl_zli
  | lshr => exact pl_zli
  | l2i => exact pl_zl1
  | ineg => exact pl_zi1
  | i2b => exact pl_zi1
  | i2c => exact pl_zi1
  | i2l => exact pl_zi1
  | lcmp => 
    unfold zins
    simp only
    split
    · exact pl_g0
    · exact pl_no
  | dup => 
    unfold zins
    simp only
    split
    · exact pl_ite pl_g0 pl_no
    · exact pl_no
  | pop => 
    unfold zins
    simp only
    split
    · exact pl_g0
    · exact pl_g0
    · exact pl_no
  | dup2 => 
    unfold zins
    simp only
    split
    · exact pl_g0
    · exact pl_no
  | ifCond q off => 
    unfold zins
    simp only
    split
    · exact pl_zbr
    · exact pl_no
  | if_icmp q off => 
    unfold zins
    simp only
    split
    · exact pl_zbr
    · exact pl_no
  | goto off => exact pl_zbr
  | tableswitch a b c d => 
    unfold zins
    simp only
    split
    · refine pl_ite pl_zbr ?_
      split
      · exact pl_zbr
      · exact pl_no
    · exact pl_no
  | lookupswitch a b => 
    unfold zins
    simp only
    split
    · exact pl_ite pl_zbr pl_no
    · exact pl_no
  | ldc i => exact pl_zldc
  | ldc_w i => 
    unfold zins
    simp only
    split
    · exact pl_g0
    · exact pl_no
  | ldc2_w i => 
    unfold zins
    simp only
    split
    · exact pl_g0
    · exact pl_no
  | getfield i => exact pl_zget
  | putfield i => exact pl_zput
  | getstatic i => 
    unfold zins
    simp only
    split
    · exact pl_g0
    · exact pl_g0
    · exact pl_no
  | invokevirtual i => cases hs
  | invokespecial i => cases hs
  | invokestatic i => cases hs
  | new i => cases hs
  | newarray t => 
    cases t with
    | int => exact pl_znwa
    | byte => exact pl_znwa
    | boolean => exact pl_znwa
    | long => exact pl_znwa
    | _ => exact pl_no
  | anewarray i => exact pl_ite pl_znwa pl_no
  | multianewarray i d => exact pl_ite pl_zmna pl_no
  | iaload => exact pl_zald
  | baload => exact pl_zald
  | laload => exact pl_zald
  | aaload => exact pl_zald
  | iastore => exact pl_zast
  | bastore => exact pl_zast
  | lastore => exact pl_zast
  | aastore => exact pl_zast
  | arraylength => exact pl_zalen
  | ireturn => cases hs
  | areturn => cases hs
  | lreturn => cases hs
  | return_ => cases hs
  | _ => exact pl_no

theorem ret_nocall (k : Nat) {mi : Nat} {st : List Value} {h : Hp} {q : Nat × List Value × Bool × ZS} : ¬ zret mi k st h = some (.inr (.inr q)) := by
  intro hz
  unfold zret at hz
  split at hz
  · split at hz
    · obtain ⟨_, hz⟩ := if_inl hz
      cases hz
    · cases hz
  · split at hz
    · cases hz
    · cases hz
  · obtain ⟨_, hz⟩ := if_inl hz
    cases hz
  · obtain ⟨_, hz⟩ := if_inl hz
    cases hz
  · cases hz
theorem zoc_all : zmf.all (fun q => !(q.2.2.1 == 0) || decide (zoc q.1 < 9)) = true := by decide +kernel
theorem zoc_no {q : Nat × Nat × Nat × Nat × Nat × Nat} (hq : q ∈ zmf) (h0 : q.2.2.1 = 0) : zoc q.1 < 9 := by
  have := List.all_eq_true.mp zoc_all q hq
  rw [h0] at this
  simpa using this
section Sound
variable {l : Launch} {D : va_G} {B0 : Nat} {fa : Nat → Nat} {fx : Value} {FM : ZM} {FS : ZH}
variable {p : Program} {e : Env} {R : Room} {s : State} {m : MethodId} {args : Array Value} {below : List Frame} {meth : Method} {c : Code} {Q : State → Prop}
variable {n0 c0 s0 : Nat} {ad0 : Nat → Nat} {mi d pc : Nat} {lv r : List Value} {h : Hp}

variable {st : List Value}
set_option maxHeartbeats 2000000 in
theorem sd_end (hl : l.stackTraces = false) (C : zCtx B0 fa fx FM FS p R s m args meth c mi d) {i : Instr} {n : Nat} {o : ZO} (hd : decode (zcod mi) pc = .ok (i, n)) (hn : n = zlen i ∨ zvar i = true) (hz : zins mi (zoc mi) i pc lv st h = some (.inr (.inl o))) (hlv : lv.length = zmx mi) (hge : c0 ≤ zC h.2 ∧ s0 ≤ zL h.2) (hcap : zC o.2.2 ≤ c0 + R.cells ∧ zL o.2.2 ≤ s0 + R.slots) (hq : Q = vx_MQ below (zQc D B0 fa fx FM FS n0 ad0 o) (zXC D B0 fa FM FS n0 ad0 o) args s (zC o.2.2 - c0) (zL o.2.2 - s0) (zA B0)) : zGd l D B0 fa fx FM FS p e R s m args below meth c Q n0 c0 s0 ad0 (pc) (lv) (st) (h) := by
  cases hsp : zspec i with
  | false =>
    have := zins_pl (mi := mi) (oc := zoc mi) (pc := pc) (lv := lv) (st := st) (h := h) hsp
    rw [hz] at this
    exact this.elim
  | true =>
    cases i with
    | ireturn =>
      obtain rfl : n = 1 := hn.elim id (fun q => by cases q)
      replace hz : zret mi 0 st h = _ := hz
      unfold zret at hz
      split at hz
      · rename_i h0
        split at hz
        · rename_i ty ht
          obtain ⟨hnn, hz⟩ := if_inl hz
          have ho : o = (.inl (some (.int _)), h) := (Sum.inl.inj (Sum.inr.inj (Option.some.inj hz))).symm
          exact sd_iret C ht hnn hd ho hq
        · cases hz
      · rename_i h0; cases h0
      · rename_i h0; cases h0
      · rename_i h0; cases h0
      · cases hz
    | areturn =>
      obtain rfl : n = 1 := hn.elim id (fun q => by cases q)
      replace hz : zret mi 1 st h = _ := hz
      unfold zret at hz
      split at hz
      · rename_i h0; cases h0
      · split at hz
        · rename_i cn ht
          have ho : o = (.inl (some (.ref _)), h) := (Sum.inl.inj (Sum.inr.inj (Option.some.inj hz))).symm
          exact sd_aret C ht hd ho hq
        · cases hz
      · rename_i h0; cases h0
      · rename_i h0; cases h0
      · cases hz
    | lreturn =>
      obtain rfl : n = 1 := hn.elim id (fun q => by cases q)
      replace hz : zret mi 2 st h = _ := hz
      unfold zret at hz
      split at hz
      · rename_i h0; cases h0
      · rename_i h0; cases h0
      · obtain ⟨ht, hz⟩ := if_inl hz
        have ho : o = (.inl (some (.long _)), h) := (Sum.inl.inj (Sum.inr.inj (Option.some.inj hz))).symm
        exact sd_lret C ht hd ho hq
      · rename_i h0; cases h0
      · cases hz
    | return_ =>
      obtain rfl : n = 1 := hn.elim id (fun q => by cases q)
      replace hz : zret mi 3 st h = _ := hz
      unfold zret at hz
      split at hz
      · rename_i h0; cases h0
      · rename_i h0; cases h0
      · rename_i h0; cases h0
      · obtain ⟨ht, hz⟩ := if_inl hz
        have ho : o = (.inl none, h) := (Sum.inl.inj (Sum.inr.inj (Option.some.inj hz))).symm
        exact sd_vret C ht hd ho hq
      · cases hz
    | new idx =>
      replace hz : znew mi (zoc mi) idx pc (pc + 3) lv st h = _ := hz
      unfold znew at hz
      split at hz
      · obtain ⟨_, hz⟩ := if_inl hz
        cases hz
      · split at hz
        · rename_i e1 he
          obtain ⟨hc, hz⟩ := if_inl hz
          have ho : o = (.inr (zE e1), (h.1, thR h.2)) := (Sum.inl.inj (Sum.inr.inj (Option.some.inj hz))).symm
          exact sd_throw hl C he hc hlv hge (by rw [ho] at hcap; exact hcap) ho hq
        · cases hz
      · cases hz
    | invokevirtual idx =>
      replace hz : zcallV (zoc mi) idx (pc + 3) lv st h = _ := hz
      unfold zcallV at hz
      split at hz
      · obtain ⟨_, hz⟩ := if_inl hz
        split at hz
        · obtain ⟨_, hz⟩ := if_inl hz
          cases hz
        · cases hz
      · cases hz
    | invokespecial idx =>
      replace hz : zcallI (zoc mi) idx (pc + 3) lv st h = _ := hz
      unfold zcallI at hz
      split at hz
      · obtain ⟨_, hz⟩ := if_inl hz
        split at hz
        · obtain ⟨_, hz⟩ := if_inl hz
          cases hz
        · cases hz
      · split at hz
        · obtain ⟨_, hz⟩ := if_inl hz
          cases hz
        · cases hz
      · cases hz
    | invokestatic idx =>
      replace hz : zcallS (zoc mi) idx (pc + 3) lv st h = _ := hz
      unfold zcallS at hz
      split at hz
      · obtain ⟨_, hz⟩ := if_inl hz
        cases hz
      · split at hz
        · obtain ⟨_, hz⟩ := if_inl hz
          cases hz
        · cases hz
      · split at hz
        · obtain ⟨_, hz⟩ := if_inl hz
          cases hz
        · cases hz
      · split at hz
        · obtain ⟨_, hz⟩ := if_inl hz
          cases hz
        · cases hz
      · cases hz
    | _ => cases hsp

set_option maxHeartbeats 4000000 in
theorem sd_callz (F : zFSok FM FS) {d' : Nat} (C : zCtx B0 fa fx FM FS p R s m args meth c mi (d' + 1)) {i : Instr} {n k cm : Nat} {as : List Value} {ini : Bool} {s' : ZS} {o o1 : ZO} (hS : zSound l D B0 fa fx FM FS k) (hd : decode (zcod mi) pc = .ok (i, n)) (hn : n = zlen i ∨ zvar i = true) (hz : zins mi (zoc mi) i pc lv st h = some (.inr (.inr (cm, as, ini, s')))) (hr : zrun k d' cm (0, zent cm as, [], h) = some o1) (hla : (zlay as).length ≤ zmx cm) (hlv : lv.length = zmx mi) (hge : c0 ≤ zC h.2 ∧ s0 ≤ zL h.2) (hcap : zC o1.2.2 ≤ c0 + R.cells ∧ zL o1.2.2 ≤ s0 + R.slots) (hq : Q = vx_MQ below (zQc D B0 fa fx FM FS n0 ad0 o) (zXC D B0 fa FM FS n0 ad0 o) args s (zC o.2.2 - c0) (zL o.2.2 - s0) (zA B0))
    (k1 : ∀ v, o1.1 = .inl v → zaft ini h o1.2 lv s'.2.2.1 = true ∧ zGd l D B0 fa fx FM FS p e R s m args below meth c Q n0 c0 s0 ad0 (s'.1) (lv) (v.toList ++ s'.2.2.1) (o1.2))
    (k2 : ∀ E, o1.1 = .inr E → (zhn mi pc E = none ∧ o = (.inr E, o1.2)) ∨ ∃ hp i, zhn mi pc E = some (hp, i) ∧ zN o1.2.2 = zN h.2 ∧ zGd l D B0 fa fx FM FS p e R s m args below meth c Q n0 c0 s0 ad0 (hp) ((stB lv i).set i tok) ([]) (o1.2)) : zGd l D B0 fa fx FM FS p e R s m args below meth c Q n0 c0 s0 ad0 (pc) (lv) (st) (h) := by
  have hmo := zrun_ok k d' cm _ o1 hr
  have hmo1 : zC h.2 ≤ zC o1.2.2 ∧ zL h.2 ≤ zL o1.2.2 := hmo.1
  have k2' : ∀ E, o1.1 = .inr E → (∃ e1, E = zE e1) ∧ ((zhn mi pc E = none ∧ o = (.inr E, o1.2)) ∨ ∃ hp i, zhn mi pc E = some (hp, i) ∧ zN o1.2.2 = zN h.2 ∧ zGd l D B0 fa fx FM FS p e R s m args below meth c Q n0 c0 s0 ad0 (hp) ((stB lv i).set i tok) ([]) (o1.2)) := fun E hE => ⟨hmo.2 E hE, k2 E hE⟩
  have hR1 : d' + 13 ≤ R.frames := by have := C.2.2.2.2.2.2.2.2.2.2.1; omega
  have hR2 : 60 * d' + 460 ≤ R.locals := by have := C.2.2.2.2.2.2.2.2.2.2.2; omega
  have hcells : zC h.2 - c0 + (zC o1.2.2 - zC h.2) ≤ R.cells ∧ zL h.2 - s0 + (zL o1.2.2 - zL h.2) ≤ R.slots := ⟨by omega, by omega⟩
  intro ad cf tys H locs ls I
  have hls : ls.size = zmx mi := I.2.2.2.1.1.trans hlv
  have fix : CallFix p m c (zcod mi) (zmx mi) s args lw_good (zcnm (zoc mi)) := ⟨C.1, C.2.1, C.2.2.1, C.2.2.2.2.1, C.2.2.2.2.2.1⟩
  have hPc : ∀ U : State, U.heap = H → s.WarmedH U.vm → zPc D B0 fa fx FM FS as h ad cf tys (as.map (tr fx ad)).toArray U := fun U hU hW => ⟨rfl, va_K.moved hW.alike I.1, by rw [hU]; exact I.2.1, C.2.2.2.2.2.2.2.2.2.1.next I.2.2.1 hU hW⟩
  cases hsp : zspec i with
  | false =>
    have := zins_pl (mi := mi) (oc := zoc mi) (pc := pc) (lv := lv) (st := st) (h := h) hsp
    rw [hz] at this
    exact this.elim
  | true =>
  cases i with
  | invokevirtual idx =>
    obtain rfl : n = 3 := hn.elim id (fun q => by cases q)
    replace hz : zcallV (zoc mi) idx (pc + 3) lv st h = _ := hz
    unfold zcallV at hz
    split at hz
    · rename_i cm9 n9 hp
      obtain ⟨hc, hz⟩ := if_inl hz
      split at hz
      · rename_i a ha
        obtain ⟨hk, hz⟩ := if_inl hz
        have e9 := Sum.inr.inj (Sum.inr.inj (Option.some.inj hz))
        simp only [Prod.mk.injEq] at e9
        obtain ⟨rfl, rfl, rfl, rfl⟩ := e9
        obtain ⟨w1, w2, q, hq0, hq1, hq2⟩ := zpV hp
        subst hq1
        obtain ⟨x1, x2, x3⟩ := (zmfs hq0).2.2.2.1 hq2
        have hlt : n9 < st.length := (List.getElem?_eq_some_iff.mp ha).1
        have est : st = (st.take n9) ++ .ref a :: st.drop (n9 + 1) := by
          have h1 : st[n9] = .ref a := (List.getElem?_eq_some_iff.mp ha).2
          rw [← h1, List.getElem_cons_drop, List.take_append_drop]
        have ert : (st.take (n9 + 1)).reverse = .ref a :: (st.take n9).reverse := by
          rw [List.take_succ, ha]
          simp
        have hM := zMet_of hS hr hla hq0 rfl ad cf tys
        rw [ert] at hM hPc
        have hrun := vx_runV (H := H) (locs := locs) (below := below) (meth := meth) (e := e) (C := (zyn q.1).cls) (g := F0 m pc ls (st.map (tr fx ad))) (As := ((st.take n9).reverse).map (tr fx ad)) (rest := (st.drop (n9 + 1)).map (tr fx ad)) (b := ad a) fix hM ⟨zcallB (mi := mi) C.2.2.2.2.2.1 hq0 w1 w2 x3 hR1 hR2, C.2.2.2.2.2.1 _ x1, C.2.2.2.2.2.1 _ x2⟩ ⟨zPc_blind, ?_, fun U hU hW => by have := hPc U hU hW; rwa [List.map_cons] at this⟩ rfl (by rw [List.length_map, List.length_reverse, List.length_take]; omega) hls ?_ (lv_room (by rw [tr_cS C.2.2.2.2.2.2.2.2.2.1.2.2.2.2.2.2.2.2.2.1]; exact hc)) hd hcells
        · exact sd_after C hq hlv hge hmo1 k1 k2' I hrun
        · have hcls := (zmfs hq0).2.1
          rw [hcls]
          by_cases h8 : zoc q.1 < 8
          · have ha' := own_of F I.2.1 (a := a) (by omega) (Or.inl (by omega))
            exact va_recv (q := (zcnm (zoc q.1), zTT (zoc q.1), zNN (zoc q.1))) I.1 I.2.1.1 (zTT_cl _ h8) (show (wl ad cf h)[a]? = some (ad a, .inr (zoc q.1, _)) by rw [wl_get ha', zcell_obj hk h8])
          · have hge9 : 1000000 ≤ a := by
              rcases own_or I.2.1 (a := a) (by omega) with g | g
              · rcases I.2.1.2.2.1 a g with g2 | g2
                · omega
                · exact absurd (zoc_no hq0 hq2) (by omega)
              · exact g
            have hfo := I.2.1.2.2.2.2.1 a hge9
            have hz9 : zoc q.1 = 8 ∧ ∃ j, j < 17 ∧ a = 1000001 + j := by
              rcases F.1 a hge9 with g | g | g | g
              · omega
              · have := zoc_no hq0 hq2; omega
              · exact ⟨by omega, g.2⟩
              · have := zoc_no hq0 hq2; omega
            obtain ⟨h88, j, hj, rfl⟩ := hz9
            rw [h88, hfo.1]
            exact va_Orecv (C.2.2.2.2.2.2.2.2.2.1.2.1 j hj).1 I.2.2.1
        · show st.map (tr fx ad) = _
          conv => lhs; rw [est]
          rw [List.map_append, List.map_cons, List.map_reverse, List.reverse_reverse]
          rfl
      · cases hz
    · cases hz
  | invokespecial idx =>
    obtain rfl : n = 3 := hn.elim id (fun q => by cases q)
    replace hz : zcallI (zoc mi) idx (pc + 3) lv st h = _ := hz
    unfold zcallI at hz
    split at hz
    · rename_i cm9 n9 hp
      obtain ⟨hc, hz⟩ := if_inl hz
      split at hz
      · rename_i a ha
        obtain ⟨hk, hz⟩ := if_inl hz
        have e9 := Sum.inr.inj (Sum.inr.inj (Option.some.inj hz))
        simp only [Prod.mk.injEq] at e9
        obtain ⟨rfl, rfl, rfl, rfl⟩ := e9
        obtain ⟨w1, w2, q, hq0, hq1, hq2⟩ := zpI hp
        subst hq1
        obtain ⟨x1, x2, x3, x4⟩ := (zmfs hq0).2.2.2.2.2 (by omega) (by omega)
        have hlt : n9 < st.length := (List.getElem?_eq_some_iff.mp ha).1
        have est : st = (st.take n9) ++ .ref a :: st.drop (n9 + 1) := by
          have h1 : st[n9] = .ref a := (List.getElem?_eq_some_iff.mp ha).2
          rw [← h1, List.getElem_cons_drop, List.take_append_drop]
        have ert : (st.take (n9 + 1)).reverse = .ref a :: (st.take n9).reverse := by
          rw [List.take_succ, ha]
          simp
        have hM := zMet_of hS hr hla hq0 rfl ad cf tys
        rw [ert] at hM hPc
        have hB := zcallB (mi := mi) (d' := d') (mc := zC o1.2.2 - zC h.2) (ms := zL o1.2.2 - zL h.2) C.2.2.2.2.2.1 hq0 w1 w2 x4 hR1 hR2
        rw [x3] at hB
        have hrun := vx_runI (H := H) (locs := locs) (below := below) (meth := meth) (e := e) (g := F0 m pc ls (st.map (tr fx ad))) (As := ((st.take n9).reverse).map (tr fx ad)) (rest := (st.drop (n9 + 1)).map (tr fx ad)) (b := ad a) fix hM ⟨hB, x2, C.2.2.2.2.2.1 _ x1⟩ ⟨zPc_blind, fun U hU hW => by have := hPc U hU hW; rwa [List.map_cons] at this⟩ rfl (by rw [List.length_map, List.length_reverse, List.length_take]; omega) hls ?_ (lv_room (by rw [tr_cS C.2.2.2.2.2.2.2.2.2.1.2.2.2.2.2.2.2.2.2.1]; exact hc)) hd hcells
        · exact sd_after C hq hlv hge hmo1 k1 k2' I hrun
        · show st.map (tr fx ad) = _
          conv => lhs; rw [est]
          rw [List.map_append, List.map_cons, List.map_reverse, List.reverse_reverse]
          rfl
      · cases hz
    · split at hz
      · obtain ⟨_, hz⟩ := if_inl hz
        cases hz
      · cases hz
    · cases hz
  | invokestatic idx =>
    obtain rfl : n = 3 := hn.elim id (fun q => by cases q)
    replace hz : zcallS (zoc mi) idx (pc + 3) lv st h = _ := hz
    unfold zcallS at hz
    split at hz
    · rename_i cm9 n9 hp
      obtain ⟨hc, hz⟩ := if_inl hz
      have e9 := Sum.inr.inj (Sum.inr.inj (Option.some.inj hz))
      simp only [Prod.mk.injEq] at e9
      obtain ⟨rfl, rfl, rfl, rfl⟩ := e9
      obtain ⟨w1, w2, q, hq0, hq1, hq2⟩ := zpT hp
      subst hq1
      have x1 := (zmfs hq0).2.2.2.2.1 hq2
      have hM := zMet_of hS hr hla hq0 rfl ad cf tys
      have hlen : (((st.take n9).reverse).map (tr fx ad)).length = n9 := by rw [List.length_map, List.length_reverse, List.length_take]; omega
      have hstk : (F0 m pc ls (st.map (tr fx ad))).stack = (((st.take n9).reverse).map (tr fx ad)).reverse ++ (st.drop n9).map (tr fx ad) := by
        show st.map (tr fx ad) = _
        rw [List.map_reverse, List.reverse_reverse, ← List.map_append, List.take_append_drop]
      by_cases hh : zhh q.1 = []
      · have hrun := vx_runS (H := H) (locs := locs) (below := below) (meth := meth) (e := e) (g := F0 m pc ls (st.map (tr fx ad))) (As := ((st.take n9).reverse).map (tr fx ad)) (rest := (st.drop n9).map (tr fx ad)) fix hM ⟨zcallB (mi := mi) C.2.2.2.2.2.1 hq0 w1 w2 hh hR1 hR2, C.2.2.2.2.2.1 _ x1⟩ ⟨zPc_blind, hPc⟩ rfl hlen hls hstk (lv_room (by rw [tr_cS C.2.2.2.2.2.2.2.2.2.1.2.2.2.2.2.2.2.2.2.1]; exact hc.1)) hd hcells
        exact sd_after C hq hlv hge hmo1 k1 k2' I hrun
      · have hrun := vx_runSX (H := H) (locs := locs) (below := below) (meth := meth) (e := e) (g := F0 m pc ls (st.map (tr fx ad))) (As := ((st.take n9).reverse).map (tr fx ad)) (rest := (st.drop n9).map (tr fx ad)) fix hM (zcallSW (mi := mi) C.2.2.2.2.2.1 hq0 w1 w2 hh x1 hR1 hR2) ⟨zPc_blind, hPc⟩ rfl hlen hls hstk (lv_room (by rw [tr_cS C.2.2.2.2.2.2.2.2.2.1.2.2.2.2.2.2.2.2.2.1]; exact hc.1)) hd hcells
        exact sd_after C hq hlv hge hmo1 k1 k2' I hrun
    · split at hz
      · obtain ⟨_, hz⟩ := if_inl hz
        cases hz
      · cases hz
    · split at hz
      · obtain ⟨_, hz⟩ := if_inl hz
        cases hz
      · cases hz
    · split at hz
      · obtain ⟨_, hz⟩ := if_inl hz
        cases hz
      · cases hz
    · cases hz
  | new idx =>
    replace hz : znew mi (zoc mi) idx pc (pc + 3) lv st h = _ := hz
    unfold znew at hz
    split at hz
    · obtain ⟨_, hz⟩ := if_inl hz
      cases hz
    · split at hz
      · obtain ⟨_, hz⟩ := if_inl hz
        cases hz
      · cases hz
    · cases hz
  | ireturn => exact absurd hz (ret_nocall 0)
  | areturn => exact absurd hz (ret_nocall 1)
  | lreturn => exact absurd hz (ret_nocall 2)
  | return_ => exact absurd hz (ret_nocall 3)
  | _ => cases hsp

theorem zstep_inv {x : ZS ⊕ (ZO ⊕ (Nat × List Value × Bool × ZS))} (hz : zstep mi (pc, lv, st, h) = some x) : ∃ (i : Instr) (n : Nat), decode (zcod mi) pc = .ok (i, n) ∧ (n = zlen i ∨ zvar i = true) ∧ zins mi (zoc mi) i pc lv st h = some x := by
  unfold zstep at hz
  split at hz
  · rename_i i n hd
    obtain ⟨hn, hz⟩ := if_inl hz
    exact ⟨i, n, hd, hn, hz⟩
  · cases hz
set_option maxHeartbeats 2000000 in
theorem zsound (hl : l.stackTraces = false) (F : zFSok FM FS) : ∀ n, zSound l D B0 fa fx FM FS n := by
  intro n
  induction n with
  | zero => intro d mi pc lv st h o hr; simp [zrun] at hr
  | succ n ih =>
    intro d mi pc lv st h o hr hlv p e R s m args below meth c n0 c0 s0 ad0 C hge hcap
    rw [zrun] at hr
    cases hs : zstep mi (pc, lv, st, h) with
    | none => rw [hs] at hr; cases hr
    | some x =>
      rw [hs] at hr
      obtain ⟨i, k, hd, hn, hz⟩ := zstep_inv hs
      have hok := zins_ok (mi := mi) (oc := zoc mi) (i := i) (pc := pc) (lv := lv) (st := st) (h := h)
      rw [hz] at hok
      match x, hr, hz, hok with
      | .inl (pc', lv', st', h'), hr, hz, hok =>
        have hr' : zrun n d mi (pc', lv', st', h') = some o := hr
        have g := (zrun_ok n d mi _ o hr').1
        have g1 : zC h'.2 ≤ zC o.2.2 := g.1
        have g2 : zL h'.2 ≤ zL o.2.2 := g.2
        have h1 : lv'.length = lv.length := hok.1
        have h2 : zC h.2 ≤ zC h'.2 := hok.2.1
        have h3 : zL h.2 ≤ zL h'.2 := hok.2.2
        exact sd_ins F C hd hn hz hlv hge ⟨by omega, by omega⟩ (ih d mi pc' lv' st' h' o hr' (by omega) p e R s m args below meth c n0 c0 s0 ad0 C ⟨by omega, by omega⟩ hcap)
      | .inr (.inl o'), hr, hz, hok =>
        cases hr
        exact sd_end hl C hd hn hz hlv hge hcap rfl
      | .inr (.inr (cm, as, ini, s')), hr, hz, hok =>
        have e1 : s'.2.1 = lv := hok.1
        have e2 : s'.2.2.2 = h := hok.2
        cases d with
        | zero => cases hr
        | succ d' =>
          simp only at hr
          by_cases hla : (zlay as).length ≤ zmx cm
          case neg => rw [if_neg hla] at hr; cases hr
          rw [if_pos hla, e2, e1] at hr
          cases hc : zrun n d' cm (0, zent cm as, [], h) with
          | none => rw [hc] at hr; cases hr
          | some o1 =>
            rw [hc] at hr
            have gm := (zrun_ok n d' cm _ o1 hc).1
            have gm1 : zC h.2 ≤ zC o1.2.2 := gm.1
            have gm2 : zL h.2 ≤ zL o1.2.2 := gm.2
            have hfin : zC o1.2.2 ≤ zC o.2.2 ∧ zL o1.2.2 ≤ zL o.2.2 := by
              match o1, hr with
              | (.inl v, h1), hr =>
                simp only at hr
                split at hr
                · exact (zrun_ok _ _ _ _ _ hr).1
                · cases hr
              | (.inr E, h1), hr =>
                simp only at hr
                cases hh : zhn mi pc E with
                | none =>
                  rw [hh] at hr
                  cases hr
                  exact ⟨Nat.le_refl _, Nat.le_refl _⟩
                | some q2 =>
                  rw [hh] at hr
                  simp only at hr
                  split at hr
                  · exact (zrun_ok _ _ _ _ _ hr).1
                  · cases hr
            refine sd_callz F C ih hd hn hz hc hla hlv hge ⟨by omega, by omega⟩ rfl ?_ ?_
            · intro v hv
              obtain ⟨o11, h1⟩ := o1
              simp only at hv
              subst hv
              simp only at hr
              split at hr
              · rename_i hza
                exact ⟨hza, ih (d' + 1) mi s'.1 lv _ h1 o hr hlv p e R s m args below meth c n0 c0 s0 ad0 C ⟨Nat.le_trans hge.1 gm1, Nat.le_trans hge.2 gm2⟩ hcap⟩
              · cases hr
            · intro E hE
              obtain ⟨o11, h1⟩ := o1
              simp only at hE
              subst hE
              simp only at hr
              cases hh : zhn mi pc E with
              | none =>
                rw [hh] at hr
                exact Or.inl ⟨rfl, (Option.some.inj hr).symm⟩
              | some q2 =>
                obtain ⟨hp, i2⟩ := q2
                rw [hh] at hr
                simp only at hr
                split at hr
                · rename_i hN
                  exact Or.inr ⟨hp, i2, rfl, hN, ih (d' + 1) mi hp _ [] h1 o hr (by rw [List.length_set, stB_len]; exact hlv) p e R s m args below meth c n0 c0 s0 ad0 C ⟨Nat.le_trans hge.1 gm1, Nat.le_trans hge.2 gm2⟩ hcap⟩
                · cases hr

end Sound
