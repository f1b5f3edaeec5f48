/-! ===== BEGIN a constructor that throws (launches without stack traces) ===== -/
section VXIA
variable {p : Program} {l : Launch} {e : Env} {R : Room} {s : State} {m : MethodId} {args : Array Value} {below : List Frame} {meth : Method} {c : Code} {T : State} {locs : List Loc} {cells slots : Nat}
theorem vx_callI (X : Stand p l e R s m args below meth c T locs cells slots) (hexec : p.tables.exec = Jvm.exec) {own : String} {index : Nat} {y : MethodName} {bytes : ByteArray} {maxL : Nat}
    (hown : s.vm.findClass own = some m.cls) (hy1 : y.name = "<init>") (hlink : (Cond.methodLink own index y).before args s = true) (hinst : (Cond.instanceMethod y).before args s = true)
    (hcode : (Cond.code y bytes maxL none).before args s = true) (hy : y.cls ≠ "java/lang/invoke/MethodHandle" ∧ y.cls ≠ "java/lang/invoke/VarHandle")
    {W9 : Nat} {Pre : Pt → Array Value → Prop} {Post : Pt → Array Value → Option Value → Pt → Prop} {PostX : Pt → Array Value → Addr → Pt → Prop} (hK : vx_Back l R p e below s args y 3 W9 Pre Post PostX)
    {g : JFrame} (hg : g.method = m) (hsize : g.locals.size = c.maxLocals) {a : Addr} {argsL rest : List Value} (hlen : ∀ sig, parseMethodDescriptor y.desc = some sig → argsL.length = sig.parameters.length)
    (hstack : g.stack = argsL.reverse ++ .ref a :: rest) (hW : 2 * g.monitorRoom + (rest.map fun v => v.category).sum ≤ W9) (hdg : decode c.code g.pc = .ok (.invokespecial index, 3))
    (hpre : ∀ vm₁, s.WarmedH vm₁ → Pre ⟨T.setVm vm₁, locs, cells, slots⟩ (Value.ref a :: argsL).toArray) :
    (∃ (v : Option Value) (vm₁ : Vm) (B : Pt), s.WarmedH vm₁ ∧ Stand p l e R s m args below meth c B.U B.locs B.cells B.slots ∧ Post ⟨T.setVm vm₁, locs, cells, slots⟩ (Value.ref a :: argsL).toArray v B ∧
      ∀ target, Steps p.tables e below (B.U.setTop { g with pc := g.pc + 3, stack := v.toList ++ rest }) target → Steps p.tables e below (T.setTop g) target) ∨
    (∃ (q : Addr) (vm₁ : Vm) (B : Pt), s.WarmedH vm₁ ∧ Stand p l e R s m args below meth c B.U B.locs B.cells B.slots ∧ PostX ⟨T.setVm vm₁, locs, cells, slots⟩ (Value.ref a :: argsL).toArray q B ∧
      Steps p.tables e below (T.setTop g) ((B.U.setTop { g with stack := rest }).pushFrame (.throwing q))) := by
  subst hg
  have hpl : e.platform.magicAccessors = ({} : Platform).magicAccessors := by rw [X.admits.platform]
  obtain ⟨mk, methM, cM, kP, vm₁, hnamed, hmethM, hcodeM, -, hlocalsM, -, hkP, -, hW₁, hstep₁⟩ := Steps.initColdArgs (e := e) X.here hexec X.warmed hpl hown hy1 hy hlink hinst hcode (f := g) rfl hlen hstack hdg
  have X₁ := X.noted hW₁
  rcases hK g.method meth c ⟨T.setVm vm₁, locs, cells, slots⟩ { g with stack := rest } (.invokespecial index) mk (Value.ref a :: argsL).toArray X₁ rfl hsize hdg hW (X₁.named hnamed) (hpre vm₁ X₁.warmed) with ⟨v, B, X', hpost, hsteps⟩ | ⟨q, B, X', hpost, hsteps⟩
  · exact Or.inl ⟨v, vm₁, B, X₁.warmed, X', hpost, fun target h => hstep₁ _ fun acts => by rw [doInvoke_state]; exact hsteps.trans h⟩
  · exact Or.inr ⟨q, vm₁, B, X₁.warmed, X', hpost, hstep₁ _ fun acts => by rw [doInvoke_state]; exact hsteps⟩
end VXIA
section VXIB
variable {p : Program} {l : Launch} {e : Env} {R : Room} {s : State} {m : MethodId} {args : Array Value} {below : List Frame} {meth : Method} {c : Code} {H : Heap} {locs : List Loc} {cells slots : Nat}
variable {y : MethodName} {bytes cc : ByteArray} {maxL nL mc ms n index : Nat} {ret : Option FieldType} {ws : List Cond} {rm : Room} {Pc : Array Value → State → Prop} {Qc : Array Value → State → Outcome → State → Prop} {XC : String → State → State → Prop} {free : Addr → Prop} {Ts : List Cond} {own C : String} {b : Addr} {As rest : List Value} {g : JFrame}
theorem vx_runI (S : CallFix p m c cc nL s args Ts own) (hM : vx_Met l y ws rm Pc Qc XC mc ms free) (cw : CallB R s args own index y bytes maxL none ws rm mc ms n ∧ y.name = "<init>" ∧ (Cond.instanceMethod y).before args s = true) (hp : PreS s H Pc (.ref b :: As))
    (hg : g.method = m) (hn : As.length = n) (hsize : g.locals.size = nL) (hstack : g.stack = As.reverse ++ .ref b :: rest) (hW : 2 * g.monitorRoom + (rest.map fun v => v.category).sum ≤ 8) (hdg : decode cc g.pc = .ok (.invokespecial index, 3)) (hf : cells + mc ≤ R.cells ∧ slots + ms ≤ R.slots) :
    vx_Run p l e R s m args below meth c H locs cells slots mc ms g rest (Qc (Value.ref b :: As).toArray) XC free := by
  have hK : vx_Back l R p e below s args y 3 8 (PreOf R mc ms Pc) (PostOf Qc mc ms free) (vx_Post XC mc ms free) := vx_callBack cw.1 hM hp.1
  obtain ⟨⟨-, -, -, -, -, -, hcode, -, hy, hlen, hl⟩, hy1, hin⟩ := cw
  obtain ⟨hx, hb, hml, ho, -⟩ := S
  have hPc := hp.2
  intro T hT X
  rcases vx_callI X hx (bytes := bytes) (maxL := maxL) ho hy1 hl hin hcode hy hK hg (hsize.trans hml.symm) (a := b) (argsL := As) (rest := rest) (fun sig h => hn.trans (hlen sig h)) hstack hW (by rw [hb]; exact hdg)
    (fun vm₁ hW₁ => ⟨hf.1, hf.2, hPc (T.setVm vm₁) hT hW₁⟩) with ⟨v, vm₁, ⟨U', l2, c2, s2⟩, hW₁, X', ⟨g', mk, t, L, e1, e2, hq, h1, hL, h2, h3⟩, st⟩ | ⟨q, vm₁, ⟨U', l2, c2, s2⟩, hW₁, X', ⟨g', mk, t, L, E, ce, e1, e2, hq, hce, hcv, hcl, h1, hL, h2, h3⟩, st⟩
  · dsimp only [Pt.U, Pt.locs, Pt.cells, Pt.slots] at X' e1 e2 h1 h2 h3 st
    subst h1; subst h2; subst h3
    exact Or.inl ⟨v, (T.setVm vm₁).calling g' mk (Value.ref b :: As).toArray, t, U', L, hT, X', hL, e1, e2, hq, st⟩
  · dsimp only [Pt.U, Pt.locs, Pt.cells, Pt.slots] at X' e1 e2 h1 h2 h3 st hcl
    subst h1; subst h2; subst h3
    exact Or.inr ⟨q, (T.setVm vm₁).calling g' mk (Value.ref b :: As).toArray, t, U', L, E, ce, hT, X', hL, e1, e2, hq, hce, hcv, vx_cls hW₁ hcl, st⟩
end VXIB
/-! ===== END ===== -/
def zroom (d mc ms : Nat) : Room := { frames := d + 12, cells := mc, slots := ms, locals := 60 * d + 400 }
theorem zmx_le : mtab.all (fun q => decide (q.2.2.1 ≤ 41)) = true := by decide +kernel
theorem zmx41 (cm : Nat) : zmx cm ≤ 41 := by
  unfold zmx zm
  rw [List.getD_eq_getElem?_getD]
  cases h : mtab[cm]? with
  | none => decide
  | some q => simpa using List.all_eq_true.mp zmx_le q (List.mem_of_getElem? h)
theorem zmf_mh : zmf.all (fun q => decide ((zyn q.1).cls ≠ "java/lang/invoke/MethodHandle") && decide ((zyn q.1).cls ≠ "java/lang/invoke/VarHandle")) = true := by decide +kernel
set_option maxRecDepth 20000 in
theorem zloc_ok {z d' L : Nat} (h9 : z ≤ 41) (h : 60 * d' + 460 ≤ L) : 8 + (z + 11) + (60 * d' + 400) ≤ L := by omega
def zPc (D : va_G) (B0 : Nat) (fa : Nat → Nat) (fx : Value) (FM : ZM) (FS : ZH) (as : List Value) (h : Hp) (ad : Nat → Nat) (cf : Nat → ClassId) (tys : List (ClassId × FieldType)) : Array Value → State → Prop := fun v U => v = (as.map (tr fx ad)).toArray ∧ va_K D vwCl tys U ∧ zRel D B0 fa FM FS tys ad cf h U.heap ∧ zFor B0 fa fx FM FS U
theorem zPc_blind {D : va_G} {B0 : Nat} {fa : Nat → Nat} {fx : Value} {FM : ZM} {FS : ZH} {as : List Value} {h : Hp} {ad : Nat → Nat} {cf : Nat → ClassId} {tys : List (ClassId × FieldType)} : FrameBlind (zPc D B0 fa fx FM FS as h ad cf tys) := by
  intro a U g mk q
  exact ⟨q.1, va_K.moved (u := U) (U := U.calling g mk a) (Vm.Alike.refl U.vm) q.2.1, q.2.2.1, q.2.2.2.next (locs := []) va_S.rf rfl (State.WarmedH.refl U)⟩
/-- what the small machine comes to within n steps, the machine comes to -/
def zSound (l : Launch) (D : va_G) (B0 : Nat) (fa : Nat → Nat) (fx : Value) (FM : ZM) (FS : ZH) (n : Nat) : Prop :=
  ∀ (d mi pc : Nat) (lv st : List Value) (h : Hp) (o : ZO), zrun n d mi (pc, lv, st, h) = some o → lv.length = zmx mi →
    ∀ (p : Program) (e : Env) (R : Room) (s : State) (m : MethodId) (args : Array Value) (below : List Frame) (meth : Method) (c : Code) (n0 c0 s0 : Nat) (ad0 : Nat → Nat),
      zCtx B0 fa fx FM FS p R s m args meth c mi d → (c0 ≤ zC h.2 ∧ s0 ≤ zL h.2) → (zC o.2.2 ≤ c0 + R.cells ∧ zL o.2.2 ≤ s0 + R.slots) →
      zGd l D B0 fa fx FM FS p e R s m args below meth c (vx_MQ below (zQc D B0 fa fx FM FS n0 ad0 o) (zXC D B0 fa FM FS n0 ad0 o) args s (zC o.2.2 - c0) (zL o.2.2 - s0) (zA B0)) n0 c0 s0 ad0 pc lv st h
theorem zlay_mx {cm : Nat} {as : List Value} (h : (zlay as).length ≤ zmx cm) : (zent cm as).length = zmx cm := by
  unfold zent
  rw [List.length_append, List.length_replicate]
  omega
set_option maxHeartbeats 1000000 in
theorem zMet_of {l : Launch} {D : va_G} {B0 : Nat} {fa : Nat → Nat} {fx : Value} {FM : ZM} {FS : ZH} {n d cm : Nat} {as : List Value} {h : Hp} {o : ZO} (hs : zSound l D B0 fa fx FM FS n) (hr : zrun n d cm (0, zent cm as, [], h) = some o) (hz : (zlay as).length ≤ zmx cm) {q : Nat × Nat × Nat × Nat × Nat × Nat} (hq : q ∈ zmf) (hqc : q.1 = cm) (ad : Nat → Nat) (cf : Nat → ClassId) (tys : List (ClassId × FieldType)) :
    vx_Met l (zyn cm) (zcw cm :: lw_good) (zroom d (zC o.2.2 - zC h.2) (zL o.2.2 - zL h.2)) (zPc D B0 fa fx FM FS as h ad cf tys) (zQc D B0 fa fx FM FS (zN h.2) ad o) (zXC D B0 fa FM FS (zN h.2) ad o) (zC o.2.2 - zC h.2) (zL o.2.2 - zL h.2) (zA B0) := by
  subst hqc
  obtain ⟨w1, w2, w3, -, -, -⟩ := zmfs hq
  have main : ∀ (p : Program) (e : Env) (s : State) (m : MethodId) (args : Array Value) (below : List Frame) (meth : Method) (c : Code) (s₁ : State), BodyLoose p l (zyn q.1) (headSpec (zcw q.1 :: lw_good) (zroom d (zC o.2.2 - zC h.2) (zL o.2.2 - zL h.2))) (zcod q.1) (zmx q.1) (zrt q.1) e s m args below meth c s₁ → c.maxLocals = zmx q.1 → c.exceptionTable.toList = tableOf (zhh q.1) → zPc D B0 fa fx FM FS as h ad cf tys args s →
      W p l e (headSpec (zcw q.1 :: lw_good) (zroom d (zC o.2.2 - zC h.2) (zL o.2.2 - zL h.2))).room s m args below meth c s.heap [] 0 0 (vx_MQ below (zQc D B0 fa fx FM FS (zN h.2) ad o) (zXC D B0 fa FM FS (zN h.2) ad o) args s (zC o.2.2 - zC h.2) (zL o.2.2 - zL h.2) (zA B0)) (entryFrame m args (zmx q.1)) := by
    intro p e s m args below meth c s₁ B hml htab hP
    obtain ⟨rfl, hK, hR, hF⟩ := hP
    have hts := atoms_spec (ws := zcw q.1 :: lw_good) B.pre
    have C : zCtx B0 fa fx FM FS p (zroom d (zC o.2.2 - zC h.2) (zL o.2.2 - zL h.2)) s m (as.map (tr fx ad)).toArray meth c q.1 d :=
      ⟨B.exec, B.bytes, hml, B.returns, by rw [← w2]; exact findClass_of_methodNamed B.named, fun w hw => hts w (List.mem_cons_of_mem _ hw), B.notSynchronized, (name_of_methodNamed B.named B.method).1, htab, hF, Nat.le_refl _, Nat.le_refl _⟩
    have g := hs d q.1 0 (zent q.1 as) [] h o hr (zlay_mx hz) p e (zroom d (zC o.2.2 - zC h.2) (zL o.2.2 - zL h.2)) s m (as.map (tr fx ad)).toArray below meth c (zN h.2) (zC h.2) (zL h.2) ad C ⟨Nat.le_refl _, Nat.le_refl _⟩ ⟨by show _ ≤ zC h.2 + (zC o.2.2 - zC h.2); omega, by show _ ≤ zL h.2 + (zL o.2.2 - zL h.2); omega⟩ ad cf tys s.heap [] _ ⟨hK, hR, va_S.rf, okL.entry hF.2.2.2.2.2.2.2.2.2.1 hz, Nat.le_refl _, fun _ _ => rfl⟩
    rw [lg_entry_eq]
    rw [Nat.sub_self, Nat.sub_self] at g
    exact g
  by_cases hh : zhh q.1 = []
  · refine vx_ofW (cc := zcod q.1) (maxL := zmx q.1) (ret := zrt q.1) w3 (by unfold zcw; rw [if_pos hh]) ?_
    intro p e s m args below meth c s₁ B hml htab hP
    refine main p e s m args below meth c s₁ B hml ?_ hP
    rw [hh]
    exact List.eq_nil_iff_forall_not_mem.mpr (fun x hx => htab x hx)
  · refine vx_ofWH (cc := zcod q.1) (maxL := zmx q.1) (ret := zrt q.1) (hh := zhh q.1) w3 (by unfold zcw; rw [if_neg hh]) ?_
    intro p e s m args below meth c s₁ B hml hP
    refine main p e s m args below meth c s₁ B hml ?_ hP
    have hw : (Cond.codeWith (zyn q.1) (zcod q.1) (zmx q.1) (zrt q.1) (zhh q.1)).before args s = true := by
      have := atoms_spec (ws := zcw q.1 :: lw_good) B.pre _ List.mem_cons_self
      unfold zcw at this
      rw [if_neg hh] at this
      exact this
    exact vx_table (x := zyn q.1) B hw
/-- handlers: what each row is -/
def ckH (r : (Nat × Nat × Nat × Nat × Nat × Nat × Nat × Nat) × Nat) : Bool := decide (zoc r.1.1 = 9) && ckW r.2 (.classLink (zcnm 9) r.1.2.2.2.2.2.2.2 (zE r.1.2.1)) && decide (r.1.2.2.2.2.2.2.2 ≠ 0) && decide (r.1.2.2.2.2.1 < zmx r.1.1) &&
  (if r.1.2.2.2.2.1 < 4 then decide (decode (zcod r.1.1) r.1.2.2.1 = .ok (.astore_n (Fin.ofNat 4 r.1.2.2.2.2.1), 1)) && decide (r.1.2.2.2.1 = r.1.2.2.1 + 1) else decide (decode (zcod r.1.1) r.1.2.2.1 = .ok (.astore r.1.2.2.2.2.1, 2)) && decide (r.1.2.2.2.1 = r.1.2.2.1 + 2))
theorem zhn_ok : (zhnT.zip ([432, 715, 716, 716, 432, 432, 432, 715, 432, 432, 715, 432, 432, 432, 715, 716, 432, 715, 432, 715, 432, 716, 432, 432, 716, 432] : List Nat)).all ckH = true := by decide +kernel
theorem zhn_len : zhnT.length = ([432, 715, 716, 716, 432, 432, 432, 715, 432, 432, 715, 432, 432, 432, 715, 716, 432, 715, 432, 715, 432, 716, 432, 432, 716, 432] : List Nat).length := by decide +kernel

section Sound
variable {l : Launch} {D : va_G} {B0 : Nat} {fa : Nat → Nat} {fx : Value} {FM : ZM} {FS : ZH}
variable {p : Program} {e : Env} {R : Room} {s : State} {m : MethodId} {args : Array Value} {below : List Frame} {meth : Method} {c : Code} {Q : State → Prop}
variable {n0 c0 s0 : Nat} {ad0 : Nat → Nat} {mi d pc : Nat} {lv r : List Value} {h : Hp}

/-- behind a call -/
theorem zW_run {H : Heap} {locs : List Loc} {cells slots mc ms : Nat} {ls : Array Slot} {st0 rest : List Value} {Qa : State → Outcome → State → Prop} {XC : String → State → State → Prop} (hr : vx_Run p l e R s m args below meth c H locs cells slots mc ms (F0 m pc ls st0) rest Qa XC (zA B0)) (hS : va_S (zA B0) s.heap H locs)
    (k1 : ∀ (v : Option Value) (st₀ t : State) (locs1 : List Loc), st₀.heap = H → s.vm.Alike t.vm → Qa st₀ (.returned v) t → (va_F (zA B0) st₀ t → va_S (zA B0) s.heap t.heap locs1) → W p l e R s m args below meth c t.heap locs1 (cells + mc) (slots + ms) Q (F0 m (pc + 3) ls (v.toList ++ rest)))
    (k2 : ∀ (q : Addr) (st₀ t : State) (locs1 : List Loc) (E : String) (ce : Cell), st₀.heap = H → s.vm.Alike t.vm → XC E st₀ t → t.heap[q]? = some ce → ce.vm = .none → s.vm.findClass E = some ce.cls → (va_F (zA B0) st₀ t → va_S (zA B0) s.heap t.heap locs1) → vx_W p l e R s m args below meth c t.heap locs1 (cells + mc) (slots + ms) Q (F0 m pc ls rest) q) :
    W p l e R s m args below meth c H locs cells slots Q (F0 m pc ls st0) := by
  intro T hT X
  have key : ∀ (st₀ t : State) (L : List Loc), st₀.heap = H → (∀ q ∈ L, zA B0 q.base) → va_F (zA B0) st₀ t → va_S (zA B0) s.heap t.heap (locs ++ L) := by
    intro st₀ t L h0 hL hF
    refine ⟨Nat.le_trans hS.1 (by rw [← h0]; exact hF.1), fun q h1 h2 => ?_, fun q hq => ?_⟩
    · rw [hF.2 q (by rw [h0]; exact Nat.lt_of_lt_of_le h1 hS.1) h2, h0]
      exact hS.2.1 q h1 h2
    · rcases List.mem_append.mp hq with g | g
      · exact hS.2.2 q g
      · exact hL q g
  rcases hr T hT X with ⟨v, st₀, t, T', L, h0, X', hL, e1, e2, hq, hgo⟩ | ⟨q, st₀, t, T', L, E, ce, h0, X', hL, e1, e2, hx, hce, hv, hcl, hgo⟩
  · obtain ⟨t2, a1, b1⟩ := k1 v st₀ t (locs ++ L) h0 (by rw [← e2]; exact X'.warmed.alike) hq (key st₀ t L h0 hL) T' e1 X'
    exact ⟨t2, hgo t2 a1, b1⟩
  · obtain ⟨t2, a1, b1⟩ := k2 q st₀ t (locs ++ L) E ce h0 (by rw [← e2]; exact X'.warmed.alike) hx hce hv hcl (key st₀ t L h0 hL) T' e1 X'
    exact ⟨t2, hgo.trans a1, b1⟩
theorem zag_keep {n0 : Nat} {ad0 ad ad' : Nat → Nat} {h h' : Hp} (h1 : n0 ≤ zN h.2 ∧ ∀ i, i < n0 ∨ zN h.2 ≤ i → ad i = ad0 i) (h2 : zN h.2 ≤ zN h'.2 ∧ ∀ i, i < zN h.2 ∨ zN h'.2 ≤ i → ad' i = ad i) : n0 ≤ zN h'.2 ∧ ∀ i, i < n0 ∨ zN h'.2 ≤ i → ad' i = ad0 i := by
  refine ⟨by omega, fun i hi => ?_⟩
  rw [h2.2 i (by omega), h1.2 i (by omega)]
theorem tr_same {fx : Value} {ad ad' : Nat → Nat} {h h' : Hp} {st : List Value} {ini : Bool} {lv : List Value} (h2 : zN h.2 ≤ zN h'.2 ∧ ∀ i, i < zN h.2 ∨ zN h'.2 ≤ i → ad' i = ad i) (hx : zN h'.2 ≤ 1100) (hz : zaft ini h h' lv st = true) : (∀ v ∈ lv, tr fx ad' v = tr fx ad v) ∧ ∀ v ∈ st, tr fx ad' v = tr fx ad v := by
  unfold zaft at hz
  simp only [Bool.or_eq_true, decide_eq_true_eq, Bool.and_eq_true] at hz
  rcases hz with q | q
  · have : ad' = ad := funext fun i => h2.2 i (by omega)
    rw [this]
    exact ⟨fun _ _ => rfl, fun _ _ => rfl⟩
  · have hq := q.2
    rw [List.all_append, Bool.and_eq_true] at hq
    have one : ∀ v, okV (zN h.2) v = true → tr fx ad' v = tr fx ad v := by
      intro v hv
      cases v with
      | ref a =>
        have h1 : a < zN h.2 ∨ 1000000 ≤ a := by simpa [okV] using hv
        show Value.ref (ad' a) = Value.ref (ad a)
        rw [h2.2 a (h1.elim Or.inl (fun g => Or.inr (Nat.le_trans hx (Nat.le_trans (by decide) g))))]
      | retAddr k =>
        cases k with
        | zero => rfl
        | succ k =>
          cases k with
          | zero => rfl
          | succ k => rfl
      | _ => rfl
    exact ⟨fun v hv => one v (List.all_eq_true.mp hq.1 v hv), fun v hv => one v (List.all_eq_true.mp hq.2 v hv)⟩
theorem okL.same {fx : Value} {ad ad' : Nat → Nat} {lv : List Value} {ls : Array Slot} (hs : ∀ v ∈ lv, tr fx ad' v = tr fx ad v) (h : okL fx ad lv ls) : okL fx ad' lv ls :=
  ⟨h.1, h.2.1, fun i v hi hne => by rw [hs v (List.mem_of_getElem? hi)]; exact h.2.2 i v hi hne⟩

theorem zcallB {q : Nat × Nat × Nat × Nat × Nat × Nat} {idx n d' mc ms : Nat} (hts : ∀ w ∈ lw_good, w.before args s = true) (hq : q ∈ zmf) (hl : Cond.methodLink (zcnm (zoc mi)) idx (zyn q.1) ∈ lw_good) (hn : (parseMethodDescriptor (zyn q.1).desc).map (fun d => d.parameters.length) = some n) (hh : zhh q.1 = []) (hR1 : d' + 13 ≤ R.frames) (hR2 : 60 * d' + 460 ≤ R.locals) :
    CallB R s args (zcnm (zoc mi)) idx (zyn q.1) (zcod q.1) (zmx q.1) (zrt q.1) (zcw q.1 :: lw_good) (zroom d' mc ms) mc ms n := by
  have hcw : zcw q.1 = .code (zyn q.1) (zcod q.1) (zmx q.1) (zrt q.1) := by unfold zcw; rw [if_pos hh]
  have hall : ∀ w ∈ zcw q.1 :: lw_good, w ∈ lw_good := fun w hw => (List.mem_cons.mp hw).elim (fun e => by rw [e]; exact zcw_good hq) id
  have hm := List.all_eq_true.mp zmf_mh q hq
  simp only [Bool.and_eq_true, decide_eq_true_eq] at hm
  refine ⟨rfl, rfl, by show d' + 12 + 1 ≤ _; omega, ?_, fun w hw a' U hW => ?_, ?_, ?_, hts _ (zmfs hq).1, hm, fun sig hsig => ?_, hts _ hl⟩
  · exact zloc_ok (zmx41 q.1) hR2
  · exact word_at hW (good_of_word (List.mem_filter.mp (hall w hw)).2) (hts w (hall w hw))
  · rw [← hcw]; exact List.mem_cons_self
  · rw [← hcw]; exact hts _ (zcw_good hq)
  · rw [hsig] at hn
    exact (Option.some.inj hn).symm
theorem zcallSW {q : Nat × Nat × Nat × Nat × Nat × Nat} {idx n d' mc ms : Nat} (hts : ∀ w ∈ lw_good, w.before args s = true) (hq : q ∈ zmf) (hl : Cond.methodLink (zcnm (zoc mi)) idx (zyn q.1) ∈ lw_good) (hn : (parseMethodDescriptor (zyn q.1).desc).map (fun d => d.parameters.length) = some n) (hh : zhh q.1 ≠ []) (hst : Cond.static (zyn q.1) ∈ lw_good) (hR1 : d' + 13 ≤ R.frames) (hR2 : 60 * d' + 460 ≤ R.locals) :
    vx_CSW R s args (zcnm (zoc mi)) idx (zyn q.1) (zcod q.1) (zmx q.1) (zrt q.1) (zhh q.1) (zcw q.1 :: lw_good) (zroom d' mc ms) mc ms n := by
  have hcw : zcw q.1 = .codeWith (zyn q.1) (zcod q.1) (zmx q.1) (zrt q.1) (zhh q.1) := by unfold zcw; rw [if_neg hh]
  have hall : ∀ w ∈ zcw q.1 :: lw_good, w ∈ lw_good := fun w hw => (List.mem_cons.mp hw).elim (fun e => by rw [e]; exact zcw_good hq) id
  have hm := List.all_eq_true.mp zmf_mh q hq
  simp only [Bool.and_eq_true, decide_eq_true_eq] at hm
  refine ⟨⟨rfl, rfl, by show d' + 12 + 1 ≤ _; omega, ?_, fun w hw a' U hW => ?_, ?_⟩, ?_, hts _ (zmfs hq).1, hm, fun sig hsig => ?_, hts _ hl, hts _ hst⟩
  · exact zloc_ok (zmx41 q.1) hR2
  · exact word_at hW (good_of_word (List.mem_filter.mp (hall w hw)).2) (hts w (hall w hw))
  · rw [← hcw]; exact List.mem_cons_self
  · rw [← hcw]; exact hts _ (zcw_good hq)
  · rw [hsig] at hn
    exact (Option.some.inj hn).symm

end Sound
