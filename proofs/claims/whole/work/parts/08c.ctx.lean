-- the machine's facts that stand from the law's beginning on; a method's frame; what is claimed of a state of the small machine
def zA (B0 : Nat) : Nat → Prop := fun q => B0 ≤ q
/-- of what was there before: which cells of the small heap stand for it -/
def zFSok (FM : ZM) (FS : ZH) : Prop :=
  (∀ a, 1000000 ≤ a → zK FS a = 0 ∨ (zK FS a = 11 ∧ a = 1000000) ∨ (zK FS a = 9 ∧ ∃ j, j < 17 ∧ a = 1000001 + j) ∨ (zK FS a = 12 ∧ ∃ j, j < 17 ∧ a = 1000101 + j)) ∧
  (∀ a k b, zRf FS a k = some b → ∃ j, j < 17 ∧ a = 1000001 + j ∧ k = 0 ∧ b = 1000101 + j) ∧ (∀ j, j < 17 → FM (1000001 + j) 1 = 0) ∧ zLn FS 1000000 < 2 ^ 31 ∧ (∀ j, j < 17 → zLn FS (1000101 + j) < 2 ^ 31)
def zFor (B0 : Nat) (fa : Nat → Nat) (fx : Value) (FM : ZM) (FS : ZH) (U : State) : Prop :=
  (va_X (fa 1000000) (zLn FS 1000000) (FM 1000000) U U.heap ∧ fa 1000000 < B0) ∧
  (∀ j, j < 17 → va_O "java/lang/String" (fa (1000001 + j)) (zA B0) U U.heap ∧ va_OF "java/lang/String" "coder" "B" (.int 0) (fa (1000001 + j)) (zA B0) U U.heap ∧ va_OF "java/lang/String" "value" "[B" (.ref (fa (1000101 + j))) (fa (1000001 + j)) (zA B0) U U.heap ∧ va_T .byte (fa (1000101 + j)) (zLn FS (1000101 + j)) (fun k => .int (FM (1000101 + j) k)) (zA B0) U U.heap) ∧
  (∀ r ∈ zsl, ∃ tx, vk_R (zcnm r.2.1) r.2.2.1 tx (fa (1000001 + r.2.2.2)) U) ∧
  (∀ r ∈ zthT, ∃ tx sa, vk_R RX6 r.2.2.2.1 tx sa U) ∧
  (va_Z "java/lang/String" "COMPACT_STRINGS" "Z" (.int 1) (zA B0) U U.heap ∧ va_Z "jdk/internal/util/Preconditions" "SIOOBE_FORMATTER" "Ljava/util/function/BiFunction;" fx (zA B0) U U.heap) ∧
  (vx_Zq Bundle.tN "UNASSIGNED_STACK" Bundle.steD (zA B0) U U.heap ∧ vx_Zq Bundle.tN "SUPPRESSED_SENTINEL" Bundle.listD (zA B0) U U.heap) ∧
  (va_AO "StrikeBench$Table" U ∧ va_AOA .int U) ∧
  ((∀ e, va_Nw (.castable (zE e) (zE e)) U) ∧ (∀ e e', zE e ≠ zE e' → va_Nc (zE e) (zE e') U) ∧ ∀ Y ∈ ["java/lang/RuntimeException", "java/lang/Exception", "java/lang/Throwable"], va_Nw (.declares ⟨Y, "<init>", "(Ljava/lang/String;)V"⟩) U) ∧
  (B0 ≤ U.heap.size ∧ fx.category = 1 ∧ (fx = .null ∨ ∃ a, fx = .ref a))
theorem zFor.next {B0 : Nat} {fa : Nat → Nat} {fx : Value} {FM : ZM} {FS : ZH} {s U : State} {H : Heap} {locs : List Loc} (h : zFor B0 fa fx FM FS s) (hS : va_S (zA B0) s.heap H locs) (hU : U.heap = H) (hW : s.WarmedH U.vm) : zFor B0 fa fx FM FS U := by
  obtain ⟨⟨h1, h1b⟩, h2, h3, h4, ⟨h5, h5b⟩, ⟨h6, h6b⟩, ⟨h7, h7b⟩, ⟨h8, h8b, h8c⟩, h9, h9b, h9c⟩ := h
  have hk : ∀ a : Nat, a < s.heap.size → ¬ zA B0 a → U.heap[a]? = s.heap[a]? := fun a ha hn => by rw [hU]; exact hS.2.1 a ha hn
  have al := hW.alike
  have hb : fa 1000000 < s.heap.size := Nat.lt_of_lt_of_le h1b h9
  refine ⟨⟨(h1.kept (hk _ hb (Nat.not_le.mpr h1b))).moved al, h1b⟩, fun j hj => ?_, fun r hr => ?_, fun r hr => ?_, ⟨(h5.kept hk).moved al, (h5b.kept hk).moved al⟩, ⟨(h6.kept hk).moved al, (h6b.kept hk).moved al⟩, ⟨h7.moved al, h7b.moved al⟩, ⟨fun e => (h8 e).warmC hW, fun e e' hne => (h8b e e' hne).moved al, fun Y hY => (h8c Y hY).warmD hW⟩, by rw [hU]; exact Nat.le_trans h9 hS.1, h9b, h9c⟩
  · obtain ⟨g1, g2, g3, g4⟩ := h2 j hj
    exact ⟨(g1.kept hk).moved al, (g2.kept hk).moved al, (g3.kept hk).moved al, (g4.kept hk).moved al⟩
  · obtain ⟨tx, g⟩ := h3 r hr
    exact ⟨tx, g.warm hW⟩
  · obtain ⟨tx, sa, g⟩ := h4 r hr
    exact ⟨tx, sa, g.warm hW⟩
section Sound
variable {l : Launch} {D : va_G} {B0 : Nat} {fa : Nat → Nat} {fx : Value} {FM : ZM} {FS : ZH}
variable {p : Program} {e : Env} {R : Room} {s : State} {m : MethodId} {args : Array Value} {below : List Frame} {meth : Method} {c : Code} {Q : State → Prop}
/-- a method's frame on the machine -/
def zCtx (B0 : Nat) (fa : Nat → Nat) (fx : Value) (FM : ZM) (FS : ZH) (p : Program) (R : Room) (s : State) (m : MethodId) (args : Array Value) (meth : Method) (c : Code) (mi d : Nat) : Prop :=
  p.tables.exec = Jvm.exec ∧ c.code = zcod mi ∧ c.maxLocals = zmx mi ∧ meth.sig.returnType = zrt mi ∧ s.vm.findClass (zcnm (zoc mi)) = some m.cls ∧ (∀ w ∈ lw_good, w.before args s = true) ∧ meth.locks = false ∧ meth.name = (zyn mi).name ∧
  c.exceptionTable.toList = tableOf (zhh mi) ∧ zFor B0 fa fx FM FS s ∧ d + 12 ≤ R.frames ∧ 60 * d + 400 ≤ R.locals
def zInv (D : va_G) (B0 : Nat) (fa : Nat → Nat) (fx : Value) (FM : ZM) (FS : ZH) (s : State) (n0 : Nat) (ad0 : Nat → Nat) (lv : List Value) (h : Hp) (ad : Nat → Nat) (cf : Nat → ClassId) (tys : List (ClassId × FieldType)) (H : Heap) (locs : List Loc) (ls : Array Slot) : Prop :=
  va_K D vwCl tys s ∧ zRel D B0 fa FM FS tys ad cf h H ∧ va_S (zA B0) s.heap H locs ∧ okL fx ad lv ls ∧ (n0 ≤ zN h.2 ∧ ∀ i, i < n0 ∨ zN h.2 ≤ i → ad i = ad0 i)
def zGd (l : Launch) (D : va_G) (B0 : Nat) (fa : Nat → Nat) (fx : Value) (FM : ZM) (FS : ZH) (p : Program) (e : Env) (R : Room) (s : State) (m : MethodId) (args : Array Value) (below : List Frame) (meth : Method) (c : Code) (Q : State → Prop) (n0 c0 s0 : Nat) (ad0 : Nat → Nat) (pc : Nat) (lv st : List Value) (h : Hp) : Prop :=
  ∀ (ad : Nat → Nat) (cf : Nat → ClassId) (tys : List (ClassId × FieldType)) (H : Heap) (locs : List Loc) (ls : Array Slot), zInv D B0 fa fx FM FS s n0 ad0 lv h ad cf tys H locs ls → W p l e R s m args below meth c H locs (zC h.2 - c0) (zL h.2 - s0) Q (F0 m pc ls (st.map (tr fx ad)))
variable {n0 c0 s0 : Nat} {ad0 : Nat → Nat} {mi d pc : Nat} {lv r : List Value} {h : Hp}
theorem sd_iconst (C : zCtx B0 fa fx FM FS p R s m args meth c mi d) {k : Int} (hd : decode (zcod mi) pc = .ok (.iconst k, 1)) (kk : zGd l D B0 fa fx FM FS p e R s m args below meth c Q n0 c0 s0 ad0 (pc + 1) lv (.int (Int32.ofInt k) :: r) h) : zGd l D B0 fa fx FM FS p e R s m args below meth c Q n0 c0 s0 ad0 pc lv r h :=
  fun ad cf tys H locs ls I => lv_iconst C.1 C.2.1 hd rfl (kk ad cf tys H locs ls I)
theorem sd_iadd (C : zCtx B0 fa fx FM FS p R s m args meth c mi d) {x y : Int32} (hd : decode (zcod mi) pc = .ok (.iadd, 1)) (kk : zGd l D B0 fa fx FM FS p e R s m args below meth c Q n0 c0 s0 ad0 (pc + 1) lv (.int (x + y) :: r) h) : zGd l D B0 fa fx FM FS p e R s m args below meth c Q n0 c0 s0 ad0 pc lv (.int y :: .int x :: r) h :=
  fun ad cf tys H locs ls I => lv_iadd C.1 C.2.1 hd (kk ad cf tys H locs ls I)
end Sound
