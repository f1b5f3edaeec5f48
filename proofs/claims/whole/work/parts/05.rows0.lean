def zshl (x y : Int32) : Int32 := x <<< (y &&& 31)
def zlshl (x : Int64) (y : Int32) : Int64 := x <<< (y.toInt64 &&& 63)
def zlshr (x : Int64) (y : Int32) : Int64 := x >>> (y.toInt64 &&& 63)
def zshr (x y : Int32) : Int32 := x >>> (y &&& 31)
def zushr (x y : Int32) : Int32 := (x.toUInt32 >>> (y.toUInt32 &&& Int32.toUInt32 31)).toInt32
def zi2b (x : Int32) : Int32 := x.toInt8.toInt32
def zi2c (x : Int32) : Int32 := (x.toUInt32 % 65536).toInt32
theorem r_im (x y : Int32) {k : Nat} (h : y = Int32.ofInt (-(k : Int))) : x - nI k = x + y := by
  subst h
  apply Int32.toBitVec_inj.mp
  simp [nI, BitVec.sub_eq_add_neg]
theorem zhn_no {mi : Nat} (pc : Nat) (h : zhnT.all (fun q => !(q.1 == mi)) = true) : ∀ E, zhn mi pc E = none := by
  intro E
  unfold zhn
  have : zhnT.find? (fun q => q.1 == mi && zE q.2.1 == E && decide (q.2.2.2.2.2.1 ≤ pc) && decide (pc < q.2.2.2.2.2.2.1)) = none := by
    rw [List.find?_eq_none]
    intro q hq
    have := List.all_eq_true.mp h q hq
    simp only [Bool.not_eq_true'] at this
    simp [this]
  rw [this]
  rfl
theorem zst_of {lv : List Value} {i : Nat} {v : Value} {pc : Nat} {st : List Value} {h : Hp} (hi : i < lv.length) : zst lv i v pc st h = zgo pc ((stB lv i).set i v) st h := if_pos hi
theorem zst2_of {lv : List Value} {i : Nat} {v : Value} {pc : Nat} {st : List Value} {h : Hp} (hi : i + 1 < lv.length) : zst2 lv i v pc st h = zgo pc (((stB lv i).set i v).set (i + 1) tok) st h := if_pos hi
theorem zst_ofe {lv : List Value} {i : Nat} {e1 e2 : Int32} {pc : Nat} {st : List Value} {h : Hp} (hi : i < lv.length) (he : e2 = e1) : zst lv i (.int e1) pc st h = zgo pc ((stB lv i).set i (.int e2)) st h := by
  rw [he]
  exact if_pos hi
section Rows2
variable {d mi pc : Nat} {lv st : List Value} {M : ZM} {R : ZH}
theorem r_tsw {dflt lo hi : Int} {offs : Array Int} {len tgt : Nat} {x : Int32} {off : Int} (hd : decode (zcod mi) pc = .ok (.tableswitch dflt lo hi offs, len)) (h1 : ¬ x.toInt < lo) (h2 : ¬ hi < x.toInt) (ho : offs[(x.toInt - lo).toNat]? = some off) (ht : (pc : Int) + off = (tgt : Int)) : exe d mi pc lv (.int x :: st) M R = exe d mi tgt lv st M R := by
  refine r_next hd (Or.inr rfl) ?_
  unfold zins
  simp only
  rw [if_neg (fun h => h.elim h1 h2), ho]
  simp only
  rw [zbr_of ht]
  rfl
theorem r_tswd {dflt lo hi : Int} {offs : Array Int} {len tgt : Nat} {x : Int32} (hd : decode (zcod mi) pc = .ok (.tableswitch dflt lo hi offs, len)) (h : x.toInt < lo ∨ hi < x.toInt) (ht : (pc : Int) + dflt = (tgt : Int)) : exe d mi pc lv (.int x :: st) M R = exe d mi tgt lv st M R := by
  refine r_next hd (Or.inr rfl) ?_
  unfold zins
  simp only
  rw [if_pos h, zbr_of ht]
  rfl
theorem r_lsw {dflt : Int} {ps : Array (Int × Int)} {len tgt : Nat} {x : Int32} {off : Int} (hd : decode (zcod mi) pc = .ok (.lookupswitch dflt ps, len)) (hs : (ps.toList.zip (ps.toList.drop 1)).all (fun (a, next) => a.1 < next.1) = true) (ho : Op.lookupswitch.offset ps.toList dflt x.toInt = off) (ht : (pc : Int) + off = (tgt : Int)) : exe d mi pc lv (.int x :: st) M R = exe d mi tgt lv st M R := by
  refine r_next hd (Or.inr rfl) ?_
  unfold zins
  simp only
  rw [if_pos hs, ho, zbr_of ht]
  rfl
/-- a call under handlers -/
def zkh (mi : Nat) (r : Option ZO) (N : Nat) (lv : List Value) (k : Option Value → ZM → ZH → Option ZO) (kx : Nat → List Value → ZM → ZH → Option ZO) : Option ZO := match r with
  | none => none
  | some (.inl v, M', R') => if zN R' = N then k v M' R' else none
  | some (.inr E, M', R') => match zhn mi 0 E with
    | none => some (.inr E, M', R')
    | some (hp, i) => if zN R' = N then kx hp ((stB lv i).set i tok) M' R' else none
theorem zhn_r {mi : Nat} (pc : Nat) (h : zhnT.all (fun q => !(q.1 == mi) || (decide (q.2.2.2.2.2.1 ≤ 0) && decide (pc < q.2.2.2.2.2.2.1))) = true) : ∀ E, zhn mi pc E = zhn mi 0 E := by
  intro E
  unfold zhn
  congr 1
  generalize zhnT = T at h
  induction T with
  | nil => rfl
  | cons q T ih =>
    rw [List.all_cons, Bool.and_eq_true] at h
    have hq := h.1
    rw [List.find?_cons, List.find?_cons, ih h.2]
    by_cases e : q.1 = mi
    · simp [e] at hq
      have h1 : q.2.2.2.2.2.1 ≤ pc := by omega
      have h2 : 0 < q.2.2.2.2.2.2.1 := by omega
      simp [e, hq.1, hq.2, h1, h2]
    · have eb : (q.1 == mi) = false := by simpa using e
      simp only [eb, Bool.false_and]
theorem r_callVh {idx cm n a : Nat} {as : List Value} (hd : decode (zcod mi) pc = .ok (.invokevirtual idx, 3)) (hp : zp (zoc mi) idx = (2, cm, n)) (hh : ∀ E, zhn mi pc E = zhn mi 0 E) (hn : as.length = n) (hk : zK R a = zoc cm + 1) (hc : cS st ≤ 8) :
    exe (d + 1) mi pc lv (as.reverse ++ .ref a :: st) M R = zkh mi (cal d cm (.ref a :: as) M R) (zN R) lv (fun v M' R' => exe (d + 1) mi (pc + 3) lv (v.toList ++ st) M' R') (fun p lv M' R' => exe (d + 1) mi p lv [] M' R') := by
  subst hn
  have hs : zstep mi (pc, lv, as.reverse ++ .ref a :: st, M, R) = some (.inr (.inr (cm, .ref a :: as, false, (pc + 3, lv, st, M, R)))) := by
    rw [zstep_of hd (Or.inl rfl)]
    show zcallV (zoc mi) idx (pc + 3) lv (as.reverse ++ .ref a :: st) (M, R) = _
    unfold zcallV
    rw [hp]
    simp only
    have e0 : as.reverse ++ Value.ref a :: st = (as.reverse ++ [Value.ref a]) ++ st := by simp
    have e3 : (as.reverse ++ [Value.ref a]).length = as.length + 1 := by simp
    have e1 : (as.reverse ++ Value.ref a :: st).take (as.length + 1) = as.reverse ++ [Value.ref a] := by rw [e0, ← e3, List.take_left]
    have e2 : (as.reverse ++ Value.ref a :: st).drop (as.length + 1) = st := by rw [e0, ← e3, List.drop_left]
    have e4 : (as.reverse ++ Value.ref a :: st)[as.length]? = some (Value.ref a) := by simp
    rw [e1, e2, e4, if_pos hc]
    simp only
    rw [if_pos hk]
    simp
  have h := exs_call (d := d) hs
  show exs (d + 1) mi (pc, lv, as.reverse ++ .ref a :: st, M, R) = _
  rw [h]
  show zbnd (d + 1) mi pc false (pc + 3, lv, st, M, R) (cal d cm (.ref a :: as) M R) = _
  unfold zbnd zkh
  match cal d cm (.ref a :: as) M R with
  | none => rfl
  | some (.inl v, h') =>
    simp only [zaft, Bool.false_and, Bool.or_false, decide_eq_true_eq]
    rfl
  | some (.inr E, h') =>
    simp only [hh E]
    rfl
end Rows2
