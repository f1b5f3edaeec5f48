section Rows
variable {d mi pc : Nat} {lv st : List Value} {M : ZM} {R : ZH}
theorem zstep_of {i : Instr} {n : Nat} (hd : decode (zcod mi) pc = .ok (i, n)) (hn : n = zlen i ∨ zvar i = true) : zstep mi (pc, lv, st, M, R) = zins mi (zoc mi) i pc lv st (M, R) := by
  unfold zstep
  simp only [hd]
  rw [if_pos hn]
theorem r_next {i : Instr} {n pc' : Nat} {lv' st' : List Value} {M' : ZM} {R' : ZH} (hd : decode (zcod mi) pc = .ok (i, n)) (hn : n = zlen i ∨ zvar i = true) (h : zins mi (zoc mi) i pc lv st (M, R) = zgo pc' lv' st' (M', R')) : exe d mi pc lv st M R = exe d mi pc' lv' st' M' R' :=
  exs_next ((zstep_of hd hn).trans h)
theorem r_iconst {k : Int} {v : Int32} (hd : decode (zcod mi) pc = .ok (.iconst k, 1)) (hv : Int32.ofInt k = v) : exe d mi pc lv st M R = exe d mi (pc + 1) lv (.int v :: st) M R := by
  subst hv; exact r_next hd (Or.inl rfl) rfl
theorem r_bipush {k : Int} {v : Int32} (hd : decode (zcod mi) pc = .ok (.bipush k, 2)) (hv : (Int8.ofInt k).toInt32 = v) : exe d mi pc lv st M R = exe d mi (pc + 2) lv (.int v :: st) M R := by
  subst hv; exact r_next hd (Or.inl rfl) rfl
theorem r_sipush {k : Int} {v : Int32} (hd : decode (zcod mi) pc = .ok (.sipush k, 3)) (hv : (Int16.ofInt k).toInt32 = v) : exe d mi pc lv st M R = exe d mi (pc + 3) lv (.int v :: st) M R := by
  subst hv; exact r_next hd (Or.inl rfl) rfl
theorem r_lconst {k : Fin 2} {v : Int64} (hd : decode (zcod mi) pc = .ok (.lconst k, 1)) (hv : Int64.ofNat (k : Nat) = v) : exe d mi pc lv st M R = exe d mi (pc + 1) lv (.long v :: st) M R := by
  subst hv; exact r_next hd (Or.inl rfl) rfl
theorem zbr_of {c : Bool} {n tgt : Nat} {off : Int} {h : Hp} (ht : (pc : Int) + off = (tgt : Int)) : zbr c pc n off lv st h = if c = true then zgo tgt lv st h else zgo (pc + n) lv st h := by
  unfold zbr
  rw [ht, if_pos (Int.natCast_nonneg tgt), Int.toNat_natCast]
theorem r_br {i : Instr} {n tgt : Nat} {off : Int} {st' : List Value} {c : Bool} {P : Prop} [Decidable P] (hd : decode (zcod mi) pc = .ok (i, n)) (hn : n = zlen i ∨ zvar i = true) (hz : zins mi (zoc mi) i pc lv st (M, R) = zbr c pc 3 off lv st' (M, R)) (ht : (pc : Int) + off = (tgt : Int)) (hc : c = decide P) :
    exe d mi pc lv st M R = if P then exe d mi tgt lv st' M R else exe d mi (pc + 3) lv st' M R := by
  subst hc
  rw [zbr_of ht] at hz
  by_cases h : P
  · rw [if_pos h]
    exact r_next hd hn (by rw [hz, if_pos (decide_eq_true h)])
  · rw [if_neg h]
    exact r_next hd hn (by rw [hz, if_neg (by simpa using h)])
theorem r_goto {tgt : Nat} {off : Int} (hd : decode (zcod mi) pc = .ok (.goto off, 3)) (ht : (pc : Int) + off = (tgt : Int)) : exe d mi pc lv st M R = exe d mi tgt lv st M R := by
  refine r_next hd (Or.inl rfl) ?_
  show zbr true pc 3 off lv st (M, R) = _
  rw [zbr_of ht]
  rfl
theorem r_ldcI {idx a b : Nat} {v : Int32} (hd : decode (zcod mi) pc = .ok (.ldc idx, 2)) (hp : zp (zoc mi) idx = (6, a, b)) (hv : zki (zoc mi) idx = some v) : exe d mi pc lv st M R = exe d mi (pc + 2) lv (.int v :: st) M R :=
  r_next hd (Or.inl rfl) (by simp [zins, zldc, hp, hv])
theorem r_ldcS {idx j b : Nat} (hd : decode (zcod mi) pc = .ok (.ldc idx, 2)) (hp : zp (zoc mi) idx = (8, j, b)) : exe d mi pc lv st M R = exe d mi (pc + 2) lv (.ref (1000001 + j) :: st) M R :=
  r_next hd (Or.inl rfl) (by simp [zins, zldc, hp])
theorem r_ldcw {idx : Nat} {v : Int32} (hd : decode (zcod mi) pc = .ok (.ldc_w idx, 3)) (hv : zki (zoc mi) idx = some v) : exe d mi pc lv st M R = exe d mi (pc + 3) lv (.int v :: st) M R :=
  r_next hd (Or.inl rfl) (by unfold zins; simp only; rw [hv])
theorem r_ldc2 {idx : Nat} {v : Int64} (hd : decode (zcod mi) pc = .ok (.ldc2_w idx, 3)) (hv : zkl (zoc mi) idx = some v) : exe d mi pc lv st M R = exe d mi (pc + 3) lv (.long v :: st) M R :=
  r_next hd (Or.inl rfl) (by unfold zins; simp only; rw [hv])
theorem r_getI {idx ci k a : Nat} (hd : decode (zcod mi) pc = .ok (.getfield idx, 3)) (hp : zp (zoc mi) idx = (1, ci, k)) (hf : zft ci k ≠ 2 ∧ zft ci k ≠ 9) (hk : zK R a = ci + 1) : exe d mi pc lv (.ref a :: st) M R = exe d mi (pc + 3) lv (.int (M a k) :: st) M R :=
  r_next hd (Or.inl rfl) (by simp [zins, zget, hp, hf, hk])
theorem r_getR {idx ci k a b : Nat} (hd : decode (zcod mi) pc = .ok (.getfield idx, 3)) (hp : zp (zoc mi) idx = (1, ci, k)) (hf : zft ci k = 2) (hk : zK R a = ci + 1) (hr : zRf R a k = some b) : exe d mi pc lv (.ref a :: st) M R = exe d mi (pc + 3) lv (.ref b :: st) M R :=
  r_next hd (Or.inl rfl) (by simp [zins, zget, hp, hf, hk, hr])
theorem r_putI {idx ci k a : Nat} {x : Int32} (hd : decode (zcod mi) pc = .ok (.putfield idx, 3)) (hp : zp (zoc mi) idx = (1, ci, k)) (hf : zft ci k = 0) (hk : zK R a = ci + 1) (hn : a < zN R) : exe d mi pc lv (.int x :: .ref a :: st) M R = exe d mi (pc + 3) lv st (up2 M a k x) R :=
  r_next hd (Or.inl rfl) (by simp [zins, zput, hp, hf, hk, hn])
theorem r_putZ {idx ci k a : Nat} {x : Int32} (hd : decode (zcod mi) pc = .ok (.putfield idx, 3)) (hp : zp (zoc mi) idx = (1, ci, k)) (hf : zft ci k = 1) (hk : zK R a = ci + 1) (hn : a < zN R) (hx : x = 0 ∨ x = 1) : exe d mi pc lv (.int x :: .ref a :: st) M R = exe d mi (pc + 3) lv st (up2 M a k x) R :=
  r_next hd (Or.inl rfl) (by simp [zins, zput, hp, hf, hk, hn, hx])
theorem r_putR {idx ci k a b : Nat} (hd : decode (zcod mi) pc = .ok (.putfield idx, 3)) (hp : zp (zoc mi) idx = (1, ci, k)) (hf : zft ci k = 2) (hk : zK R a = ci + 1) (hn : a < zN R) (hv : okV (zN R) (.ref b) = true) (hz : zfn mi ci k = true) : exe d mi pc lv (.ref b :: .ref a :: st) M R = exe d mi (pc + 3) lv st M (sRf R a k (some b)) :=
  r_next hd (Or.inl rfl) (by simp [zins, zput, hp, hf, hk, hn, hv, hz])
theorem r_iald {a : Nat} {i : Int32} (hd : decode (zcod mi) pc = .ok (.iaload, 1)) (hk : zK R a = 11) (hi : zin i (zLn R a) = true) : exe d mi pc lv (.int i :: .ref a :: st) M R = exe d mi (pc + 1) lv (.int (M a i.toNatClampNeg) :: st) M R :=
  r_next hd (Or.inl rfl) (by simp [zins, zald, hk, hi])
theorem r_bald {a : Nat} {i : Int32} (hd : decode (zcod mi) pc = .ok (.baload, 1)) (hk : zK R a = 12 ∨ zK R a = 13) (hi : zin i (zLn R a) = true) : exe d mi pc lv (.int i :: .ref a :: st) M R = exe d mi (pc + 1) lv (.int (M a i.toNatClampNeg) :: st) M R :=
  r_next hd (Or.inl rfl) (by simp [zins, zald, hk, hi])
theorem r_lald {a : Nat} {i : Int32} (hd : decode (zcod mi) pc = .ok (.laload, 1)) (hk : zK R a = 14) (hi : zin i (zLn R a) = true) : exe d mi pc lv (.int i :: .ref a :: st) M R = exe d mi (pc + 1) lv (.long (zJ R a i.toNatClampNeg) :: st) M R :=
  r_next hd (Or.inl rfl) (by simp [zins, zald, hk, hi])
theorem r_aald {a b : Nat} {i : Int32} (hd : decode (zcod mi) pc = .ok (.aaload, 1)) (hk : zK R a = 15 ∨ zK R a = 16) (hi : zin i (zLn R a) = true) (hr : zRf R a i.toNatClampNeg = some b) : exe d mi pc lv (.int i :: .ref a :: st) M R = exe d mi (pc + 1) lv (.ref b :: st) M R :=
  r_next hd (Or.inl rfl) (by simp [zins, zald, hk, hi, hr])
theorem r_iast {a : Nat} {i x : Int32} (hd : decode (zcod mi) pc = .ok (.iastore, 1)) (hk : zK R a = 11) (hn : a < zN R) (hi : zin i (zLn R a) = true) : exe d mi pc lv (.int x :: .int i :: .ref a :: st) M R = exe d mi (pc + 1) lv st (up2 M a i.toNatClampNeg x) R :=
  r_next hd (Or.inl rfl) (by simp [zins, zast, hk, hn, hi])
theorem r_bast {a : Nat} {i x : Int32} (hd : decode (zcod mi) pc = .ok (.bastore, 1)) (hk : zK R a = 12) (hn : a < zN R) (hi : zin i (zLn R a) = true) : exe d mi pc lv (.int x :: .int i :: .ref a :: st) M R = exe d mi (pc + 1) lv st (up2 M a i.toNatClampNeg (vp_nar .byte x)) R :=
  r_next hd (Or.inl rfl) (by simp [zins, zast, hk, hn, hi])
theorem r_zast {a : Nat} {i x : Int32} (hd : decode (zcod mi) pc = .ok (.bastore, 1)) (hk : zK R a = 13) (hn : a < zN R) (hi : zin i (zLn R a) = true) : exe d mi pc lv (.int x :: .int i :: .ref a :: st) M R = exe d mi (pc + 1) lv st (up2 M a i.toNatClampNeg (vp_nar .boolean x)) R :=
  r_next hd (Or.inl rfl) (by simp [zins, zast, hk, hn, hi])
theorem r_last {a : Nat} {i : Int32} {x : Int64} (hd : decode (zcod mi) pc = .ok (.lastore, 1)) (hk : zK R a = 14) (hn : a < zN R) (hi : zin i (zLn R a) = true) : exe d mi pc lv (.long x :: .int i :: .ref a :: st) M R = exe d mi (pc + 1) lv st M (sJ R a i.toNatClampNeg x) :=
  r_next hd (Or.inl rfl) (by simp [zins, zast, hk, hn, hi])
theorem r_aast {a b : Nat} {i : Int32} (hd : decode (zcod mi) pc = .ok (.aastore, 1)) (hk : zK R a = 15) (hn : a < zN R) (hi : zin i (zLn R a) = true) (hb : zK R b = 6) (hbn : b < zN R) : exe d mi pc lv (.ref b :: .int i :: .ref a :: st) M R = exe d mi (pc + 1) lv st M (sRf R a i.toNatClampNeg (some b)) :=
  r_next hd (Or.inl rfl) (by simp [zins, zast, hk, hn, hi, hb, hbn])
theorem r_alen {a : Nat} (hd : decode (zcod mi) pc = .ok (.arraylength, 1)) (hk : 11 ≤ zK R a ∧ zK R a ≤ 16) : exe d mi pc lv (.ref a :: st) M R = exe d mi (pc + 1) lv (.int (nI (zLn R a)) :: st) M R :=
  r_next hd (Or.inl rfl) (by simp [zins, zalen, hk])
theorem r_new {idx ci n : Nat} (hd : decode (zcod mi) pc = .ok (.new idx, 3)) (hp : zp (zoc mi) idx = (3, ci, n)) (ho : (lv ++ st).all (okV (zN R)) = true) (hx : zN R < 1000) : exe d mi pc lv st M R = exe d mi (pc + 3) lv (.ref (zN R) :: st) (nwM M (zN R)) (nwR R (ci + 1) n) :=
  r_next hd (Or.inl rfl) (by simp [zins, znew, hp, ho, hx])
theorem r_throw {idx e0 b e : Nat} (hd : decode (zcod mi) pc = .ok (.new idx, 3)) (hp : zp (zoc mi) idx = (9, e0, b)) (he : zth mi pc = some e) (hc : cS st ≤ 8) : exe d mi pc lv st M R = some (.inr (zE e), M, thR R) :=
  exs_done ((zstep_of hd (Or.inl rfl)).trans (by simp [zins, znew, hp, he, hc]))
theorem r_nwa {t : ArrayType} {kd : Nat} {n : Int32} {N : Nat} (hd : decode (zcod mi) pc = .ok (.newarray t, 2)) (ht : zins mi (zoc mi) (.newarray t) pc lv (.int n :: st) (M, R) = znwa kd (pc + 2) lv (.int n :: st) (M, R)) (h0 : ¬ n < 0) (hN : n.toNatClampNeg = N) (hN2 : N ≤ 100000) (ho : (lv ++ st).all (okV (zN R)) = true) (hx : zN R < 1000) : exe d mi pc lv (.int n :: st) M R = exe d mi (pc + 2) lv (.ref (zN R) :: st) (nwM M (zN R)) (nwR R kd N) := by
  subst hN
  exact r_next hd (Or.inl rfl) (by rw [ht]; unfold znwa; simp only; rw [if_pos ⟨h0, hN2, ho, hx⟩])
theorem r_anwa {idx : Nat} {n : Int32} {N : Nat} (hd : decode (zcod mi) pc = .ok (.anewarray idx, 3)) (hp : zp (zoc mi) idx = (3, 5, 15)) (h0 : ¬ n < 0) (hN : n.toNatClampNeg = N) (hN2 : N ≤ 100000) (ho : (lv ++ st).all (okV (zN R)) = true) (hx : zN R < 1000) : exe d mi pc lv (.int n :: st) M R = exe d mi (pc + 3) lv (.ref (zN R) :: st) (nwM M (zN R)) (nwR R 15 N) := by
  subst hN
  exact r_next hd (Or.inl rfl) (by show (if zp (zoc mi) idx = (3, 5, 15) then znwa 15 (pc + 3) lv (.int n :: st) (M, R) else none) = _; rw [if_pos hp]; unfold znwa; simp only; rw [if_pos ⟨h0, hN2, ho, hx⟩])
theorem r_mna {idx : Nat} {k : Int32} {N : Nat} (hd : decode (zcod mi) pc = .ok (.multianewarray idx 2, 4)) (hp : (zp (zoc mi) idx).1 = 5) (h0 : ¬ k < 0) (hN : k.toNatClampNeg = N) (hN2 : N ≤ 100000) (ho : (lv ++ st).all (okV (zN R)) = true) (hx : zN R < 1000) : exe d mi pc lv (.int k :: .int 2 :: st) M R = exe d mi (pc + 4) lv (.ref (zN R) :: st) (mnM M (zN R) 2) (mnR R 2 N) := by
  subst hN
  exact r_next hd (Or.inl rfl) (by show (if 2 = 2 ∧ (zp (zoc mi) idx).1 = 5 then zmna (pc + 4) lv (.int k :: .int 2 :: st) (M, R) else none) = _; rw [if_pos ⟨rfl, hp⟩]; unfold zmna; simp only; rw [if_pos ⟨trivial, h0, hN2, ho, hx⟩])
theorem r_obj {idx a b x : Nat} (hd : decode (zcod mi) pc = .ok (.invokespecial idx, 3)) (hp : zp (zoc mi) idx = (10, a, b)) (hc : cS st ≤ 8) : exe d mi pc lv (.ref x :: st) M R = exe d mi (pc + 3) lv st M R :=
  r_next hd (Or.inl rfl) (by simp [zins, zcallI, hp, hc])
theorem r_max {idx a b : Nat} {x y : Int32} (hd : decode (zcod mi) pc = .ok (.invokestatic idx, 3)) (hp : zp (zoc mi) idx = (12, a, b)) (hc : cS st ≤ 8) : exe d mi pc lv (.int y :: .int x :: st) M R = exe d mi (pc + 3) lv (.int (if x < y then y else x) :: st) M R :=
  r_next hd (Or.inl rfl) (by simp [zins, zcallS, hp, hc])
theorem r_min {idx a b : Nat} {x y : Int32} (hd : decode (zcod mi) pc = .ok (.invokestatic idx, 3)) (hp : zp (zoc mi) idx = (13, a, b)) (hc : cS st ≤ 8) : exe d mi pc lv (.int y :: .int x :: st) M R = exe d mi (pc + 3) lv (.int (if y < x then y else x) :: st) M R :=
  r_next hd (Or.inl rfl) (by simp [zins, zcallS, hp, hc])
theorem r_cpy {idx p0 q0 a b : Nat} {sp dp n : Int32} (hd : decode (zcod mi) pc = .ok (.invokestatic idx, 3)) (hp : zp (zoc mi) idx = (11, p0, q0)) (ha : zK R a = 11) (hb : zK R b = 11) (han : a < zN R) (hbn : b < zN R) (h1 : ¬ sp < 0) (h2 : ¬ dp < 0) (h3 : ¬ n < 0) (h4 : sp.toNatClampNeg + n.toNatClampNeg ≤ zLn R a) (h5 : dp.toNatClampNeg + n.toNatClampNeg ≤ zLn R b) (hc : cS st ≤ 8) :
    exe d mi pc lv (.int n :: .int dp :: .ref b :: .int sp :: .ref a :: st) M R = exe d mi (pc + 3) lv st (cpM M a b sp.toNatClampNeg dp.toNatClampNeg n.toNatClampNeg) R :=
  r_next hd (Or.inl rfl) (by show zcallS (zoc mi) idx (pc + 3) lv (.int n :: .int dp :: .ref b :: .int sp :: .ref a :: st) (M, R) = _; unfold zcallS; rw [hp]; simp only; rw [if_pos ⟨ha, hb, han, hbn, h1, h2, h3, h4, h5, hc⟩])
-- calls
def zk0 (r : Option ZO) (N : Nat) (k : Option Value → ZM → ZH → Option ZO) : Option ZO := match r with
  | none => none
  | some (.inl v, M', R') => if zN R' = N then k v M' R' else none
  | some (.inr E, M', R') => some (.inr E, M', R')
theorem zk0_inl {v : Option Value} {M' : ZM} {R' : ZH} {N : Nat} {k : Option Value → ZM → ZH → Option ZO} (h : zN R' = N) : zk0 (some (.inl v, M', R')) N k = k v M' R' := if_pos h
theorem zk0_inr {E : String} {M' : ZM} {R' : ZH} {N : Nat} {k : Option Value → ZM → ZH → Option ZO} : zk0 (some (.inr E, M', R')) N k = some (.inr E, M', R') := rfl
/-- a constructor's call: it may make cells -/
def zk1 (r : Option ZO) (N : Nat) (lv st : List Value) (k : ZM → ZH → Option ZO) : Option ZO := match r with
  | none => none
  | some (.inl none, M', R') => if zN R' = N ∨ (lv ++ st).all (okV N) = true then k M' R' else none
  | some (.inl (some _), _, _) => none
  | some (.inr E, M', R') => some (.inr E, M', R')
theorem zk1_inl {M' : ZM} {R' : ZH} {N : Nat} {k : ZM → ZH → Option ZO} (h : (lv ++ st).all (okV N) = true) : zk1 (some (.inl none, M', R')) N lv st k = k M' R' := if_pos (Or.inr h)
theorem r_bnd {r : Option ZO} {s' : ZS} (hh : ∀ E, zhn mi pc E = none) : zbnd d mi pc false s' r = zk0 r (zN s'.2.2.2.2) (fun v M' R' => exe d mi s'.1 s'.2.1 (v.toList ++ s'.2.2.1) M' R') := by
  unfold zbnd zk0
  match r with
  | none => rfl
  | some (.inl v, h') =>
    simp only [zaft, Bool.false_and, Bool.or_false, decide_eq_true_eq]
    rfl
  | some (.inr E, h') => simp only [hh E]
theorem r_callS {idx cm n : Nat} {as : List Value} (hd : decode (zcod mi) pc = .ok (.invokestatic idx, 3)) (hp : zp (zoc mi) idx = (17, cm, n)) (hh : ∀ E, zhn mi pc E = none) (hn : as.length = n) (hc : cS st ≤ 8) :
    exe (d + 1) mi pc lv (as.reverse ++ st) M R = zk0 (cal d cm as M R) (zN R) (fun v M' R' => exe (d + 1) mi (pc + 3) lv (v.toList ++ st) M' R') := by
  subst hn
  have hs : zstep mi (pc, lv, as.reverse ++ st, M, R) = some (.inr (.inr (cm, as, false, (pc + 3, lv, st, M, R)))) := by
    rw [zstep_of hd (Or.inl rfl)]
    show zcallS (zoc mi) idx (pc + 3) lv (as.reverse ++ st) (M, R) = _
    unfold zcallS
    rw [hp]
    simp only
    have e1 : (as.reverse ++ st).take as.length = as.reverse := by rw [← List.length_reverse, List.take_left]
    have e2 : (as.reverse ++ st).drop as.length = st := by rw [← List.length_reverse, List.drop_left]
    rw [e1, e2, if_pos ⟨hc, by simp⟩, List.reverse_reverse]
  have h := exs_call (d := d) hs
  show exs (d + 1) mi (pc, lv, as.reverse ++ st, M, R) = _
  rw [h, r_bnd hh]
  rfl
theorem r_callV {idx cm n a : Nat} {as : List Value} (hd : decode (zcod mi) pc = .ok (.invokevirtual idx, 3)) (hp : zp (zoc mi) idx = (2, cm, n)) (hh : ∀ E, zhn mi pc E = none) (hn : as.length = n) (hk : zK R a = zoc cm + 1) (hc : cS st ≤ 8) :
    exe (d + 1) mi pc lv (as.reverse ++ .ref a :: st) M R = zk0 (cal d cm (.ref a :: as) M R) (zN R) (fun v M' R' => exe (d + 1) mi (pc + 3) lv (v.toList ++ st) M' R') := by
  subst hn
  have hs : zstep mi (pc, lv, as.reverse ++ .ref a :: st, M, R) = some (.inr (.inr (cm, .ref a :: as, false, (pc + 3, lv, st, M, R)))) := by
    rw [zstep_of hd (Or.inl rfl)]
    show zcallV (zoc mi) idx (pc + 3) lv (as.reverse ++ .ref a :: st) (M, R) = _
    unfold zcallV
    rw [hp]
    simp only
    have e0 : as.reverse ++ Value.ref a :: st = (as.reverse ++ [Value.ref a]) ++ st := by simp
    have e3 : (as.reverse ++ [Value.ref a]).length = as.length + 1 := by simp
    have e1 : (as.reverse ++ Value.ref a :: st).take (as.length + 1) = as.reverse ++ [Value.ref a] := by rw [e0, ← e3, List.take_left]
    have e2 : (as.reverse ++ Value.ref a :: st).drop (as.length + 1) = st := by rw [e0, ← e3, List.drop_left]
    have e4 : (as.reverse ++ Value.ref a :: st)[as.length]? = some (Value.ref a) := by simp
    rw [e1, e2, e4, if_pos hc]
    simp only
    rw [if_pos hk]
    simp
  have h := exs_call (d := d) hs
  show exs (d + 1) mi (pc, lv, as.reverse ++ .ref a :: st, M, R) = _
  rw [h, r_bnd hh]
  rfl
theorem r_callI {idx cm n a : Nat} {as : List Value} (hd : decode (zcod mi) pc = .ok (.invokespecial idx, 3)) (hp : zp (zoc mi) idx = (16, cm, n)) (hh : ∀ E, zhn mi pc E = none) (hn : as.length = n) (hk : zK R a = zoc cm + 1) (han : a < zN R) (hc : cS st ≤ 8) {M' : ZM} {R' : ZH} (hr : cal d cm (.ref a :: as) M R = some (.inl none, M', R')) (ho : (lv ++ st).all (okV (zN R)) = true) :
    exe (d + 1) mi pc lv (as.reverse ++ .ref a :: st) M R = exe (d + 1) mi (pc + 3) lv st M' R' := by
  subst hn
  have hs : zstep mi (pc, lv, as.reverse ++ .ref a :: st, M, R) = some (.inr (.inr (cm, .ref a :: as, true, (pc + 3, lv, st, M, R)))) := by
    rw [zstep_of hd (Or.inl rfl)]
    show zcallI (zoc mi) idx (pc + 3) lv (as.reverse ++ .ref a :: st) (M, R) = _
    unfold zcallI
    rw [hp]
    simp only
    have e0 : as.reverse ++ Value.ref a :: st = (as.reverse ++ [Value.ref a]) ++ st := by simp
    have e3 : (as.reverse ++ [Value.ref a]).length = as.length + 1 := by simp
    have e1 : (as.reverse ++ Value.ref a :: st).take (as.length + 1) = as.reverse ++ [Value.ref a] := by rw [e0, ← e3, List.take_left]
    have e2 : (as.reverse ++ Value.ref a :: st).drop (as.length + 1) = st := by rw [e0, ← e3, List.drop_left]
    have e4 : (as.reverse ++ Value.ref a :: st)[as.length]? = some (Value.ref a) := by simp
    rw [e1, e2, e4, if_pos hc]
    simp only
    rw [if_pos ⟨hk, han⟩]
    simp
  have h := exs_call (d := d) hs
  show exs (d + 1) mi (pc, lv, as.reverse ++ .ref a :: st, M, R) = _
  rw [h]
  have hr' : cls d cm (.ref a :: as) (M, R) = some (.inl none, M', R') := hr
  simp only
  rw [hr']
  unfold zbnd
  simp only [zaft, ho, Bool.and_true, Bool.or_true, if_true]
  rfl
theorem r_iret {v : Int32} {ty : FieldType} (hd : decode (zcod mi) pc = .ok (.ireturn, 1)) (ht : zrt mi = some ty) (hn : narrow ty (.int v) = .int v) : exe d mi pc lv [.int v] M R = some (.inl (some (.int v)), M, R) :=
  exs_done ((zstep_of hd (Or.inl rfl)).trans (by simp [zins, zret, ht, hn]))
theorem r_aret {a : Nat} {C : String} (hd : decode (zcod mi) pc = .ok (.areturn, 1)) (ht : zrt mi = some (.object C)) : exe d mi pc lv [.ref a] M R = some (.inl (some (.ref a)), M, R) :=
  exs_done ((zstep_of hd (Or.inl rfl)).trans (by simp [zins, zret, ht]))
theorem r_lret {v : Int64} (hd : decode (zcod mi) pc = .ok (.lreturn, 1)) (ht : zrt mi = some .long) : exe d mi pc lv [.long v] M R = some (.inl (some (.long v)), M, R) :=
  exs_done ((zstep_of hd (Or.inl rfl)).trans (by simp [zins, zret, ht]))
theorem r_vret (hd : decode (zcod mi) pc = .ok (.return_, 1)) (ht : zrt mi = none) : exe d mi pc lv [] M R = some (.inl none, M, R) :=
  exs_done ((zstep_of hd (Or.inl rfl)).trans (by simp [zins, zret, ht]))
end Rows
