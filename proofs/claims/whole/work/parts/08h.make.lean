theorem tr_up {fx : Value} {ad : Nat → Nat} {x q : Nat} {v : Value} (hx : x < 1000000) (hv : okV x v = true) : tr fx (va_up ad x q) v = tr fx ad v := by
  cases v with
  | ref a =>
    have : a < x ∨ 1000000 ≤ a := by simpa [okV] using hv
    show Value.ref (va_up ad x q a) = Value.ref (ad a)
    rw [va_up_ne (k := x) (j := a) ad q (this.elim (fun h9 => Nat.ne_of_lt h9) (fun h9 e => absurd (e ▸ h9 : 1000000 ≤ x) (Nat.not_le.mpr hx)))]
  | retAddr k =>
    cases k with
    | zero => rfl
    | succ k =>
      cases k with
      | zero => rfl
      | succ k => rfl
  | _ => rfl
theorem tr_upL {fx : Value} {ad : Nat → Nat} {x q : Nat} {st : List Value} (hx : x < 1000000) (hv : st.all (okV x) = true) : st.map (tr fx (va_up ad x q)) = st.map (tr fx ad) :=
  List.map_congr_left (fun v hm => tr_up hx (List.all_eq_true.mp hv v hm))
theorem okL.up {fx : Value} {ad : Nat → Nat} {x q : Nat} {lv : List Value} {ls : Array Slot} (hx : x < 1000000) (hv : lv.all (okV x) = true) (h : okL fx ad lv ls) : okL fx (va_up ad x q) lv ls :=
  ⟨h.1, h.2.1, fun i v hi hne => by rw [tr_up hx (List.all_eq_true.mp hv v (List.mem_of_getElem? hi))]; exact h.2.2 i v hi hne⟩
theorem nwR_K {R : ZH} {kd len a : Nat} : zK (nwR R kd len) a = if a = zN R then kd else zK R a := by
  show (if a = zN R then (kd, len) else R.2.2.1 a).1 = _
  by_cases q : a = zN R
  · rw [if_pos q, if_pos q]
  · rw [if_neg q, if_neg q]; rfl
theorem nwR_Ln {R : ZH} {kd len a : Nat} : zLn (nwR R kd len) a = if a = zN R then len else zLn R a := by
  show (if a = zN R then (kd, len) else R.2.2.1 a).2 = _
  by_cases q : a = zN R
  · rw [if_pos q, if_pos q]
  · rw [if_neg q, if_neg q]; rfl
theorem nwR_Rf {R : ZH} {kd len a j : Nat} : zRf (nwR R kd len) a j = if a = zN R then none else zRf R a j := rfl
theorem nwR_J {R : ZH} {kd len a j : Nat} : zJ (nwR R kd len) a j = if a = zN R then 0 else zJ R a j := rfl
theorem nwM_row {M : ZM} {x : Nat} : nwM M x x = fun _ => 0 := funext fun j => if_pos rfl
/-- a cell more -/
theorem zInv.push {D : va_G} {B0 : Nat} {fa : Nat → Nat} {fx : Value} {FM : ZM} {FS : ZH} {s : State} {n0 : Nat} {ad0 : Nat → Nat} {lv : List Value} {M : ZM} {R : ZH} {ad : Nat → Nat} {cf : Nat → ClassId} {tys tx : List (ClassId × FieldType)} {H H1 : Heap} {locs : List Loc} {ls : Array Slot} {q kd len : Nat} {cA : ClassId}
    (I : zInv D B0 fa fx FM FS s n0 ad0 lv (M, R) ad cf tys H locs ls) (hx : zN R < 1000) (hv : lv.all (okV (zN R)) = true) (hK : va_K D vwCl (tys ++ tx) s) (hP : va_P D vwCl (wl (va_up ad (zN R) q) (va_up cf (zN R) cA) (nwM M (zN R), nwR R kd len)) H1) (hD : va_D (zA B0) (wl (va_up ad (zN R) q) (va_up cf (zN R) cA) (nwM M (zN R), nwR R kd len))) (hS : va_S (zA B0) s.heap H1 locs)
    (hw : (1 ≤ kd ∧ kd ≤ 8 ∧ len = zNN (kd - 1)) ∨ ((11 ≤ kd ∧ kd ≤ 16 ∧ len ≤ 100000) ∧ ∃ t0 : Nat, (tys ++ tx)[t0]? = some (cA, zety kd))) :
    zInv D B0 fa fx FM FS s n0 ad0 lv (nwM M (zN R), nwR R kd len) (va_up ad (zN R) q) (va_up cf (zN R) cA) (tys ++ tx) H1 locs ls := by
  refine ⟨hK, ⟨hP, hD, ?_, ?_, ?_, ?_, ?_⟩, hS, okL.up (by omega) hv I.2.2.2.1, ?_, ?_⟩
  · intro i hi
    have hi' : i < zN R + 1 := hi
    show zwf (tys ++ tx) (va_up cf (zN R) cA) (nwR R kd len) i
    unfold zwf
    rw [nwR_K, nwR_Ln]
    by_cases e : i = zN R
    · rw [if_pos e, if_pos e, e, va_up_self]
      exact hw
    · rw [if_neg e, if_neg e, va_up_ne _ _ e]
      rcases I.2.1.2.2.1 i (show i < zN R by omega) with g | ⟨g, t0, ht⟩
      · exact Or.inl g
      · refine Or.inr ⟨g, t0, ?_⟩
        rw [List.getElem?_append_left (List.getElem?_eq_some_iff.mp ht).1]
        exact ht
  · intro a j b ha hb
    have ha' : a < zN R + 1 := ha
    have hb' : (if a = zN R then none else zRf R a j) = some b := hb
    split at hb'
    · cases hb'
    · have := I.2.1.2.2.2.1 a j b (show a < zN R by omega) hb'
      have h2 : zN (nwR R kd len) = zN R + 1 := rfl
      show b < zN (nwR R kd len) ∨ _
      rw [h2]
      have h3 : b < zN R ∨ 1000000 ≤ b := this
      omega
  · intro a ha
    have h0 := I.2.1.2.2.2.2.1 a ha
    have hne : a ≠ zN R := by omega
    refine ⟨by rw [va_up_ne _ _ hne]; exact h0.1, ?_, ?_, fun j => ⟨?_, ?_⟩⟩
    · show zK (nwR R kd len) a = _
      rw [nwR_K, if_neg hne]; exact h0.2.1
    · show zLn (nwR R kd len) a = _
      rw [nwR_Ln, if_neg hne]; exact h0.2.2.1
    · show nwM M (zN R) a j = _
      exact (if_neg hne).trans (h0.2.2.2 j).1
    · show zRf (nwR R kd len) a j = _
      rw [nwR_Rf, if_neg hne]; exact (h0.2.2.2 j).2
  · show zN R + 1 ≤ 1100
    omega
  · intro a h1 h2
    have h1' : zN R + 1 ≤ a := h1
    show zK (nwR R kd len) a = 0
    rw [nwR_K, if_neg (by omega)]
    exact I.2.1.2.2.2.2.2.2 a (show zN R ≤ a by omega) h2
  · have := I.2.2.2.2.1
    show n0 ≤ zN R + 1
    have h2 : n0 ≤ zN R := this
    omega
  · intro i hi
    have h2 : n0 ≤ zN R := I.2.2.2.2.1
    have hi' : i < n0 ∨ zN R + 1 ≤ i := hi
    rw [va_up_ne _ _ (by omega)]
    exact I.2.2.2.2.2 i (by show i < n0 ∨ zN R ≤ i; omega)

section Sound
variable {l : Launch} {D : va_G} {B0 : Nat} {fa : Nat → Nat} {fx : Value} {FM : ZM} {FS : ZH}
variable {p : Program} {e : Env} {R : Room} {s : State} {m : MethodId} {args : Array Value} {below : List Frame} {meth : Method} {c : Code} {Q : State → Prop}
variable {n0 c0 s0 : Nat} {ad0 : Nat → Nat} {mi d pc : Nat} {lv r : List Value} {h : Hp}
variable {M : ZM} {Rz : ZH}

set_option maxHeartbeats 1000000 in
theorem sd_new (F : zFSok FM FS) (C : zCtx B0 fa fx FM FS p R s m args meth c mi d) {idx ci n : Nat} (hd : decode (zcod mi) pc = .ok (.new idx, 3)) (hp : zp (zoc mi) idx = (3, ci, n)) (ho : (lv ++ r).all (okV (zN Rz)) = true) (hx : zN Rz < 1000) (hge : c0 ≤ zC Rz ∧ s0 ≤ zL Rz) (hcap : zC Rz + 1 ≤ c0 + R.cells ∧ zL Rz + n ≤ s0 + R.slots) (kk : zGd l D B0 fa fx FM FS p e R s m args below meth c Q n0 c0 s0 ad0 (pc + 3) (lv) (.ref (zN Rz) :: r) ((nwM M (zN Rz), nwR Rz (ci + 1) n))) : zGd l D B0 fa fx FM FS p e R s m args below meth c Q n0 c0 s0 ad0 (pc) (lv) (r) ((M, Rz)) := by
  intro ad cf tys H locs ls I
  rw [List.all_append, Bool.and_eq_true] at ho
  have hA : ∀ q, s.heap.size ≤ q → zA B0 q := fun q hq => Nat.le_trans C.2.2.2.2.2.2.2.2.2.1.2.2.2.2.2.2.2.2.1 hq
  obtain ⟨hw1, hw2, hw3, hc, rfl⟩ := zpN hp
  refine va_new (D := D) (cl := vwCl) (tys := tys) (ws := wl ad cf (M, Rz)) (A := zA B0) (H0 := s.heap) (ci := ci) (C := zcnm ci) (T := zTT ci) (N := zNN ci) (fs := (List.range (zNN ci)).map (fun k => if zft ci k = 2 then Value.null else .int 0)) C.1 C.2.1 C.2.2.2.2.2.1 (zlays ci hc) (zty ci) (zty_ok ci hc) C.2.2.2.2.1 (C.2.2.2.2.2.1 _ hw1) (C.2.2.2.2.2.1 _ hw2) (C.2.2.2.2.2.1 _ hw3) I.1 I.2.1.1 I.2.1.2.1 I.2.2.1 hA (zTT_cl ci hc) ?_ (by show zC Rz - c0 + 1 ≤ _; omega) (by show zL Rz - s0 + _ ≤ _; omega) hd ?_
  · intro j hj
    show _ = ((List.range (zNN ci)).map (fun k => if zft ci k = 2 then Value.null else .int 0)).getD j .null
    rw [List.getD_eq_getElem?_getD, List.getElem?_map, List.getElem?_range hj]
    show _ = if zft ci j = 2 then Value.null else .int 0
    rcases zft_int hc hj with g | g | g
    · rw [g.2, if_neg (by omega)]; rfl
    · rw [g.2, if_neg (by omega)]; rfl
    · rw [if_pos g.1]
      rcases g.2 with ⟨t, e⟩ | ⟨t, e⟩
      · rw [e]; rfl
      · rw [e]; rfl
  · intro q H1 hP hD hS
    have e1 : wl ad cf (M, Rz) ++ [(q, .inr (ci, (List.range (zNN ci)).map (fun k => if zft ci k = 2 then Value.null else .int 0)))] = wl (va_up ad (zN Rz) q) (va_up cf (zN Rz) (cf 0)) (nwM M (zN Rz), nwR Rz (ci + 1) (zNN ci)) := by
      refine wl_push I.2.1.2.2.2.1 (by omega) ?_
      rw [zcell_obj (h := (nwM M (zN Rz), nwR Rz (ci + 1) (zNN ci))) (ci := ci) (by show zK (nwR Rz (ci + 1) (zNN ci)) (zN Rz) = _; rw [nwR_K, if_pos rfl]) hc]
      show _ = Sum.inr (ci, (List.range (zLn (nwR Rz (ci + 1) (zNN ci)) (zN Rz))).map _)
      rw [nwR_Ln, if_pos rfl]
      congr 2
      apply List.map_congr_left
      intro k _
      unfold zfv
      show _ = if zft ci k = 2 then va_rf ((zRf (nwR Rz (ci + 1) (zNN ci)) (zN Rz) k).map _) else .int (nwM M (zN Rz) (zN Rz) k)
      rw [nwR_Rf, if_pos rfl, nwM_row]
      rfl
    rw [e1] at hP hD
    have J := zInv.push (tx := []) (q := q) (kd := ci + 1) (len := zNN ci) (cA := cf 0) I hx ho.1 (by rw [List.append_nil]; exact I.1) hP hD hS (Or.inl ⟨by omega, by omega, rfl⟩)
    have k2 := kk _ _ _ H1 locs ls J
    have e2 : (Value.ref (zN Rz) :: r).map (tr fx (va_up ad (zN Rz) q)) = .ref q :: r.map (tr fx ad) := by
      rw [List.map_cons, tr_upL (by omega) ho.2]
      show Value.ref (va_up ad (zN Rz) q (zN Rz)) :: _ = _
      rw [va_up_self]
    rw [e2] at k2
    have e3 : zC (nwR Rz (ci + 1) (zNN ci)) - c0 = zC Rz - c0 + 1 := by show zC Rz + 1 - c0 = _; omega
    have e4 : zL (nwR Rz (ci + 1) (zNN ci)) - s0 = zL Rz - s0 + zNN ci := by show zL Rz + zNN ci - s0 = _; omega
    rw [← e3, ← e4]
    exact k2

set_option maxHeartbeats 1000000 in
theorem sd_nwa_int (F : zFSok FM FS) (C : zCtx B0 fa fx FM FS p R s m args meth c mi d) {n : Int32} (hd : decode (zcod mi) pc = .ok (.newarray .int, 2)) (h0 : ¬ n < 0) (hN2 : n.toNatClampNeg ≤ 100000) (ho : (lv ++ r).all (okV (zN Rz)) = true) (hx : zN Rz < 1000) (hge : c0 ≤ zC Rz ∧ s0 ≤ zL Rz) (hcap : zC Rz + 1 ≤ c0 + R.cells ∧ zL Rz + n.toNatClampNeg ≤ s0 + R.slots) (kk : zGd l D B0 fa fx FM FS p e R s m args below meth c Q n0 c0 s0 ad0 (pc + 2) (lv) (.ref (zN Rz) :: r) ((nwM M (zN Rz), nwR Rz 11 n.toNatClampNeg))) : zGd l D B0 fa fx FM FS p e R s m args below meth c Q n0 c0 s0 ad0 (pc) (lv) (.int n :: r) ((M, Rz)) := by
  intro ad cf tys H locs ls I
  rw [List.all_append, Bool.and_eq_true] at ho
  have hA : ∀ q, s.heap.size ≤ q → zA B0 q := fun q hq => Nat.le_trans C.2.2.2.2.2.2.2.2.2.1.2.2.2.2.2.2.2.2.1 hq
  refine va_newa (D := D) (cl := vwCl) (tys := tys) (ws := wl ad cf (M, Rz)) (A := zA B0) (H0 := s.heap) (atype := .int) (ty := .int) (N' := n.toNatClampNeg) (a0 := (n.toNatClampNeg, .inl (fun _ => 0))) C.1 C.2.1 (C.2.2.2.2.2.1 _ w_ac_int) rfl I.1 I.2.1.1 I.2.1.2.1 I.2.2.1 hA (fun cA => rfl) h0 rfl ?_ (by show zC Rz - c0 + 1 ≤ _; omega) (by show zL Rz - s0 + _ ≤ _; omega) hd ?_
  · have : componentBytes .int ≤ 8 := by decide
    exact Nat.le_trans (Nat.mul_le_mul hN2 this) (by decide)
  · intro q cA H1 hK hP hD hS
    have e1 : wl ad cf (M, Rz) ++ [(q, .inl (cA, n.toNatClampNeg, .inl (fun _ => 0)))] = wl (va_up ad (zN Rz) q) (va_up cf (zN Rz) cA) (nwM M (zN Rz), nwR Rz 11 n.toNatClampNeg) := by
      refine wl_push I.2.1.2.2.2.1 (by omega) ?_
      rw [zcell_int (h := (nwM M (zN Rz), nwR Rz 11 n.toNatClampNeg)) (i := zN Rz) (by show zK (nwR Rz 11 n.toNatClampNeg) (zN Rz) = 11 ∨ zK (nwR Rz 11 n.toNatClampNeg) (zN Rz) = 12 ∨ zK (nwR Rz 11 n.toNatClampNeg) (zN Rz) = 13; rw [nwR_K, if_pos rfl]; exact Or.inl rfl)]
      show _ = Sum.inl (va_up cf (zN Rz) cA (zN Rz), zLn (nwR Rz 11 n.toNatClampNeg) (zN Rz), Sum.inl (nwM M (zN Rz) (zN Rz)))
      rw [nwR_Ln, if_pos rfl, nwM_row, va_up_self]
    rw [e1] at hP hD
    have J := zInv.push (tx := [(cA, .int)]) (q := q) (kd := 11) (len := n.toNatClampNeg) (cA := cA) I hx ho.1 hK hP hD hS (Or.inr ⟨⟨by omega, by omega, hN2⟩, tys.length, by rw [List.getElem?_append_right (Nat.le_refl _), Nat.sub_self]; rfl⟩)
    have k2 := kk _ _ _ H1 locs ls J
    have e2 : (Value.ref (zN Rz) :: r).map (tr fx (va_up ad (zN Rz) q)) = .ref q :: r.map (tr fx ad) := by
      rw [List.map_cons, tr_upL (by omega) ho.2]
      show Value.ref (va_up ad (zN Rz) q (zN Rz)) :: _ = _
      rw [va_up_self]
    rw [e2] at k2
    have e3 : zC (nwR Rz 11 n.toNatClampNeg) - c0 = zC Rz - c0 + 1 := by show zC Rz + 1 - c0 = _; omega
    have e4 : zL (nwR Rz 11 n.toNatClampNeg) - s0 = zL Rz - s0 + n.toNatClampNeg := by show zL Rz + n.toNatClampNeg - s0 = _; omega
    rw [← e3, ← e4]
    exact k2

set_option maxHeartbeats 1000000 in
theorem sd_nwa_byte (F : zFSok FM FS) (C : zCtx B0 fa fx FM FS p R s m args meth c mi d) {n : Int32} (hd : decode (zcod mi) pc = .ok (.newarray .byte, 2)) (h0 : ¬ n < 0) (hN2 : n.toNatClampNeg ≤ 100000) (ho : (lv ++ r).all (okV (zN Rz)) = true) (hx : zN Rz < 1000) (hge : c0 ≤ zC Rz ∧ s0 ≤ zL Rz) (hcap : zC Rz + 1 ≤ c0 + R.cells ∧ zL Rz + n.toNatClampNeg ≤ s0 + R.slots) (kk : zGd l D B0 fa fx FM FS p e R s m args below meth c Q n0 c0 s0 ad0 (pc + 2) (lv) (.ref (zN Rz) :: r) ((nwM M (zN Rz), nwR Rz 12 n.toNatClampNeg))) : zGd l D B0 fa fx FM FS p e R s m args below meth c Q n0 c0 s0 ad0 (pc) (lv) (.int n :: r) ((M, Rz)) := by
  intro ad cf tys H locs ls I
  rw [List.all_append, Bool.and_eq_true] at ho
  have hA : ∀ q, s.heap.size ≤ q → zA B0 q := fun q hq => Nat.le_trans C.2.2.2.2.2.2.2.2.2.1.2.2.2.2.2.2.2.2.1 hq
  refine va_newa (D := D) (cl := vwCl) (tys := tys) (ws := wl ad cf (M, Rz)) (A := zA B0) (H0 := s.heap) (atype := .byte) (ty := .byte) (N' := n.toNatClampNeg) (a0 := (n.toNatClampNeg, .inl (fun _ => 0))) C.1 C.2.1 (C.2.2.2.2.2.1 _ w_ac_byte) rfl I.1 I.2.1.1 I.2.1.2.1 I.2.2.1 hA (fun cA => rfl) h0 rfl ?_ (by show zC Rz - c0 + 1 ≤ _; omega) (by show zL Rz - s0 + _ ≤ _; omega) hd ?_
  · have : componentBytes .byte ≤ 8 := by decide
    exact Nat.le_trans (Nat.mul_le_mul hN2 this) (by decide)
  · intro q cA H1 hK hP hD hS
    have e1 : wl ad cf (M, Rz) ++ [(q, .inl (cA, n.toNatClampNeg, .inl (fun _ => 0)))] = wl (va_up ad (zN Rz) q) (va_up cf (zN Rz) cA) (nwM M (zN Rz), nwR Rz 12 n.toNatClampNeg) := by
      refine wl_push I.2.1.2.2.2.1 (by omega) ?_
      rw [zcell_int (h := (nwM M (zN Rz), nwR Rz 12 n.toNatClampNeg)) (i := zN Rz) (by show zK (nwR Rz 12 n.toNatClampNeg) (zN Rz) = 11 ∨ zK (nwR Rz 12 n.toNatClampNeg) (zN Rz) = 12 ∨ zK (nwR Rz 12 n.toNatClampNeg) (zN Rz) = 13; rw [nwR_K, if_pos rfl]; exact Or.inr (Or.inl rfl))]
      show _ = Sum.inl (va_up cf (zN Rz) cA (zN Rz), zLn (nwR Rz 12 n.toNatClampNeg) (zN Rz), Sum.inl (nwM M (zN Rz) (zN Rz)))
      rw [nwR_Ln, if_pos rfl, nwM_row, va_up_self]
    rw [e1] at hP hD
    have J := zInv.push (tx := [(cA, .byte)]) (q := q) (kd := 12) (len := n.toNatClampNeg) (cA := cA) I hx ho.1 hK hP hD hS (Or.inr ⟨⟨by omega, by omega, hN2⟩, tys.length, by rw [List.getElem?_append_right (Nat.le_refl _), Nat.sub_self]; rfl⟩)
    have k2 := kk _ _ _ H1 locs ls J
    have e2 : (Value.ref (zN Rz) :: r).map (tr fx (va_up ad (zN Rz) q)) = .ref q :: r.map (tr fx ad) := by
      rw [List.map_cons, tr_upL (by omega) ho.2]
      show Value.ref (va_up ad (zN Rz) q (zN Rz)) :: _ = _
      rw [va_up_self]
    rw [e2] at k2
    have e3 : zC (nwR Rz 12 n.toNatClampNeg) - c0 = zC Rz - c0 + 1 := by show zC Rz + 1 - c0 = _; omega
    have e4 : zL (nwR Rz 12 n.toNatClampNeg) - s0 = zL Rz - s0 + n.toNatClampNeg := by show zL Rz + n.toNatClampNeg - s0 = _; omega
    rw [← e3, ← e4]
    exact k2

set_option maxHeartbeats 1000000 in
theorem sd_nwa_boolean (F : zFSok FM FS) (C : zCtx B0 fa fx FM FS p R s m args meth c mi d) {n : Int32} (hd : decode (zcod mi) pc = .ok (.newarray .boolean, 2)) (h0 : ¬ n < 0) (hN2 : n.toNatClampNeg ≤ 100000) (ho : (lv ++ r).all (okV (zN Rz)) = true) (hx : zN Rz < 1000) (hge : c0 ≤ zC Rz ∧ s0 ≤ zL Rz) (hcap : zC Rz + 1 ≤ c0 + R.cells ∧ zL Rz + n.toNatClampNeg ≤ s0 + R.slots) (kk : zGd l D B0 fa fx FM FS p e R s m args below meth c Q n0 c0 s0 ad0 (pc + 2) (lv) (.ref (zN Rz) :: r) ((nwM M (zN Rz), nwR Rz 13 n.toNatClampNeg))) : zGd l D B0 fa fx FM FS p e R s m args below meth c Q n0 c0 s0 ad0 (pc) (lv) (.int n :: r) ((M, Rz)) := by
  intro ad cf tys H locs ls I
  rw [List.all_append, Bool.and_eq_true] at ho
  have hA : ∀ q, s.heap.size ≤ q → zA B0 q := fun q hq => Nat.le_trans C.2.2.2.2.2.2.2.2.2.1.2.2.2.2.2.2.2.2.1 hq
  refine va_newa (D := D) (cl := vwCl) (tys := tys) (ws := wl ad cf (M, Rz)) (A := zA B0) (H0 := s.heap) (atype := .boolean) (ty := .boolean) (N' := n.toNatClampNeg) (a0 := (n.toNatClampNeg, .inl (fun _ => 0))) C.1 C.2.1 (C.2.2.2.2.2.1 _ w_ac_boolean) rfl I.1 I.2.1.1 I.2.1.2.1 I.2.2.1 hA (fun cA => rfl) h0 rfl ?_ (by show zC Rz - c0 + 1 ≤ _; omega) (by show zL Rz - s0 + _ ≤ _; omega) hd ?_
  · have : componentBytes .boolean ≤ 8 := by decide
    exact Nat.le_trans (Nat.mul_le_mul hN2 this) (by decide)
  · intro q cA H1 hK hP hD hS
    have e1 : wl ad cf (M, Rz) ++ [(q, .inl (cA, n.toNatClampNeg, .inl (fun _ => 0)))] = wl (va_up ad (zN Rz) q) (va_up cf (zN Rz) cA) (nwM M (zN Rz), nwR Rz 13 n.toNatClampNeg) := by
      refine wl_push I.2.1.2.2.2.1 (by omega) ?_
      rw [zcell_int (h := (nwM M (zN Rz), nwR Rz 13 n.toNatClampNeg)) (i := zN Rz) (by show zK (nwR Rz 13 n.toNatClampNeg) (zN Rz) = 11 ∨ zK (nwR Rz 13 n.toNatClampNeg) (zN Rz) = 12 ∨ zK (nwR Rz 13 n.toNatClampNeg) (zN Rz) = 13; rw [nwR_K, if_pos rfl]; exact Or.inr (Or.inr rfl))]
      show _ = Sum.inl (va_up cf (zN Rz) cA (zN Rz), zLn (nwR Rz 13 n.toNatClampNeg) (zN Rz), Sum.inl (nwM M (zN Rz) (zN Rz)))
      rw [nwR_Ln, if_pos rfl, nwM_row, va_up_self]
    rw [e1] at hP hD
    have J := zInv.push (tx := [(cA, .boolean)]) (q := q) (kd := 13) (len := n.toNatClampNeg) (cA := cA) I hx ho.1 hK hP hD hS (Or.inr ⟨⟨by omega, by omega, hN2⟩, tys.length, by rw [List.getElem?_append_right (Nat.le_refl _), Nat.sub_self]; rfl⟩)
    have k2 := kk _ _ _ H1 locs ls J
    have e2 : (Value.ref (zN Rz) :: r).map (tr fx (va_up ad (zN Rz) q)) = .ref q :: r.map (tr fx ad) := by
      rw [List.map_cons, tr_upL (by omega) ho.2]
      show Value.ref (va_up ad (zN Rz) q (zN Rz)) :: _ = _
      rw [va_up_self]
    rw [e2] at k2
    have e3 : zC (nwR Rz 13 n.toNatClampNeg) - c0 = zC Rz - c0 + 1 := by show zC Rz + 1 - c0 = _; omega
    have e4 : zL (nwR Rz 13 n.toNatClampNeg) - s0 = zL Rz - s0 + n.toNatClampNeg := by show zL Rz + n.toNatClampNeg - s0 = _; omega
    rw [← e3, ← e4]
    exact k2

set_option maxHeartbeats 1000000 in
theorem sd_nwa_long (F : zFSok FM FS) (C : zCtx B0 fa fx FM FS p R s m args meth c mi d) {n : Int32} (hd : decode (zcod mi) pc = .ok (.newarray .long, 2)) (h0 : ¬ n < 0) (hN2 : n.toNatClampNeg ≤ 100000) (ho : (lv ++ r).all (okV (zN Rz)) = true) (hx : zN Rz < 1000) (hge : c0 ≤ zC Rz ∧ s0 ≤ zL Rz) (hcap : zC Rz + 1 ≤ c0 + R.cells ∧ zL Rz + n.toNatClampNeg ≤ s0 + R.slots) (kk : zGd l D B0 fa fx FM FS p e R s m args below meth c Q n0 c0 s0 ad0 (pc + 2) (lv) (.ref (zN Rz) :: r) ((nwM M (zN Rz), nwR Rz 14 n.toNatClampNeg))) : zGd l D B0 fa fx FM FS p e R s m args below meth c Q n0 c0 s0 ad0 (pc) (lv) (.int n :: r) ((M, Rz)) := by
  intro ad cf tys H locs ls I
  rw [List.all_append, Bool.and_eq_true] at ho
  have hA : ∀ q, s.heap.size ≤ q → zA B0 q := fun q hq => Nat.le_trans C.2.2.2.2.2.2.2.2.2.1.2.2.2.2.2.2.2.2.1 hq
  refine va_newa (D := D) (cl := vwCl) (tys := tys) (ws := wl ad cf (M, Rz)) (A := zA B0) (H0 := s.heap) (atype := .long) (ty := .long) (N' := n.toNatClampNeg) (a0 := (n.toNatClampNeg, .inr (.inl (fun _ => 0)))) C.1 C.2.1 (C.2.2.2.2.2.1 _ w_ac_long) rfl I.1 I.2.1.1 I.2.1.2.1 I.2.2.1 hA (fun cA => rfl) h0 rfl ?_ (by show zC Rz - c0 + 1 ≤ _; omega) (by show zL Rz - s0 + _ ≤ _; omega) hd ?_
  · have : componentBytes .long ≤ 8 := by decide
    exact Nat.le_trans (Nat.mul_le_mul hN2 this) (by decide)
  · intro q cA H1 hK hP hD hS
    have e1 : wl ad cf (M, Rz) ++ [(q, .inl (cA, n.toNatClampNeg, .inr (.inl (fun _ => 0))))] = wl (va_up ad (zN Rz) q) (va_up cf (zN Rz) cA) (nwM M (zN Rz), nwR Rz 14 n.toNatClampNeg) := by
      refine wl_push I.2.1.2.2.2.1 (by omega) ?_
      rw [zcell_long (h := (nwM M (zN Rz), nwR Rz 14 n.toNatClampNeg)) (i := zN Rz) (by show zK (nwR Rz 14 n.toNatClampNeg) (zN Rz) = _; rw [nwR_K, if_pos rfl])]
      show _ = Sum.inl (va_up cf (zN Rz) cA (zN Rz), zLn (nwR Rz 14 n.toNatClampNeg) (zN Rz), Sum.inr (Sum.inl (zJ (nwR Rz 14 n.toNatClampNeg) (zN Rz))))
      rw [nwR_Ln, if_pos rfl, va_up_self, show zJ (nwR Rz 14 n.toNatClampNeg) (zN Rz) = (fun _ => 0) from funext fun j => if_pos rfl]
    rw [e1] at hP hD
    have J := zInv.push (tx := [(cA, .long)]) (q := q) (kd := 14) (len := n.toNatClampNeg) (cA := cA) I hx ho.1 hK hP hD hS (Or.inr ⟨⟨by omega, by omega, hN2⟩, tys.length, by rw [List.getElem?_append_right (Nat.le_refl _), Nat.sub_self]; rfl⟩)
    have k2 := kk _ _ _ H1 locs ls J
    have e2 : (Value.ref (zN Rz) :: r).map (tr fx (va_up ad (zN Rz) q)) = .ref q :: r.map (tr fx ad) := by
      rw [List.map_cons, tr_upL (by omega) ho.2]
      show Value.ref (va_up ad (zN Rz) q (zN Rz)) :: _ = _
      rw [va_up_self]
    rw [e2] at k2
    have e3 : zC (nwR Rz 14 n.toNatClampNeg) - c0 = zC Rz - c0 + 1 := by show zC Rz + 1 - c0 = _; omega
    have e4 : zL (nwR Rz 14 n.toNatClampNeg) - s0 = zL Rz - s0 + n.toNatClampNeg := by show zL Rz + n.toNatClampNeg - s0 = _; omega
    rw [← e3, ← e4]
    exact k2

set_option maxHeartbeats 1000000 in
theorem sd_anwa (F : zFSok FM FS) (C : zCtx B0 fa fx FM FS p R s m args meth c mi d) {idx : Nat} {n : Int32} (hd : decode (zcod mi) pc = .ok (.anewarray idx, 3)) (hp : zp (zoc mi) idx = (3, 5, 15)) (h0 : ¬ n < 0) (hN2 : n.toNatClampNeg ≤ 100000) (ho : (lv ++ r).all (okV (zN Rz)) = true) (hx : zN Rz < 1000) (hge : c0 ≤ zC Rz ∧ s0 ≤ zL Rz) (hcap : zC Rz + 1 ≤ c0 + R.cells ∧ zL Rz + n.toNatClampNeg ≤ s0 + R.slots) (kk : zGd l D B0 fa fx FM FS p e R s m args below meth c Q n0 c0 s0 ad0 (pc + 3) (lv) (.ref (zN Rz) :: r) ((nwM M (zN Rz), nwR Rz 15 n.toNatClampNeg))) : zGd l D B0 fa fx FM FS p e R s m args below meth c Q n0 c0 s0 ad0 (pc) (lv) (.int n :: r) ((M, Rz)) := by
  intro ad cf tys H locs ls I
  rw [List.all_append, Bool.and_eq_true] at ho
  have hA : ∀ q, s.heap.size ≤ q → zA B0 q := fun q hq => Nat.le_trans C.2.2.2.2.2.2.2.2.2.1.2.2.2.2.2.2.2.2.1 hq
  have hw : Cond.classLink (zcnm (zoc mi)) idx "StrikeBench$Table" ∈ lw_good := (zpN hp).1
  refine va_newq (D := D) (cl := vwCl) (tys := tys) (ws := wl ad cf (M, Rz)) (A := zA B0) (H0 := s.heap) (C := "StrikeBench$Table") (N' := n.toNatClampNeg) C.1 C.2.1 C.2.2.2.2.1 (C.2.2.2.2.2.1 _ hw) C.2.2.2.2.2.2.2.2.2.1.2.2.2.2.2.2.1.1 I.1 I.2.1.1 I.2.1.2.1 I.2.2.1 hA h0 rfl (by omega) (by show zC Rz - c0 + 1 ≤ _; omega) (by show zL Rz - s0 + _ ≤ _; omega) hd ?_
  intro q cA H1 hK hP hD hS
  have e1 : wl ad cf (M, Rz) ++ [(q, .inl (cA, n.toNatClampNeg, .inr (.inr (.inr (.inr (fun _ => none))))))] = wl (va_up ad (zN Rz) q) (va_up cf (zN Rz) cA) (nwM M (zN Rz), nwR Rz 15 n.toNatClampNeg) := by
    refine wl_push I.2.1.2.2.2.1 (by omega) ?_
    rw [zcell_ref (h := (nwM M (zN Rz), nwR Rz 15 n.toNatClampNeg)) (i := zN Rz) (Or.inl (by show zK (nwR Rz 15 n.toNatClampNeg) (zN Rz) = _; rw [nwR_K, if_pos rfl]))]
    show _ = Sum.inl (va_up cf (zN Rz) cA (zN Rz), zLn (nwR Rz 15 n.toNatClampNeg) (zN Rz), Sum.inr (Sum.inr (Sum.inr (Sum.inr (fun j => (zRf (nwR Rz 15 n.toNatClampNeg) (zN Rz) j).map (va_up ad (zN Rz) q))))))
    rw [nwR_Ln, if_pos rfl, va_up_self, show (fun j => (zRf (nwR Rz 15 n.toNatClampNeg) (zN Rz) j).map (va_up ad (zN Rz) q)) = (fun _ => none) from funext fun j => by rw [nwR_Rf, if_pos rfl]; rfl]
  rw [e1] at hP hD
  have J := zInv.push (tx := [(cA, .object "StrikeBench$Table")]) (q := q) (kd := 15) (len := n.toNatClampNeg) (cA := cA) I hx ho.1 hK hP hD hS (Or.inr ⟨⟨by omega, by omega, hN2⟩, tys.length, by rw [List.getElem?_append_right (Nat.le_refl _), Nat.sub_self]; rfl⟩)
  have k2 := kk _ _ _ H1 locs ls J
  have e2 : (Value.ref (zN Rz) :: r).map (tr fx (va_up ad (zN Rz) q)) = .ref q :: r.map (tr fx ad) := by
    rw [List.map_cons, tr_upL (by omega) ho.2]
    show Value.ref (va_up ad (zN Rz) q (zN Rz)) :: _ = _
    rw [va_up_self]
  rw [e2] at k2
  have e3 : zC (nwR Rz 15 n.toNatClampNeg) - c0 = zC Rz - c0 + 1 := by show zC Rz + 1 - c0 = _; omega
  have e4 : zL (nwR Rz 15 n.toNatClampNeg) - s0 = zL Rz - s0 + n.toNatClampNeg := by show zL Rz + n.toNatClampNeg - s0 = _; omega
  rw [← e3, ← e4]
  exact k2

set_option maxHeartbeats 1000000 in
theorem sd_ldcI (F : zFSok FM FS) (C : zCtx B0 fa fx FM FS p R s m args meth c mi d) {idx : Nat} {v : Int32} (hd : decode (zcod mi) pc = .ok (.ldc idx, 2)) (hv : zki (zoc mi) idx = some v) (kk : zGd l D B0 fa fx FM FS p e R s m args below meth c Q n0 c0 s0 ad0 (pc + 2) (lv) (.int v :: r) (h)) : zGd l D B0 fa fx FM FS p e R s m args below meth c Q n0 c0 s0 ad0 (pc) (lv) (r) (h) := by
  intro ad cf tys H locs ls I
  exact lv_ldc C.1 C.2.1 C.2.2.2.2.1 (C.2.2.2.2.2.1 _ (zki_w hv)) hd (kk ad cf tys H locs ls I)

set_option maxHeartbeats 1000000 in
theorem sd_ldcw (F : zFSok FM FS) (C : zCtx B0 fa fx FM FS p R s m args meth c mi d) {idx : Nat} {v : Int32} (hd : decode (zcod mi) pc = .ok (.ldc_w idx, 3)) (hv : zki (zoc mi) idx = some v) (kk : zGd l D B0 fa fx FM FS p e R s m args below meth c Q n0 c0 s0 ad0 (pc + 3) (lv) (.int v :: r) (h)) : zGd l D B0 fa fx FM FS p e R s m args below meth c Q n0 c0 s0 ad0 (pc) (lv) (r) (h) := by
  intro ad cf tys H locs ls I
  exact lv_ldcw C.1 C.2.1 C.2.2.2.2.1 (C.2.2.2.2.2.1 _ (zki_w hv)) hd (kk ad cf tys H locs ls I)

set_option maxHeartbeats 1000000 in
theorem sd_ldc2 (F : zFSok FM FS) (C : zCtx B0 fa fx FM FS p R s m args meth c mi d) {idx : Nat} {v : Int64} (hd : decode (zcod mi) pc = .ok (.ldc2_w idx, 3)) (hv : zkl (zoc mi) idx = some v) (kk : zGd l D B0 fa fx FM FS p e R s m args below meth c Q n0 c0 s0 ad0 (pc + 3) (lv) (.long v :: r) (h)) : zGd l D B0 fa fx FM FS p e R s m args below meth c Q n0 c0 s0 ad0 (pc) (lv) (r) (h) := by
  intro ad cf tys H locs ls I
  exact lv_ldc2 C.1 C.2.1 C.2.2.2.2.1 (C.2.2.2.2.2.1 _ (zkl_w hv)) hd (kk ad cf tys H locs ls I)

set_option maxHeartbeats 1000000 in
theorem sd_ldcS (F : zFSok FM FS) (C : zCtx B0 fa fx FM FS p R s m args meth c mi d) {idx j b : Nat} (hd : decode (zcod mi) pc = .ok (.ldc idx, 2)) (hp : zp (zoc mi) idx = (8, j, b)) (kk : zGd l D B0 fa fx FM FS p e R s m args below meth c Q n0 c0 s0 ad0 (pc + 2) (lv) (.ref (1000001 + j) :: r) (h)) : zGd l D B0 fa fx FM FS p e R s m args below meth c Q n0 c0 s0 ad0 (pc) (lv) (r) (h) := by
  intro ad cf tys H locs ls I
  obtain ⟨pl, hm⟩ := zpS hp
  obtain ⟨tx, ht⟩ := C.2.2.2.2.2.2.2.2.2.1.2.2.1 _ hm
  have k2 : W p l e R s m args below meth c H locs _ _ Q (F0 m (pc + 2) ls (.ref (ad (1000001 + j)) :: r.map (tr fx ad))) := kk ad cf tys H locs ls I
  rw [(I.2.1.2.2.2.2.1 (1000001 + j) (by omega)).1] at k2
  exact va_ldcS C.1 C.2.1 C.2.2.2.2.1 ht hd k2

set_option maxHeartbeats 1000000 in
theorem sd_gs1 (F : zFSok FM FS) (C : zCtx B0 fa fx FM FS p R s m args meth c mi d) {idx a b : Nat} (hd : decode (zcod mi) pc = .ok (.getstatic idx, 3)) (hp : zp (zoc mi) idx = (14, a, b)) (kk : zGd l D B0 fa fx FM FS p e R s m args below meth c Q n0 c0 s0 ad0 (pc + 3) (lv) (.int 1 :: r) (h)) : zGd l D B0 fa fx FM FS p e R s m args below meth c Q n0 c0 s0 ad0 (pc) (lv) (r) (h) := by
  intro ad cf tys H locs ls I
  exact va_gets (A := zA B0) C.1 C.2.1 C.2.2.2.2.2.2.2.2.2.1.2.2.2.2.1.1 I.2.2.1 C.2.2.2.2.1 (C.2.2.2.2.2.1 _ (zpX hp (by decide))) (fun _ q => q) hd (kk ad cf tys H locs ls I)

set_option maxHeartbeats 1000000 in
theorem sd_gs2 (F : zFSok FM FS) (C : zCtx B0 fa fx FM FS p R s m args meth c mi d) {idx a b : Nat} (hd : decode (zcod mi) pc = .ok (.getstatic idx, 3)) (hp : zp (zoc mi) idx = (15, a, b)) (kk : zGd l D B0 fa fx FM FS p e R s m args below meth c Q n0 c0 s0 ad0 (pc + 3) (lv) (.retAddr 1 :: r) (h)) : zGd l D B0 fa fx FM FS p e R s m args below meth c Q n0 c0 s0 ad0 (pc) (lv) (r) (h) := by
  intro ad cf tys H locs ls I
  exact va_gets (A := zA B0) C.1 C.2.1 C.2.2.2.2.2.2.2.2.2.1.2.2.2.2.1.2 I.2.2.1 C.2.2.2.2.1 (C.2.2.2.2.2.1 _ (zpX hp (by decide))) (fun _ q => q) hd (kk ad cf tys H locs ls I)

set_option maxHeartbeats 1000000 in
theorem sd_obj (F : zFSok FM FS) (C : zCtx B0 fa fx FM FS p R s m args meth c mi d) {idx a b x : Nat} (hd : decode (zcod mi) pc = .ok (.invokespecial idx, 3)) (hp : zp (zoc mi) idx = (10, a, b)) (hc : cS r ≤ 8) (hlv : lv.length = zmx mi) (kk : zGd l D B0 fa fx FM FS p e R s m args below meth c Q n0 c0 s0 ad0 (pc + 3) (lv) (r) (h)) : zGd l D B0 fa fx FM FS p e R s m args below meth c Q n0 c0 s0 ad0 (pc) (lv) (.ref x :: r) (h) := by
  intro ad cf tys H locs ls I
  refine W.objInit C.1 C.2.1 C.2.2.2.2.1 (C.2.2.2.2.2.1 _ (zpX hp (by decide))) (C.2.2.2.2.2.1 _ w_oi) (C.2.2.2.2.2.1 _ w_oc) rfl (by rw [C.2.2.1, ← hlv]; exact I.2.2.2.1.1) rfl hd (by have := C.2.2.2.2.2.2.2.2.2.2.1; omega) ?_ (kk ad cf tys H locs ls I)
  have := C.2.2.2.2.2.2.2.2.2.2.2
  have h2 : ((r.map (tr fx ad)).map fun v => v.category).sum = cS r := tr_cS C.2.2.2.2.2.2.2.2.2.1.2.2.2.2.2.2.2.2.2.1 r
  have h3 := lv_room (m := m) (pc := pc) (ls := ls) (rest := (Value.ref x :: r).map (tr fx ad)) (st := r.map (tr fx ad)) (by rw [h2]; exact hc)
  omega

set_option maxHeartbeats 1000000 in
theorem sd_max (F : zFSok FM FS) (C : zCtx B0 fa fx FM FS p R s m args meth c mi d) {idx a b : Nat} {x y : Int32} (hd : decode (zcod mi) pc = .ok (.invokestatic idx, 3)) (hp : zp (zoc mi) idx = (12, a, b)) (hc : cS r ≤ 8) (hcap : zC h.2 ≤ c0 + R.cells ∧ zL h.2 ≤ s0 + R.slots) (hlv : lv.length = zmx mi) (kk : zGd l D B0 fa fx FM FS p e R s m args below meth c Q n0 c0 s0 ad0 (pc + 3) (lv) (.int (if x < y then y else x) :: r) (h)) : zGd l D B0 fa fx FM FS p e R s m args below meth c Q n0 c0 s0 ad0 (pc) (lv) (.int y :: .int x :: r) (h) := by
  intro ad cf tys H locs ls I
  refine va_mmax C.1 C.2.1 (by rw [C.2.2.1, ← hlv]; exact I.2.2.2.1.1.symm) C.2.2.2.2.1 (C.2.2.2.2.2.1 _ (zpX hp (by decide))) (C.2.2.2.2.2.1 _ w_maxs) (C.2.2.2.2.2.1 _ w_mi) (C.2.2.2.2.2.1 _ w_maxc) (by have := C.2.2.2.2.2.2.2.2.2.2.1; omega) ?_ (by show zC h.2 - c0 ≤ _; omega) (by show zL h.2 - s0 ≤ _; omega) hd (kk ad cf tys H locs ls I)
  have := C.2.2.2.2.2.2.2.2.2.2.2
  have h2 : ((r.map (tr fx ad)).map fun v => v.category).sum = cS r := tr_cS C.2.2.2.2.2.2.2.2.2.1.2.2.2.2.2.2.2.2.2.1 r
  omega

set_option maxHeartbeats 1000000 in
theorem sd_min (F : zFSok FM FS) (C : zCtx B0 fa fx FM FS p R s m args meth c mi d) {idx a b : Nat} {x y : Int32} (hd : decode (zcod mi) pc = .ok (.invokestatic idx, 3)) (hp : zp (zoc mi) idx = (13, a, b)) (hc : cS r ≤ 8) (hcap : zC h.2 ≤ c0 + R.cells ∧ zL h.2 ≤ s0 + R.slots) (hlv : lv.length = zmx mi) (kk : zGd l D B0 fa fx FM FS p e R s m args below meth c Q n0 c0 s0 ad0 (pc + 3) (lv) (.int (if y < x then y else x) :: r) (h)) : zGd l D B0 fa fx FM FS p e R s m args below meth c Q n0 c0 s0 ad0 (pc) (lv) (.int y :: .int x :: r) (h) := by
  intro ad cf tys H locs ls I
  refine va_mmin C.1 C.2.1 (by rw [C.2.2.1, ← hlv]; exact I.2.2.2.1.1.symm) C.2.2.2.2.1 (C.2.2.2.2.2.1 _ (zpX hp (by decide))) (C.2.2.2.2.2.1 _ w_mins) (C.2.2.2.2.2.1 _ w_mi) (C.2.2.2.2.2.1 _ w_minc) (by have := C.2.2.2.2.2.2.2.2.2.2.1; omega) ?_ (by show zC h.2 - c0 ≤ _; omega) (by show zL h.2 - s0 ≤ _; omega) hd (kk ad cf tys H locs ls I)
  have := C.2.2.2.2.2.2.2.2.2.2.2
  have h2 : ((r.map (tr fx ad)).map fun v => v.category).sum = cS r := tr_cS C.2.2.2.2.2.2.2.2.2.1.2.2.2.2.2.2.2.2.2.1 r
  omega

set_option maxHeartbeats 1000000 in
theorem sd_cpy (F : zFSok FM FS) (C : zCtx B0 fa fx FM FS p R s m args meth c mi d) {idx p0 q0 a b : Nat} {sp dp n : Int32} (hd : decode (zcod mi) pc = .ok (.invokestatic idx, 3)) (hp : zp (zoc mi) idx = (11, p0, q0)) (hka : zK Rz a = 11) (hkb : zK Rz b = 11) (ha : a < zN Rz) (hb : b < zN Rz) (h1 : ¬ sp < 0) (h2 : ¬ dp < 0) (h3 : ¬ n < 0) (h4 : sp.toNatClampNeg + n.toNatClampNeg ≤ zLn Rz a) (h5 : dp.toNatClampNeg + n.toNatClampNeg ≤ zLn Rz b) (hc : cS r ≤ 8) (hlv : lv.length = zmx mi) (kk : zGd l D B0 fa fx FM FS p e R s m args below meth c Q n0 c0 s0 ad0 (pc + 3) (lv) (r) ((cpM M a b sp.toNatClampNeg dp.toNatClampNeg n.toNatClampNeg, Rz))) : zGd l D B0 fa fx FM FS p e R s m args below meth c Q n0 c0 s0 ad0 (pc) (lv) (.int n :: .int dp :: .ref b :: .int sp :: .ref a :: r) ((M, Rz)) := by
  intro ad cf tys H locs ls I
  obtain ⟨t0, ht0⟩ := zwf_ty (I.2.1.2.2.1 a ha) hka (by omega)
  obtain ⟨t1, ht1⟩ := zwf_ty (I.2.1.2.2.1 b hb) hkb (by omega)
  have hN := I.2.1.2.2.2.2.2.1
  refine va_copyi (D := D) (cl := vwCl) (tys := tys) (ws := wl ad cf (M, Rz)) (A := zA B0) (H0 := s.heap) (ty := .int) (f := M a) (g := M b) (n0 := zLn Rz a) (n1 := zLn Rz b) C.1 C.2.1 (by rw [C.2.2.1, ← hlv]; exact I.2.2.2.1.1.symm) C.2.2.2.2.1 (C.2.2.2.2.2.1 _ (zpX hp (by decide))) (C.2.2.2.2.2.1 _ w_an) (C.2.2.2.2.2.1 _ w_as) (C.2.2.2.2.2.1 _ w_ai) I.1 I.2.1.1 I.2.1.2.1 I.2.2.1 a b t0 t1 (by rw [wl_get (h := (M, Rz)) ha, zcell_int (h := (M, Rz)) (Or.inl hka)]) (by rw [wl_get (h := (M, Rz)) hb, zcell_int (h := (M, Rz)) (Or.inl hkb)]) ht0 ht1 rfl h1 h2 h3 h4 h5 (fun _ _ => rfl) (by have := C.2.2.2.2.2.2.2.2.2.2.1; omega) ?_ hd ?_
  · have := C.2.2.2.2.2.2.2.2.2.2.2
    have g2 : ((r.map (tr fx ad)).map fun v => v.category).sum = cS r := tr_cS C.2.2.2.2.2.2.2.2.2.1.2.2.2.2.2.2.2.2.2.1 r
    have g3 : nativeFrameWords "java/lang/System" "arraycopy" 5 ≤ 300 := by decide
    show ((r.map (tr fx ad)).map fun v => v.category).sum + _ ≤ _
    omega
  · intro H1 locs1 hP hD hS
    have e1 : (wl ad cf (M, Rz)).set b (ad b, .inl (cf b, zLn Rz b, .inl (va_cpy (M a) (M b) sp.toNatClampNeg dp.toNatClampNeg n.toNatClampNeg))) = wl ad cf (cpM M a b sp.toNatClampNeg dp.toNatClampNeg n.toNatClampNeg, Rz) :=
      wl_cp hb (by rw [zcell_int (h := (cpM M a b sp.toNatClampNeg dp.toNatClampNeg n.toNatClampNeg, Rz)) (Or.inl hkb)]; show _ = Sum.inl (cf b, zLn Rz b, Sum.inl (cpM M a b sp.toNatClampNeg dp.toNatClampNeg n.toNatClampNeg b)); rw [cpM_row])
    rw [e1] at hP hD
    exact kk ad cf tys H1 locs1 ls ⟨I.1, I.2.1.memo hP hD (fun x hx j => if_neg (fun q => by have : zN Rz ≤ 1100 := hN; omega)), hS, I.2.2.2⟩

end Sound
