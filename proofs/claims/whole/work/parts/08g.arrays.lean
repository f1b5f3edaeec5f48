theorem zwf_ty {tys : List (ClassId × FieldType)} {cf : Nat → ClassId} {R : ZH} {i k : Nat} (h : zwf tys cf R i) (hk : zK R i = k) (h11 : 11 ≤ k) : ∃ t0 : Nat, tys[t0]? = some (cf i, zety k) := by
  rcases h with g | g
  · omega
  · obtain ⟨t0, ht⟩ := g.2
    exact ⟨t0, by rw [← hk]; exact ht⟩
theorem arr_read2 {cA : ClassId} {n : Nat} {f : Nat → Option Nat} {i : Nat} (hi : i < n) : (vp_cell cA (n, .inr (.inr (.inr (.inr f))))).slots[i]? = some (va_rf (f i)) := by
  rw [vp_cell_q]
  unfold arrV
  simp [hi]
theorem arr_size2 {cA : ClassId} {n : Nat} {f : Nat → Option Nat} : (vp_cell cA (n, .inr (.inr (.inr (.inr f))))).slots.size = n := by
  rw [vp_cell_q]
  unfold arrV
  simp

section Sound
variable {l : Launch} {D : va_G} {B0 : Nat} {fa : Nat → Nat} {fx : Value} {FM : ZM} {FS : ZH}
variable {p : Program} {e : Env} {R : Room} {s : State} {m : MethodId} {args : Array Value} {below : List Frame} {meth : Method} {c : Code} {Q : State → Prop}
variable {n0 c0 s0 : Nat} {ad0 : Nat → Nat} {mi d pc : Nat} {lv r : List Value} {h : Hp}
variable {M : ZM} {Rz : ZH}

set_option maxHeartbeats 1000000 in
theorem sd_iald (F : zFSok FM FS) (C : zCtx B0 fa fx FM FS p R s m args meth c mi d) {a : Nat} {i : Int32} (hd : decode (zcod mi) pc = .ok (.iaload, 1)) (hk : zK h.2 a = 11) (hi : zin i (zLn h.2 a) = true) (kk : zGd l D B0 fa fx FM FS p e R s m args below meth c Q n0 c0 s0 ad0 (pc + 1) (lv) (.int (h.1 a i.toNatClampNeg) :: r) (h)) : zGd l D B0 fa fx FM FS p e R s m args below meth c Q n0 c0 s0 ad0 (pc) (lv) (.int i :: .ref a :: r) (h) := by
  intro ad cf tys H locs ls I
  rcases own_or I.2.1 (a := a) (by omega) with ha | ha
  · obtain ⟨t0, ht⟩ := zwf_ty (I.2.1.2.2.1 a ha) hk (by omega)
    exact va_iald (D := D) (cl := vwCl) (tys := tys) (ws := wl ad cf h) (f := h.1 a) (n := zLn h.2 a) C.1 C.2.1 I.1 I.2.1.1 a t0 (by rw [wl_get ha, zcell_int (Or.inl hk)]) ht (zin_iff.mp hi) hd (kk ad cf tys H locs ls I)
  · have hfo := I.2.1.2.2.2.2.1 a ha
    have hs : a = 1000000 := by
      rcases F.1 a ha with g | g | g | g
      · omega
      · exact g.2
      · omega
      · omega
    subst hs
    have kk' := kk ad cf tys H locs ls I
    rw [(hfo.2.2.2 _).1] at kk'
    show W p l e R s m args below meth c H locs _ _ Q (F0 m pc ls (.int i :: .ref (ad 1000000) :: r.map (tr fx ad)))
    rw [hfo.1]
    rw [hfo.2.2.1] at hi
    exact va_sld (A := zA B0) C.1 C.2.1 C.2.2.2.2.2.2.2.2.2.1.1.1 (Nat.lt_of_lt_of_le C.2.2.2.2.2.2.2.2.2.1.1.2 C.2.2.2.2.2.2.2.2.2.1.2.2.2.2.2.2.2.2.1) (Nat.not_le.mpr C.2.2.2.2.2.2.2.2.2.1.1.2) I.2.2.1 (zin_iff.mp hi) hd kk'

set_option maxHeartbeats 1000000 in
theorem sd_bald (F : zFSok FM FS) (C : zCtx B0 fa fx FM FS p R s m args meth c mi d) {a : Nat} {i : Int32} (hd : decode (zcod mi) pc = .ok (.baload, 1)) (hk : zK h.2 a = 12 ∨ zK h.2 a = 13) (hi : zin i (zLn h.2 a) = true) (kk : zGd l D B0 fa fx FM FS p e R s m args below meth c Q n0 c0 s0 ad0 (pc + 1) (lv) (.int (h.1 a i.toNatClampNeg) :: r) (h)) : zGd l D B0 fa fx FM FS p e R s m args below meth c Q n0 c0 s0 ad0 (pc) (lv) (.int i :: .ref a :: r) (h) := by
  intro ad cf tys H locs ls I
  rcases own_or I.2.1 (a := a) (by omega) with ha | ha
  · rcases hk with hk | hk
    · obtain ⟨t0, ht⟩ := zwf_ty (I.2.1.2.2.1 a ha) hk (by omega)
      exact va_bald (D := D) (cl := vwCl) (tys := tys) (ws := wl ad cf h) (f := h.1 a) (n := zLn h.2 a) C.1 C.2.1 I.1 I.2.1.1 a t0 (by rw [wl_get ha, zcell_int (Or.inr (Or.inl hk))]) ht (zin_iff.mp hi) hd (kk ad cf tys H locs ls I)
    · obtain ⟨t0, ht⟩ := zwf_ty (I.2.1.2.2.1 a ha) hk (by omega)
      exact va_zald (D := D) (cl := vwCl) (tys := tys) (ws := wl ad cf h) (f := h.1 a) (n := zLn h.2 a) C.1 C.2.1 I.1 I.2.1.1 a t0 (by rw [wl_get ha, zcell_int (Or.inr (Or.inr hk))]) ht (zin_iff.mp hi) hd (kk ad cf tys H locs ls I)
  · have hfo := I.2.1.2.2.2.2.1 a ha
    obtain ⟨j, hj, rfl⟩ : ∃ j, j < 17 ∧ a = 1000101 + j := by
      rcases F.1 a ha with g | g | g | g
      · omega
      · omega
      · omega
      · exact g.2
    have kk' := kk ad cf tys H locs ls I
    rw [(hfo.2.2.2 _).1] at kk'
    show W p l e R s m args below meth c H locs _ _ Q (F0 m pc ls (.int i :: .ref (ad (1000101 + j)) :: r.map (tr fx ad)))
    rw [hfo.1]
    rw [hfo.2.2.1] at hi
    exact va_tb (A := zA B0) C.1 C.2.1 (C.2.2.2.2.2.2.2.2.2.1.2.1 j hj).2.2.2 I.2.2.1 (zin_iff.mp hi) rfl hd kk'

set_option maxHeartbeats 1000000 in
theorem sd_lald (F : zFSok FM FS) (C : zCtx B0 fa fx FM FS p R s m args meth c mi d) {a : Nat} {i : Int32} (hd : decode (zcod mi) pc = .ok (.laload, 1)) (hk : zK h.2 a = 14) (hi : zin i (zLn h.2 a) = true) (kk : zGd l D B0 fa fx FM FS p e R s m args below meth c Q n0 c0 s0 ad0 (pc + 1) (lv) (.long (zJ h.2 a i.toNatClampNeg) :: r) (h)) : zGd l D B0 fa fx FM FS p e R s m args below meth c Q n0 c0 s0 ad0 (pc) (lv) (.int i :: .ref a :: r) (h) := by
  intro ad cf tys H locs ls I
  have ha := own_of F I.2.1 (a := a) (by omega) (Or.inr (by omega))
  obtain ⟨t0, ht⟩ := zwf_ty (I.2.1.2.2.1 a ha) hk (by omega)
  exact va_lald (D := D) (cl := vwCl) (tys := tys) (ws := wl ad cf h) (f := zJ h.2 a) (n := zLn h.2 a) C.1 C.2.1 I.1 I.2.1.1 a t0 (by rw [wl_get ha, zcell_long hk]) ht (zin_iff.mp hi) hd (kk ad cf tys H locs ls I)

set_option maxHeartbeats 1000000 in
theorem sd_aald (F : zFSok FM FS) (C : zCtx B0 fa fx FM FS p R s m args meth c mi d) {a b : Nat} {i : Int32} (hd : decode (zcod mi) pc = .ok (.aaload, 1)) (hk : zK h.2 a = 15 ∨ zK h.2 a = 16) (hi : zin i (zLn h.2 a) = true) (hb : zRf h.2 a i.toNatClampNeg = some b) (kk : zGd l D B0 fa fx FM FS p e R s m args below meth c Q n0 c0 s0 ad0 (pc + 1) (lv) (.ref b :: r) (h)) : zGd l D B0 fa fx FM FS p e R s m args below meth c Q n0 c0 s0 ad0 (pc) (lv) (.int i :: .ref a :: r) (h) := by
  intro ad cf tys H locs ls I
  have ha := own_of F I.2.1 (a := a) (by omega) (Or.inr (by omega))
  have hty : ∃ ty : FieldType, ty.isReference = true ∧ ∃ t0 : Nat, tys[t0]? = some (cf a, ty) := by
    rcases hk with hk | hk
    · exact ⟨_, rfl, zwf_ty (I.2.1.2.2.1 a ha) hk (by omega)⟩
    · exact ⟨_, rfl, zwf_ty (I.2.1.2.2.1 a ha) hk (by omega)⟩
  obtain ⟨ty, hr, t0, ht⟩ := hty
  have hcell : H[ad a]? = some (vp_cell (cf a) (zLn h.2 a, .inr (.inr (.inr (.inr (fun j => (zRf h.2 a j).map ad)))))) := by
    have := I.2.1.1 a _ (wl_get ha)
    rw [zcell_ref hk] at this
    exact this
  have hin := zin_iff.mp hi
  have hlt : i.toNatClampNeg < zLn h.2 a := by
    have := hi
    unfold zin at this
    simp only [Bool.and_eq_true, decide_eq_true_eq] at this
    exact this.2
  refine W.aald (ty := ty) (v := .ref (ad b)) C.1 C.2.1 hcell ?_ hr ?_ (by rw [arr_size2]; exact hin) ?_ rfl rfl hd (kk ad cf tys H locs ls I)
  · have := (I.1.2 t0 _ ht).1
    rw [vp_cell_q]
    exact this _ _
  · rw [vp_cell_q]
    exact fun q => by cases q
  · rw [arr_read2 hlt, hb]
    rfl

set_option maxHeartbeats 1000000 in
theorem sd_iast (F : zFSok FM FS) (C : zCtx B0 fa fx FM FS p R s m args meth c mi d) {a : Nat} {i x : Int32} (hd : decode (zcod mi) pc = .ok (.iastore, 1)) (hk : zK Rz a = 11) (ha : a < zN Rz) (hi : zin i (zLn Rz a) = true) (kk : zGd l D B0 fa fx FM FS p e R s m args below meth c Q n0 c0 s0 ad0 (pc + 1) (lv) (r) ((up2 M a i.toNatClampNeg x, Rz))) : zGd l D B0 fa fx FM FS p e R s m args below meth c Q n0 c0 s0 ad0 (pc) (lv) (.int x :: .int i :: .ref a :: r) ((M, Rz)) := by
  intro ad cf tys H locs ls I
  obtain ⟨t0, ht⟩ := zwf_ty (I.2.1.2.2.1 a ha) hk (by omega)
  have hN := I.2.1.2.2.2.2.2.1
  refine va_iast (D := D) (cl := vwCl) (tys := tys) (ws := wl ad cf (M, Rz)) (A := zA B0) (H0 := s.heap) (f := M a) (n := zLn Rz a) C.1 C.2.1 I.1 I.2.1.1 I.2.1.2.1 I.2.2.1 a t0 (by rw [wl_get (h := (M, Rz)) ha, zcell_int (h := (M, Rz)) (Or.inl hk)]) ht (zin_iff.mp hi) hd ?_
  intro H1 locs1 hP hD hS
  have e1 : (wl ad cf (M, Rz)).set a (ad a, .inl (cf a, zLn Rz a, .inl (upd (M a) i.toNatClampNeg x))) = wl ad cf (up2 M a i.toNatClampNeg x, Rz) :=
    wl_upI ha (by rw [zcell_int (h := (up2 M a i.toNatClampNeg x, Rz)) (Or.inl hk)]; show _ = Sum.inl (cf a, zLn Rz a, Sum.inl (up2 M a i.toNatClampNeg x a)); rw [up2_row])
  rw [e1] at hP hD
  exact kk ad cf tys H1 locs1 ls ⟨I.1, I.2.1.memo hP hD (up2_for ha hN), hS, I.2.2.2⟩

set_option maxHeartbeats 1000000 in
theorem sd_bast (F : zFSok FM FS) (C : zCtx B0 fa fx FM FS p R s m args meth c mi d) {a : Nat} {i x : Int32} (hd : decode (zcod mi) pc = .ok (.bastore, 1)) (hk : zK Rz a = 12) (ha : a < zN Rz) (hi : zin i (zLn Rz a) = true) (kk : zGd l D B0 fa fx FM FS p e R s m args below meth c Q n0 c0 s0 ad0 (pc + 1) (lv) (r) ((up2 M a i.toNatClampNeg (vp_nar .byte x), Rz))) : zGd l D B0 fa fx FM FS p e R s m args below meth c Q n0 c0 s0 ad0 (pc) (lv) (.int x :: .int i :: .ref a :: r) ((M, Rz)) := by
  intro ad cf tys H locs ls I
  obtain ⟨t0, ht⟩ := zwf_ty (I.2.1.2.2.1 a ha) hk (by omega)
  have hN := I.2.1.2.2.2.2.2.1
  refine va_bast (D := D) (cl := vwCl) (tys := tys) (ws := wl ad cf (M, Rz)) (A := zA B0) (H0 := s.heap) (f := M a) (n := zLn Rz a) C.1 C.2.1 I.1 I.2.1.1 I.2.1.2.1 I.2.2.1 a t0 (by rw [wl_get (h := (M, Rz)) ha, zcell_int (h := (M, Rz)) (Or.inr (Or.inl hk))]) ht (zin_iff.mp hi) hd ?_
  intro H1 locs1 hP hD hS
  have e1 : (wl ad cf (M, Rz)).set a (ad a, .inl (cf a, zLn Rz a, .inl (upd (M a) i.toNatClampNeg (vp_nar .byte x)))) = wl ad cf (up2 M a i.toNatClampNeg (vp_nar .byte x), Rz) :=
    wl_upI ha (by rw [zcell_int (h := (up2 M a i.toNatClampNeg (vp_nar .byte x), Rz)) (Or.inr (Or.inl hk))]; show _ = Sum.inl (cf a, zLn Rz a, Sum.inl (up2 M a i.toNatClampNeg (vp_nar .byte x) a)); rw [up2_row])
  rw [e1] at hP hD
  exact kk ad cf tys H1 locs1 ls ⟨I.1, I.2.1.memo hP hD (up2_for ha hN), hS, I.2.2.2⟩

set_option maxHeartbeats 1000000 in
theorem sd_zast (F : zFSok FM FS) (C : zCtx B0 fa fx FM FS p R s m args meth c mi d) {a : Nat} {i x : Int32} (hd : decode (zcod mi) pc = .ok (.bastore, 1)) (hk : zK Rz a = 13) (ha : a < zN Rz) (hi : zin i (zLn Rz a) = true) (kk : zGd l D B0 fa fx FM FS p e R s m args below meth c Q n0 c0 s0 ad0 (pc + 1) (lv) (r) ((up2 M a i.toNatClampNeg (vp_nar .boolean x), Rz))) : zGd l D B0 fa fx FM FS p e R s m args below meth c Q n0 c0 s0 ad0 (pc) (lv) (.int x :: .int i :: .ref a :: r) ((M, Rz)) := by
  intro ad cf tys H locs ls I
  obtain ⟨t0, ht⟩ := zwf_ty (I.2.1.2.2.1 a ha) hk (by omega)
  have hN := I.2.1.2.2.2.2.2.1
  refine va_zast (D := D) (cl := vwCl) (tys := tys) (ws := wl ad cf (M, Rz)) (A := zA B0) (H0 := s.heap) (f := M a) (n := zLn Rz a) C.1 C.2.1 I.1 I.2.1.1 I.2.1.2.1 I.2.2.1 a t0 (by rw [wl_get (h := (M, Rz)) ha, zcell_int (h := (M, Rz)) (Or.inr (Or.inr hk))]) ht (zin_iff.mp hi) hd ?_
  intro H1 locs1 hP hD hS
  have e1 : (wl ad cf (M, Rz)).set a (ad a, .inl (cf a, zLn Rz a, .inl (upd (M a) i.toNatClampNeg (vp_nar .boolean x)))) = wl ad cf (up2 M a i.toNatClampNeg (vp_nar .boolean x), Rz) :=
    wl_upI ha (by rw [zcell_int (h := (up2 M a i.toNatClampNeg (vp_nar .boolean x), Rz)) (Or.inr (Or.inr hk))]; show _ = Sum.inl (cf a, zLn Rz a, Sum.inl (up2 M a i.toNatClampNeg (vp_nar .boolean x) a)); rw [up2_row])
  rw [e1] at hP hD
  exact kk ad cf tys H1 locs1 ls ⟨I.1, I.2.1.memo hP hD (up2_for ha hN), hS, I.2.2.2⟩

set_option maxHeartbeats 1000000 in
theorem sd_last (F : zFSok FM FS) (C : zCtx B0 fa fx FM FS p R s m args meth c mi d) {a : Nat} {i : Int32} {x : Int64} (hd : decode (zcod mi) pc = .ok (.lastore, 1)) (hk : zK Rz a = 14) (ha : a < zN Rz) (hi : zin i (zLn Rz a) = true) (kk : zGd l D B0 fa fx FM FS p e R s m args below meth c Q n0 c0 s0 ad0 (pc + 1) (lv) (r) ((M, sJ Rz a i.toNatClampNeg x))) : zGd l D B0 fa fx FM FS p e R s m args below meth c Q n0 c0 s0 ad0 (pc) (lv) (.long x :: .int i :: .ref a :: r) ((M, Rz)) := by
  intro ad cf tys H locs ls I
  obtain ⟨t0, ht⟩ := zwf_ty (I.2.1.2.2.1 a ha) hk (by omega)
  refine va_last (D := D) (cl := vwCl) (tys := tys) (ws := wl ad cf (M, Rz)) (A := zA B0) (H0 := s.heap) (f := zJ Rz a) (n := zLn Rz a) C.1 C.2.1 I.1 I.2.1.1 I.2.1.2.1 I.2.2.1 a t0 (by rw [wl_get (h := (M, Rz)) ha, zcell_long (h := (M, Rz)) hk]) ht (zin_iff.mp hi) hd ?_
  intro H1 locs1 hP hD hS
  have e1 : (wl ad cf (M, Rz)).set a (ad a, .inl (cf a, zLn Rz a, .inr (.inl (vp_updL (zJ Rz a) i.toNatClampNeg x)))) = wl ad cf (M, sJ Rz a i.toNatClampNeg x) :=
    wl_sJ ha (by
      rw [zcell_long (h := (M, sJ Rz a i.toNatClampNeg x)) hk]
      have : zJ (sJ Rz a i.toNatClampNeg x) a = vp_updL (zJ Rz a) i.toNatClampNeg x := by
        funext j
        show (if a = a ∧ j = i.toNatClampNeg then x else Rz.2.1 a j) = if j = i.toNatClampNeg then x else Rz.2.1 a j
        simp
      show _ = Sum.inl (cf a, zLn Rz a, Sum.inr (Sum.inl (zJ (sJ Rz a i.toNatClampNeg x) a)))
      rw [this])
  rw [e1] at hP hD
  exact kk ad cf tys H1 locs1 ls ⟨I.1, I.2.1.longs hP hD, hS, I.2.2.2⟩

set_option maxHeartbeats 1000000 in
theorem sd_aast (F : zFSok FM FS) (C : zCtx B0 fa fx FM FS p R s m args meth c mi d) {a b : Nat} {i : Int32} (hd : decode (zcod mi) pc = .ok (.aastore, 1)) (hk : zK Rz a = 15) (ha : a < zN Rz) (hi : zin i (zLn Rz a) = true) (hkb : zK Rz b = 6) (hb : b < zN Rz) (kk : zGd l D B0 fa fx FM FS p e R s m args below meth c Q n0 c0 s0 ad0 (pc + 1) (lv) (r) ((M, sRf Rz a i.toNatClampNeg (some b)))) : zGd l D B0 fa fx FM FS p e R s m args below meth c Q n0 c0 s0 ad0 (pc) (lv) (.ref b :: .int i :: .ref a :: r) ((M, Rz)) := by
  intro ad cf tys H locs ls I
  obtain ⟨t0, ht⟩ := zwf_ty (I.2.1.2.2.1 a ha) hk (by omega)
  refine va_astq (D := D) (cl := vwCl) (tys := tys) (ws := wl ad cf (M, Rz)) (A := zA B0) (H0 := s.heap) (f := fun j => (zRf Rz a j).map ad) (n := zLn Rz a) (r := (zcnm 5, zTT 5, zNN 5)) C.1 C.2.1 I.1 I.2.1.1 I.2.1.2.1 I.2.2.1 a t0 b 5 (by rw [wl_get (h := (M, Rz)) ha, zcell_ref (h := (M, Rz)) (Or.inl hk)]) ht (by rw [wl_get (h := (M, Rz)) hb, zcell_obj (h := (M, Rz)) (ci := 5) hkb (by omega)]) (zTT_cl 5 (by omega)) (zin_iff.mp hi) hd ?_
  intro H1 locs1 hP hD hS
  have e1 : (wl ad cf (M, Rz)).set a (ad a, .inl (cf a, zLn Rz a, .inr (.inr (.inr (.inr (va_up (fun j => (zRf Rz a j).map ad) i.toNatClampNeg (some (ad b)))))))) = wl ad cf (M, sRf Rz a i.toNatClampNeg (some b)) :=
    wl_sRf ha (by
      rw [zcell_ref (h := (M, sRf Rz a i.toNatClampNeg (some b))) (Or.inl hk)]
      have : (fun j => (zRf (sRf Rz a i.toNatClampNeg (some b)) a j).map ad) = va_up (fun j => (zRf Rz a j).map ad) i.toNatClampNeg (some (ad b)) := by
        funext j
        show ((if a = a ∧ j = i.toNatClampNeg then some b else Rz.1 a j).map ad) = if j = i.toNatClampNeg then some (ad b) else (Rz.1 a j).map ad
        by_cases q : j = i.toNatClampNeg
        · rw [if_pos ⟨rfl, q⟩, if_pos q]; rfl
        · rw [if_neg (fun z => q z.2), if_neg q]
      show _ = Sum.inl (cf a, zLn Rz a, Sum.inr (Sum.inr (Sum.inr (Sum.inr (fun j => (zRf (sRf Rz a i.toNatClampNeg (some b)) a j).map ad)))))
      rw [this])
  rw [e1] at hP hD
  exact kk ad cf tys H1 locs1 ls ⟨I.1, I.2.1.refs hP hD ha (Or.inl hb), hS, I.2.2.2⟩

set_option maxHeartbeats 1000000 in
theorem sd_alen (F : zFSok FM FS) (C : zCtx B0 fa fx FM FS p R s m args meth c mi d) {a : Nat} (hd : decode (zcod mi) pc = .ok (.arraylength, 1)) (hk : 11 ≤ zK h.2 a ∧ zK h.2 a ≤ 16) (kk : zGd l D B0 fa fx FM FS p e R s m args below meth c Q n0 c0 s0 ad0 (pc + 1) (lv) (.int (nI (zLn h.2 a)) :: r) (h)) : zGd l D B0 fa fx FM FS p e R s m args below meth c Q n0 c0 s0 ad0 (pc) (lv) (.ref a :: r) (h) := by
  intro ad cf tys H locs ls I
  rcases own_or I.2.1 (a := a) (by omega) with ha | ha
  · obtain ⟨t0, ht⟩ := zwf_ty (I.2.1.2.2.1 a ha) rfl hk.1
    have hz : ∃ x : vp_A, zcell ad cf h a = .inl (cf a, x) ∧ x.1 = zLn h.2 a := by
      by_cases q : zK h.2 a = 14
      · exact ⟨_, zcell_long q, rfl⟩
      · by_cases q2 : zK h.2 a = 15 ∨ zK h.2 a = 16
        · exact ⟨_, zcell_ref q2, rfl⟩
        · exact ⟨_, zcell_int (by omega), rfl⟩
    obtain ⟨x, hx1, hx2⟩ := hz
    exact va_alen (D := D) (cl := vwCl) (tys := tys) (ws := wl ad cf h) (x := x) C.1 C.2.1 I.1 I.2.1.1 a t0 (by rw [wl_get ha, hx1]) ht (by rw [hx2]; rfl) hd (kk ad cf tys H locs ls I)
  · have hfo := I.2.1.2.2.2.2.1 a ha
    have kk' := kk ad cf tys H locs ls I
    rw [hfo.2.2.1] at kk'
    show W p l e R s m args below meth c H locs _ _ Q (F0 m pc ls (.ref (ad a) :: r.map (tr fx ad)))
    rw [hfo.1]
    rcases F.1 a ha with g | g | g | g
    · omega
    · obtain ⟨-, rfl⟩ := g
      exact va_slen (A := zA B0) C.1 C.2.1 C.2.2.2.2.2.2.2.2.2.1.1.1 (Nat.lt_of_lt_of_le C.2.2.2.2.2.2.2.2.2.1.1.2 C.2.2.2.2.2.2.2.2.2.1.2.2.2.2.2.2.2.2.1) (Nat.not_le.mpr C.2.2.2.2.2.2.2.2.2.1.1.2) I.2.2.1 hd kk'
    · omega
    · obtain ⟨-, j, hj, rfl⟩ := g
      exact va_tlen (A := zA B0) C.1 C.2.1 (C.2.2.2.2.2.2.2.2.2.1.2.1 j hj).2.2.2 I.2.2.1 rfl hd kk'

end Sound
