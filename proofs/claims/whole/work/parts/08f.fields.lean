theorem own_of {FM : ZM} {FS : ZH} {D : va_G} {B0 : Nat} {fa : Nat → Nat} {tys : List (ClassId × FieldType)} {ad : Nat → Nat} {cf : Nat → ClassId} {h : Hp} {H : Heap} (F : zFSok FM FS) (hr : zRel D B0 fa FM FS tys ad cf h H) {a : Nat} (h1 : zK h.2 a ≠ 0) (h2 : zK h.2 a ≤ 8 ∨ 13 ≤ zK h.2 a) : a < zN h.2 := by
  by_cases q : a < zN h.2
  · exact q
  · by_cases q2 : a < 1000000
    · exact absurd (hr.2.2.2.2.2.2 a (by omega) q2) h1
    · have := (hr.2.2.2.2.1 a (by omega)).2.1
      rcases F.1 a (by omega) with g | g | g | g
      · omega
      · omega
      · omega
      · omega
theorem own_or {FM : ZM} {FS : ZH} {D : va_G} {B0 : Nat} {fa : Nat → Nat} {tys : List (ClassId × FieldType)} {ad : Nat → Nat} {cf : Nat → ClassId} {h : Hp} {H : Heap} (hr : zRel D B0 fa FM FS tys ad cf h H) {a : Nat} (h1 : zK h.2 a ≠ 0) : a < zN h.2 ∨ 1000000 ≤ a := by
  by_cases q : a < zN h.2
  · exact Or.inl q
  · by_cases q2 : a < 1000000
    · exact absurd (hr.2.2.2.2.2.2 a (by omega) q2) h1
    · exact Or.inr (by omega)
theorem zRel.memo {FM : ZM} {FS : ZH} {D : va_G} {B0 : Nat} {fa : Nat → Nat} {tys : List (ClassId × FieldType)} {ad : Nat → Nat} {cf : Nat → ClassId} {M M' : ZM} {R : ZH} {H H1 : Heap} (hr : zRel D B0 fa FM FS tys ad cf (M, R) H) (hP : va_P D vwCl (wl ad cf (M', R)) H1) (hD : va_D (zA B0) (wl ad cf (M', R))) (hf : ∀ a, 1000000 ≤ a → ∀ j, M' a j = M a j) : zRel D B0 fa FM FS tys ad cf (M', R) H1 :=
  ⟨hP, hD, hr.2.2.1, hr.2.2.2.1, fun a ha => ⟨(hr.2.2.2.2.1 a ha).1, (hr.2.2.2.2.1 a ha).2.1, (hr.2.2.2.2.1 a ha).2.2.1, fun j => ⟨(hf a ha j).trans ((hr.2.2.2.2.1 a ha).2.2.2 j).1, ((hr.2.2.2.2.1 a ha).2.2.2 j).2⟩⟩, hr.2.2.2.2.2⟩
theorem zRel.refs {FM : ZM} {FS : ZH} {D : va_G} {B0 : Nat} {fa : Nat → Nat} {tys : List (ClassId × FieldType)} {ad : Nat → Nat} {cf : Nat → ClassId} {M : ZM} {R : ZH} {H H1 : Heap} {a k b : Nat} (hr : zRel D B0 fa FM FS tys ad cf (M, R) H) (hP : va_P D vwCl (wl ad cf (M, sRf R a k (some b))) H1) (hD : va_D (zA B0) (wl ad cf (M, sRf R a k (some b)))) (ha : a < zN R) (hb : b < zN R ∨ 1000000 ≤ b) : zRel D B0 fa FM FS tys ad cf (M, sRf R a k (some b)) H1 := by
  refine ⟨hP, hD, hr.2.2.1, ?_, fun a' ha' => ⟨(hr.2.2.2.2.1 a' ha').1, (hr.2.2.2.2.1 a' ha').2.1, (hr.2.2.2.2.1 a' ha').2.2.1, fun j => ⟨((hr.2.2.2.2.1 a' ha').2.2.2 j).1, ?_⟩⟩, hr.2.2.2.2.2⟩
  · intro x j y hx hy
    have hy' : (if x = a ∧ j = k then some b else R.1 x j) = some y := hy
    split at hy'
    · cases hy'; exact hb
    · exact hr.2.2.2.1 x j y hx hy'
  · have hN : zN R ≤ 1100 := hr.2.2.2.2.2.1
    show (if a' = a ∧ j = k then some b else R.1 a' j) = _
    rw [if_neg (fun q => by omega)]
    exact ((hr.2.2.2.2.1 a' ha').2.2.2 j).2
theorem zRel.longs {FM : ZM} {FS : ZH} {D : va_G} {B0 : Nat} {fa : Nat → Nat} {tys : List (ClassId × FieldType)} {ad : Nat → Nat} {cf : Nat → ClassId} {M : ZM} {R : ZH} {H H1 : Heap} {a k : Nat} {v : Int64} (hr : zRel D B0 fa FM FS tys ad cf (M, R) H) (hP : va_P D vwCl (wl ad cf (M, sJ R a k v)) H1) (hD : va_D (zA B0) (wl ad cf (M, sJ R a k v))) : zRel D B0 fa FM FS tys ad cf (M, sJ R a k v) H1 :=
  ⟨hP, hD, hr.2.2.1, hr.2.2.2.1, hr.2.2.2.2.1, hr.2.2.2.2.2⟩
theorem up2_for {M : ZM} {a k : Nat} {x : Int32} {R : ZH} (ha : a < zN R) (hN : zN R ≤ 1100) : ∀ b, 1000000 ≤ b → ∀ j, up2 M a k x b j = M b j := fun b hb j => if_neg (fun q => by omega)
theorem zin_iff {i : Int32} {n : Nat} : zin i n = true ↔ vp_in i n := by
  unfold zin vp_in
  simp only [Bool.and_eq_true, Bool.not_eq_true', decide_eq_false_iff_not, decide_eq_true_eq]
  constructor
  · rintro ⟨h1, h2⟩ (h3 | h3)
    · exact h1 h3
    · omega
  · intro h3
    exact ⟨fun q => h3 (Or.inl q), by
      by_cases q : i.toNatClampNeg < n
      · exact q
      · exact absurd (Or.inr (by omega)) h3⟩

section Sound
variable {l : Launch} {D : va_G} {B0 : Nat} {fa : Nat → Nat} {fx : Value} {FM : ZM} {FS : ZH}
variable {p : Program} {e : Env} {R : Room} {s : State} {m : MethodId} {args : Array Value} {below : List Frame} {meth : Method} {c : Code} {Q : State → Prop}
variable {n0 c0 s0 : Nat} {ad0 : Nat → Nat} {mi d pc : Nat} {lv r : List Value} {h : Hp}
variable {M : ZM} {Rz : ZH}

set_option maxHeartbeats 1000000 in
theorem sd_getI (F : zFSok FM FS) (C : zCtx B0 fa fx FM FS p R s m args meth c mi d) {idx ci k a : Nat} (hd : decode (zcod mi) pc = .ok (.getfield idx, 3)) (hp : zp (zoc mi) idx = (1, ci, k)) (hf : zft ci k ≠ 2) (hk : zK h.2 a = ci + 1) (kk : zGd l D B0 fa fx FM FS p e R s m args below meth c Q n0 c0 s0 ad0 (pc + 3) (lv) (.int (h.1 a k) :: r) (h)) : zGd l D B0 fa fx FM FS p e R s m args below meth c Q n0 c0 s0 ad0 (pc) (lv) (.ref a :: r) (h) := by
  intro ad cf tys H locs ls I
  obtain ⟨hw, hc9, hkN⟩ := zpF hp
  by_cases hc : ci < 8
  · have ha := own_of F I.2.1 (a := a) (by omega) (Or.inl (by omega))
    have hn : zLn h.2 a = zNN ci := by
      rcases I.2.1.2.2.1 a ha with g | g
      · rw [g.2.2, hk]; rfl
      · omega
    refine va_get (D := D) (cl := vwCl) (tys := tys) (ws := wl ad cf h) (ci := ci) (C := zcnm ci) (T := zTT ci) (N := zNN ci) (fs := (List.range (zLn h.2 a)).map (zfv ad h ci a)) (v := .int (h.1 a k)) C.1 C.2.1 C.2.2.2.2.2.1 (zlays ci hc) C.2.2.2.2.1 I.1 I.2.1.1 a (by rw [wl_get ha, zcell_obj hk hc]) (zTT_cl ci hc) k hkN (C.2.2.2.2.2.1 _ hw) (fun _ q => q) ?_ hd (kk ad cf tys H locs ls I)
    rw [List.getElem?_map, List.getElem?_range (by omega)]
    show some (zfv ad h ci a k) = _
    unfold zfv
    rw [if_neg hf]
  · have hc8 : ci = 8 := by omega
    subst hc8
    have hk1 : k = 1 := by
      have : k < 2 := hkN
      have h0 : k ≠ 0 := fun q => hf (by rw [q]; decide)
      omega
    subst hk1
    have hge : 1000000 ≤ a := by
      rcases own_or I.2.1 (a := a) (by omega) with q | q
      · rcases I.2.1.2.2.1 a q with g | g
        · omega
        · omega
      · exact q
    have hfo := I.2.1.2.2.2.2.1 a hge
    obtain ⟨j, hj, rfl⟩ : ∃ j, j < 17 ∧ a = 1000001 + j := by
      rcases F.1 a hge with g | g | g | g
      · omega
      · omega
      · exact g.2
      · omega
    have hS := C.2.2.2.2.2.2.2.2.2.1.2.1 j hj
    have e0 : h.1 (1000001 + j) 1 = 0 := (hfo.2.2.2 1).1.trans (F.2.2.1 j hj)
    have kk' := kk ad cf tys H locs ls I
    rw [e0] at kk'
    show W p l e R s m args below meth c H locs _ _ Q (F0 m pc ls (.ref (ad (1000001 + j)) :: r.map (tr fx ad)))
    rw [hfo.1]
    exact vk_getf C.1 C.2.1 hS.2.1 I.2.2.1 C.2.2.2.2.1 (C.2.2.2.2.2.1 _ hw) (fun _ q => q) hd kk'

set_option maxHeartbeats 1000000 in
theorem sd_getR (F : zFSok FM FS) (C : zCtx B0 fa fx FM FS p R s m args meth c mi d) {idx ci k a b : Nat} (hd : decode (zcod mi) pc = .ok (.getfield idx, 3)) (hp : zp (zoc mi) idx = (1, ci, k)) (hf : zft ci k = 2) (hk : zK h.2 a = ci + 1) (hb : zRf h.2 a k = some b) (kk : zGd l D B0 fa fx FM FS p e R s m args below meth c Q n0 c0 s0 ad0 (pc + 3) (lv) (.ref b :: r) (h)) : zGd l D B0 fa fx FM FS p e R s m args below meth c Q n0 c0 s0 ad0 (pc) (lv) (.ref a :: r) (h) := by
  intro ad cf tys H locs ls I
  obtain ⟨hw, hc9, hkN⟩ := zpF hp
  by_cases hc : ci < 8
  · have ha := own_of F I.2.1 (a := a) (by omega) (Or.inl (by omega))
    have hn : zLn h.2 a = zNN ci := by
      rcases I.2.1.2.2.1 a ha with g | g
      · rw [g.2.2, hk]; rfl
      · omega
    refine va_get (D := D) (cl := vwCl) (tys := tys) (ws := wl ad cf h) (ci := ci) (C := zcnm ci) (T := zTT ci) (N := zNN ci) (fs := (List.range (zLn h.2 a)).map (zfv ad h ci a)) (v := .ref (ad b)) C.1 C.2.1 C.2.2.2.2.2.1 (zlays ci hc) C.2.2.2.2.1 I.1 I.2.1.1 a (by rw [wl_get ha, zcell_obj hk hc]) (zTT_cl ci hc) k hkN (C.2.2.2.2.2.1 _ hw) (fun _ q => q) ?_ hd (kk ad cf tys H locs ls I)
    rw [List.getElem?_map, List.getElem?_range (by omega)]
    show some (zfv ad h ci a k) = _
    unfold zfv
    rw [if_pos hf, hb]
    rfl
  · have hc8 : ci = 8 := by omega
    subst hc8
    have hk1 : k = 0 := by
      have : k < 2 := hkN
      have h0 : k ≠ 1 := fun q => absurd hf (by rw [q]; decide)
      omega
    subst hk1
    have hge : 1000000 ≤ a := by
      rcases own_or I.2.1 (a := a) (by omega) with q | q
      · rcases I.2.1.2.2.1 a q with g | g
        · omega
        · omega
      · exact q
    have hfo := I.2.1.2.2.2.2.1 a hge
    have hb2 := (hfo.2.2.2 0).2
    rw [hb] at hb2
    obtain ⟨j, hj, rfl, -, rfl⟩ := F.2.1 a 0 b hb2.symm
    have hS := C.2.2.2.2.2.2.2.2.2.1.2.1 j hj
    have kk' : W p l e R s m args below meth c H locs _ _ Q (F0 m (pc + 3) ls (.ref (ad (1000101 + j)) :: r.map (tr fx ad))) := kk ad cf tys H locs ls I
    rw [(I.2.1.2.2.2.2.1 (1000101 + j) (by omega)).1] at kk'
    show W p l e R s m args below meth c H locs _ _ Q (F0 m pc ls (.ref (ad (1000001 + j)) :: r.map (tr fx ad)))
    rw [hfo.1]
    exact vk_getf C.1 C.2.1 hS.2.2.1 I.2.2.1 C.2.2.2.2.1 (C.2.2.2.2.2.1 _ hw) (fun _ q => q) hd kk'

set_option maxHeartbeats 1000000 in
theorem sd_putI (F : zFSok FM FS) (C : zCtx B0 fa fx FM FS p R s m args meth c mi d) {idx ci k a : Nat} {x : Int32} (hd : decode (zcod mi) pc = .ok (.putfield idx, 3)) (hp : zp (zoc mi) idx = (1, ci, k)) (hf : zft ci k = 0 ∨ (zft ci k = 1 ∧ (x = 0 ∨ x = 1))) (hk : zK Rz a = ci + 1) (ha : a < zN Rz) (kk : zGd l D B0 fa fx FM FS p e R s m args below meth c Q n0 c0 s0 ad0 (pc + 3) (lv) (r) ((up2 M a k x, Rz))) : zGd l D B0 fa fx FM FS p e R s m args below meth c Q n0 c0 s0 ad0 (pc) (lv) (.int x :: .ref a :: r) ((M, Rz)) := by
  intro ad cf tys H locs ls I
  obtain ⟨hw, hc9, hkN⟩ := zpF hp
  have hwf := I.2.1.2.2.1 a ha
  have hc : ci < 8 := by
    rcases hwf with g | g
    · have : zK Rz a ≤ 8 := g.2.1
      omega
    · have : 11 ≤ zK Rz a := g.1.1
      omega
  have hn : zLn Rz a = zNN ci := by
    rcases hwf with g | g
    · have := g.2.2
      rw [hk] at this
      exact this
    · have : 11 ≤ zK Rz a := g.1.1
      omega
  have hN := I.2.1.2.2.2.2.2.1
  have hfin : (zTT ci k).2.2.2 = false := by
    have := List.all_eq_true.mp (List.all_eq_true.mp zfin_int ci (List.mem_range.mpr hc)) k (List.mem_range.mpr hkN)
    simp only [Bool.or_eq_true, beq_iff_eq, Bool.not_eq_true'] at this
    rcases this with q | q
    · omega
    · exact q
  have hty : narrow (zty ci k) (.int x) = .int x ∧ fits (zty ci k) (.int x) = true := by
    rcases zft_int hc hkN with g | g | g
    · rw [g.2]; exact ⟨rfl, rfl⟩
    · rw [g.2]
      rcases hf with q | q
      · omega
      · rcases q.2 with rfl | rfl
        · exact ⟨by decide, by decide⟩
        · exact ⟨by decide, by decide⟩
    · omega
  refine va_put (D := D) (cl := vwCl) (tys := tys) (ws := wl ad cf (M, Rz)) (A := zA B0) (H0 := s.heap) (ci := ci) (C := zcnm ci) (T := zTT ci) (N := zNN ci) (fs := (List.range (zLn Rz a)).map (zfv ad (M, Rz) ci a)) (v := .int x) (ty := zty ci k) C.1 C.2.1 C.2.2.2.2.2.1 (zlays ci hc) (zty ci) (zty_ok ci hc) (znm_ok ci hc) C.2.2.2.2.1 I.1 I.2.1.1 I.2.1.2.1 I.2.2.1 a (by rw [wl_get (h := (M, Rz)) ha, zcell_obj (h := (M, Rz)) hk hc]) (zTT_cl ci hc) k hkN (C.2.2.2.2.2.1 _ hw) (fun _ q => q) hfin (zty_ok ci hc k hkN) hty.1 hty.2 (by rw [List.length_map, List.length_range]; omega) hd ?_
  intro H1 locs1 hP hD hS
  have e1 : (wl ad cf (M, Rz)).set a (ad a, .inr (ci, ((List.range (zLn Rz a)).map (zfv ad (M, Rz) ci a)).set k (.int x))) = wl ad cf (up2 M a k x, Rz) :=
    wl_upI ha (by rw [zcell_obj (h := (up2 M a k x, Rz)) hk hc, zfv_upI (by rcases hf with q | q <;> omega)])
  rw [e1] at hP hD
  exact kk ad cf tys H1 locs1 ls ⟨I.1, I.2.1.memo hP hD (up2_for ha hN), hS, I.2.2.2⟩

set_option maxHeartbeats 1000000 in
theorem sd_putR (F : zFSok FM FS) (C : zCtx B0 fa fx FM FS p R s m args meth c mi d) {idx ci k a b : Nat} (hd : decode (zcod mi) pc = .ok (.putfield idx, 3)) (hp : zp (zoc mi) idx = (1, ci, k)) (hf : zft ci k = 2) (hk : zK Rz a = ci + 1) (ha : a < zN Rz) (hb : okV (zN Rz) (.ref b) = true) (hz : zfn mi ci k = true) (kk : zGd l D B0 fa fx FM FS p e R s m args below meth c Q n0 c0 s0 ad0 (pc + 3) (lv) (r) ((M, sRf Rz a k (some b)))) : zGd l D B0 fa fx FM FS p e R s m args below meth c Q n0 c0 s0 ad0 (pc) (lv) (.ref b :: .ref a :: r) ((M, Rz)) := by
  intro ad cf tys H locs ls I
  obtain ⟨hw, hc9, hkN⟩ := zpF hp
  have hwf := I.2.1.2.2.1 a ha
  have hc : ci < 8 := by
    rcases hwf with g | g
    · have : zK Rz a ≤ 8 := g.2.1
      omega
    · have : 11 ≤ zK Rz a := g.1.1
      omega
  have hn : zLn Rz a = zNN ci := by
    rcases hwf with g | g
    · have := g.2.2
      rw [hk] at this
      exact this
    · have : 11 ≤ zK Rz a := g.1.1
      omega
  have hbv : b < zN Rz ∨ 1000000 ≤ b := by simpa [okV] using hb
  have hty : narrow (zty ci k) (.ref (ad b)) = .ref (ad b) ∧ fits (zty ci k) (.ref (ad b)) = true := by
    rcases zft_int hc hkN with g | g | g
    · omega
    · omega
    · rcases g.2 with ⟨t, q⟩ | ⟨t, q⟩
      · rw [q]; exact ⟨rfl, rfl⟩
      · rw [q]; exact ⟨rfl, rfl⟩
  have hl : k < ((List.range (zLn Rz a)).map (zfv ad (M, Rz) ci a)).length := by rw [List.length_map, List.length_range]; omega
  have fin : ∀ (H1 : Heap) (locs1 : List Loc), va_P D vwCl ((wl ad cf (M, Rz)).set a (ad a, .inr (ci, ((List.range (zLn Rz a)).map (zfv ad (M, Rz) ci a)).set k (.ref (ad b))))) H1 → va_D (zA B0) ((wl ad cf (M, Rz)).set a (ad a, .inr (ci, ((List.range (zLn Rz a)).map (zfv ad (M, Rz) ci a)).set k (.ref (ad b))))) → va_S (zA B0) s.heap H1 locs1 → W p l e R s m args below meth c H1 locs1 (zC Rz - c0) (zL Rz - s0) Q (F0 m (pc + 3) ls (r.map (tr fx ad))) := by
    intro H1 locs1 hP hD hS
    have e1 : (wl ad cf (M, Rz)).set a (ad a, .inr (ci, ((List.range (zLn Rz a)).map (zfv ad (M, Rz) ci a)).set k (.ref (ad b)))) = wl ad cf (M, sRf Rz a k (some b)) :=
      wl_sRf ha (by rw [zcell_obj (h := (M, sRf Rz a k (some b))) hk hc, zfv_sRf hf]; rfl)
    rw [e1] at hP hD
    exact kk ad cf tys H1 locs1 ls ⟨I.1, I.2.1.refs hP hD ha hbv, hS, I.2.2.2⟩
  unfold zfn at hz
  simp only [Bool.or_eq_true, Bool.not_eq_true', Bool.and_eq_true, decide_eq_true_eq] at hz
  by_cases hfin : (zTT ci k).2.2.2 = false
  · exact va_put (D := D) (cl := vwCl) (tys := tys) (ws := wl ad cf (M, Rz)) (A := zA B0) (H0 := s.heap) (ci := ci) (C := zcnm ci) (T := zTT ci) (N := zNN ci) (fs := (List.range (zLn Rz a)).map (zfv ad (M, Rz) ci a)) (v := .ref (ad b)) (ty := zty ci k) C.1 C.2.1 C.2.2.2.2.2.1 (zlays ci hc) (zty ci) (zty_ok ci hc) (znm_ok ci hc) C.2.2.2.2.1 I.1 I.2.1.1 I.2.1.2.1 I.2.2.1 a (by rw [wl_get (h := (M, Rz)) ha, zcell_obj (h := (M, Rz)) hk hc]) (zTT_cl ci hc) k hkN (C.2.2.2.2.2.1 _ hw) (fun _ q => q) hfin (zty_ok ci hc k hkN) hty.1 hty.2 hl hd fin
  · have hz2 := hz.resolve_left hfin
    have hdec : (zTT ci k).1 = zcnm (zoc mi) := by
      have := List.all_eq_true.mp (List.all_eq_true.mp zdecl ci (List.mem_range.mpr hc)) k (List.mem_range.mpr hkN)
      rw [hz2.2]
      simpa using this
    exact va_putF (D := D) (cl := vwCl) (tys := tys) (ws := wl ad cf (M, Rz)) (A := zA B0) (H0 := s.heap) (ci := ci) (C := zcnm ci) (T := zTT ci) (N := zNN ci) (fs := (List.range (zLn Rz a)).map (zfv ad (M, Rz) ci a)) (v := .ref (ad b)) (ty := zty ci k) C.1 C.2.1 C.2.2.2.2.2.1 (zlays ci hc) (zty ci) (zty_ok ci hc) (znm_ok ci hc) C.2.2.2.2.1 I.1 I.2.1.1 I.2.1.2.1 I.2.2.1 a (by rw [wl_get (h := (M, Rz)) ha, zcell_obj (h := (M, Rz)) hk hc]) (zTT_cl ci hc) k hkN (C.2.2.2.2.2.1 _ hw) (fun _ q => q) (by simpa using hfin) (C.2.2.2.2.2.2.2.1.trans hz2.1) hdec (zty_ok ci hc k hkN) hty.1 hty.2 hl hd fin

end Sound
