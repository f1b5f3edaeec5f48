theorem okV_mono {x y : Nat} {st : List Value} (h : st.all (okV x) = true) (hxy : x ≤ y) : st.all (okV y) = true := by
  rw [List.all_eq_true] at h ⊢
  intro v hv
  have := h v hv
  cases v with
  | ref a =>
    have h1 : a < x ∨ 1000000 ≤ a := by simpa [okV] using this
    have h2 : a < y ∨ 1000000 ≤ a := h1.elim (fun q => Or.inl (Nat.lt_of_lt_of_le q hxy)) Or.inr
    simpa [okV] using h2
  | _ => rfl
theorem mnR_K {R : ZH} {n len a : Nat} : zK (mnR R n len) a = if a = zN R then 16 else if zN R < a ∧ a < zN R + 1 + n then 11 else zK R a := by
  show (if a = zN R then (16, n) else if zN R < a ∧ a < zN R + 1 + n then (11, len) else R.2.2.1 a).1 = _
  by_cases q : a = zN R
  · rw [if_pos q, if_pos q]
  · rw [if_neg q, if_neg q]
    by_cases q2 : zN R < a ∧ a < zN R + 1 + n
    · rw [if_pos q2, if_pos q2]
    · rw [if_neg q2, if_neg q2]; rfl
theorem mnR_Ln {R : ZH} {n len a : Nat} : zLn (mnR R n len) a = if a = zN R then n else if zN R < a ∧ a < zN R + 1 + n then len else zLn R a := by
  show (if a = zN R then (16, n) else if zN R < a ∧ a < zN R + 1 + n then (11, len) else R.2.2.1 a).2 = _
  by_cases q : a = zN R
  · rw [if_pos q, if_pos q]
  · rw [if_neg q, if_neg q]
    by_cases q2 : zN R < a ∧ a < zN R + 1 + n
    · rw [if_pos q2, if_pos q2]
    · rw [if_neg q2, if_neg q2]; rfl
theorem mnR_Rf {R : ZH} {n len a j : Nat} : zRf (mnR R n len) a j = if a = zN R then (if j < n then some (zN R + 1 + j) else none) else if zN R < a ∧ a < zN R + 1 + n then none else zRf R a j := rfl
theorem mnR_J {R : ZH} {n len a j : Nat} : zJ (mnR R n len) a j = if zN R ≤ a ∧ a < zN R + 1 + n then 0 else zJ R a j := rfl
theorem mn_wl {ad : Nat → Nat} {cf : Nat → ClassId} {M : ZM} {R : ZH} {q len : Nat} {rr : Nat → Nat} {cA cy : ClassId} {f0 : Nat → va_E} (hv : zrv R) (hx : zN R ≤ 1000) :
    (wl ad cf (M, R) ++ [(q, .inl (cA, 2, .inr (.inr (.inr (.inr (fun i => if i < 2 then some (rr i) else none))))))]) ++ va_pl ([] ++ (List.range 2).map rr) (vr_up f0 ((List.range 2).map rr) (.inl (cy, len, .inl (fun _ => 0)))) = wl (va_up (va_up (va_up ad (zN R) q) (zN R + 1) (rr 0)) (zN R + 2) (rr 1)) (va_up (va_up (va_up cf (zN R) cA) (zN R + 1) cy) (zN R + 2) cy) (mnM M (zN R) 2, mnR R 2 len) := by
  have e0 : va_pl ([] ++ (List.range 2).map rr) (vr_up f0 ((List.range 2).map rr) (.inl (cy, len, .inl (fun _ => 0)))) = [(rr 0, .inl (cy, len, .inl (fun _ => 0))), (rr 1, .inl (cy, len, .inl (fun _ => 0)))] := by
    show [(rr 0, vr_up f0 [rr 0, rr 1] _ (rr 0)), (rr 1, vr_up f0 [rr 0, rr 1] _ (rr 1))] = _
    rw [vr_up_in (by simp), vr_up_in (by simp)]
  rw [e0, List.append_assoc]
  generalize had : va_up (va_up (va_up ad (zN R) q) (zN R + 1) (rr 0)) (zN R + 2) (rr 1) = ad'
  generalize hcf : va_up (va_up (va_up cf (zN R) cA) (zN R + 1) cy) (zN R + 2) cy = cf'
  have a0 : ad' (zN R) = q := by rw [← had, va_up_ne _ _ (by omega), va_up_ne _ _ (by omega), va_up_self]
  have a1 : ad' (zN R + 1) = rr 0 := by rw [← had, va_up_ne _ _ (by omega), va_up_self]
  have a2 : ad' (zN R + 2) = rr 1 := by rw [← had, va_up_self]
  have a3 : ∀ b, b ≠ zN R → b ≠ zN R + 1 → b ≠ zN R + 2 → ad' b = ad b := fun b h1 h2 h3 => by rw [← had, va_up_ne _ _ h3, va_up_ne _ _ h2, va_up_ne _ _ h1]
  have f0' : cf' (zN R) = cA := by rw [← hcf, va_up_ne _ _ (by omega), va_up_ne _ _ (by omega), va_up_self]
  have f1 : cf' (zN R + 1) = cy := by rw [← hcf, va_up_ne _ _ (by omega), va_up_self]
  have f2 : cf' (zN R + 2) = cy := by rw [← hcf, va_up_self]
  have f3 : ∀ b, b ≠ zN R → b ≠ zN R + 1 → b ≠ zN R + 2 → cf' b = cf b := fun b h1 h2 h3 => by rw [← hcf, va_up_ne _ _ h3, va_up_ne _ _ h2, va_up_ne _ _ h1]
  have c0 : zcell ad' cf' (mnM M (zN R) 2, mnR R 2 len) (zN R) = .inl (cA, 2, .inr (.inr (.inr (.inr (fun i => if i < 2 then some (rr i) else none))))) := by
    have hk : zK (mnR R 2 len) (zN R) = 16 := by rw [mnR_K, if_pos rfl]
    rw [zcell_ref (h := (mnM M (zN R) 2, mnR R 2 len)) (Or.inr hk)]
    show Sum.inl (cf' (zN R), zLn (mnR R 2 len) (zN R), Sum.inr (Sum.inr (Sum.inr (Sum.inr (fun j => (zRf (mnR R 2 len) (zN R) j).map ad'))))) = _
    rw [f0', mnR_Ln, if_pos rfl]
    have : (fun j => (zRf (mnR R 2 len) (zN R) j).map ad') = (fun i => if i < 2 then some (rr i) else none) := by
      funext j
      rw [mnR_Rf, if_pos rfl]
      match j with
      | 0 => show some (ad' (zN R + 1)) = some (rr 0); rw [a1]
      | 1 => show some (ad' (zN R + 2)) = some (rr 1); rw [a2]
      | n + 2 => rw [if_neg (by omega), if_neg (by omega)]; rfl
    rw [this]
  have ci : ∀ i, i = zN R + 1 ∨ i = zN R + 2 → zcell ad' cf' (mnM M (zN R) 2, mnR R 2 len) i = .inl (cy, len, .inl (fun _ => 0)) := by
    intro i hi
    have hk : zK (mnR R 2 len) i = 11 := by rw [mnR_K, if_neg (by omega), if_pos (by omega)]
    rw [zcell_int (h := (mnM M (zN R) 2, mnR R 2 len)) (Or.inl hk)]
    show Sum.inl (cf' i, zLn (mnR R 2 len) i, Sum.inl (mnM M (zN R) 2 i)) = _
    rw [mnR_Ln, if_neg (by omega), if_pos (by omega)]
    have h1 : mnM M (zN R) 2 i = fun _ => 0 := funext fun j => if_pos (by omega)
    rw [h1]
    rcases hi with rfl | rfl
    · rw [f1]
    · rw [f2]
  apply wl_ext
  · rw [List.length_append, wl_len]
    rfl
  · intro i hi
    have hi' : i < zN R + 1 + 2 := hi
    by_cases e1 : i < zN R
    · rw [List.getElem?_append_left (by rw [wl_len]; exact e1), wl_get (h := (M, R)) e1, a3 i (by omega) (by omega) (by omega)]
      congr 2
      have c1 : zK (mnR R 2 len) i = zK R i := by rw [mnR_K, if_neg (by omega), if_neg (by omega)]
      have c2 : zLn (mnR R 2 len) i = zLn R i := by rw [mnR_Ln, if_neg (by omega), if_neg (by omega)]
      have c3 : ∀ j, zRf (mnR R 2 len) i j = zRf R i j := fun j => by rw [mnR_Rf, if_neg (by omega), if_neg (by omega)]
      have c4 : ∀ j, zJ (mnR R 2 len) i j = zJ R i j := fun j => by rw [mnR_J, if_neg (by omega)]
      have c5 : mnM M (zN R) 2 i = M i := funext fun j => if_neg (by omega)
      have c6 : ∀ j, (zRf R i j).map ad' = (zRf R i j).map ad := by
        intro j
        cases hr : zRf R i j with
        | none => rfl
        | some b =>
          have := hv i j b e1 hr
          show some (ad' b) = some (ad b)
          rw [a3 b (by omega) (by omega) (by omega)]
      unfold zcell
      simp only
      have e2 : zfv ad' (mnM M (zN R) 2, mnR R 2 len) (zK R i - 1) i = zfv ad (M, R) (zK R i - 1) i := by
        funext k
        unfold zfv
        simp only
        rw [c3, c6, c5]
      have e3 : zJ (mnR R 2 len) i = zJ R i := funext c4
      have e4 : (fun j => (zRf (mnR R 2 len) i j).map ad') = (fun j => (zRf R i j).map ad) := funext fun j => by rw [c3, c6]
      rw [c1, c2, e2, e3, e4, c5, f3 i (by omega) (by omega) (by omega)]
    · rw [List.getElem?_append_right (by rw [wl_len]; show zN R ≤ i; omega), wl_len]
      show ([_] ++ [_, _])[i - zN R]? = _
      rcases (show i = zN R ∨ i = zN R + 1 ∨ i = zN R + 2 by omega) with e | e | e
      · subst e
        rw [Nat.sub_self, c0, a0]
        rfl
      · rw [e, show zN R + 1 - zN R = 1 by omega, ci _ (Or.inl rfl), a1]
        rfl
      · rw [e, show zN R + 2 - zN R = 2 by omega, ci _ (Or.inr rfl), a2]
        rfl
theorem zInv.mn {D : va_G} {B0 : Nat} {fa : Nat → Nat} {fx : Value} {FM : ZM} {FS : ZH} {s : State} {n0 : Nat} {ad0 : Nat → Nat} {lv : List Value} {M : ZM} {R : ZH} {ad : Nat → Nat} {cf : Nat → ClassId} {tys : List (ClassId × FieldType)} {H H1 : Heap} {locs : List Loc} {ls : Array Slot} {q q1 q2 len : Nat} {cA cy : ClassId}
    (I : zInv D B0 fa fx FM FS s n0 ad0 lv (M, R) ad cf tys H locs ls) (hx : zN R < 1000) (hv : lv.all (okV (zN R)) = true) (hK : va_K D vwCl ((tys ++ [(cA, .array .int)]) ++ [(cy, .int)]) s) (hP : va_P D vwCl (wl (va_up (va_up (va_up ad (zN R) q) (zN R + 1) q1) (zN R + 2) q2) (va_up (va_up (va_up cf (zN R) cA) (zN R + 1) cy) (zN R + 2) cy) (mnM M (zN R) 2, mnR R 2 len)) H1) (hD : va_D (zA B0) (wl (va_up (va_up (va_up ad (zN R) q) (zN R + 1) q1) (zN R + 2) q2) (va_up (va_up (va_up cf (zN R) cA) (zN R + 1) cy) (zN R + 2) cy) (mnM M (zN R) 2, mnR R 2 len))) (hS : va_S (zA B0) s.heap H1 locs) (hlen : len ≤ 100000) :
    zInv D B0 fa fx FM FS s n0 ad0 lv (mnM M (zN R) 2, mnR R 2 len) (va_up (va_up (va_up ad (zN R) q) (zN R + 1) q1) (zN R + 2) q2) (va_up (va_up (va_up cf (zN R) cA) (zN R + 1) cy) (zN R + 2) cy) ((tys ++ [(cA, .array .int)]) ++ [(cy, .int)]) H1 locs ls := by
  have hN : zN (mnR R 2 len) = zN R + 1 + 2 := rfl
  refine ⟨hK, ⟨hP, hD, ?_, ?_, ?_, ?_, ?_⟩, hS, okL.up (by omega) (okV_mono hv (by omega)) (okL.up (by omega) (okV_mono hv (by omega)) (okL.up (by omega) hv I.2.2.2.1)), ?_, ?_⟩
  · intro i hi
    have hi' : i < zN R + 1 + 2 := hi
    show zwf _ _ (mnR R 2 len) i
    unfold zwf
    rw [mnR_K, mnR_Ln]
    by_cases e : i = zN R
    · rw [if_pos e, if_pos e, e, va_up_ne _ _ (by omega), va_up_ne _ _ (by omega), va_up_self]
      refine Or.inr ⟨⟨by omega, by omega, by omega⟩, tys.length, ?_⟩
      rw [List.append_assoc, List.getElem?_append_right (Nat.le_refl _), Nat.sub_self]
      rfl
    · rw [if_neg e, if_neg e]
      by_cases e2 : zN R < i ∧ i < zN R + 1 + 2
      · rw [if_pos e2, if_pos e2]
        have hcf : va_up (va_up (va_up cf (zN R) cA) (zN R + 1) cy) (zN R + 2) cy i = cy := by
          rcases (show i = zN R + 1 ∨ i = zN R + 2 by omega) with q9 | q9
          · rw [q9, va_up_ne _ _ (by omega), va_up_self]
          · rw [q9, va_up_self]
        rw [hcf]
        refine Or.inr ⟨⟨by omega, by omega, hlen⟩, tys.length + 1, ?_⟩
        rw [List.append_assoc, List.getElem?_append_right (by omega), show tys.length + 1 - tys.length = 1 by omega]
        rfl
      · rw [if_neg e2, if_neg e2, va_up_ne _ _ (by omega), va_up_ne _ _ (by omega), va_up_ne _ _ e]
        rcases I.2.1.2.2.1 i (show i < zN R by omega) with g | ⟨g, t0, ht⟩
        · exact Or.inl g
        · refine Or.inr ⟨g, t0, ?_⟩
          rw [List.append_assoc, List.getElem?_append_left (List.getElem?_eq_some_iff.mp ht).1]
          exact ht
  · intro a j b ha hb
    have ha' : a < zN R + 1 + 2 := ha
    have hb' : zRf (mnR R 2 len) a j = some b := hb
    rw [mnR_Rf] at hb'
    show b < zN (mnR R 2 len) ∨ _
    rw [hN]
    split at hb'
    · split at hb'
      · cases hb'; omega
      · cases hb'
    · split at hb'
      · cases hb'
      · have h3 : b < zN R ∨ 1000000 ≤ b := I.2.1.2.2.2.1 a j b (show a < zN R by omega) hb'
        omega
  · intro a ha
    have h0 := I.2.1.2.2.2.2.1 a ha
    refine ⟨by rw [va_up_ne _ _ (by omega), va_up_ne _ _ (by omega), va_up_ne _ _ (by omega)]; exact h0.1, ?_, ?_, fun j => ⟨?_, ?_⟩⟩
    · show zK (mnR R 2 len) a = _
      rw [mnR_K, if_neg (by omega), if_neg (by omega)]; exact h0.2.1
    · show zLn (mnR R 2 len) a = _
      rw [mnR_Ln, if_neg (by omega), if_neg (by omega)]; exact h0.2.2.1
    · show mnM M (zN R) 2 a j = _
      exact (if_neg (by omega)).trans (h0.2.2.2 j).1
    · show zRf (mnR R 2 len) a j = _
      rw [mnR_Rf, if_neg (by omega), if_neg (by omega)]; exact (h0.2.2.2 j).2
  · show zN R + 1 + 2 ≤ 1100
    omega
  · intro a h1 h2
    have h1' : zN R + 1 + 2 ≤ a := h1
    show zK (mnR R 2 len) a = 0
    rw [mnR_K, if_neg (by omega), if_neg (by omega)]
    exact I.2.1.2.2.2.2.2.2 a (show zN R ≤ a by omega) h2
  · have h2 : n0 ≤ zN R := I.2.2.2.2.1
    show n0 ≤ zN R + 1 + 2
    omega
  · intro i hi
    have h2 : n0 ≤ zN R := I.2.2.2.2.1
    have hi' : i < n0 ∨ zN R + 1 + 2 ≤ i := hi
    rw [va_up_ne _ _ (by omega), va_up_ne _ _ (by omega), va_up_ne _ _ (by omega)]
    exact I.2.2.2.2.2 i (by show i < n0 ∨ zN R ≤ i; omega)
-- throws: what each site is
def zEik (e : Nat) : Nat := match e with
  | 0 => 179
  | 1 => 67
  | _ => 108
def zEic (e : Nat) : Nat := match e with
  | 0 => 183
  | 1 => 71
  | _ => 112
def ckT (r : Nat × Nat × Nat × Nat × Nat × Nat × Nat) : Bool := decide (zoc r.1 = 6) && decide (zhh r.1 = []) && decide (r.2.2.1 < 3) && decide (r.2.2.2.2.1 = zEic r.2.2.1) && decide (r.2.2.2.2.2.2 = zEik r.2.2.1) &&
  decide (decode (zcod r.1) r.2.1 = .ok (.new (zEik r.2.2.1), 3)) && decide (decode (zcod r.1) (r.2.1 + 3) = .ok (.dup, 1)) &&
  (if r.2.2.2.2.2.1 = 0 then decide (decode (zcod r.1) (r.2.1 + 4) = .ok (.ldc r.2.2.2.1, 2)) && decide (decode (zcod r.1) (r.2.1 + 6) = .ok (.invokespecial (zEic r.2.2.1), 3)) && decide (decode (zcod r.1) (r.2.1 + 9) = .ok (.athrow, 1))
   else decide (decode (zcod r.1) (r.2.1 + 4) = .ok (.ldc_w r.2.2.2.1, 3)) && decide (decode (zcod r.1) (r.2.1 + 7) = .ok (.invokespecial (zEic r.2.2.1), 3)) && decide (decode (zcod r.1) (r.2.1 + 10) = .ok (.athrow, 1)))
theorem zthT_ok : zthT.all ckT = true := by decide +kernel
abbrev zch : List String := ["java/lang/RuntimeException", "java/lang/Exception"]
theorem zEw : ∀ e, e < 3 → Cond.classLink RX6 (zEik e) (zE e) ∈ lw_good ∧ Cond.initialized (zE e) ∈ lw_good := by
  intro e h
  match e, h with
  | 0, _ => exact ⟨lw_good_of (i := 729) (by decide +kernel) (by decide +kernel), lw_good_of (i := 19) (by decide +kernel) (by decide +kernel)⟩
  | 1, _ => exact ⟨lw_good_of (i := 437) (by decide +kernel) (by decide +kernel), lw_good_of (i := 13) (by decide +kernel) (by decide +kernel)⟩
  | 2, _ => exact ⟨lw_good_of (i := 759) (by decide +kernel) (by decide +kernel), lw_good_of (i := 20) (by decide +kernel) (by decide +kernel)⟩
  | n + 3, h => omega
theorem zEa1 : ∀ w ∈ (vx_atS RX6 (zEic 1) (zE 1) zch).filter goodWord, w ∈ lw_tbl := by decide +kernel
theorem zEb1 : ∀ w ∈ (vx_atS RX6 (zEic 1) (zE 1) zch).filter (fun w => !goodWord w), w ∈ [Cond.castable (zE 1) (zE 1), Cond.declares ⟨"java/lang/RuntimeException", "<init>", "(Ljava/lang/String;)V"⟩, Cond.declares ⟨"java/lang/Exception", "<init>", "(Ljava/lang/String;)V"⟩, Cond.declares ⟨"java/lang/Throwable", "<init>", "(Ljava/lang/String;)V"⟩] := by decide +kernel
theorem zEg1 : ∀ w ∈ Cond.classLink RX6 (zEik 1) (zE 1) :: Cond.initialized (zE 1) :: vx_atS RX6 (zEic 1) (zE 1) zch, vx_ot w = true := by decide +kernel
theorem zEf1 : Bundle.fit (zE 1) = true := by decide +kernel
theorem zEa2 : ∀ w ∈ (vx_atS RX6 (zEic 2) (zE 2) zch).filter goodWord, w ∈ lw_tbl := by decide +kernel
theorem zEb2 : ∀ w ∈ (vx_atS RX6 (zEic 2) (zE 2) zch).filter (fun w => !goodWord w), w ∈ [Cond.castable (zE 2) (zE 2), Cond.declares ⟨"java/lang/RuntimeException", "<init>", "(Ljava/lang/String;)V"⟩, Cond.declares ⟨"java/lang/Exception", "<init>", "(Ljava/lang/String;)V"⟩, Cond.declares ⟨"java/lang/Throwable", "<init>", "(Ljava/lang/String;)V"⟩] := by decide +kernel
theorem zEg2 : ∀ w ∈ Cond.classLink RX6 (zEik 2) (zE 2) :: Cond.initialized (zE 2) :: vx_atS RX6 (zEic 2) (zE 2) zch, vx_ot w = true := by decide +kernel
theorem zEf2 : Bundle.fit (zE 2) = true := by decide +kernel
abbrev zrx : ByteArray := ⟨#[0x2a, 0x2b, 0xb7, 0x00, 0x0d, 0xb1]⟩
theorem zEa0 : ∀ w ∈ (zx_at RX6 (zEic 0) (zE 0) 13 zrx zch).filter goodWord, w ∈ lw_tbl := by decide +kernel
theorem zEb0 : ∀ w ∈ (zx_at RX6 (zEic 0) (zE 0) 13 zrx zch).filter (fun w => !goodWord w), w ∈ [Cond.castable (zE 0) (zE 0), Cond.declares ⟨"java/lang/RuntimeException", "<init>", "(Ljava/lang/String;)V"⟩, Cond.declares ⟨"java/lang/Exception", "<init>", "(Ljava/lang/String;)V"⟩, Cond.declares ⟨"java/lang/Throwable", "<init>", "(Ljava/lang/String;)V"⟩] := by decide +kernel
theorem zEg0 : ∀ w ∈ Cond.classLink RX6 (zEik 0) (zE 0) :: Cond.initialized (zE 0) :: zx_at RX6 (zEic 0) (zE 0) 13 zrx zch, vx_ot w = true := by decide +kernel
theorem zEf0 : Bundle.fit (zE 0) = true := by decide +kernel
theorem zEall : ∀ e, e < 3 → e ≠ 0 → (∀ w ∈ (vx_atS RX6 (zEic e) (zE e) zch).filter goodWord, w ∈ lw_tbl) ∧ (∀ w ∈ (vx_atS RX6 (zEic e) (zE e) zch).filter (fun w => !goodWord w), w ∈ [Cond.castable (zE e) (zE e), Cond.declares ⟨"java/lang/RuntimeException", "<init>", "(Ljava/lang/String;)V"⟩, Cond.declares ⟨"java/lang/Exception", "<init>", "(Ljava/lang/String;)V"⟩, Cond.declares ⟨"java/lang/Throwable", "<init>", "(Ljava/lang/String;)V"⟩]) ∧ (∀ w ∈ Cond.classLink RX6 (zEik e) (zE e) :: Cond.initialized (zE e) :: vx_atS RX6 (zEic e) (zE e) zch, vx_ot w = true) ∧ Bundle.fit (zE e) = true := by
  intro e h h0
  match e, h, h0 with
  | 0, _, h0 => exact absurd rfl h0
  | 1, _, _ => exact ⟨zEa1, zEb1, zEg1, zEf1⟩
  | 2, _, _ => exact ⟨zEa2, zEb2, zEg2, zEf2⟩
  | n + 3, h, _ => omega
theorem zchf : ∀ n ∈ zch, Bundle.fit n = true := by decide +kernel
/-- a method's end -/
def zPost (D : va_G) (B0 : Nat) (fa : Nat → Nat) (FM : ZM) (FS : ZH) (n0 : Nat) (ad0 : Nat → Nat) (h : Hp) (st t : State) (ad : Nat → Nat) (cf : Nat → ClassId) (tys : List (ClassId × FieldType)) : Prop :=
  va_K D vwCl tys t ∧ zRel D B0 fa FM FS tys ad cf h t.heap ∧ va_F (zA B0) st t ∧ (n0 ≤ zN h.2 ∧ ∀ i, i < n0 ∨ zN h.2 ≤ i → ad i = ad0 i)
def zQc (D : va_G) (B0 : Nat) (fa : Nat → Nat) (fx : Value) (FM : ZM) (FS : ZH) (n0 : Nat) (ad0 : Nat → Nat) (o : ZO) : Array Value → State → Outcome → State → Prop := fun _ st out t => ∃ (v : Option Value) (ad : Nat → Nat) (cf : Nat → ClassId) (tys : List (ClassId × FieldType)), o.1 = .inl v ∧ out = .returned (v.map (tr fx ad)) ∧ zPost D B0 fa FM FS n0 ad0 o.2 st t ad cf tys
def zXC (D : va_G) (B0 : Nat) (fa : Nat → Nat) (FM : ZM) (FS : ZH) (n0 : Nat) (ad0 : Nat → Nat) (o : ZO) : String → State → State → Prop := fun E st t => ∃ (ad : Nat → Nat) (cf : Nat → ClassId) (tys : List (ClassId × FieldType)), o.1 = .inr E ∧ zPost D B0 fa FM FS n0 ad0 o.2 st t ad cf tys
theorem zRel.heap {D : va_G} {B0 : Nat} {fa : Nat → Nat} {FM : ZM} {FS : ZH} {tys : List (ClassId × FieldType)} {ad : Nat → Nat} {cf : Nat → ClassId} {h : Hp} {H H1 : Heap} (hr : zRel D B0 fa FM FS tys ad cf h H) (hk : ∀ q : Nat, q < H.size → H1[q]? = H[q]?) : zRel D B0 fa FM FS tys ad cf h H1 :=
  ⟨hr.1.kept (fun k q hq => hk _ (hr.1 k q hq).lt), hr.2⟩
theorem zRel.thr {D : va_G} {B0 : Nat} {fa : Nat → Nat} {FM : ZM} {FS : ZH} {tys : List (ClassId × FieldType)} {ad : Nat → Nat} {cf : Nat → ClassId} {M : ZM} {R : ZH} {H : Heap} (hr : zRel D B0 fa FM FS tys ad cf (M, R) H) : zRel D B0 fa FM FS tys ad cf (M, thR R) H := hr

section Sound
variable {l : Launch} {D : va_G} {B0 : Nat} {fa : Nat → Nat} {fx : Value} {FM : ZM} {FS : ZH}
variable {p : Program} {e : Env} {R : Room} {s : State} {m : MethodId} {args : Array Value} {below : List Frame} {meth : Method} {c : Code} {Q : State → Prop}
variable {n0 c0 s0 : Nat} {ad0 : Nat → Nat} {mi d pc : Nat} {lv r : List Value} {h : Hp}
variable {M : ZM} {Rz : ZH}

set_option maxHeartbeats 1000000 in
theorem sd_mna (F : zFSok FM FS) (C : zCtx B0 fa fx FM FS p R s m args meth c mi d) {idx : Nat} {k : Int32} (hd : decode (zcod mi) pc = .ok (.multianewarray idx 2, 4)) (hp : (zp (zoc mi) idx).1 = 5) (h0 : ¬ k < 0) (hN2 : k.toNatClampNeg ≤ 100000) (ho : (lv ++ r).all (okV (zN Rz)) = true) (hx : zN Rz < 1000) (hge : c0 ≤ zC Rz ∧ s0 ≤ zL Rz) (hcap : zC Rz + 3 ≤ c0 + R.cells ∧ zL Rz + 2 + 2 * k.toNatClampNeg ≤ s0 + R.slots) (kk : zGd l D B0 fa fx FM FS p e R s m args below meth c Q n0 c0 s0 ad0 (pc + 4) (lv) (.ref (zN Rz) :: r) ((mnM M (zN Rz) 2, mnR Rz 2 k.toNatClampNeg))) : zGd l D B0 fa fx FM FS p e R s m args below meth c Q n0 c0 s0 ad0 (pc) (lv) (.int k :: .int 2 :: r) ((M, Rz)) := by
  intro ad cf tys H locs ls I
  rw [List.all_append, Bool.and_eq_true] at ho
  have hA : ∀ q, s.heap.size ≤ q → zA B0 q := fun q hq => Nat.le_trans C.2.2.2.2.2.2.2.2.2.1.2.2.2.2.2.2.2.2.1 hq
  have hw := zpX (oc := zoc mi) (idx := idx) (kd := 5) (a := (zp (zoc mi) idx).2.1) (b := (zp (zoc mi) idx).2.2) (by rw [← hp]) (by decide)
  obtain ⟨cy, ky, comp, hcy, hky, hkind⟩ := Cond.arrayClass_spec (show (Cond.arrayClass .int).holds args s none s [] = true from C.2.2.2.2.2.1 _ w_ac_int)
  have hP0 : va_P D vwCl (wl ad cf (M, Rz) ++ va_pl [] (fun _ => .inr (0, []))) H := by
    show va_P D vwCl (wl ad cf (M, Rz) ++ []) H
    rw [List.append_nil]; exact I.2.1.1
  have hD0 : va_D (zA B0) (wl ad cf (M, Rz) ++ va_pl [] (fun _ => .inr (0, []))) := by
    show va_D (zA B0) (wl ad cf (M, Rz) ++ [])
    rw [List.append_nil]; exact I.2.1.2.1
  refine va_mna (D := D) (cl := vwCl) (tys := tys) (A := zA B0) (H0 := s.heap) (ty := .int) (cy := cy) (N' := 2) (K' := k.toNatClampNeg) (z := (k.toNatClampNeg, .inl (fun _ => 0))) C.1 C.2.1 C.2.2.2.2.1 (C.2.2.2.2.2.1 _ hw) C.2.2.2.2.2.2.2.2.2.1.2.2.2.2.2.2.1.2 (C.2.2.2.2.2.1 _ w_ac_int) hcy I.1 hP0 hD0 I.2.2.1 hA (by decide) h0 (by decide) rfl (by decide) ?_ (by omega) rfl rfl (by show zC Rz - c0 + 3 ≤ _; omega) (by show zL Rz - s0 + (2 + 2 * k.toNatClampNeg) ≤ _; omega) (fun c9 => ?_) hd ?_
  · show k.toNatClampNeg * 4 ≤ _
    omega
  · show ({ cls := c9, slots := Array.replicate k.toNatClampNeg (defaultValue .int), vm := .none } : Cell) = arrV c9 k.toNatClampNeg (fun _ => .int 0)
    rw [arrV_new]
    rfl
  · intro q rr cA H1 hinj _ hK hP hD hS
    have e1 : (wl ad cf (M, Rz) ++ [(q, .inl (cA, 2, .inr (.inr (.inr (.inr (fun i => if i < 2 then some (rr i) else none))))))]) ++ va_pl ([] ++ (List.range 2).map rr) (vr_up (fun _ => .inr (0, [])) ((List.range 2).map rr) (.inl (cy, k.toNatClampNeg, .inl (fun _ => 0)))) = wl (va_up (va_up (va_up ad (zN Rz) q) (zN Rz + 1) (rr 0)) (zN Rz + 2) (rr 1)) (va_up (va_up (va_up cf (zN Rz) cA) (zN Rz + 1) cy) (zN Rz + 2) cy) (mnM M (zN Rz) 2, mnR Rz 2 k.toNatClampNeg) := mn_wl I.2.1.2.2.2.1 (by omega)
    rw [e1] at hP hD
    have hRA : va_K D vwCl ((tys ++ [(cA, .array .int)]) ++ [(cy, .int)]) s := by
      refine hK.app ⟨I.1.1, fun k9 q9 hq => ?_⟩
      have : q9 = (cy, .int) := by
        cases k9 with
        | zero => simpa using hq.symm
        | succ k9 => simp at hq
      subst this
      exact ⟨fun n9 z9 => ⟨(fun k8 h8 => by cases h8), ky, hky, comp, hkind⟩, hcy⟩
    have J := zInv.mn (q := q) (q1 := rr 0) (q2 := rr 1) (cA := cA) (cy := cy) (len := k.toNatClampNeg) I hx ho.1 hRA hP hD hS hN2
    have k2 := kk _ _ _ H1 locs ls J
    have e2 : (Value.ref (zN Rz) :: r).map (tr fx (va_up (va_up (va_up ad (zN Rz) q) (zN Rz + 1) (rr 0)) (zN Rz + 2) (rr 1))) = .ref q :: r.map (tr fx ad) := by
      rw [List.map_cons, tr_upL (by omega) (okV_mono ho.2 (by omega)), tr_upL (by omega) (okV_mono ho.2 (by omega)), tr_upL (by omega) ho.2]
      show Value.ref (va_up (va_up (va_up ad (zN Rz) q) (zN Rz + 1) (rr 0)) (zN Rz + 2) (rr 1) (zN Rz)) :: _ = _
      rw [va_up_ne _ _ (by omega), va_up_ne _ _ (by omega), va_up_self]
    rw [e2] at k2
    have e3 : zC (mnR Rz 2 k.toNatClampNeg) - c0 = zC Rz - c0 + 1 + 2 := by show zC Rz + 1 + 2 - c0 = _; omega
    have e4 : zL (mnR Rz 2 k.toNatClampNeg) - s0 = zL Rz - s0 + 2 + 2 * k.toNatClampNeg := by show zL Rz + 2 + 2 * k.toNatClampNeg - s0 = _; omega
    show W p l e R s m args below meth c H1 locs (zC Rz - c0 + 1 + 2) (zL Rz - s0 + 2 + 2 * k.toNatClampNeg) Q _
    rw [← e3, ← e4]
    exact k2

set_option maxHeartbeats 1000000 in
theorem sd_throw (hl : l.stackTraces = false) (C : zCtx B0 fa fx FM FS p R s m args meth c mi d) {o : ZO} {e1 : Nat} (he : zth mi pc = some e1) (hc : cS r ≤ 8) (hlv : lv.length = zmx mi) (hge : c0 ≤ zC h.2 ∧ s0 ≤ zL h.2) (hcap : zC h.2 + 1 ≤ c0 + R.cells ∧ zL h.2 + 6 ≤ s0 + R.slots) (ho : o = (.inr (zE e1), (h.1, thR h.2))) (hq : Q = vx_MQ below (zQc D B0 fa fx FM FS n0 ad0 o) (zXC D B0 fa FM FS n0 ad0 o) args s (zC o.2.2 - c0) (zL o.2.2 - s0) (zA B0)) : zGd l D B0 fa fx FM FS p e R s m args below meth c Q n0 c0 s0 ad0 (pc) (lv) (r) (h) := by
  intro ad cf tys H locs ls I
  unfold zth at he
  rw [Option.map_eq_some_iff] at he
  obtain ⟨rw9, hf, he9⟩ := he
  have hm := List.mem_of_find?_eq_some hf
  have hm2 := List.find?_some hf
  simp only [Bool.and_eq_true, beq_iff_eq] at hm2
  have hck := List.all_eq_true.mp zthT_ok rw9 hm
  unfold ckT at hck
  simp only [Bool.and_eq_true, decide_eq_true_eq] at hck
  obtain ⟨⟨⟨⟨⟨⟨⟨k1, k2⟩, k3⟩, k4⟩, k5⟩, k6⟩, k7⟩, k8⟩ := hck
  rw [he9] at k3 k4 k5 k6 k8
  rw [hm2.1] at k1 k2 k6 k7 k8
  rw [hm2.2] at k6 k7 k8
  obtain ⟨tx, sa, hstr⟩ := C.2.2.2.2.2.2.2.2.2.1.2.2.2.1 rw9 hm
  obtain ⟨b1, b2⟩ := zEw e1 k3
  have hown : s.vm.findClass RX6 = some m.cls := by
    have := C.2.2.2.2.1
    rw [k1] at this
    exact this
  have htab : c.exceptionTable.toList = [] := by
    have := C.2.2.2.2.2.2.2.2.1
    rw [k2] at this
    exact this
  have hRf := C.2.2.2.2.2.2.2.2.2.2.1
  have hRl := C.2.2.2.2.2.2.2.2.2.2.2
  have g2 : ((r.map (tr fx ad)).map fun v => v.category).sum = cS r := tr_cS C.2.2.2.2.2.2.2.2.2.1.2.2.2.2.2.2.2.2.2.1 r
  have hX : ∀ t : State, s.vm.Alike t.vm → H.size ≤ t.heap.size → (∀ q : Nat, q < H.size → t.heap[q]? = H[q]?) → zXC D B0 fa FM FS n0 ad0 o (zE e1) s t := by
    intro t ht hs1 hs2
    subst ho
    exact ⟨ad, cf, tys, rfl, va_K.moved ht I.1, (I.2.1.heap hs2).thr, ⟨Nat.le_trans I.2.2.1.1 hs1, fun q q1 q2 => (hs2 q (Nat.lt_of_lt_of_le q1 I.2.2.1.1)).trans (I.2.2.1.2.1 q q1 q2)⟩, I.2.2.2.2⟩
  have c1 : zC h.2 - c0 + 1 ≤ zC o.2.2 - c0 := by rw [ho]; show _ ≤ zC h.2 + 1 - c0; omega
  have c2 : zL h.2 - s0 + 6 ≤ zL o.2.2 - s0 := by rw [ho]; show _ ≤ zL h.2 + 6 - s0; omega
  have hbad : ∀ w ∈ [Cond.castable (zE e1) (zE e1), Cond.declares ⟨"java/lang/RuntimeException", "<init>", "(Ljava/lang/String;)V"⟩, Cond.declares ⟨"java/lang/Exception", "<init>", "(Ljava/lang/String;)V"⟩, Cond.declares ⟨"java/lang/Throwable", "<init>", "(Ljava/lang/String;)V"⟩], w.before args s = true :=
    vx_c ((C.2.2.2.2.2.2.2.2.2.1.2.2.2.2.2.2.2.1.1 e1).use rfl) (vx_c ((C.2.2.2.2.2.2.2.2.2.1.2.2.2.2.2.2.2.1.2.2 _ (by simp)).use rfl) (vx_c ((C.2.2.2.2.2.2.2.2.2.1.2.2.2.2.2.2.2.1.2.2 _ (by simp)).use rfl) (vx_c ((C.2.2.2.2.2.2.2.2.2.1.2.2.2.2.2.2.2.1.2.2 _ (by simp)).use rfl) vx_n)))
  rw [hq]
  by_cases h09 : e1 = 0
  · subst h09
    by_cases hw : rw9.2.2.2.2.2.1 = 0
    · rw [if_pos hw] at k8
      simp only [Bool.and_eq_true, decide_eq_true_eq] at k8
      exact zx_throwS (A := zA B0) (names := zch) C.1 C.2.1 hl (rx := zrx) (ix := 13) (by decide +kernel) (by decide +kernel) (by decide +kernel) (by decide +kernel) hown zEf0 zchf (C.2.2.2.2.2.1 _ b1) (C.2.2.2.2.2.1 _ b2) hstr (vx_hat (fun w hw => C.2.2.2.2.2.1 w (List.mem_filter.mpr ⟨zEa0 w hw, (List.mem_filter.mp hw).2⟩)) zEb0 hbad) zEg0 C.2.2.2.2.2.2.2.2.2.1.2.2.2.2.2.1.1 C.2.2.2.2.2.2.2.2.2.1.2.2.2.2.2.1.2 I.2.2.1 (by rw [C.2.2.1, ← hlv]; exact I.2.2.2.1.1) k6 k7 k8.1.1 k8.1.2 k8.2 (fun x hx => by rw [htab] at hx; cases hx) (by show 2 + 3 < _; omega) (by show _ + (13 * (2 + 1) + 43) ≤ _; omega) (by omega) (by omega) C.2.2.2.2.2.2.1 hX I.2.2.1.2.2 c1 c2
    · rw [if_neg hw] at k8
      simp only [Bool.and_eq_true, decide_eq_true_eq] at k8
      exact zx_throwSW (A := zA B0) (names := zch) C.1 C.2.1 hl (rx := zrx) (ix := 13) (by decide +kernel) (by decide +kernel) (by decide +kernel) (by decide +kernel) hown zEf0 zchf (C.2.2.2.2.2.1 _ b1) (C.2.2.2.2.2.1 _ b2) hstr (vx_hat (fun w hw => C.2.2.2.2.2.1 w (List.mem_filter.mpr ⟨zEa0 w hw, (List.mem_filter.mp hw).2⟩)) zEb0 hbad) zEg0 C.2.2.2.2.2.2.2.2.2.1.2.2.2.2.2.1.1 C.2.2.2.2.2.2.2.2.2.1.2.2.2.2.2.1.2 I.2.2.1 (by rw [C.2.2.1, ← hlv]; exact I.2.2.2.1.1) k6 k7 k8.1.1 k8.1.2 k8.2 (fun x hx => by rw [htab] at hx; cases hx) (by show 2 + 3 < _; omega) (by show _ + (13 * (2 + 1) + 43) ≤ _; omega) (by omega) (by omega) C.2.2.2.2.2.2.1 hX I.2.2.1.2.2 c1 c2
  · obtain ⟨a1, a2, a3, a4⟩ := zEall e1 k3 h09
    by_cases hw : rw9.2.2.2.2.2.1 = 0
    · rw [if_pos hw] at k8
      simp only [Bool.and_eq_true, decide_eq_true_eq] at k8
      exact vx_throwS (A := zA B0) (names := zch) C.1 C.2.1 hl hown a4 zchf (C.2.2.2.2.2.1 _ b1) (C.2.2.2.2.2.1 _ b2) hstr (vx_hat (fun w hw => C.2.2.2.2.2.1 w (List.mem_filter.mpr ⟨a1 w hw, (List.mem_filter.mp hw).2⟩)) a2 hbad) a3 C.2.2.2.2.2.2.2.2.2.1.2.2.2.2.2.1.1 C.2.2.2.2.2.2.2.2.2.1.2.2.2.2.2.1.2 I.2.2.1 (by rw [C.2.2.1, ← hlv]; exact I.2.2.2.1.1) k6 k7 k8.1.1 k8.1.2 k8.2 (fun x hx => by rw [htab] at hx; cases hx) (by show 2 + 3 < _; omega) (by show _ + (13 * (2 + 1) + 43) ≤ _; omega) (by omega) (by omega) C.2.2.2.2.2.2.1 hX I.2.2.1.2.2 c1 c2
    · rw [if_neg hw] at k8
      simp only [Bool.and_eq_true, decide_eq_true_eq] at k8
      exact vx_throwSW (A := zA B0) (names := zch) C.1 C.2.1 hl hown a4 zchf (C.2.2.2.2.2.1 _ b1) (C.2.2.2.2.2.1 _ b2) hstr (vx_hat (fun w hw => C.2.2.2.2.2.1 w (List.mem_filter.mpr ⟨a1 w hw, (List.mem_filter.mp hw).2⟩)) a2 hbad) a3 C.2.2.2.2.2.2.2.2.2.1.2.2.2.2.2.1.1 C.2.2.2.2.2.2.2.2.2.1.2.2.2.2.2.1.2 I.2.2.1 (by rw [C.2.2.1, ← hlv]; exact I.2.2.2.1.1) k6 k7 k8.1.1 k8.1.2 k8.2 (fun x hx => by rw [htab] at hx; cases hx) (by show 2 + 3 < _; omega) (by show _ + (13 * (2 + 1) + 43) ≤ _; omega) (by omega) (by omega) C.2.2.2.2.2.2.1 hX I.2.2.1.2.2 c1 c2

theorem sd_iret (C : zCtx B0 fa fx FM FS p R s m args meth c mi d) {o : ZO} {v : Int32} {ty : FieldType} (ht : zrt mi = some ty) (hn : narrow ty (.int v) = .int v) (hd : decode (zcod mi) pc = .ok (.ireturn, 1)) (ho : o = (.inl (some (.int v)), h)) (hq : Q = vx_MQ below (zQc D B0 fa fx FM FS n0 ad0 o) (zXC D B0 fa FM FS n0 ad0 o) args s (zC o.2.2 - c0) (zL o.2.2 - s0) (zA B0)) : zGd l D B0 fa fx FM FS p e R s m args below meth c Q n0 c0 s0 ad0 (pc) (lv) ([.int v]) (h) := by
  intro ad cf tys H locs ls I
  rw [hq]
  subst ho
  exact vx_ret (W.zret C.1 C.2.1 (C.2.2.2.1.trans ht) hn (fun t ht hW => ⟨some (.int v), ad, cf, tys, rfl, rfl, va_K.moved hW.alike I.1, by rw [ht]; exact I.2.1, I.2.2.1.F ht, I.2.2.2.2⟩) I.2.2.1.2.2 hd C.2.2.2.2.2.2.1)
theorem sd_lret (C : zCtx B0 fa fx FM FS p R s m args meth c mi d) {o : ZO} {v : Int64} (ht : zrt mi = some .long) (hd : decode (zcod mi) pc = .ok (.lreturn, 1)) (ho : o = (.inl (some (.long v)), h)) (hq : Q = vx_MQ below (zQc D B0 fa fx FM FS n0 ad0 o) (zXC D B0 fa FM FS n0 ad0 o) args s (zC o.2.2 - c0) (zL o.2.2 - s0) (zA B0)) : zGd l D B0 fa fx FM FS p e R s m args below meth c Q n0 c0 s0 ad0 (pc) (lv) ([.long v]) (h) := by
  intro ad cf tys H locs ls I
  rw [hq]
  subst ho
  exact vx_ret (W.lret C.1 C.2.1 (C.2.2.2.1.trans ht) (fun t ht hW => ⟨some (.long v), ad, cf, tys, rfl, rfl, va_K.moved hW.alike I.1, by rw [ht]; exact I.2.1, I.2.2.1.F ht, I.2.2.2.2⟩) I.2.2.1.2.2 hd C.2.2.2.2.2.2.1)
theorem sd_aret (C : zCtx B0 fa fx FM FS p R s m args meth c mi d) {o : ZO} {a : Nat} {cn : String} (ht : zrt mi = some (.object cn)) (hd : decode (zcod mi) pc = .ok (.areturn, 1)) (ho : o = (.inl (some (.ref a)), h)) (hq : Q = vx_MQ below (zQc D B0 fa fx FM FS n0 ad0 o) (zXC D B0 fa FM FS n0 ad0 o) args s (zC o.2.2 - c0) (zL o.2.2 - s0) (zA B0)) : zGd l D B0 fa fx FM FS p e R s m args below meth c Q n0 c0 s0 ad0 (pc) (lv) ([.ref a]) (h) := by
  intro ad cf tys H locs ls I
  rw [hq]
  subst ho
  exact vx_ret (W.aret (v := .ref (ad a)) C.1 C.2.1 (C.2.2.2.1.trans ht) (Or.inl ⟨cn, rfl⟩) (Or.inr ⟨_, rfl⟩) (fun t ht hW => ⟨some (.ref a), ad, cf, tys, rfl, rfl, va_K.moved hW.alike I.1, by rw [ht]; exact I.2.1, I.2.2.1.F ht, I.2.2.2.2⟩) I.2.2.1.2.2 hd C.2.2.2.2.2.2.1)
theorem sd_vret (C : zCtx B0 fa fx FM FS p R s m args meth c mi d) {o : ZO} (ht : zrt mi = none) (hd : decode (zcod mi) pc = .ok (.return_, 1)) (ho : o = (.inl none, h)) (hq : Q = vx_MQ below (zQc D B0 fa fx FM FS n0 ad0 o) (zXC D B0 fa FM FS n0 ad0 o) args s (zC o.2.2 - c0) (zL o.2.2 - s0) (zA B0)) : zGd l D B0 fa fx FM FS p e R s m args below meth c Q n0 c0 s0 ad0 (pc) (lv) ([]) (h) := by
  intro ad cf tys H locs ls I
  rw [hq]
  subst ho
  exact vx_ret (W.vret C.1 C.2.1 (C.2.2.2.1.trans ht) (fun t ht hW => ⟨none, ad, cf, tys, rfl, rfl, va_K.moved hW.alike I.1, by rw [ht]; exact I.2.1, I.2.2.1.F ht, I.2.2.2.2⟩) I.2.2.1.2.2 hd C.2.2.2.2.2.2.1)
end Sound
