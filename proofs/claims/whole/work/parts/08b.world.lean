abbrev vwCl : List vw_C := [(RX0, TX0, 6), (RX1, TX1, 4), (RX2, TX2, 6), (RX3, TX3, 7), (RX4, TX4, 11), (RX5, TX5, 15), (RX6, TX6, 16), (RX7, TX7, 34)]
-- the world of the small heap
def zety (k : Nat) : FieldType := match k with
  | 11 => .int
  | 12 => .byte
  | 13 => .boolean
  | 14 => .long
  | 15 => .object "StrikeBench$Table"
  | _ => .array .int
def zfv (ad : Nat → Nat) (h : Hp) (ci i k : Nat) : Value := if zft ci k = 2 then va_rf ((zRf h.2 i k).map ad) else .int (h.1 i k)
def zcell (ad : Nat → Nat) (cf : Nat → ClassId) (h : Hp) (i : Nat) : va_E :=
  if zK h.2 i ≤ 8 then .inr (zK h.2 i - 1, (List.range (zLn h.2 i)).map (zfv ad h (zK h.2 i - 1) i))
  else if zK h.2 i = 14 then .inl (cf i, zLn h.2 i, .inr (.inl (zJ h.2 i)))
  else if zK h.2 i = 15 ∨ zK h.2 i = 16 then .inl (cf i, zLn h.2 i, .inr (.inr (.inr (.inr (fun j => (zRf h.2 i j).map ad)))))
  else .inl (cf i, zLn h.2 i, .inl (h.1 i))
def wl (ad : Nat → Nat) (cf : Nat → ClassId) (h : Hp) : va_W := (List.range (zN h.2)).map (fun i => (ad i, zcell ad cf h i))
theorem wl_get {ad : Nat → Nat} {cf : Nat → ClassId} {h : Hp} {i : Nat} (hi : i < zN h.2) : (wl ad cf h)[i]? = some (ad i, zcell ad cf h i) := by
  unfold wl
  rw [List.getElem?_map, List.getElem?_range hi]
  rfl
theorem wl_len {ad : Nat → Nat} {cf : Nat → ClassId} {h : Hp} : (wl ad cf h).length = zN h.2 := by
  unfold wl
  rw [List.length_map, List.length_range]
theorem wl_ext {ad' : Nat → Nat} {cf' : Nat → ClassId} {h' : Hp} {w : va_W} (hl : w.length = zN h'.2) (he : ∀ i, i < zN h'.2 → w[i]? = some (ad' i, zcell ad' cf' h' i)) : w = wl ad' cf' h' := by
  apply List.ext_getElem?
  intro i
  by_cases hi : i < zN h'.2
  · rw [he i hi, wl_get hi]
  · rw [List.getElem?_eq_none (by omega), List.getElem?_eq_none (by rw [wl_len]; omega)]
theorem wl_set {ad : Nat → Nat} {cf : Nat → ClassId} {h h' : Hp} {a : Nat} {e : va_E} (ha : a < zN h.2) (hN : zN h'.2 = zN h.2) (he : e = zcell ad cf h' a) (ho : ∀ i, i < zN h.2 → i ≠ a → zcell ad cf h' i = zcell ad cf h i) : (wl ad cf h).set a (ad a, e) = wl ad cf h' := by
  apply wl_ext
  · rw [List.length_set, wl_len, hN]
  · intro i hi
    by_cases e1 : i = a
    · subst e1
      rw [List.getElem?_set_self (by rw [wl_len]; exact ha), he]
    · rw [List.getElem?_set_ne (fun q => e1 q.symm), wl_get (by omega), ho i (by omega) e1]
theorem up2_ne {M : ZM} {a k b : Nat} {v : Int32} (h : b ≠ a) : up2 M a k v b = M b := by
  funext j
  unfold up2
  rw [if_neg (fun q => h q.1)]
theorem up2_row {M : ZM} {a k : Nat} {v : Int32} : up2 M a k v a = upd (M a) k v := by
  funext j
  unfold up2 upd
  by_cases e : j = k
  · rw [if_pos ⟨rfl, e⟩, if_pos e]
  · rw [if_neg (fun q => e q.2), if_neg e]
/-- the cell of an untouched row -/
theorem zcell_eq {ad : Nat → Nat} {cf : Nat → ClassId} {h h' : Hp} {i : Nat} (h1 : h'.1 i = h.1 i) (h2 : ∀ j, zRf h'.2 i j = zRf h.2 i j) (h3 : ∀ j, zJ h'.2 i j = zJ h.2 i j) (h4 : zK h'.2 i = zK h.2 i) (h5 : zLn h'.2 i = zLn h.2 i) : zcell ad cf h' i = zcell ad cf h i := by
  unfold zcell
  have e1 : zfv ad h' (zK h.2 i - 1) i = zfv ad h (zK h.2 i - 1) i := by
    funext k
    unfold zfv
    rw [h1, h2]
  have e2 : zJ h'.2 i = zJ h.2 i := funext h3
  have e3 : (fun j => (zRf h'.2 i j).map ad) = (fun j => (zRf h.2 i j).map ad) := funext fun j => by rw [h2]
  rw [h4, h5, e1, e2, e3, h1]
theorem wl_upI {ad : Nat → Nat} {cf : Nat → ClassId} {M : ZM} {R : ZH} {a k : Nat} {x : Int32} {e : va_E} (ha : a < zN R) (he : e = zcell ad cf (up2 M a k x, R) a) : (wl ad cf (M, R)).set a (ad a, e) = wl ad cf (up2 M a k x, R) :=
  wl_set ha rfl he (fun i _ hne => zcell_eq (h := (M, R)) (h' := (up2 M a k x, R)) (up2_ne hne) (fun _ => rfl) (fun _ => rfl) rfl rfl)
theorem wl_sRf {ad : Nat → Nat} {cf : Nat → ClassId} {M : ZM} {R : ZH} {a k : Nat} {v : Option Nat} {e : va_E} (ha : a < zN R) (he : e = zcell ad cf (M, sRf R a k v) a) : (wl ad cf (M, R)).set a (ad a, e) = wl ad cf (M, sRf R a k v) :=
  wl_set ha rfl he (fun i _ hne => zcell_eq (h := (M, R)) (h' := (M, sRf R a k v)) rfl (fun j => if_neg (fun q => hne q.1)) (fun _ => rfl) rfl rfl)
theorem wl_sJ {ad : Nat → Nat} {cf : Nat → ClassId} {M : ZM} {R : ZH} {a k : Nat} {v : Int64} {e : va_E} (ha : a < zN R) (he : e = zcell ad cf (M, sJ R a k v) a) : (wl ad cf (M, R)).set a (ad a, e) = wl ad cf (M, sJ R a k v) :=
  wl_set ha rfl he (fun i _ hne => zcell_eq (h := (M, R)) (h' := (M, sJ R a k v)) rfl (fun _ => rfl) (fun j => if_neg (fun q => hne q.1)) rfl rfl)
theorem wl_cp {ad : Nat → Nat} {cf : Nat → ClassId} {M : ZM} {R : ZH} {a b sp dp n : Nat} {e : va_E} (hb : b < zN R) (he : e = zcell ad cf (cpM M a b sp dp n, R) b) : (wl ad cf (M, R)).set b (ad b, e) = wl ad cf (cpM M a b sp dp n, R) :=
  wl_set hb rfl he (fun i _ hne => zcell_eq (h := (M, R)) (h' := (cpM M a b sp dp n, R)) (funext fun j => if_neg (fun q => hne q.1)) (fun _ => rfl) (fun _ => rfl) rfl rfl)
theorem cpM_row {M : ZM} {a b sp dp n : Nat} : cpM M a b sp dp n b = va_cpy (M a) (M b) sp dp n := by
  funext j
  unfold cpM va_cpy
  by_cases h : dp ≤ j ∧ j < dp + n
  · rw [if_pos ⟨rfl, h⟩, if_pos h]
  · rw [if_neg (fun q => h q.2), if_neg h]
/-- forms of a cell -/
theorem zcell_obj {ad : Nat → Nat} {cf : Nat → ClassId} {h : Hp} {i ci : Nat} (hk : zK h.2 i = ci + 1) (hc : ci < 8) : zcell ad cf h i = .inr (ci, (List.range (zLn h.2 i)).map (zfv ad h ci i)) := by
  unfold zcell
  rw [if_pos (by omega), hk]
  rfl
theorem zcell_int {ad : Nat → Nat} {cf : Nat → ClassId} {h : Hp} {i : Nat} (hk : zK h.2 i = 11 ∨ zK h.2 i = 12 ∨ zK h.2 i = 13) : zcell ad cf h i = .inl (cf i, zLn h.2 i, .inl (h.1 i)) := by
  unfold zcell
  rw [if_neg (by omega), if_neg (by omega), if_neg (by omega)]
theorem zcell_long {ad : Nat → Nat} {cf : Nat → ClassId} {h : Hp} {i : Nat} (hk : zK h.2 i = 14) : zcell ad cf h i = .inl (cf i, zLn h.2 i, .inr (.inl (zJ h.2 i))) := by
  unfold zcell
  rw [if_neg (by omega), if_pos hk]
theorem zcell_ref {ad : Nat → Nat} {cf : Nat → ClassId} {h : Hp} {i : Nat} (hk : zK h.2 i = 15 ∨ zK h.2 i = 16) : zcell ad cf h i = .inl (cf i, zLn h.2 i, .inr (.inr (.inr (.inr (fun j => (zRf h.2 i j).map ad))))) := by
  unfold zcell
  rw [if_neg (by omega), if_neg (by omega), if_pos hk]
theorem range_set {α : Type} (n k : Nat) (f : Nat → α) (x : α) : ((List.range n).map f).set k x = (List.range n).map (fun j => if j = k then x else f j) := by
  apply List.ext_getElem?
  intro i
  by_cases hi : i < n
  · by_cases e : i = k
    · subst e
      rw [List.getElem?_set_self (by simp [hi])]
      simp [hi]
    · rw [List.getElem?_set_ne (fun q => e q.symm)]
      simp [hi, e]
  · simp [hi]
theorem zfv_upI {ad : Nat → Nat} {M : ZM} {R : ZH} {ci a k n : Nat} {x : Int32} (hf : zft ci k ≠ 2) : ((List.range n).map (zfv ad (M, R) ci a)).set k (.int x) = (List.range n).map (zfv ad (up2 M a k x, R) ci a) := by
  rw [range_set]
  apply List.map_congr_left
  intro j _
  unfold zfv
  by_cases e : j = k
  · subst e
    rw [if_pos rfl, if_neg hf]
    show Value.int x = .int (up2 M a j x a j)
    unfold up2
    rw [if_pos ⟨rfl, rfl⟩]
  · rw [if_neg e]
    have : up2 M a k x a j = M a j := if_neg (fun q => e q.2)
    show _ = if _ then va_rf ((zRf R a j).map ad) else .int (up2 M a k x a j)
    rw [this]
theorem zfv_sRf {ad : Nat → Nat} {M : ZM} {R : ZH} {ci a k n b : Nat} (hf : zft ci k = 2) : ((List.range n).map (zfv ad (M, R) ci a)).set k (.ref (ad b)) = (List.range n).map (zfv ad (M, sRf R a k (some b)) ci a) := by
  rw [range_set]
  apply List.map_congr_left
  intro j _
  unfold zfv
  by_cases e : j = k
  · subst e
    rw [if_pos rfl, if_pos hf]
    show Value.ref (ad b) = va_rf ((zRf (sRf R a j (some b)) a j).map ad)
    have : zRf (sRf R a j (some b)) a j = some b := if_pos ⟨rfl, rfl⟩
    rw [this]
    rfl
  · rw [if_neg e]
    have : zRf (sRf R a k (some b)) a j = zRf R a j := if_neg (fun q => e q.2)
    show _ = if _ then va_rf ((zRf (sRf R a k (some b)) a j).map ad) else .int (M a j)
    rw [this]
/-- what is asked of each cell: its kind, its length, its array class among the known -/
def zwf (tys : List (ClassId × FieldType)) (cf : Nat → ClassId) (R : ZH) (i : Nat) : Prop :=
  (1 ≤ zK R i ∧ zK R i ≤ 8 ∧ zLn R i = zNN (zK R i - 1)) ∨ ((11 ≤ zK R i ∧ zK R i ≤ 16 ∧ zLn R i ≤ 100000) ∧ ∃ t0 : Nat, tys[t0]? = some (cf i, zety (zK R i)))
/-- references that lie in cells are of cells that stand -/
def zrv (R : ZH) : Prop := ∀ a j b, a < zN R → zRf R a j = some b → b < zN R ∨ 1000000 ≤ b
/-- what was there before the law began -/
def zfo (fa : Nat → Nat) (FM : ZM) (FS : ZH) (ad : Nat → Nat) (h : Hp) : Prop := ∀ a, 1000000 ≤ a → ad a = fa a ∧ zK h.2 a = zK FS a ∧ zLn h.2 a = zLn FS a ∧ ∀ j, h.1 a j = FM a j ∧ zRf h.2 a j = zRf FS a j
def zRel (D : va_G) (B0 : Nat) (fa : Nat → Nat) (FM : ZM) (FS : ZH) (tys : List (ClassId × FieldType)) (ad : Nat → Nat) (cf : Nat → ClassId) (h : Hp) (H : Heap) : Prop :=
  va_P D vwCl (wl ad cf h) H ∧ va_D (fun q => B0 ≤ q) (wl ad cf h) ∧ (∀ i, i < zN h.2 → zwf tys cf h.2 i) ∧ zrv h.2 ∧ zfo fa FM FS ad h ∧ zN h.2 ≤ 1100 ∧ ∀ a, zN h.2 ≤ a → a < 1000000 → zK h.2 a = 0
/-- a new cell at the end -/
theorem wl_push {ad : Nat → Nat} {cf : Nat → ClassId} {M : ZM} {R : ZH} {q : Nat} {cA : ClassId} {kd len : Nat} {e : va_E} (hv : zrv R) (hx : zN R ≤ 1000) (he : e = zcell (va_up ad (zN R) q) (va_up cf (zN R) cA) (nwM M (zN R), nwR R kd len) (zN R)) : wl ad cf (M, R) ++ [(q, e)] = wl (va_up ad (zN R) q) (va_up cf (zN R) cA) (nwM M (zN R), nwR R kd len) := by
  apply wl_ext
  · rw [List.length_append, wl_len]
    rfl
  · intro i hi
    have hi' : i < zN R + 1 := hi
    by_cases e1 : i = zN R
    · subst e1
      rw [List.getElem?_append_right (by rw [wl_len]; exact Nat.le_refl _), wl_len]
      show [(q, e)][zN R - zN R]? = _
      rw [Nat.sub_self, va_up_self, ← he]
      rfl
    · have hlt : i < zN R := by omega
      rw [List.getElem?_append_left (by rw [wl_len]; exact hlt), wl_get (h := (M, R)) hlt, va_up_ne _ _ e1]
      congr 2
      have c1 : zK (nwR R kd len) i = zK R i := by show (if i = zN R then (kd, len) else R.2.2.1 i).1 = _; rw [if_neg e1]; rfl
      have c2 : zLn (nwR R kd len) i = zLn R i := by show (if i = zN R then (kd, len) else R.2.2.1 i).2 = _; rw [if_neg e1]; rfl
      have c3 : ∀ j, zRf (nwR R kd len) i j = zRf R i j := fun j => if_neg e1
      have c4 : ∀ j, zJ (nwR R kd len) i j = zJ R i j := fun j => if_neg e1
      have c5 : nwM M (zN R) i = M i := funext fun j => if_neg e1
      have c6 : ∀ j, (zRf R i j).map (va_up ad (zN R) q) = (zRf R i j).map ad := by
        intro j
        cases hr : zRf R i j with
        | none => rfl
        | some b =>
          have := hv i j b hlt hr
          show some (va_up ad (zN R) q b) = some (ad b)
          rw [va_up_ne _ _ (by omega)]
      unfold zcell
      simp only
      have e2 : zfv (va_up ad (zN R) q) (nwM M (zN R), nwR R kd len) (zK R i - 1) i = zfv ad (M, R) (zK R i - 1) i := by
        funext k
        unfold zfv
        simp only
        rw [c3, c6, c5]
      have e3 : zJ (nwR R kd len) i = zJ R i := funext c4
      have e4 : (fun j => (zRf (nwR R kd len) i j).map (va_up ad (zN R) q)) = (fun j => (zRf R i j).map ad) := funext fun j => by rw [c3, c6]
      rw [c1, c2, e2, e3, e4, c5, va_up_ne _ _ e1]
