-- lines: pure
def pPer (b : Nat → Int32) (n i : Nat) : PR (Int × Int × Int × Int) := match pNum b n i true (-50) 50 with
  | .inl f => .inl f
  | .inr (w, i1) => match pNum b n i1 true (-50) 50 with
    | .inl f => .inl f
    | .inr (x, i2) => match pNum b n i2 false 18 99 with
      | .inl f => .inl f
      | .inr (y, i3) => match pNum b n i3 false 0 3 with
        | .inl f => .inl f
        | .inr (z, i4) => .inr ((w, x, y, z), i4)
theorem pPer_pos {b : Nat → Int32} {n i i' : Nat} {q : Int × Int × Int × Int} (hi : i ≤ n) (h : pPer b n i = .inr (q, i')) : i ≤ i' ∧ i' ≤ n ∧ (-50 ≤ q.1 ∧ q.1 ≤ 50) ∧ (-50 ≤ q.2.1 ∧ q.2.1 ≤ 50) ∧ (18 ≤ q.2.2.1 ∧ q.2.2.1 ≤ 99) ∧ (0 ≤ q.2.2.2 ∧ q.2.2.2 ≤ 3) := by
  unfold pPer at h
  split at h
  · cases h
  · rename_i w i1 e1
    have p1 := pNum_pos hi e1
    split at h
    · cases h
    · rename_i x i2 e2
      have p2 := pNum_pos p1.2.1 e2
      split at h
      · cases h
      · rename_i y i3 e3
        have p3 := pNum_pos p2.2.1 e3
        split at h
        · cases h
        · rename_i z i4 e4
          have p4 := pNum_pos p3.2.1 e4
          cases h
          exact ⟨by omega, p4.2.1, p1.2.2, p2.2.2, p3.2.2, p4.2.2⟩
def tuF (b : Nat → Int32) (n : Nat) : Nat → Nat → Nat → Nat → Nat × Nat × Nat
  | 0, c, i, B => (B, c, i)
  | m + 1, c, i, B => if isH b n (sk b n i) (nI 97) then tuF b n m (c + 1) (sk b n i + 1) B else if isH b n (sk b n i) (nI 98) then tuF b n m (c + 1) (sk b n i + 1) (B ||| 2 ^ c) else (B, c, sk b n i)
theorem tuF_pos {b : Nat → Int32} {n : Nat} : ∀ (m c i B : Nat), i ≤ n → B < 2 ^ c → i ≤ (tuF b n m c i B).2.2 ∧ (tuF b n m c i B).2.2 ≤ n ∧ c ≤ (tuF b n m c i B).2.1 ∧ (tuF b n m c i B).2.1 ≤ c + m ∧ (tuF b n m c i B).1 < 2 ^ (tuF b n m c i B).2.1
  | 0, c, i, B, hi, hB => ⟨Nat.le_refl _, hi, Nat.le_refl _, Nat.le_refl _, hB⟩
  | m + 1, c, i, B, hi, hB => by
    have h1 := sk_ge b n i
    have h2 := sk_le (b := b) hi
    have hp : 2 ^ c < 2 ^ (c + 1) := Nat.pow_lt_pow_right (by decide) (by omega)
    unfold tuF
    split
    · rename_i e
      have := tuF_pos (b := b) (n := n) m (c + 1) (sk b n i + 1) B (by have := isH_lt e; omega) (by omega)
      omega
    · split
      · rename_i e
        have := tuF_pos (b := b) (n := n) m (c + 1) (sk b n i + 1) (B ||| 2 ^ c) (by have := isH_lt e; omega) (Nat.or_lt_two_pow (by omega) hp)
        omega
      · exact ⟨h1, h2, Nat.le_refl _, by show c ≤ c + (m + 1); omega, hB⟩
abbrev PS : Type := (Nat → Int32) × (Nat → Int32) × Nat × Nat × Int × List CdS × List CdS × List CdS
def rD (P : PS) : Nat → Int32 := P.1
def fI (P : PS) : Nat → Int32 := P.2.1
def fN (P : PS) : Nat := P.2.2.1
def tL (P : PS) : Nat := P.2.2.2.1
def gR (P : PS) : Int := P.2.2.2.2.1
def cA (P : PS) : List CdS := P.2.2.2.2.2.1
def cB (P : PS) : List CdS := P.2.2.2.2.2.2.1
def cC (P : PS) : List CdS := P.2.2.2.2.2.2.2
def rd0 : Nat → Int32 := fun k => if k = 2 then nI 2 else if 64 ≤ k then -1 else nI 0
def ps0 : PS := (rd0, fun _ => nI 0, 0, 0, 9, [], [], [])
def up4 (f : Nat → Int32) (k : Nat) (q : Int × Int × Int × Int) : Nat → Int32 := upf (upf (upf (upf f k (iI q.1)) (k + 1) (iI q.2.1)) (k + 2) (iI q.2.2.1)) (k + 3) (iI q.2.2.2)
def jurP (P : PS) (q : Int × Int × Int × Int) : PS := (upf (up4 (rD P) (8 + 4 * jn (rD P)) q) 0 (nI (jn (rD P) + 1)), fI P, fN P, tL P, gR P, cA P, cB P, cC P)
def talP (P : PS) (q : Int × Int × Int × Int) : PS := (up4 (rD P) 60 q, up4 (fI P) (4 * fN P) q, fN P + 1, tL P, gR P, cA P, cB P, cC P)
def rdP (P : PS) (k : Nat) (v : Int32) (t : Nat) : PS := (upf (rD P) k v, fI P, fN P, tL P ||| t, gR P, cA P, cB P, cC P)
def tuP (P : PS) (c B : Nat) : PS := (upf (upf (rD P) 5 (nI c)) 6 (nI B), fI P, fN P, tL P ||| 4, gR P, cA P, cB P, cC P)
def grP (P : PS) (v : Int) : PS := (rD P, fI P, fN P, tL P ||| 32, v, cA P, cB P, cC P)
def beP (P : PS) (st : List CdS) : PS := (rD P, fI P, fN P, tL P ||| 16, gR P, cA P, cB P, st)
def caP (P : PS) (s : Nat) (st : List CdS) : PS := if s = 0 then (rD P, fI P, fN P, tL P ||| 64, gR P, st, cB P, cC P) else (rD P, fI P, fN P, tL P ||| 128, gR P, cA P, st, cC P)
def onc (P : PS) (bit i : Nat) (r : PR PS) : PR PS := if (tL P).testBit bit then .inl (1, i) else r
def mp {α : Type} (r : PR α) (f : α → PS) : PR PS := match r with
  | .inl e => .inl e
  | .inr (v, i) => .inr (f v, i)
def pBody (b : Nat → Int32) (n : Nat) (P : PS) (i : Nat) : PR PS :=
  if wm b n i 0 then (if 10 ≤ jn (rD P) then .inl (3, i) else mp (pPer b n (i + 5)) (jurP P))
  else if wm b n i 1 then (if 4 ≤ fN P then .inl (3, i) else mp (pPer b n (i + 5)) (talP P))
  else if wm b n i 2 then onc P 0 i (mp (pNum b n (i + 5) false 1 6) (fun v => rdP P 2 (iI v) 1))
  else if wm b n i 3 then onc P 1 i (mp (pNum b n (i + 5) false 0 3) (fun v => rdP P 3 (iI v) 2))
  else if wm b n i 4 then onc P 2 i (.inr (tuP P (tuF b n 8 0 (i + 5) 0).2.1 (tuF b n 8 0 (i + 5) 0).1, (tuF b n 8 0 (i + 5) 0).2.2))
  else if wm b n i 5 then onc P 3 i (.inr (rdP P 4 (nI 1) 8, i + 3))
  else if wm b n i 6 then (if isH b n (sk b n (i + 5)) (nI 97) then onc P 6 (sk b n (i + 5)) (mp (pAny (pOne b n 4) b n (sk b n (i + 5) + 1)) (caP P 0)) else if isH b n (sk b n (i + 5)) (nI 98) then onc P 7 (sk b n (i + 5)) (mp (pAny (pOne b n 4) b n (sk b n (i + 5) + 1)) (caP P 1)) else .inl (1, sk b n (i + 5)))
  else if wm b n i 7 then onc P 4 i (mp (pAny (pOne b n 4) b n (i + 5)) (beP P))
  else if wm b n i 8 then onc P 5 i (mp (pNum b n (i + 5) false 0 9) (grP P))
  else .inl (1, i)
/-- a line and its end -/
def pLine (b : Nat → Int32) (n : Nat) (P : PS) (i : Nat) : PR PS := match pBody b n P i with
  | .inl f => .inl f
  | .inr (P', i') => if isH b n (sk b n i') (nI 59) then .inr (P', sk b n i' + 1) else .inl (1, sk b n i')
def pAll (b : Nat → Int32) (n : Nat) : Nat → PS → Nat → PR PS
  | 0, P, i => .inr (P, i)
  | m + 1, P, i => if i < n then (match pLine b n P i with
    | .inl f => .inl f
    | .inr (P', i') => pAll b n m P' (sk b n i')) else .inr (P, i)
def pText (b : Nat → Int32) (n : Nat) : (Nat × Nat) ⊕ PS := match pAll b n n ps0 (sk b n 0) with
  | .inl f => .inl f
  | .inr (P, _) => if jn (rD P) = 0 then .inl (5, n) else .inr P
-- what holds of what is read
def PW (P : PS) : Prop := ((rD P 0 = nI (jn (rD P)) ∧ jn (rD P) ≤ 10) ∧ (rD P 1 = nI 0) ∧ (∃ s, rD P 2 = nI s ∧ 1 ≤ s ∧ s ≤ 6) ∧ (∃ s, rD P 3 = nI s ∧ s ≤ 3) ∧ (∃ s, rD P 4 = nI s ∧ s ≤ 1) ∧ (∃ c, c ≤ 8 ∧ rD P 5 = nI c ∧ ∃ B, B < 2 ^ c ∧ rD P 6 = nI B) ∧ rD P 7 = nI 0) ∧
  (∀ k, k < jn (rD P) → ∃ q : Int × Int × Int × Int, ((-50 ≤ q.1 ∧ q.1 ≤ 50) ∧ (-50 ≤ q.2.1 ∧ q.2.1 ≤ 50)) ∧ rD P (8 + 4 * k) = iI q.1 ∧ rD P (9 + 4 * k) = iI q.2.1) ∧
  (∀ k, k < fN P → ∃ q : Int × Int × Int × Int, ((-50 ≤ q.1 ∧ q.1 ≤ 50) ∧ (-50 ≤ q.2.1 ∧ q.2.1 ≤ 50)) ∧ fI P (4 * k) = iI q.1 ∧ fI P (4 * k + 1) = iI q.2.1) ∧
  (∀ k, 64 ≤ k → rD P k = -1) ∧ fN P ≤ 4 ∧ tL P < 256 ∧ (0 ≤ gR P ∧ gR P ≤ 9)
/-- the class's table and reader hold what is read -/
def PSC (M : ZM) (j : Nat) (P : PS) : Prop :=
  (M (tb j) 6 = rD P 0 ∧ M (tb j) 7 = nI (fN P) ∧ M (tb j) 8 = nI 0 ∧ M (tb j) 9 = nI 0 ∧ M (tb j) 10 = rD P 2 ∧ M (tb j) 11 = rD P 3 ∧ M (tb j) 12 = rD P 4 ∧ M (tb j) 13 = rD P 5 ∧ M (tb j) 14 = rD P 6) ∧
  (∀ k, k < jn (rD P) → M (tb j + 2) k = rD P (8 + 4 * k) ∧ M (tb j + 3) k = rD P (9 + 4 * k) ∧ M (tb j + 4) k = rD P (10 + 4 * k) ∧ M (tb j + 5) k = rD P (11 + 4 * k)) ∧
  (∀ k, k < fN P → M (tb j + 2) (10 + k) = fI P (4 * k) ∧ M (tb j + 3) (10 + k) = fI P (4 * k + 1) ∧ M (tb j + 4) (10 + k) = fI P (4 * k + 2) ∧ M (tb j + 5) (10 + k) = fI P (4 * k + 3)) ∧
  (∀ k, k < 14 → M (tb j + 6) k = -1 ∧ M (tb j + 7) k = -1) ∧ (M 92 7 = nI (tL P) ∧ M 92 8 = iI (gR P)) ∧ (ClR M 94 (cA P) ∧ ClR M 98 (cB P) ∧ ClR M 102 (cC P))
def LnF (j : Nat) (M M' : ZM) : Prop := ∀ c, c ≠ 92 → (c < 94 ∨ 105 < c) → (c < tb j ∨ tb j + 8 < c) → M' c = M c
def LnE (j : Nat) (M M' : ZM) (k p : Nat) : Prop := M' 92 9 = nI k ∧ M' 92 10 = nI p ∧ LnF j M M'
theorem LnF.refl {j : Nat} {M : ZM} : LnF j M M := fun _ _ _ _ => rfl
theorem LnF.trans {j : Nat} {M M1 M2 : ZM} (h1 : LnF j M M1) (h2 : LnF j M1 M2) : LnF j M M2 := fun c a b d => by rw [h2 c a b d, h1 c a b d]
theorem LnE.after {j k p : Nat} {M M1 M2 : ZM} (h1 : LnF j M M1) (h2 : LnE j M1 M2 k p) : LnE j M M2 k p := ⟨h2.1, h2.2.1, h1.trans h2.2.2⟩
theorem LnF.at {j i : Nat} {M : ZM} : LnF j M (atM M i) := fun c a _ _ => atM_c a
theorem LnF.nm {j i : Nat} {v : Int} {M : ZM} : LnF j M (nmM M i v) := fun c a _ _ => nmM_c a
theorem LnF.up {j q k : Nat} {v : Int32} {M : ZM} (h : tb j ≤ q) (h2 : q ≤ tb j + 8) : LnF j M (up2 M q k v) := fun c _ _ d => up2_ne (by omega)
theorem CFt.ln {j k p : Nat} {M M' : ZM} (h : CFt M' M k p) : LnE j M M' k p := ⟨h.1, h.2.1, fun c a _ _ => h.2.2 c a⟩
theorem CdF.ln {j a : Nat} {M M' : ZM} (ha : isCl a) (h : CdF a M M') : LnF j M M' := fun c c1 c2 _ => h.1 c c1 (by have := isCl_n ha; omega)
theorem CdE.ln {j a k p : Nat} {M M' : ZM} (ha : isCl a) (h : CdE a M M' k p) : LnE j M M' k p := ⟨h.1, h.2.1, fun c c1 c2 _ => h.2.2.2 c c1 (by have := isCl_n ha; omega)⟩
