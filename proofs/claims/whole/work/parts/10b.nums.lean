-- whole numbers as ints of the machine
def iI (x : Int) : Int32 := Int32.ofInt x
theorem nI_iI (n : Nat) : nI n = iI (n : Int) := rfl
theorem iI_add (a b : Int) : iI a + iI b = iI (a + b) := (Int32.ofInt_add a b).symm
theorem iI_mul (a b : Int) : iI a * iI b = iI (a * b) := (Int32.ofInt_mul a b).symm
theorem iI_sub (a b : Int) : iI a - iI b = iI (a - b) := (Int32.ofInt_sub a b).symm
theorem iI_neg (a : Int) : - iI a = iI (-a) := (Int32.ofInt_neg a).symm
theorem iI_toInt {a : Int} (h1 : -2147483648 ≤ a) (h2 : a < 2147483648) : (iI a).toInt = a := Int32.toInt_ofInt_of_le h1 (by omega)
theorem iI_ltb {a b : Int} (h1 : -2147483648 ≤ a) (h2 : a < 2147483648) (h3 : -2147483648 ≤ b) (h4 : b < 2147483648) : (iI a < iI b) = (a < b) := by
  rw [Int32.lt_iff_toInt_lt, iI_toInt h1 h2, iI_toInt h3 h4]
theorem iI_leb {a b : Int} (h1 : -2147483648 ≤ a) (h2 : a < 2147483648) (h3 : -2147483648 ≤ b) (h4 : b < 2147483648) : (iI a ≤ iI b) = (a ≤ b) := by
  rw [Int32.le_iff_toInt_le, iI_toInt h1 h2, iI_toInt h3 h4]
theorem iI_eqb {a b : Int} (h1 : -2147483648 ≤ a) (h2 : a < 2147483648) (h3 : -2147483648 ≤ b) (h4 : b < 2147483648) : (iI a = iI b) = (a = b) := by
  rw [← Int32.toInt_inj, iI_toInt h1 h2, iI_toInt h3 h4]
theorem iI_of (x : Int32) : x = iI x.toInt := (Int32.ofInt_toInt x).symm
theorem iI_m1 : iI (-1) = -1 := by decide +kernel
def b2i (b : Bool) : Int32 := if b then nI 1 else nI 0
theorem b2i_t : b2i true = nI 1 := rfl
theorem b2i_f : b2i false = nI 0 := rfl
theorem b2i_0 {b : Bool} : (b2i b = nI 0) = (b = false) := by cases b <;> decide +kernel
theorem b2i_1 {b : Bool} : (b2i b = nI 1) = (b = true) := by cases b <;> decide +kernel
theorem nar_b {b : Bool} : narrow .boolean (.int (b2i b)) = .int (b2i b) := by cases b <;> decide +kernel
theorem nI_and (a b : Nat) : nI a &&& nI b = nI (a &&& b) := by
  apply Int32.toBitVec_inj.mp
  rw [Int32.toBitVec_and]
  show BitVec.ofNat 32 a &&& BitVec.ofNat 32 b = BitVec.ofNat 32 (a &&& b)
  exact (BitVec.ofNat_and ..).symm
theorem nI_or (a b : Nat) : nI a ||| nI b = nI (a ||| b) := by
  apply Int32.toBitVec_inj.mp
  rw [Int32.toBitVec_or]
  show BitVec.ofNat 32 a ||| BitVec.ofNat 32 b = BitVec.ofNat 32 (a ||| b)
  exact (BitVec.ofNat_or ..).symm
theorem nI_xor (a b : Nat) : nI a ^^^ nI b = nI (a ^^^ b) := by
  apply Int32.toBitVec_inj.mp
  rw [Int32.toBitVec_xor]
  show BitVec.ofNat 32 a ^^^ BitVec.ofNat 32 b = BitVec.ofNat 32 (a ^^^ b)
  exact (BitVec.ofNat_xor ..).symm
theorem nI_mul (a b : Nat) : nI a * nI b = nI (a * b) := (Int32.ofNat_mul a b).symm
theorem sh_amt : ∀ n, n < 32 → ((nI n &&& 31).toBitVec.smod 32).toNat = n := by decide +kernel
theorem nI_shl (a : Nat) {n : Nat} (hn : n < 32) : zshl (nI a) (nI n) = nI (a * 2 ^ n) := by
  apply Int32.toBitVec_inj.mp
  unfold zshl
  rw [Int32.toBitVec_shiftLeft]
  show BitVec.ofNat 32 a <<< ((nI n &&& 31).toBitVec.smod 32) = BitVec.ofNat 32 (a * 2 ^ n)
  apply BitVec.eq_of_toNat_eq
  rw [BitVec.shiftLeft_eq', BitVec.toNat_shiftLeft, sh_amt n hn, BitVec.toNat_ofNat, BitVec.toNat_ofNat, Nat.shiftLeft_eq, Nat.mod_mul_mod]
theorem nI_shr {a n : Nat} (ha : a < 2147483648) (hn : n < 32) : zshr (nI a) (nI n) = nI (a >>> n) := by
  apply Int32.toInt_inj.mp
  have h1 : (nI (a >>> n)).toInt = ((a >>> n : Nat) : Int) := nI_toInt (Nat.lt_of_le_of_lt (Nat.shiftRight_le a n) ha)
  rw [h1]
  unfold zshr
  show ((nI a) >>> (nI n &&& 31)).toBitVec.toInt = _
  rw [Int32.toBitVec_shiftRight, BitVec.toInt_sshiftRight', sh_amt n hn]
  have h2 : (nI a).toBitVec.toInt = (a : Int) := nI_toInt ha
  rw [h2]
  rfl
theorem tbit {S i : Nat} (hS : S < 2147483648) (hi : i < 32) : zshr (nI S) (nI i) &&& nI 1 = b2i (S.testBit i) := by
  rw [nI_shr hS hi, nI_and]
  unfold b2i
  rw [Nat.testBit_eq_decide_div_mod_eq, Nat.shiftRight_eq_div_pow]
  have : S / 2 ^ i &&& 1 = S / 2 ^ i % 2 := Nat.and_one_is_mod _
  rw [this]
  rcases Nat.mod_two_eq_zero_or_one (S / 2 ^ i) with h | h <;> rw [h] <;> rfl
-- what is left of a list, once the places of a set are struck out
def remI {α : Type} : List α → Nat → Nat → List α
  | [], _, _ => []
  | x :: l, S, i => if S.testBit i then remI l S (i + 1) else x :: remI l S (i + 1)
def rem {α : Type} (l : List α) (S : Nat) : List α := remI l S 0
/-- how many places below i stand open -/
def cnt (S : Nat) : Nat → Nat
  | 0 => 0
  | i + 1 => cnt S i + if S.testBit i then 0 else 1
theorem remI_step {α : Type} {l : List α} {S i : Nat} (h : i < l.length) : remI (l.drop i) S i = if S.testBit i then remI (l.drop (i + 1)) S (i + 1) else l[i] :: remI (l.drop (i + 1)) S (i + 1) := by
  rw [List.drop_eq_getElem_cons h, remI]
theorem remI_end {α : Type} {l : List α} {S i : Nat} (h : l.length ≤ i) : remI (l.drop i) S i = [] := by
  rw [List.drop_eq_nil_of_le h]
  rfl
theorem remI_len {α : Type} : ∀ (l : List α) (S i : Nat), (remI l S i).length ≤ l.length
  | [], _, _ => Nat.le_refl _
  | x :: l, S, i => by
    unfold remI
    have := remI_len l S (i + 1)
    split
    · simp; omega
    · simp; omega
theorem rem_drop {α : Type} (l : List α) (S : Nat) : ∀ i, i ≤ l.length → remI (l.drop i) S i = (rem l S).drop (cnt S i) := by
  intro i
  induction i with
  | zero => intro _; rfl
  | succ i ih =>
    intro h
    have h1 := ih (by omega)
    rw [remI_step (by omega)] at h1
    unfold cnt
    by_cases b : S.testBit i
    · rw [if_pos b] at h1
      rw [if_pos b, h1, Nat.add_zero]
    · rw [if_neg b] at h1
      rw [if_neg b]
      have h2 : (rem l S).drop (cnt S i + 1) = ((rem l S).drop (cnt S i)).drop 1 := by rw [List.drop_drop]
      rw [h2, ← h1]
      rfl
theorem rem_get {α : Type} {l : List α} {S i : Nat} (h : i < l.length) (b : S.testBit i = false) : (rem l S)[cnt S i]? = some l[i] := by
  have h1 := rem_drop l S i (by omega)
  rw [remI_step h, b] at h1
  have h2 : ((rem l S).drop (cnt S i))[0]? = some l[i] := by
    rw [← h1]
    rfl
  rw [List.getElem?_drop] at h2
  exact h2
theorem cnt_le (S : Nat) : ∀ i, cnt S i ≤ i
  | 0 => Nat.le_refl _
  | i + 1 => by
    have := cnt_le S i
    unfold cnt
    split <;> omega
theorem cnt_add (S i : Nat) : ∀ k, cnt S i ≤ cnt S (i + k)
  | 0 => Nat.le_refl _
  | k + 1 => by
    have := cnt_add S i k
    show cnt S i ≤ cnt S (i + k) + if S.testBit (i + k) then 0 else 1
    split <;> omega
theorem cnt_mono {S i j : Nat} (h : i ≤ j) : cnt S i ≤ cnt S j := by
  obtain ⟨k, rfl⟩ := Nat.le.dest h
  exact cnt_add S i k
theorem remI_all {α : Type} : ∀ (l : List α) (S T i : Nat), (∀ k, i ≤ k → k < i + l.length → S.testBit k = T.testBit k) → remI l S i = remI l T i
  | [], _, _, _, _ => rfl
  | x :: l, S, T, i, h => by
    unfold remI
    rw [h i (Nat.le_refl _) (by simp), remI_all l S T (i + 1) (fun k h1 h2 => h k (by omega) (by simp at h2 ⊢; omega))]
theorem tb_or {S i k : Nat} : (S ||| 2 ^ i).testBit k = (S.testBit k || decide (i = k)) := by
  rw [Nat.testBit_or, Nat.testBit_two_pow]
theorem remI_set {α : Type} : ∀ (l : List α) (S i j : Nat), j < l.length → S.testBit (i + j) = false → remI l (S ||| 2 ^ (i + j)) i = (remI l S i).eraseIdx (remI (l.take j) S i).length
  | [], _, _, _, h, _ => absurd h (Nat.not_lt_zero _)
  | x :: l, S, i, 0, _, hb => by
    rw [Nat.add_zero] at hb ⊢
    unfold remI
    rw [tb_or, hb]
    simp only [decide_true, Bool.or_true, if_true, List.take_zero]
    have : remI l (S ||| 2 ^ i) (i + 1) = remI l S (i + 1) := remI_all l _ _ _ (fun k h1 _ => by rw [tb_or, decide_eq_false (by omega), Bool.or_false])
    rw [this]
    rfl
  | x :: l, S, i, j + 1, h, hb => by
    have ih := remI_set l S (i + 1) j (by simpa using h) (by rw [show i + 1 + j = i + (j + 1) by omega]; exact hb)
    rw [show i + 1 + j = i + (j + 1) by omega] at ih
    rw [List.take_succ_cons]
    unfold remI
    rw [tb_or, decide_eq_false (by omega), Bool.or_false]
    by_cases b : S.testBit i
    · rw [if_pos b, if_pos b, if_pos b, ih]
    · rw [if_neg b, if_neg b, if_neg b, ih, List.length_cons, List.eraseIdx_cons_succ]
theorem remI_take {α : Type} (l : List α) (S : Nat) : ∀ j, j ≤ l.length → (remI (l.take j) S 0).length = cnt S j := by
  intro j hj
  have key : ∀ (l : List α) (i j : Nat), j ≤ l.length → (remI (l.take j) S i).length + cnt S i = cnt S (i + j) := by
    intro l
    induction l with
    | nil =>
      intro i j h
      have : j = 0 := by simpa using h
      subst this
      simp [remI]
    | cons x l ih =>
      intro i j h
      cases j with
      | zero => simp [remI]
      | succ j =>
        rw [List.take_succ_cons, remI]
        have h1 := ih (i + 1) j (by simpa using h)
        rw [show i + (j + 1) = i + 1 + j by omega, ← h1]
        show _ = _ + (cnt S i + if S.testBit i then 0 else 1)
        by_cases b : S.testBit i
        · rw [if_pos b, if_pos b]
          omega
        · rw [if_neg b, if_neg b, List.length_cons]
          omega
  have := key l 0 j hj
  simpa [cnt] using this
theorem rem_set {α : Type} {l : List α} {S j : Nat} (h : j < l.length) (hb : S.testBit j = false) : rem l (S ||| 2 ^ j) = (rem l S).eraseIdx (cnt S j) := by
  have h1 := remI_set l S 0 j h (by rw [Nat.zero_add]; exact hb)
  rw [Nat.zero_add] at h1
  unfold rem
  rw [h1, remI_take l S j (by omega)]
theorem rem_len {α : Type} (l : List α) (S : Nat) : (rem l S).length = cnt S l.length := by
  have := remI_take l S l.length (Nat.le_refl _)
  rw [List.take_length] at this
  exact this
theorem rem_zero {α : Type} (l : List α) : rem l 0 = l := by
  have key : ∀ (l : List α) (i : Nat), remI l 0 i = l := by
    intro l
    induction l with
    | nil => intro i; rfl
    | cons x l ih => intro i; rw [remI, Nat.zero_testBit, ih]; rfl
  exact key l 0
theorem remI_map {α β : Type} (g : α → β) : ∀ (l : List α) (S i : Nat), remI (l.map g) S i = (remI l S i).map g
  | [], _, _ => rfl
  | x :: l, S, i => by
    rw [List.map_cons, remI, remI, remI_map g l]
    split <;> rfl
theorem rem_map {α β : Type} (g : α → β) (l : List α) (S : Nat) : rem (l.map g) S = (rem l S).map g := remI_map g l S 0
-- the game
abbrev P3 : Type := Nat × Int × Int
def wS (s : Nat) (p : P3) : Int := if s = 0 then p.2.1 else p.2.2
def endF (se sp : Nat) : Nat → List Int → Int
  | _, [] => 0
  | k, w :: X => (if k < se then 2 * w else if k < se + sp then w else 0) + endF se sp (k + 1) X
theorem endF_out {se sp : Nat} : ∀ (X : List Int) (k : Nat), se + sp ≤ k → endF se sp k X = 0
  | [], _, _ => rfl
  | w :: X, k, h => by
    rw [endF, endF_out X (k + 1) (by omega), if_neg (by omega), if_neg (by omega)]
    rfl
theorem endF_abs {se sp : Nat} : ∀ (X : List Int) (k : Nat), (∀ w ∈ X, -50 ≤ w ∧ w ≤ 50) → -(100 * (X.length : Int)) ≤ endF se sp k X ∧ endF se sp k X ≤ 100 * (X.length : Int)
  | [], _, _ => by simp [endF]
  | w :: X, k, h => by
    have h1 := endF_abs (se := se) (sp := sp) X (k + 1) (fun y hy => h y (List.mem_cons_of_mem _ hy))
    have h2 := h w List.mem_cons_self
    rw [endF, List.length_cons]
    push_cast
    split
    · omega
    · split <;> omega
def endV (se sp : Nat) (X : List P3) : Int × Int := (endF se sp 0 (X.map (wS 0)), endF se sp 0 (X.map (wS 1)))
def sdV (s : Nat) (v : Int × Int) : Int := if s = 0 then v.1 else v.2
theorem endV_s {se sp s : Nat} {X : List P3} (hs : s < 2) : sdV s (endV se sp X) = endF se sp 0 (X.map (wS s)) := by
  rcases (show s = 0 ∨ s = 1 by omega) with rfl | rfl <;> rfl
def btr (s : Nat) (v b : Int × Int) : Bool := decide (sdV s b < sdV s v ∨ (sdV s v = sdV s b ∧ sdV (1 - s) b < sdV (1 - s) v))
def aft {α : Type} (X : List α) : Option Nat → List α
  | none => X
  | some j => X.eraseIdx j
def pick (v : List P3 → Int × Int) (s : Nat) (X : List P3) : Nat → Nat → Option Nat → Option Nat
  | 0, _, b => b
  | m + 1, j, b => pick v s X m (j + 1) (if btr s (v (X.eraseIdx j)) (v (aft X b)) then some j else b)
def cnd (bx se n : Nat) : Nat := if bx = 1 then min se n else n
def bst (bx se : Nat) (v : List P3 → Int × Int) (s : Nat) (X : List P3) : Option Nat := pick v s X (cnd bx se X.length) 0 none
def VV (bx se sp : Nat) : List Nat → List P3 → Int × Int
  | [], X => endV se sp X
  | s :: ts, X => VV bx se sp ts (aft X (bst bx se (VV bx se sp ts) s X))
