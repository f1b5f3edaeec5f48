theorem tabF {R : ZH} (hS : Sh R) {i : Nat} (hi : i < 10) : zN R = 147 ∧ tb i + 8 < 147 ∧ zK R (tb i) = 6 ∧ zK R (tb i + 1) = 16 ∧ zLn R (tb i + 1) = 2 ∧ zK R (tb i + 2) = 11 ∧ zLn R (tb i + 2) = 14 ∧ zK R (tb i + 3) = 11 ∧ zLn R (tb i + 3) = 14 ∧ zK R (tb i + 4) = 11 ∧ zLn R (tb i + 4) = 14 ∧ zK R (tb i + 5) = 11 ∧ zLn R (tb i + 5) = 14 ∧ zK R (tb i + 6) = 11 ∧ zLn R (tb i + 6) = 14 ∧ zK R (tb i + 7) = 11 ∧ zLn R (tb i + 7) = 14 ∧ zK R (tb i + 8) = 11 ∧ zLn R (tb i + 8) = 10 ∧ zRf R (tb i) 0 = some (tb i + 1) ∧ zRf R (tb i + 1) 0 = some (tb i + 2) ∧ zRf R (tb i + 1) 1 = some (tb i + 3) ∧ zRf R (tb i) 1 = some (tb i + 4) ∧ zRf R (tb i) 2 = some (tb i + 5) ∧ zRf R (tb i) 3 = some (tb i + 6) ∧ zRf R (tb i) 4 = some (tb i + 7) ∧ zRf R (tb i) 5 = some (tb i + 8) := ⟨hS.1, by unfold tb; omega, Kt0 hS hi, Kt1 hS hi, Lt1 hS hi, Kt2 hS hi, Lt2 hS hi, Kt3 hS hi, Lt3 hS hi, Kt4 hS hi, Lt4 hS hi, Kt5 hS hi, Lt5 hS hi, Kt6 hS hi, Lt6 hS hi, Kt7 hS hi, Lt7 hS hi, Kt8 hS hi, Lt8 hS hi, Ft0_0 hS hi, Ft1_0 hS hi, Ft1_1 hS hi, Ft0_1 hS hi, Ft0_2 hS hi, Ft0_3 hS hi, Ft0_4 hS hi, Ft0_5 hS hi⟩
theorem benF {R : ZH} (hS : Sh R) : zN R = 147 ∧ zK R 0 = 7 ∧ zK R 1 = 15 ∧ zLn R 1 = 10 ∧ zRf R 0 2 = some 1 ∧ zRf R 0 10 = some 92 ∧ zRf R 0 0 = some 93 ∧ zRf R 0 12 = some 106 ∧ zRf R 0 11 = some 107 ∧ zRf R 0 14 = some 118 := ⟨hS.1, K0 hS, K1 hS, L1 hS, F0_2 hS, F0_10 hS, F0_0 hS, F0_12 hS, F0_11 hS, F0_14 hS⟩
theorem parF {R : ZH} (hS : Sh R) : zN R = 147 ∧ zK R 92 = 5 ∧ zK R 93 = 12 ∧ zLn R 93 = 500 ∧ zK R 94 = 2 ∧ zK R 95 = 11 ∧ zLn R 95 = 256 ∧ zK R 96 = 11 ∧ zLn R 96 = 256 ∧ zK R 97 = 11 ∧ zLn R 97 = 256 ∧ zK R 98 = 2 ∧ zK R 99 = 11 ∧ zLn R 99 = 256 ∧ zK R 100 = 11 ∧ zLn R 100 = 256 ∧ zK R 101 = 11 ∧ zLn R 101 = 256 ∧ zK R 102 = 2 ∧ zK R 103 = 11 ∧ zLn R 103 = 256 ∧ zK R 104 = 11 ∧ zLn R 104 = 256 ∧ zK R 105 = 11 ∧ zLn R 105 = 256 ∧ zRf R 92 0 = some 93 ∧ zRf R 92 1 = some 94 ∧ zRf R 94 0 = some 95 ∧ zRf R 94 1 = some 96 ∧ zRf R 94 2 = some 97 ∧ zRf R 92 2 = some 98 ∧ zRf R 98 0 = some 99 ∧ zRf R 98 1 = some 100 ∧ zRf R 98 2 = some 101 ∧ zRf R 92 3 = some 102 ∧ zRf R 102 0 = some 103 ∧ zRf R 102 1 = some 104 ∧ zRf R 102 2 = some 105 := ⟨hS.1, K92 hS, K93 hS, L93 hS, K94 hS, K95 hS, L95 hS, K96 hS, L96 hS, K97 hS, L97 hS, K98 hS, K99 hS, L99 hS, K100 hS, L100 hS, K101 hS, L101 hS, K102 hS, K103 hS, L103 hS, K104 hS, L104 hS, K105 hS, L105 hS, F92_0 hS, F92_1 hS, F94_0 hS, F94_1 hS, F94_2 hS, F92_2 hS, F98_0 hS, F98_1 hS, F98_2 hS, F92_3 hS, F102_0 hS, F102_1 hS, F102_2 hS⟩
theorem lokF {R : ZH} (hS : Sh R) : zN R = 147 ∧ zK R 106 = 4 ∧ zK R 107 = 3 ∧ zK R 108 = 11 ∧ zLn R 108 = 10 ∧ zK R 109 = 16 ∧ zLn R 109 = 2 ∧ zK R 110 = 11 ∧ zLn R 110 = 10 ∧ zK R 111 = 11 ∧ zLn R 111 = 10 ∧ zK R 112 = 16 ∧ zLn R 112 = 2 ∧ zK R 113 = 11 ∧ zLn R 113 = 1024 ∧ zK R 114 = 11 ∧ zLn R 114 = 1024 ∧ zK R 115 = 11 ∧ zLn R 115 = 2 ∧ zK R 116 = 14 ∧ zLn R 116 = 1024 ∧ zK R 117 = 13 ∧ zLn R 117 = 1024 ∧ zRf R 106 0 = some 107 ∧ zRf R 107 0 = some 108 ∧ zRf R 107 1 = some 109 ∧ zRf R 109 0 = some 110 ∧ zRf R 109 1 = some 111 ∧ zRf R 106 1 = some 112 ∧ zRf R 112 0 = some 113 ∧ zRf R 112 1 = some 114 ∧ zRf R 106 2 = some 115 ∧ zRf R 106 3 = some 116 ∧ zRf R 106 4 = some 117 := ⟨hS.1, K106 hS, K107 hS, K108 hS, L108 hS, K109 hS, L109 hS, K110 hS, L110 hS, K111 hS, L111 hS, K112 hS, L112 hS, K113 hS, L113 hS, K114 hS, L114 hS, K115 hS, L115 hS, K116 hS, L116 hS, K117 hS, L117 hS, F106_0 hS, F107_0 hS, F107_1 hS, F109_0 hS, F109_1 hS, F106_1 hS, F112_0 hS, F112_1 hS, F106_2 hS, F106_3 hS, F106_4 hS⟩
theorem fldF {R : ZH} (hS : Sh R) : zN R = 147 ∧ zK R 107 = 3 ∧ zK R 108 = 11 ∧ zLn R 108 = 10 ∧ zK R 109 = 16 ∧ zLn R 109 = 2 ∧ zK R 110 = 11 ∧ zLn R 110 = 10 ∧ zK R 111 = 11 ∧ zLn R 111 = 10 ∧ zRf R 107 0 = some 108 ∧ zRf R 107 1 = some 109 ∧ zRf R 109 0 = some 110 ∧ zRf R 109 1 = some 111 := ⟨hS.1, K107 hS, K108 hS, L108 hS, K109 hS, L109 hS, K110 hS, L110 hS, K111 hS, L111 hS, F107_0 hS, F107_1 hS, F109_0 hS, F109_1 hS⟩
theorem oncF {R : ZH} (hS : Sh R) : zN R = 147 ∧ zK R 118 = 1 ∧ zK R 119 = 16 ∧ zLn R 119 = 2 ∧ zK R 120 = 11 ∧ zLn R 120 = 1024 ∧ zK R 121 = 11 ∧ zLn R 121 = 1024 ∧ zK R 122 = 11 ∧ zLn R 122 = 176 ∧ zK R 123 = 11 ∧ zLn R 123 = 176 ∧ zK R 124 = 11 ∧ zLn R 124 = 176 ∧ zK R 125 = 11 ∧ zLn R 125 = 176 ∧ zK R 126 = 11 ∧ zLn R 126 = 5 ∧ zRf R 118 0 = some 119 ∧ zRf R 119 0 = some 120 ∧ zRf R 119 1 = some 121 ∧ zRf R 118 1 = some 122 ∧ zRf R 118 2 = some 123 ∧ zRf R 118 3 = some 124 ∧ zRf R 118 4 = some 125 ∧ zRf R 118 5 = some 126 := ⟨hS.1, K118 hS, K119 hS, L119 hS, K120 hS, L120 hS, K121 hS, L121 hS, K122 hS, L122 hS, K123 hS, L123 hS, K124 hS, L124 hS, K125 hS, L125 hS, K126 hS, L126 hS, F118_0 hS, F119_0 hS, F119_1 hS, F118_1 hS, F118_2 hS, F118_3 hS, F118_4 hS, F118_5 hS⟩
theorem modF {R : ZH} (hS : Sh R) : zN R = 147 ∧ zK R 127 = 8 ∧ zK R 128 = 11 ∧ zLn R 128 = 3 ∧ zK R 129 = 11 ∧ zLn R 129 = 106 ∧ zK R 130 = 11 ∧ zLn R 130 = 106 ∧ zK R 131 = 11 ∧ zLn R 131 = 848 ∧ zK R 132 = 12 ∧ zLn R 132 = 500 ∧ zK R 133 = 12 ∧ zLn R 133 = 500 ∧ zK R 134 = 11 ∧ zLn R 134 = 520 ∧ zK R 135 = 11 ∧ zLn R 135 = 3 ∧ zK R 136 = 11 ∧ zLn R 136 = 3 ∧ zK R 137 = 11 ∧ zLn R 137 = 16 ∧ zK R 138 = 11 ∧ zLn R 138 = 520 ∧ zK R 139 = 11 ∧ zLn R 139 = 10 ∧ zK R 140 = 11 ∧ zLn R 140 = 9 ∧ zK R 141 = 11 ∧ zLn R 141 = 20480 ∧ zK R 142 = 11 ∧ zLn R 142 = 10240 ∧ zK R 143 = 13 ∧ zLn R 143 = 9216 ∧ zK R 144 = 11 ∧ zLn R 144 = 2048 ∧ zK R 145 = 11 ∧ zLn R 145 = 2048 ∧ zK R 146 = 14 ∧ zLn R 146 = 1 ∧ zRf R 127 1 = some 128 ∧ zRf R 127 2 = some 129 ∧ zRf R 127 3 = some 130 ∧ zRf R 127 4 = some 131 ∧ zRf R 127 6 = some 132 ∧ zRf R 127 7 = some 133 ∧ zRf R 127 17 = some 134 ∧ zRf R 127 18 = some 135 ∧ zRf R 127 19 = some 136 ∧ zRf R 127 22 = some 137 ∧ zRf R 127 24 = some 138 ∧ zRf R 127 25 = some 139 ∧ zRf R 127 26 = some 140 ∧ zRf R 127 29 = some 141 ∧ zRf R 127 30 = some 142 ∧ zRf R 127 31 = some 143 ∧ zRf R 127 32 = some 144 ∧ zRf R 127 33 = some 145 := ⟨hS.1, K127 hS, K128 hS, L128 hS, K129 hS, L129 hS, K130 hS, L130 hS, K131 hS, L131 hS, K132 hS, L132 hS, K133 hS, L133 hS, K134 hS, L134 hS, K135 hS, L135 hS, K136 hS, L136 hS, K137 hS, L137 hS, K138 hS, L138 hS, K139 hS, L139 hS, K140 hS, L140 hS, K141 hS, L141 hS, K142 hS, L142 hS, K143 hS, L143 hS, K144 hS, L144 hS, K145 hS, L145 hS, K146 hS, L146 hS, F127_1 hS, F127_2 hS, F127_3 hS, F127_4 hS, F127_6 hS, F127_7 hS, F127_17 hS, F127_18 hS, F127_19 hS, F127_22 hS, F127_24 hS, F127_25 hS, F127_26 hS, F127_29 hS, F127_30 hS, F127_31 hS, F127_32 hS, F127_33 hS⟩
-- small methods of the JDK
theorem oeq {x : Option Value ⊕ String} {M M' : ZM} {R : ZH} (h : M = M') : some (x, M, R) = some (x, M', R) := by rw [h]
def pop : Nat → Nat → Nat
  | 0, _ => 0
  | n + 1, S => pop n S + if S.testBit n then 1 else 0
def bcI (x : Int32) : Int32 :=
  let a := x - (zushr x (nI 1) &&& 1431655765)
  let b := (a &&& 858993459) + (zushr a (nI 2) &&& 858993459)
  let c := (b + zushr b (nI 4)) &&& 252645135
  let e := c + zushr c (nI 8)
  let g := e + zushr e (nI 16)
  g &&& nI 63
theorem bcI_ok : (List.range 1024).all (fun S => decide (bcI (nI S) = nI (pop 10 S))) = true := by decide +kernel
theorem bitCount_ {d S : Nat} {M : ZM} {R : ZH} (h : S < 1024) : cal d 191 [.int (nI S)] M R = some (.inl (some (.int (nI (pop 10 S)))), M, R) := by
  have hb := List.all_eq_true.mp bcI_ok S (List.mem_range.mpr h)
  have hb2 : bcI (nI S) = nI (pop 10 S) := by simpa using hb
  rw [e191]
  simp (disch := first | assumption | exact nar_b0 | exact nar_b1 | exact zin_t (by omega) (by omega) | exact Nat.le_of_ble_eq_true rfl | omega) only [q191_0, q191_1, q191_2, q191_3, q191_4, q191_7, q191_8, q191_9, q191_10, q191_11, q191_14, q191_15, q191_16, q191_17, q191_18, q191_21, q191_22, q191_23, q191_24, q191_25, q191_26, q191_27, q191_28, q191_29, q191_32, q191_33, q191_34, q191_35, q191_36, q191_38, q191_39, q191_40, q191_41, q191_42, q191_43, q191_45, q191_46, q191_47, q191_48, q191_49, q191_51, q191_52, kl_int, kl_ref, kl_tok, cS_nil, cS_int, cS_ref, cS_long, tl_some, tl_none, List.cons_append, List.nil_append, nI_add, nI_ltb, nI_leb, nI_eqb, nI_cl, zin_nI]
  rw [← hb2]
  rfl
theorem fill_L {d a n : Nat} {x : Int32} {R : ZH} (hk : zK R a = 11) (hn : zLn R a = n) (hN : n < 2147483648) (ha : a < zN R) : ∀ (m k : Nat) (M : ZM), k + m = n → exe d 198 5 [.ref a, .int x, .int (nI k), .int (nI n)] [] M R = some (.inl none, (fun b j => if b = a ∧ k ≤ j ∧ j < n then x else M b j), R) := by
  intro m
  induction m with
  | zero =>
    intro k M hkm
    rw [q198_5]
    simp (disch := first | assumption | exact nar_b0 | exact nar_b1 | exact zin_t (by omega) (by omega) | exact Nat.le_of_ble_eq_true rfl | omega) only [q198_0, q198_1, q198_2, q198_3, q198_4, q198_6, q198_7, q198_10, q198_11, q198_12, q198_13, q198_14, q198_17, q198_20, kl_int, kl_ref, kl_tok, cS_nil, cS_int, cS_ref, cS_long, tl_some, tl_none, List.cons_append, List.nil_append, nI_add, nI_ltb, nI_leb, nI_eqb, nI_cl, zin_nI]
    rw [if_pos (by omega)]
    refine oeq (funext fun b => funext fun j => ?_)
    rw [if_neg (by omega)]
  | succ m ih =>
    intro k M hkm
    rw [q198_5]
    simp (disch := first | assumption | exact nar_b0 | exact nar_b1 | exact zin_t (by omega) (by omega) | exact Nat.le_of_ble_eq_true rfl | omega) only [q198_0, q198_1, q198_2, q198_3, q198_4, q198_6, q198_7, q198_10, q198_11, q198_12, q198_13, q198_14, q198_17, q198_20, kl_int, kl_ref, kl_tok, cS_nil, cS_int, cS_ref, cS_long, tl_some, tl_none, List.cons_append, List.nil_append, nI_add, nI_ltb, nI_leb, nI_eqb, nI_cl, zin_nI, ih]
    rw [if_neg (by omega)]
    refine oeq (funext fun b => funext fun j => ?_)
    unfold up2
    by_cases h1 : b = a ∧ k + 1 ≤ j ∧ j < n
    · rw [if_pos h1, if_pos (by omega)]
    · rw [if_neg h1]
      by_cases h2 : b = a ∧ j = k
      · rw [if_pos h2, if_pos (by omega)]
      · rw [if_neg h2, if_neg (by omega)]
def filM (M : ZM) (a n : Nat) (x : Int32) : ZM := fun b j => if b = a ∧ j < n then x else M b j
theorem fill_ {d a n : Nat} {x : Int32} {M : ZM} {R : ZH} (hk : zK R a = 11) (hn : zLn R a = n) (hN : n < 2147483648) (ha : a < zN R) : cal d 198 [.ref a, .int x] M R = some (.inl none, filM M a n x, R) := by
  rw [e198]
  simp (disch := first | assumption | exact nar_b0 | exact nar_b1 | exact zin_t (by omega) (by omega) | exact Nat.le_of_ble_eq_true rfl | omega) only [q198_0, q198_1, q198_2, q198_3, q198_4, q198_6, q198_7, q198_10, q198_11, q198_12, q198_13, q198_14, q198_17, q198_20, kl_int, kl_ref, kl_tok, cS_nil, cS_int, cS_ref, cS_long, tl_some, tl_none, List.cons_append, List.nil_append, nI_add, nI_ltb, nI_leb, nI_eqb, nI_cl, zin_nI, hn]
  rw [fill_L hk hn hN ha n 0 M (by omega)]
  refine oeq (funext fun b => funext fun j => ?_)
  unfold filM
  simp
-- the reference's row of 106 ints
def jn (f : Nat → Int32) : Nat := (f 0).toNatClampNeg
def tn (f : Nat → Int32) : Nat := (f 1).toNatClampNeg
def sn (f : Nat → Int32) : Nat := (f 2).toNatClampNeg
def pn (f : Nat → Int32) : Nat := (f 3).toNatClampNeg
def bn (f : Nat → Int32) : Nat := (f 4).toNatClampNeg
def lf (f : Nat → Int32) : Nat := (f 5).toNatClampNeg
def bs (f : Nat → Int32) : Nat := (f 6).toNatClampNeg
def ln (f : Nat → Int32) : Nat := (f 7).toNatClampNeg
def rw (f : Nat → Int32) (k : Nat) : Nat := (f (92 + k)).toNatClampNeg
def stk (f : Nat → Int32) (k : Nat) : Bool := decide (f (78 + k) ≠ -1)
def ctB (p : Nat → Bool) : Nat → Nat
  | 0 => 0
  | n + 1 => ctB p n + if p n then 1 else 0
def exn (f : Nat → Int32) : Nat := ctB (fun k => decide (f (64 + k) ≠ -1)) (jn f)
def pers (f : Nat → Int32) (k : Nat) : P3 := (k, (f (8 + 4 * k)).toInt, (f (9 + 4 * k)).toInt)
def Wf (f : Nat → Int32) : Prop :=
  ((f 0 = nI (jn f) ∧ jn f ≤ 10) ∧ (f 1 = nI (tn f) ∧ tn f ≤ 4) ∧ (f 2 = nI (sn f) ∧ 1 ≤ sn f ∧ sn f ≤ 6) ∧ (f 3 = nI (pn f) ∧ pn f ≤ 3) ∧ (f 4 = nI (bn f) ∧ bn f ≤ 1) ∧ (f 5 = nI (lf f) ∧ lf f ≤ 8) ∧ (f 6 = nI (bs f) ∧ bs f < 2 ^ lf f) ∧ (f 7 = nI (ln f) ∧ ln f ≤ 10)) ∧
  (∀ k, k < jn f + tn f → (-50 ≤ (f (8 + 4 * k)).toInt ∧ (f (8 + 4 * k)).toInt ≤ 50) ∧ (-50 ≤ (f (9 + 4 * k)).toInt ∧ (f (9 + 4 * k)).toInt ≤ 50)) ∧
  (∀ i, i < ln f → f (92 + i) = nI (rw f i) ∧ rw f i < jn f + tn f) ∧ (∀ i j, i < j → j < ln f → rw f i < rw f j) ∧ (∀ k, k < 14 → stk f k = true → ∃ i, i < ln f ∧ rw f i = k)
def TabRel (M : ZM) (i : Nat) (f : Nat → Int32) : Prop :=
  (M (tb i) 6 = f 0 ∧ M (tb i) 7 = f 1 ∧ M (tb i) 8 = nI (exn f) ∧ M (tb i) 9 = f 7 ∧ M (tb i) 10 = f 2 ∧ M (tb i) 11 = f 3 ∧ M (tb i) 12 = f 4 ∧ M (tb i) 13 = f 5 ∧ M (tb i) 14 = f 6) ∧
  (∀ k, k < jn f + tn f → M (tb i + 2) k = f (8 + 4 * k) ∧ M (tb i + 3) k = f (9 + 4 * k) ∧ M (tb i + 4) k = f (10 + 4 * k) ∧ M (tb i + 5) k = f (11 + 4 * k)) ∧
  (∀ k, k < 14 → M (tb i + 6) k = f (64 + k) ∧ M (tb i + 7) k = f (78 + k)) ∧ (∀ k, k < ln f → M (tb i + 8) k = f (92 + k))
-- methods of Table that only read
def plc (r : Nat → Int32) (x : Int32) : Nat → Nat → Option Nat
  | 0, _ => none
  | m + 1, k => if r k = x then some k else plc r x m (k + 1)
def oI : Option Nat → Int32
  | none => -1
  | some k => nI k
section Tab
variable {d i : Nat} {M : ZM} {R : ZH} {f : Nat → Int32}
theorem placeInRow_L {x : Int32} {r : Nat → Int32} {n : Nat} (hS : Sh R) (hi : i < 10) (hn : n ≤ 10) (h9 : M (tb i) 9 = nI n) (hr : ∀ k, k < n → M (tb i + 8) k = r k) : ∀ (m k : Nat), k + m = n → exe d 60 2 [.ref (tb i), .int x, .int (nI k)] [] M R = some (.inl (some (.int (oI (plc r x m k)))), M, R) := by
  intro m
  obtain ⟨nN, tlt, kt0, kt1, lt1, kt2, lt2, kt3, lt3, kt4, lt4, kt5, lt5, kt6, lt6, kt7, lt7, kt8, lt8, ft0_0, ft1_0, ft1_1, ft0_1, ft0_2, ft0_3, ft0_4, ft0_5⟩ := tabF hS hi
  induction m with
  | zero =>
    intro k hk
    rw [q60_2]
    simp (disch := first | assumption | exact nar_b0 | exact nar_b1 | exact zin_t (by omega) (by omega) | exact Nat.le_of_ble_eq_true rfl | omega) only [q60_0, q60_1, q60_3, q60_4, q60_7, q60_10, q60_11, q60_14, q60_15, q60_16, q60_17, q60_20, q60_21, q60_22, q60_25, q60_28, q60_29, kl_int, kl_ref, kl_tok, cS_nil, cS_int, cS_ref, cS_long, tl_some, tl_none, List.cons_append, List.nil_append, nI_add, nI_ltb, nI_leb, nI_eqb, nI_cl, zin_nI, h9]
    rw [if_pos (by omega)]
    rfl
  | succ m ih =>
    intro k hk
    rw [q60_2]
    simp (disch := first | assumption | exact nar_b0 | exact nar_b1 | exact zin_t (by omega) (by omega) | exact Nat.le_of_ble_eq_true rfl | omega) only [q60_0, q60_1, q60_3, q60_4, q60_7, q60_10, q60_11, q60_14, q60_15, q60_16, q60_17, q60_20, q60_21, q60_22, q60_25, q60_28, q60_29, kl_int, kl_ref, kl_tok, cS_nil, cS_int, cS_ref, cS_long, tl_some, tl_none, List.cons_append, List.nil_append, nI_add, nI_ltb, nI_leb, nI_eqb, nI_cl, zin_nI, h9, hr, ih]
    rw [if_neg (by omega), plc]
    by_cases e : r k = x
    · simp [e, oI]
    · simp [e]
theorem placeInRow_ {x : Int32} (hS : Sh R) (hi : i < 10) (hW : Wf f) (hT : TabRel M i f) : cal d 60 [.ref (tb i), .int x] M R = some (.inl (some (.int (oI (plc (fun k => f (92 + k)) x (ln f) 0)))), M, R) := by
  rw [e60]
  have h := placeInRow_L (d := d) (x := x) (r := fun k => f (92 + k)) hS hi hW.1.2.2.2.2.2.2.2.2 (by rw [hT.1.2.2.2.1, ← hW.1.2.2.2.2.2.2.2.1]) hT.2.2.2 (ln f) 0 (by omega)
  simp (disch := first | assumption | exact nar_b0 | exact nar_b1 | exact zin_t (by omega) (by omega) | exact Nat.le_of_ble_eq_true rfl | omega) only [q60_0, q60_1, q60_3, q60_4, q60_7, q60_10, q60_11, q60_14, q60_15, q60_16, q60_17, q60_20, q60_21, q60_22, q60_25, q60_28, q60_29, kl_int, kl_ref, kl_tok, cS_nil, cS_int, cS_ref, cS_long, tl_some, tl_none, List.cons_append, List.nil_append, nI_add, nI_ltb, nI_leb, nI_eqb, nI_cl, zin_nI, h]
theorem isStruck_ {k : Nat} (hS : Sh R) (hi : i < 10) (hT : TabRel M i f) (hk : k < 14) : cal d 61 [.ref (tb i), .int (nI k)] M R = some (.inl (some (.int (b2i (stk f k)))), M, R) := by
  obtain ⟨nN, tlt, kt0, kt1, lt1, kt2, lt2, kt3, lt3, kt4, lt4, kt5, lt5, kt6, lt6, kt7, lt7, kt8, lt8, ft0_0, ft1_0, ft1_1, ft0_1, ft0_2, ft0_3, ft0_4, ft0_5⟩ := tabF hS hi
  rw [e61]
  simp (disch := first | assumption | exact nar_b0 | exact nar_b1 | exact zin_t (by omega) (by omega) | exact Nat.le_of_ble_eq_true rfl | omega) only [q61_0, q61_1, q61_4, q61_5, q61_7, q61_10, q61_11, q61_14, q61_15, q61_16, q61_17, q61_20, q61_21, q61_24, q61_25, kl_int, kl_ref, kl_tok, cS_nil, cS_int, cS_ref, cS_long, tl_some, tl_none, List.cons_append, List.nil_append, nI_add, nI_ltb, nI_leb, nI_eqb, nI_cl, zin_nI, (hT.2.2.1 k hk).2]
  rw [if_neg (by omega), if_neg (by omega)]
  unfold stk b2i
  by_cases e : f (78 + k) = -1 <;> simp [e]
theorem people_ (hS : Sh R) (hi : i < 10) (hW : Wf f) (hT : TabRel M i f) : cal d 56 [.ref (tb i)] M R = some (.inl (some (.int (nI (jn f + tn f)))), M, R) := by
  obtain ⟨nN, tlt, kt0, kt1, lt1, kt2, lt2, kt3, lt3, kt4, lt4, kt5, lt5, kt6, lt6, kt7, lt7, kt8, lt8, ft0_0, ft1_0, ft1_1, ft0_1, ft0_2, ft0_3, ft0_4, ft0_5⟩ := tabF hS hi
  rw [e56]
  simp (disch := first | assumption | exact nar_b0 | exact nar_b1 | exact zin_t (by omega) (by omega) | exact Nat.le_of_ble_eq_true rfl | omega) only [q56_0, q56_1, q56_4, q56_5, q56_8, q56_9, kl_int, kl_ref, kl_tok, cS_nil, cS_int, cS_ref, cS_long, tl_some, tl_none, List.cons_append, List.nil_append, nI_add, nI_ltb, nI_leb, nI_eqb, nI_cl, zin_nI, hT.1.1, hT.1.2.1, hW.1.1.1, hW.1.2.1.1]
end Tab
