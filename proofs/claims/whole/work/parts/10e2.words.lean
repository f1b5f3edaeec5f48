-- words of acts: four bits a turn
def dgN (x : Int64) (t : Nat) : Nat := (x.toBitVec.toNat >>> (4 * t)) &&& 15
/-- what a word says of turn t -/
def acI (x : Int64) (t : Nat) : Int32 := (zlshr x (nI (4 * t)) &&& (15 : Int64)).toInt32 - nI 1
/-- who is struck, and 1; nobody: 0 -/
def oN : Option Nat → Nat
  | none => 0
  | some i => i + 1
/-- the word once turn t is told in it -/
def wdO (x : Int64) (t : Nat) (o : Option Nat) : Int64 := x ||| zlshl (oI o + nI 1).toInt64 (nI (4 * t))
theorem sl_amt : ∀ n, n < 64 → (((nI n).toInt64 &&& 63).toBitVec.smod 64).toNat = n := by decide +kernel
theorem b15_lsb : ∀ i, i < 64 → ¬ i < 4 → (15#64).getLsbD i = false := by decide +kernel
theorem and15 {x : BitVec 64} {n : Nat} (hn : n + 4 ≤ 64) : (x.sshiftRight n) &&& 15#64 = (x >>> n) &&& 15#64 := by
  apply BitVec.eq_of_getLsbD_eq
  intro i hi
  rw [BitVec.getLsbD_and, BitVec.getLsbD_and, BitVec.getLsbD_sshiftRight, BitVec.getLsbD_ushiftRight]
  by_cases h : i < 4
  · rw [if_pos (by omega), decide_eq_false (by omega)]
    rfl
  · rw [b15_lsb i hi h, Bool.and_false, Bool.and_false]
theorem acI_eq {x : Int64} {t : Nat} (ht : t < 9) : acI x t = nI (dgN x t) - nI 1 := by
  unfold acI
  congr 1
  apply Int32.toBitVec_inj.mp
  unfold zlshr
  rw [Int64.toBitVec_toInt32, Int64.toBitVec_and, Int64.toBitVec_shiftRight, BitVec.sshiftRight_eq', sl_amt _ (by omega)]
  rw [show (15 : Int64).toBitVec = 15#64 from rfl, and15 (by omega), BitVec.signExtend_eq_setWidth_of_le _ (by decide)]
  apply BitVec.eq_of_toNat_eq
  rw [BitVec.toNat_setWidth, BitVec.toNat_and, BitVec.toNat_ushiftRight]
  show _ = (BitVec.ofNat 32 (dgN x t)).toNat
  rw [BitVec.toNat_ofNat]
  rfl
theorem dgN_or {x y : Int64} {t : Nat} : dgN (x ||| y) t = dgN x t ||| dgN y t := by
  unfold dgN
  rw [Int64.toBitVec_or, BitVec.toNat_or, Nat.shiftRight_or_distrib, Nat.and_or_distrib_right]
theorem dgN_0 {t : Nat} : dgN 0 t = 0 := by
  unfold dgN
  rw [show (0 : Int64).toBitVec.toNat = 0 from rfl, Nat.zero_shiftRight]
  rfl
theorem dgN_wd : ∀ v, v < 16 → ∀ t, t < 9 → ∀ u, u < 9 → dgN (zlshl (lN v) (nI (4 * t))) u = if u = t then v else 0 := by decide +kernel
theorem oI_l {o : Option Nat} (h : ∀ i, o = some i → i < 15) : (oI o + nI 1).toInt64 = lN (oN o) := by
  cases o with
  | none => decide +kernel
  | some i => exact (show ∀ i, i < 15 → (nI i + nI 1).toInt64 = lN (i + 1) by decide +kernel) i (h i rfl)
theorem oN_s {o : Option Nat} (h : ∀ i, o = some i → i < 15) : nI (oN o) - nI 1 = oI o := by
  cases o with
  | none => decide +kernel
  | some i => exact (show ∀ i, i < 15 → nI (i + 1) - nI 1 = nI i by decide +kernel) i (h i rfl)
theorem oN_lt {o : Option Nat} (h : ∀ i, o = some i → i < 15) : oN o < 16 := by
  cases o with
  | none => decide
  | some i => have := h i rfl; show i + 1 < 16; omega
theorem dgN_wdO {x : Int64} {t u : Nat} {o : Option Nat} (h : ∀ i, o = some i → i < 15) (ht : t < 9) (hu : u < 9) (hn : u ≠ t) : dgN (wdO x t o) u = dgN x u := by
  unfold wdO
  rw [dgN_or, oI_l h, dgN_wd _ (oN_lt h) t ht u hu, if_neg hn, Nat.or_zero]
theorem acI_at {x : Int64} {t : Nat} {o : Option Nat} (h : ∀ i, o = some i → i < 15) (ht : t < 9) (h0 : dgN x t = 0) : acI (wdO x t o) t = oI o := by
  rw [acI_eq ht]
  unfold wdO
  rw [dgN_or, oI_l h, dgN_wd _ (oN_lt h) t ht t ht, if_pos rfl, h0, Nat.zero_or]
  exact oN_s h
theorem acI_same {x y : Int64} {t : Nat} (ht : t < 9) (h : dgN x t = dgN y t) : acI x t = acI y t := by rw [acI_eq ht, acI_eq ht, h]
-- the heap with other longs
def jR (R : ZH) (J : Nat → Nat → Int64) : ZH := (R.1, J, R.2.2)
theorem Sh.j {R : ZH} {J : Nat → Nat → Int64} (h : Sh R) : Sh (jR R J) := h
theorem jR_j {R : ZH} {J J' : Nat → Nat → Int64} : jR (jR R J) J' = jR R J' := rfl
theorem jR_z {R : ZH} : jR R (zJ R) = R := rfl
theorem zJ_j {R : ZH} {J : Nat → Nat → Int64} : zJ (jR R J) = J := rfl
theorem sJ_j {R : ZH} {a k : Nat} {v : Int64} : sJ R a k v = jR R (zJ (sJ R a k v)) := rfl
theorem sJ_at {R : ZH} {a k : Nat} {v : Int64} : zJ (sJ R a k v) a k = v := if_pos ⟨rfl, rfl⟩
theorem sJ_s {R : ZH} {a k b j : Nat} {v : Int64} (h : j ≠ k) : zJ (sJ R a k v) b j = zJ R b j := if_neg (fun q => h q.2)
theorem sJ_c {R : ZH} {a k b j : Nat} {v : Int64} (h : b ≠ a) : zJ (sJ R a k v) b j = zJ R b j := if_neg (fun q => h q.1)
section Ac
variable {d : Nat} {M : ZM} {R : ZH}
theorem actOf_ {t S : Nat} (ht : t < 9) (hSt : S < 1024) (hS : Sh R) : cal d 220 [.ref 106, .int (nI t), .int (nI S)] M R = some (.inl (some (.int (acI (zJ R 116 S) t))), M, R) := by
  obtain ⟨nN, k106, k107, k108, l108, k109, l109, k110, l110, k111, l111, k112, l112, k113, l113, k114, l114, k115, l115, k116, l116, k117, l117, f106_0, f107_0, f107_1, f109_0, f109_1, f106_1, f112_0, f112_1, f106_2, f106_3, f106_4⟩ := lokF hS
  rw [e220]
  simp (disch := first | assumption | exact nar_b0 | exact nar_b1 | exact nar_b | exact Or.inl rfl | exact Or.inr rfl | exact zin_t (by omega) (by omega) | exact Nat.le_of_ble_eq_true rfl | (rw [nI_cl (by omega)]; assumption) | omega) only [q220_0, q220_1, q220_4, q220_5, q220_6, q220_7, q220_8, q220_9, q220_10, q220_13, q220_14, q220_15, q220_16, q220_17, kl_int, kl_ref, kl_tok, cS_nil, cS_int, cS_ref, cS_long, tl_some, tl_none, List.cons_append, List.nil_append, nI_add, nI_ltb, nI_leb, nI_eqb, nI_cl, zin_nI, nI_mul]
  rfl
end Ac
