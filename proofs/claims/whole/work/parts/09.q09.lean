-- 220 Look.actOf
theorem q220_0 {d : Nat} {lv st : List Value} {M : ZM} {R : ZH} {x : Nat} : exe d 220 0 (.ref x :: lv) (st) M R = exe d 220 1 (.ref x :: lv) (.ref x :: st) (M) (R) := r_next (show decode (zcod 220) 0 = .ok (.aload_n 0, 1) by decide +kernel) (Or.inl rfl) rfl
theorem q220_1 {d : Nat} {lv st : List Value} {M : ZM} {R : ZH} {a b : Nat} (hk : zK R a = 4) (hr : zRf R a 3 = some b) : exe d 220 1 (lv) (.ref a :: st) M R = exe d 220 4 (lv) (.ref b :: st) (M) (R) := r_getR (show decode (zcod 220) 1 = .ok (.getfield 27, 3) by decide +kernel) (show zp (zoc 220) 27 = (1, 3, 3) by decide +kernel) (by decide +kernel) hk hr
theorem q220_4 {d : Nat} {lv st : List Value} {M : ZM} {R : ZH} {v0 v1 : Value} {x : Int32} : exe d 220 4 (v0 :: v1 :: .int x :: lv) (st) M R = exe d 220 5 (v0 :: v1 :: .int x :: lv) (.int x :: st) (M) (R) := r_next (show decode (zcod 220) 4 = .ok (.iload_n 2, 1) by decide +kernel) (Or.inl rfl) rfl
theorem q220_5 {d : Nat} {lv st : List Value} {M : ZM} {R : ZH} {a : Nat} {i : Int32} (hk : zK R a = 14) (hi : zin i (zLn R a) = true) : exe d 220 5 (lv) (.int i :: .ref a :: st) M R = exe d 220 6 (lv) (.long (zJ R a i.toNatClampNeg) :: st) (M) (R) := r_lald (show decode (zcod 220) 5 = .ok (.laload, 1) by decide +kernel) hk hi
theorem q220_6 {d : Nat} {lv st : List Value} {M : ZM} {R : ZH} : exe d 220 6 (lv) (st) M R = exe d 220 7 (lv) (.int (nI 4) :: st) (M) (R) := r_iconst (show decode (zcod 220) 6 = .ok (.iconst 4, 1) by decide +kernel) (by decide +kernel)
theorem q220_7 {d : Nat} {lv st : List Value} {M : ZM} {R : ZH} {v0 : Value} {x : Int32} : exe d 220 7 (v0 :: .int x :: lv) (st) M R = exe d 220 8 (v0 :: .int x :: lv) (.int x :: st) (M) (R) := r_next (show decode (zcod 220) 7 = .ok (.iload_n 1, 1) by decide +kernel) (Or.inl rfl) rfl
theorem q220_8 {d : Nat} {lv st : List Value} {M : ZM} {R : ZH} {x y : Int32} : exe d 220 8 (lv) (.int y :: .int x :: st) M R = exe d 220 9 (lv) (.int (x * y) :: st) (M) (R) := r_next (show decode (zcod 220) 8 = .ok (.imul, 1) by decide +kernel) (Or.inl rfl) rfl
theorem q220_9 {d : Nat} {lv st : List Value} {M : ZM} {R : ZH} {x : Int64} {y : Int32} : exe d 220 9 (lv) (.int y :: .long x :: st) M R = exe d 220 10 (lv) (.long (zlshr x y) :: st) (M) (R) := r_next (show decode (zcod 220) 9 = .ok (.lshr, 1) by decide +kernel) (Or.inl rfl) rfl
theorem q220_10 {d : Nat} {lv st : List Value} {M : ZM} {R : ZH} : exe d 220 10 (lv) (st) M R = exe d 220 13 (lv) (.long (15) :: st) (M) (R) := r_ldc2 (show decode (zcod 220) 10 = .ok (.ldc2_w 63, 3) by decide +kernel) (by decide +kernel)
theorem q220_13 {d : Nat} {lv st : List Value} {M : ZM} {R : ZH} {x y : Int64} : exe d 220 13 (lv) (.long y :: .long x :: st) M R = exe d 220 14 (lv) (.long (x &&& y) :: st) (M) (R) := r_next (show decode (zcod 220) 13 = .ok (.land, 1) by decide +kernel) (Or.inl rfl) rfl
theorem q220_14 {d : Nat} {lv st : List Value} {M : ZM} {R : ZH} {x : Int64} : exe d 220 14 (lv) (.long x :: st) M R = exe d 220 15 (lv) (.int x.toInt32 :: st) (M) (R) := r_next (show decode (zcod 220) 14 = .ok (.l2i, 1) by decide +kernel) (Or.inl rfl) rfl
theorem q220_15 {d : Nat} {lv st : List Value} {M : ZM} {R : ZH} : exe d 220 15 (lv) (st) M R = exe d 220 16 (lv) (.int (nI 1) :: st) (M) (R) := r_iconst (show decode (zcod 220) 15 = .ok (.iconst 1, 1) by decide +kernel) (by decide +kernel)
theorem q220_16 {d : Nat} {lv st : List Value} {M : ZM} {R : ZH} {x y : Int32} : exe d 220 16 (lv) (.int y :: .int x :: st) M R = exe d 220 17 (lv) (.int (x - y) :: st) (M) (R) := r_next (show decode (zcod 220) 16 = .ok (.isub, 1) by decide +kernel) (Or.inl rfl) rfl
theorem q220_17 {d : Nat} {lv : List Value} {M : ZM} {R : ZH} {v : Int32} : exe d 220 17 (lv) ([.int v]) M R = some (.inl (some (.int v)), M, R) := r_iret (show decode (zcod 220) 17 = .ok (.ireturn, 1) by decide +kernel) (show zrt 220 = some .int by decide +kernel) rfl
theorem e220 {d : Nat} {M : ZM} {R : ZH} {a0 : Nat} {a1 : Int32} {a2 : Int32} : cal d 220 [.ref a0, .int a1, .int a2] M R = exe d 220 0 [.ref a0, .int a1, .int a2] [] M R := by
  have hz : zmx 220 = 3 := by decide +kernel
  rw [cal_of (by rw [hz]; exact Nat.le_of_ble_eq_true rfl)]
  unfold zent
  rw [hz]
  rfl
-- 221 Bench.seeField
theorem q221_0 {d : Nat} {lv st : List Value} {M : ZM} {R : ZH} {x : Nat} : exe d 221 0 (.ref x :: lv) (st) M R = exe d 221 1 (.ref x :: lv) (.ref x :: st) (M) (R) := r_next (show decode (zcod 221) 0 = .ok (.aload_n 0, 1) by decide +kernel) (Or.inl rfl) rfl
theorem q221_1 {d : Nat} {lv st : List Value} {M : ZM} {R : ZH} {a : Nat} (hk : zK R a = 7) : exe d 221 1 (lv) (.ref a :: st) M R = exe d 221 4 (lv) (.int (M a 13) :: st) (M) (R) := r_getI (show decode (zcod 221) 1 = .ok (.getfield 299, 3) by decide +kernel) (show zp (zoc 221) 299 = (1, 6, 13) by decide +kernel) (by decide +kernel) hk
theorem q221_4 {d : Nat} {lv st : List Value} {M : ZM} {R : ZH} {x : Int32} : exe d 221 4 (lv) (.int x :: st) M R = if ¬ x = nI 0 then exe d 221 19 (lv) (st) (M) (R) else exe d 221 7 (lv) (st) (M) (R) := r_br (show decode (zcod 221) 4 = .ok (.ifCond .ne 15, 3) by decide +kernel) (Or.inl rfl) rfl (by decide) rfl
theorem q221_7 {d : Nat} {lv st : List Value} {M : ZM} {R : ZH} {x : Nat} : exe d 221 7 (.ref x :: lv) (st) M R = exe d 221 8 (.ref x :: lv) (.ref x :: st) (M) (R) := r_next (show decode (zcod 221) 7 = .ok (.aload_n 0, 1) by decide +kernel) (Or.inl rfl) rfl
theorem q221_8 {d : Nat} {lv st : List Value} {M : ZM} {R : ZH} {a b : Nat} (hk : zK R a = 7) (hr : zRf R a 11 = some b) : exe d 221 8 (lv) (.ref a :: st) M R = exe d 221 11 (lv) (.ref b :: st) (M) (R) := r_getR (show decode (zcod 221) 8 = .ok (.getfield 49, 3) by decide +kernel) (show zp (zoc 221) 49 = (1, 6, 11) by decide +kernel) (by decide +kernel) hk hr
theorem q221_11 {d : Nat} {lv st : List Value} {M : ZM} {R : ZH} {x : Nat} : exe d 221 11 (.ref x :: lv) (st) M R = exe d 221 12 (.ref x :: lv) (.ref x :: st) (M) (R) := r_next (show decode (zcod 221) 11 = .ok (.aload_n 0, 1) by decide +kernel) (Or.inl rfl) rfl
theorem q221_12 {d : Nat} {lv st : List Value} {M : ZM} {R : ZH} {a b : Nat} (hk : zK R a = 7) (hr : zRf R a 4 = some b) : exe d 221 12 (lv) (.ref a :: st) M R = exe d 221 15 (lv) (.ref b :: st) (M) (R) := r_getR (show decode (zcod 221) 12 = .ok (.getfield 16, 3) by decide +kernel) (show zp (zoc 221) 16 = (1, 6, 4) by decide +kernel) (by decide +kernel) hk hr
theorem q221_15 {d : Nat} {lv st : List Value} {M : ZM} {R : ZH} : exe d 221 15 (lv) (st) M R = exe d 221 16 (lv) (.int ((-1)) :: st) (M) (R) := r_iconst (show decode (zcod 221) 15 = .ok (.iconst (-1), 1) by decide +kernel) (by decide +kernel)
theorem q221_16 {d : Nat} {lv st : List Value} {M : ZM} {R : ZH} {w0 w1 : Value} {a : Nat} (hk : zK R a = 3) (hc : cS st ≤ 8) : exe (d + 1) 221 16 (lv) (w1 :: w0 :: .ref a :: st) M R = zk0 (cal d 12 [.ref a, w0, w1] M R) (zN R) (fun v M' R' => exe (d + 1) 221 19 lv (v.toList ++ st) M' R') := r_callV (as := [w0, w1]) (n := 2) (show decode (zcod 221) 16 = .ok (.invokevirtual 302, 3) by decide +kernel) (show zp (zoc 221) 302 = (2, 12, 2) by decide +kernel) (zhn_no 16 (by decide +kernel)) rfl hk hc
theorem q221_19 {d : Nat} {lv : List Value} {M : ZM} {R : ZH} : exe d 221 19 (lv) ([]) M R = some (.inl none, M, R) := r_vret (show decode (zcod 221) 19 = .ok (.return_, 1) by decide +kernel) (by decide +kernel)
theorem e221 {d : Nat} {M : ZM} {R : ZH} {a0 : Nat} : cal d 221 [.ref a0] M R = exe d 221 0 [.ref a0] [] M R := by
  have hz : zmx 221 = 1 := by decide +kernel
  rw [cal_of (by rw [hz]; exact Nat.le_of_ble_eq_true rfl)]
  unfold zent
  rw [hz]
  rfl
