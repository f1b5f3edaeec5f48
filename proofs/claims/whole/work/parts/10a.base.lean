-- LAYER 2, pure. Numbers
theorem nI_ltb {a b : Nat} (ha : a < 2147483648) (hb : b < 2147483648) : (nI a < nI b) = (a < b) := propext (nI_ltI ha hb)
theorem nI_leb {a b : Nat} (ha : a < 2147483648) (hb : b < 2147483648) : (nI a ≤ nI b) = (a ≤ b) := propext (nI_leI ha hb)
theorem nI_eqb {a b : Nat} (ha : a < 2147483648) (hb : b < 2147483648) : (nI a = nI b) = (a = b) := propext (nI_eq ha hb)
theorem nI_cl {k : Nat} (h : k < 2147483648) : (nI k).toNatClampNeg = k := nI_clamp h
theorem zin_nI {k n : Nat} (h : k < 2147483648) : zin (nI k) n = decide (k < n) := by
  unfold zin
  rw [nI_cl h]
  have := nI_pos (n := k) h
  simp [this]
theorem zin_t {k n : Nat} (h : k < 2147483648) (hn : k < n) : zin (nI k) n = true := by
  rw [zin_nI h]
  exact decide_eq_true hn
theorem nI_m1 {k : Nat} (h : k < 2147483648) : (nI k = -1) = False := by
  apply propext
  refine ⟨fun e => ?_, False.elim⟩
  have := congrArg Int32.toInt e
  rw [nI_toInt h] at this
  have h2 : (-1 : Int32).toInt = -1 := by decide +kernel
  rw [h2] at this
  omega
theorem nI_sub1 {k : Nat} (h : 1 ≤ k) : nI k - nI 1 = nI (k - 1) := by
  obtain ⟨j, rfl⟩ : ∃ j, k = j + 1 := ⟨k - 1, by omega⟩
  exact nI_pred j
theorem nar_b0 : narrow .boolean (.int (nI 0)) = .int (nI 0) := by decide +kernel
theorem nar_b1 : narrow .boolean (.int (nI 1)) = .int (nI 1) := by decide +kernel
theorem kl_int {x : Int32} : kl (.int x) = .int x := rfl
theorem kl_ref {x : Nat} : kl (.ref x) = .ref x := rfl
theorem kl_tok : kl tok = tok := rfl
theorem cS_nil : cS [] = 0 := rfl
theorem cS_int {x : Int32} {st : List Value} : cS (.int x :: st) = 1 + cS st := rfl
theorem cS_ref {x : Nat} {st : List Value} : cS (.ref x :: st) = 1 + cS st := rfl
theorem cS_long {x : Int64} {st : List Value} : cS (.long x :: st) = 2 + cS st := rfl
theorem tl_some {v : Value} {st : List Value} : (some v).toList ++ st = v :: st := rfl
theorem tl_none {st : List Value} : (none : Option Value).toList ++ st = st := rfl
theorem up2_at {M : ZM} {a k : Nat} {v : Int32} : up2 M a k v a k = v := if_pos ⟨rfl, rfl⟩
theorem up2_c {M : ZM} {a k b j : Nat} {v : Int32} (h : b ≠ a) : up2 M a k v b j = M b j := if_neg (fun q => h q.1)
theorem up2_s {M : ZM} {a k b j : Nat} {v : Int32} (h : j ≠ k) : up2 M a k v b j = M b j := if_neg (fun q => h q.2)
-- shapes of the cells, once the two objects and the law's long array are made
def shT : List (Nat × Nat) := [(7, 16), (15, 10), (6, 15), (16, 2), (11, 14), (11, 14), (11, 14), (11, 14), (11, 14), (11, 14), (11, 10), (6, 15), (16, 2), (11, 14), (11, 14), (11, 14), (11, 14), (11, 14), (11, 14), (11, 10), (6, 15), (16, 2), (11, 14), (11, 14), (11, 14), (11, 14), (11, 14), (11, 14), (11, 10), (6, 15), (16, 2), (11, 14), (11, 14), (11, 14), (11, 14), (11, 14), (11, 14), (11, 10), (6, 15), (16, 2), (11, 14), (11, 14), (11, 14), (11, 14), (11, 14), (11, 14), (11, 10), (6, 15), (16, 2), (11, 14), (11, 14), (11, 14), (11, 14), (11, 14), (11, 14), (11, 10), (6, 15), (16, 2), (11, 14), (11, 14), (11, 14), (11, 14), (11, 14), (11, 14), (11, 10), (6, 15), (16, 2), (11, 14), (11, 14), (11, 14), (11, 14), (11, 14), (11, 14), (11, 10), (6, 15), (16, 2), (11, 14), (11, 14), (11, 14), (11, 14), (11, 14), (11, 14), (11, 10), (6, 15), (16, 2), (11, 14), (11, 14), (11, 14), (11, 14), (11, 14), (11, 14), (11, 10), (5, 11), (12, 500), (2, 4), (11, 256), (11, 256), (11, 256), (2, 4), (11, 256), (11, 256), (11, 256), (2, 4), (11, 256), (11, 256), (11, 256), (4, 7), (3, 6), (11, 10), (16, 2), (11, 10), (11, 10), (16, 2), (11, 1024), (11, 1024), (11, 2), (14, 1024), (13, 1024), (1, 6), (16, 2), (11, 1024), (11, 1024), (11, 176), (11, 176), (11, 176), (11, 176), (11, 5), (8, 34), (11, 3), (11, 106), (11, 106), (11, 848), (12, 500), (12, 500), (11, 520), (11, 3), (11, 3), (11, 16), (11, 520), (11, 10), (11, 9), (11, 20480), (11, 10240), (13, 9216), (11, 2048), (11, 2048), (14, 1)]
def rfT : List (Nat × Nat × Nat) := [(0, 2, 1), (2, 0, 3), (3, 0, 4), (3, 1, 5), (2, 1, 6), (2, 2, 7), (2, 3, 8), (2, 4, 9), (2, 5, 10), (1, 0, 2), (11, 0, 12), (12, 0, 13), (12, 1, 14), (11, 1, 15), (11, 2, 16), (11, 3, 17), (11, 4, 18), (11, 5, 19), (1, 1, 11), (20, 0, 21), (21, 0, 22), (21, 1, 23), (20, 1, 24), (20, 2, 25), (20, 3, 26), (20, 4, 27), (20, 5, 28), (1, 2, 20), (29, 0, 30), (30, 0, 31), (30, 1, 32), (29, 1, 33), (29, 2, 34), (29, 3, 35), (29, 4, 36), (29, 5, 37), (1, 3, 29), (38, 0, 39), (39, 0, 40), (39, 1, 41), (38, 1, 42), (38, 2, 43), (38, 3, 44), (38, 4, 45), (38, 5, 46), (1, 4, 38), (47, 0, 48), (48, 0, 49), (48, 1, 50), (47, 1, 51), (47, 2, 52), (47, 3, 53), (47, 4, 54), (47, 5, 55), (1, 5, 47), (56, 0, 57), (57, 0, 58), (57, 1, 59), (56, 1, 60), (56, 2, 61), (56, 3, 62), (56, 4, 63), (56, 5, 64), (1, 6, 56), (65, 0, 66), (66, 0, 67), (66, 1, 68), (65, 1, 69), (65, 2, 70), (65, 3, 71), (65, 4, 72), (65, 5, 73), (1, 7, 65), (74, 0, 75), (75, 0, 76), (75, 1, 77), (74, 1, 78), (74, 2, 79), (74, 3, 80), (74, 4, 81), (74, 5, 82), (1, 8, 74), (83, 0, 84), (84, 0, 85), (84, 1, 86), (83, 1, 87), (83, 2, 88), (83, 3, 89), (83, 4, 90), (83, 5, 91), (1, 9, 83), (92, 0, 93), (92, 1, 94), (94, 0, 95), (94, 1, 96), (94, 2, 97), (92, 2, 98), (98, 0, 99), (98, 1, 100), (98, 2, 101), (92, 3, 102), (102, 0, 103), (102, 1, 104), (102, 2, 105), (106, 0, 107), (107, 0, 108), (107, 1, 109), (109, 0, 110), (109, 1, 111), (106, 1, 112), (112, 0, 113), (112, 1, 114), (106, 2, 115), (106, 3, 116), (106, 4, 117), (118, 0, 119), (119, 0, 120), (119, 1, 121), (118, 1, 122), (118, 2, 123), (118, 3, 124), (118, 4, 125), (118, 5, 126), (0, 10, 92), (0, 0, 93), (0, 12, 106), (0, 11, 107), (0, 14, 118), (127, 1, 128), (127, 2, 129), (127, 3, 130), (127, 4, 131), (127, 6, 132), (127, 7, 133), (127, 17, 134), (127, 18, 135), (127, 19, 136), (127, 22, 137), (127, 24, 138), (127, 25, 139), (127, 26, 140), (127, 29, 141), (127, 30, 142), (127, 31, 143), (127, 32, 144), (127, 33, 145)]
def tb (i : Nat) : Nat := 2 + 9 * i
def Sh (R : ZH) : Prop := zN R = 147 ∧ (∀ a, a < 147 → R.2.2.1 a = shT.getD a (0, 0)) ∧ (∀ q ∈ rfT, R.1 q.1 q.2.1 = some q.2.2) ∧ zK R 1000000 = 11 ∧ ∀ j, j < 17 → zK R (1000001 + j) = 9 ∧ zRf R (1000001 + j) 0 = some (1000101 + j) ∧ zK R (1000101 + j) = 12 ∧ zLn R (1000101 + j) = zstL.getD j 0
theorem Sh.N {R : ZH} (h : Sh R) : zN R = 147 := h.1
theorem Sh.K {R : ZH} (h : Sh R) {a k : Nat} (ha : a < 147) (hk : (shT.getD a (0, 0)).1 = k) : zK R a = k := by
  unfold zK
  rw [h.2.1 a ha, hk]
theorem Sh.L {R : ZH} (h : Sh R) {a k : Nat} (ha : a < 147) (hk : (shT.getD a (0, 0)).2 = k) : zLn R a = k := by
  unfold zLn
  rw [h.2.1 a ha, hk]
theorem Sh.F {R : ZH} (h : Sh R) {a k b : Nat} (hm : (a, k, b) ∈ rfT) : zRf R a k = some b := h.2.2.1 (a, k, b) hm
theorem Sh.thr {R : ZH} (h : Sh R) : Sh (thR R) := h
theorem Sh.sJ {R : ZH} (h : Sh R) {a k : Nat} {v : Int64} : Sh (sJ R a k v) := h
theorem Sh.now {R : ZH} (h : Sh R) {v : Option Nat} : Sh (sRf R 0 4 v) := by
  refine ⟨h.1, h.2.1, fun q hq => ?_, h.2.2.2.1, fun j hj => ?_⟩
  · have : ¬ (q.1 = 0 ∧ q.2.1 = 4) := by
      have := List.all_eq_true.mp (show rfT.all (fun q => !(q.1 == 0 && q.2.1 == 4)) = true by decide +kernel) q hq
      intro ⟨g1, g2⟩
      simp [g1, g2] at this
    show (if q.1 = 0 ∧ q.2.1 = 4 then v else R.1 q.1 q.2.1) = _
    rw [if_neg this]
    exact h.2.2.1 q hq
  · obtain ⟨a1, a2, a3⟩ := h.2.2.2.2 j hj
    refine ⟨a1, ?_, a3⟩
    show (if 1000001 + j = 0 ∧ 0 = 4 then v else R.1 (1000001 + j) 0) = _
    rw [if_neg (by omega)]
    exact a2
theorem K0 {R : ZH} (h : Sh R) : zK R 0 = 7 := h.K (by decide) (by decide +kernel)
theorem K1 {R : ZH} (h : Sh R) : zK R 1 = 15 := h.K (by decide) (by decide +kernel)
theorem L1 {R : ZH} (h : Sh R) : zLn R 1 = 10 := h.L (by decide) (by decide +kernel)
theorem K92 {R : ZH} (h : Sh R) : zK R 92 = 5 := h.K (by decide) (by decide +kernel)
theorem K93 {R : ZH} (h : Sh R) : zK R 93 = 12 := h.K (by decide) (by decide +kernel)
theorem L93 {R : ZH} (h : Sh R) : zLn R 93 = 500 := h.L (by decide) (by decide +kernel)
theorem K94 {R : ZH} (h : Sh R) : zK R 94 = 2 := h.K (by decide) (by decide +kernel)
theorem K95 {R : ZH} (h : Sh R) : zK R 95 = 11 := h.K (by decide) (by decide +kernel)
theorem L95 {R : ZH} (h : Sh R) : zLn R 95 = 256 := h.L (by decide) (by decide +kernel)
theorem K96 {R : ZH} (h : Sh R) : zK R 96 = 11 := h.K (by decide) (by decide +kernel)
theorem L96 {R : ZH} (h : Sh R) : zLn R 96 = 256 := h.L (by decide) (by decide +kernel)
theorem K97 {R : ZH} (h : Sh R) : zK R 97 = 11 := h.K (by decide) (by decide +kernel)
theorem L97 {R : ZH} (h : Sh R) : zLn R 97 = 256 := h.L (by decide) (by decide +kernel)
theorem K98 {R : ZH} (h : Sh R) : zK R 98 = 2 := h.K (by decide) (by decide +kernel)
theorem K99 {R : ZH} (h : Sh R) : zK R 99 = 11 := h.K (by decide) (by decide +kernel)
theorem L99 {R : ZH} (h : Sh R) : zLn R 99 = 256 := h.L (by decide) (by decide +kernel)
theorem K100 {R : ZH} (h : Sh R) : zK R 100 = 11 := h.K (by decide) (by decide +kernel)
theorem L100 {R : ZH} (h : Sh R) : zLn R 100 = 256 := h.L (by decide) (by decide +kernel)
theorem K101 {R : ZH} (h : Sh R) : zK R 101 = 11 := h.K (by decide) (by decide +kernel)
theorem L101 {R : ZH} (h : Sh R) : zLn R 101 = 256 := h.L (by decide) (by decide +kernel)
theorem K102 {R : ZH} (h : Sh R) : zK R 102 = 2 := h.K (by decide) (by decide +kernel)
theorem K103 {R : ZH} (h : Sh R) : zK R 103 = 11 := h.K (by decide) (by decide +kernel)
theorem L103 {R : ZH} (h : Sh R) : zLn R 103 = 256 := h.L (by decide) (by decide +kernel)
theorem K104 {R : ZH} (h : Sh R) : zK R 104 = 11 := h.K (by decide) (by decide +kernel)
theorem L104 {R : ZH} (h : Sh R) : zLn R 104 = 256 := h.L (by decide) (by decide +kernel)
theorem K105 {R : ZH} (h : Sh R) : zK R 105 = 11 := h.K (by decide) (by decide +kernel)
theorem L105 {R : ZH} (h : Sh R) : zLn R 105 = 256 := h.L (by decide) (by decide +kernel)
theorem K106 {R : ZH} (h : Sh R) : zK R 106 = 4 := h.K (by decide) (by decide +kernel)
theorem K107 {R : ZH} (h : Sh R) : zK R 107 = 3 := h.K (by decide) (by decide +kernel)
theorem K108 {R : ZH} (h : Sh R) : zK R 108 = 11 := h.K (by decide) (by decide +kernel)
theorem L108 {R : ZH} (h : Sh R) : zLn R 108 = 10 := h.L (by decide) (by decide +kernel)
theorem K109 {R : ZH} (h : Sh R) : zK R 109 = 16 := h.K (by decide) (by decide +kernel)
theorem L109 {R : ZH} (h : Sh R) : zLn R 109 = 2 := h.L (by decide) (by decide +kernel)
theorem K110 {R : ZH} (h : Sh R) : zK R 110 = 11 := h.K (by decide) (by decide +kernel)
theorem L110 {R : ZH} (h : Sh R) : zLn R 110 = 10 := h.L (by decide) (by decide +kernel)
theorem K111 {R : ZH} (h : Sh R) : zK R 111 = 11 := h.K (by decide) (by decide +kernel)
theorem L111 {R : ZH} (h : Sh R) : zLn R 111 = 10 := h.L (by decide) (by decide +kernel)
theorem K112 {R : ZH} (h : Sh R) : zK R 112 = 16 := h.K (by decide) (by decide +kernel)
theorem L112 {R : ZH} (h : Sh R) : zLn R 112 = 2 := h.L (by decide) (by decide +kernel)
theorem K113 {R : ZH} (h : Sh R) : zK R 113 = 11 := h.K (by decide) (by decide +kernel)
theorem L113 {R : ZH} (h : Sh R) : zLn R 113 = 1024 := h.L (by decide) (by decide +kernel)
theorem K114 {R : ZH} (h : Sh R) : zK R 114 = 11 := h.K (by decide) (by decide +kernel)
theorem L114 {R : ZH} (h : Sh R) : zLn R 114 = 1024 := h.L (by decide) (by decide +kernel)
theorem K115 {R : ZH} (h : Sh R) : zK R 115 = 11 := h.K (by decide) (by decide +kernel)
theorem L115 {R : ZH} (h : Sh R) : zLn R 115 = 2 := h.L (by decide) (by decide +kernel)
theorem K116 {R : ZH} (h : Sh R) : zK R 116 = 14 := h.K (by decide) (by decide +kernel)
theorem L116 {R : ZH} (h : Sh R) : zLn R 116 = 1024 := h.L (by decide) (by decide +kernel)
theorem K117 {R : ZH} (h : Sh R) : zK R 117 = 13 := h.K (by decide) (by decide +kernel)
theorem L117 {R : ZH} (h : Sh R) : zLn R 117 = 1024 := h.L (by decide) (by decide +kernel)
theorem K118 {R : ZH} (h : Sh R) : zK R 118 = 1 := h.K (by decide) (by decide +kernel)
theorem K119 {R : ZH} (h : Sh R) : zK R 119 = 16 := h.K (by decide) (by decide +kernel)
theorem L119 {R : ZH} (h : Sh R) : zLn R 119 = 2 := h.L (by decide) (by decide +kernel)
theorem K120 {R : ZH} (h : Sh R) : zK R 120 = 11 := h.K (by decide) (by decide +kernel)
theorem L120 {R : ZH} (h : Sh R) : zLn R 120 = 1024 := h.L (by decide) (by decide +kernel)
theorem K121 {R : ZH} (h : Sh R) : zK R 121 = 11 := h.K (by decide) (by decide +kernel)
theorem L121 {R : ZH} (h : Sh R) : zLn R 121 = 1024 := h.L (by decide) (by decide +kernel)
theorem K122 {R : ZH} (h : Sh R) : zK R 122 = 11 := h.K (by decide) (by decide +kernel)
theorem L122 {R : ZH} (h : Sh R) : zLn R 122 = 176 := h.L (by decide) (by decide +kernel)
theorem K123 {R : ZH} (h : Sh R) : zK R 123 = 11 := h.K (by decide) (by decide +kernel)
theorem L123 {R : ZH} (h : Sh R) : zLn R 123 = 176 := h.L (by decide) (by decide +kernel)
theorem K124 {R : ZH} (h : Sh R) : zK R 124 = 11 := h.K (by decide) (by decide +kernel)
theorem L124 {R : ZH} (h : Sh R) : zLn R 124 = 176 := h.L (by decide) (by decide +kernel)
theorem K125 {R : ZH} (h : Sh R) : zK R 125 = 11 := h.K (by decide) (by decide +kernel)
theorem L125 {R : ZH} (h : Sh R) : zLn R 125 = 176 := h.L (by decide) (by decide +kernel)
theorem K126 {R : ZH} (h : Sh R) : zK R 126 = 11 := h.K (by decide) (by decide +kernel)
theorem L126 {R : ZH} (h : Sh R) : zLn R 126 = 5 := h.L (by decide) (by decide +kernel)
theorem K127 {R : ZH} (h : Sh R) : zK R 127 = 8 := h.K (by decide) (by decide +kernel)
theorem K128 {R : ZH} (h : Sh R) : zK R 128 = 11 := h.K (by decide) (by decide +kernel)
theorem L128 {R : ZH} (h : Sh R) : zLn R 128 = 3 := h.L (by decide) (by decide +kernel)
theorem K129 {R : ZH} (h : Sh R) : zK R 129 = 11 := h.K (by decide) (by decide +kernel)
theorem L129 {R : ZH} (h : Sh R) : zLn R 129 = 106 := h.L (by decide) (by decide +kernel)
theorem K130 {R : ZH} (h : Sh R) : zK R 130 = 11 := h.K (by decide) (by decide +kernel)
theorem L130 {R : ZH} (h : Sh R) : zLn R 130 = 106 := h.L (by decide) (by decide +kernel)
theorem K131 {R : ZH} (h : Sh R) : zK R 131 = 11 := h.K (by decide) (by decide +kernel)
theorem L131 {R : ZH} (h : Sh R) : zLn R 131 = 848 := h.L (by decide) (by decide +kernel)
theorem K132 {R : ZH} (h : Sh R) : zK R 132 = 12 := h.K (by decide) (by decide +kernel)
theorem L132 {R : ZH} (h : Sh R) : zLn R 132 = 500 := h.L (by decide) (by decide +kernel)
theorem K133 {R : ZH} (h : Sh R) : zK R 133 = 12 := h.K (by decide) (by decide +kernel)
theorem L133 {R : ZH} (h : Sh R) : zLn R 133 = 500 := h.L (by decide) (by decide +kernel)
theorem K134 {R : ZH} (h : Sh R) : zK R 134 = 11 := h.K (by decide) (by decide +kernel)
theorem L134 {R : ZH} (h : Sh R) : zLn R 134 = 520 := h.L (by decide) (by decide +kernel)
theorem K135 {R : ZH} (h : Sh R) : zK R 135 = 11 := h.K (by decide) (by decide +kernel)
theorem L135 {R : ZH} (h : Sh R) : zLn R 135 = 3 := h.L (by decide) (by decide +kernel)
theorem K136 {R : ZH} (h : Sh R) : zK R 136 = 11 := h.K (by decide) (by decide +kernel)
theorem L136 {R : ZH} (h : Sh R) : zLn R 136 = 3 := h.L (by decide) (by decide +kernel)
theorem K137 {R : ZH} (h : Sh R) : zK R 137 = 11 := h.K (by decide) (by decide +kernel)
theorem L137 {R : ZH} (h : Sh R) : zLn R 137 = 16 := h.L (by decide) (by decide +kernel)
theorem K138 {R : ZH} (h : Sh R) : zK R 138 = 11 := h.K (by decide) (by decide +kernel)
theorem L138 {R : ZH} (h : Sh R) : zLn R 138 = 520 := h.L (by decide) (by decide +kernel)
theorem K139 {R : ZH} (h : Sh R) : zK R 139 = 11 := h.K (by decide) (by decide +kernel)
theorem L139 {R : ZH} (h : Sh R) : zLn R 139 = 10 := h.L (by decide) (by decide +kernel)
theorem K140 {R : ZH} (h : Sh R) : zK R 140 = 11 := h.K (by decide) (by decide +kernel)
theorem L140 {R : ZH} (h : Sh R) : zLn R 140 = 9 := h.L (by decide) (by decide +kernel)
theorem K141 {R : ZH} (h : Sh R) : zK R 141 = 11 := h.K (by decide) (by decide +kernel)
theorem L141 {R : ZH} (h : Sh R) : zLn R 141 = 20480 := h.L (by decide) (by decide +kernel)
theorem K142 {R : ZH} (h : Sh R) : zK R 142 = 11 := h.K (by decide) (by decide +kernel)
theorem L142 {R : ZH} (h : Sh R) : zLn R 142 = 10240 := h.L (by decide) (by decide +kernel)
theorem K143 {R : ZH} (h : Sh R) : zK R 143 = 13 := h.K (by decide) (by decide +kernel)
theorem L143 {R : ZH} (h : Sh R) : zLn R 143 = 9216 := h.L (by decide) (by decide +kernel)
theorem K144 {R : ZH} (h : Sh R) : zK R 144 = 11 := h.K (by decide) (by decide +kernel)
theorem L144 {R : ZH} (h : Sh R) : zLn R 144 = 2048 := h.L (by decide) (by decide +kernel)
theorem K145 {R : ZH} (h : Sh R) : zK R 145 = 11 := h.K (by decide) (by decide +kernel)
theorem L145 {R : ZH} (h : Sh R) : zLn R 145 = 2048 := h.L (by decide) (by decide +kernel)
theorem K146 {R : ZH} (h : Sh R) : zK R 146 = 14 := h.K (by decide) (by decide +kernel)
theorem L146 {R : ZH} (h : Sh R) : zLn R 146 = 1 := h.L (by decide) (by decide +kernel)
theorem F0_2 {R : ZH} (h : Sh R) : zRf R 0 2 = some 1 := h.F (by decide +kernel)
theorem F92_0 {R : ZH} (h : Sh R) : zRf R 92 0 = some 93 := h.F (by decide +kernel)
theorem F92_1 {R : ZH} (h : Sh R) : zRf R 92 1 = some 94 := h.F (by decide +kernel)
theorem F94_0 {R : ZH} (h : Sh R) : zRf R 94 0 = some 95 := h.F (by decide +kernel)
theorem F94_1 {R : ZH} (h : Sh R) : zRf R 94 1 = some 96 := h.F (by decide +kernel)
theorem F94_2 {R : ZH} (h : Sh R) : zRf R 94 2 = some 97 := h.F (by decide +kernel)
theorem F92_2 {R : ZH} (h : Sh R) : zRf R 92 2 = some 98 := h.F (by decide +kernel)
theorem F98_0 {R : ZH} (h : Sh R) : zRf R 98 0 = some 99 := h.F (by decide +kernel)
theorem F98_1 {R : ZH} (h : Sh R) : zRf R 98 1 = some 100 := h.F (by decide +kernel)
theorem F98_2 {R : ZH} (h : Sh R) : zRf R 98 2 = some 101 := h.F (by decide +kernel)
theorem F92_3 {R : ZH} (h : Sh R) : zRf R 92 3 = some 102 := h.F (by decide +kernel)
theorem F102_0 {R : ZH} (h : Sh R) : zRf R 102 0 = some 103 := h.F (by decide +kernel)
theorem F102_1 {R : ZH} (h : Sh R) : zRf R 102 1 = some 104 := h.F (by decide +kernel)
theorem F102_2 {R : ZH} (h : Sh R) : zRf R 102 2 = some 105 := h.F (by decide +kernel)
theorem F106_0 {R : ZH} (h : Sh R) : zRf R 106 0 = some 107 := h.F (by decide +kernel)
theorem F107_0 {R : ZH} (h : Sh R) : zRf R 107 0 = some 108 := h.F (by decide +kernel)
theorem F107_1 {R : ZH} (h : Sh R) : zRf R 107 1 = some 109 := h.F (by decide +kernel)
theorem F109_0 {R : ZH} (h : Sh R) : zRf R 109 0 = some 110 := h.F (by decide +kernel)
theorem F109_1 {R : ZH} (h : Sh R) : zRf R 109 1 = some 111 := h.F (by decide +kernel)
theorem F106_1 {R : ZH} (h : Sh R) : zRf R 106 1 = some 112 := h.F (by decide +kernel)
theorem F112_0 {R : ZH} (h : Sh R) : zRf R 112 0 = some 113 := h.F (by decide +kernel)
theorem F112_1 {R : ZH} (h : Sh R) : zRf R 112 1 = some 114 := h.F (by decide +kernel)
theorem F106_2 {R : ZH} (h : Sh R) : zRf R 106 2 = some 115 := h.F (by decide +kernel)
theorem F106_3 {R : ZH} (h : Sh R) : zRf R 106 3 = some 116 := h.F (by decide +kernel)
theorem F106_4 {R : ZH} (h : Sh R) : zRf R 106 4 = some 117 := h.F (by decide +kernel)
theorem F118_0 {R : ZH} (h : Sh R) : zRf R 118 0 = some 119 := h.F (by decide +kernel)
theorem F119_0 {R : ZH} (h : Sh R) : zRf R 119 0 = some 120 := h.F (by decide +kernel)
theorem F119_1 {R : ZH} (h : Sh R) : zRf R 119 1 = some 121 := h.F (by decide +kernel)
theorem F118_1 {R : ZH} (h : Sh R) : zRf R 118 1 = some 122 := h.F (by decide +kernel)
theorem F118_2 {R : ZH} (h : Sh R) : zRf R 118 2 = some 123 := h.F (by decide +kernel)
theorem F118_3 {R : ZH} (h : Sh R) : zRf R 118 3 = some 124 := h.F (by decide +kernel)
theorem F118_4 {R : ZH} (h : Sh R) : zRf R 118 4 = some 125 := h.F (by decide +kernel)
theorem F118_5 {R : ZH} (h : Sh R) : zRf R 118 5 = some 126 := h.F (by decide +kernel)
theorem F0_10 {R : ZH} (h : Sh R) : zRf R 0 10 = some 92 := h.F (by decide +kernel)
theorem F0_0 {R : ZH} (h : Sh R) : zRf R 0 0 = some 93 := h.F (by decide +kernel)
theorem F0_12 {R : ZH} (h : Sh R) : zRf R 0 12 = some 106 := h.F (by decide +kernel)
theorem F0_11 {R : ZH} (h : Sh R) : zRf R 0 11 = some 107 := h.F (by decide +kernel)
theorem F0_14 {R : ZH} (h : Sh R) : zRf R 0 14 = some 118 := h.F (by decide +kernel)
theorem F127_1 {R : ZH} (h : Sh R) : zRf R 127 1 = some 128 := h.F (by decide +kernel)
theorem F127_2 {R : ZH} (h : Sh R) : zRf R 127 2 = some 129 := h.F (by decide +kernel)
theorem F127_3 {R : ZH} (h : Sh R) : zRf R 127 3 = some 130 := h.F (by decide +kernel)
theorem F127_4 {R : ZH} (h : Sh R) : zRf R 127 4 = some 131 := h.F (by decide +kernel)
theorem F127_6 {R : ZH} (h : Sh R) : zRf R 127 6 = some 132 := h.F (by decide +kernel)
theorem F127_7 {R : ZH} (h : Sh R) : zRf R 127 7 = some 133 := h.F (by decide +kernel)
theorem F127_17 {R : ZH} (h : Sh R) : zRf R 127 17 = some 134 := h.F (by decide +kernel)
theorem F127_18 {R : ZH} (h : Sh R) : zRf R 127 18 = some 135 := h.F (by decide +kernel)
theorem F127_19 {R : ZH} (h : Sh R) : zRf R 127 19 = some 136 := h.F (by decide +kernel)
theorem F127_22 {R : ZH} (h : Sh R) : zRf R 127 22 = some 137 := h.F (by decide +kernel)
theorem F127_24 {R : ZH} (h : Sh R) : zRf R 127 24 = some 138 := h.F (by decide +kernel)
theorem F127_25 {R : ZH} (h : Sh R) : zRf R 127 25 = some 139 := h.F (by decide +kernel)
theorem F127_26 {R : ZH} (h : Sh R) : zRf R 127 26 = some 140 := h.F (by decide +kernel)
theorem F127_29 {R : ZH} (h : Sh R) : zRf R 127 29 = some 141 := h.F (by decide +kernel)
theorem F127_30 {R : ZH} (h : Sh R) : zRf R 127 30 = some 142 := h.F (by decide +kernel)
theorem F127_31 {R : ZH} (h : Sh R) : zRf R 127 31 = some 143 := h.F (by decide +kernel)
theorem F127_32 {R : ZH} (h : Sh R) : zRf R 127 32 = some 144 := h.F (by decide +kernel)
theorem F127_33 {R : ZH} (h : Sh R) : zRf R 127 33 = some 145 := h.F (by decide +kernel)
theorem Kt0 {R : ZH} (h : Sh R) {i : Nat} (hi : i < 10) : zK R (tb i) = 6 := h.K (by unfold tb; omega) ((show ∀ i, i < 10 → (shT.getD (2 + 9 * i + 0) (0, 0)).1 = 6 by decide +kernel) i hi)
theorem Kt1 {R : ZH} (h : Sh R) {i : Nat} (hi : i < 10) : zK R (tb i + 1) = 16 := h.K (by unfold tb; omega) ((show ∀ i, i < 10 → (shT.getD (2 + 9 * i + 1) (0, 0)).1 = 16 by decide +kernel) i hi)
theorem Lt1 {R : ZH} (h : Sh R) {i : Nat} (hi : i < 10) : zLn R (tb i + 1) = 2 := h.L (by unfold tb; omega) ((show ∀ i, i < 10 → (shT.getD (2 + 9 * i + 1) (0, 0)).2 = 2 by decide +kernel) i hi)
theorem Kt2 {R : ZH} (h : Sh R) {i : Nat} (hi : i < 10) : zK R (tb i + 2) = 11 := h.K (by unfold tb; omega) ((show ∀ i, i < 10 → (shT.getD (2 + 9 * i + 2) (0, 0)).1 = 11 by decide +kernel) i hi)
theorem Lt2 {R : ZH} (h : Sh R) {i : Nat} (hi : i < 10) : zLn R (tb i + 2) = 14 := h.L (by unfold tb; omega) ((show ∀ i, i < 10 → (shT.getD (2 + 9 * i + 2) (0, 0)).2 = 14 by decide +kernel) i hi)
theorem Kt3 {R : ZH} (h : Sh R) {i : Nat} (hi : i < 10) : zK R (tb i + 3) = 11 := h.K (by unfold tb; omega) ((show ∀ i, i < 10 → (shT.getD (2 + 9 * i + 3) (0, 0)).1 = 11 by decide +kernel) i hi)
theorem Lt3 {R : ZH} (h : Sh R) {i : Nat} (hi : i < 10) : zLn R (tb i + 3) = 14 := h.L (by unfold tb; omega) ((show ∀ i, i < 10 → (shT.getD (2 + 9 * i + 3) (0, 0)).2 = 14 by decide +kernel) i hi)
theorem Kt4 {R : ZH} (h : Sh R) {i : Nat} (hi : i < 10) : zK R (tb i + 4) = 11 := h.K (by unfold tb; omega) ((show ∀ i, i < 10 → (shT.getD (2 + 9 * i + 4) (0, 0)).1 = 11 by decide +kernel) i hi)
theorem Lt4 {R : ZH} (h : Sh R) {i : Nat} (hi : i < 10) : zLn R (tb i + 4) = 14 := h.L (by unfold tb; omega) ((show ∀ i, i < 10 → (shT.getD (2 + 9 * i + 4) (0, 0)).2 = 14 by decide +kernel) i hi)
theorem Kt5 {R : ZH} (h : Sh R) {i : Nat} (hi : i < 10) : zK R (tb i + 5) = 11 := h.K (by unfold tb; omega) ((show ∀ i, i < 10 → (shT.getD (2 + 9 * i + 5) (0, 0)).1 = 11 by decide +kernel) i hi)
theorem Lt5 {R : ZH} (h : Sh R) {i : Nat} (hi : i < 10) : zLn R (tb i + 5) = 14 := h.L (by unfold tb; omega) ((show ∀ i, i < 10 → (shT.getD (2 + 9 * i + 5) (0, 0)).2 = 14 by decide +kernel) i hi)
theorem Kt6 {R : ZH} (h : Sh R) {i : Nat} (hi : i < 10) : zK R (tb i + 6) = 11 := h.K (by unfold tb; omega) ((show ∀ i, i < 10 → (shT.getD (2 + 9 * i + 6) (0, 0)).1 = 11 by decide +kernel) i hi)
theorem Lt6 {R : ZH} (h : Sh R) {i : Nat} (hi : i < 10) : zLn R (tb i + 6) = 14 := h.L (by unfold tb; omega) ((show ∀ i, i < 10 → (shT.getD (2 + 9 * i + 6) (0, 0)).2 = 14 by decide +kernel) i hi)
theorem Kt7 {R : ZH} (h : Sh R) {i : Nat} (hi : i < 10) : zK R (tb i + 7) = 11 := h.K (by unfold tb; omega) ((show ∀ i, i < 10 → (shT.getD (2 + 9 * i + 7) (0, 0)).1 = 11 by decide +kernel) i hi)
theorem Lt7 {R : ZH} (h : Sh R) {i : Nat} (hi : i < 10) : zLn R (tb i + 7) = 14 := h.L (by unfold tb; omega) ((show ∀ i, i < 10 → (shT.getD (2 + 9 * i + 7) (0, 0)).2 = 14 by decide +kernel) i hi)
theorem Kt8 {R : ZH} (h : Sh R) {i : Nat} (hi : i < 10) : zK R (tb i + 8) = 11 := h.K (by unfold tb; omega) ((show ∀ i, i < 10 → (shT.getD (2 + 9 * i + 8) (0, 0)).1 = 11 by decide +kernel) i hi)
theorem Lt8 {R : ZH} (h : Sh R) {i : Nat} (hi : i < 10) : zLn R (tb i + 8) = 10 := h.L (by unfold tb; omega) ((show ∀ i, i < 10 → (shT.getD (2 + 9 * i + 8) (0, 0)).2 = 10 by decide +kernel) i hi)
theorem Ft0_0 {R : ZH} (h : Sh R) {i : Nat} (hi : i < 10) : zRf R (tb i) 0 = some (tb i + 1) := h.F ((show ∀ i, i < 10 → (2 + 9 * i + 0, 0, 2 + 9 * i + 1) ∈ rfT by decide +kernel) i hi)
theorem Ft1_0 {R : ZH} (h : Sh R) {i : Nat} (hi : i < 10) : zRf R (tb i + 1) 0 = some (tb i + 2) := h.F ((show ∀ i, i < 10 → (2 + 9 * i + 1, 0, 2 + 9 * i + 2) ∈ rfT by decide +kernel) i hi)
theorem Ft1_1 {R : ZH} (h : Sh R) {i : Nat} (hi : i < 10) : zRf R (tb i + 1) 1 = some (tb i + 3) := h.F ((show ∀ i, i < 10 → (2 + 9 * i + 1, 1, 2 + 9 * i + 3) ∈ rfT by decide +kernel) i hi)
theorem Ft0_1 {R : ZH} (h : Sh R) {i : Nat} (hi : i < 10) : zRf R (tb i) 1 = some (tb i + 4) := h.F ((show ∀ i, i < 10 → (2 + 9 * i + 0, 1, 2 + 9 * i + 4) ∈ rfT by decide +kernel) i hi)
theorem Ft0_2 {R : ZH} (h : Sh R) {i : Nat} (hi : i < 10) : zRf R (tb i) 2 = some (tb i + 5) := h.F ((show ∀ i, i < 10 → (2 + 9 * i + 0, 2, 2 + 9 * i + 5) ∈ rfT by decide +kernel) i hi)
theorem Ft0_3 {R : ZH} (h : Sh R) {i : Nat} (hi : i < 10) : zRf R (tb i) 3 = some (tb i + 6) := h.F ((show ∀ i, i < 10 → (2 + 9 * i + 0, 3, 2 + 9 * i + 6) ∈ rfT by decide +kernel) i hi)
theorem Ft0_4 {R : ZH} (h : Sh R) {i : Nat} (hi : i < 10) : zRf R (tb i) 4 = some (tb i + 7) := h.F ((show ∀ i, i < 10 → (2 + 9 * i + 0, 4, 2 + 9 * i + 7) ∈ rfT by decide +kernel) i hi)
theorem Ft0_5 {R : ZH} (h : Sh R) {i : Nat} (hi : i < 10) : zRf R (tb i) 5 = some (tb i + 8) := h.F ((show ∀ i, i < 10 → (2 + 9 * i + 0, 5, 2 + 9 * i + 8) ∈ rfT by decide +kernel) i hi)
theorem F1t {R : ZH} (h : Sh R) {i : Nat} (hi : i < 10) : zRf R 1 i = some (tb i) := h.F ((show ∀ i, i < 10 → (1, i, 2 + 9 * i) ∈ rfT by decide +kernel) i hi)
theorem KX {R : ZH} (h : Sh R) : zK R 1000000 = 11 := h.2.2.2.1
theorem KS {R : ZH} (h : Sh R) {j : Nat} (hj : j < 17) : zK R (1000001 + j) = 9 := (h.2.2.2.2 j hj).1
theorem FS_ {R : ZH} (h : Sh R) {j : Nat} (hj : j < 17) : zRf R (1000001 + j) 0 = some (1000101 + j) := (h.2.2.2.2 j hj).2.1
theorem KB {R : ZH} (h : Sh R) {j : Nat} (hj : j < 17) : zK R (1000101 + j) = 12 := (h.2.2.2.2 j hj).2.2.1
theorem LB {R : ZH} (h : Sh R) {j : Nat} (hj : j < 17) : zLn R (1000101 + j) = zstL.getD j 0 := (h.2.2.2.2 j hj).2.2.2
