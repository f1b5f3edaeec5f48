-- class and reference, call by call
theorem MS.frC {M M' : ZM} {G : GS} (h : MS M G) (hf : FrC M M') : MS M' G := h.fr (fun c hc => hf c (by omega)) (by rw [hf _ (by decide)]) (by rw [hf _ (by decide)]) (by rw [hf _ (by decide)])
theorem CS.frM {M M' : ZM} {R : ZH} {i : Nat} {G : GS} (h : CS M R i G) (hf : FrM M M') : CS M' R i G := by
  obtain ⟨⟨a1, a2, a3, a4⟩, b, c1, c2, c3, c4⟩ := h
  refine ⟨⟨a1, fun j hj => ?_, a3, a4⟩, ?_, ?_, ?_, ?_, ?_⟩
  · rw [hf _ (Or.inr (by omega)), hf _ (Or.inr (by omega))]; exact a2 j hj
  · rw [hf 0 (Or.inl (by decide))]; exact b
  · intro k hk; rw [hf 93 (Or.inl (by decide))]; exact c1 k hk
  · exact c2.frame (fun c h2 h3 => hf c (Or.inl (by have := tb_lt a4; omega)))
  · intro j hj
    exact (c3 j hj).frame (fun c h2 h3 => hf c (Or.inl (by have := tb_lt (ring_lt (i := i) (n := (gK G).length) (j := j)); omega)))
  · refine ⟨?_, ?_⟩
    · rw [hf 0 (Or.inl (by decide))]; exact c4.1.imp id (fun ⟨p, q⟩ => ⟨p, q.fr (fun c h1 h2 => hf c (Or.inl (by omega)))⟩)
    · rw [hf 0 (Or.inl (by decide))]; exact c4.2.imp id (fun ⟨p, q⟩ => ⟨p, q.fr (hf _ (Or.inl (by decide)))⟩)
theorem LkR.j {M : ZM} {J J' : Nat → Nat → Int64} {f : Nat → Int32} (h : LkR M J f) (hJ : ∀ k, J' 116 k = J 116 k) : LkR M J' f := by
  obtain ⟨h1, h2, h3, h4, h5⟩ := h
  refine ⟨h1, h2, h3, fun t ht S' g1 g2 => ?_, h5⟩
  rw [hJ]
  exact h4 t ht S' g1 g2
theorem CS.sJ {M : ZM} {R : ZH} {i a k : Nat} {v : Int64} {G : GS} (ha : 116 ≠ a) (h : CS M R i G) : CS M (sJ R a k v) i G := by
  obtain ⟨a1, b, c1, c2, c3, c4⟩ := h
  exact ⟨a1, b, c1, c2, c3, c4.1.imp id (fun ⟨p, q⟩ => ⟨p, q.j (fun k => sJ_c ha)⟩), c4.2⟩
theorem CS.fo {M : ZM} {R : ZH} {i : Nat} {G : GS} (h : CS M R i G) : FO M := h.1.2.1
def PairO (d : Nat) (M : ZM) (R : ZH) (G : GS) (cm mo : Nat) (as : List Value) (al : List (Nat × Nat)) : Prop := ∃ c e v G', OutC (cal (d + 28) cm (.ref 0 :: as) M R) M R c e v G' ∧ (c = 0 ∨ (e, c) ∈ al) ∧ WG G' ∧ ∀ M1 R1, Sh R1 → FO M1 → MS M1 G → OutM (cal (d + 29) mo (.ref 127 :: as) M1 R1) M1 R1 c v G'
section Pa
variable {d i : Nat} {M : ZM} {R : ZH} {G : GS}
theorem pr_text (hW : WG G) (hC : CS M R i G) (x : Int32) : PairO d M R G 69 138 [.int x] [(1, 1)] := by
  by_cases hx : ∃ n, n ≤ gT G ∧ x = nI n
  · obtain ⟨n, hn, rfl⟩ := hx
    cases hp : pText (gB G) n with
    | inl f =>
      obtain ⟨k, p⟩ := f
      exact ⟨0, 0, _, _, c_text_k (d := d + 4) hn hp hW hC, Or.inl rfl, WG.tx hW, fun M1 R1 hS hF hM => m_text_k (d := d + 3) hn hp hS hF hW hM⟩
    | inr P =>
      obtain ⟨⟨h1, h2⟩, h3⟩ := c_text_t (d := d + 4) hn hp hW hC
      exact ⟨0, 0, _, _, h3, Or.inl rfl, hW.txg h1, fun M1 R1 hS hF hM => m_text_t (d := d + 3) hn hp h1 h2 hS hF hW hM⟩
  · exact ⟨1, 1, nI 0, _, c_text_f (d := d + 4) hx hW hC, Or.inr (by decide), hW, fun M1 R1 hS hF hM => m_text_f (d := d + 3) hx hS hW hM⟩
theorem may_lf {f : Nat → Int32} {k : Nat} (h : may f k = true) : 0 < lf f := by
  unfold may at h
  rw [Bool.and_eq_true] at h
  exact of_decide_eq_true h.1
theorem pr_strike (hW : WG G) (hC : CS M R i G) (x : Int32) : PairO d M R G 71 159 [.int x] [(0, 1), (2, 2)] := by
  cases hx : plI (gF G) x with
  | none => exact ⟨1, 0, nI 0, _, c_strike_f1 (d := d + 24) hx hW hC, Or.inr (by decide), hW, fun M1 R1 hS hF hM => m_strike_f1 (d := d + 22) hx hS hW hM⟩
  | some p =>
    cases hm : may (gF G) (rw (gF G) p)
    · exact ⟨2, 2, nI 0, _, c_strike_f2 (d := d + 24) hx hm hW hC, Or.inr (by decide), hW, fun M1 R1 hS hF hM => m_strike_f2 (d := d + 22) hx hm hS hW hM⟩
    · exact ⟨0, 0, _, _, c_strike_t (d := d + 24) hx hm hW hC, Or.inl rfl, hW.ac (hW.1.st (may_lf hm) (plI_some hW.1 hx).1), fun M1 R1 hS hF hM => m_strike_t (d := d + 22) hx hm hS hW hM⟩
theorem pr_pass (hW : WG G) (hC : CS M R i G) : PairO d M R G 72 160 [] [(2, 1)] := by
  by_cases h : lf (gF G) = 0
  · exact ⟨1, 2, nI 0, _, c_pass_f (d := d + 24) h hW hC, Or.inr (by decide), hW, fun M1 R1 hS hF hM => m_pass_f (d := d + 22) h hS hW hM⟩
  · have h0 : 0 < lf (gF G) := by omega
    exact ⟨0, 0, _, _, c_pass_t (d := d + 24) h0 hW hC, Or.inl rfl, hW.ac (hW.1.pa h0), fun M1 R1 hS hF hM => m_pass_t (d := d + 22) h0 hS hW hM⟩
theorem pr_rule (hW : WG G) (hC : CS M R i G) (x y : Int32) : PairO d M R G 73 161 [.int x, .int y] [(1, 1)] := by
  by_cases hx : ∃ w n, x = nI w ∧ y = nI n ∧ isRu w n
  · obtain ⟨w, n, rfl, rfl, h⟩ := hx
    exact ⟨0, 0, _, _, c_rule_t (d := d + 24) h hW hC, Or.inl rfl, hW.ac (hW.1.ru h), fun M1 R1 hS hF hM => m_rule_t (d := d + 22) h hS hW hM⟩
  · exact ⟨1, 1, nI 0, _, c_rule_f (d := d + 24) hx hC, Or.inr (by decide), hW, fun M1 R1 hS hF hM => m_rule_f (d := d + 22) hx hS hM⟩
theorem pr_order (hW : WG G) (hC : CS M R i G) (x y : Int32) : PairO d M R G 74 162 [.int x, .int y] [(1, 1)] := by
  by_cases hx : isOr x y
  · obtain ⟨n, b, rfl, rfl, h1, h2⟩ := hx
    exact ⟨0, 0, _, _, c_order_t (d := d + 24) h1 h2 hW hC, Or.inl rfl, hW.ac (hW.1.or h1 h2), fun M1 R1 hS hF hM => m_order_t (d := d + 22) h1 h2 hS hW hM⟩
  · exact ⟨1, 1, nI 0, _, c_order_f (d := d + 24) hx hC, Or.inr (by decide), hW, fun M1 R1 hS hF hM => m_order_f (d := d + 22) hx hS hM⟩
theorem pr_told (hW : WG G) (hC : CS M R i G) (x : Int32) : PairO d M R G 76 165 [.int x] [(1, 1)] := by
  by_cases hx : ∃ k, k < 12 ∧ x = nI k
  · obtain ⟨k, hk, rfl⟩ := hx
    exact ⟨0, 0, _, _, c_told_t (d := d + 24) hk hW hC, Or.inl rfl, hW, fun M1 R1 hS hF hM => m_told_t (d := d + 22) hk hS hW hM⟩
  · exact ⟨1, 1, nI 0, _, c_told_f (d := d + 24) hx hC, Or.inr (by decide), hW, fun M1 R1 hS hF hM => m_told_f (d := d + 22) hx hS hM⟩
theorem pr_juror (hW : WG G) (hC : CS M R i G) (x y : Int32) : PairO d M R G 77 166 [.int x, .int y] [(0, 1), (1, 2)] := by
  by_cases hx : ∃ k, k < jn (gF G) + tn (gF G) ∧ x = nI k
  · obtain ⟨k, hk, rfl⟩ := hx
    by_cases hy : ∃ w, w < 8 ∧ y = nI w
    · obtain ⟨w, hw, rfl⟩ := hy
      exact ⟨0, 0, _, _, c_juror_t (d := d + 24) hk hw hW hC, Or.inl rfl, hW, fun M1 R1 hS hF hM => m_juror_t (d := d + 22) hk hw hS hW hM⟩
    · exact ⟨2, 1, nI 0, _, c_juror_f2 (d := d + 24) hk hy hW hC, Or.inr (by decide), hW, fun M1 R1 hS hF hM => m_juror_f2 (d := d + 22) hk hy hS hW hM⟩
  · exact ⟨1, 0, nI 0, _, c_juror_f1 (d := d + 24) hx hW hC, Or.inr (by decide), hW, fun M1 R1 hS hF hM => m_juror_f1 (d := d + 22) hx hS hW hM⟩
theorem pr_seat (hW : WG G) (hC : CS M R i G) (x : Int32) (b : Bool) : PairO d M R G 78 167 [.int x, .int (b2i b)] [(1, 1)] := by
  by_cases hx : x < nI 0
  · exact ⟨1, 1, nI 0, _, c_seat_f (d := d + 24) hx hC, Or.inr (by decide), hW, fun M1 R1 hS hF hM => m_seat_f (d := d + 22) hx hS hM⟩
  · obtain ⟨k, hk, rfl⟩ := nneg hx
    exact ⟨0, 0, _, _, c_seat_t (d := d + 24) hk hW hC, Or.inl rfl, hW, fun M1 R1 hS hF hM => m_seat_t (d := d + 22) hk hS hW hM⟩
theorem pr_turn (hW : WG G) (hC : CS M R i G) (x : Int32) : PairO d M R G 79 168 [.int x] [(0, 1)] := by
  by_cases hx : ∃ k, k < lf (gF G) ∧ x = nI k
  · obtain ⟨k, hk, rfl⟩ := hx
    exact ⟨0, 0, _, _, c_turn_t (d := d + 24) hk hW hC, Or.inl rfl, hW, fun M1 R1 hS hF hM => m_turn_t (d := d + 22) hk hS hW hM⟩
  · exact ⟨1, 0, nI 0, _, c_turn_f (d := d + 24) hx hW hC, Or.inr (by decide), hW, fun M1 R1 hS hF hM => m_turn_f (d := d + 22) hx hS hW hM⟩
theorem pr_worth (hW : WG G) (hC : CS M R i G) (x : Int32) : PairO d M R G 80 170 [.int x] [(1, 1)] := by
  by_cases hx : ∃ k, k < 2 ∧ x = nI k
  · obtain ⟨k, hk, rfl⟩ := hx
    exact ⟨0, 0, _, _, c_worth_t (d := d + 24) hk hW hC, Or.inl rfl, hW, fun M1 R1 hS hF hM => m_worth_t (d := d + 22) hk hS hW hM⟩
  · obtain ⟨h0, h1⟩ := side_iff.mpr hx
    exact ⟨1, 1, nI 0, _, c_worth_f (d := d + 24) h0 h1 hC, Or.inr (by decide), hW, fun M1 R1 hS hF hM => m_worth_f (d := d + 22) hx hS hM⟩
theorem pr_value (hW : WG G) (hC : CS M R i G) (x : Int32) : PairO d M R G 81 171 [.int x] [(1, 1)] := by
  by_cases hx : ∃ k, k < 2 ∧ x = nI k
  · obtain ⟨k, hk, rfl⟩ := hx
    exact ⟨0, 0, _, _, c_value_t (d := d + 24) hk hW hC, Or.inl rfl, hW, fun M1 R1 hS hF hM => m_value_t (d := d + 22) hk hS hW hM⟩
  · obtain ⟨h0, h1⟩ := side_iff.mpr hx
    exact ⟨1, 1, nI 0, _, c_value_f (d := d + 24) h0 h1 hC, Or.inr (by decide), hW, fun M1 R1 hS hF hM => m_value_f (d := d + 22) hx hS hM⟩
theorem pr_line (hW : WG G) (hC : CS M R i G) (x : Int32) : PairO d M R G 83 174 [.int x] [(1, 1)] := by
  by_cases hx : x < nI 0
  · exact ⟨1, 1, nI 0, _, c_line_f (d := d + 24) hx hC, Or.inr (by decide), hW, fun M1 R1 hS hF hM => m_line_f (d := d + 21) hx hS hM⟩
  · obtain ⟨k, hk, rfl⟩ := nneg hx
    exact ⟨0, 0, _, _, c_line_t (d := d + 24) hk hW hC, Or.inl rfl, hW, fun M1 R1 hS hF hM => m_line_t (d := d + 21) hk hS hW hM⟩
theorem pr_cost (hW : WG G) (hC : CS M R i G) (x : Int32) : PairO d M R G 84 175 [.int x] [(0, 1), (2, 2)] := by
  by_cases h1 : x = -1
  · subst h1
    by_cases h : lf (gF G) = 0
    · exact ⟨2, 2, nI 0, _, c_cost_f3 (d := d + 23) h hW hC, Or.inr (by decide), hW, fun M1 R1 hS hF hM => m_cost_f3 (d := d + 22) h hS hW hM⟩
    · have h0 : 0 < lf (gF G) := by omega
      exact ⟨0, 0, _, _, c_cost_n (d := d + 23) h0 hW hC, Or.inl rfl, hW, fun M1 R1 hS hF hM => m_cost_n (d := d + 22) h0 hS hW hM⟩
  · cases hx : plI (gF G) x with
    | none => exact ⟨1, 0, nI 0, _, c_cost_f1 (d := d + 23) hx h1 hW hC, Or.inr (by decide), hW, fun M1 R1 hS hF hM => m_cost_f1 (d := d + 22) hx h1 hS hW hM⟩
    | some p =>
      cases hm : may (gF G) (rw (gF G) p)
      · exact ⟨2, 2, nI 0, _, c_cost_f2 (d := d + 23) hx hm hW hC, Or.inr (by decide), hW, fun M1 R1 hS hF hM => m_cost_f2 (d := d + 22) hx hm hS hW hM⟩
      · exact ⟨0, 0, _, _, c_cost_t (d := d + 23) hx hm hW hC, Or.inl rfl, hW, fun M1 R1 hS hF hM => m_cost_t (d := d + 22) hx hm hS hW hM⟩
theorem pr_more (hW : WG G) (hC : CS M R i G) (x : Int32) (b : Bool) : PairO d M R G 86 177 [.int x, .int (b2i b)] [(1, 1)] := by
  by_cases hx : ∃ k, k < 2 ∧ x = nI k
  · obtain ⟨k, hk, rfl⟩ := hx
    exact ⟨0, 0, _, _, c_more_t (d := d + 24) hk hW hC, Or.inl rfl, hW, fun M1 R1 hS hF hM => m_more_t (d := d + 22) hk hS hW hM⟩
  · obtain ⟨h0, h1⟩ := side_iff.mpr hx
    exact ⟨1, 1, nI 0, _, c_more_f (d := d + 24) h0 h1 hC, Or.inr (by decide), hW, fun M1 R1 hS hF hM => m_more_f (d := d + 22) hx hS hM⟩
theorem pr_other (hW : WG G) (hC : CS M R i G) (x y : Int32) : PairO d M R G 87 178 [.int x, .int y] [(0, 1), (1, 2)] := by
  by_cases hy : ∃ k, k < lf (gF G) ∧ y = nI k
  · obtain ⟨k, hk, rfl⟩ := hy
    by_cases hx : ∃ k, k < 2 ∧ x = nI k
    · obtain ⟨s, hs, rfl⟩ := hx
      exact ⟨0, 0, _, _, c_other_t (d := d + 24) hs hk hW hC, Or.inl rfl, hW, fun M1 R1 hS hF hM => m_other_t (d := d + 22) hs hk hS hW hM⟩
    · obtain ⟨h0, h1⟩ := side_iff.mpr hx
      exact ⟨2, 1, nI 0, _, c_other_f2 (d := d + 24) hk h0 h1 hW hC, Or.inr (by decide), hW, fun M1 R1 hS hF hM => m_other_f2 (d := d + 22) hk hx hS hW hM⟩
  · exact ⟨1, 0, nI 0, _, c_other_f1 (d := d + 24) hy hW hC, Or.inr (by decide), hW, fun M1 R1 hS hF hM => m_other_f1 (d := d + 22) hy hS hW hM⟩
theorem pr_wo (hW : WG G) (hC : CS M R i G) (y x : Int32) : PairO d M R G 88 179 [.int y, .int x] [(0, 1), (1, 2), (2, 3)] := by
  cases hx : plI (gF G) x with
  | none => exact ⟨1, 0, nI 0, _, c_wo_f1 (d := d + 24) hx hW hC, Or.inr (by decide), hW, fun M1 R1 hS hF hM => m_wo_f1 (d := d + 22) hx hS hW hM⟩
  | some p =>
    by_cases hy : ∃ k, k < 2 ∧ y = nI k
    · obtain ⟨s, hs, rfl⟩ := hy
      cases hu : stk (gF G) (rw (gF G) p)
      · exact ⟨0, 0, _, _, c_wo_t (d := d + 24) hs hx hu hW hC, Or.inl rfl, hW, fun M1 R1 hS hF hM => m_wo_t (d := d + 22) hs hx hu hS hW hM⟩
      · exact ⟨3, 2, nI 0, _, c_wo_f3 (d := d + 24) hs hx hu hW hC, Or.inr (by decide), hW, fun M1 R1 hS hF hM => m_wo_f3 (d := d + 22) hs hx hu hS hW hM⟩
    · obtain ⟨h0, h1⟩ := side_iff.mpr hy
      exact ⟨2, 1, nI 0, _, c_wo_f2 (d := d + 24) hx h0 h1 hW hC, Or.inr (by decide), hW, fun M1 R1 hS hF hM => m_wo_f2 (d := d + 22) hx hy hS hW hM⟩
theorem pr_plain (hW : WG G) (hC : CS M R i G) (x y : Int32) : PairO d M R G 89 181 [.int x, .int y] [(1, 1)] := by
  by_cases hx : ∃ k, k < 2 ∧ x = nI k
  · by_cases hy : ∃ k, k < 4 ∧ y = nI k
    · obtain ⟨s, hs, rfl⟩ := hx
      obtain ⟨k, hk, rfl⟩ := hy
      exact ⟨0, 0, _, _, c_plain_t (d := d + 24) hs hk hW hC, Or.inl rfl, hW, fun M1 R1 hS hF hM => m_plain_t (d := d + 22) hs hk hS hW hM⟩
    · obtain ⟨s, hs, rfl⟩ := hx
      exact ⟨1, 1, nI 0, _, c_plain_f2 (d := d + 24) hs hy hC, Or.inr (by decide), hW, fun M1 R1 hS hF hM => m_plain_f (d := d + 22) (fun q => hy q.2) hS hM⟩
  · obtain ⟨h0, h1⟩ := side_iff.mpr hx
    exact ⟨1, 1, nI 0, _, c_plain_f1 (d := d + 24) h0 h1 hC, Or.inr (by decide), hW, fun M1 R1 hS hF hM => m_plain_f (d := d + 22) (fun q => hx q.1) hS hM⟩
theorem pr_once (hW : WG G) (hC : CS M R i G) (x : Int32) : PairO d M R G 90 186 [.int x] [(1, 1), (2, 2)] := by
  by_cases hx : ∃ k, k < 5 ∧ x = nI k
  · obtain ⟨k, hk, rfl⟩ := hx
    by_cases h : onK (gF G) 0 ≤ 3 ∧ onK (gF G) 1 ≤ 3
    · exact ⟨0, 0, _, _, c_once_t (d := d + 24) hk h.1 h.2 hW hC, Or.inl rfl, hW, fun M1 R1 hS hF hM => m_once_t (d := d + 22) hk h.1 h.2 hS hW hM⟩
    · exact ⟨2, 2, nI 0, _, c_once_f2 (d := d + 24) hk h hW hC, Or.inr (by decide), hW, fun M1 R1 hS hF hM => m_once_f2 (d := d + 22) hk h hS hW hM⟩
  · exact ⟨1, 1, nI 0, _, c_once_f1 (d := d + 24) hx hC, Or.inr (by decide), hW, fun M1 R1 hS hF hM => m_once_f1 (d := d + 22) hx hS hM⟩
theorem pr_count (hW : WG G) (hC : CS M R i G) (x y : Int32) : PairO d M R G 91 188 [.int x, .int y] [(1, 1)] := by
  by_cases hx : ∃ k, k < 3 ∧ x = nI k
  · obtain ⟨k, hk, rfl⟩ := hx
    exact ⟨0, 0, _, _, c_count_t (d := d + 24) hk hW hC, Or.inl rfl, hW, fun M1 R1 hS hF hM => m_count_t (d := d + 22) hk hS hW hM⟩
  · exact ⟨1, 1, nI 0, _, c_count_f (d := d + 24) hx hC, Or.inr (by decide), hW, fun M1 R1 hS hF hM => m_count_f (d := d + 22) hx hS hM⟩
-- calls that never throw: one level deeper in the class
def PairQ (d : Nat) (M : ZM) (R : ZH) (G : GS) (cm mo : Nat) (as : List Value) : Prop := ∃ v G', OutC (cal (d + 29) cm (.ref 0 :: as) M R) M R 0 0 v G' ∧ WG G' ∧ ∀ M1 R1, Sh R1 → FO M1 → MS M1 G → OutM (cal (d + 29) mo (.ref 127 :: as) M1 R1) M1 R1 0 v G'
theorem pr_feed (hW : WG G) (hC : CS M R i G) (a b c e f : Int32) : PairQ d M R G 68 113 [.int a, .int b, .int c, .int e, .int f] := by
  by_cases h : gT G ≤ 480
  · exact ⟨_, _, c_feed_t (d := d + 25) h hC, hW.fd h, fun M1 R1 hS hF hM => m_feed_t (d := d + 22) h hS hM⟩
  · exact ⟨_, _, c_feed_f (d := d + 25) (by omega) hW hC, hW, fun M1 R1 hS hF hM => m_feed_f (d := d + 22) (by omega) hS hW hM⟩
theorem pr_fault (hW : WG G) (hC : CS M R i G) : PairQ d M R G 70 139 [] := ⟨_, _, c_fault (d := d + 25) hC, hW, fun M1 R1 hS hF hM => m_fault (d := d + 22) hS hM⟩
theorem pr_undo (hW : WG G) (hC : CS M R i G) : PairQ d M R G 75 112 [] := by
  by_cases h : (gK G).length = 0
  · exact ⟨_, _, c_undo_n (d := d + 25) h hC, hW, fun M1 R1 hS hF hM => m_undo_n (d := d + 22) h hS hM⟩
  · exact ⟨_, _, c_undo_t (d := d + 25) h hW hC, hW.un h, fun M1 R1 hS hF hM => m_undo_t (d := d + 22) h hS hW hM⟩
theorem pr_best (hW : WG G) (hC : CS M R i G) : PairQ d M R G 82 173 [] := ⟨_, _, c_best (d := d + 25) hW hC, hW, fun M1 R1 hS hF hM => m_best (d := d + 21) hS hW hM⟩
theorem pr_states (hW : WG G) (hC : CS M R i G) : PairQ d M R G 85 176 [] := ⟨_, _, c_states (d := d + 25) hW hC, hW, fun M1 R1 hS hF hM => m_states (d := d + 22) hS hW hM⟩
theorem pr_status (hW : WG G) (hC : CS M R i G) (x : Int32) : PairQ d M R G 93 190 [.int x] := ⟨_, _, c_status (d := d + 25) hC, hW, fun M1 R1 hS hF hM => m_status (d := d + 22) hS hM⟩
end Pa
