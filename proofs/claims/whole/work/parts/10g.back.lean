def sbit (bits t : Nat) : Nat := if bits.testBit t then 1 else 0
theorem b2s {bits t : Nat} : b2i (bits.testBit t) = nI (sbit bits t) := by
  unfold b2i sbit
  split <;> rfl
theorem sbit2 (bits t : Nat) : sbit bits t < 2 := by
  unfold sbit
  split <;> omega
def tsl (bits T : Nat) : List Nat := (List.range T).map (sbit bits)
theorem tsl_drop {bits T t : Nat} (h : t < T) : (tsl bits T).drop t = sbit bits t :: (tsl bits T).drop (t + 1) := by
  have hl : t < (tsl bits T).length := by simpa [tsl] using h
  rw [List.drop_eq_getElem_cons hl]
  congr 1
  simp [tsl]
theorem tsl_end {bits T t : Nat} (h : T ≤ t) : (tsl bits T).drop t = [] := List.drop_eq_nil_of_le (by simpa [tsl] using h)
theorem pop_or (S i : Nat) : ∀ n, pop n (S ||| 2 ^ i) ≤ pop n S + if i < n then 1 else 0 := by
  intro n
  induction n with
  | zero => exact Nat.zero_le _
  | succ n ih =>
    unfold pop
    rw [tb_or]
    by_cases e : i = n
    · subst e
      rw [if_neg (by omega)] at ih
      rw [if_pos (show i < i + 1 by omega)]
      simp
      split <;> omega
    · have e2 : (if i < n + 1 then 1 else 0) = (if i < n then 1 else 0) := by
        by_cases h : i < n
        · rw [if_pos h, if_pos (by omega)]
        · rw [if_neg h, if_neg (by omega)]
      rw [e2]
      simp only [e, decide_false, Bool.or_false]
      omega
theorem pop_zero (n : Nat) : pop n 0 = 0 := by
  induction n with
  | zero => rfl
  | succ n ih => rw [pop, ih, Nat.zero_testBit]; rfl
theorem remI_mem {α : Type} {x : α} : ∀ (l : List α) (S i : Nat), x ∈ remI l S i → x ∈ l
  | [], _, _, h => by simp [remI] at h
  | y :: l, S, i, h => by
    rw [remI] at h
    split at h
    · exact List.mem_cons_of_mem _ (remI_mem l S (i + 1) h)
    · rcases List.mem_cons.mp h with rfl | h
      · exact List.mem_cons_self
      · exact List.mem_cons_of_mem _ (remI_mem l S (i + 1) h)
theorem rem_mem {α : Type} {x : α} {l : List α} {S : Nat} (h : x ∈ rem l S) : x ∈ l := remI_mem l S 0 h
theorem rem_le {α : Type} (l : List α) (S : Nat) : (rem l S).length ≤ l.length := remI_len l S 0
def okX (X : List P3) : Prop := X.length ≤ 10 ∧ ∀ p ∈ X, (-50 ≤ p.2.1 ∧ p.2.1 ≤ 50) ∧ (-50 ≤ p.2.2 ∧ p.2.2 ≤ 50)
theorem okX.rem {X : List P3} (h : okX X) (S : Nat) : okX (rem X S) := ⟨Nat.le_trans (rem_le X S) h.1, fun p hp => h.2 p (rem_mem hp)⟩
theorem okX.aft {X : List P3} (h : okX X) (b : Option Nat) : okX (aft X b) := by
  cases b with
  | none => exact h
  | some j =>
    refine ⟨Nat.le_trans (List.length_eraseIdx_le X j) h.1, fun p hp => h.2 p (List.mem_of_mem_eraseIdx hp)⟩
theorem endV_abs {se sp q : Nat} {X : List P3} (h : okX X) : -1000 ≤ sdV q (endV se sp X) ∧ sdV q (endV se sp X) ≤ 1000 := by
  have hl := h.1
  have key : ∀ s, -1000 ≤ endF se sp 0 (X.map (wS s)) ∧ endF se sp 0 (X.map (wS s)) ≤ 1000 := by
    intro s
    have := endF_abs (se := se) (sp := sp) (X.map (wS s)) 0 (fun w hw => by
      obtain ⟨p, hp, rfl⟩ := List.mem_map.mp hw
      unfold wS
      split
      · exact (h.2 p hp).1
      · exact (h.2 p hp).2)
    rw [List.length_map] at this
    omega
  unfold sdV endV
  split
  · exact key 0
  · exact key 1
theorem VV_abs {bx se sp q : Nat} : ∀ (ts : List Nat) (X : List P3), okX X → -1000 ≤ sdV q (VV bx se sp ts X) ∧ sdV q (VV bx se sp ts X) ≤ 1000
  | [], X, h => endV_abs h
  | s :: ts, X, h => VV_abs ts _ (h.aft _)
theorem FldRel.ok {M : ZM} {se sp bx : Nat} {Fl : List P3} (h : FldRel M se sp bx Fl) : okX Fl := ⟨h.2.2.1.1, fun p hp => (h.2.2.2 p hp).2⟩
theorem FldRel.frame {M M' : ZM} {se sp bx : Nat} {Fl : List P3} (h : FldRel M se sp bx Fl) (h7 : M' 107 = M 107) (h8 : M' 108 = M 108) (h10 : M' 110 = M 110) (h11 : M' 111 = M 111) : FldRel M' se sp bx Fl := by
  unfold FldRel
  rw [h7, h8, h10, h11]
  exact h
theorem up2_row_ne {M : ZM} {a k b : Nat} {v : Int32} (h : b ≠ a) : up2 M a k v b = M b := up2_ne h
theorem choM_fr {M : ZM} {s S : Nat} {w : Int × Int} (hs : s < 2) {c : Nat} (h3 : c ≠ 113) (h4 : c ≠ 114) : choM M s S w c = M c := by
  unfold choM
  rw [up2_ne (by omega), up2_ne (by omega)]
theorem choM_v {M : ZM} {s S : Nat} {w : Int × Int} (hs : s < 2) {q : Nat} (hq : q < 2) (S' : Nat) : choM M s S w (113 + q) S' = if S' = S then iI (sdV q w) else M (113 + q) S' := by
  unfold choM
  by_cases e : S' = S
  · subst e
    rw [if_pos rfl]
    by_cases e2 : q = s
    · subst e2
      rw [up2_c (by omega), up2_at]
    · have : q = 1 - s := by omega
      subst this
      rw [up2_at]
  · rw [if_neg e, up2_s e, up2_s e]
theorem choR_s {R : ZH} {t S S' : Nat} {o : Option Nat} (h : S' ≠ S) : zJ (choR R t S o) 116 S' = zJ R 116 S' := sJ_s h
theorem choR_at {R : ZH} {t S : Nat} {o : Option Nat} : zJ (choR R t S o) 116 S = wdO (zJ R 116 S) t o := sJ_at
theorem choR_u {R : ZH} {t S S' u : Nat} {o : Option Nat} (h : ∀ i, o = some i → i < 15) (ht : t < 9) (hu : u < 9) (hn : u ≠ t) : dgN (zJ (choR R t S o) 116 S') u = dgN (zJ R 116 S') u := by
  by_cases e : S' = S
  · subst e
    rw [choR_at, dgN_wdO h ht hu hn]
  · rw [choR_s e]
theorem jR_cho {R : ZH} {t S : Nat} {o : Option Nat} {J : Nat → Nat → Int64} : jR (choR R t S o) J = jR R J := rfl
theorem jR_sJ {R : ZH} {a k : Nat} {v : Int64} {J : Nat → Nat → Int64} : jR (sJ R a k v) J = jR R J := rfl
theorem Sh.cho {R : ZH} {t S : Nat} {o : Option Nat} (h : Sh R) : Sh (choR R t S o) := h
section Lk
variable {d se sp bx : Nat} {M : ZM} {R : ZH} {Fl : List P3}
theorem choose_ {t S bits : Nat} {v : List P3 → Int × Int} (ht : t < 9) (hbits : bits < 1024) (hSt : S < 2 ^ Fl.length) (hS : Sh R) (hF : FldRel M se sp bx Fl) (hb : M 106 6 = nI bits)
    (hv : ∀ o b, PlR S Fl.length o b → ∀ q, q < 2 → M (113 + q) (setO S o) = iI (sdV q (v (rem Fl (setO S o)))) ∧ -100000 ≤ sdV q (v (rem Fl (setO S o))) ∧ sdV q (v (rem Fl (setO S o))) ≤ 100000) :
    ∃ o, PlR S Fl.length o (bst bx se v (sbit bits t) (rem Fl S)) ∧ cal (d + 1) 20 [.ref 106, .int (nI t), .int (nI S)] M R = some (.inl none, choM M (sbit bits t) S (v (aft (rem Fl S) (bst bx se v (sbit bits t) (rem Fl S)))), choR R t S o) := by
  obtain ⟨nN, k106, k107, k108, l108, k109, l109, k110, l110, k111, l111, k112, l112, k113, l113, k114, l114, k115, l115, k116, l116, k117, l117, f106_0, f107_0, f107_1, f109_0, f109_1, f106_1, f112_0, f112_1, f106_2, f106_3, f106_4⟩ := lokF hS
  have hs := sbit2 bits t
  obtain ⟨ks, ls, fs⟩ := KVs hS hs
  obtain ⟨kr, lr, fr⟩ := KVs hS (show 1 - sbit bits t < 2 by omega)
  have hc := strikable_ (d := d) hS hF
  obtain ⟨o, h1, h2⟩ := choose_L (d := d + 1) (t := t) (v := v) hs ht hSt hS hF hv Fl.length 0 tok none none (by omega) trivial (Nat.zero_le _)
  refine ⟨o, h1, ?_⟩
  rw [h1.rem] at h2
  rw [e20]
  simp (disch := first | assumption | exact nar_b0 | exact nar_b1 | exact nar_b | exact Or.inl rfl | exact Or.inr rfl | exact zin_t (by omega) (by omega) | exact Nat.le_of_ble_eq_true rfl | (rw [nI_cl (by omega)]; assumption) | omega) only [q20_0, q20_1, q20_4, q20_5, q20_6, q20_7, q20_8, q20_9, q20_10, q20_13, q20_14, q20_15, q20_17, q20_18, q20_21, q20_22, q20_23, q20_24, q20_25, q20_27, q20_28, q20_30, q20_31, q20_33, q20_34, q20_37, q20_40, q20_42, q20_43, q20_47, q20_48, q20_51, q20_54, q20_57, q20_59, q20_62, q20_63, q20_64, q20_66, q20_67, q20_68, q20_70, q20_72, q20_73, q20_76, q20_79, q20_81, q20_83, q20_84, q20_86, q20_88, q20_89, q20_92, q20_94, q20_96, q20_97, q20_99, q20_101, q20_102, q20_105, q20_107, q20_109, q20_110, q20_112, q20_114, q20_115, q20_118, q20_120, q20_122, q20_124, q20_126, q20_129, q20_132, q20_134, q20_135, q20_137, q20_139, q20_140, q20_141, q20_143, q20_144, q20_146, q20_148, q20_149, q20_150, q20_151, q20_154, q20_155, q20_156, q20_157, q20_159, q20_160, q20_161, q20_162, q20_163, q20_164, q20_165, q20_166, q20_167, q20_168, kl_int, kl_ref, kl_tok, cS_nil, cS_int, cS_ref, cS_long, tl_some, tl_none, List.cons_append, List.nil_append, nI_add, nI_ltb, nI_leb, nI_eqb, nI_cl, zin_nI, hb, tbit, b2s, nI1s, hc, zk0_inl]
  exact h2
/-- values by who is struck: those of turn t on below the set S, of turn t + 1 on from it on -/
def ValA (M : ZM) (bx se sp : Nat) (Fl : List P3) (bits T t S : Nat) : Prop := ∀ S', S' < 2 ^ Fl.length → pop 10 S' ≤ T → ∀ q, q < 2 → M (113 + q) S' = iI (sdV q (VV bx se sp ((tsl bits T).drop (max (if S' < S then t else t + 1) (pop 10 S'))) (rem Fl S')))
def ActA (J : Nat → Nat → Int64) (bx se sp : Nat) (Fl : List P3) (bits T t S : Nat) : Prop := ∀ S', S' < S → pop 10 S' ≤ t → ∃ o, acI (J 116 S') t = oI o ∧ PlR S' Fl.length o (bst bx se (VV bx se sp ((tsl bits T).drop (t + 1))) (sbit bits t) (rem Fl S'))
set_option maxHeartbeats 4000000 in
theorem lookBack_C {t T bits : Nat} (ht : t < T) (hT : T ≤ 9) (hbits : bits < 1024) : ∀ (m S : Nat) (M : ZM) (R : ZH), S + m = 2 ^ Fl.length → Sh R → FldRel M se sp bx Fl → M 106 6 = nI bits → ValA M bx se sp Fl bits T t S → ActA (zJ R) bx se sp Fl bits T t S → (∀ S', S ≤ S' → S' < 2 ^ Fl.length → dgN (zJ R 116 S') t = 0) → ∃ M' J', exe (d + 2) 19 137 [.ref 106, .int (nI T), .int (nI bits), .int (nI (2 ^ Fl.length)), .int (nI t), .int (nI S)] [] M R = exe (d + 2) 19 101 [.ref 106, .int (nI T), .int (nI bits), .int (nI (2 ^ Fl.length)), .int (nI t - nI 1), .int (nI (2 ^ Fl.length))] [] M' (jR R J') ∧ ValA M' bx se sp Fl bits T t (2 ^ Fl.length) ∧ ActA J' bx se sp Fl bits T t (2 ^ Fl.length) ∧ (∀ c, c ≠ 113 → c ≠ 114 → M' c = M c) ∧ ∀ S' u, u < 9 → u ≠ t → dgN (J' 116 S') u = dgN (zJ R 116 S') u := by
  intro m
  induction m with
  | zero =>
    intro S M R hSm hS hF hb hV hA hZ
    obtain ⟨nN, k106, k107, k108, l108, k109, l109, k110, l110, k111, l111, k112, l112, k113, l113, k114, l114, k115, l115, k116, l116, k117, l117, f106_0, f107_0, f107_1, f109_0, f109_1, f106_1, f112_0, f112_1, f106_2, f106_3, f106_4⟩ := lokF hS
    have hp := pow10 hF.2.2.1.1
    refine ⟨M, zJ R, ?_, ?_, ?_, fun _ _ _ => rfl, fun _ _ _ _ => rfl⟩
    · rw [q19_137]
      simp (disch := first | assumption | exact nar_b0 | exact nar_b1 | exact nar_b | exact Or.inl rfl | exact Or.inr rfl | exact zin_t (by omega) (by omega) | exact Nat.le_of_ble_eq_true rfl | (rw [nI_cl (by omega)]; assumption) | omega) only [q19_0, q19_1, q19_2, q19_5, q19_6, q19_7, q19_10, q19_11, q19_12, q19_15, q19_18, q19_19, q19_20, q19_21, q19_25, q19_26, q19_29, q19_30, q19_33, q19_35, q19_36, q19_37, q19_39, q19_42, q19_43, q19_46, q19_49, q19_50, q19_53, q19_54, q19_55, q19_57, q19_58, q19_61, q19_62, q19_64, q19_67, q19_68, q19_69, q19_72, q19_73, q19_74, q19_76, q19_77, q19_80, q19_81, q19_83, q19_86, q19_87, q19_90, q19_93, q19_94, q19_97, q19_98, q19_99, q19_103, q19_106, q19_107, q19_110, q19_111, q19_112, q19_115, q19_116, q19_117, q19_118, q19_119, q19_120, q19_121, q19_124, q19_125, q19_126, q19_129, q19_130, q19_131, q19_132, q19_133, q19_134, q19_135, q19_139, q19_140, q19_143, q19_145, q19_148, q19_150, q19_153, q19_154, q19_156, q19_158, q19_161, q19_164, q19_167, q19_170, q19_173, kl_int, kl_ref, kl_tok, cS_nil, cS_int, cS_ref, cS_long, tl_some, tl_none, List.cons_append, List.nil_append, nI_add, nI_ltb, nI_leb, nI_eqb, nI_cl, zin_nI]
      rw [if_pos (by omega), show S = 2 ^ Fl.length by omega]
      rfl
    · rw [← show S = 2 ^ Fl.length by omega]; exact hV
    · rw [← show S = 2 ^ Fl.length by omega]; exact hA
  | succ m ih =>
    intro S M R hSm hS hF hb hV hA hZ
    obtain ⟨nN, k106, k107, k108, l108, k109, l109, k110, l110, k111, l111, k112, l112, k113, l113, k114, l114, k115, l115, k116, l116, k117, l117, f106_0, f107_0, f107_1, f109_0, f109_1, f106_1, f112_0, f112_1, f106_2, f106_3, f106_4⟩ := lokF hS
    have hp := pow10 hF.2.2.1.1
    have hbc := bitCount_ (d := d + 1) (S := S) (M := M) (R := R) (by omega)
    have hpo : pop 10 S < 100 := by
      have : ∀ n, pop n S ≤ n := fun n => by
        induction n with
        | zero => exact Nat.le_refl _
        | succ n ih => unfold pop; split <;> omega
      have := this 10
      omega
    by_cases hle : pop 10 S ≤ t
    · have hlt : S < 2 ^ Fl.length := by omega
      have hv : ∀ o b, PlR S Fl.length o b → ∀ q, q < 2 → M (113 + q) (setO S o) = iI (sdV q (VV bx se sp ((tsl bits T).drop (t + 1)) (rem Fl (setO S o)))) ∧ -100000 ≤ sdV q (VV bx se sp ((tsl bits T).drop (t + 1)) (rem Fl (setO S o))) ∧ sdV q (VV bx se sp ((tsl bits T).drop (t + 1)) (rem Fl (setO S o))) ≤ 100000 := by
        intro o b hpl q hq
        have h1 := setO_lt hlt hpl
        have h2 : pop 10 (setO S o) ≤ t + 1 ∧ S ≤ setO S o := by
          cases o with
          | none => exact ⟨by show pop 10 S ≤ t + 1; omega, Nat.le_refl _⟩
          | some i =>
            refine ⟨?_, Nat.left_le_or⟩
            have := pop_or S i 10
            show pop 10 (S ||| 2 ^ i) ≤ t + 1
            split at this <;> omega
        have h3 := hV (setO S o) h1 (by omega) q hq
        rw [if_neg (by omega), Nat.max_eq_left h2.1] at h3
        have h4 := VV_abs (bx := bx) (se := se) (sp := sp) (q := q) ((tsl bits T).drop (t + 1)) (rem Fl (setO S o)) (hF.ok.rem _)
        exact ⟨h3, by omega, by omega⟩
      obtain ⟨o, ho, hc⟩ := choose_ (d := d) (t := t) (by omega) hbits hlt hS hF hb hv
      have ho15 : ∀ i, o = some i → i < 15 := fun i e => by have := ho.lt i e; have := hF.2.2.1.1; omega
      have hs := sbit2 bits t
      generalize hM1 : choM M (sbit bits t) S (VV bx se sp ((tsl bits T).drop (t + 1)) (aft (rem Fl S) (bst bx se (VV bx se sp ((tsl bits T).drop (t + 1))) (sbit bits t) (rem Fl S)))) = M1 at hc
      have fr : ∀ c, c ≠ 113 → c ≠ 114 → M1 c = M c := fun c h3 h4 => by rw [← hM1]; exact choM_fr hs h3 h4
      have frv : ∀ q, q < 2 → ∀ S', M1 (113 + q) S' = if S' = S then iI (sdV q (VV bx se sp ((tsl bits T).drop t) (rem Fl S))) else M (113 + q) S' := by
        intro q hq S'
        rw [← hM1, choM_v hs hq, tsl_drop ht]
        rfl
      obtain ⟨M', J', g1, g2, g3, g4, g5⟩ := ih (S + 1) M1 (choR R t S o) (by omega) hS.cho (hF.frame (fr _ (by decide) (by decide)) (fr _ (by decide) (by decide)) (fr _ (by decide) (by decide)) (fr _ (by decide) (by decide))) (by rw [fr _ (by decide) (by decide)]; exact hb)
        (by
          intro S' h1 h2 q hq
          rw [frv q hq]
          by_cases e : S' = S
          · subst e
            rw [if_pos rfl, if_pos (by omega), Nat.max_eq_left hle]
          · rw [if_neg e, hV S' h1 h2 q hq]
            by_cases e2 : S' < S
            · rw [if_pos e2, if_pos (by omega)]
            · rw [if_neg e2, if_neg (by omega)])
        (by
          intro S' h1 h2
          by_cases e : S' = S
          · subst e
            exact ⟨o, by rw [choR_at]; exact acI_at ho15 (by omega) (hZ S' (Nat.le_refl _) hlt), ho⟩
          · obtain ⟨o2, p1, p2⟩ := hA S' (by omega) h2
            exact ⟨o2, by rw [choR_s e]; exact p1, p2⟩)
        (by
          intro S' h1 h2
          rw [choR_s (by omega)]
          exact hZ S' (by omega) h2)
      refine ⟨M', J', ?_, g2, g3, fun c h3 h4 => by rw [g4 c h3 h4, fr c h3 h4], fun S' u hu hn => by rw [g5 S' u hu hn]; exact choR_u ho15 (by omega) hu hn⟩
      rw [jR_cho] at g1
      have hN : zN (choR R t S o) = zN R := rfl
      rw [← g1]
      rw [q19_137]
      simp (disch := first | assumption | exact nar_b0 | exact nar_b1 | exact nar_b | exact Or.inl rfl | exact Or.inr rfl | exact zin_t (by omega) (by omega) | exact Nat.le_of_ble_eq_true rfl | (rw [nI_cl (by omega)]; assumption) | omega) only [q19_0, q19_1, q19_2, q19_5, q19_6, q19_7, q19_10, q19_11, q19_12, q19_15, q19_18, q19_19, q19_20, q19_21, q19_25, q19_26, q19_29, q19_30, q19_33, q19_35, q19_36, q19_37, q19_39, q19_42, q19_43, q19_46, q19_49, q19_50, q19_53, q19_54, q19_55, q19_57, q19_58, q19_61, q19_62, q19_64, q19_67, q19_68, q19_69, q19_72, q19_73, q19_74, q19_76, q19_77, q19_80, q19_81, q19_83, q19_86, q19_87, q19_90, q19_93, q19_94, q19_97, q19_98, q19_99, q19_103, q19_106, q19_107, q19_110, q19_111, q19_112, q19_115, q19_116, q19_117, q19_118, q19_119, q19_120, q19_121, q19_124, q19_125, q19_126, q19_129, q19_130, q19_131, q19_132, q19_133, q19_134, q19_135, q19_139, q19_140, q19_143, q19_145, q19_148, q19_150, q19_153, q19_154, q19_156, q19_158, q19_161, q19_164, q19_167, q19_170, q19_173, kl_int, kl_ref, kl_tok, cS_nil, cS_int, cS_ref, cS_long, tl_some, tl_none, List.cons_append, List.nil_append, nI_add, nI_ltb, nI_leb, nI_eqb, nI_cl, zin_nI, hbc, hc, zk0_inl]
      rw [if_neg (by omega), if_neg (by omega)]
    · obtain ⟨M', J', g1, g2, g3, g4, g5⟩ := ih (S + 1) M R (by omega) hS hF hb
        (by
          intro S' h1 h2 q hq
          rw [hV S' h1 h2 q hq]
          by_cases e : S' = S
          · subst e
            rw [if_neg (by omega), if_pos (by omega), show max (t + 1) (pop 10 S') = max t (pop 10 S') by omega]
          · by_cases e2 : S' < S
            · rw [if_pos e2, if_pos (by omega)]
            · rw [if_neg e2, if_neg (by omega)])
        (by
          intro S' h1 h2
          by_cases e : S' = S
          · subst e
            exact absurd h2 hle
          · exact hA S' (by omega) h2)
        (fun S' h1 h2 => hZ S' (by omega) h2)
      refine ⟨M', J', ?_, g2, g3, g4, g5⟩
      rw [← g1]
      rw [q19_137]
      simp (disch := first | assumption | exact nar_b0 | exact nar_b1 | exact nar_b | exact Or.inl rfl | exact Or.inr rfl | exact zin_t (by omega) (by omega) | exact Nat.le_of_ble_eq_true rfl | (rw [nI_cl (by omega)]; assumption) | omega) only [q19_0, q19_1, q19_2, q19_5, q19_6, q19_7, q19_10, q19_11, q19_12, q19_15, q19_18, q19_19, q19_20, q19_21, q19_25, q19_26, q19_29, q19_30, q19_33, q19_35, q19_36, q19_37, q19_39, q19_42, q19_43, q19_46, q19_49, q19_50, q19_53, q19_54, q19_55, q19_57, q19_58, q19_61, q19_62, q19_64, q19_67, q19_68, q19_69, q19_72, q19_73, q19_74, q19_76, q19_77, q19_80, q19_81, q19_83, q19_86, q19_87, q19_90, q19_93, q19_94, q19_97, q19_98, q19_99, q19_103, q19_106, q19_107, q19_110, q19_111, q19_112, q19_115, q19_116, q19_117, q19_118, q19_119, q19_120, q19_121, q19_124, q19_125, q19_126, q19_129, q19_130, q19_131, q19_132, q19_133, q19_134, q19_135, q19_139, q19_140, q19_143, q19_145, q19_148, q19_150, q19_153, q19_154, q19_156, q19_158, q19_161, q19_164, q19_167, q19_170, q19_173, kl_int, kl_ref, kl_tok, cS_nil, cS_int, cS_ref, cS_long, tl_some, tl_none, List.cons_append, List.nil_append, nI_add, nI_ltb, nI_leb, nI_eqb, nI_cl, zin_nI, hbc, zk0_inl]
      rw [if_neg (by omega), if_pos (by omega)]
theorem pop_le (S : Nat) : ∀ n, pop n S ≤ n := fun n => by
  induction n with
  | zero => exact Nat.le_refl _
  | succ n ih => unfold pop; split <;> omega
theorem nI_m (t : Nat) : nI t - nI 1 = iI ((t : Int) - 1) := iI_sub t 1
theorem nI_t1 (t : Nat) : iI (((t + 1 : Nat) : Int) - 1) = nI t := by
  rw [nI_iI]
  congr 1
  omega
set_option maxHeartbeats 4000000 in
theorem lookBack_A {T bits : Nat} (hT : T ≤ 9) : ∀ (m S : Nat) (tk : Value) (M : ZM) (R : ZH), S + m = 2 ^ Fl.length → Sh R → FldRel M se sp bx Fl → M 106 5 = nI T → (∀ S', S' < S → pop 10 S' ≤ T → ∀ q, q < 2 → M (113 + q) S' = iI (sdV q (endV se sp (rem Fl S')))) → (∀ S', S' < S → zJ R 116 S' = 0) → ∃ M' J', exe (d + 2) 19 23 [.ref 106, .int (nI T), .int (nI bits), .int (nI (2 ^ Fl.length)), .int (nI S), tk] [] M R = exe (d + 2) 19 101 [.ref 106, .int (nI T), .int (nI bits), .int (nI (2 ^ Fl.length)), .int (nI T - nI 1), tk] [] M' (jR R J') ∧ (∀ S', S' < 2 ^ Fl.length → pop 10 S' ≤ T → ∀ q, q < 2 → M' (113 + q) S' = iI (sdV q (endV se sp (rem Fl S')))) ∧ (∀ c, c ≠ 113 → c ≠ 114 → M' c = M c) ∧ ∀ S', S' < 2 ^ Fl.length → J' 116 S' = 0 := by
  intro m
  induction m with
  | zero =>
    intro S tk M R hSm hS hF h5 hV hZ
    obtain ⟨nN, k106, k107, k108, l108, k109, l109, k110, l110, k111, l111, k112, l112, k113, l113, k114, l114, k115, l115, k116, l116, k117, l117, f106_0, f107_0, f107_1, f109_0, f109_1, f106_1, f112_0, f112_1, f106_2, f106_3, f106_4⟩ := lokF hS
    have hp := pow10 hF.2.2.1.1
    refine ⟨M, zJ R, ?_, ?_, fun _ _ _ => rfl, ?_⟩
    · rw [q19_23]
      simp (disch := first | assumption | exact nar_b0 | exact nar_b1 | exact nar_b | exact Or.inl rfl | exact Or.inr rfl | exact zin_t (by omega) (by omega) | exact Nat.le_of_ble_eq_true rfl | (rw [nI_cl (by omega)]; assumption) | omega) only [q19_0, q19_1, q19_2, q19_5, q19_6, q19_7, q19_10, q19_11, q19_12, q19_15, q19_18, q19_19, q19_20, q19_21, q19_25, q19_26, q19_29, q19_30, q19_33, q19_35, q19_36, q19_37, q19_39, q19_42, q19_43, q19_46, q19_49, q19_50, q19_53, q19_54, q19_55, q19_57, q19_58, q19_61, q19_62, q19_64, q19_67, q19_68, q19_69, q19_72, q19_73, q19_74, q19_76, q19_77, q19_80, q19_81, q19_83, q19_86, q19_87, q19_90, q19_93, q19_94, q19_97, q19_98, q19_99, q19_103, q19_106, q19_107, q19_110, q19_111, q19_112, q19_115, q19_116, q19_117, q19_118, q19_119, q19_120, q19_121, q19_124, q19_125, q19_126, q19_129, q19_130, q19_131, q19_132, q19_133, q19_134, q19_135, q19_139, q19_140, q19_143, q19_145, q19_148, q19_150, q19_153, q19_154, q19_156, q19_158, q19_161, q19_164, q19_167, q19_170, q19_173, kl_int, kl_ref, kl_tok, cS_nil, cS_int, cS_ref, cS_long, tl_some, tl_none, List.cons_append, List.nil_append, nI_add, nI_ltb, nI_leb, nI_eqb, nI_cl, zin_nI, h5]
      rw [if_pos (by omega)]
      rfl
    · rw [← show S = 2 ^ Fl.length by omega]; exact hV
    · rw [← show S = 2 ^ Fl.length by omega]; exact hZ
  | succ m ih =>
    intro S tk M R hSm hS hF h5 hV hZ
    obtain ⟨nN, k106, k107, k108, l108, k109, l109, k110, l110, k111, l111, k112, l112, k113, l113, k114, l114, k115, l115, k116, l116, k117, l117, f106_0, f107_0, f107_1, f109_0, f109_1, f106_1, f112_0, f112_1, f106_2, f106_3, f106_4⟩ := lokF hS
    have hp := pow10 hF.2.2.1.1
    have hS0 : Sh (sJ R 116 S 0) := hS.sJ
    obtain ⟨nN_2, k106_2, k107_2, k108_2, l108_2, k109_2, l109_2, k110_2, l110_2, k111_2, l111_2, k112_2, l112_2, k113_2, l113_2, k114_2, l114_2, k115_2, l115_2, k116_2, l116_2, k117_2, l117_2, f106_0_2, f107_0_2, f107_1_2, f109_0_2, f109_1_2, f106_1_2, f112_0_2, f112_1_2, f106_2_2, f106_3_2, f106_4_2⟩ := lokF hS0
    have hz0 : ∀ S', S' < S + 1 → zJ (sJ R 116 S 0) 116 S' = 0 := by
      intro S' h
      by_cases e : S' = S
      · subst e; exact sJ_at
      · rw [sJ_s e]; exact hZ S' (by omega)
    have hbc := bitCount_ (d := d + 1) (S := S) (M := M) (R := sJ R 116 S 0) (by omega)
    have hpo := pop_le S 10
    by_cases hle : pop 10 S ≤ T
    · have hc0 := endWorth_ (d := d + 1) (s := 0) (S := S) (by omega) (by omega) hS0 hF
      generalize hM1 : up2 M 113 S (iI (endF se sp 0 ((rem Fl S).map (wS 0)))) = M1
      have f1 : ∀ c, c ≠ 113 → M1 c = M c := fun c h => by rw [← hM1]; exact up2_ne h
      have hF1 : FldRel M1 se sp bx Fl := hF.frame (f1 _ (by decide)) (f1 _ (by decide)) (f1 _ (by decide)) (f1 _ (by decide))
      have hc1 := endWorth_ (d := d + 1) (s := 1) (S := S) (by omega) (by omega) hS0 hF1
      generalize hM2 : up2 M1 114 S (iI (endF se sp 0 ((rem Fl S).map (wS 1)))) = M2
      have f2 : ∀ c, c ≠ 113 → c ≠ 114 → M2 c = M c := fun c h h' => by rw [← hM2, up2_ne h']; exact f1 c h
      obtain ⟨M', J', g1, g2, g3, g4⟩ := ih (S + 1) tk M2 (sJ R 116 S 0) (by omega) hS0 (hF.frame (f2 _ (by decide) (by decide)) (f2 _ (by decide) (by decide)) (f2 _ (by decide) (by decide)) (f2 _ (by decide) (by decide))) (by rw [f2 _ (by decide) (by decide)]; exact h5)
        (by
          intro S' h1 h2 q hq
          rcases (show q = 0 ∨ q = 1 by omega) with rfl | rfl
          · rw [← hM2, up2_c (by decide), ← hM1]
            by_cases e : S' = S
            · subst e; rw [up2_at]; rfl
            · rw [up2_s e]; exact hV S' (by omega) h2 0 hq
          · rw [← hM2]
            by_cases e : S' = S
            · subst e; rw [up2_at]; rfl
            · rw [up2_s e, f1 _ (by decide)]; exact hV S' (by omega) h2 1 hq)
        hz0
      refine ⟨M', J', ?_, g2, fun c h h' => by rw [g3 c h h', f2 c h h'], g4⟩
      rw [jR_sJ] at g1
      rw [← g1]
      rw [q19_23]
      simp (disch := first | assumption | exact nar_b0 | exact nar_b1 | exact nar_b | exact Or.inl rfl | exact Or.inr rfl | exact zin_t (by omega) (by omega) | exact Nat.le_of_ble_eq_true rfl | (rw [nI_cl (by omega)]; assumption) | omega) only [q19_0, q19_1, q19_2, q19_5, q19_6, q19_7, q19_10, q19_11, q19_12, q19_15, q19_18, q19_19, q19_20, q19_21, q19_25, q19_26, q19_29, q19_30, q19_33, q19_35, q19_36, q19_37, q19_39, q19_42, q19_43, q19_46, q19_49, q19_50, q19_53, q19_54, q19_55, q19_57, q19_58, q19_61, q19_62, q19_64, q19_67, q19_68, q19_69, q19_72, q19_73, q19_74, q19_76, q19_77, q19_80, q19_81, q19_83, q19_86, q19_87, q19_90, q19_93, q19_94, q19_97, q19_98, q19_99, q19_103, q19_106, q19_107, q19_110, q19_111, q19_112, q19_115, q19_116, q19_117, q19_118, q19_119, q19_120, q19_121, q19_124, q19_125, q19_126, q19_129, q19_130, q19_131, q19_132, q19_133, q19_134, q19_135, q19_139, q19_140, q19_143, q19_145, q19_148, q19_150, q19_153, q19_154, q19_156, q19_158, q19_161, q19_164, q19_167, q19_170, q19_173, kl_int, kl_ref, kl_tok, cS_nil, cS_int, cS_ref, cS_long, tl_some, tl_none, List.cons_append, List.nil_append, nI_add, nI_ltb, nI_leb, nI_eqb, nI_cl, zin_nI, hbc, hc0, hM1, hc1, hM2, zk0_inl, h5]
      rw [if_neg (by omega), if_neg (by omega)]
    · obtain ⟨M', J', g1, g2, g3, g4⟩ := ih (S + 1) tk M (sJ R 116 S 0) (by omega) hS0 hF h5
        (by
          intro S' h1 h2 q hq
          by_cases e : S' = S
          · subst e; exact absurd h2 hle
          · exact hV S' (by omega) h2 q hq)
        hz0
      refine ⟨M', J', ?_, g2, g3, g4⟩
      rw [jR_sJ] at g1
      rw [← g1]
      rw [q19_23]
      simp (disch := first | assumption | exact nar_b0 | exact nar_b1 | exact nar_b | exact Or.inl rfl | exact Or.inr rfl | exact zin_t (by omega) (by omega) | exact Nat.le_of_ble_eq_true rfl | (rw [nI_cl (by omega)]; assumption) | omega) only [q19_0, q19_1, q19_2, q19_5, q19_6, q19_7, q19_10, q19_11, q19_12, q19_15, q19_18, q19_19, q19_20, q19_21, q19_25, q19_26, q19_29, q19_30, q19_33, q19_35, q19_36, q19_37, q19_39, q19_42, q19_43, q19_46, q19_49, q19_50, q19_53, q19_54, q19_55, q19_57, q19_58, q19_61, q19_62, q19_64, q19_67, q19_68, q19_69, q19_72, q19_73, q19_74, q19_76, q19_77, q19_80, q19_81, q19_83, q19_86, q19_87, q19_90, q19_93, q19_94, q19_97, q19_98, q19_99, q19_103, q19_106, q19_107, q19_110, q19_111, q19_112, q19_115, q19_116, q19_117, q19_118, q19_119, q19_120, q19_121, q19_124, q19_125, q19_126, q19_129, q19_130, q19_131, q19_132, q19_133, q19_134, q19_135, q19_139, q19_140, q19_143, q19_145, q19_148, q19_150, q19_153, q19_154, q19_156, q19_158, q19_161, q19_164, q19_167, q19_170, q19_173, kl_int, kl_ref, kl_tok, cS_nil, cS_int, cS_ref, cS_long, tl_some, tl_none, List.cons_append, List.nil_append, nI_add, nI_ltb, nI_leb, nI_eqb, nI_cl, zin_nI, hbc, zk0_inl, h5]
      rw [if_neg (by omega), if_pos (by omega)]
/-- all that looking back leaves -/
def PasA (M : ZM) (bx se sp : Nat) (Fl : List P3) (bits T t : Nat) : Prop := t < T → ∀ q, q < 2 → M 115 q = iI (sdV q (VV bx se sp ((tsl bits T).drop (t + 1)) Fl))
set_option maxHeartbeats 4000000 in
theorem lookBack_B {T bits : Nat} (hT : T ≤ 9) (hbits : bits < 1024) : ∀ (t : Nat) (tk : Value) (M : ZM) (R : ZH), t ≤ T → Sh R → FldRel M se sp bx Fl → M 106 5 = nI T → M 106 6 = nI bits → ValA M bx se sp Fl bits T t (2 ^ Fl.length) → (∀ t', t ≤ t' → t' < T → ActA (zJ R) bx se sp Fl bits T t' (2 ^ Fl.length)) → (∀ u, u < t → ∀ S', S' < 2 ^ Fl.length → dgN (zJ R 116 S') u = 0) → PasA M bx se sp Fl bits T t →
    ∃ M' J', exe (d + 2) 19 101 [.ref 106, .int (nI T), .int (nI bits), .int (nI (2 ^ Fl.length)), .int (iI ((t : Int) - 1)), tk] [] M R = some (.inl none, M', jR R J') ∧ ValA M' bx se sp Fl bits T 0 (2 ^ Fl.length) ∧ (∀ t', t' < T → ActA J' bx se sp Fl bits T t' (2 ^ Fl.length)) ∧ PasA M' bx se sp Fl bits T 0 ∧ ∀ c, c ≠ 113 → c ≠ 114 → c ≠ 115 → M' c = M c := by
  intro t
  induction t with
  | zero =>
    intro tk M R ht hS hF h5 h6 hV hA hZ hP
    obtain ⟨nN, k106, k107, k108, l108, k109, l109, k110, l110, k111, l111, k112, l112, k113, l113, k114, l114, k115, l115, k116, l116, k117, l117, f106_0, f107_0, f107_1, f109_0, f109_1, f106_1, f112_0, f112_1, f106_2, f106_3, f106_4⟩ := lokF hS
    refine ⟨M, zJ R, ?_, hV, fun t' h => hA t' (Nat.zero_le _) h, hP, fun _ _ _ _ => rfl⟩
    have e : (iI (((0 : Nat) : Int) - 1) < nI 0) = True := by
      rw [nI_iI, iI_ltb (by omega) (by omega) (by omega) (by omega)]
      simp
    rw [q19_101]
    simp (disch := first | assumption | exact nar_b0 | exact nar_b1 | exact nar_b | exact Or.inl rfl | exact Or.inr rfl | exact zin_t (by omega) (by omega) | exact Nat.le_of_ble_eq_true rfl | (rw [nI_cl (by omega)]; assumption) | omega) only [q19_0, q19_1, q19_2, q19_5, q19_6, q19_7, q19_10, q19_11, q19_12, q19_15, q19_18, q19_19, q19_20, q19_21, q19_25, q19_26, q19_29, q19_30, q19_33, q19_35, q19_36, q19_37, q19_39, q19_42, q19_43, q19_46, q19_49, q19_50, q19_53, q19_54, q19_55, q19_57, q19_58, q19_61, q19_62, q19_64, q19_67, q19_68, q19_69, q19_72, q19_73, q19_74, q19_76, q19_77, q19_80, q19_81, q19_83, q19_86, q19_87, q19_90, q19_93, q19_94, q19_97, q19_98, q19_99, q19_103, q19_106, q19_107, q19_110, q19_111, q19_112, q19_115, q19_116, q19_117, q19_118, q19_119, q19_120, q19_121, q19_124, q19_125, q19_126, q19_129, q19_130, q19_131, q19_132, q19_133, q19_134, q19_135, q19_139, q19_140, q19_143, q19_145, q19_148, q19_150, q19_153, q19_154, q19_156, q19_158, q19_161, q19_164, q19_167, q19_170, q19_173, kl_int, kl_ref, kl_tok, cS_nil, cS_int, cS_ref, cS_long, tl_some, tl_none, List.cons_append, List.nil_append, nI_add, nI_ltb, nI_leb, nI_eqb, nI_cl, zin_nI, e, if_true]
    rfl
  | succ t ih =>
    intro tk M R ht hS hF h5 h6 hV hA hZ hP
    obtain ⟨nN, k106, k107, k108, l108, k109, l109, k110, l110, k111, l111, k112, l112, k113, l113, k114, l114, k115, l115, k116, l116, k117, l117, f106_0, f107_0, f107_1, f109_0, f109_1, f106_1, f112_0, f112_1, f106_2, f106_3, f106_4⟩ := lokF hS
    have hp := pow10 hF.2.2.1.1
    have hp0 : 0 < 2 ^ Fl.length := Nat.two_pow_pos _
    have v0 := hV 0 hp0 (by rw [pop_zero]; omega) 0 (by omega)
    have v1 := hV 0 hp0 (by rw [pop_zero]; omega) 1 (by omega)
    rw [if_pos hp0, pop_zero, Nat.max_eq_left (Nat.zero_le _), rem_zero] at v0 v1
    generalize hM1 : up2 (up2 M 115 0 (M 113 0)) 115 1 (M 114 0) = M1
    have f1 : ∀ c, c ≠ 115 → M1 c = M c := fun c h => by rw [← hM1, up2_ne h, up2_ne h]
    have hV1 : ValA M1 bx se sp Fl bits T t 0 := by
      intro S' h1 h2 q hq
      rw [f1 _ (by omega), hV S' h1 h2 q hq, if_pos h1, if_neg (by omega)]
    obtain ⟨M2, J2, c1, c2, c3, c4, c5⟩ := lookBack_C (d := d) (Fl := Fl) (t := t) (T := T) (bits := bits) (by omega) hT hbits (2 ^ Fl.length) 0 M1 R (by omega) hS (hF.frame (f1 _ (by decide)) (f1 _ (by decide)) (f1 _ (by decide)) (f1 _ (by decide))) (by rw [f1 _ (by decide)]; exact h6) hV1 (fun S' h => absurd h (Nat.not_lt_zero _)) (fun S' _ h => hZ t (by omega) S' h)
    have f2 : ∀ c, c ≠ 113 → c ≠ 114 → c ≠ 115 → M2 c = M c := fun c h3 h4 h5 => by rw [c4 c h3 h4, f1 c h5]
    have hA2 : ∀ t', t ≤ t' → t' < T → ActA J2 bx se sp Fl bits T t' (2 ^ Fl.length) := by
      intro t' h1 h2
      by_cases e : t' = t
      · subst e; exact c3
      · intro S' g1 g2
        obtain ⟨o, p1, p2⟩ := hA t' (by omega) h2 S' g1 g2
        refine ⟨o, ?_, p2⟩
        rw [acI_same (by omega) (c5 S' t' (by omega) e)]
        exact p1
    have hP2 : PasA M2 bx se sp Fl bits T t := by
      intro _ q hq
      rw [c4 _ (by decide) (by decide), ← hM1]
      rcases (show q = 0 ∨ q = 1 by omega) with rfl | rfl
      · rw [up2_s (by decide), up2_at]; exact v0
      · rw [up2_at]; exact v1
    obtain ⟨M', J', g1, g2, g3, g4, g5⟩ := ih (.int (nI (2 ^ Fl.length))) M2 (jR R J2) (by omega) hS.j (hF.frame (f2 _ (by decide) (by decide) (by decide)) (f2 _ (by decide) (by decide) (by decide)) (f2 _ (by decide) (by decide) (by decide)) (f2 _ (by decide) (by decide) (by decide))) (by rw [f2 _ (by decide) (by decide) (by decide)]; exact h5) (by rw [f2 _ (by decide) (by decide) (by decide)]; exact h6) c2 hA2 (fun u hu S' h => by show dgN (J2 116 S') u = 0; rw [c5 S' u (by omega) (by omega)]; exact hZ u (by omega) S' h) hP2
    refine ⟨M', J', ?_, g2, g3, g4, fun c h3 h4 h5 => by rw [g5 c h3 h4 h5, f2 c h3 h4 h5]⟩
    rw [jR_j] at g1
    rw [← g1, nI_t1, ← nI_m t, ← c1]
    have e2 : up2 (up2 M 115 0 (M 113 0)) 115 1 (up2 M 115 0 (M 113 0) 114 0) = M1 := by
      rw [up2_c (by decide)]
      exact hM1
    rw [q19_101]
    simp (disch := first | assumption | exact nar_b0 | exact nar_b1 | exact nar_b | exact Or.inl rfl | exact Or.inr rfl | exact zin_t (by omega) (by omega) | exact Nat.le_of_ble_eq_true rfl | (rw [nI_cl (by omega)]; assumption) | omega) only [q19_0, q19_1, q19_2, q19_5, q19_6, q19_7, q19_10, q19_11, q19_12, q19_15, q19_18, q19_19, q19_20, q19_21, q19_25, q19_26, q19_29, q19_30, q19_33, q19_35, q19_36, q19_37, q19_39, q19_42, q19_43, q19_46, q19_49, q19_50, q19_53, q19_54, q19_55, q19_57, q19_58, q19_61, q19_62, q19_64, q19_67, q19_68, q19_69, q19_72, q19_73, q19_74, q19_76, q19_77, q19_80, q19_81, q19_83, q19_86, q19_87, q19_90, q19_93, q19_94, q19_97, q19_98, q19_99, q19_103, q19_106, q19_107, q19_110, q19_111, q19_112, q19_115, q19_116, q19_117, q19_118, q19_119, q19_120, q19_121, q19_124, q19_125, q19_126, q19_129, q19_130, q19_131, q19_132, q19_133, q19_134, q19_135, q19_139, q19_140, q19_143, q19_145, q19_148, q19_150, q19_153, q19_154, q19_156, q19_158, q19_161, q19_164, q19_167, q19_170, q19_173, kl_int, kl_ref, kl_tok, cS_nil, cS_int, cS_ref, cS_long, tl_some, tl_none, List.cons_append, List.nil_append, nI_add, nI_ltb, nI_leb, nI_eqb, nI_cl, zin_nI, e2]
    rw [if_neg (by omega)]
def LokRel (M : ZM) (J : Nat → Nat → Int64) (bx se sp : Nat) (Fl : List P3) (bits T : Nat) : Prop := FldRel M se sp bx Fl ∧ (M 106 5 = nI T ∧ M 106 6 = nI bits ∧ T ≤ 9 ∧ bits < 1024) ∧ ValA M bx se sp Fl bits T 0 (2 ^ Fl.length) ∧ (∀ t', t' < T → ActA J bx se sp Fl bits T t' (2 ^ Fl.length)) ∧ PasA M bx se sp Fl bits T 0
theorem lookBack_ {T bits : Nat} (hT : T ≤ 9) (hbits : bits < 1024) (hS : Sh R) (hF : FldRel M se sp bx Fl) : ∃ M' J', cal (d + 2) 19 [.ref 106, .int (nI T), .int (nI bits)] M R = some (.inl none, M', jR R J') ∧ LokRel M' J' bx se sp Fl bits T ∧ ∀ c, c ≠ 106 → c ≠ 113 → c ≠ 114 → c ≠ 115 → M' c = M c := by
  obtain ⟨nN, k106, k107, k108, l108, k109, l109, k110, l110, k111, l111, k112, l112, k113, l113, k114, l114, k115, l115, k116, l116, k117, l117, f106_0, f107_0, f107_1, f109_0, f109_1, f106_1, f112_0, f112_1, f106_2, f106_3, f106_4⟩ := lokF hS
  have h2 := hF.1.1
  have hl := hF.2.2.1
  have hp := pow10 hl.1
  generalize hM1 : up2 (up2 M 106 5 (nI T)) 106 6 (nI bits) = M1
  have f1 : ∀ c, c ≠ 106 → M1 c = M c := fun c h => by rw [← hM1, up2_ne h, up2_ne h]
  have hF1 : FldRel M1 se sp bx Fl := hF.frame (f1 _ (by decide)) (f1 _ (by decide)) (f1 _ (by decide)) (f1 _ (by decide))
  have h5 : M1 106 5 = nI T := by rw [← hM1, up2_s (by decide), up2_at]
  have h6 : M1 106 6 = nI bits := by rw [← hM1, up2_at]
  obtain ⟨M2, J2, a1, a2, a3, a4⟩ := lookBack_A (d := d) (T := T) (bits := bits) hT (2 ^ Fl.length) 0 tok M1 R (by omega) hS hF1 h5 (fun S' h => absurd h (Nat.not_lt_zero _)) (fun S' h => absurd h (Nat.not_lt_zero _))
  have hF2 : FldRel M2 se sp bx Fl := hF1.frame (a3 _ (by decide) (by decide)) (a3 _ (by decide) (by decide)) (a3 _ (by decide) (by decide)) (a3 _ (by decide) (by decide))
  have hV2 : ValA M2 bx se sp Fl bits T T (2 ^ Fl.length) := by
    intro S' g1 g2 q hq
    rw [a2 S' g1 g2 q hq, if_pos g1, Nat.max_eq_left g2, tsl_end (Nat.le_refl _)]
    rfl
  obtain ⟨M', J', b1, b2, b3, b4, b5⟩ := lookBack_B (d := d) (T := T) (bits := bits) hT hbits T tok M2 (jR R J2) (Nat.le_refl _) hS.j hF2 (by rw [a3 _ (by decide) (by decide)]; exact h5) (by rw [a3 _ (by decide) (by decide)]; exact h6) hV2 (fun t' h1 h2 => absurd h2 (by omega)) (fun u _ S' h => by show dgN (J2 116 S') u = 0; rw [a4 S' h]; exact dgN_0) (fun h => absurd h (by omega))
  refine ⟨M', J', ?_, ⟨hF2.frame (b5 _ (by decide) (by decide) (by decide)) (b5 _ (by decide) (by decide) (by decide)) (b5 _ (by decide) (by decide) (by decide)) (b5 _ (by decide) (by decide) (by decide)), ⟨by rw [b5 _ (by decide) (by decide) (by decide), a3 _ (by decide) (by decide)]; exact h5, by rw [b5 _ (by decide) (by decide) (by decide), a3 _ (by decide) (by decide)]; exact h6, hT, hbits⟩, b2, b3, b4⟩, fun c h0 h3 h4 h5 => by rw [b5 c h3 h4 h5, a3 c h3 h4, f1 c h0]⟩
  rw [jR_j] at b1
  rw [← b1, ← nI_m, ← a1, e19]
  have e3 : M1 107 2 = nI Fl.length := by rw [f1 _ (by decide)]; exact h2
  simp (disch := first | assumption | exact nar_b0 | exact nar_b1 | exact nar_b | exact Or.inl rfl | exact Or.inr rfl | exact zin_t (by omega) (by omega) | exact Nat.le_of_ble_eq_true rfl | (rw [nI_cl (by omega)]; assumption) | omega) only [q19_0, q19_1, q19_2, q19_5, q19_6, q19_7, q19_10, q19_11, q19_12, q19_15, q19_18, q19_19, q19_20, q19_21, q19_25, q19_26, q19_29, q19_30, q19_33, q19_35, q19_36, q19_37, q19_39, q19_42, q19_43, q19_46, q19_49, q19_50, q19_53, q19_54, q19_55, q19_57, q19_58, q19_61, q19_62, q19_64, q19_67, q19_68, q19_69, q19_72, q19_73, q19_74, q19_76, q19_77, q19_80, q19_81, q19_83, q19_86, q19_87, q19_90, q19_93, q19_94, q19_97, q19_98, q19_99, q19_103, q19_106, q19_107, q19_110, q19_111, q19_112, q19_115, q19_116, q19_117, q19_118, q19_119, q19_120, q19_121, q19_124, q19_125, q19_126, q19_129, q19_130, q19_131, q19_132, q19_133, q19_134, q19_135, q19_139, q19_140, q19_143, q19_145, q19_148, q19_150, q19_153, q19_154, q19_156, q19_158, q19_161, q19_164, q19_167, q19_170, q19_173, kl_int, kl_ref, kl_tok, cS_nil, cS_int, cS_ref, cS_long, tl_some, tl_none, List.cons_append, List.nil_append, nI_add, nI_ltb, nI_leb, nI_eqb, nI_cl, zin_nI, hM1, e3, nI_shl, Nat.one_mul]
end Lk
