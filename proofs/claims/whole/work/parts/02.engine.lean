-- THE SMALL MACHINE. Heap: ints M (cell, slot); and R: references, longs, shapes (kind, length), next cell, cells and slots made so far
abbrev ZH : Type := (Nat → Nat → Option Nat) × (Nat → Nat → Int64) × (Nat → Nat × Nat) × Nat × Nat × Nat
abbrev ZM : Type := Nat → Nat → Int32
abbrev Hp : Type := ZM × ZH
def zRf (R : ZH) (a k : Nat) : Option Nat := R.1 a k
def zJ (R : ZH) (a k : Nat) : Int64 := R.2.1 a k
def zK (R : ZH) (a : Nat) : Nat := (R.2.2.1 a).1
def zLn (R : ZH) (a : Nat) : Nat := (R.2.2.1 a).2
def zN (R : ZH) : Nat := R.2.2.2.1
def zC (R : ZH) : Nat := R.2.2.2.2.1
def zL (R : ZH) : Nat := R.2.2.2.2.2
def up2 (M : ZM) (a k : Nat) (v : Int32) : ZM := fun b j => if b = a ∧ j = k then v else M b j
def sRf (R : ZH) (a k : Nat) (v : Option Nat) : ZH := (fun b j => if b = a ∧ j = k then v else R.1 b j, R.2)
def sJ (R : ZH) (a k : Nat) (v : Int64) : ZH := (R.1, fun b j => if b = a ∧ j = k then v else R.2.1 b j, R.2.2)
def nwM (M : ZM) (x : Nat) : ZM := fun b j => if b = x then 0 else M b j
def nwR (R : ZH) (kd len : Nat) : ZH := (fun b j => if b = zN R then none else R.1 b j, fun b j => if b = zN R then 0 else R.2.1 b j, fun b => if b = zN R then (kd, len) else R.2.2.1 b, zN R + 1, zC R + 1, zL R + len)
def thR (R : ZH) : ZH := (R.1, R.2.1, R.2.2.1, zN R, zC R + 1, zL R + 6)
-- int[2][len]: the outer one, then its rows
def mnM (M : ZM) (x n : Nat) : ZM := fun b j => if x ≤ b ∧ b < x + 1 + n then 0 else M b j
def mnR (R : ZH) (n len : Nat) : ZH := (fun b j => if b = zN R then (if j < n then some (zN R + 1 + j) else none) else if zN R < b ∧ b < zN R + 1 + n then none else R.1 b j, fun b j => if zN R ≤ b ∧ b < zN R + 1 + n then 0 else R.2.1 b j, fun b => if b = zN R then (16, n) else if zN R < b ∧ b < zN R + 1 + n then (11, len) else R.2.2.1 b, zN R + 1 + n, zC R + 1 + n, zL R + n + n * len)
def cpM (M : ZM) (a b sp dp n : Nat) : ZM := fun c j => if c = b ∧ dp ≤ j ∧ j < dp + n then M a (sp + (j - dp)) else M c j
abbrev tok : Value := .retAddr 0
def okV (nx : Nat) (v : Value) : Bool := match v with
  | .ref a => decide (a < nx) || decide (1000000 ≤ a)
  | _ => true
def kl (v : Value) : Value := if v.category = 2 then tok else v
def stB (lv : List Value) (i : Nat) : List Value := match i with
  | 0 => lv
  | j + 1 => lv.set j (kl (lv.getD j tok))
def cS (st : List Value) : Nat := (st.map fun v => v.category).sum
abbrev ZS : Type := Nat × List Value × List Value × Hp
abbrev ZO : Type := (Option Value ⊕ String) × Hp
abbrev ZR : Type := Option (ZS ⊕ (ZO ⊕ (Nat × List Value × Bool × ZS)))
def zgo (pc : Nat) (lv st : List Value) (h : Hp) : ZR := some (.inl (pc, lv, st, h))
def zst (lv : List Value) (i : Nat) (v : Value) (pc : Nat) (st : List Value) (h : Hp) : ZR := if i < lv.length then zgo pc ((stB lv i).set i v) st h else none
def zst2 (lv : List Value) (i : Nat) (v : Value) (pc : Nat) (st : List Value) (h : Hp) : ZR := if i + 1 < lv.length then zgo pc (((stB lv i).set i v).set (i + 1) tok) st h else none
def zbr (c : Bool) (pc n : Nat) (off : Int) (lv st : List Value) (h : Hp) : ZR := if 0 ≤ (pc : Int) + off then (if c then zgo ((pc : Int) + off).toNat lv st h else zgo (pc + n) lv st h) else none
def zcnd (c : ClassFile.Cond) (x y : Int32) : Bool := match c with
  | .eq => decide (x = y)
  | .ne => decide (¬ x = y)
  | .lt => decide (x < y)
  | .ge => decide (y ≤ x)
  | .gt => decide (y < x)
  | .le => decide (x ≤ y)
-- the tables of the program, written below by program: methods, pools

def mtab_0 : List (MethodName × ByteArray × Nat × Option FieldType × Nat) := [(yX0_init, cX0_init, 1, none, 0), (yX0_seek, cX0_seek, 7, none, 0), (yX0_listSets, cX0_listSets, 5, (some .int), 0), (yX0_mostWith, cX0_mostWith, 6, (some .int), 0), (yX0_gatherRests, cX0_gatherRests, 7, none, 0), (yX1_init, cX1_init, 1, none, 1), (yX1_add, cX1_add, 4, none, 1), (yX1_isTold, cX1_isTold, 1, (some .boolean), 1), (yX1_holds, cX1_holds, 6, (some .boolean), 1), (yX1_compares, cX1_compares, 6, (some .boolean), 1), (yX1_numberOf, cX1_numberOf, 3, (some .int), 1), (yX2_init, cX2_init, 1, none, 2), (yX2_take, cX2_take, 5, none, 2), (yX2_placeOf, cX2_placeOf, 3, (some .int), 2), (yX2_endWorth, cX2_endWorth, 7, (some .int), 2), (yX2_strikable, cX2_strikable, 1, (some .int), 2), (yX2_plainAct, cX2_plainAct, 8, (some .int), 2), (yX2_numbersOf, cX2_numbersOf, 4, (some .int), 2), (yX3_init, cX3_init, 1, none, 3), (yX3_lookBack, cX3_lookBack, 6, none, 3), (yX3_choose, cX3_choose, 11, none, 3), (yX3_whom, cX3_whom, 4, (some .int), 3), (yX3_valueBehind, cX3_valueBehind, 3, (some .int), 3), (yX3_struckAfter, cX3_struckAfter, 8, (some .int), 3), (yX3_howManyStates, cX3_howManyStates, 4, (some .int), 3), (yX3_reachOn, cX3_reachOn, 3, (some .int), 3), (yX3_reachFrom, cX3_reachFrom, 4, none, 3), (yX4_init, cX4_init, 1, none, 4), (yX4_read, cX4_read, 4, (some .int), 4), (yX4_hear, cX4_hear, 5, none, 4), (yX4_isCause, cX4_isCause, 4, (some .boolean), 4), (yX4_fail, cX4_fail, 3, (some .boolean), 4), (yX4_readLine, cX4_readLine, 3, (some .boolean), 4), (yX4_isFirst, cX4_isFirst, 3, (some .boolean), 4), (yX4_readJuror, cX4_readJuror, 4, (some .boolean), 4), (yX4_readTales, cX4_readTales, 4, (some .boolean), 4), (yX4_readPerson, cX4_readPerson, 3, (some .boolean), 4), (yX4_readSeats, cX4_readSeats, 3, (some .boolean), 4), (yX4_readSpare, cX4_readSpare, 3, (some .boolean), 4), (yX4_readGrant, cX4_readGrant, 2, (some .boolean), 4)]
def mtab_1 : List (MethodName × ByteArray × Nat × Option FieldType × Nat) := [(yX4_readTurns, cX4_readTurns, 4, (some .boolean), 4), (yX4_readSideOfCause, cX4_readSideOfCause, 2, (some .boolean), 4), (yX4_readAny, cX4_readAny, 4, (some .boolean), 4), (yX4_readEach, cX4_readEach, 4, (some .boolean), 4), (yX4_readOne, cX4_readOne, 6, (some .boolean), 4), (yX4_readComparison, cX4_readComparison, 4, (some .boolean), 4), (yX4_readOperand, cX4_readOperand, 1, (some .boolean), 4), (yX4_readNumber, cX4_readNumber, 8, (some .boolean), 4), (yX4_readSign, cX4_readSign, 2, (some .boolean), 4), (yX4_skipBlanks, cX4_skipBlanks, 2, none, 4), (yX4_isHere, cX4_isHere, 2, (some .boolean), 4), (yX4_sideHere, cX4_sideHere, 1, (some .int), 4), (yX4_takeWord, cX4_takeWord, 4, (some .boolean), 4), (yX5_init, cX5_init, 1, none, 5), (yX5_clear, cX5_clear, 1, none, 5), (yX5_copyFrom, cX5_copyFrom, 2, none, 5), (yX5_people, cX5_people, 1, (some .int), 5), (yX5_fillRow, cX5_fillRow, 2, none, 5), (yX5_movePerson, cX5_movePerson, 3, none, 5), (yX5_addToRow, cX5_addToRow, 2, none, 5), (yX5_placeInRow, cX5_placeInRow, 3, (some .int), 5), (yX5_isStruck, cX5_isStruck, 2, (some .boolean), 5), (yX5_howManyStruck, cX5_howManyStruck, 3, (some .int), 5), (yX5_unstruck, cX5_unstruck, 4, (some .int), 5), (yX5_isInBox, cX5_isInBox, 3, (some .boolean), 5), (yX5_mayStrike, cX5_mayStrike, 2, (some .boolean), 5), (yX5_endTurn, cX5_endTurn, 1, none, 5), (yX6_init, cX6_init, 2, none, 6), (yX6_feed, cX6_feed, 6, (some .int), 6), (yX6_text, cX6_text, 4, (some .int), 6), (yX6_fault, cX6_fault, 1, (some .int), 6), (yX6_strike, cX6_strike, 3, (some .int), 6), (yX6_pass, cX6_pass, 1, (some .int), 6), (yX6_rule, cX6_rule, 5, (some .int), 6), (yX6_order, cX6_order, 5, (some .int), 6), (yX6_undo, cX6_undo, 1, (some .int), 6), (yX6_told, cX6_told, 2, (some .int), 6), (yX6_juror, cX6_juror, 3, (some .int), 6), (yX6_seat, cX6_seat, 3, (some .int), 6), (yX6_turn, cX6_turn, 2, (some .int), 6)]
def mtab_2 : List (MethodName × ByteArray × Nat × Option FieldType × Nat) := [(yX6_worth, cX6_worth, 2, (some .int), 6), (yX6_value, cX6_value, 2, (some .int), 6), (yX6_best, cX6_best, 1, (some .int), 6), (yX6_line, cX6_line, 2, (some .int), 6), (yX6_cost, cX6_cost, 3, (some .int), 6), (yX6_states, cX6_states, 1, (some .int), 6), (yX6_more, cX6_more, 4, (some .int), 6), (yX6_other, cX6_other, 3, (some .int), 6), (yX6_without, cX6_without, 3, (some .int), 6), (yX6_plain, cX6_plain, 3, (some .int), 6), (yX6_once, cX6_once, 4, (some .int), 6), (yX6_count, cX6_count, 8, (some .int), 6), (yX6_print, cX6_print, 4, (some .long), 6), (yX6_status, cX6_status, 2, (some .int), 6), (yX6_needSide, cX6_needSide, 2, none, 6), (yX6_needInRow, cX6_needInRow, 2, none, 6), (yX6_needTurn, cX6_needTurn, 2, none, 6), (yX6_isRule, cX6_isRule, 2, (some .boolean), 6), (yX6_putNumber, cX6_putNumber, 3, none, 6), (yX6_freeTable, cX6_freeTable, 1, (some (.object "StrikeBench$Table")), 6), (yX6_copyOfNow, cX6_copyOfNow, 2, (some (.object "StrikeBench$Table")), 6), (yX6_keepAct, cX6_keepAct, 1, none, 6), (yX6_moveTo, cX6_moveTo, 2, none, 6), (yX6_lookAhead, cX6_lookAhead, 1, none, 6), (yX6_valueIf, cX6_valueIf, 5, (some .int), 6), (yX7_thrown, cX7_thrown, 1, (some .int), 7), (yX7_isFine, cX7_isFine, 4, (some .boolean), 7), (yX7_lies, cX7_lies, 6, (some .boolean), 7), (yX7_has, cX7_has, 2, (some .boolean), 7), (yX7_init, cX7_init, 1, none, 7), (yX7_begins, cX7_begins, 2, none, 7), (yX7_keeps, cX7_keeps, 2, none, 7), (yX7_undo, cX7_undo, 2, (some .int), 7), (yX7_feed, cX7_feed, 6, (some .int), 7), (yX7_puts, cX7_puts, 3, none, 7), (yX7_wrong, cX7_wrong, 3, none, 7), (yX7_sign, cX7_sign, 1, (some .int), 7), (yX7_isSmall, cX7_isSmall, 2, (some .boolean), 7), (yX7_isFigure, cX7_isFigure, 2, (some .boolean), 7), (yX7_isHere, cX7_isHere, 3, (some .boolean), 7)]
def mtab_3 : List (MethodName × ByteArray × Nat × Option FieldType × Nat) := [(yX7_passesWord, cX7_passesWord, 2, (some .boolean), 7), (yX7_passes, cX7_passes, 2, (some .boolean), 7), (yX7_needs, cX7_needs, 2, none, 7), (yX7_number, cX7_number, 6, (some .int), 7), (yX7_adds, cX7_adds, 2, none, 7), (yX7_field, cX7_field, 1, (some (.object "java/lang/String")), 7), (yX7_either, cX7_either, 1, none, 7), (yX7_both, cX7_both, 1, none, 7), (yX7_opens, cX7_opens, 2, (some .boolean), 7), (yX7_part, cX7_part, 2, none, 7), (yX7_quantity, cX7_quantity, 2, none, 7), (yX7_condition, cX7_condition, 2, none, 7), (yX7_isOnce, cX7_isOnce, 3, (some .boolean), 7), (yX7_person, cX7_person, 6, none, 7), (yX7_tales, cX7_tales, 2, none, 7), (yX7_turnsRead, cX7_turnsRead, 3, none, 7), (yX7_causeRead, cX7_causeRead, 3, none, 7), (yX7_lineRead, cX7_lineRead, 1, none, 7), (yX7_text, cX7_text, 3, (some .int), 7), (yX7_fault, cX7_fault, 1, (some .int), 7), (yX7_fieldOf, cX7_fieldOf, 3, (some .int), 7), (yX7_holds, cX7_holds, 9, (some .boolean), 7), (yX7_lays, cX7_lays, 7, none, 7), (yX7_joins, cX7_joins, 2, none, 7), (yX7_laysGame, cX7_laysGame, 2, none, 7), (yX7_struckNow, cX7_struckNow, 3, (some .int), 7), (yX7_worthTo, cX7_worthTo, 3, (some .int), 7), (yX7_aheadOf, cX7_aheadOf, 5, (some .int), 7), (yX7_isBoxed, cX7_isBoxed, 3, (some .boolean), 7), (yX7_isSpare, cX7_isSpare, 3, (some .boolean), 7), (yX7_endWorth, cX7_endWorth, 5, (some .int), 7), (yX7_canStrike, cX7_canStrike, 3, (some .boolean), 7), (yX7_works, cX7_works, 3, none, 7), (yX7_valueAt, cX7_valueAt, 4, (some .int), 7), (yX7_look, cX7_look, 11, none, 7), (yX7_worksNow, cX7_worksNow, 1, none, 7), (yX7_placeOf, cX7_placeOf, 3, (some .int), 7), (yX7_isAct, cX7_isAct, 2, (some .boolean), 7), (yX7_goesOn, cX7_goesOn, 1, none, 7), (yX7_strike, cX7_strike, 2, (some .int), 7)]
def mtab_4 : List (MethodName × ByteArray × Nat × Option FieldType × Nat) := [(yX7_pass, cX7_pass, 1, (some .int), 7), (yX7_rule, cX7_rule, 5, (some .int), 7), (yX7_order, cX7_order, 4, (some .int), 7), (yX7_excused, cX7_excused, 3, (some .int), 7), (yX7_struckMany, cX7_struckMany, 3, (some .int), 7), (yX7_told, cX7_told, 2, (some .int), 7), (yX7_juror, cX7_juror, 4, (some .int), 7), (yX7_seat, cX7_seat, 6, (some .int), 7), (yX7_turn, cX7_turn, 2, (some .int), 7), (yX7_isSide, cX7_isSide, 3, (some .boolean), 7), (yX7_worth, cX7_worth, 2, (some .int), 7), (yX7_value, cX7_value, 2, (some .int), 7), (yX7_lineAt, cX7_lineAt, 5, (some .int), 7), (yX7_best, cX7_best, 1, (some .int), 7), (yX7_line, cX7_line, 2, (some .int), 7), (yX7_cost, cX7_cost, 4, (some .int), 7), (yX7_states, cX7_states, 5, (some .int), 7), (yX7_more, cX7_more, 4, (some .int), 7), (yX7_other, cX7_other, 3, (some .int), 7), (yX7_without, cX7_without, 5, (some .int), 7), (yX7_plainAct, cX7_plainAct, 7, (some .int), 7), (yX7_plain, cX7_plain, 6, (some .int), 7), (yX7_leftOf, cX7_leftOf, 4, (some .int), 7), (yX7_bits, cX7_bits, 3, (some .int), 7), (yX7_canName, cX7_canName, 4, (some .boolean), 7), (yX7_numbers, cX7_numbers, 4, (some .int), 7), (yX7_once, cX7_once, 11, (some .int), 7), (yX7_laysBest, cX7_laysBest, 7, none, 7), (yX7_count, cX7_count, 7, (some .int), 7), (yX7_print, cX7_print, 4, (some .long), 7), (yX7_status, cX7_status, 2, (some .int), 7), (yJ6_bitCount_0f7a4, cJ6_bitCount_0f7a4, 1, (some .int), 10), (yJ0_length_8abf5, cJ0_length_8abf5, 1, (some .int), 8), (yJ0_charAt_5068e, cJ0_charAt_5068e, 2, (some .char), 8), (yJ0_coder_7d493, cJ0_coder_7d493, 1, (some .byte), 8), (yJ0_isLatin1_aae02, cJ0_isLatin1_aae02, 1, (some .boolean), 8), (yJ0_checkIndex_df160, cJ0_checkIndex_df160, 2, none, 8), (yJ1_charAt_3b067, cJ1_charAt_3b067, 2, (some .char), 12), (yJ7_fill_53178, cJ7_fill_53178, 4, none, 13), (yJ3_checkIndex_8e157, cJ3_checkIndex_8e157, 3, (some .int), 14)]
def mtab_5 : List (MethodName × ByteArray × Nat × Option FieldType × Nat) := [(yL_text, cL_text, 4, (some .int), 9), (yL_strike, cL_strike, 4, (some .int), 9), (yL_pass, cL_pass, 3, (some .int), 9), (yL_rule, cL_rule, 5, (some .int), 9), (yL_order, cL_order, 5, (some .int), 9), (yL_told, cL_told, 4, (some .int), 9), (yL_juror, cL_juror, 5, (some .int), 9), (yL_seat, cL_seat, 5, (some .int), 9), (yL_turn, cL_turn, 4, (some .int), 9), (yL_worth, cL_worth, 4, (some .int), 9), (yL_value, cL_value, 4, (some .int), 9), (yL_line, cL_line, 4, (some .int), 9), (yL_cost, cL_cost, 4, (some .int), 9), (yL_more, cL_more, 5, (some .int), 9), (yL_other, cL_other, 5, (some .int), 9), (yL_without, cL_without, 5, (some .int), 9), (yL_plain, cL_plain, 5, (some .int), 9), (yL_once, cL_once, 4, (some .int), 9), (yL_count, cL_count, 5, (some .int), 9), (yL_law, cL_law, 7, (some .boolean), 9), (yX3_actOf, cX3_actOf, 3, (some .int), 3), (yX6_seeField, cX6_seeField, 1, none, 6)]
def mtab : List (MethodName × ByteArray × Nat × Option FieldType × Nat) := mtab_0 ++ (mtab_1 ++ (mtab_2 ++ (mtab_3 ++ (mtab_4 ++ (mtab_5)))))
def zm (mi : Nat) : MethodName × ByteArray × Nat × Option FieldType × Nat := mtab.getD mi (yX0_init, cX0_init, 1, none, 0)
def zcod (mi : Nat) : ByteArray := (zm mi).2.1
def zmx (mi : Nat) : Nat := (zm mi).2.2.1
def zrt (mi : Nat) : Option FieldType := (zm mi).2.2.2.1
def zoc (mi : Nat) : Nat := (zm mi).2.2.2.2
def zcn : List String := ["StrikeBench$AtOnce", "StrikeBench$Clause", "StrikeBench$Field", "StrikeBench$Lookahead", "StrikeBench$Parser", "StrikeBench$Table", "StrikeBench", "StrikeBenchModel", "java/lang/String", "StrikeBenchLaw", "java/lang/Integer", "java/lang/Math", "java/lang/StringLatin1", "java/util/Arrays", "jdk/internal/util/Preconditions"]
def zpool_0 : List (Nat × Nat × Nat × Nat) := [(3, 10, 0, 0), (9, 5, 0, 0), (11, 1, 0, 0), (16, 1, 0, 1), (20, 1, 0, 2), (23, 1, 0, 3), (26, 1, 0, 4), (29, 1, 0, 5), (32, 1, 2, 2), (38, 17, 191, 1), (44, 2, 14, 2), (48, 17, 2, 3), (52, 17, 3, 4), (56, 2, 4, 3), (60, 12, 0, 0), (65, 6, 0, 0), (66, 17, 198, 2), (72, 2, 17, 1)]
def zpool_1 : List (Nat × Nat × Nat × Nat) := [(1, 10, 0, 0), (9, 1, 1, 0), (13, 1, 1, 1), (16, 1, 1, 2), (19, 1, 1, 3), (23, 2, 9, 3), (27, 17, 10, 3), (31, 1, 5, 0), (37, 1, 5, 1), (40, 1, 5, 2)]
def zpool_2 : List (Nat × Nat × Nat × Nat) := [(3, 10, 0, 0), (9, 1, 2, 0), (15, 5, 0, 0), (17, 1, 2, 1), (20, 1, 2, 2), (24, 1, 5, 10), (29, 1, 2, 3), (30, 1, 5, 11), (33, 1, 2, 4), (34, 1, 5, 12), (38, 1, 2, 5), (39, 1, 5, 9), (42, 1, 5, 5), (45, 2, 61, 1), (49, 1, 5, 0)]
def zpool_3 : List (Nat × Nat × Nat × Nat) := [(3, 10, 0, 0), (9, 3, 2, 6), (11, 16, 11, 0), (12, 1, 3, 0), (18, 5, 0, 0), (20, 1, 3, 1), (23, 1, 3, 2), (27, 1, 3, 3), (31, 1, 3, 4), (35, 1, 3, 5), (39, 1, 3, 6), (42, 1, 2, 2), (45, 17, 191, 1), (51, 2, 14, 2), (55, 2, 20, 2), (59, 2, 15, 0), (63, 7, 0, 0), (65, 6, 0, 0), (66, 2, 220, 2), (69, 1, 2, 0), (72, 2, 16, 2), (75, 2, 25, 0), (78, 2, 26, 1)]
def zpool_4 : List (Nat × Nat × Nat × Nat) := [(3, 10, 0, 0), (9, 1, 4, 0), (15, 3, 1, 4), (17, 16, 5, 0), (18, 1, 4, 1), (22, 1, 4, 2), (25, 1, 4, 3), (28, 1, 4, 4), (32, 1, 4, 5), (35, 1, 4, 7), (38, 1, 4, 8), (41, 1, 4, 9), (44, 1, 1, 3), (45, 2, 54, 0), (50, 2, 49, 0), (53, 2, 32, 1), (57, 2, 48, 1), (61, 1, 5, 6), (64, 2, 31, 2), (68, 2, 30, 3), (72, 1, 5, 3), (76, 1, 5, 8), (79, 2, 8, 2), (83, 2, 7, 0), (87, 1, 4, 10), (90, 8, 0, 0), (92, 2, 52, 1), (96, 2, 34, 2), (99, 8, 1, 0), (101, 2, 35, 2), (104, 8, 2, 0), (106, 2, 33, 2), (109, 2, 37, 1), (112, 8, 3, 0), (114, 2, 38, 1), (117, 8, 4, 0), (119, 2, 40, 1), (122, 8, 5, 0), (124, 1, 5, 12), (127, 8, 6, 0), (129, 2, 41, 0), (132, 1, 4, 6), (135, 2, 42, 2), (139, 8, 7, 0), (140, 8, 8, 0), (141, 2, 39, 0), (144, 2, 36, 2), (147, 1, 5, 7), (150, 2, 47, 2), (153, 1, 5, 0), (157, 1, 5, 1), (160, 1, 5, 2), (163, 1, 5, 10), (165, 1, 5, 11), (168, 2, 51, 0), (172, 1, 5, 14), (175, 1, 5, 13), (178, 2, 43, 2), (181, 8, 9, 0), (183, 2, 6, 3), (187, 2, 44, 2), (190, 8, 10, 0), (192, 8, 11, 0), (194, 2, 50, 1), (197, 2, 45, 1), (201, 2, 46, 0), (204, 8, 12, 0), (206, 8, 13, 0), (208, 8, 14, 0), (210, 8, 15, 0), (212, 8, 16, 0), (214, 13, 0, 0), (220, 2, 192, 0), (224, 2, 193, 1)]
def zpool_5 : List (Nat × Nat × Nat × Nat) := [(3, 10, 0, 0), (9, 5, 0, 0), (11, 1, 5, 0), (16, 1, 5, 1), (20, 1, 5, 2), (23, 1, 5, 3), (26, 1, 5, 4), (29, 1, 5, 5), (32, 2, 54, 0), (35, 17, 198, 2), (41, 1, 5, 6), (45, 1, 5, 7), (48, 1, 5, 8), (51, 1, 5, 9), (54, 1, 5, 10), (57, 1, 5, 11), (60, 1, 5, 12), (64, 1, 5, 13), (67, 1, 5, 14), (70, 11, 0, 0), (76, 2, 58, 2), (80, 2, 59, 1), (84, 2, 61, 1), (88, 6, 0, 0), (89, 2, 63, 1), (93, 2, 64, 1)]
def zpool_6 : List (Nat × Nat × Nat × Nat) := [(3, 10, 0, 0), (9, 3, 5, 15), (11, 1, 6, 2), (15, 16, 53, 0), (16, 1, 6, 4), (20, 1, 6, 6), (24, 3, 4, 11), (26, 16, 27, 0), (27, 1, 6, 10), (31, 1, 4, 0), (35, 1, 6, 0), (38, 3, 3, 7), (40, 16, 18, 0), (41, 1, 6, 12), (45, 1, 3, 0), (49, 1, 6, 11), (50, 3, 0, 6), (52, 16, 0, 0), (53, 1, 6, 14), (57, 1, 6, 1), (60, 2, 98, 1), (64, 1, 6, 8), (67, 9, 1, 0), (74, 2, 99, 0), (78, 2, 28, 2), (82, 1, 4, 10), (85, 2, 29, 1), (89, 2, 57, 0), (92, 2, 101, 0), (95, 1, 5, 9), (98, 2, 95, 1), (101, 2, 65, 1), (105, 1, 6, 9), (108, 9, 2, 0), (113, 2, 100, 0), (116, 1, 5, 4), (120, 1, 5, 14), (123, 2, 66, 0), (126, 1, 5, 13), (131, 17, 97, 2), (137, 1, 5, 10), (140, 1, 5, 11), (143, 1, 5, 12), (149, 1, 6, 5), (152, 1, 6, 3), (155, 2, 102, 1), (158, 1, 5, 6), (161, 1, 5, 7), (164, 1, 5, 8), (167, 2, 62, 0), (173, 2, 56, 0), (176, 1, 6, 7), (179, 9, 0, 0), (184, 1, 5, 0), (188, 1, 5, 1), (191, 1, 5, 2), (194, 1, 5, 3), (197, 2, 60, 1), (201, 2, 64, 1), (208, 6, 0, 0), (209, 2, 63, 1), (212, 2, 96, 1), (215, 2, 94, 1), (218, 2, 221, 0), (221, 2, 14, 2), (227, 2, 103, 0), (230, 1, 3, 1), (233, 2, 21, 2), (236, 2, 23, 2), (241, 2, 13, 1), (244, 2, 22, 2), (247, 2, 24, 1), (250, 2, 104, 4), (254, 2, 61, 1), (261, 1, 3, 5), (266, 17, 191, 1), (273, 1, 6, 15), (276, 2, 1, 3), (280, 1, 0, 5), (285, 1, 5, 5), (288, 7, 0, 0), (296, 2, 55, 1), (299, 1, 6, 13), (302, 2, 12, 2), (306, 2, 19, 2)]
def zpool_7 : List (Nat × Nat × Nat × Nat) := [(1, 1, 7, 0), (7, 1, 7, 1), (11, 10, 0, 0), (17, 1, 7, 2), (20, 1, 7, 3), (23, 1, 7, 4), (26, 1, 7, 6), (30, 1, 7, 7), (33, 1, 7, 14), (36, 1, 7, 17), (39, 1, 7, 18), (42, 1, 7, 19), (45, 1, 7, 22), (48, 1, 7, 24), (51, 1, 7, 25), (54, 1, 7, 26), (57, 1, 7, 29), (60, 1, 7, 30), (63, 1, 7, 31), (67, 1, 7, 32), (70, 1, 7, 33), (73, 17, 110, 1), (77, 1, 7, 5), (80, 1, 7, 8), (83, 2, 114, 1), (87, 1, 7, 12), (90, 1, 7, 13), (93, 1, 7, 10), (96, 1, 7, 9), (99, 2, 116, 0), (103, 2, 192, 0), (108, 2, 117, 1), (112, 2, 193, 1), (116, 2, 119, 1), (120, 2, 121, 1), (123, 2, 115, 2), (127, 1, 7, 11), (130, 2, 118, 1), (133, 6, 0, 0), (134, 13, 0, 0), (140, 17, 107, 3), (144, 1, 7, 20), (147, 8, 12, 0), (149, 8, 13, 0), (151, 8, 14, 0), (153, 8, 15, 0), (155, 8, 16, 0), (157, 2, 127, 0), (160, 8, 9, 0), (162, 2, 120, 1), (165, 2, 124, 1), (168, 2, 129, 0), (171, 8, 10, 0), (173, 1, 7, 15), (176, 8, 11, 0), (178, 2, 128, 1), (181, 2, 126, 0), (184, 2, 122, 1), (187, 2, 130, 0), (190, 17, 125, 1), (194, 2, 123, 3), (198, 1, 7, 16), (201, 17, 108, 2), (205, 1, 7, 23), (208, 2, 131, 1), (211, 8, 0, 0), (213, 2, 133, 4), (217, 8, 1, 0), (219, 2, 134, 0), (221, 8, 2, 0), (223, 2, 132, 2), (227, 8, 3, 0), (229, 8, 4, 0), (231, 2, 135, 0), (234, 8, 5, 0), (236, 8, 7, 0), (238, 8, 8, 0), (240, 1, 7, 21), (242, 8, 6, 0), (244, 2, 136, 0), (247, 2, 106, 3), (251, 2, 137, 0), (254, 2, 142, 0), (257, 2, 111, 0), (260, 2, 140, 2), (263, 2, 141, 2), (266, 2, 143, 1), (269, 1, 7, 27), (272, 1, 7, 28), (275, 2, 147, 2), (278, 2, 148, 2), (281, 2, 146, 2), (284, 2, 149, 2), (287, 2, 154, 2), (290, 2, 150, 2), (293, 2, 151, 2), (296, 2, 153, 3), (300, 2, 144, 0), (303, 2, 152, 0), (306, 2, 156, 1), (310, 2, 145, 0), (313, 2, 157, 1), (316, 2, 158, 0), (319, 7, 0, 0), (321, 7, 0, 0), (323, 7, 0, 0), (325, 12, 0, 0), (328, 7, 0, 0), (330, 2, 163, 0), (333, 2, 164, 0), (336, 7, 0, 0), (338, 6, 0, 0), (339, 2, 169, 2), (342, 2, 155, 0), (345, 2, 172, 1), (348, 2, 180, 2), (351, 17, 183, 1), (354, 2, 182, 1), (357, 7, 0, 0), (359, 2, 187, 4), (362, 2, 184, 3), (366, 2, 185, 1), (371, 6, 0, 0), (372, 7, 0, 0), (374, 7, 0, 0)]
def zpool_8 : List (Nat × Nat × Nat × Nat) := [(9, 1, 8, 0), (15, 1, 8, 1), (38, 14, 1, 0), (335, 2, 194, 0), (492, 2, 195, 0), (495, 17, 197, 2), (1053, 15, 0, 0), (1059, 17, 199, 3)]
def zpool_9 : List (Nat × Nat × Nat × Nat) := [(7, 2, 69, 1), (8, 3, 6, 16), (15, 2, 71, 1), (22, 2, 72, 0), (26, 2, 73, 2), (30, 2, 74, 2), (33, 2, 76, 1), (36, 2, 77, 2), (39, 2, 78, 2), (43, 2, 79, 1), (46, 2, 80, 1), (49, 2, 81, 1), (52, 2, 83, 1), (55, 2, 84, 1), (58, 2, 86, 2), (61, 2, 87, 2), (64, 2, 88, 2), (67, 2, 89, 2), (70, 2, 90, 1), (73, 2, 91, 2), (76, 16, 67, 0), (77, 3, 7, 34), (79, 16, 109, 0), (80, 2, 68, 5), (84, 2, 113, 5), (85, 17, 200, 3), (90, 2, 138, 1), (91, 2, 105, 0), (94, 2, 70, 0), (97, 2, 139, 0), (98, 17, 201, 3), (100, 2, 159, 1), (101, 17, 202, 2), (104, 2, 160, 0), (105, 17, 203, 4), (108, 2, 161, 2), (109, 17, 204, 4), (111, 2, 162, 2), (112, 2, 75, 0), (115, 2, 112, 0), (116, 17, 205, 3), (118, 2, 165, 1), (119, 17, 206, 4), (121, 2, 166, 2), (122, 17, 207, 4), (125, 2, 167, 2), (126, 17, 208, 3), (128, 2, 168, 1), (129, 17, 209, 3), (131, 2, 170, 1), (132, 17, 210, 3), (134, 2, 171, 1), (135, 2, 82, 0), (138, 2, 173, 0), (139, 17, 211, 3), (141, 2, 174, 1), (142, 17, 212, 3), (144, 2, 175, 1), (145, 2, 85, 0), (148, 2, 176, 0), (149, 17, 213, 4), (151, 2, 177, 2), (152, 17, 214, 4), (154, 2, 178, 2), (155, 17, 215, 4), (157, 2, 179, 2), (158, 17, 216, 4), (160, 2, 181, 2), (161, 17, 217, 3), (163, 2, 186, 1), (164, 17, 218, 4), (166, 2, 188, 2), (167, 2, 92, 0), (171, 2, 189, 0), (172, 2, 93, 1), (175, 2, 190, 1)]
def zpool_10 : List (Nat × Nat × Nat × Nat) := [(265, 6, 0, 0), (266, 6, 0, 0), (267, 6, 0, 0)]
def zpool_11 : List (Nat × Nat × Nat × Nat) := []
def zpool_12 : List (Nat × Nat × Nat × Nat) := [(9, 17, 196, 2)]
def zpool_13 : List (Nat × Nat × Nat × Nat) := []
def zpool_14 : List (Nat × Nat × Nat × Nat) := []
def zpool : List (List (Nat × Nat × Nat × Nat)) := [zpool_0, zpool_1, zpool_2, zpool_3, zpool_4, zpool_5, zpool_6, zpool_7, zpool_8, zpool_9, zpool_10, zpool_11, zpool_12, zpool_13, zpool_14]
def zp (oc idx : Nat) : Nat × Nat × Nat := match (zpool.getD oc []).find? (fun q => q.1 == idx) with
  | some q => q.2
  | none => (0, 0, 0)
def zkiT : List (Nat × Nat × Int32) := [(0, 65, -100000), (3, 65, -100000), (5, 88, -100000), (6, 208, -100000), (7, 133, 100000), (7, 338, -100000), (7, 371, -2147483648), (10, 265, 1431655765), (10, 266, 858993459), (10, 267, 252645135)]
def zki (oc idx : Nat) : Option Int32 := (zkiT.find? (fun q => q.1 == oc && q.2.1 == idx)).map (fun q => q.2.2)
def zklT : List (Nat × Nat × Int64) := [(3, 63, 15), (6, 288, 31), (7, 319, 6), (7, 321, 3), (7, 323, 8), (7, 328, 11), (7, 336, 7), (7, 357, 4), (7, 372, 2), (7, 374, 31)]
def zkl (oc idx : Nat) : Option Int64 := (zklT.find? (fun q => q.1 == oc && q.2.1 == idx)).map (fun q => q.2.2)
-- of fields: 0 int, 1 boolean, 2 a reference, 3 byte
def zftT : List (List Nat) := [[2, 2, 2, 2, 2, 2], [2, 2, 2, 0], [2, 2, 0, 0, 0, 1], [2, 2, 2, 2, 2, 0, 0], [2, 2, 2, 2, 0, 0, 0, 0, 0, 0, 0], [2, 2, 2, 2, 2, 2, 0, 0, 0, 0, 0, 0, 1, 0, 0], [2, 0, 2, 0, 2, 0, 0, 0, 0, 0, 2, 2, 2, 1, 2, 1], [0, 2, 2, 2, 2, 0, 2, 2, 0, 0, 0, 0, 0, 0, 0, 0, 0, 2, 2, 2, 0, 0, 2, 0, 2, 2, 2, 0, 0, 2, 2, 2, 2, 2], [2, 3]]
def zft (ci k : Nat) : Nat := (zftT.getD ci []).getD k 9
-- throws: method, pc, which exception, its text, its constructor, wide or not, its class
def zthT : List (Nat × Nat × Nat × Nat × Nat × Nat × Nat) := [(69, 22, 1, 69, 71, 0, 67), (71, 26, 2, 110, 112, 0, 108), (72, 20, 2, 129, 112, 0, 108), (73, 18, 1, 135, 71, 0, 67), (74, 31, 1, 147, 71, 0, 67), (76, 188, 1, 171, 71, 0, 67), (77, 25, 0, 181, 183, 0, 179), (77, 184, 1, 204, 71, 0, 67), (78, 14, 1, 206, 71, 0, 67), (83, 14, 1, 206, 71, 0, 67), (84, 49, 2, 239, 112, 0, 108), (88, 31, 2, 257, 112, 1, 108), (89, 24, 1, 259, 71, 1, 67), (90, 19, 1, 264, 71, 1, 67), (90, 71, 2, 271, 112, 1, 108), (91, 19, 1, 283, 71, 1, 67), (94, 19, 1, 290, 71, 1, 67), (95, 22, 0, 292, 183, 1, 179), (96, 25, 0, 294, 183, 1, 179)]
def zth (mi pc : Nat) : Option Nat := (zthT.find? (fun q => q.1 == mi && q.2.1 == pc)).map (fun q => q.2.2.1)
def zE (e : Nat) : String := match e with
  | 0 => "java/util/NoSuchElementException"
  | 1 => "java/lang/IllegalArgumentException"
  | _ => "java/lang/IllegalStateException"
-- catches: method, which exception, the handler, the pc behind its store, the local, the range, the pool entry
def zhnT : List (Nat × Nat × Nat × Nat × Nat × Nat × Nat × Nat) := [(200, 1, 12, 13, 3, 0, 9, 13), (201, 0, 12, 13, 3, 0, 9, 18), (201, 2, 15, 16, 3, 0, 9, 20), (202, 2, 11, 12, 2, 0, 8, 20), (203, 1, 13, 15, 4, 0, 10, 13), (204, 1, 13, 15, 4, 0, 10, 13), (205, 1, 12, 13, 3, 0, 9, 13), (206, 0, 13, 15, 4, 0, 10, 18), (206, 1, 17, 19, 4, 0, 10, 13), (207, 1, 13, 15, 4, 0, 10, 13), (208, 0, 12, 13, 3, 0, 9, 18), (209, 1, 12, 13, 3, 0, 9, 13), (210, 1, 12, 13, 3, 0, 9, 13), (211, 1, 12, 13, 3, 0, 9, 13), (212, 0, 12, 13, 3, 0, 9, 18), (212, 2, 15, 16, 3, 0, 9, 20), (213, 1, 13, 15, 4, 0, 10, 13), (214, 0, 13, 15, 4, 0, 10, 18), (214, 1, 17, 19, 4, 0, 10, 13), (215, 0, 13, 15, 4, 0, 10, 18), (215, 1, 17, 19, 4, 0, 10, 13), (215, 2, 21, 23, 4, 0, 10, 20), (216, 1, 13, 15, 4, 0, 10, 13), (217, 1, 12, 13, 3, 0, 9, 13), (217, 2, 15, 16, 3, 0, 9, 20), (218, 1, 13, 15, 4, 0, 10, 13)]
def zhn (mi pc : Nat) (E : String) : Option (Nat × Nat) := (zhnT.find? (fun q => q.1 == mi && zE q.2.1 == E && decide (q.2.2.2.2.2.1 ≤ pc) && decide (pc < q.2.2.2.2.2.2.1))).map (fun q => (q.2.2.2.1, q.2.2.2.2.1))
-- one instruction
def zlay (vs : List Value) : List Value := match vs with
  | [] => []
  | v :: r => if v.category = 2 then v :: tok :: zlay r else v :: zlay r
def zent (cm : Nat) (vs : List Value) : List Value := zlay vs ++ List.replicate (zmx cm - (zlay vs).length) tok
def zin (i : Int32) (n : Nat) : Bool := !decide (i < 0) && decide (i.toNatClampNeg < n)
def zlen (i : Instr) : Nat := match i with
  | .iload _ | .aload _ | .lload _ | .istore _ | .astore _ | .lstore _ | .bipush _ | .ldc _ | .newarray _ => 2
  | .sipush _ | .ldc_w _ | .ldc2_w _ | .iinc _ _ | .ifCond _ _ | .if_icmp _ _ | .goto _ | .getfield _ | .putfield _ | .getstatic _ | .invokevirtual _ | .invokespecial _ | .invokestatic _ | .new _ | .anewarray _ => 3
  | .multianewarray _ _ => 4
  | _ => 1
def zload (lv : List Value) (i : Nat) (k : Nat) (pc : Nat) (st : List Value) (h : Hp) : ZR := match k, lv[i]? with
  | 0, some (.int x) => zgo pc lv (.int x :: st) h
  | 1, some (.ref x) => zgo pc lv (.ref x :: st) h
  | 2, some (.long x) => zgo pc lv (.long x :: st) h
  | _, _ => none
def zii (f : Int32 → Int32 → Int32) (pc : Nat) (lv st : List Value) (h : Hp) : ZR := match st with
  | .int y :: .int x :: r => zgo pc lv (.int (f x y) :: r) h
  | _ => none
def zll (f : Int64 → Int64 → Int64) (pc : Nat) (lv st : List Value) (h : Hp) : ZR := match st with
  | .long y :: .long x :: r => zgo pc lv (.long (f x y) :: r) h
  | _ => none
def zli (f : Int64 → Int32 → Int64) (pc : Nat) (lv st : List Value) (h : Hp) : ZR := match st with
  | .int y :: .long x :: r => zgo pc lv (.long (f x y) :: r) h
  | _ => none
def zl1 (f : Int64 → Value) (pc : Nat) (lv st : List Value) (h : Hp) : ZR := match st with
  | .long x :: r => zgo pc lv (f x :: r) h
  | _ => none
def zi1 (f : Int32 → Value) (pc : Nat) (lv st : List Value) (h : Hp) : ZR := match st with
  | .int x :: r => zgo pc lv (f x :: r) h
  | _ => none
def zget (oc idx : Nat) (pc : Nat) (lv st : List Value) (h : Hp) : ZR := match zp oc idx, st with
  | (1, ci, k), .ref a :: r => if zK h.2 a = ci + 1 then (if zft ci k = 2 then (match zRf h.2 a k with
      | some b => zgo pc lv (.ref b :: r) h
      | none => none) else if zft ci k = 9 then none else zgo pc lv (.int (h.1 a k) :: r) h) else none
  | _, _ => none
def TX8 : u_T := fun k => match k with
  | 0 => ("java/lang/String", "value", "[B", true)
  | _ => ("java/lang/String", "coder", "B", true)
def zTT (ci : Nat) : u_T := match ci with
  | 0 => TX0
  | 1 => TX1
  | 2 => TX2
  | 3 => TX3
  | 4 => TX4
  | 5 => TX5
  | 6 => TX6
  | 7 => TX7
  | _ => TX8
def zyn (cm : Nat) : MethodName := (zm cm).1
/-- a final field is written by its own class's constructors alone -/
def zfn (mi ci k : Nat) : Bool := !(zTT ci k).2.2.2 || (decide ((zyn mi).name = "<init>") && decide (zoc mi = ci))
def zput (mi oc idx : Nat) (pc : Nat) (lv st : List Value) (h : Hp) : ZR := match zp oc idx, st with
  | (1, ci, k), .int x :: .ref a :: r => if zK h.2 a = ci + 1 ∧ a < zN h.2 ∧ (zft ci k = 0 ∨ (zft ci k = 1 ∧ (x = 0 ∨ x = 1))) then zgo pc lv r (up2 h.1 a k x, h.2) else none
  | (1, ci, k), .ref b :: .ref a :: r => if zK h.2 a = ci + 1 ∧ a < zN h.2 ∧ zft ci k = 2 ∧ okV (zN h.2) (.ref b) = true ∧ zfn mi ci k = true then zgo pc lv r (h.1, sRf h.2 a k (some b)) else none
  | _, _ => none
def zcallV (oc idx : Nat) (pc : Nat) (lv st : List Value) (h : Hp) : ZR := match zp oc idx with
  | (2, cm, n) => if cS (st.drop (n + 1)) ≤ 8 then (match st[n]? with
      | some (.ref a) => if zK h.2 a = zoc cm + 1 then some (.inr (.inr (cm, (st.take (n + 1)).reverse, false, (pc, lv, st.drop (n + 1), h)))) else none
      | _ => none) else none
  | _ => none
def zcallI (oc idx : Nat) (pc : Nat) (lv st : List Value) (h : Hp) : ZR := match zp oc idx with
  | (16, cm, n) => if cS (st.drop (n + 1)) ≤ 8 then (match st[n]? with
      | some (.ref a) => if zK h.2 a = zoc cm + 1 ∧ a < zN h.2 then some (.inr (.inr (cm, (st.take (n + 1)).reverse, true, (pc, lv, st.drop (n + 1), h)))) else none
      | _ => none) else none
  | (10, _, _) => (match st with
    | .ref _ :: r => if cS r ≤ 8 then zgo pc lv r h else none
    | _ => none)
  | _ => none
def zcallS (oc idx : Nat) (pc : Nat) (lv st : List Value) (h : Hp) : ZR := match zp oc idx with
  | (17, cm, n) => if cS (st.drop n) ≤ 8 ∧ n ≤ st.length then some (.inr (.inr (cm, (st.take n).reverse, false, (pc, lv, st.drop n, h)))) else none
  | (11, _, _) => (match st with
    | .int n :: .int dp :: .ref b :: .int sp :: .ref a :: r => if zK h.2 a = 11 ∧ zK h.2 b = 11 ∧ a < zN h.2 ∧ b < zN h.2 ∧ ¬ sp < 0 ∧ ¬ dp < 0 ∧ ¬ n < 0 ∧ sp.toNatClampNeg + n.toNatClampNeg ≤ zLn h.2 a ∧ dp.toNatClampNeg + n.toNatClampNeg ≤ zLn h.2 b ∧ cS r ≤ 8 then zgo pc lv r (cpM h.1 a b sp.toNatClampNeg dp.toNatClampNeg n.toNatClampNeg, h.2) else none
    | _ => none)
  | (12, _, _) => (match st with
    | .int y :: .int x :: r => if cS r ≤ 8 then zgo pc lv (.int (if x < y then y else x) :: r) h else none
    | _ => none)
  | (13, _, _) => (match st with
    | .int y :: .int x :: r => if cS r ≤ 8 then zgo pc lv (.int (if y < x then y else x) :: r) h else none
    | _ => none)
  | _ => none
def znew (mi oc idx : Nat) (pc0 pc : Nat) (lv st : List Value) (h : Hp) : ZR := match zp oc idx with
  | (3, ci, n) => if (lv ++ st).all (okV (zN h.2)) = true ∧ zN h.2 < 1000 then zgo pc lv (.ref (zN h.2) :: st) (nwM h.1 (zN h.2), nwR h.2 (ci + 1) n) else none
  | (9, _, _) => match zth mi pc0 with
    | some e => if cS st ≤ 8 then some (.inr (.inl (.inr (zE e), (h.1, thR h.2)))) else none
    | none => none
  | _ => none
def znwa (kd : Nat) (pc : Nat) (lv st : List Value) (h : Hp) : ZR := match st with
  | .int n :: r => if ¬ n < 0 ∧ n.toNatClampNeg ≤ 100000 ∧ (lv ++ r).all (okV (zN h.2)) = true ∧ zN h.2 < 1000 then zgo pc lv (.ref (zN h.2) :: r) (nwM h.1 (zN h.2), nwR h.2 kd n.toNatClampNeg) else none
  | _ => none
def zmna (pc : Nat) (lv st : List Value) (h : Hp) : ZR := match st with
  | .int k :: .int n :: r => if n = 2 ∧ ¬ k < 0 ∧ k.toNatClampNeg ≤ 100000 ∧ (lv ++ r).all (okV (zN h.2)) = true ∧ zN h.2 < 1000 then zgo pc lv (.ref (zN h.2) :: r) (mnM h.1 (zN h.2) 2, mnR h.2 2 k.toNatClampNeg) else none
  | _ => none
def zald (k : Nat) (pc : Nat) (lv st : List Value) (h : Hp) : ZR := match st with
  | .int i :: .ref a :: r => if zin i (zLn h.2 a) = true then
      (if (k = 0 ∧ zK h.2 a = 11) ∨ (k = 1 ∧ (zK h.2 a = 12 ∨ zK h.2 a = 13)) then zgo pc lv (.int (h.1 a i.toNatClampNeg) :: r) h
       else if k = 2 ∧ zK h.2 a = 14 then zgo pc lv (.long (zJ h.2 a i.toNatClampNeg) :: r) h
       else if k = 3 ∧ (zK h.2 a = 15 ∨ zK h.2 a = 16) then (match zRf h.2 a i.toNatClampNeg with
        | some b => zgo pc lv (.ref b :: r) h
        | none => none)
       else none) else none
  | _ => none
def zast (k : Nat) (pc : Nat) (lv st : List Value) (h : Hp) : ZR := match st with
  | .int x :: .int i :: .ref a :: r => if zin i (zLn h.2 a) = true ∧ a < zN h.2 then
      (if k = 0 ∧ zK h.2 a = 11 then zgo pc lv r (up2 h.1 a i.toNatClampNeg x, h.2)
       else if k = 1 ∧ zK h.2 a = 12 then zgo pc lv r (up2 h.1 a i.toNatClampNeg (vp_nar .byte x), h.2)
       else if k = 1 ∧ zK h.2 a = 13 then zgo pc lv r (up2 h.1 a i.toNatClampNeg (vp_nar .boolean x), h.2)
       else none) else none
  | .long x :: .int i :: .ref a :: r => if zin i (zLn h.2 a) = true ∧ a < zN h.2 ∧ k = 2 ∧ zK h.2 a = 14 then zgo pc lv r (h.1, sJ h.2 a i.toNatClampNeg x) else none
  | .ref b :: .int i :: .ref a :: r => if zin i (zLn h.2 a) = true ∧ a < zN h.2 ∧ k = 3 ∧ zK h.2 a = 15 ∧ zK h.2 b = 6 ∧ b < zN h.2 then zgo pc lv r (h.1, sRf h.2 a i.toNatClampNeg (some b)) else none
  | _ => none
def zalen (pc : Nat) (lv st : List Value) (h : Hp) : ZR := match st with
  | .ref a :: r => if 11 ≤ zK h.2 a ∧ zK h.2 a ≤ 16 then zgo pc lv (.int (nI (zLn h.2 a)) :: r) h else none
  | _ => none
def zret (mi : Nat) (k : Nat) (st : List Value) (h : Hp) : ZR := match k, st with
  | 0, [.int v] => (match zrt mi with
    | some ty => if narrow ty (.int v) = .int v then some (.inr (.inl (.inl (some (.int v)), h))) else none
    | none => none)
  | 1, [.ref a] => (match zrt mi with
    | some (.object _) => some (.inr (.inl (.inl (some (.ref a)), h)))
    | _ => none)
  | 2, [.long v] => if zrt mi = some .long then some (.inr (.inl (.inl (some (.long v)), h))) else none
  | 3, [] => if zrt mi = none then some (.inr (.inl (.inl none, h))) else none
  | _, _ => none
def zldc (oc idx : Nat) (pc : Nat) (lv st : List Value) (h : Hp) : ZR := match zp oc idx with
  | (6, _, _) => (match zki oc idx with
    | some v => zgo pc lv (.int v :: st) h
    | none => none)
  | (8, j, _) => zgo pc lv (.ref (1000001 + j) :: st) h
  | _ => none
def zins (mi oc : Nat) (i : Instr) (pc : Nat) (lv st : List Value) (h : Hp) : ZR := match i with
  | .iconst k => zgo (pc + 1) lv (.int (Int32.ofInt k) :: st) h
  | .bipush k => zgo (pc + 2) lv (.int (Int8.ofInt k).toInt32 :: st) h
  | .sipush k => zgo (pc + 3) lv (.int (Int16.ofInt k).toInt32 :: st) h
  | .lconst k => zgo (pc + 1) lv (.long (Int64.ofNat (k : Nat)) :: st) h
  | .iload i => zload lv i 0 (pc + 2) st h
  | .iload_n i => zload lv i 0 (pc + 1) st h
  | .aload i => zload lv i 1 (pc + 2) st h
  | .aload_n i => zload lv i 1 (pc + 1) st h
  | .lload i => zload lv i 2 (pc + 2) st h
  | .lload_n i => zload lv i 2 (pc + 1) st h
  | .istore i => (match st with
    | .int x :: r => zst lv i (.int x) (pc + 2) r h
    | _ => none)
  | .istore_n i => (match st with
    | .int x :: r => zst lv i (.int x) (pc + 1) r h
    | _ => none)
  | .astore i => (match st with
    | .ref x :: r => zst lv i (.ref x) (pc + 2) r h
    | _ => none)
  | .astore_n i => (match st with
    | .ref x :: r => zst lv i (.ref x) (pc + 1) r h
    | _ => none)
  | .lstore_n i => (match st with
    | .long x :: r => zst2 lv i (.long x) (pc + 1) r h
    | _ => none)
  | .iinc i k => (match lv[i]? with
    | some (.int x) => zst lv i (.int (x + Int32.ofInt k)) (pc + 3) st h
    | _ => none)
  | .iadd => zii (fun x y => x + y) (pc + 1) lv st h
  | .isub => zii (fun x y => x - y) (pc + 1) lv st h
  | .imul => zii (fun x y => x * y) (pc + 1) lv st h
  | .iand => zii (fun x y => x &&& y) (pc + 1) lv st h
  | .ior => zii (fun x y => x ||| y) (pc + 1) lv st h
  | .ixor => zii (fun x y => x ^^^ y) (pc + 1) lv st h
  | .ishl => zii (fun x y => x <<< (y &&& 31)) (pc + 1) lv st h
  | .ishr => zii (fun x y => x >>> (y &&& 31)) (pc + 1) lv st h
  | .iushr => zii (fun x y => (x.toUInt32 >>> (y.toUInt32 &&& Int32.toUInt32 31)).toInt32) (pc + 1) lv st h
  | .ladd => zll (fun x y => x + y) (pc + 1) lv st h
  | .lmul => zll (fun x y => x * y) (pc + 1) lv st h
  | .land => zll (fun x y => x &&& y) (pc + 1) lv st h
  | .lor => zll (fun x y => x ||| y) (pc + 1) lv st h
  | .lshl => zli (fun x y => x <<< (y.toInt64 &&& 63)) (pc + 1) lv st h
  | .lshr => zli (fun x y => x >>> (y.toInt64 &&& 63)) (pc + 1) lv st h
  | .l2i => zl1 (fun x => .int x.toInt32) (pc + 1) lv st h
  | .ineg => zi1 (fun x => .int (-x)) (pc + 1) lv st h
  | .i2b => zi1 (fun x => .int x.toInt8.toInt32) (pc + 1) lv st h
  | .i2c => zi1 (fun x => .int (x.toUInt32 % 65536).toInt32) (pc + 1) lv st h
  | .i2l => zi1 (fun x => .long x.toInt64) (pc + 1) lv st h
  | .lcmp => (match st with
    | .long y :: .long x :: r => zgo (pc + 1) lv (.int (lg_cmp x y) :: r) h
    | _ => none)
  | .dup => (match st with
    | v :: r => if v.category = 1 ∧ v ≠ tok then zgo (pc + 1) lv (v :: v :: r) h else none
    | _ => none)
  | .pop => (match st with
    | .int _ :: r => zgo (pc + 1) lv r h
    | .ref _ :: r => zgo (pc + 1) lv r h
    | _ => none)
  | .dup2 => (match st with
    | .int x :: .ref a :: r => zgo (pc + 1) lv (.int x :: .ref a :: .int x :: .ref a :: r) h
    | _ => none)
  | .ifCond c off => (match st with
    | .int x :: r => zbr (zcnd c x 0) pc 3 off lv r h
    | _ => none)
  | .if_icmp c off => (match st with
    | .int y :: .int x :: r => zbr (zcnd c x y) pc 3 off lv r h
    | _ => none)
  | .goto off => zbr true pc 3 off lv st h
  | .tableswitch dflt lo hi offs => (match st with
    | .int x :: r => if x.toInt < lo ∨ hi < x.toInt then zbr true pc 1 dflt lv r h else (match offs[(x.toInt - lo).toNat]? with
      | some off => zbr true pc 1 off lv r h
      | none => none)
    | _ => none)
  | .lookupswitch dflt ps => (match st with
    | .int x :: r => if (ps.toList.zip (ps.toList.drop 1)).all (fun (a, next) => a.1 < next.1) = true then zbr true pc 1 (Op.lookupswitch.offset ps.toList dflt x.toInt) lv r h else none
    | _ => none)
  | .ldc idx => zldc oc idx (pc + 2) lv st h
  | .ldc_w idx => (match zki oc idx with
    | some v => zgo (pc + 3) lv (.int v :: st) h
    | none => none)
  | .ldc2_w idx => (match zkl oc idx with
    | some v => zgo (pc + 3) lv (.long v :: st) h
    | none => none)
  | .getfield idx => zget oc idx (pc + 3) lv st h
  | .putfield idx => zput mi oc idx (pc + 3) lv st h
  | .getstatic idx => (match zp oc idx with
    | (14, _, _) => zgo (pc + 3) lv (.int 1 :: st) h
    | (15, _, _) => zgo (pc + 3) lv (.retAddr 1 :: st) h
    | _ => none)
  | .invokevirtual idx => zcallV oc idx (pc + 3) lv st h
  | .invokespecial idx => zcallI oc idx (pc + 3) lv st h
  | .invokestatic idx => zcallS oc idx (pc + 3) lv st h
  | .new idx => znew mi oc idx pc (pc + 3) lv st h
  | .newarray t => (match t with
    | .int => znwa 11 (pc + 2) lv st h
    | .byte => znwa 12 (pc + 2) lv st h
    | .boolean => znwa 13 (pc + 2) lv st h
    | .long => znwa 14 (pc + 2) lv st h
    | _ => none)
  | .anewarray idx => if zp oc idx = (3, 5, 15) then znwa 15 (pc + 3) lv st h else none
  | .multianewarray idx dm => if dm = 2 ∧ (zp oc idx).1 = 5 then zmna (pc + 4) lv st h else none
  | .iaload => zald 0 (pc + 1) lv st h
  | .baload => zald 1 (pc + 1) lv st h
  | .laload => zald 2 (pc + 1) lv st h
  | .aaload => zald 3 (pc + 1) lv st h
  | .iastore => zast 0 (pc + 1) lv st h
  | .bastore => zast 1 (pc + 1) lv st h
  | .lastore => zast 2 (pc + 1) lv st h
  | .aastore => zast 3 (pc + 1) lv st h
  | .arraylength => zalen (pc + 1) lv st h
  | .ireturn => zret mi 0 st h
  | .areturn => zret mi 1 st h
  | .lreturn => zret mi 2 st h
  | .return_ => zret mi 3 st h
  | _ => none
def zvar (i : Instr) : Bool := match i with
  | .tableswitch .. => true
  | .lookupswitch .. => true
  | _ => false
def zstep (mi : Nat) (s : ZS) : ZR := match decode (zcod mi) s.1 with
  | .ok (i, n) => if n = zlen i ∨ zvar i = true then zins mi (zoc mi) i s.1 s.2.1 s.2.2.1 s.2.2.2 else none
  | .error _ => none
-- behind a call
def zaft (ini : Bool) (h h' : Hp) (lv st : List Value) : Bool := decide (zN h'.2 = zN h.2) || (ini && (lv ++ st).all (okV (zN h.2)))
def zrun : Nat → Nat → Nat → ZS → Option ZO
  | 0, _, _, _ => none
  | n + 1, d, mi, s => match zstep mi s with
    | none => none
    | some (.inl s') => zrun n d mi s'
    | some (.inr (.inl o)) => some o
    | some (.inr (.inr (cm, as, ini, s'))) => match d with
      | 0 => none
      | d' + 1 => match (if (zlay as).length ≤ zmx cm then zrun n d' cm (0, zent cm as, [], s'.2.2.2) else none) with
        | none => none
        | some (.inl v, h') => if zaft ini s'.2.2.2 h' s'.2.1 s'.2.2.1 = true then zrun n (d' + 1) mi (s'.1, s'.2.1, v.toList ++ s'.2.2.1, h') else none
        | some (.inr E, h') => match zhn mi s.1 E with
          | none => some (.inr E, h')
          | some (hp, i) => if zN h'.2 = zN s'.2.2.2.2 then zrun n (d' + 1) mi (hp, (stB s'.2.1 i).set i tok, [], h') else none
