/-! THE ABSTRACT MACHINE. Numbers are whole numbers (Int) in their ranges, an object is its number in the order of making; a machine over such, with fuel; part 03 on says what it has to do with the real one. -/
abbrev KV : Type := Int ⊕ Int ⊕ Int ⊕ Unit
abbrev xI (a : Int) : KV := Sum.inl a
abbrev xL (a : Int) : KV := Sum.inr (Sum.inl a)
abbrev xR (a : Int) : KV := Sum.inr (Sum.inr (Sum.inl a))
abbrev xU : KV := Sum.inr (Sum.inr (Sum.inr ()))
/-- how many objects, the kind of each, the length of arrays, cells and slots made so far -/
abbrev KG : Type := Int × (Int → Int) × (Int → Int) × Int × Int
abbrev KH : Type := Int → Int → Int
def gN (g : KG) : Int := g.1
def gK (g : KG) : Int → Int := g.2.1
def gL (g : KG) : Int → Int := g.2.2.1
def gC (g : KG) : Int := g.2.2.2.1
def gS (g : KG) : Int := g.2.2.2.2
def w8 (x : Int) : Int := (x + 128) % 256 - 128
def w16 (x : Int) : Int := (x + 32768) % 65536 - 32768
def w32 (x : Int) : Int := (x + 2147483648) % 4294967296 - 2147483648
def w64 (x : Int) : Int := (x + 9223372036854775808) % 18446744073709551616 - 9223372036854775808
def and32 (a b : Int) : Int := (BitVec.ofInt 32 a &&& BitVec.ofInt 32 b).toInt
def or32 (a b : Int) : Int := (BitVec.ofInt 32 a ||| BitVec.ofInt 32 b).toInt
def xor32 (a b : Int) : Int := (BitVec.ofInt 32 a ^^^ BitVec.ofInt 32 b).toInt
def and64 (a b : Int) : Int := (BitVec.ofInt 64 a &&& BitVec.ofInt 64 b).toInt
def or64 (a b : Int) : Int := (BitVec.ofInt 64 a ||| BitVec.ofInt 64 b).toInt
def xor64 (a b : Int) : Int := (BitVec.ofInt 64 a ^^^ BitVec.ofInt 64 b).toInt
def shl32 (a b : Int) : Int := w32 (a * 2 ^ b.toNat)
def shr32 (a b : Int) : Int := a / 2 ^ b.toNat
def ushr32 (a b : Int) : Int := w32 ((a % 4294967296) / 2 ^ b.toNat)
def shl64 (a b : Int) : Int := w64 (a * 2 ^ b.toNat)
def shr64 (a b : Int) : Int := a / 2 ^ b.toNat
def cmp64 (a b : Int) : Int := if b < a then 1 else if a = b then 0 else -1
def hset (h : KH) (a i v : Int) : KH := fun b j => if b = a ∧ j = i then v else h b j
def kset (f : Int → Int) (a v : Int) : Int → Int := fun b => if b = a then v else f b
def hcopy (h : KH) (a i b j n : Int) : KH := fun c k => if c = b ∧ j ≤ k ∧ k < j + n then h a (i + (k - j)) else h c k
/-- a new object: all fields at their first value -/
def hnew (h : KH) (a : Int) (f : Int → Int) : KH := fun b j => if b = a then f j else h b j
-- the methods: name, code, locals, answer (0 none, 1 int, 2 boolean, 3 long), class, is it a constructor
abbrev KM : Type := MethodName × ByteArray × Nat × Nat × Nat × Bool
def mtab_0 : List KM := [
  (yX0_init, cX0_init, 2, 0, 0, true), (yX0_choose, cX0_choose, 11, 0, 0, false), (yX1_init, cX1_init, 2, 0, 1, true), (yX1_putInOrder, cX1_putInOrder, 5, 1, 1, false),
  (yX1_longestWalk, cX1_longestWalk, 7, 1, 1, false), (yX1_measureWalks, cX1_measureWalks, 5, 1, 1, false), (yX1_worthSet, cX1_worthSet, 9, 1, 1, false), (yX2_init, cX2_init, 2, 0, 2, true),
  (yX2_flaggedSet, cX2_flaggedSet, 4, 1, 2, false), (yX2_nearestHidden, cX2_nearestHidden, 6, 1, 2, false), (yX2_search, cX2_search, 11, 1, 2, false), (yX2_view, cX2_view, 3, 0, 2, false),
  (yX2_suppose, cX2_suppose, 3, 0, 2, false), (yX2_flags, cX2_flags, 7, 2, 2, false), (yX2_holds, cX2_holds, 3, 2, 2, false), (yX3_init, cX3_init, 1, 0, 3, true),
  (yX3_clear, cX3_clear, 1, 0, 3, false), (yX3_copyFrom, cX3_copyFrom, 2, 0, 3, false), (yX3_find, cX3_find, 4, 1, 3, false), (yX3_shareOutUntold, cX3_shareOutUntold, 2, 0, 3, false)
]
def mtab_1 : List KM := [
  (yX3_rowsOf, cX3_rowsOf, 4, 1, 3, false), (yX3_product, cX3_product, 5, 1, 3, false), (yX3_cardWeight, cX3_cardWeight, 3, 1, 3, false), (yX3_stepsBetween, cX3_stepsBetween, 3, 1, 3, false),
  (yX3_minutesBetween, cX3_minutesBetween, 3, 1, 3, false), (yX4_init, cX4_init, 2, 0, 4, true), (yX4_take, cX4_take, 6, 2, 4, false), (yX4_takeAsk, cX4_takeAsk, 5, 0, 4, false),
  (yX4_takeTable, cX4_takeTable, 4, 0, 4, false), (yX4_knownName, cX4_knownName, 4, 1, 4, false), (yX4_isName, cX4_isName, 2, 2, 4, false), (yX4_takeWeights, cX4_takeWeights, 9, 0, 4, false),
  (yX4_takeDoor, cX4_takeDoor, 2, 0, 4, false), (yX4_takeWalk, cX4_takeWalk, 2, 0, 4, false), (yX4_takeCards, cX4_takeCards, 2, 0, 4, false), (yX5_init, cX5_init, 1, 0, 5, true),
  (yX5_clear, cX5_clear, 1, 0, 5, false), (yX5_copyFrom, cX5_copyFrom, 2, 0, 5, false), (yX5_addStep, cX5_addStep, 3, 0, 5, false), (yX5_endRule, cX5_endRule, 1, 0, 5, false)
]
def mtab_2 : List KM := [
  (yX5_goesByAnswers, cX5_goesByAnswers, 4, 2, 5, false), (yX6_init, cX6_init, 2, 0, 6, true), (yX6_take, cX6_take, 4, 2, 6, false), (yX6_takeTerms, cX6_takeTerms, 4, 0, 6, false),
  (yX6_takeTerm, cX6_takeTerm, 4, 0, 6, false), (yX6_takeTest, cX6_takeTest, 6, 0, 6, false), (yX6_mostOf, cX6_mostOf, 1, 1, 6, false), (yX6_stepOf, cX6_stepOf, 2, 1, 6, false),
  (yX7_init, cX7_init, 1, 0, 7, true), (yX7_copyFrom, cX7_copyFrom, 2, 0, 7, false), (yX7_couldAdd, cX7_couldAdd, 4, 2, 7, false), (yX7_add, cX7_add, 4, 1, 7, false),
  (yX7_sameAnswer, cX7_sameAnswer, 4, 2, 7, false), (yX7_countAlike, cX7_countAlike, 5, 1, 7, false), (yX7_isRepeated, cX7_isRepeated, 3, 2, 7, false), (yX7_countWith, cX7_countWith, 6, 1, 7, false),
  (yX7_madeSide, cX7_madeSide, 4, 3, 7, false), (yX7_askedSide, cX7_askedSide, 6, 3, 7, false), (yX7_isAhead, cX7_isAhead, 3, 2, 7, false), (yX7_fits, cX7_fits, 3, 2, 7, false)
]
def mtab_3 : List KM := [
  (yX7_areAmiss, cX7_areAmiss, 3, 2, 7, false), (yX7_setOfTruth, cX7_setOfTruth, 4, 1, 7, false), (yX7_drawWorld, cX7_drawWorld, 8, 1, 7, false), (yX7_drawAnswers, cX7_drawAnswers, 5, 1, 7, false),
  (yX7_draw, cX7_draw, 2, 1, 7, false), (yX8_init, cX8_init, 1, 0, 8, true), (yX8_clear, cX8_clear, 2, 0, 8, false), (yX8_copyFrom, cX8_copyFrom, 2, 0, 8, false),
  (yX8_weightIn, cX8_weightIn, 4, 1, 8, false), (yX8_shareOut, cX8_shareOut, 4, 0, 8, false), (yX8_drawnAnswer, cX8_drawnAnswer, 8, 1, 8, false), (yX9_init, cX9_init, 1, 0, 9, true),
  (yX9_feedInt, cX9_feedInt, 3, 0, 9, false), (yX9_start, cX9_start, 2, 0, 9, false), (yX9_isSound, cX9_isSound, 1, 2, 9, false), (yX9_hasMore, cX9_hasMore, 1, 2, 9, false),
  (yX9_isNumber, cX9_isNumber, 1, 2, 9, false), (yX9_isSign, cX9_isSign, 2, 2, 9, false), (yX9_fail, cX9_fail, 2, 0, 9, false), (yX9_advance, cX9_advance, 1, 0, 9, false)
]
def mtab_4 : List KM := [
  (yX9_takeWord, cX9_takeWord, 1, 0, 9, false), (yX9_takeNumber, cX9_takeNumber, 1, 0, 9, false), (yX9_numberWithin, cX9_numberWithin, 3, 1, 9, false), (yX9_takeNumberWithin, cX9_takeNumberWithin, 4, 1, 9, false),
  (yX9_takeSign, cX9_takeSign, 2, 0, 9, false), (yX10_init, cX10_init, 1, 0, 10, true), (yX10_isMissing, cX10_isMissing, 1, 2, 10, false), (yX10_lay, cX10_lay, 4, 0, 10, false),
  (yX10_put, cX10_put, 4, 0, 10, false), (yX11_init, cX11_init, 2, 0, 11, true), (yX11_status, cX11_status, 1, 1, 11, false), (yX11_top, cX11_top, 1, 3, 11, false),
  (yX11_bottom, cX11_bottom, 1, 3, 11, false), (yX11_tray, cX11_tray, 4, 2, 11, false), (yX11_write, cX11_write, 6, 2, 11, false), (yX11_read, cX11_read, 4, 3, 11, false),
  (yX11_pour, cX11_pour, 8, 2, 11, false), (yX11_feed, cX11_feed, 6, 1, 11, false), (yX11_land, cX11_land, 3, 1, 11, false), (yX11_rules, cX11_rules, 3, 1, 11, false)
]
def mtab_5 : List KM := [
  (yX11_fault, cX11_fault, 2, 1, 11, false), (yX11_told, cX11_told, 3, 1, 11, false), (yX11_question, cX11_question, 5, 1, 11, false), (yX11_weight, cX11_weight, 6, 1, 11, false),
  (yX11_sheet, cX11_sheet, 3, 1, 11, false), (yX11_look, cX11_look, 3, 1, 11, false), (yX11_alter, cX11_alter, 4, 2, 11, false), (yX11_card, cX11_card, 3, 2, 11, false),
  (yX11_sheetWeight, cX11_sheetWeight, 3, 1, 11, false), (yX11_odds, cX11_odds, 7, 2, 11, false), (yX11_half, cX11_half, 6, 2, 11, false), (yX11_way, cX11_way, 3, 1, 11, false),
  (yX11_walked, cX11_walked, 2, 1, 11, false), (yX11_amiss, cX11_amiss, 5, 1, 11, false), (yX11_group, cX11_group, 8, 1, 11, false), (yX11_twins, cX11_twins, 1, 2, 11, false),
  (yX11_strange, cX11_strange, 2, 2, 11, false), (yX11_goes, cX11_goes, 8, 2, 11, false), (yX11_number, cX11_number, 4, 2, 11, false), (yX11_bounds, cX11_bounds, 7, 2, 11, false)
]
def mtab_6 : List KM := [
  (yX11_unlike, cX11_unlike, 4, 1, 11, false), (yX11_doubtful, cX11_doubtful, 9, 1, 11, false), (yX11_flagged, cX11_flagged, 2, 1, 11, false), (yX11_hides, cX11_hides, 4, 1, 11, false),
  (yX11_hidden, cX11_hidden, 2, 1, 11, false), (yX11_worth, cX11_worth, 4, 1, 11, false), (yX11_deters, cX11_deters, 4, 1, 11, false), (yX11_checked, cX11_checked, 3, 1, 11, false),
  (yX11_found, cX11_found, 1, 1, 11, false), (yX11_world, cX11_world, 4, 1, 11, false), (yX11_score, cX11_score, 5, 1, 11, false), (yX11_mark, cX11_mark, 1, 1, 11, false),
  (yX11_back, cX11_back, 1, 1, 11, false), (yX11_refuse, cX11_refuse, 2, 1, 11, false), (yX11_deny, cX11_deny, 2, 2, 11, false), (yX11_answer, cX11_answer, 2, 1, 11, false),
  (yX11_agree, cX11_agree, 1, 2, 11, false), (yX11_tell, cX11_tell, 7, 2, 11, false), (yX11_whyNoPlace, cX11_whyNoPlace, 3, 1, 11, false), (yX11_isTray, cX11_isTray, 2, 2, 11, false)
]
def mtab_7 : List KM := [
  (yX11_isQuestion, cX11_isQuestion, 2, 2, 11, false), (yX11_isAnswer, cX11_isAnswer, 3, 2, 11, false), (yX11_isDoor, cX11_isDoor, 2, 2, 11, false), (yX11_isSheet, cX11_isSheet, 2, 2, 11, false),
  (yX11_isRule, cX11_isRule, 2, 2, 11, false), (yX11_isAsker, cX11_isAsker, 1, 2, 11, false), (yX11_within, cX11_within, 6, 2, 11, false), (yX11_commonDivisor, cX11_commonDivisor, 11, 3, 11, false),
  (yX11_partMade, cX11_partMade, 7, 3, 11, false), (yX11_sumOfSquares, cX11_sumOfSquares, 9, 3, 11, false), (yX11_sumBelow, cX11_sumBelow, 10, 3, 11, false), (yX11_answerIn, cX11_answerIn, 2, 1, 11, false),
  (yX11_withAnswer, cX11_withAnswer, 4, 1, 11, false), (yX11_unlikeAnswers, cX11_unlikeAnswers, 3, 1, 11, false), (yX11_placeOf, cX11_placeOf, 3, 1, 11, false), (yX12_init, cX12_init, 1, 0, 12, true),
  (yX12_plain, cX12_plain, 3, 0, 12, false), (yX12_status, cX12_status, 1, 1, 12, false), (yX12_top, cX12_top, 1, 3, 12, false), (yX12_bottom, cX12_bottom, 1, 3, 12, false)
]
def mtab_8 : List KM := [
  (yX12_is, cX12_is, 2, 2, 12, false), (yX12_refuse, cX12_refuse, 2, 1, 12, false), (yX12_gives, cX12_gives, 2, 1, 12, false), (yX12_tells, cX12_tells, 11, 2, 12, false),
  (yX12_isTray, cX12_isTray, 1, 2, 12, false), (yX12_cut, cX12_cut, 3, 3, 12, false), (yX12_tray, cX12_tray, 5, 2, 12, false), (yX12_wrongPlace, cX12_wrongPlace, 3, 1, 12, false),
  (yX12_write, cX12_write, 6, 2, 12, false), (yX12_read, cX12_read, 3, 3, 12, false), (yX12_pour, cX12_pour, 8, 2, 12, false), (yX12_feed, cX12_feed, 6, 1, 12, false),
  (yX12_four, cX12_four, 3, 0, 12, false), (yX12_byteAt, cX12_byteAt, 2, 1, 12, false), (yX12_isSmall, cX12_isSmall, 1, 2, 12, false), (yX12_isDigit, cX12_isDigit, 1, 2, 12, false),
  (yX12_ahead, cX12_ahead, 2, 0, 12, false), (yX12_isSign, cX12_isSign, 2, 2, 12, false), (yX12_inWords, cX12_inWords, 7, 1, 12, false), (yX12_fails, cX12_fails, 2, 2, 12, false)
]
def mtab_9 : List KM := [
  (yX12_begins, cX12_begins, 3, 0, 12, false), (yX12_closes, cX12_closes, 1, 2, 12, false), (yX12_passes, cX12_passes, 4, 2, 12, false), (yX12_fault, cX12_fault, 2, 1, 12, false),
  (yX12_isName, cX12_isName, 1, 2, 12, false), (yX12_nameHere, cX12_nameHere, 4, 3, 12, false), (yX12_findHere, cX12_findHere, 3, 1, 12, false), (yX12_rowAt, cX12_rowAt, 4, 1, 12, false),
  (yX12_anAsk, cX12_anAsk, 5, 2, 12, false), (yX12_someWeights, cX12_someWeights, 8, 2, 12, false), (yX12_aDoor, cX12_aDoor, 2, 2, 12, false), (yX12_part, cX12_part, 3, 2, 12, false),
  (yX12_land, cX12_land, 4, 1, 12, false), (yX12_puts, cX12_puts, 3, 0, 12, false), (yX12_falls, cX12_falls, 2, 0, 12, false), (yX12_begin, cX12_begin, 4, 2, 12, false),
  (yX12_joins, cX12_joins, 2, 2, 12, false), (yX12_flag, cX12_flag, 2, 2, 12, false), (yX12_rules, cX12_rules, 4, 1, 12, false), (yX12_isQuestion, cX12_isQuestion, 2, 2, 12, false)
]
def mtab_10 : List KM := [
  (yX12_isSheet, cX12_isSheet, 2, 2, 12, false), (yX12_isDoor, cX12_isDoor, 3, 2, 12, false), (yX12_isAsker, cX12_isAsker, 2, 2, 12, false), (yX12_isFrom, cX12_isFrom, 6, 2, 12, false),
  (yX12_answersOf, cX12_answersOf, 2, 1, 12, false), (yX12_ofSheet, cX12_ofSheet, 3, 1, 12, false), (yX12_told, cX12_told, 2, 1, 12, false), (yX12_question, cX12_question, 4, 1, 12, false),
  (yX12_weight, cX12_weight, 6, 1, 12, false), (yX12_sheet, cX12_sheet, 7, 1, 12, false), (yX12_look, cX12_look, 3, 1, 12, false), (yX12_alter, cX12_alter, 4, 2, 12, false),
  (yX12_card, cX12_card, 3, 2, 12, false), (yX12_weightOf, cX12_weightOf, 6, 1, 12, false), (yX12_weighs, cX12_weighs, 7, 3, 12, false), (yX12_answersAt, cX12_answersAt, 1, 1, 12, false),
  (yX12_sheetWeighs, cX12_sheetWeighs, 3, 3, 12, false), (yX12_sheetWeight, cX12_sheetWeight, 3, 1, 12, false), (yX12_asksOdds, cX12_asksOdds, 6, 0, 12, false), (yX12_isShare, cX12_isShare, 1, 2, 12, false)
]
def mtab_11 : List KM := [
  (yX12_odds, cX12_odds, 3, 2, 12, false), (yX12_half, cX12_half, 7, 2, 12, false), (yX12_stepsOf, cX12_stepsOf, 3, 1, 12, false), (yX12_wayOf, cX12_wayOf, 3, 1, 12, false),
  (yX12_way, cX12_way, 3, 1, 12, false), (yX12_orders, cX12_orders, 4, 0, 12, false), (yX12_fits, cX12_fits, 3, 2, 12, false), (yX12_walked, cX12_walked, 6, 1, 12, false),
  (yX12_amiss, cX12_amiss, 5, 1, 12, false), (yX12_differs, cX12_differs, 5, 1, 12, false), (yX12_group, cX12_group, 9, 1, 12, false), (yX12_rowsMany, cX12_rowsMany, 3, 1, 12, false),
  (yX12_takesRow, cX12_takesRow, 4, 0, 12, false), (yX12_whole, cX12_whole, 5, 3, 12, false), (yX12_twins, cX12_twins, 6, 2, 12, false), (yX12_strange, cX12_strange, 7, 2, 12, false),
  (yX12_goes, cX12_goes, 8, 2, 12, false), (yX12_countOf, cX12_countOf, 6, 1, 12, false), (yX12_bits, cX12_bits, 3, 1, 12, false), (yX12_all, cX12_all, 1, 1, 12, false)
]
def mtab_12 : List KM := [
  (yX12_isAnswer, cX12_isAnswer, 3, 2, 12, false), (yX12_number, cX12_number, 4, 2, 12, false), (yX12_bounds, cX12_bounds, 7, 2, 12, false), (yX12_unlike, cX12_unlike, 6, 1, 12, false),
  (yX12_doubtful, cX12_doubtful, 5, 1, 12, false), (yX12_isAmiss, cX12_isAmiss, 5, 2, 12, false), (yX12_says, cX12_says, 6, 2, 12, false), (yX12_flags, cX12_flags, 6, 2, 12, false),
  (yX12_isRule, cX12_isRule, 2, 2, 12, false), (yX12_flagsAll, cX12_flagsAll, 4, 1, 12, false), (yX12_flagged, cX12_flagged, 2, 1, 12, false), (yX12_hides, cX12_hides, 10, 1, 12, false),
  (yX12_hidden, cX12_hidden, 2, 1, 12, false), (yX12_worthOf, cX12_worthOf, 9, 1, 12, false), (yX12_isMinute, cX12_isMinute, 2, 2, 12, false), (yX12_worth, cX12_worth, 4, 1, 12, false),
  (yX12_deters, cX12_deters, 4, 1, 12, false), (yX12_checked, cX12_checked, 10, 1, 12, false), (yX12_found, cX12_found, 1, 1, 12, false), (yX12_draw, cX12_draw, 2, 1, 12, false)
]
def mtab_13 : List KM := [
  (yX12_world, cX12_world, 14, 1, 12, false), (yX12_score, cX12_score, 8, 1, 12, false), (yX12_copies, cX12_copies, 4, 0, 12, false), (yX12_mark, cX12_mark, 1, 1, 12, false),
  (yX12_back, cX12_back, 1, 1, 12, false), (yJ6_bitCount_0f7a4, cJ6_bitCount_0f7a4, 1, 1, 13, false)
]
def mtab : List KM := mtab_0 ++ (mtab_1 ++ (mtab_2 ++ (mtab_3 ++ (mtab_4 ++ (mtab_5 ++ (mtab_6 ++ (mtab_7 ++ (mtab_8 ++ (mtab_9 ++ (mtab_10 ++ (mtab_11 ++ (mtab_12 ++ (mtab_13 ++ ([(yL_law, code, 4, 2, 14, false)]))))))))))))))
def mrow (k : Nat) : KM := mtab.getD k (yX0_init, cX0_init, 0, 0, 0, false)
def mnm (k : Nat) : MethodName := (mrow k).1
def mcode (k : Nat) : ByteArray := (mrow k).2.1
def mloc (k : Nat) : Nat := (mrow k).2.2.1
def mret (k : Nat) : Nat := (mrow k).2.2.2.1
def mcls (k : Nat) : Nat := (mrow k).2.2.2.2.1
def minit (k : Nat) : Bool := (mrow k).2.2.2.2.2
/-- how long an instruction is, where that is fixed -/
def fln (i : Instr) : Option Nat := match i with
  | .tableswitch .. | .lookupswitch .. => none
  | .bipush _ | .ldc _ | .iload _ | .lload _ | .aload _ | .istore _ | .lstore _ | .astore _ | .newarray _ => some 2
  | .sipush _ | .ldc_w _ | .ldc2_w _ | .iinc .. | .ifCond .. | .if_icmp .. | .goto _ | .getfield _ | .putfield _ | .new _ | .anewarray _ | .invokestatic _ | .invokevirtual _ | .invokespecial _ => some 3
  | _ => some 1
/-- the instruction, and the place behind it -/
def fetch (k pc : Nat) : Option (Instr × Nat) := match decode (mcode k) pc with | .ok (i, l) => if (match fln i with | some x => l == x | none => true) = true then some (i, pc + l) else none | .error _ => none
-- fields that the code names: own class, place in its pool; class, slot, kind (0 int, 1 long, 2 reference, 3 boolean), place of the word
def ftab : List (Nat × Nat × Nat × Nat × Nat × Nat) := [
  (0, 9, 0, 1, 2, 350), (0, 15, 0, 2, 2, 352), (0, 18, 0, 0, 2, 349), (0, 22, 7, 2, 0, 237), (0, 28, 7, 7, 2, 257), (0, 48, 7, 0, 2, 227), (0, 52, 7, 4, 2, 244), (1, 9, 1, 1, 2, 300), (1, 15, 1, 2, 2, 301), (1, 18, 1, 0, 2, 299),
  (1, 22, 7, 2, 0, 234), (1, 28, 7, 3, 2, 240), (1, 51, 7, 6, 2, 253), (1, 54, 7, 5, 2, 249), (1, 57, 7, 0, 2, 229), (1, 61, 7, 4, 2, 245), (2, 9, 2, 0, 2, 315), (2, 15, 7, 2, 0, 235), (2, 25, 7, 7, 2, 256), (2, 36, 7, 1, 2, 232),
  (2, 45, 7, 0, 2, 228), (2, 49, 3, 0, 0, 143), (2, 58, 2, 1, 0, 316), (2, 65, 3, 2, 2, 151), (2, 72, 7, 6, 2, 252), (2, 75, 7, 5, 2, 248), (2, 78, 2, 2, 0, 317), (2, 81, 2, 3, 0, 318), (2, 84, 7, 8, 2, 260), (2, 87, 2, 4, 0, 319),
  (2, 89, 2, 5, 3, 320), (2, 97, 2, 6, 0, 321), (2, 100, 7, 3, 2, 241), (2, 106, 2, 7, 0, 322), (2, 120, 2, 8, 1, 323), (2, 124, 5, 2, 2, 214), (2, 127, 5, 3, 2, 216), (3, 9, 3, 1, 2, 146), (3, 15, 3, 2, 2, 148), (3, 22, 3, 3, 2, 153),
  (3, 26, 3, 4, 2, 157), (3, 29, 3, 6, 2, 165), (3, 32, 3, 7, 2, 167), (3, 35, 3, 8, 0, 169), (3, 39, 3, 9, 0, 172), (3, 42, 3, 10, 0, 176), (3, 45, 3, 0, 0, 141), (3, 48, 3, 5, 0, 161), (3, 64, 8, 1, 2, 127), (3, 72, 8, 0, 2, 123),
  (4, 9, 4, 0, 2, 80), (4, 20, 4, 1, 3, 81), (4, 24, 4, 2, 3, 82), (4, 37, 9, 4, 1, 45), (4, 49, 3, 3, 2, 154), (4, 59, 3, 4, 2, 158), (4, 86, 3, 0, 0, 142), (4, 109, 3, 1, 2, 147), (4, 113, 3, 2, 2, 150), (4, 121, 8, 1, 2, 126),
  (4, 129, 8, 0, 2, 122), (4, 147, 8, 2, 2, 129), (4, 157, 3, 5, 0, 163), (4, 160, 3, 6, 2, 166), (4, 163, 3, 7, 2, 168), (4, 166, 3, 8, 0, 170), (4, 169, 3, 9, 0, 174), (4, 172, 3, 10, 0, 178), (5, 9, 5, 2, 2, 213), (5, 15, 5, 3, 2, 215),
  (5, 18, 5, 0, 0, 209), (5, 22, 5, 1, 0, 212), (6, 9, 6, 0, 2, 96), (6, 20, 6, 1, 0, 97), (6, 34, 9, 4, 1, 44), (6, 43, 5, 0, 0, 210), (7, 12, 7, 0, 2, 226), (7, 21, 7, 1, 2, 231), (7, 25, 7, 3, 2, 239), (7, 29, 7, 4, 2, 243),
  (7, 32, 7, 5, 2, 247), (7, 35, 7, 6, 2, 251), (7, 38, 7, 7, 2, 255), (7, 41, 7, 8, 2, 259), (7, 44, 7, 9, 2, 262), (7, 47, 7, 10, 2, 264), (7, 57, 7, 2, 0, 236), (7, 73, 3, 5, 0, 162), (7, 78, 3, 0, 0, 144), (7, 81, 3, 2, 2, 149),
  (7, 98, 3, 10, 0, 177), (7, 104, 3, 9, 0, 173), (7, 117, 7, 11, 0, 266), (7, 127, 3, 3, 2, 156), (7, 131, 3, 4, 2, 160), (8, 9, 8, 0, 2, 121), (8, 15, 8, 1, 2, 125), (8, 19, 8, 2, 2, 128), (9, 9, 9, 0, 2, 37), (9, 15, 9, 3, 0, 42),
  (9, 19, 9, 1, 0, 38), (9, 22, 9, 9, 0, 51), (9, 25, 9, 8, 0, 50), (9, 28, 9, 2, 0, 40), (9, 38, 9, 6, 0, 48), (9, 41, 9, 5, 0, 47), (9, 44, 9, 7, 0, 49), (9, 47, 9, 4, 1, 46), (10, 9, 10, 0, 0, 370), (10, 15, 10, 2, 2, 374),
  (10, 19, 10, 1, 0, 372), (11, 11, 11, 0, 2, 383), (11, 18, 11, 1, 2, 384), (11, 27, 11, 2, 2, 385), (11, 34, 11, 3, 2, 386), (11, 41, 11, 4, 2, 387), (11, 45, 11, 5, 2, 388), (11, 54, 11, 6, 2, 389), (11, 61, 11, 7, 2, 390), (11, 68, 11, 8, 2, 391),
  (11, 75, 11, 9, 2, 392), (11, 82, 11, 10, 2, 393), (11, 86, 11, 13, 1, 396), (11, 90, 11, 17, 0, 400), (11, 94, 11, 18, 0, 401), (11, 98, 11, 11, 0, 394), (11, 101, 11, 12, 1, 395), (11, 139, 10, 2, 2, 375), (11, 146, 10, 0, 0, 371), (11, 149, 10, 1, 0, 373),
  (11, 158, 9, 1, 0, 39), (11, 165, 11, 15, 3, 398), (11, 173, 7, 0, 2, 230), (11, 176, 7, 2, 0, 238), (11, 179, 3, 0, 0, 145), (11, 188, 7, 1, 2, 233), (11, 191, 5, 0, 0, 211), (11, 192, 9, 2, 0, 41), (11, 195, 9, 3, 0, 43), (11, 198, 3, 5, 0, 164),
  (11, 201, 3, 8, 0, 171), (11, 204, 3, 9, 0, 175), (11, 207, 3, 10, 0, 179), (11, 215, 3, 2, 2, 152), (11, 219, 3, 3, 2, 155), (11, 223, 3, 4, 2, 159), (11, 226, 8, 0, 2, 124), (11, 239, 8, 2, 2, 130), (11, 257, 7, 3, 2, 242), (11, 260, 7, 4, 2, 246),
  (11, 263, 7, 5, 2, 250), (11, 266, 7, 6, 2, 254), (11, 269, 7, 8, 2, 261), (11, 272, 7, 9, 2, 263), (11, 275, 7, 10, 2, 265), (11, 278, 7, 7, 2, 258), (11, 369, 11, 16, 0, 399), (11, 387, 0, 1, 2, 351), (11, 390, 0, 2, 2, 353), (11, 399, 11, 14, 0, 397),
  (12, 7, 12, 0, 2, 1103), (12, 13, 12, 3, 1, 1106), (12, 17, 12, 4, 2, 1107), (12, 20, 12, 5, 2, 1108), (12, 23, 12, 6, 2, 1109), (12, 27, 12, 7, 2, 1110), (12, 31, 12, 8, 2, 1111), (12, 34, 12, 15, 0, 1118), (12, 38, 12, 16, 0, 1119), (12, 41, 12, 19, 2, 1122),
  (12, 44, 12, 20, 2, 1123), (12, 47, 12, 28, 2, 1131), (12, 50, 12, 29, 2, 1132), (12, 53, 12, 31, 2, 1134), (12, 56, 12, 32, 2, 1135), (12, 60, 12, 33, 2, 1136), (12, 63, 12, 34, 2, 1137), (12, 66, 12, 35, 0, 1138), (12, 69, 12, 36, 2, 1139), (12, 72, 12, 37, 2, 1140),
  (12, 75, 12, 38, 0, 1141), (12, 82, 12, 1, 0, 1104), (12, 85, 12, 2, 1, 1105), (12, 105, 12, 9, 0, 1112), (12, 111, 12, 10, 0, 1113), (12, 114, 12, 13, 0, 1116), (12, 121, 12, 12, 0, 1115), (12, 124, 12, 14, 0, 1117), (12, 127, 12, 11, 0, 1114), (12, 152, 12, 17, 0, 1120),
  (12, 189, 12, 18, 0, 1121), (12, 216, 12, 24, 0, 1127), (12, 219, 12, 21, 0, 1124), (12, 222, 12, 22, 0, 1125), (12, 231, 12, 23, 0, 1126), (12, 237, 12, 25, 3, 1128), (12, 292, 12, 26, 1, 1129), (12, 295, 12, 27, 1, 1130), (12, 317, 12, 30, 0, 1133), (12, 382, 12, 39, 0, 1142),
  (12, 391, 12, 40, 0, 1143)
]
-- methods that it calls: own class, place; method, arguments (this among them), kind (0 virtual, 1 static, 2 constructor), is it a nest mate's, place of the word
def mtabl : List (Nat × Nat × Nat × Nat × Nat × Nat × Nat) := [
  (0, 31, 56, 4, 0, 0, 1027), (0, 35, 57, 4, 0, 0, 1028), (0, 38, 148, 3, 1, 1, 1029), (0, 55, 23, 3, 0, 0, 1031), (1, 31, 58, 3, 0, 0, 846), (1, 35, 3, 2, 0, 0, 842), (1, 39, 5, 2, 0, 0, 850), (1, 42, 59, 3, 0, 0, 854),
  (1, 64, 24, 3, 0, 0, 1013), (2, 21, 11, 2, 0, 0, 959), (2, 29, 12, 2, 0, 0, 964), (2, 32, 13, 2, 0, 0, 972), (2, 40, 40, 2, 0, 0, 989), (2, 54, 10, 5, 1, 0, 993), (2, 61, 151, 2, 1, 1, 996), (2, 68, 152, 3, 1, 1, 997),
  (2, 93, 60, 3, 0, 0, 963), (2, 103, 21, 3, 0, 0, 968), (2, 109, 56, 4, 0, 0, 969), (2, 113, 57, 4, 0, 0, 970), (2, 116, 148, 3, 1, 1, 971), (2, 132, 14, 3, 0, 0, 977), (3, 21, 65, 1, 2, 1, 117), (3, 51, 66, 1, 0, 0, 529),
  (3, 54, 67, 2, 0, 0, 1077), (3, 68, 69, 3, 0, 0, 639), (3, 75, 68, 3, 0, 0, 778), (3, 85, 23, 3, 0, 0, 824), (4, 15, 16, 1, 0, 0, 525), (4, 27, 73, 2, 0, 0, 533), (4, 33, 75, 1, 0, 0, 549), (4, 43, 27, 2, 0, 0, 558),
  (4, 53, 28, 3, 0, 0, 598), (4, 64, 32, 2, 0, 0, 623), (4, 69, 33, 2, 0, 0, 627), (4, 74, 34, 2, 0, 0, 631), (4, 77, 78, 2, 0, 0, 562), (4, 80, 19, 1, 0, 0, 635), (4, 83, 74, 1, 0, 0, 597), (4, 90, 79, 1, 0, 0, 566),
  (4, 93, 30, 1, 1, 0, 567), (4, 97, 18, 2, 0, 0, 576), (4, 101, 83, 3, 0, 0, 580), (4, 105, 84, 2, 0, 0, 589), (4, 117, 29, 3, 0, 0, 602), (4, 132, 20, 3, 0, 0, 606), (4, 136, 31, 5, 0, 0, 610), (4, 140, 77, 2, 0, 0, 614),
  (4, 144, 82, 3, 0, 0, 615), (4, 150, 154, 3, 1, 1, 616), (4, 154, 76, 1, 0, 0, 619), (6, 15, 36, 1, 0, 0, 656), (6, 24, 73, 2, 0, 0, 660), (6, 30, 75, 1, 0, 0, 661), (6, 40, 78, 2, 0, 0, 663), (6, 46, 79, 1, 0, 0, 664),
  (6, 49, 43, 3, 0, 0, 665), (6, 53, 84, 2, 0, 0, 689), (6, 57, 39, 1, 0, 0, 701), (6, 60, 74, 1, 0, 0, 698), (6, 63, 44, 3, 0, 0, 669), (6, 68, 38, 3, 0, 0, 694), (6, 72, 45, 3, 0, 0, 673), (6, 79, 47, 1, 1, 0, 678),
  (6, 83, 77, 2, 0, 0, 688), (6, 87, 46, 1, 1, 0, 690), (6, 91, 83, 3, 0, 0, 693), (7, 11, 15, 1, 2, 1, 111), (7, 20, 35, 1, 2, 1, 205), (7, 50, 17, 2, 0, 0, 1073), (7, 54, 37, 2, 0, 0, 1083), (7, 69, 146, 3, 1, 1, 741),
  (7, 84, 152, 3, 1, 1, 747), (7, 88, 151, 2, 1, 1, 914), (7, 92, 153, 2, 1, 1, 881), (7, 95, 21, 3, 0, 0, 792), (7, 101, 22, 3, 0, 0, 793), (7, 107, 24, 3, 0, 0, 858), (7, 110, 58, 3, 0, 0, 870), (7, 114, 59, 3, 0, 0, 871),
  (7, 120, 64, 2, 0, 0, 1044), (7, 124, 63, 2, 0, 0, 1049), (7, 134, 70, 5, 0, 0, 1053), (8, 28, 151, 2, 1, 1, 782), (8, 32, 154, 3, 1, 1, 643), (9, 31, 79, 1, 0, 0, 537), (9, 34, 74, 1, 0, 0, 553), (9, 51, 80, 1, 0, 0, 541),
  (9, 54, 81, 1, 0, 0, 545), (9, 57, 78, 2, 0, 0, 588), (9, 61, 82, 3, 0, 0, 584), (9, 65, 77, 2, 0, 0, 593), (11, 17, 71, 1, 2, 1, 33), (11, 24, 25, 2, 2, 0, 76), (11, 33, 41, 2, 2, 0, 92), (11, 40, 48, 1, 2, 1, 105),
  (11, 51, 2, 2, 2, 0, 295), (11, 60, 7, 2, 2, 0, 311), (11, 67, 0, 2, 2, 0, 345), (11, 74, 15, 1, 2, 1, 362), (11, 81, 35, 1, 2, 1, 364), (11, 97, 85, 1, 2, 1, 366), (11, 104, 139, 2, 0, 0, 457), (11, 110, 146, 3, 1, 0, 462),
  (11, 116, 134, 2, 0, 0, 466), (11, 119, 87, 3, 0, 0, 470), (11, 123, 136, 1, 0, 0, 474), (11, 127, 138, 3, 0, 0, 482), (11, 131, 88, 3, 0, 0, 490), (11, 135, 133, 2, 0, 0, 498), (11, 143, 86, 1, 0, 0, 486), (11, 161, 72, 2, 0, 0, 513),
  (11, 169, 26, 3, 0, 0, 521), (11, 182, 135, 2, 0, 0, 644), (11, 185, 42, 3, 0, 0, 652), (11, 210, 140, 2, 0, 0, 717), (11, 231, 141, 3, 0, 0, 726), (11, 235, 20, 3, 0, 0, 730), (11, 242, 154, 3, 1, 0, 731), (11, 246, 50, 2, 0, 0, 736),
  (11, 250, 51, 2, 0, 0, 743), (11, 254, 143, 2, 0, 0, 754), (11, 281, 151, 2, 1, 0, 758), (11, 284, 152, 3, 1, 0, 765), (11, 287, 21, 3, 0, 0, 774), (11, 292, 56, 4, 0, 0, 788), (11, 296, 57, 4, 0, 0, 797), (11, 299, 137, 3, 0, 0, 801),
  (11, 303, 142, 2, 0, 0, 816), (11, 306, 24, 3, 0, 0, 820), (11, 309, 145, 1, 1, 0, 835), (11, 312, 4, 2, 0, 0, 838), (11, 315, 60, 3, 0, 0, 866), (11, 320, 53, 3, 0, 0, 877), (11, 323, 149, 4, 1, 0, 894), (11, 329, 150, 5, 1, 0, 903),
  (11, 333, 52, 4, 0, 0, 910), (11, 337, 55, 4, 0, 0, 919), (11, 340, 265, 1, 1, 0, 884), (11, 353, 54, 2, 0, 0, 935), (11, 356, 148, 3, 1, 0, 943), (11, 360, 144, 2, 0, 0, 951), (11, 363, 8, 2, 0, 0, 955), (11, 366, 9, 3, 0, 0, 985),
  (11, 372, 153, 2, 1, 0, 998), (11, 379, 6, 3, 0, 0, 1009), (11, 384, 1, 3, 0, 0, 1023), (11, 393, 62, 4, 0, 0, 1040), (11, 396, 61, 2, 0, 0, 1061), (11, 402, 49, 2, 0, 0, 1069), (11, 405, 147, 2, 1, 0, 805), (11, 411, 68, 3, 0, 0, 897),
  (12, 78, 156, 2, 0, 0, 1099), (12, 88, 160, 2, 0, 0, 1246), (12, 92, 164, 1, 1, 0, 1243), (12, 95, 167, 3, 0, 0, 1254), (12, 99, 165, 2, 1, 0, 1258), (12, 108, 172, 2, 0, 0, 1274), (12, 117, 173, 2, 0, 0, 1298), (12, 130, 174, 1, 1, 0, 1302),
  (12, 133, 175, 1, 1, 0, 1305), (12, 155, 176, 1, 0, 0, 1294), (12, 158, 177, 2, 0, 0, 1402), (12, 161, 179, 2, 0, 0, 1367), (12, 166, 178, 2, 0, 0, 1315), (12, 170, 185, 1, 0, 0, 1387), (12, 174, 184, 1, 0, 0, 1379), (12, 178, 186, 2, 0, 0, 1383),
  (12, 181, 182, 4, 0, 0, 1371), (12, 185, 187, 4, 1, 0, 1391), (12, 192, 188, 1, 0, 0, 1375), (12, 195, 190, 1, 0, 0, 1394), (12, 198, 189, 2, 0, 0, 1398), (12, 201, 161, 2, 0, 0, 1286), (12, 204, 180, 2, 0, 0, 1290), (12, 207, 191, 1, 0, 0, 1310),
  (12, 210, 181, 1, 0, 0, 1406), (12, 213, 162, 2, 0, 0, 1410), (12, 225, 193, 3, 0, 0, 1431), (12, 234, 194, 2, 0, 0, 1427), (12, 241, 196, 1, 0, 0, 1423), (12, 244, 195, 1, 0, 0, 1435), (12, 247, 197, 1, 0, 0, 1418), (12, 252, 199, 2, 0, 0, 1447),
  (12, 255, 204, 2, 0, 0, 1455), (12, 258, 202, 1, 1, 0, 1463), (12, 262, 201, 2, 0, 0, 1467), (12, 267, 203, 3, 1, 0, 1472), (12, 271, 200, 2, 0, 0, 1479), (12, 274, 205, 3, 0, 0, 1483), (12, 277, 213, 5, 0, 0, 1510), (12, 281, 215, 1, 1, 0, 1503),
  (12, 284, 214, 4, 0, 0, 1506), (12, 288, 216, 3, 0, 0, 1499), (12, 298, 219, 1, 1, 0, 1518), (12, 301, 218, 3, 0, 0, 1521), (12, 304, 163, 3, 0, 0, 1525), (12, 311, 222, 3, 0, 0, 1541), (12, 314, 223, 3, 0, 0, 1537), (12, 320, 225, 2, 0, 0, 1550),
  (12, 323, 226, 3, 0, 0, 1554), (12, 330, 229, 3, 0, 0, 1567), (12, 333, 231, 1, 0, 0, 1575), (12, 336, 232, 2, 0, 0, 1579), (12, 339, 233, 2, 0, 0, 1583), (12, 344, 240, 3, 0, 0, 1600), (12, 347, 239, 1, 0, 0, 1604), (12, 350, 237, 4, 0, 0, 1608),
  (12, 354, 238, 1, 1, 0, 1612), (12, 359, 245, 2, 0, 0, 1648), (12, 362, 246, 4, 0, 0, 1644), (12, 365, 247, 3, 0, 0, 1640), (12, 368, 248, 2, 0, 0, 1632), (12, 371, 249, 2, 0, 0, 1636), (12, 374, 254, 2, 1, 0, 1664), (12, 377, 253, 4, 0, 0, 1667),
  (12, 388, 259, 2, 0, 0, 1689), (12, 394, 262, 3, 0, 0, 1702), (14, 9, 89, 1, 2, 0, 23), (14, 12, 155, 1, 2, 0, 1095), (14, 13, 90, 1, 0, 0, 441), (14, 17, 157, 1, 0, 0, 1227), (14, 18, 91, 1, 0, 0, 445), (14, 22, 158, 1, 0, 0, 1231),
  (14, 23, 92, 1, 0, 0, 449), (14, 26, 159, 1, 0, 0, 1235), (14, 27, 93, 4, 0, 0, 453), (14, 31, 166, 4, 0, 0, 1239), (14, 34, 94, 4, 0, 0, 478), (14, 38, 168, 4, 0, 0, 1250), (14, 39, 95, 3, 0, 0, 494), (14, 43, 169, 3, 0, 0, 1261),
  (14, 44, 96, 6, 0, 0, 502), (14, 48, 170, 6, 0, 0, 1266), (14, 49, 97, 6, 0, 0, 509), (14, 53, 171, 6, 0, 0, 1270), (14, 54, 98, 2, 0, 0, 517), (14, 58, 192, 2, 0, 0, 1282), (14, 59, 99, 2, 0, 0, 648), (14, 62, 198, 2, 0, 0, 1414),
  (14, 63, 100, 2, 0, 0, 705), (14, 66, 183, 2, 0, 0, 1278), (14, 67, 101, 2, 0, 0, 709), (14, 70, 206, 2, 0, 0, 1439), (14, 71, 102, 3, 0, 0, 713), (14, 75, 207, 3, 0, 0, 1443), (14, 76, 103, 5, 0, 0, 722), (14, 80, 208, 5, 0, 0, 1451),
  (14, 81, 104, 2, 0, 0, 732), (14, 84, 209, 2, 0, 0, 1459), (14, 85, 105, 3, 0, 0, 750), (14, 88, 210, 3, 0, 0, 1475), (14, 89, 106, 4, 0, 0, 761), (14, 92, 211, 4, 0, 0, 1487), (14, 93, 107, 3, 0, 0, 766), (14, 97, 212, 3, 0, 0, 1491),
  (14, 98, 108, 3, 0, 0, 770), (14, 102, 217, 3, 0, 0, 1495), (14, 103, 109, 3, 0, 0, 783), (14, 106, 220, 3, 0, 0, 1514), (14, 107, 110, 3, 0, 0, 808), (14, 110, 221, 3, 0, 0, 1529), (14, 111, 111, 3, 0, 0, 812), (14, 114, 224, 3, 0, 0, 1533),
  (14, 115, 112, 2, 0, 0, 831), (14, 118, 227, 2, 0, 0, 1546), (14, 119, 113, 2, 0, 0, 862), (14, 122, 228, 2, 0, 0, 1559), (14, 123, 114, 4, 0, 0, 872), (14, 127, 230, 4, 0, 0, 1563), (14, 128, 115, 1, 0, 0, 890), (14, 132, 234, 1, 0, 0, 1571),
  (14, 133, 116, 2, 0, 0, 898), (14, 137, 235, 2, 0, 0, 1587), (14, 138, 117, 4, 0, 0, 906), (14, 141, 236, 4, 0, 0, 1592), (14, 142, 118, 4, 0, 0, 915), (14, 145, 241, 4, 0, 0, 1596), (14, 146, 119, 5, 0, 0, 923), (14, 150, 242, 5, 0, 0, 1615),
  (14, 151, 120, 2, 0, 0, 931), (14, 154, 243, 2, 0, 0, 1619), (14, 155, 121, 3, 0, 0, 939), (14, 158, 244, 3, 0, 0, 1623), (14, 159, 122, 2, 0, 0, 947), (14, 162, 250, 2, 0, 0, 1628), (14, 163, 123, 3, 0, 0, 981), (14, 166, 251, 3, 0, 0, 1652),
  (14, 167, 124, 2, 0, 0, 999), (14, 170, 252, 2, 0, 0, 1656), (14, 171, 125, 4, 0, 0, 1003), (14, 174, 255, 4, 0, 0, 1660), (14, 175, 126, 3, 0, 0, 1014), (14, 178, 256, 3, 0, 0, 1671), (14, 179, 127, 3, 0, 0, 1018), (14, 182, 257, 3, 0, 0, 1675),
  (14, 183, 128, 1, 0, 0, 1032), (14, 186, 258, 1, 0, 0, 1680), (14, 187, 129, 4, 0, 0, 1036), (14, 190, 260, 4, 0, 0, 1684), (14, 191, 130, 3, 0, 0, 1057), (14, 194, 261, 3, 0, 0, 1694), (14, 195, 131, 1, 0, 0, 1065), (14, 198, 263, 1, 0, 0, 1698),
  (14, 199, 132, 1, 0, 0, 1089), (14, 202, 264, 1, 0, 0, 1706)
]
-- what the machine does itself: own class, place; which (0 Object(), 1 abs, 2 max, 3 min, 4 arraycopy, 5 length, 6 charAt)
def itab : List (Nat × Nat × Nat) := [
  (0, 3, 0), (0, 42, 2), (1, 3, 0), (1, 45, 2), (2, 3, 0), (3, 3, 0), (3, 58, 4), (3, 79, 1), (4, 3, 0), (5, 3, 0),
  (5, 25, 4), (6, 3, 0), (7, 3, 0), (7, 61, 4), (8, 3, 0), (8, 22, 4), (9, 3, 0), (10, 3, 0), (11, 3, 0), (11, 152, 4),
  (11, 345, 3), (11, 350, 2), (12, 1, 0), (12, 137, 3), (12, 142, 5), (12, 148, 6), (12, 308, 1), (12, 327, 2)
]
def ctab : List (Nat × Nat × Nat) := [
  (3, 19, 8), (7, 9, 3), (7, 18, 5), (11, 9, 10), (11, 15, 9), (11, 22, 4), (11, 31, 6), (11, 38, 7), (11, 49, 1), (11, 58, 2),
  (11, 65, 0), (11, 72, 3), (11, 79, 5), (14, 7, 11), (14, 10, 12)
]
def atab : List (Nat × Nat × Nat) := [
  (11, 9, 24), (11, 38, 25)
]
-- constants: own class, place; kind (0 int, 1 long, 2 a text), value
def ktab : List (Nat × Nat × Nat × Int) := [
  (2, 130, 1, -2), (4, 41, 1, 6386539), (4, 47, 1, 7102839), (4, 57, 1, 1835626084), (4, 62, 1, 1685024626), (4, 67, 1, 2002873451), (4, 72, 1, 426836649075), (4, 127, 1, 25209),
  (6, 38, 1, 1718378855), (6, 66, 1, 28530), (6, 75, 1, 6385252), (6, 77, 1, 7237492), (6, 95, 1, 1935764837), (6, 97, 1, 495673373300), (6, 99, 1, 1818326117), (6, 101, 1, 1918988901),
  (6, 103, 1, 1835099237), (6, 105, 1, 1667330660), (6, 107, 1, 418447455091), (7, 67, 1, 3), (7, 76, 1, 1439), (7, 140, 0, 65536), (11, 108, 1, 3), (11, 114, 1, 60),
  (11, 213, 1, 2), (11, 290, 1, 16), (11, 318, 1, 6), (11, 327, 1, 99999999), (11, 375, 1, 99), (11, 377, 1, 9999), (11, 382, 1, 999), (11, 409, 1, -1),
  (12, 103, 1, -1), (12, 136, 0, 100000), (12, 164, 2, -2), (12, 229, 2, -3), (12, 250, 1, 4), (12, 265, 1, 1439), (12, 343, 0, 99999999), (12, 357, 1, 16),
  (12, 380, 1, 4096), (12, 385, 0, 65536), (12, 386, 1, 9999), (13, 265, 0, 1431655765), (13, 266, 0, 858993459), (13, 267, 0, 252645135), (14, 32, 1, 4294967295)
]
def fld (c i : Nat) : Option (Nat × Nat × Nat) := (ftab.find? (fun e => e.1 == c && e.2.1 == i)).map (fun e => (e.2.2.1, e.2.2.2.1, e.2.2.2.2.1))
def mth (c i : Nat) : Option (Nat × Nat × Nat) := (mtabl.find? (fun e => e.1 == c && e.2.1 == i)).map (fun e => (e.2.2.1, e.2.2.2.1, e.2.2.2.2.1))
def itr (c i : Nat) : Option Nat := (itab.find? (fun e => e.1 == c && e.2.1 == i)).map (fun e => e.2.2)
def ncl (c i : Nat) : Option Nat := (ctab.find? (fun e => e.1 == c && e.2.1 == i)).map (fun e => e.2.2)
def nar (c i : Nat) : Option Nat := (atab.find? (fun e => e.1 == c && e.2.1 == i)).map (fun e => e.2.2)
def kst (c i : Nat) : Option (Nat × Int) := (ktab.find? (fun e => e.1 == c && e.2.1 == i)).map (fun e => e.2.2)
-- the fields of a class: how many, of what kind, final or not
def ftys : List (List Nat) := [[2, 2, 2], [2, 2, 2], [2, 0, 0, 0, 0, 3, 0, 0, 1], [0, 2, 2, 2, 2, 0, 2, 2, 0, 0, 0], [2, 3, 3], [0, 0, 2, 2], [2, 0], [2, 2, 0, 2, 2, 2, 2, 2, 2, 2, 2, 0], [2, 2, 2], [2, 0, 0, 0, 1, 0, 0, 0, 0, 0], [0, 0, 2], [2, 2, 2, 2, 2, 2, 2, 2, 2, 2, 2, 0, 1, 1, 0, 3, 0, 0, 0], [2, 0, 1, 1, 2, 2, 2, 2, 2, 0, 0, 0, 0, 0, 0, 0, 0, 0, 0, 2, 2, 0, 0, 0, 0, 3, 1, 1, 2, 2, 0, 2, 2, 2, 2, 0, 2, 2, 0, 0, 0]]
def ffin : List (List Bool) := [[true, true, true], [true, true, true], [true, false, false, false, false, false, false, false, false], [false, true, true, true, true, false, true, true, false, false, false], [true, false, false], [false, false, true, true], [true, false], [false, false, false, true, true, true, true, true, true, true, true, false], [true, true, true], [true, false, false, false, false, false, false, false, false, false], [false, false, true], [true, true, true, true, true, true, true, true, true, false, false, false, false, false, false, false, false, false, false], [true, false, false, false, true, true, true, true, true, false, false, false, false, false, false, false, false, false, false, true, true, false, false, false, false, false, false, false, true, true, false, true, true, true, true, false, true, true, false, false, false]]
def nfl (c : Nat) : Nat := (ftys.getD c []).length
def fty (c j : Nat) : Nat := (ftys.getD c []).getD j 0
def ffi (c j : Nat) : Bool := (ffin.getD c []).getD j false
/-- the first value of a field -/
def fz (c : Nat) (j : Int) : Int := if fty c j.toNat = 2 then -1 else 0
/-- the two texts -/
def sby (a : Int) : List Int := if a = -2 then [32, 97, 115, 107, 32, 108, 97, 119, 32, 109, 105, 110, 100, 32, 98, 121, 32, 100, 111, 111, 114, 32, 119, 97, 108, 107, 32, 99, 97, 114, 100, 115, 32] else if a = -3 then [32, 102, 108, 97, 103, 32, 111, 114, 32, 97, 110, 100, 32, 110, 111, 116, 32, 115, 97, 109, 101, 32, 115, 104, 111, 114, 116, 32, 108, 97, 116, 101, 32, 114, 97, 114, 101, 32, 109, 97, 100, 101, 32, 99, 97, 114, 100, 32, 97, 109, 105, 115, 115, 32] else []
