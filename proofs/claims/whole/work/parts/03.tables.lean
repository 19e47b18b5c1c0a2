/-! ===== the mini machine: tables (written by wip/whole/gen/gen3.py) ===== -/
def mjN : List String := [RX0, RX1, RX2, RX3, RX4, RX5, RX6, RX7, RX8, RX9, RX10, RX11, RX12, RX13, RX14, RL, RJ13, RJ9]
def mjT0 : List (MethodName × ByteArray × Nat × Option FieldType × Nat × Nat × List (Nat × Nat × Nat × Nat)) := [
  (yX0_init, cX0_init, 1, none, 0, 0, []),
  (yX0_run, cX0_run, 4, none, 0, 2, []),
  (yX0_clauseRow, cX0_clauseRow, 2, (some .int), 0, 2, []),
  (yX0_row, cX0_row, 2, (some .int), 0, 2, []),
  (yX0_lanesWith, cX0_lanesWith, 2, (some .long), 0, 2, []),
  (yX0_bitOf, cX0_bitOf, 2, (some .int), 0, 1, []),
  (yX0_setVariables, cX0_setVariables, 3, none, 0, 1, []),
  (yX0_workOutClauses, cX0_workOutClauses, 7, none, 0, 1, []),
  (yX0_layGivens, cX0_layGivens, 9, none, 0, 1, []),
  (yX0_follow, cX0_follow, 8, none, 0, 1, []),
  (yX0_joinOwn, cX0_joinOwn, 7, none, 0, 3, []),
  (yX0_compare, cX0_compare, 6, none, 0, 1, []),
  (yX0_wrongLanes, cX0_wrongLanes, 9, (some .long), 0, 3, []),
  (yX0_hasAssignment, cX0_hasAssignment, 2, (some .boolean), 0, 1, []),
  (yX0_howManyFail, cX0_howManyFail, 1, (some .int), 0, 0, []),
  (yX0_howManyAreOut, cX0_howManyAreOut, 1, (some .int), 0, 0, []),
  (yX0_lanesIn, cX0_lanesIn, 4, (some .int), 0, 1, []),
  (yX0_failingByRank, cX0_failingByRank, 5, (some .int), 0, 1, []),
  (yX0_laneByRank, cX0_laneByRank, 6, (some .int), 0, 2, []),
  (yX0_isIn, cX0_isIn, 3, (some .boolean), 0, 2, [])]
def mjT1 : List (MethodName × ByteArray × Nat × Option FieldType × Nat × Nat × List (Nat × Nat × Nat × Nat)) := [
  (yX0_firstWrongClause, cX0_firstWrongClause, 4, (some .int), 0, 1, []),
  (yX0_firstWrongTime, cX0_firstWrongTime, 3, (some .int), 0, 1, []),
  (yX0_wrongTime, cX0_wrongTime, 4, (some .int), 0, 2, []),
  (yX0_valueOf, cX0_valueOf, 6, (some .int), 0, 3, []),
  (yX0_everMatters, cX0_everMatters, 5, (some .boolean), 0, 3, []),
  (yX0_changedLanes, cX0_changedLanes, 12, (some .long), 0, 3, []),
  (yX1_init, cX1_init, 1, none, 1, 0, []),
  (yX1_hasNode, cX1_hasNode, 2, (some .boolean), 1, 1, []),
  (yX1_find, cX1_find, 4, (some .int), 1, 1, []),
  (yX1_howMany, cX1_howMany, 4, (some .int), 1, 1, []),
  (yX1_declare, cX1_declare, 4, (some .boolean), 1, 2, []),
  (yX1_link, cX1_link, 4, none, 1, 0, []),
  (yX1_leavesOf, cX1_leavesOf, 5, (some .long), 1, 1, []),
  (yX1_close, cX1_close, 4, none, 1, 1, []),
  (yX1_firstLoop, cX1_firstLoop, 2, (some .int), 1, 0, []),
  (yX1_putInOrder, cX1_putInOrder, 4, none, 1, 0, []),
  (yX1_rankOf, cX1_rankOf, 2, (some .int), 1, 1, []),
  (yX2_init, cX2_init, 2, none, 2, 1, []),
  (yX2_read, cX2_read, 4, (some .int), 2, 1, []),
  (yX2_takeItem, cX2_takeItem, 1, (some .boolean), 2, 0, [])]
def mjT2 : List (MethodName × ByteArray × Nat × Option FieldType × Nat × Nat × List (Nat × Nat × Nat × Nat)) := [
  (yX2_takeInputs, cX2_takeInputs, 3, (some .boolean), 2, 0, []),
  (yX2_takeMade, cX2_takeMade, 3, (some .boolean), 2, 1, []),
  (yX2_takeDeclared, cX2_takeDeclared, 2, (some .boolean), 2, 1, []),
  (yX2_takeLeaf, cX2_takeLeaf, 1, (some .boolean), 2, 0, []),
  (yX2_putNodesForNames, cX2_putNodesForNames, 4, (some .int), 2, 0, []),
  (yX3_init, cX3_init, 1, none, 3, 0, []),
  (yX3_clear, cX3_clear, 1, none, 3, 0, []),
  (yX3_variable, cX3_variable, 4, (some .int), 3, 1, []),
  (yX3_setTimes, cX3_setTimes, 4, none, 3, 3, []),
  (yX4_init, cX4_init, 2, none, 4, 1, []),
  (yX4_read, cX4_read, 4, (some .int), 4, 2, []),
  (yX4_takeClauses, cX4_takeClauses, 2, (some .boolean), 4, 0, []),
  (yX4_takeClause, cX4_takeClause, 3, (some .boolean), 4, 0, []),
  (yX4_takeTimes, cX4_takeTimes, 4, (some .boolean), 4, 1, []),
  (yX4_takeTime, cX4_takeTime, 3, (some .int), 4, 1, []),
  (yX4_takeLeaf, cX4_takeLeaf, 2, (some .boolean), 4, 0, []),
  (yX5_init, cX5_init, 1, none, 5, 0, []),
  (yX5_add, cX5_add, 2, none, 5, 1, []),
  (yX5_at, cX5_at, 2, (some .int), 5, 1, []),
  (yX5_set, cX5_set, 3, none, 5, 2, [])]
def mjT3 : List (MethodName × ByteArray × Nat × Option FieldType × Nat × Nat × List (Nat × Nat × Nat × Nat)) := [
  (yX6_init, cX6_init, 2, none, 6, 1, []),
  (yX6_begin, cX6_begin, 2, none, 6, 1, []),
  (yX6_takeSign, cX6_takeSign, 2, (some .boolean), 6, 1, []),
  (yX6_takeWord, cX6_takeWord, 3, (some .boolean), 6, 1, []),
  (yX6_takeFormula, cX6_takeFormula, 3, (some .boolean), 6, 0, []),
  (yX6_takeOpeners, cX6_takeOpeners, 3, (some .boolean), 6, 0, []),
  (yX6_takeClosers, cX6_takeClosers, 2, none, 6, 0, []),
  (yX6_letWait, cX6_letWait, 2, none, 6, 1, []),
  (yX6_setFree, cX6_setFree, 2, none, 6, 1, []),
  (yX6_strengthOf, cX6_strengthOf, 1, (some .int), 6, 1, []),
  (yX6_takeAtom, cX6_takeAtom, 1, (some .boolean), 6, 0, []),
  (yX7_init, cX7_init, 1, none, 7, 0, []),
  (yX7_run, cX7_run, 9, none, 7, 6, []),
  (yX7_ones, cX7_ones, 1, (some .long), 7, 0, []),
  (yX7_zeros, cX7_zeros, 1, (some .long), 7, 0, []),
  (yX7_push, cX7_push, 5, none, 7, 2, []),
  (yX7_apply, cX7_apply, 2, none, 7, 1, []),
  (yX7_invert, cX7_invert, 3, none, 7, 0, []),
  (yX7_join, cX7_join, 10, none, 7, 1, []),
  (yX8_init, cX8_init, 1, none, 8, 0, [])]
def mjT4 : List (MethodName × ByteArray × Nat × Option FieldType × Nat × Nat × List (Nat × Nat × Nat × Nat)) := [
  (yX8_put, cX8_put, 3, none, 8, 1, []),
  (yX8_byteAt, cX8_byteAt, 2, (some .int), 8, 1, []),
  (yX9_init, cX9_init, 2, none, 9, 1, []),
  (yX9_scan, cX9_scan, 3, none, 9, 0, []),
  (yX9_addToken, cX9_addToken, 7, (some .int), 9, 2, []),
  (yX9_stopOf, cX9_stopOf, 4, (some .int), 9, 2, []),
  (yX9_goesOn, cX9_goesOn, 2, (some .boolean), 9, 2, []),
  (yX9_kindOf, cX9_kindOf, 1, (some .int), 9, 1, []),
  (yX9_longest, cX9_longest, 1, (some .int), 9, 1, []),
  (yX9_isReserved, cX9_isReserved, 2, (some .boolean), 9, 1, []),
  (yX9_isSmall, cX9_isSmall, 1, (some .boolean), 9, 1, []),
  (yX9_isCapital, cX9_isCapital, 1, (some .boolean), 9, 1, []),
  (yX9_isDigit, cX9_isDigit, 1, (some .boolean), 9, 1, []),
  (yX9_kind, cX9_kind, 1, (some .int), 9, 0, []),
  (yX9_place, cX9_place, 1, (some .int), 9, 0, []),
  (yX9_key, cX9_key, 1, (some .long), 9, 0, []),
  (yX9_index, cX9_index, 1, (some .int), 9, 0, []),
  (yX9_placeAt, cX9_placeAt, 2, (some .int), 9, 1, []),
  (yX9_keyAt, cX9_keyAt, 2, (some .long), 9, 1, []),
  (yX9_number, cX9_number, 4, (some .int), 9, 0, [])]
def mjT5 : List (MethodName × ByteArray × Nat × Option FieldType × Nat × Nat × List (Nat × Nat × Nat × Nat)) := [
  (yX9_step, cX9_step, 1, none, 9, 0, []),
  (yX10_init, cX10_init, 2, none, 10, 0, []),
  (yX10_feed, cX10_feed, 6, (some .int), 10, 5, []),
  (yX10_end, cX10_end, 2, (some .int), 10, 1, []),
  (yX10_circuit, cX10_circuit, 3, (some .int), 10, 0, []),
  (yX10_assertion, cX10_assertion, 3, (some .int), 10, 0, []),
  (yX10_fails, cX10_fails, 1, (some .int), 10, 0, []),
  (yX10_excluded, cX10_excluded, 1, (some .int), 10, 0, []),
  (yX10_failing, cX10_failing, 2, (some .int), 10, 1, []),
  (yX10_shortfall, cX10_shortfall, 3, (some .int), 10, 2, []),
  (yX10_value, cX10_value, 4, (some .int), 10, 3, []),
  (yX10_matters, cX10_matters, 4, (some .int), 10, 3, []),
  (yX10_cone, cX10_cone, 2, (some .int), 10, 1, []),
  (yX10_count, cX10_count, 2, (some .int), 10, 1, []),
  (yX10_hasPlace, cX10_hasPlace, 3, (some .boolean), 10, 2, []),
  (yX11_init, cX11_init, 1, none, 11, 0, []),
  (yX12_init, cX12_init, 1, none, 12, 0, []),
  (yX13_init, cX13_init, 1, none, 13, 0, []),
  (yX14_init, cX14_init, 1, none, 14, 0, []),
  (yX14_put, cX14_put, 3, none, 14, 1, [])]
def mjT6 : List (MethodName × ByteArray × Nat × Option FieldType × Nat × Nat × List (Nat × Nat × Nat × Nat)) := [
  (yX14_feed, cX14_feed, 6, (some .int), 14, 5, []),
  (yX14_end, cX14_end, 2, (some .int), 14, 1, []),
  (yX14_byteAt, cX14_byteAt, 2, (some .int), 14, 1, []),
  (yX14_digit, cX14_digit, 1, (some .boolean), 14, 1, []),
  (yX14_small, cX14_small, 1, (some .boolean), 14, 1, []),
  (yX14_capital, cX14_capital, 1, (some .boolean), 14, 1, []),
  (yX14_readTokens, cX14_readTokens, 8, none, 14, 0, []),
  (yX14_here, cX14_here, 2, (some .boolean), 14, 1, []),
  (yX14_check, cX14_check, 2, none, 14, 1, []),
  (yX14_take, cX14_take, 2, none, 14, 1, []),
  (yX14_tree, cX14_tree, 5, (some .int), 14, 3, []),
  (yX14_ors, cX14_ors, 3, (some .int), 14, 1, []),
  (yX14_xors, cX14_xors, 3, (some .int), 14, 1, []),
  (yX14_ands, cX14_ands, 3, (some .int), 14, 1, []),
  (yX14_not, cX14_not, 2, (some .int), 14, 1, []),
  (yX14_atom, cX14_atom, 3, (some .int), 14, 1, []),
  (yX14_variable, cX14_variable, 2, (some .int), 14, 0, []),
  (yX14_find, cX14_find, 4, (some .int), 14, 2, []),
  (yX14_declare, cX14_declare, 3, none, 14, 1, []),
  (yX14_item, cX14_item, 3, none, 14, 0, [])]
def mjT7 : List (MethodName × ByteArray × Nat × Option FieldType × Nat × Nat × List (Nat × Nat × Nat × Nat)) := [
  (yX14_names, cX14_names, 3, (some .boolean), 14, 2, []),
  (yX14_reach, cX14_reach, 9, none, 14, 3, []),
  (yX14_finish, cX14_finish, 2, none, 14, 0, []),
  (yX14_circuit, cX14_circuit, 2, (some .int), 14, 0, [(51, 70, 73, 128)]),
  (yX14_number, cX14_number, 2, (some .int), 14, 1, []),
  (yX14_clause, cX14_clause, 3, none, 14, 1, []),
  (yX14_part, cX14_part, 4, (some .int), 14, 1, []),
  (yX14_assertion, cX14_assertion, 2, (some .int), 14, 0, [(59, 111, 114, 128)]),
  (yX14_cell, cX14_cell, 4, (some .int), 14, 3, []),
  (yX14_variable_, cX14_variable_, 2, (some .boolean), 14, 1, []),
  (yX14_holds, cX14_holds, 2, (some .boolean), 14, 1, []),
  (yX14_valueOf, cX14_valueOf, 7, (some .int), 14, 3, []),
  (yX14_covers, cX14_covers, 4, (some .boolean), 14, 4, []),
  (yX14_applies, cX14_applies, 2, (some .boolean), 14, 1, []),
  (yX14_work, cX14_work, 6, none, 14, 2, []),
  (yX14_judge, cX14_judge, 5, none, 14, 1, []),
  (yX14_all, cX14_all, 1, (some .int), 14, 0, []),
  (yX14_fails, cX14_fails, 3, (some .int), 14, 0, []),
  (yX14_excluded, cX14_excluded, 3, (some .int), 14, 0, []),
  (yX14_failing, cX14_failing, 4, (some .int), 14, 1, [])]
def mjT8 : List (MethodName × ByteArray × Nat × Option FieldType × Nat × Nat × List (Nat × Nat × Nat × Nat)) := [
  (yX14_shortfall, cX14_shortfall, 3, (some .int), 14, 2, []),
  (yX14_isPlace, cX14_isPlace, 3, (some .boolean), 14, 2, []),
  (yX14_value, cX14_value, 4, (some .int), 14, 3, []),
  (yX14_matters, cX14_matters, 6, (some .int), 14, 3, []),
  (yX14_cone, cX14_cone, 4, (some .int), 14, 1, []),
  (yX14_kinds, cX14_kinds, 4, (some .int), 14, 1, []),
  (yX14_count, cX14_count, 2, (some .int), 14, 1, []),
  (yJ13_bitCount_95d88, cJ13_bitCount_95d88, 2, (some .int), 16, 1, []),
  (yL_law, cL_law, 4, (some .boolean), 15, 1, [])]
def mjT : List (MethodName × ByteArray × Nat × Option FieldType × Nat × Nat × List (Nat × Nat × Nat × Nat)) := mjT0 ++ (mjT1 ++ (mjT2 ++ (mjT3 ++ (mjT4 ++ (mjT5 ++ (mjT6 ++ (mjT7 ++ (mjT8))))))))
def mjr (j : Nat) : MethodName × ByteArray × Nat × Option FieldType × Nat × Nat × List (Nat × Nat × Nat × Nat) := mjT.getD j (yL_law, cL_law, 4, some .boolean, 15, 1, [])
def mY (j : Nat) : MethodName := (mjr j).1
def mB (j : Nat) : ByteArray := (mjr j).2.1
def mL (j : Nat) : Nat := (mjr j).2.2.1
def mR (j : Nat) : Option FieldType := (mjr j).2.2.2.1
def mO (j : Nat) : Nat := (mjr j).2.2.2.2.1
def mP (j : Nat) : Nat := (mjr j).2.2.2.2.2.1
def mHH (j : Nat) : List (Nat × Nat × Nat × Nat) := (mjr j).2.2.2.2.2.2
def oN (o : Nat) : String := mjN.getD o ""
abbrev jX0_init : Nat := 0
abbrev jX0_run : Nat := 1
abbrev jX0_clauseRow : Nat := 2
abbrev jX0_row : Nat := 3
abbrev jX0_lanesWith : Nat := 4
abbrev jX0_bitOf : Nat := 5
abbrev jX0_setVariables : Nat := 6
abbrev jX0_workOutClauses : Nat := 7
abbrev jX0_layGivens : Nat := 8
abbrev jX0_follow : Nat := 9
abbrev jX0_joinOwn : Nat := 10
abbrev jX0_compare : Nat := 11
abbrev jX0_wrongLanes : Nat := 12
abbrev jX0_hasAssignment : Nat := 13
abbrev jX0_howManyFail : Nat := 14
abbrev jX0_howManyAreOut : Nat := 15
abbrev jX0_lanesIn : Nat := 16
abbrev jX0_failingByRank : Nat := 17
abbrev jX0_laneByRank : Nat := 18
abbrev jX0_isIn : Nat := 19
abbrev jX0_firstWrongClause : Nat := 20
abbrev jX0_firstWrongTime : Nat := 21
abbrev jX0_wrongTime : Nat := 22
abbrev jX0_valueOf : Nat := 23
abbrev jX0_everMatters : Nat := 24
abbrev jX0_changedLanes : Nat := 25
abbrev jX1_init : Nat := 26
abbrev jX1_hasNode : Nat := 27
abbrev jX1_find : Nat := 28
abbrev jX1_howMany : Nat := 29
abbrev jX1_declare : Nat := 30
abbrev jX1_link : Nat := 31
abbrev jX1_leavesOf : Nat := 32
abbrev jX1_close : Nat := 33
abbrev jX1_firstLoop : Nat := 34
abbrev jX1_putInOrder : Nat := 35
abbrev jX1_rankOf : Nat := 36
abbrev jX2_init : Nat := 37
abbrev jX2_read : Nat := 38
abbrev jX2_takeItem : Nat := 39
abbrev jX2_takeInputs : Nat := 40
abbrev jX2_takeMade : Nat := 41
abbrev jX2_takeDeclared : Nat := 42
abbrev jX2_takeLeaf : Nat := 43
abbrev jX2_putNodesForNames : Nat := 44
abbrev jX3_init : Nat := 45
abbrev jX3_clear : Nat := 46
abbrev jX3_variable : Nat := 47
abbrev jX3_setTimes : Nat := 48
abbrev jX4_init : Nat := 49
abbrev jX4_read : Nat := 50
abbrev jX4_takeClauses : Nat := 51
abbrev jX4_takeClause : Nat := 52
abbrev jX4_takeTimes : Nat := 53
abbrev jX4_takeTime : Nat := 54
abbrev jX4_takeLeaf : Nat := 55
abbrev jX5_init : Nat := 56
abbrev jX5_add : Nat := 57
abbrev jX5_at : Nat := 58
abbrev jX5_set : Nat := 59
abbrev jX6_init : Nat := 60
abbrev jX6_begin : Nat := 61
abbrev jX6_takeSign : Nat := 62
abbrev jX6_takeWord : Nat := 63
abbrev jX6_takeFormula : Nat := 64
abbrev jX6_takeOpeners : Nat := 65
abbrev jX6_takeClosers : Nat := 66
abbrev jX6_letWait : Nat := 67
abbrev jX6_setFree : Nat := 68
abbrev jX6_strengthOf : Nat := 69
abbrev jX6_takeAtom : Nat := 70
abbrev jX7_init : Nat := 71
abbrev jX7_run : Nat := 72
abbrev jX7_ones : Nat := 73
abbrev jX7_zeros : Nat := 74
abbrev jX7_push : Nat := 75
abbrev jX7_apply : Nat := 76
abbrev jX7_invert : Nat := 77
abbrev jX7_join : Nat := 78
abbrev jX8_init : Nat := 79
abbrev jX8_put : Nat := 80
abbrev jX8_byteAt : Nat := 81
abbrev jX9_init : Nat := 82
abbrev jX9_scan : Nat := 83
abbrev jX9_addToken : Nat := 84
abbrev jX9_stopOf : Nat := 85
abbrev jX9_goesOn : Nat := 86
abbrev jX9_kindOf : Nat := 87
abbrev jX9_longest : Nat := 88
abbrev jX9_isReserved : Nat := 89
abbrev jX9_isSmall : Nat := 90
abbrev jX9_isCapital : Nat := 91
abbrev jX9_isDigit : Nat := 92
abbrev jX9_kind : Nat := 93
abbrev jX9_place : Nat := 94
abbrev jX9_key : Nat := 95
abbrev jX9_index : Nat := 96
abbrev jX9_placeAt : Nat := 97
abbrev jX9_keyAt : Nat := 98
abbrev jX9_number : Nat := 99
abbrev jX9_step : Nat := 100
abbrev jX10_init : Nat := 101
abbrev jX10_feed : Nat := 102
abbrev jX10_end : Nat := 103
abbrev jX10_circuit : Nat := 104
abbrev jX10_assertion : Nat := 105
abbrev jX10_fails : Nat := 106
abbrev jX10_excluded : Nat := 107
abbrev jX10_failing : Nat := 108
abbrev jX10_shortfall : Nat := 109
abbrev jX10_value : Nat := 110
abbrev jX10_matters : Nat := 111
abbrev jX10_cone : Nat := 112
abbrev jX10_count : Nat := 113
abbrev jX10_hasPlace : Nat := 114
abbrev jX11_init : Nat := 115
abbrev jX12_init : Nat := 116
abbrev jX13_init : Nat := 117
abbrev jX14_init : Nat := 118
abbrev jX14_put : Nat := 119
abbrev jX14_feed : Nat := 120
abbrev jX14_end : Nat := 121
abbrev jX14_byteAt : Nat := 122
abbrev jX14_digit : Nat := 123
abbrev jX14_small : Nat := 124
abbrev jX14_capital : Nat := 125
abbrev jX14_readTokens : Nat := 126
abbrev jX14_here : Nat := 127
abbrev jX14_check : Nat := 128
abbrev jX14_take : Nat := 129
abbrev jX14_tree : Nat := 130
abbrev jX14_ors : Nat := 131
abbrev jX14_xors : Nat := 132
abbrev jX14_ands : Nat := 133
abbrev jX14_not : Nat := 134
abbrev jX14_atom : Nat := 135
abbrev jX14_variable : Nat := 136
abbrev jX14_find : Nat := 137
abbrev jX14_declare : Nat := 138
abbrev jX14_item : Nat := 139
abbrev jX14_names : Nat := 140
abbrev jX14_reach : Nat := 141
abbrev jX14_finish : Nat := 142
abbrev jX14_circuit : Nat := 143
abbrev jX14_number : Nat := 144
abbrev jX14_clause : Nat := 145
abbrev jX14_part : Nat := 146
abbrev jX14_assertion : Nat := 147
abbrev jX14_cell : Nat := 148
abbrev jX14_variable_ : Nat := 149
abbrev jX14_holds : Nat := 150
abbrev jX14_valueOf : Nat := 151
abbrev jX14_covers : Nat := 152
abbrev jX14_applies : Nat := 153
abbrev jX14_work : Nat := 154
abbrev jX14_judge : Nat := 155
abbrev jX14_all : Nat := 156
abbrev jX14_fails : Nat := 157
abbrev jX14_excluded : Nat := 158
abbrev jX14_failing : Nat := 159
abbrev jX14_shortfall : Nat := 160
abbrev jX14_isPlace : Nat := 161
abbrev jX14_value : Nat := 162
abbrev jX14_matters : Nat := 163
abbrev jX14_cone : Nat := 164
abbrev jX14_kinds : Nat := 165
abbrev jX14_count : Nat := 166
abbrev jJ13_bitCount_95d88 : Nat := 167
abbrev jL_law : Nat := 168
def mjX : List (String × MethodName) := [(RX2, yX6_takeOpeners), (RX4, yX6_takeOpeners), (RX2, yX6_takeClosers), (RX4, yX6_takeClosers), (RX2, yX6_letWait), (RX4, yX6_letWait), (RX2, yX6_setFree), (RX4, yX6_setFree), (RX2, yX6_takeAtom), (RX4, yX6_takeAtom)]
def mjS : List Cond := mjX.map (fun q => Cond.selects q.1 q.2 q.2) ++ lw_tbl
/-- fields by owner: pool index, class of the object, slot, class that the link names, place of the link word, place of the sameField word (or 9999) -/
def mjF : List (List (Nat × Nat × Nat × String × Nat × Nat)) := [
  [(12, 0, 5, RX0, 239, 9999), (20, 0, 6, RX0, 240, 9999), (24, 0, 7, RX0, 241, 9999), (27, 0, 8, RX0, 242, 9999), (30, 0, 9, RX0, 243, 9999), (35, 0, 10, RX0, 244, 9999), (38, 0, 11, RX0, 245, 9999), (41, 0, 12, RX0, 246, 9999), (44, 0, 13, RX0, 247, 9999), (47, 0, 0, RX0, 234, 9999), (51, 0, 1, RX0, 235, 9999), (55, 3, 0, RX3, 348, 9999), (59, 0, 2, RX0, 236, 9999), (68, 0, 3, RX0, 237, 9999), (73, 0, 4, RX0, 238, 9999), (104, 3, 3, RX3, 357, 9999), (107, 3, 8, RX3, 371, 9999), (111, 3, 9, RX3, 374, 9999), (114, 3, 10, RX3, 377, 9999), (120, 3, 11, RX3, 380, 9999), (134, 3, 4, RX3, 360, 9999), (137, 3, 2, RX3, 353, 9999), (140, 3, 6, RX3, 366, 9999), (143, 3, 7, RX3, 368, 9999), (146, 3, 5, RX3, 364, 9999), (149, 1, 0, RX1, 302, 9999), (152, 1, 8, RX1, 319, 9999), (159, 1, 2, RX1, 306, 9999), (162, 1, 5, RX1, 314, 9999), (163, 1, 3, RX1, 308, 9999), (164, 1, 4, RX1, 311, 9999)],
  [(11, 1, 1, RX1, 304, 9999), (15, 1, 2, RX1, 305, 9999), (19, 1, 3, RX1, 307, 9999), (22, 1, 4, RX1, 309, 9999), (28, 1, 5, RX1, 312, 9999), (32, 1, 6, RX1, 315, 9999), (35, 1, 7, RX1, 317, 9999), (38, 1, 8, RX1, 318, 9999), (41, 1, 0, RX1, 300, 9999), (49, 5, 1, RX5, 294, 9999)],
  [(11, 2, 7, RX2, 161, 9999), (17, 2, 6, RX2, 160, 9999), (21, 1, 0, RX1, 301, 9999), (25, 1, 5, RX1, 313, 9999), (35, 2, 0, RX2, 163, 164), (88, 1, 4, RX1, 310, 9999), (91, 2, 1, RX2, 170, 171), (92, 5, 1, RX5, 293, 9999)],
  [(11, 3, 1, RX3, 350, 9999), (15, 3, 5, RX3, 362, 9999), (19, 3, 6, RX3, 365, 9999), (22, 3, 7, RX3, 367, 9999), (25, 3, 8, RX3, 369, 9999), (28, 3, 9, RX3, 372, 9999), (31, 3, 10, RX3, 375, 9999), (37, 3, 11, RX3, 378, 9999), (41, 3, 0, RX3, 347, 9999), (45, 3, 2, RX3, 351, 9999), (48, 3, 3, RX3, 355, 9999), (51, 3, 4, RX3, 359, 9999)],
  [(9, 4, 6, RX4, 199, 9999), (15, 4, 7, RX4, 200, 9999), (25, 3, 11, RX3, 379, 9999), (45, 3, 3, RX3, 356, 9999), (49, 3, 2, RX3, 352, 9999), (58, 4, 0, RX4, 165, 166), (85, 3, 5, RX3, 363, 9999), (89, 3, 8, RX3, 370, 9999), (92, 4, 1, RX4, 168, 169), (93, 5, 1, RX5, 292, 9999), (103, 3, 9, RX3, 373, 9999), (108, 3, 10, RX3, 376, 9999)],
  [(9, 5, 0, RX5, 289, 9999), (15, 5, 1, RX5, 290, 9999)],
  [(9, 2, 3, RX6, 173, 9999), (9, 4, 3, RX6, 173, 9999), (13, 2, 0, RX6, 162, 9999), (13, 4, 0, RX6, 162, 9999), (22, 2, 2, RX6, 172, 9999), (22, 4, 2, RX6, 172, 9999), (26, 2, 1, RX6, 167, 9999), (26, 4, 1, RX6, 167, 9999), (30, 5, 1, RX5, 291, 9999), (46, 2, 4, RX6, 174, 9999), (46, 4, 4, RX6, 174, 9999), (49, 2, 5, RX6, 175, 9999), (49, 4, 5, RX6, 175, 9999)],
  [(9, 6, 0, RX7, 224, 9999), (13, 6, 1, RX7, 225, 9999), (16, 6, 2, RX7, 226, 9999)],
  [(9, 7, 0, RX8, 114, 9999), (13, 7, 1, RX8, 116, 9999)],
  [(9, 8, 1, RX9, 131, 9999), (15, 8, 2, RX9, 132, 9999), (18, 8, 3, RX9, 133, 9999), (22, 8, 0, RX9, 130, 9999), (26, 8, 4, RX9, 134, 9999), (30, 8, 5, RX9, 135, 9999), (33, 7, 1, RX8, 117, 9999)],
  [(10, 9, 0, RX10, 406, 9999), (26, 9, 1, RX10, 407, 9999), (33, 9, 2, RX10, 408, 9999), (40, 9, 3, RX10, 409, 9999), (47, 9, 4, RX10, 410, 9999), (51, 9, 5, RX10, 411, 9999), (57, 9, 6, RX10, 412, 9999), (61, 9, 7, RX10, 413, 9999), (64, 9, 8, RX10, 414, 9999), (68, 7, 1, RX8, 115, 9999), (116, 3, 0, RX3, 349, 9999), (126, 1, 6, RX1, 316, 9999), (136, 1, 0, RX1, 303, 9999), (142, 3, 2, RX3, 354, 9999), (145, 3, 3, RX3, 358, 9999), (148, 3, 4, RX3, 361, 9999)],
  [(9, 10, 0, RX11, 977, 9999), (15, 10, 1, RX11, 979, 9999), (18, 10, 2, RX11, 981, 9999), (21, 10, 3, RX11, 983, 9999), (24, 10, 4, RX11, 985, 9999), (27, 10, 5, RX11, 987, 9999)],
  [(9, 11, 0, RX12, 951, 9999), (15, 11, 1, RX12, 953, 9999), (19, 11, 2, RX12, 955, 9999), (22, 11, 3, RX12, 957, 9999)],
  [(9, 12, 0, RX13, 921, 9999), (15, 12, 1, RX13, 923, 9999), (18, 12, 2, RX13, 925, 9999), (21, 12, 3, RX13, 927, 9999), (25, 12, 4, RX13, 929, 9999)],
  [(9, 13, 0, RX14, 1015, 9999), (13, 13, 2, RX14, 1017, 9999), (17, 13, 3, RX14, 1018, 9999), (21, 13, 4, RX14, 1019, 9999), (24, 13, 5, RX14, 1020, 9999), (30, 13, 9, RX14, 1024, 9999), (34, 13, 10, RX14, 1025, 9999), (40, 13, 11, RX14, 1026, 9999), (44, 13, 12, RX14, 1027, 9999), (50, 13, 14, RX14, 1029, 9999), (54, 13, 15, RX14, 1030, 9999), (57, 13, 16, RX14, 1031, 9999), (61, 13, 23, RX14, 1038, 9999), (64, 13, 24, RX14, 1039, 9999), (68, 13, 25, RX14, 1040, 9999), (71, 13, 26, RX14, 1041, 9999), (74, 13, 27, RX14, 1042, 9999), (77, 13, 28, RX14, 1043, 9999), (80, 13, 30, RX14, 1045, 9999), (83, 13, 1, RX14, 1016, 9999), (91, 13, 6, RX14, 1021, 9999), (122, 13, 7, RX14, 1022, 9999), (125, 13, 8, RX14, 1023, 9999), (138, 13, 17, RX14, 1032, 9999), (141, 12, 5, RX13, 931, 9999), (144, 12, 0, RX13, 922, 9999), (147, 12, 1, RX13, 924, 9999), (150, 12, 2, RX13, 926, 9999), (175, 13, 20, RX14, 1035, 9999), (179, 13, 21, RX14, 1036, 9999), (182, 12, 3, RX13, 928, 9999), (185, 12, 4, RX13, 930, 9999), (192, 13, 19, RX14, 1034, 9999), (195, 10, 8, RX11, 991, 9999), (198, 10, 5, RX11, 988, 9999), (200, 11, 4, RX12, 959, 9999), (201, 11, 0, RX12, 952, 9999), (202, 13, 18, RX14, 1033, 9999), (209, 11, 1, RX12, 954, 9999), (210, 11, 2, RX12, 956, 9999), (212, 11, 3, RX12, 958, 9999), (233, 13, 13, RX14, 1028, 9999), (236, 13, 22, RX14, 1037, 9999), (241, 10, 0, RX11, 978, 9999), (244, 10, 1, RX11, 980, 9999), (247, 10, 2, RX11, 982, 9999), (250, 10, 3, RX11, 984, 9999), (253, 10, 4, RX11, 986, 9999), (259, 10, 9, RX11, 992, 9999), (268, 10, 6, RX11, 989, 9999), (271, 10, 7, RX11, 990, 9999), (277, 13, 29, RX14, 1044, 9999)],
  [],
  [],
  []]
/-- static calls by owner: pool index, callee, places of methodLink, static, initialized -/
def mjCs : List (List (Nat × Nat × Nat × Nat × Nat)) := [
  [(100, 4, 747, 748, 80), (117, 2, 756, 757, 80), (131, 3, 789, 790, 80), (175, 167, 824, 667, 90), (181, 18, 841, 842, 80), (185, 19, 856, 857, 80)],
  [(68, 167, 666, 667, 90)],
  [],
  [],
  [],
  [],
  [(68, 69, 620, 621, 77)],
  [],
  [],
  [(40, 87, 468, 469, 76), (55, 88, 491, 492, 76), (58, 89, 494, 495, 76), (62, 86, 488, 489, 76), (66, 90, 471, 472, 76), (70, 92, 477, 478, 76), (73, 91, 474, 475, 76)],
  [(130, 167, 900, 667, 90)],
  [],
  [],
  [],
  [(94, 124, 1131, 1132, 85), (102, 123, 1138, 1139, 85), (108, 125, 1143, 1144, 85), (205, 137, 1309, 1310, 85), (296, 152, 1389, 1390, 85)],
  [],
  [],
  []]
/-- constructor calls by owner: pool index, callee, 1 by a nest link, places of link, instanceMethod, initialized; the nest host -/
def mjCp : List (List (Nat × Nat × Nat × Nat × Nat × Nat × String)) := [
  [(11, 71, 1, 220, 221, 81, "TrajectoryRails")],
  [(27, 56, 1, 285, 286, 83, "TrajectoryRails")],
  [(3, 60, 0, 156, 157, 77, "")],
  [(36, 56, 1, 346, 286, 83, "TrajectoryRails")],
  [(3, 60, 0, 198, 157, 77, "")],
  [],
  [],
  [],
  [],
  [],
  [(9, 79, 1, 110, 111, 75, "TrajectoryRails"), (18, 82, 0, 126, 127, 76, ""), (23, 37, 0, 153, 154, 78, ""), (32, 49, 0, 195, 196, 79, ""), (39, 0, 1, 214, 215, 80, "TrajectoryRails"), (46, 26, 1, 279, 280, 82, "TrajectoryRails"), (56, 45, 1, 341, 342, 84, "TrajectoryRails")],
  [],
  [],
  [],
  [(29, 117, 1, 917, 918, 86, "TrajectoryRailsModel"), (39, 116, 1, 947, 948, 87, "TrajectoryRailsModel"), (49, 115, 1, 973, 974, 88, "TrajectoryRailsModel")],
  [(9, 101, 0, 102, 103, 74, ""), (12, 118, 0, 911, 912, 85, "")],
  [],
  []]
/-- virtual calls by owner: pool index, class of the receiver, callee, kind (0 plain, 1 inherited by declares, 2 inherited by instanceMethod), the linked name, owner; places of methodLink, sameMethod, selects, instanceMethod, initialized, declares or instanceMethod -/
def mjCv : List (List (Nat × Nat × Nat × Nat × MethodName × String × Nat × Nat × Nat × Nat × Nat × Nat)) := [
  [(77, 0, 6, 0, yX0_setVariables, RX0, 739, 9999, 25, 741, 80, 9999), (81, 0, 7, 0, yX0_workOutClauses, RX0, 752, 9999, 27, 754, 80, 9999), (84, 0, 8, 0, yX0_layGivens, RX0, 785, 9999, 32, 787, 80, 9999), (87, 0, 9, 0, yX0_follow, RX0, 792, 9999, 33, 794, 80, 9999), (90, 0, 11, 0, yX0_compare, RX0, 804, 9999, 35, 806, 80, 9999), (96, 0, 5, 0, yX0_bitOf, RX0, 743, 9999, 26, 745, 80, 9999), (124, 6, 72, 0, yX7_run, RX7, 759, 9999, 761, 760, 81, 9999), (128, 6, 73, 0, yX7_ones, RX7, 781, 9999, 783, 782, 81, 9999), (155, 0, 10, 0, yX0_joinOwn, RX0, 796, 9999, 34, 798, 80, 9999), (165, 6, 74, 0, yX7_zeros, RX7, 800, 9999, 802, 801, 81, 9999), (167, 0, 12, 0, yX0_wrongLanes, RX0, 808, 9999, 36, 810, 80, 9999), (171, 0, 16, 0, yX0_lanesIn, RX0, 820, 9999, 37, 822, 80, 9999), (189, 0, 22, 0, yX0_wrongTime, RX0, 859, 9999, 38, 861, 80, 9999), (192, 0, 20, 0, yX0_firstWrongClause, RX0, 867, 9999, 854, 853, 80, 9999), (195, 0, 25, 0, yX0_changedLanes, RX0, 892, 9999, 40, 894, 80, 9999)],
  [(45, 1, 28, 0, yX1_find, RX1, 546, 9999, 548, 547, 82, 9999), (50, 1, 32, 0, yX1_leavesOf, RX1, 649, 9999, 17, 651, 82, 9999), (54, 1, 33, 0, yX1_close, RX1, 654, 9999, 18, 656, 82, 9999), (58, 1, 35, 0, yX1_putInOrder, RX1, 658, 9999, 19, 660, 82, 9999), (61, 5, 58, 0, yX5_at, RX5, 653, 9999, 630, 629, 83, 9999), (65, 1, 36, 0, yX1_rankOf, RX1, 662, 9999, 20, 664, 82, 9999)],
  [(29, 2, 61, 1, ⟨RX2, "begin", "(LTrajectoryRails$Code;)V"⟩, RX6, 454, 455, 457, 458, 77, 456), (39, 8, 93, 0, yX9_kind, RX9, 509, 9999, 511, 510, 76, 9999), (45, 2, 39, 0, yX2_takeItem, RX2, 513, 9999, 12, 515, 78, 9999), (49, 8, 94, 0, yX9_place, RX9, 550, 9999, 552, 551, 76, 9999), (52, 2, 44, 0, yX2_putNodesForNames, RX2, 624, 9999, 16, 626, 78, 9999), (55, 1, 31, 0, yX1_link, RX1, 645, 9999, 647, 646, 82, 9999), (59, 1, 34, 0, yX1_firstLoop, RX1, 672, 9999, 674, 673, 82, 9999), (64, 2, 63, 1, ⟨RX2, "takeWord", "(J)Z"⟩, RX6, 518, 519, 521, 522, 77, 520), (68, 2, 40, 0, yX2_takeInputs, RX2, 533, 9999, 13, 535, 78, 9999), (73, 2, 41, 0, yX2_takeMade, RX2, 562, 9999, 15, 564, 78, 9999), (79, 2, 42, 0, yX2_takeDeclared, RX2, 537, 9999, 14, 539, 78, 9999), (82, 2, 62, 1, ⟨RX2, "takeSign", "(I)Z"⟩, RX6, 555, 556, 558, 559, 77, 557), (85, 2, 64, 1, ⟨RX2, "takeFormula", "()Z"⟩, RX6, 566, 567, 569, 570, 77, 568), (95, 8, 95, 0, yX9_key, RX9, 541, 9999, 527, 526, 76, 9999), (99, 1, 30, 0, yX1_declare, RX1, 542, 9999, 544, 543, 82, 9999), (103, 8, 100, 0, yX9_step, RX9, 554, 9999, 531, 530, 76, 9999), (106, 8, 96, 0, yX9_index, RX9, 590, 9999, 592, 591, 76, 9999), (109, 5, 57, 0, yX5_add, RX5, 594, 9999, 596, 595, 83, 9999), (113, 5, 58, 0, yX5_at, RX5, 628, 9999, 630, 629, 83, 9999), (117, 8, 98, 0, yX9_keyAt, RX9, 632, 9999, 634, 633, 76, 9999), (121, 1, 28, 0, yX1_find, RX1, 636, 9999, 548, 547, 82, 9999), (125, 8, 97, 0, yX9_placeAt, RX9, 637, 9999, 639, 638, 76, 9999), (128, 5, 59, 0, yX5_set, RX5, 641, 9999, 643, 642, 83, 9999)],
  [],
  [(19, 3, 46, 0, yX3_clear, RX3, 684, 9999, 686, 685, 84, 9999), (29, 4, 61, 1, ⟨RX4, "begin", "(LTrajectoryRails$Code;)V"⟩, RX6, 688, 689, 690, 458, 77, 456), (37, 4, 63, 1, ⟨RX4, "takeWord", "(J)Z"⟩, RX6, 692, 693, 694, 522, 77, 520), (41, 4, 51, 0, yX4_takeClauses, RX4, 695, 9999, 21, 697, 79, 9999), (54, 4, 62, 1, ⟨RX4, "takeSign", "(I)Z"⟩, RX6, 728, 729, 730, 559, 77, 557), (62, 8, 93, 0, yX9_kind, RX9, 601, 9999, 511, 510, 76, 9999), (66, 8, 94, 0, yX9_place, RX9, 732, 9999, 552, 551, 76, 9999), (69, 4, 52, 0, yX4_takeClause, RX4, 699, 9999, 22, 701, 79, 9999), (72, 8, 95, 0, yX9_key, RX9, 602, 9999, 527, 526, 76, 9999), (76, 1, 28, 0, yX1_find, RX1, 703, 9999, 548, 547, 82, 9999), (82, 8, 100, 0, yX9_step, RX9, 608, 9999, 531, 530, 76, 9999), (100, 4, 64, 1, ⟨RX4, "takeFormula", "()Z"⟩, RX6, 705, 706, 707, 570, 77, 568), (111, 4, 53, 0, yX4_takeTimes, RX4, 709, 9999, 23, 711, 79, 9999), (116, 3, 48, 0, yX3_setTimes, RX3, 714, 9999, 716, 715, 84, 9999), (120, 4, 54, 0, yX4_takeTime, RX4, 719, 9999, 24, 721, 79, 9999), (126, 8, 99, 0, yX9_number, RX9, 723, 9999, 725, 724, 76, 9999), (129, 3, 47, 0, yX3_variable, RX3, 603, 9999, 605, 604, 84, 9999), (132, 5, 57, 0, yX5_add, RX5, 607, 9999, 596, 595, 83, 9999)],
  [],
  [(17, 8, 83, 0, yX9_scan, RX9, 460, 9999, 462, 461, 76, 9999), (35, 8, 93, 0, yX9_kind, RX9, 524, 9999, 511, 510, 76, 9999), (39, 8, 100, 0, yX9_step, RX9, 529, 9999, 531, 530, 76, 9999), (42, 8, 95, 0, yX9_key, RX9, 525, 9999, 527, 526, 76, 9999), (54, 2, 65, 2, ⟨RX6, "takeOpeners", "()Z"⟩, RX6, 572, 1448, 0, 574, 77, 574), (54, 4, 65, 2, ⟨RX6, "takeOpeners", "()Z"⟩, RX6, 572, 1448, 1, 574, 77, 574), (58, 2, 70, 2, ⟨RX6, "takeAtom", "()Z"⟩, RX6, 580, 1450, 8, 582, 77, 582), (58, 4, 70, 2, ⟨RX6, "takeAtom", "()Z"⟩, RX6, 580, 1450, 9, 582, 77, 582), (61, 2, 66, 2, ⟨RX6, "takeClosers", "()V"⟩, RX6, 612, 1451, 2, 614, 77, 614), (61, 4, 66, 2, ⟨RX6, "takeClosers", "()V"⟩, RX6, 612, 1451, 3, 614, 77, 614), (64, 2, 68, 2, ⟨RX6, "setFree", "(I)V"⟩, RX6, 616, 1452, 6, 618, 77, 618), (64, 4, 68, 2, ⟨RX6, "setFree", "(I)V"⟩, RX6, 616, 1452, 7, 618, 77, 618), (72, 2, 67, 2, ⟨RX6, "letWait", "(I)V"⟩, RX6, 576, 1449, 4, 578, 77, 578), (72, 4, 67, 2, ⟨RX6, "letWait", "(I)V"⟩, RX6, 576, 1449, 5, 578, 77, 578), (75, 5, 57, 0, yX5_add, RX5, 611, 9999, 596, 595, 83, 9999), (78, 2, 43, 1, ⟨RX6, "takeLeaf", "()Z"⟩, RX6, 584, 586, 587, 588, 78, 585), (78, 4, 55, 1, ⟨RX6, "takeLeaf", "()Z"⟩, RX6, 584, 586, 598, 599, 79, 585)],
  [(20, 5, 58, 0, yX5_at, RX5, 763, 9999, 630, 629, 83, 9999), (26, 6, 75, 0, yX7_push, RX7, 764, 9999, 28, 766, 81, 9999), (30, 6, 76, 0, yX7_apply, RX7, 768, 9999, 29, 770, 81, 9999), (36, 6, 77, 0, yX7_invert, RX7, 773, 9999, 30, 775, 81, 9999), (39, 6, 78, 0, yX7_join, RX7, 777, 9999, 31, 779, 81, 9999)],
  [],
  [(36, 7, 81, 0, yX8_byteAt, RX8, 464, 9999, 466, 465, 75, 9999), (43, 8, 84, 0, yX9_addToken, RX9, 480, 9999, 10, 482, 76, 9999), (52, 8, 85, 0, yX9_stopOf, RX9, 484, 9999, 11, 486, 76, 9999)],
  [(72, 7, 80, 0, yX8_put, RX8, 438, 9999, 440, 439, 75, 9999), (76, 2, 38, 0, yX2_read, RX2, 450, 9999, 452, 451, 78, 9999), (80, 4, 50, 0, yX4_read, RX4, 680, 9999, 682, 681, 79, 9999), (83, 0, 1, 0, yX0_run, RX0, 733, 9999, 735, 734, 80, 9999), (87, 0, 14, 0, yX0_howManyFail, RX0, 816, 9999, 818, 817, 80, 9999), (91, 0, 15, 0, yX0_howManyAreOut, RX0, 829, 9999, 831, 830, 80, 9999), (94, 0, 17, 0, yX0_failingByRank, RX0, 837, 9999, 839, 838, 80, 9999), (98, 0, 13, 0, yX0_hasAssignment, RX0, 848, 9999, 850, 849, 80, 9999), (102, 0, 20, 0, yX0_firstWrongClause, RX0, 852, 9999, 854, 853, 80, 9999), (105, 0, 21, 0, yX0_firstWrongTime, RX0, 863, 9999, 865, 864, 80, 9999), (108, 9, 114, 0, yX10_hasPlace, RX10, 872, 9999, 39, 874, 74, 9999), (112, 0, 23, 0, yX0_valueOf, RX0, 880, 9999, 882, 881, 80, 9999), (119, 0, 24, 0, yX0_everMatters, RX0, 888, 9999, 890, 889, 80, 9999), (123, 1, 27, 0, yX1_hasNode, RX1, 876, 9999, 878, 877, 82, 9999), (139, 1, 29, 0, yX1_howMany, RX1, 905, 9999, 907, 906, 82, 9999)],
  [],
  [],
  [],
  [(87, 13, 119, 0, yX14_put, RX14, 1114, 9999, 41, 1116, 85, 9999), (98, 13, 122, 0, yX14_byteAt, RX14, 1134, 9999, 43, 1136, 85, 9999), (131, 13, 127, 0, yX14_here, RX14, 1233, 9999, 44, 1235, 85, 9999), (134, 13, 128, 0, yX14_check, RX14, 1241, 9999, 46, 1243, 85, 9999), (153, 13, 132, 0, yX14_xors, RX14, 1320, 9999, 51, 1322, 85, 9999), (156, 13, 130, 0, yX14_tree, RX14, 1336, 9999, 55, 1338, 85, 9999), (160, 13, 133, 0, yX14_ands, RX14, 1324, 9999, 52, 1326, 85, 9999), (163, 13, 134, 0, yX14_not, RX14, 1328, 9999, 53, 1330, 85, 9999), (166, 13, 135, 0, yX14_atom, RX14, 1332, 9999, 54, 1334, 85, 9999), (169, 13, 131, 0, yX14_ors, RX14, 1316, 9999, 50, 1318, 85, 9999), (172, 13, 129, 0, yX14_take, RX14, 1312, 9999, 49, 1314, 85, 9999), (188, 13, 136, 0, yX14_variable, RX14, 1340, 9999, 56, 1342, 85, 9999), (213, 13, 138, 0, yX14_declare, RX14, 1305, 9999, 48, 1307, 85, 9999), (216, 13, 140, 0, yX14_names, RX14, 1352, 9999, 59, 1354, 85, 9999), (220, 13, 141, 0, yX14_reach, RX14, 1348, 9999, 58, 1350, 85, 9999), (224, 13, 126, 0, yX14_readTokens, RX14, 1127, 9999, 42, 1129, 85, 9999), (227, 13, 139, 0, yX14_item, RX14, 1237, 9999, 45, 1239, 85, 9999), (230, 13, 142, 0, yX14_finish, RX14, 1344, 9999, 57, 1346, 85, 9999), (256, 13, 144, 0, yX14_number, RX14, 1368, 9999, 62, 1370, 85, 9999), (262, 13, 145, 0, yX14_clause, RX14, 1364, 9999, 61, 1366, 85, 9999), (265, 13, 146, 0, yX14_part, RX14, 1360, 9999, 60, 1362, 85, 9999), (274, 13, 155, 0, yX14_judge, RX14, 1373, 9999, 63, 1375, 85, 9999), (280, 13, 149, 0, yX14_variable_, RX14, 1400, 9999, 69, 1402, 85, 9999), (282, 13, 150, 0, yX14_holds, RX14, 1396, 9999, 68, 1398, 85, 9999), (285, 13, 154, 0, yX14_work, RX14, 1377, 9999, 64, 1379, 85, 9999), (289, 13, 148, 0, yX14_cell, RX14, 1385, 9999, 66, 1387, 85, 9999), (292, 13, 151, 0, yX14_valueOf, RX14, 1381, 9999, 65, 1383, 85, 9999), (300, 13, 153, 0, yX14_applies, RX14, 1392, 9999, 67, 1394, 85, 9999), (303, 13, 156, 0, yX14_all, RX14, 1408, 9999, 70, 1410, 85, 9999), (306, 13, 161, 0, yX14_isPlace, RX14, 1428, 9999, 71, 1430, 85, 9999), (309, 13, 165, 0, yX14_kinds, RX14, 1444, 9999, 72, 1446, 85, 9999)],
  [(13, 9, 102, 0, yX10_feed, RX10, 434, 9999, 436, 435, 74, 9999), (17, 13, 120, 0, yX14_feed, RX14, 1110, 9999, 1112, 1111, 85, 9999), (18, 9, 103, 0, yX10_end, RX10, 442, 9999, 444, 443, 74, 9999), (22, 13, 121, 0, yX14_end, RX14, 1118, 9999, 1120, 1119, 85, 9999), (23, 9, 104, 0, yX10_circuit, RX10, 446, 9999, 448, 447, 74, 9999), (27, 13, 143, 0, yX14_circuit, RX14, 1122, 9999, 1124, 1123, 85, 9999), (28, 9, 105, 0, yX10_assertion, RX10, 676, 9999, 678, 677, 74, 9999), (31, 13, 147, 0, yX14_assertion, RX14, 1356, 9999, 1358, 1357, 85, 9999), (32, 9, 106, 0, yX10_fails, RX10, 812, 9999, 814, 813, 74, 9999), (35, 13, 157, 0, yX14_fails, RX14, 1404, 9999, 1406, 1405, 85, 9999), (36, 9, 107, 0, yX10_excluded, RX10, 825, 9999, 827, 826, 74, 9999), (39, 13, 158, 0, yX14_excluded, RX14, 1412, 9999, 1414, 1413, 85, 9999), (40, 9, 108, 0, yX10_failing, RX10, 833, 9999, 835, 834, 74, 9999), (43, 13, 159, 0, yX14_failing, RX14, 1416, 9999, 1418, 1417, 85, 9999), (44, 9, 109, 0, yX10_shortfall, RX10, 844, 9999, 846, 845, 74, 9999), (48, 13, 160, 0, yX14_shortfall, RX14, 1420, 9999, 1422, 1421, 85, 9999), (49, 9, 110, 0, yX10_value, RX10, 868, 9999, 870, 869, 74, 9999), (53, 13, 162, 0, yX14_value, RX14, 1424, 9999, 1426, 1425, 85, 9999), (54, 9, 111, 0, yX10_matters, RX10, 884, 9999, 886, 885, 74, 9999), (57, 13, 163, 0, yX14_matters, RX14, 1432, 9999, 1434, 1433, 85, 9999), (58, 9, 112, 0, yX10_cone, RX10, 896, 9999, 898, 897, 74, 9999), (61, 13, 164, 0, yX14_cone, RX14, 1436, 9999, 1438, 1437, 85, 9999), (62, 9, 113, 0, yX10_count, RX10, 901, 9999, 903, 902, 74, 9999), (65, 13, 166, 0, yX14_count, RX14, 1440, 9999, 1442, 1441, 85, 9999)],
  [],
  []]
def mjCn : List (List (Nat × Nat)) := [
  [(77, 1), (81, 1), (84, 1), (87, 1), (90, 1), (96, 1), (124, 6), (128, 0), (155, 3), (165, 0), (167, 3), (171, 1), (189, 2), (192, 1), (195, 3)],
  [(45, 1), (50, 1), (54, 1), (58, 0), (61, 1), (65, 1)],
  [(29, 1), (39, 0), (45, 0), (49, 0), (52, 0), (55, 0), (59, 0), (64, 1), (68, 0), (73, 1), (79, 1), (82, 1), (85, 0), (95, 0), (99, 2), (103, 0), (106, 0), (109, 1), (113, 1), (117, 1), (121, 1), (125, 1), (128, 2)],
  [],
  [(19, 0), (29, 1), (37, 1), (41, 0), (54, 1), (62, 0), (66, 0), (69, 0), (72, 0), (76, 1), (82, 0), (100, 0), (111, 1), (116, 3), (120, 1), (126, 0), (129, 1), (132, 1)],
  [],
  [(17, 0), (35, 0), (39, 0), (42, 0), (54, 0), (58, 0), (61, 0), (64, 1), (72, 1), (75, 1), (78, 0)],
  [(20, 1), (26, 2), (30, 1), (36, 0), (39, 1)],
  [],
  [(36, 1), (43, 2), (52, 2)],
  [(72, 1), (76, 1), (80, 2), (83, 2), (87, 0), (91, 0), (94, 1), (98, 1), (102, 1), (105, 1), (108, 2), (112, 3), (119, 3), (123, 1), (139, 1)],
  [],
  [],
  [],
  [(87, 1), (98, 1), (131, 1), (134, 1), (153, 1), (156, 3), (160, 1), (163, 1), (166, 1), (169, 1), (172, 1), (188, 0), (213, 1), (216, 2), (220, 3), (224, 0), (227, 0), (230, 0), (256, 1), (262, 1), (265, 1), (274, 1), (280, 1), (282, 1), (285, 2), (289, 3), (292, 3), (300, 1), (303, 0), (306, 2), (309, 1)],
  [(13, 5), (17, 5), (18, 1), (22, 1), (23, 0), (27, 0), (28, 0), (31, 0), (32, 0), (35, 0), (36, 0), (39, 0), (40, 1), (43, 1), (44, 2), (48, 2), (49, 3), (53, 3), (54, 3), (57, 3), (58, 1), (61, 1), (62, 1), (65, 1)],
  [],
  []]
def mjMx : List (Nat × Nat × Nat) := [(0, 62, 737), (3, 54, 718), (9, 47, 506)]
def mjO : List Nat := [3, 3, 9999, 3, 9999, 1, 1, 1, 1, 1, 1, 3, 3, 3, 1, 9999, 9999, 9999]
def mjK : List (List (Nat × Int32 × Nat)) := [[], [], [], [], [], [], [], [], [], [], [], [], [], [], [(60, 245760, 1014)], [], [], []]
def mjJ : List (List (Nat × Int64 × Nat)) := [
  [(71, -1, 738)],
  [],
  [(62, 452824429940, 517), (71, 2003399269, 561), (77, 465491485544, 623)],
  [],
  [(35, 444150998382, 691), (98, 26995, 704), (106, 26982, 708), (114, 24948, 713), (124, 29807, 727), (52, 1952998766, 731)],
  [],
  [(81, 48, 609), (83, 49, 610)],
  [(34, -1, 772)],
  [],
  [(76, 452824429940, 497), (78, 2003399269, 498), (80, 465491485544, 499), (82, 444150998382, 500), (84, 1952998766, 501), (86, 26995, 502), (88, 26982, 503), (90, 24948, 504), (92, 29807, 505)],
  [],
  [],
  [],
  [],
  [(111, 10, 1146), (113, 48, 1147), (239, 12, 1372)],
  [],
  [(314, 6148914691236517205, 669), (316, 3689348814741910323, 670), (318, 1085102592571150095, 671)],
  []]
def mjW : List (List (Nat × Nat × Nat × Nat × Nat)) := [[(9, 6, 218, 219, 81)], [(25, 5, 283, 284, 83)], [], [(34, 5, 345, 284, 83)], [], [], [], [], [], [], [(7, 7, 108, 109, 75), (16, 8, 124, 125, 76), (21, 2, 151, 152, 78), (30, 4, 193, 194, 79), (37, 0, 212, 213, 80), (44, 1, 277, 278, 82), (54, 3, 339, 340, 84)], [], [], [], [(27, 12, 915, 916, 86), (37, 11, 945, 946, 87), (47, 10, 971, 972, 88)], [(7, 9, 100, 101, 74), (10, 13, 909, 910, 85)], [], []]
/-- statics: owner, pool index, the mini machine's number, place of the link -/
def mjG : List (Nat × Nat × Nat × Nat) := [(0, 93, 1, 750), (14, 105, 2, 1141)]
def mjTh : List (Nat × Nat) := [(128, 18), (142, 83), (142, 162)]
def tyT (c : Nat) : Nat → FieldType := match c with
  | 0 => tyX0
  | 1 => tyX1
  | 2 => tyX2
  | 3 => tyX3
  | 4 => tyX4
  | 5 => tyX5
  | 6 => tyX7
  | 7 => tyX8
  | 8 => tyX9
  | 9 => tyX10
  | 10 => tyX11
  | 11 => tyX12
  | 12 => tyX13
  | 13 => tyX14
  | _ => fun _ => .int
def nFt : List Nat := [14, 9, 8, 12, 8, 2, 3, 2, 6, 9, 10, 5, 6, 31, 0]
def nF (c : Nat) : Nat := nFt.getD c 0
def mjC : List vw_C := vwCl ++ [("java/lang/IllegalArgumentException", TX6, 0)]
