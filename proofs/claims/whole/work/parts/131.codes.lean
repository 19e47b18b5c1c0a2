/-! ===== every method's code is among the words ===== -/
def mCo (j : Nat) : Cond := if mHH j = [] then .code (mY j) (mB j) (mL j) (mR j) else .codeWith (mY j) (mB j) (mL j) (mR j) (mHH j)
theorem mCo_good (j : Nat) : goodWord (mCo j) = true := by
  unfold mCo
  split <;> rfl
set_option maxRecDepth 100000 in
theorem mco_0 : mCo 0 ∈ mjS := (show mCo 0 = .code yX0_init cX0_init 1 none from rfl) ▸ (List.mem_of_getElem? (i := 216) rfl)
set_option maxRecDepth 100000 in
theorem mco_1 : mCo 1 ∈ mjS := (show mCo 1 = .code yX0_run cX0_run 4 none from rfl) ▸ (List.mem_of_getElem? (i := 736) rfl)
set_option maxRecDepth 100000 in
theorem mco_2 : mCo 2 ∈ mjS := (show mCo 2 = .code yX0_clauseRow cX0_clauseRow 2 (some .int) from rfl) ▸ (List.mem_of_getElem? (i := 758) rfl)
set_option maxRecDepth 100000 in
theorem mco_3 : mCo 3 ∈ mjS := (show mCo 3 = .code yX0_row cX0_row 2 (some .int) from rfl) ▸ (List.mem_of_getElem? (i := 791) rfl)
set_option maxRecDepth 100000 in
theorem mco_4 : mCo 4 ∈ mjS := (show mCo 4 = .code yX0_lanesWith cX0_lanesWith 2 (some .long) from rfl) ▸ (List.mem_of_getElem? (i := 749) rfl)
set_option maxRecDepth 100000 in
theorem mco_5 : mCo 5 ∈ mjS := (show mCo 5 = .code yX0_bitOf cX0_bitOf 2 (some .int) from rfl) ▸ (List.mem_of_getElem? (i := 746) rfl)
set_option maxRecDepth 100000 in
theorem mco_6 : mCo 6 ∈ mjS := (show mCo 6 = .code yX0_setVariables cX0_setVariables 3 none from rfl) ▸ (List.mem_of_getElem? (i := 742) rfl)
set_option maxRecDepth 100000 in
theorem mco_7 : mCo 7 ∈ mjS := (show mCo 7 = .code yX0_workOutClauses cX0_workOutClauses 7 none from rfl) ▸ (List.mem_of_getElem? (i := 755) rfl)
set_option maxRecDepth 100000 in
theorem mco_8 : mCo 8 ∈ mjS := (show mCo 8 = .code yX0_layGivens cX0_layGivens 9 none from rfl) ▸ (List.mem_of_getElem? (i := 788) rfl)
set_option maxRecDepth 100000 in
theorem mco_9 : mCo 9 ∈ mjS := (show mCo 9 = .code yX0_follow cX0_follow 8 none from rfl) ▸ (List.mem_of_getElem? (i := 795) rfl)
set_option maxRecDepth 100000 in
theorem mco_10 : mCo 10 ∈ mjS := (show mCo 10 = .code yX0_joinOwn cX0_joinOwn 7 none from rfl) ▸ (List.mem_of_getElem? (i := 799) rfl)
set_option maxRecDepth 100000 in
theorem mco_11 : mCo 11 ∈ mjS := (show mCo 11 = .code yX0_compare cX0_compare 6 none from rfl) ▸ (List.mem_of_getElem? (i := 807) rfl)
set_option maxRecDepth 100000 in
theorem mco_12 : mCo 12 ∈ mjS := (show mCo 12 = .code yX0_wrongLanes cX0_wrongLanes 9 (some .long) from rfl) ▸ (List.mem_of_getElem? (i := 811) rfl)
set_option maxRecDepth 100000 in
theorem mco_13 : mCo 13 ∈ mjS := (show mCo 13 = .code yX0_hasAssignment cX0_hasAssignment 2 (some .boolean) from rfl) ▸ (List.mem_of_getElem? (i := 851) rfl)
set_option maxRecDepth 100000 in
theorem mco_14 : mCo 14 ∈ mjS := (show mCo 14 = .code yX0_howManyFail cX0_howManyFail 1 (some .int) from rfl) ▸ (List.mem_of_getElem? (i := 819) rfl)
set_option maxRecDepth 100000 in
theorem mco_15 : mCo 15 ∈ mjS := (show mCo 15 = .code yX0_howManyAreOut cX0_howManyAreOut 1 (some .int) from rfl) ▸ (List.mem_of_getElem? (i := 832) rfl)
set_option maxRecDepth 100000 in
theorem mco_16 : mCo 16 ∈ mjS := (show mCo 16 = .code yX0_lanesIn cX0_lanesIn 4 (some .int) from rfl) ▸ (List.mem_of_getElem? (i := 823) rfl)
set_option maxRecDepth 100000 in
theorem mco_17 : mCo 17 ∈ mjS := (show mCo 17 = .code yX0_failingByRank cX0_failingByRank 5 (some .int) from rfl) ▸ (List.mem_of_getElem? (i := 840) rfl)
set_option maxRecDepth 100000 in
theorem mco_18 : mCo 18 ∈ mjS := (show mCo 18 = .code yX0_laneByRank cX0_laneByRank 6 (some .int) from rfl) ▸ (List.mem_of_getElem? (i := 843) rfl)
set_option maxRecDepth 100000 in
theorem mco_19 : mCo 19 ∈ mjS := (show mCo 19 = .code yX0_isIn cX0_isIn 3 (some .boolean) from rfl) ▸ (List.mem_of_getElem? (i := 858) rfl)
set_option maxRecDepth 100000 in
theorem mco_20 : mCo 20 ∈ mjS := (show mCo 20 = .code yX0_firstWrongClause cX0_firstWrongClause 4 (some .int) from rfl) ▸ (List.mem_of_getElem? (i := 855) rfl)
set_option maxRecDepth 100000 in
theorem mco_21 : mCo 21 ∈ mjS := (show mCo 21 = .code yX0_firstWrongTime cX0_firstWrongTime 3 (some .int) from rfl) ▸ (List.mem_of_getElem? (i := 866) rfl)
set_option maxRecDepth 100000 in
theorem mco_22 : mCo 22 ∈ mjS := (show mCo 22 = .code yX0_wrongTime cX0_wrongTime 4 (some .int) from rfl) ▸ (List.mem_of_getElem? (i := 862) rfl)
set_option maxRecDepth 100000 in
theorem mco_23 : mCo 23 ∈ mjS := (show mCo 23 = .code yX0_valueOf cX0_valueOf 6 (some .int) from rfl) ▸ (List.mem_of_getElem? (i := 883) rfl)
set_option maxRecDepth 100000 in
theorem mco_24 : mCo 24 ∈ mjS := (show mCo 24 = .code yX0_everMatters cX0_everMatters 5 (some .boolean) from rfl) ▸ (List.mem_of_getElem? (i := 891) rfl)
set_option maxRecDepth 100000 in
theorem mco_25 : mCo 25 ∈ mjS := (show mCo 25 = .code yX0_changedLanes cX0_changedLanes 12 (some .long) from rfl) ▸ (List.mem_of_getElem? (i := 895) rfl)
set_option maxRecDepth 100000 in
theorem mco_26 : mCo 26 ∈ mjS := (show mCo 26 = .code yX1_init cX1_init 1 none from rfl) ▸ (List.mem_of_getElem? (i := 281) rfl)
set_option maxRecDepth 100000 in
theorem mco_27 : mCo 27 ∈ mjS := (show mCo 27 = .code yX1_hasNode cX1_hasNode 2 (some .boolean) from rfl) ▸ (List.mem_of_getElem? (i := 879) rfl)
set_option maxRecDepth 100000 in
theorem mco_28 : mCo 28 ∈ mjS := (show mCo 28 = .code yX1_find cX1_find 4 (some .int) from rfl) ▸ (List.mem_of_getElem? (i := 549) rfl)
set_option maxRecDepth 100000 in
theorem mco_29 : mCo 29 ∈ mjS := (show mCo 29 = .code yX1_howMany cX1_howMany 4 (some .int) from rfl) ▸ (List.mem_of_getElem? (i := 908) rfl)
set_option maxRecDepth 100000 in
theorem mco_30 : mCo 30 ∈ mjS := (show mCo 30 = .code yX1_declare cX1_declare 4 (some .boolean) from rfl) ▸ (List.mem_of_getElem? (i := 545) rfl)
set_option maxRecDepth 100000 in
theorem mco_31 : mCo 31 ∈ mjS := (show mCo 31 = .code yX1_link cX1_link 4 none from rfl) ▸ (List.mem_of_getElem? (i := 648) rfl)
set_option maxRecDepth 100000 in
theorem mco_32 : mCo 32 ∈ mjS := (show mCo 32 = .code yX1_leavesOf cX1_leavesOf 5 (some .long) from rfl) ▸ (List.mem_of_getElem? (i := 652) rfl)
set_option maxRecDepth 100000 in
theorem mco_33 : mCo 33 ∈ mjS := (show mCo 33 = .code yX1_close cX1_close 4 none from rfl) ▸ (List.mem_of_getElem? (i := 657) rfl)
set_option maxRecDepth 100000 in
theorem mco_34 : mCo 34 ∈ mjS := (show mCo 34 = .code yX1_firstLoop cX1_firstLoop 2 (some .int) from rfl) ▸ (List.mem_of_getElem? (i := 675) rfl)
set_option maxRecDepth 100000 in
theorem mco_35 : mCo 35 ∈ mjS := (show mCo 35 = .code yX1_putInOrder cX1_putInOrder 4 none from rfl) ▸ (List.mem_of_getElem? (i := 661) rfl)
set_option maxRecDepth 100000 in
theorem mco_36 : mCo 36 ∈ mjS := (show mCo 36 = .code yX1_rankOf cX1_rankOf 2 (some .int) from rfl) ▸ (List.mem_of_getElem? (i := 665) rfl)
set_option maxRecDepth 100000 in
theorem mco_37 : mCo 37 ∈ mjS := (show mCo 37 = .code yX2_init cX2_init 2 none from rfl) ▸ (List.mem_of_getElem? (i := 155) rfl)
set_option maxRecDepth 100000 in
theorem mco_38 : mCo 38 ∈ mjS := (show mCo 38 = .code yX2_read cX2_read 4 (some .int) from rfl) ▸ (List.mem_of_getElem? (i := 453) rfl)
set_option maxRecDepth 100000 in
theorem mco_39 : mCo 39 ∈ mjS := (show mCo 39 = .code yX2_takeItem cX2_takeItem 1 (some .boolean) from rfl) ▸ (List.mem_of_getElem? (i := 516) rfl)
set_option maxRecDepth 100000 in
theorem mco_40 : mCo 40 ∈ mjS := (show mCo 40 = .code yX2_takeInputs cX2_takeInputs 3 (some .boolean) from rfl) ▸ (List.mem_of_getElem? (i := 536) rfl)
set_option maxRecDepth 100000 in
theorem mco_41 : mCo 41 ∈ mjS := (show mCo 41 = .code yX2_takeMade cX2_takeMade 3 (some .boolean) from rfl) ▸ (List.mem_of_getElem? (i := 565) rfl)
set_option maxRecDepth 100000 in
theorem mco_42 : mCo 42 ∈ mjS := (show mCo 42 = .code yX2_takeDeclared cX2_takeDeclared 2 (some .boolean) from rfl) ▸ (List.mem_of_getElem? (i := 540) rfl)
set_option maxRecDepth 100000 in
theorem mco_43 : mCo 43 ∈ mjS := (show mCo 43 = .code yX2_takeLeaf cX2_takeLeaf 1 (some .boolean) from rfl) ▸ (List.mem_of_getElem? (i := 589) rfl)
set_option maxRecDepth 100000 in
theorem mco_44 : mCo 44 ∈ mjS := (show mCo 44 = .code yX2_putNodesForNames cX2_putNodesForNames 4 (some .int) from rfl) ▸ (List.mem_of_getElem? (i := 627) rfl)
set_option maxRecDepth 100000 in
theorem mco_45 : mCo 45 ∈ mjS := (show mCo 45 = .code yX3_init cX3_init 1 none from rfl) ▸ (List.mem_of_getElem? (i := 343) rfl)
set_option maxRecDepth 100000 in
theorem mco_46 : mCo 46 ∈ mjS := (show mCo 46 = .code yX3_clear cX3_clear 1 none from rfl) ▸ (List.mem_of_getElem? (i := 687) rfl)
set_option maxRecDepth 100000 in
theorem mco_47 : mCo 47 ∈ mjS := (show mCo 47 = .code yX3_variable cX3_variable 4 (some .int) from rfl) ▸ (List.mem_of_getElem? (i := 606) rfl)
set_option maxRecDepth 100000 in
theorem mco_48 : mCo 48 ∈ mjS := (show mCo 48 = .code yX3_setTimes cX3_setTimes 4 none from rfl) ▸ (List.mem_of_getElem? (i := 717) rfl)
set_option maxRecDepth 100000 in
theorem mco_49 : mCo 49 ∈ mjS := (show mCo 49 = .code yX4_init cX4_init 2 none from rfl) ▸ (List.mem_of_getElem? (i := 197) rfl)
set_option maxRecDepth 100000 in
theorem mco_50 : mCo 50 ∈ mjS := (show mCo 50 = .code yX4_read cX4_read 4 (some .int) from rfl) ▸ (List.mem_of_getElem? (i := 683) rfl)
set_option maxRecDepth 100000 in
theorem mco_51 : mCo 51 ∈ mjS := (show mCo 51 = .code yX4_takeClauses cX4_takeClauses 2 (some .boolean) from rfl) ▸ (List.mem_of_getElem? (i := 698) rfl)
set_option maxRecDepth 100000 in
theorem mco_52 : mCo 52 ∈ mjS := (show mCo 52 = .code yX4_takeClause cX4_takeClause 3 (some .boolean) from rfl) ▸ (List.mem_of_getElem? (i := 702) rfl)
set_option maxRecDepth 100000 in
theorem mco_53 : mCo 53 ∈ mjS := (show mCo 53 = .code yX4_takeTimes cX4_takeTimes 4 (some .boolean) from rfl) ▸ (List.mem_of_getElem? (i := 712) rfl)
set_option maxRecDepth 100000 in
theorem mco_54 : mCo 54 ∈ mjS := (show mCo 54 = .code yX4_takeTime cX4_takeTime 3 (some .int) from rfl) ▸ (List.mem_of_getElem? (i := 722) rfl)
set_option maxRecDepth 100000 in
theorem mco_55 : mCo 55 ∈ mjS := (show mCo 55 = .code yX4_takeLeaf cX4_takeLeaf 2 (some .boolean) from rfl) ▸ (List.mem_of_getElem? (i := 600) rfl)
set_option maxRecDepth 100000 in
theorem mco_56 : mCo 56 ∈ mjS := (show mCo 56 = .code yX5_init cX5_init 1 none from rfl) ▸ (List.mem_of_getElem? (i := 287) rfl)
set_option maxRecDepth 100000 in
theorem mco_57 : mCo 57 ∈ mjS := (show mCo 57 = .code yX5_add cX5_add 2 none from rfl) ▸ (List.mem_of_getElem? (i := 597) rfl)
set_option maxRecDepth 100000 in
theorem mco_58 : mCo 58 ∈ mjS := (show mCo 58 = .code yX5_at cX5_at 2 (some .int) from rfl) ▸ (List.mem_of_getElem? (i := 631) rfl)
set_option maxRecDepth 100000 in
theorem mco_59 : mCo 59 ∈ mjS := (show mCo 59 = .code yX5_set cX5_set 3 none from rfl) ▸ (List.mem_of_getElem? (i := 644) rfl)
set_option maxRecDepth 100000 in
theorem mco_60 : mCo 60 ∈ mjS := (show mCo 60 = .code yX6_init cX6_init 2 none from rfl) ▸ (List.mem_of_getElem? (i := 158) rfl)
set_option maxRecDepth 100000 in
theorem mco_61 : mCo 61 ∈ mjS := (show mCo 61 = .code yX6_begin cX6_begin 2 none from rfl) ▸ (List.mem_of_getElem? (i := 459) rfl)
set_option maxRecDepth 100000 in
theorem mco_62 : mCo 62 ∈ mjS := (show mCo 62 = .code yX6_takeSign cX6_takeSign 2 (some .boolean) from rfl) ▸ (List.mem_of_getElem? (i := 560) rfl)
set_option maxRecDepth 100000 in
theorem mco_63 : mCo 63 ∈ mjS := (show mCo 63 = .code yX6_takeWord cX6_takeWord 3 (some .boolean) from rfl) ▸ (List.mem_of_getElem? (i := 523) rfl)
set_option maxRecDepth 100000 in
theorem mco_64 : mCo 64 ∈ mjS := (show mCo 64 = .code yX6_takeFormula cX6_takeFormula 3 (some .boolean) from rfl) ▸ (List.mem_of_getElem? (i := 571) rfl)
set_option maxRecDepth 100000 in
theorem mco_65 : mCo 65 ∈ mjS := (show mCo 65 = .code yX6_takeOpeners cX6_takeOpeners 3 (some .boolean) from rfl) ▸ (List.mem_of_getElem? (i := 575) rfl)
set_option maxRecDepth 100000 in
theorem mco_66 : mCo 66 ∈ mjS := (show mCo 66 = .code yX6_takeClosers cX6_takeClosers 2 none from rfl) ▸ (List.mem_of_getElem? (i := 615) rfl)
set_option maxRecDepth 100000 in
theorem mco_67 : mCo 67 ∈ mjS := (show mCo 67 = .code yX6_letWait cX6_letWait 2 none from rfl) ▸ (List.mem_of_getElem? (i := 579) rfl)
set_option maxRecDepth 100000 in
theorem mco_68 : mCo 68 ∈ mjS := (show mCo 68 = .code yX6_setFree cX6_setFree 2 none from rfl) ▸ (List.mem_of_getElem? (i := 619) rfl)
set_option maxRecDepth 100000 in
theorem mco_69 : mCo 69 ∈ mjS := (show mCo 69 = .code yX6_strengthOf cX6_strengthOf 1 (some .int) from rfl) ▸ (List.mem_of_getElem? (i := 622) rfl)
set_option maxRecDepth 100000 in
theorem mco_70 : mCo 70 ∈ mjS := (show mCo 70 = .code yX6_takeAtom cX6_takeAtom 1 (some .boolean) from rfl) ▸ (List.mem_of_getElem? (i := 583) rfl)
set_option maxRecDepth 100000 in
theorem mco_71 : mCo 71 ∈ mjS := (show mCo 71 = .code yX7_init cX7_init 1 none from rfl) ▸ (List.mem_of_getElem? (i := 222) rfl)
set_option maxRecDepth 100000 in
theorem mco_72 : mCo 72 ∈ mjS := (show mCo 72 = .code yX7_run cX7_run 9 none from rfl) ▸ (List.mem_of_getElem? (i := 762) rfl)
set_option maxRecDepth 100000 in
theorem mco_73 : mCo 73 ∈ mjS := (show mCo 73 = .code yX7_ones cX7_ones 1 (some .long) from rfl) ▸ (List.mem_of_getElem? (i := 784) rfl)
set_option maxRecDepth 100000 in
theorem mco_74 : mCo 74 ∈ mjS := (show mCo 74 = .code yX7_zeros cX7_zeros 1 (some .long) from rfl) ▸ (List.mem_of_getElem? (i := 803) rfl)
set_option maxRecDepth 100000 in
theorem mco_75 : mCo 75 ∈ mjS := (show mCo 75 = .code yX7_push cX7_push 5 none from rfl) ▸ (List.mem_of_getElem? (i := 767) rfl)
set_option maxRecDepth 100000 in
theorem mco_76 : mCo 76 ∈ mjS := (show mCo 76 = .code yX7_apply cX7_apply 2 none from rfl) ▸ (List.mem_of_getElem? (i := 771) rfl)
set_option maxRecDepth 100000 in
theorem mco_77 : mCo 77 ∈ mjS := (show mCo 77 = .code yX7_invert cX7_invert 3 none from rfl) ▸ (List.mem_of_getElem? (i := 776) rfl)
set_option maxRecDepth 100000 in
theorem mco_78 : mCo 78 ∈ mjS := (show mCo 78 = .code yX7_join cX7_join 10 none from rfl) ▸ (List.mem_of_getElem? (i := 780) rfl)
set_option maxRecDepth 100000 in
theorem mco_79 : mCo 79 ∈ mjS := (show mCo 79 = .code yX8_init cX8_init 1 none from rfl) ▸ (List.mem_of_getElem? (i := 112) rfl)
set_option maxRecDepth 100000 in
theorem mco_80 : mCo 80 ∈ mjS := (show mCo 80 = .code yX8_put cX8_put 3 none from rfl) ▸ (List.mem_of_getElem? (i := 441) rfl)
set_option maxRecDepth 100000 in
theorem mco_81 : mCo 81 ∈ mjS := (show mCo 81 = .code yX8_byteAt cX8_byteAt 2 (some .int) from rfl) ▸ (List.mem_of_getElem? (i := 467) rfl)
set_option maxRecDepth 100000 in
theorem mco_82 : mCo 82 ∈ mjS := (show mCo 82 = .code yX9_init cX9_init 2 none from rfl) ▸ (List.mem_of_getElem? (i := 128) rfl)
set_option maxRecDepth 100000 in
theorem mco_83 : mCo 83 ∈ mjS := (show mCo 83 = .code yX9_scan cX9_scan 3 none from rfl) ▸ (List.mem_of_getElem? (i := 463) rfl)
set_option maxRecDepth 100000 in
theorem mco_84 : mCo 84 ∈ mjS := (show mCo 84 = .code yX9_addToken cX9_addToken 7 (some .int) from rfl) ▸ (List.mem_of_getElem? (i := 483) rfl)
set_option maxRecDepth 100000 in
theorem mco_85 : mCo 85 ∈ mjS := (show mCo 85 = .code yX9_stopOf cX9_stopOf 4 (some .int) from rfl) ▸ (List.mem_of_getElem? (i := 487) rfl)
set_option maxRecDepth 100000 in
theorem mco_86 : mCo 86 ∈ mjS := (show mCo 86 = .code yX9_goesOn cX9_goesOn 2 (some .boolean) from rfl) ▸ (List.mem_of_getElem? (i := 490) rfl)
set_option maxRecDepth 100000 in
theorem mco_87 : mCo 87 ∈ mjS := (show mCo 87 = .code yX9_kindOf cX9_kindOf 1 (some .int) from rfl) ▸ (List.mem_of_getElem? (i := 470) rfl)
set_option maxRecDepth 100000 in
theorem mco_88 : mCo 88 ∈ mjS := (show mCo 88 = .code yX9_longest cX9_longest 1 (some .int) from rfl) ▸ (List.mem_of_getElem? (i := 493) rfl)
set_option maxRecDepth 100000 in
theorem mco_89 : mCo 89 ∈ mjS := (show mCo 89 = .code yX9_isReserved cX9_isReserved 2 (some .boolean) from rfl) ▸ (List.mem_of_getElem? (i := 496) rfl)
set_option maxRecDepth 100000 in
theorem mco_90 : mCo 90 ∈ mjS := (show mCo 90 = .code yX9_isSmall cX9_isSmall 1 (some .boolean) from rfl) ▸ (List.mem_of_getElem? (i := 473) rfl)
set_option maxRecDepth 100000 in
theorem mco_91 : mCo 91 ∈ mjS := (show mCo 91 = .code yX9_isCapital cX9_isCapital 1 (some .boolean) from rfl) ▸ (List.mem_of_getElem? (i := 476) rfl)
set_option maxRecDepth 100000 in
theorem mco_92 : mCo 92 ∈ mjS := (show mCo 92 = .code yX9_isDigit cX9_isDigit 1 (some .boolean) from rfl) ▸ (List.mem_of_getElem? (i := 479) rfl)
set_option maxRecDepth 100000 in
theorem mco_93 : mCo 93 ∈ mjS := (show mCo 93 = .code yX9_kind cX9_kind 1 (some .int) from rfl) ▸ (List.mem_of_getElem? (i := 512) rfl)
set_option maxRecDepth 100000 in
theorem mco_94 : mCo 94 ∈ mjS := (show mCo 94 = .code yX9_place cX9_place 1 (some .int) from rfl) ▸ (List.mem_of_getElem? (i := 553) rfl)
set_option maxRecDepth 100000 in
theorem mco_95 : mCo 95 ∈ mjS := (show mCo 95 = .code yX9_key cX9_key 1 (some .long) from rfl) ▸ (List.mem_of_getElem? (i := 528) rfl)
set_option maxRecDepth 100000 in
theorem mco_96 : mCo 96 ∈ mjS := (show mCo 96 = .code yX9_index cX9_index 1 (some .int) from rfl) ▸ (List.mem_of_getElem? (i := 593) rfl)
set_option maxRecDepth 100000 in
theorem mco_97 : mCo 97 ∈ mjS := (show mCo 97 = .code yX9_placeAt cX9_placeAt 2 (some .int) from rfl) ▸ (List.mem_of_getElem? (i := 640) rfl)
set_option maxRecDepth 100000 in
theorem mco_98 : mCo 98 ∈ mjS := (show mCo 98 = .code yX9_keyAt cX9_keyAt 2 (some .long) from rfl) ▸ (List.mem_of_getElem? (i := 635) rfl)
set_option maxRecDepth 100000 in
theorem mco_99 : mCo 99 ∈ mjS := (show mCo 99 = .code yX9_number cX9_number 4 (some .int) from rfl) ▸ (List.mem_of_getElem? (i := 726) rfl)
set_option maxRecDepth 100000 in
theorem mco_100 : mCo 100 ∈ mjS := (show mCo 100 = .code yX9_step cX9_step 1 none from rfl) ▸ (List.mem_of_getElem? (i := 532) rfl)
set_option maxRecDepth 100000 in
theorem mco_101 : mCo 101 ∈ mjS := (show mCo 101 = .code yX10_init cX10_init 2 none from rfl) ▸ (List.mem_of_getElem? (i := 104) rfl)
set_option maxRecDepth 100000 in
theorem mco_102 : mCo 102 ∈ mjS := (show mCo 102 = .code yX10_feed cX10_feed 6 (some .int) from rfl) ▸ (List.mem_of_getElem? (i := 437) rfl)
set_option maxRecDepth 100000 in
theorem mco_103 : mCo 103 ∈ mjS := (show mCo 103 = .code yX10_end cX10_end 2 (some .int) from rfl) ▸ (List.mem_of_getElem? (i := 445) rfl)
set_option maxRecDepth 100000 in
theorem mco_104 : mCo 104 ∈ mjS := (show mCo 104 = .code yX10_circuit cX10_circuit 3 (some .int) from rfl) ▸ (List.mem_of_getElem? (i := 449) rfl)
set_option maxRecDepth 100000 in
theorem mco_105 : mCo 105 ∈ mjS := (show mCo 105 = .code yX10_assertion cX10_assertion 3 (some .int) from rfl) ▸ (List.mem_of_getElem? (i := 679) rfl)
set_option maxRecDepth 100000 in
theorem mco_106 : mCo 106 ∈ mjS := (show mCo 106 = .code yX10_fails cX10_fails 1 (some .int) from rfl) ▸ (List.mem_of_getElem? (i := 815) rfl)
set_option maxRecDepth 100000 in
theorem mco_107 : mCo 107 ∈ mjS := (show mCo 107 = .code yX10_excluded cX10_excluded 1 (some .int) from rfl) ▸ (List.mem_of_getElem? (i := 828) rfl)
set_option maxRecDepth 100000 in
theorem mco_108 : mCo 108 ∈ mjS := (show mCo 108 = .code yX10_failing cX10_failing 2 (some .int) from rfl) ▸ (List.mem_of_getElem? (i := 836) rfl)
set_option maxRecDepth 100000 in
theorem mco_109 : mCo 109 ∈ mjS := (show mCo 109 = .code yX10_shortfall cX10_shortfall 3 (some .int) from rfl) ▸ (List.mem_of_getElem? (i := 847) rfl)
set_option maxRecDepth 100000 in
theorem mco_110 : mCo 110 ∈ mjS := (show mCo 110 = .code yX10_value cX10_value 4 (some .int) from rfl) ▸ (List.mem_of_getElem? (i := 871) rfl)
set_option maxRecDepth 100000 in
theorem mco_111 : mCo 111 ∈ mjS := (show mCo 111 = .code yX10_matters cX10_matters 4 (some .int) from rfl) ▸ (List.mem_of_getElem? (i := 887) rfl)
set_option maxRecDepth 100000 in
theorem mco_112 : mCo 112 ∈ mjS := (show mCo 112 = .code yX10_cone cX10_cone 2 (some .int) from rfl) ▸ (List.mem_of_getElem? (i := 899) rfl)
set_option maxRecDepth 100000 in
theorem mco_113 : mCo 113 ∈ mjS := (show mCo 113 = .code yX10_count cX10_count 2 (some .int) from rfl) ▸ (List.mem_of_getElem? (i := 904) rfl)
set_option maxRecDepth 100000 in
theorem mco_114 : mCo 114 ∈ mjS := (show mCo 114 = .code yX10_hasPlace cX10_hasPlace 3 (some .boolean) from rfl) ▸ (List.mem_of_getElem? (i := 875) rfl)
set_option maxRecDepth 100000 in
theorem mco_115 : mCo 115 ∈ mjS := (show mCo 115 = .code yX11_init cX11_init 1 none from rfl) ▸ (List.mem_of_getElem? (i := 975) rfl)
set_option maxRecDepth 100000 in
theorem mco_116 : mCo 116 ∈ mjS := (show mCo 116 = .code yX12_init cX12_init 1 none from rfl) ▸ (List.mem_of_getElem? (i := 949) rfl)
set_option maxRecDepth 100000 in
theorem mco_117 : mCo 117 ∈ mjS := (show mCo 117 = .code yX13_init cX13_init 1 none from rfl) ▸ (List.mem_of_getElem? (i := 919) rfl)
set_option maxRecDepth 100000 in
theorem mco_118 : mCo 118 ∈ mjS := (show mCo 118 = .code yX14_init cX14_init 1 none from rfl) ▸ (List.mem_of_getElem? (i := 913) rfl)
set_option maxRecDepth 100000 in
theorem mco_119 : mCo 119 ∈ mjS := (show mCo 119 = .code yX14_put cX14_put 3 none from rfl) ▸ (List.mem_of_getElem? (i := 1117) rfl)
set_option maxRecDepth 100000 in
theorem mco_120 : mCo 120 ∈ mjS := (show mCo 120 = .code yX14_feed cX14_feed 6 (some .int) from rfl) ▸ (List.mem_of_getElem? (i := 1113) rfl)
set_option maxRecDepth 100000 in
theorem mco_121 : mCo 121 ∈ mjS := (show mCo 121 = .code yX14_end cX14_end 2 (some .int) from rfl) ▸ (List.mem_of_getElem? (i := 1121) rfl)
set_option maxRecDepth 100000 in
theorem mco_122 : mCo 122 ∈ mjS := (show mCo 122 = .code yX14_byteAt cX14_byteAt 2 (some .int) from rfl) ▸ (List.mem_of_getElem? (i := 1137) rfl)
set_option maxRecDepth 100000 in
theorem mco_123 : mCo 123 ∈ mjS := (show mCo 123 = .code yX14_digit cX14_digit 1 (some .boolean) from rfl) ▸ (List.mem_of_getElem? (i := 1140) rfl)
set_option maxRecDepth 100000 in
theorem mco_124 : mCo 124 ∈ mjS := (show mCo 124 = .code yX14_small cX14_small 1 (some .boolean) from rfl) ▸ (List.mem_of_getElem? (i := 1133) rfl)
set_option maxRecDepth 100000 in
theorem mco_125 : mCo 125 ∈ mjS := (show mCo 125 = .code yX14_capital cX14_capital 1 (some .boolean) from rfl) ▸ (List.mem_of_getElem? (i := 1145) rfl)
set_option maxRecDepth 100000 in
theorem mco_126 : mCo 126 ∈ mjS := (show mCo 126 = .code yX14_readTokens cX14_readTokens 8 none from rfl) ▸ (List.mem_of_getElem? (i := 1130) rfl)
set_option maxRecDepth 100000 in
theorem mco_127 : mCo 127 ∈ mjS := (show mCo 127 = .code yX14_here cX14_here 2 (some .boolean) from rfl) ▸ (List.mem_of_getElem? (i := 1236) rfl)
set_option maxRecDepth 100000 in
theorem mco_128 : mCo 128 ∈ mjS := (show mCo 128 = .code yX14_check cX14_check 2 none from rfl) ▸ (List.mem_of_getElem? (i := 1244) rfl)
set_option maxRecDepth 100000 in
theorem mco_129 : mCo 129 ∈ mjS := (show mCo 129 = .code yX14_take cX14_take 2 none from rfl) ▸ (List.mem_of_getElem? (i := 1315) rfl)
set_option maxRecDepth 100000 in
theorem mco_130 : mCo 130 ∈ mjS := (show mCo 130 = .code yX14_tree cX14_tree 5 (some .int) from rfl) ▸ (List.mem_of_getElem? (i := 1339) rfl)
set_option maxRecDepth 100000 in
theorem mco_131 : mCo 131 ∈ mjS := (show mCo 131 = .code yX14_ors cX14_ors 3 (some .int) from rfl) ▸ (List.mem_of_getElem? (i := 1319) rfl)
set_option maxRecDepth 100000 in
theorem mco_132 : mCo 132 ∈ mjS := (show mCo 132 = .code yX14_xors cX14_xors 3 (some .int) from rfl) ▸ (List.mem_of_getElem? (i := 1323) rfl)
set_option maxRecDepth 100000 in
theorem mco_133 : mCo 133 ∈ mjS := (show mCo 133 = .code yX14_ands cX14_ands 3 (some .int) from rfl) ▸ (List.mem_of_getElem? (i := 1327) rfl)
set_option maxRecDepth 100000 in
theorem mco_134 : mCo 134 ∈ mjS := (show mCo 134 = .code yX14_not cX14_not 2 (some .int) from rfl) ▸ (List.mem_of_getElem? (i := 1331) rfl)
set_option maxRecDepth 100000 in
theorem mco_135 : mCo 135 ∈ mjS := (show mCo 135 = .code yX14_atom cX14_atom 3 (some .int) from rfl) ▸ (List.mem_of_getElem? (i := 1335) rfl)
set_option maxRecDepth 100000 in
theorem mco_136 : mCo 136 ∈ mjS := (show mCo 136 = .code yX14_variable cX14_variable 2 (some .int) from rfl) ▸ (List.mem_of_getElem? (i := 1343) rfl)
set_option maxRecDepth 100000 in
theorem mco_137 : mCo 137 ∈ mjS := (show mCo 137 = .code yX14_find cX14_find 4 (some .int) from rfl) ▸ (List.mem_of_getElem? (i := 1311) rfl)
set_option maxRecDepth 100000 in
theorem mco_138 : mCo 138 ∈ mjS := (show mCo 138 = .code yX14_declare cX14_declare 3 none from rfl) ▸ (List.mem_of_getElem? (i := 1308) rfl)
set_option maxRecDepth 100000 in
theorem mco_139 : mCo 139 ∈ mjS := (show mCo 139 = .code yX14_item cX14_item 3 none from rfl) ▸ (List.mem_of_getElem? (i := 1240) rfl)
set_option maxRecDepth 100000 in
theorem mco_140 : mCo 140 ∈ mjS := (show mCo 140 = .code yX14_names cX14_names 3 (some .boolean) from rfl) ▸ (List.mem_of_getElem? (i := 1355) rfl)
set_option maxRecDepth 100000 in
theorem mco_141 : mCo 141 ∈ mjS := (show mCo 141 = .code yX14_reach cX14_reach 9 none from rfl) ▸ (List.mem_of_getElem? (i := 1351) rfl)
set_option maxRecDepth 100000 in
theorem mco_142 : mCo 142 ∈ mjS := (show mCo 142 = .code yX14_finish cX14_finish 2 none from rfl) ▸ (List.mem_of_getElem? (i := 1347) rfl)
set_option maxRecDepth 100000 in
theorem mco_143 : mCo 143 ∈ mjS := (show mCo 143 = .codeWith yX14_circuit cX14_circuit 2 (some .int) [(51, 70, 73, 128)] from rfl) ▸ (List.mem_of_getElem? (i := 1125) rfl)
set_option maxRecDepth 100000 in
theorem mco_144 : mCo 144 ∈ mjS := (show mCo 144 = .code yX14_number cX14_number 2 (some .int) from rfl) ▸ (List.mem_of_getElem? (i := 1371) rfl)
set_option maxRecDepth 100000 in
theorem mco_145 : mCo 145 ∈ mjS := (show mCo 145 = .code yX14_clause cX14_clause 3 none from rfl) ▸ (List.mem_of_getElem? (i := 1367) rfl)
set_option maxRecDepth 100000 in
theorem mco_146 : mCo 146 ∈ mjS := (show mCo 146 = .code yX14_part cX14_part 4 (some .int) from rfl) ▸ (List.mem_of_getElem? (i := 1363) rfl)
set_option maxRecDepth 100000 in
theorem mco_147 : mCo 147 ∈ mjS := (show mCo 147 = .codeWith yX14_assertion cX14_assertion 2 (some .int) [(59, 111, 114, 128)] from rfl) ▸ (List.mem_of_getElem? (i := 1359) rfl)
set_option maxRecDepth 100000 in
theorem mco_148 : mCo 148 ∈ mjS := (show mCo 148 = .code yX14_cell cX14_cell 4 (some .int) from rfl) ▸ (List.mem_of_getElem? (i := 1388) rfl)
set_option maxRecDepth 100000 in
theorem mco_149 : mCo 149 ∈ mjS := (show mCo 149 = .code yX14_variable_ cX14_variable_ 2 (some .boolean) from rfl) ▸ (List.mem_of_getElem? (i := 1403) rfl)
set_option maxRecDepth 100000 in
theorem mco_150 : mCo 150 ∈ mjS := (show mCo 150 = .code yX14_holds cX14_holds 2 (some .boolean) from rfl) ▸ (List.mem_of_getElem? (i := 1399) rfl)
set_option maxRecDepth 100000 in
theorem mco_151 : mCo 151 ∈ mjS := (show mCo 151 = .code yX14_valueOf cX14_valueOf 7 (some .int) from rfl) ▸ (List.mem_of_getElem? (i := 1384) rfl)
set_option maxRecDepth 100000 in
theorem mco_152 : mCo 152 ∈ mjS := (show mCo 152 = .code yX14_covers cX14_covers 4 (some .boolean) from rfl) ▸ (List.mem_of_getElem? (i := 1391) rfl)
set_option maxRecDepth 100000 in
theorem mco_153 : mCo 153 ∈ mjS := (show mCo 153 = .code yX14_applies cX14_applies 2 (some .boolean) from rfl) ▸ (List.mem_of_getElem? (i := 1395) rfl)
set_option maxRecDepth 100000 in
theorem mco_154 : mCo 154 ∈ mjS := (show mCo 154 = .code yX14_work cX14_work 6 none from rfl) ▸ (List.mem_of_getElem? (i := 1380) rfl)
set_option maxRecDepth 100000 in
theorem mco_155 : mCo 155 ∈ mjS := (show mCo 155 = .code yX14_judge cX14_judge 5 none from rfl) ▸ (List.mem_of_getElem? (i := 1376) rfl)
set_option maxRecDepth 100000 in
theorem mco_156 : mCo 156 ∈ mjS := (show mCo 156 = .code yX14_all cX14_all 1 (some .int) from rfl) ▸ (List.mem_of_getElem? (i := 1411) rfl)
set_option maxRecDepth 100000 in
theorem mco_157 : mCo 157 ∈ mjS := (show mCo 157 = .code yX14_fails cX14_fails 3 (some .int) from rfl) ▸ (List.mem_of_getElem? (i := 1407) rfl)
set_option maxRecDepth 100000 in
theorem mco_158 : mCo 158 ∈ mjS := (show mCo 158 = .code yX14_excluded cX14_excluded 3 (some .int) from rfl) ▸ (List.mem_of_getElem? (i := 1415) rfl)
set_option maxRecDepth 100000 in
theorem mco_159 : mCo 159 ∈ mjS := (show mCo 159 = .code yX14_failing cX14_failing 4 (some .int) from rfl) ▸ (List.mem_of_getElem? (i := 1419) rfl)
set_option maxRecDepth 100000 in
theorem mco_160 : mCo 160 ∈ mjS := (show mCo 160 = .code yX14_shortfall cX14_shortfall 3 (some .int) from rfl) ▸ (List.mem_of_getElem? (i := 1423) rfl)
set_option maxRecDepth 100000 in
theorem mco_161 : mCo 161 ∈ mjS := (show mCo 161 = .code yX14_isPlace cX14_isPlace 3 (some .boolean) from rfl) ▸ (List.mem_of_getElem? (i := 1431) rfl)
set_option maxRecDepth 100000 in
theorem mco_162 : mCo 162 ∈ mjS := (show mCo 162 = .code yX14_value cX14_value 4 (some .int) from rfl) ▸ (List.mem_of_getElem? (i := 1427) rfl)
set_option maxRecDepth 100000 in
theorem mco_163 : mCo 163 ∈ mjS := (show mCo 163 = .code yX14_matters cX14_matters 6 (some .int) from rfl) ▸ (List.mem_of_getElem? (i := 1435) rfl)
set_option maxRecDepth 100000 in
theorem mco_164 : mCo 164 ∈ mjS := (show mCo 164 = .code yX14_cone cX14_cone 4 (some .int) from rfl) ▸ (List.mem_of_getElem? (i := 1439) rfl)
set_option maxRecDepth 100000 in
theorem mco_165 : mCo 165 ∈ mjS := (show mCo 165 = .code yX14_kinds cX14_kinds 4 (some .int) from rfl) ▸ (List.mem_of_getElem? (i := 1447) rfl)
set_option maxRecDepth 100000 in
theorem mco_166 : mCo 166 ∈ mjS := (show mCo 166 = .code yX14_count cX14_count 2 (some .int) from rfl) ▸ (List.mem_of_getElem? (i := 1443) rfl)
set_option maxRecDepth 100000 in
theorem mco_167 : mCo 167 ∈ mjS := (show mCo 167 = .code yJ13_bitCount_95d88 cJ13_bitCount_95d88 2 (some .int) from rfl) ▸ (List.mem_of_getElem? (i := 668) rfl)
theorem mCo_mem : ∀ j, j < 168 → mCo j ∈ mjS
  | 0, _ => mco_0
  | 1, _ => mco_1
  | 2, _ => mco_2
  | 3, _ => mco_3
  | 4, _ => mco_4
  | 5, _ => mco_5
  | 6, _ => mco_6
  | 7, _ => mco_7
  | 8, _ => mco_8
  | 9, _ => mco_9
  | 10, _ => mco_10
  | 11, _ => mco_11
  | 12, _ => mco_12
  | 13, _ => mco_13
  | 14, _ => mco_14
  | 15, _ => mco_15
  | 16, _ => mco_16
  | 17, _ => mco_17
  | 18, _ => mco_18
  | 19, _ => mco_19
  | 20, _ => mco_20
  | 21, _ => mco_21
  | 22, _ => mco_22
  | 23, _ => mco_23
  | 24, _ => mco_24
  | 25, _ => mco_25
  | 26, _ => mco_26
  | 27, _ => mco_27
  | 28, _ => mco_28
  | 29, _ => mco_29
  | 30, _ => mco_30
  | 31, _ => mco_31
  | 32, _ => mco_32
  | 33, _ => mco_33
  | 34, _ => mco_34
  | 35, _ => mco_35
  | 36, _ => mco_36
  | 37, _ => mco_37
  | 38, _ => mco_38
  | 39, _ => mco_39
  | 40, _ => mco_40
  | 41, _ => mco_41
  | 42, _ => mco_42
  | 43, _ => mco_43
  | 44, _ => mco_44
  | 45, _ => mco_45
  | 46, _ => mco_46
  | 47, _ => mco_47
  | 48, _ => mco_48
  | 49, _ => mco_49
  | 50, _ => mco_50
  | 51, _ => mco_51
  | 52, _ => mco_52
  | 53, _ => mco_53
  | 54, _ => mco_54
  | 55, _ => mco_55
  | 56, _ => mco_56
  | 57, _ => mco_57
  | 58, _ => mco_58
  | 59, _ => mco_59
  | 60, _ => mco_60
  | 61, _ => mco_61
  | 62, _ => mco_62
  | 63, _ => mco_63
  | 64, _ => mco_64
  | 65, _ => mco_65
  | 66, _ => mco_66
  | 67, _ => mco_67
  | 68, _ => mco_68
  | 69, _ => mco_69
  | 70, _ => mco_70
  | 71, _ => mco_71
  | 72, _ => mco_72
  | 73, _ => mco_73
  | 74, _ => mco_74
  | 75, _ => mco_75
  | 76, _ => mco_76
  | 77, _ => mco_77
  | 78, _ => mco_78
  | 79, _ => mco_79
  | 80, _ => mco_80
  | 81, _ => mco_81
  | 82, _ => mco_82
  | 83, _ => mco_83
  | 84, _ => mco_84
  | 85, _ => mco_85
  | 86, _ => mco_86
  | 87, _ => mco_87
  | 88, _ => mco_88
  | 89, _ => mco_89
  | 90, _ => mco_90
  | 91, _ => mco_91
  | 92, _ => mco_92
  | 93, _ => mco_93
  | 94, _ => mco_94
  | 95, _ => mco_95
  | 96, _ => mco_96
  | 97, _ => mco_97
  | 98, _ => mco_98
  | 99, _ => mco_99
  | 100, _ => mco_100
  | 101, _ => mco_101
  | 102, _ => mco_102
  | 103, _ => mco_103
  | 104, _ => mco_104
  | 105, _ => mco_105
  | 106, _ => mco_106
  | 107, _ => mco_107
  | 108, _ => mco_108
  | 109, _ => mco_109
  | 110, _ => mco_110
  | 111, _ => mco_111
  | 112, _ => mco_112
  | 113, _ => mco_113
  | 114, _ => mco_114
  | 115, _ => mco_115
  | 116, _ => mco_116
  | 117, _ => mco_117
  | 118, _ => mco_118
  | 119, _ => mco_119
  | 120, _ => mco_120
  | 121, _ => mco_121
  | 122, _ => mco_122
  | 123, _ => mco_123
  | 124, _ => mco_124
  | 125, _ => mco_125
  | 126, _ => mco_126
  | 127, _ => mco_127
  | 128, _ => mco_128
  | 129, _ => mco_129
  | 130, _ => mco_130
  | 131, _ => mco_131
  | 132, _ => mco_132
  | 133, _ => mco_133
  | 134, _ => mco_134
  | 135, _ => mco_135
  | 136, _ => mco_136
  | 137, _ => mco_137
  | 138, _ => mco_138
  | 139, _ => mco_139
  | 140, _ => mco_140
  | 141, _ => mco_141
  | 142, _ => mco_142
  | 143, _ => mco_143
  | 144, _ => mco_144
  | 145, _ => mco_145
  | 146, _ => mco_146
  | 147, _ => mco_147
  | 148, _ => mco_148
  | 149, _ => mco_149
  | 150, _ => mco_150
  | 151, _ => mco_151
  | 152, _ => mco_152
  | 153, _ => mco_153
  | 154, _ => mco_154
  | 155, _ => mco_155
  | 156, _ => mco_156
  | 157, _ => mco_157
  | 158, _ => mco_158
  | 159, _ => mco_159
  | 160, _ => mco_160
  | 161, _ => mco_161
  | 162, _ => mco_162
  | 163, _ => mco_163
  | 164, _ => mco_164
  | 165, _ => mco_165
  | 166, _ => mco_166
  | 167, _ => mco_167
  | n + 168, h => absurd h (by omega)
