section
-- ===== PART A: goes FIRST, ahead of the names: the tables' words, and 'selects' of the private methods out of them =====
/-- a private method of a class that the tables say can be made, by its rows of tables_1 -/
def lw_okq (q : MethodName × Nat) : Prop := (q.1.cls ≠ "java/lang/invoke/MethodHandle" ∧ q.1.cls ≠ "java/lang/invoke/VarHandle") ∧ Cond.instantiable q.1.cls q.2 ∈ tables_1 ∧ Cond.privateMethod q.1 ∈ tables_1 ∧ Cond.instanceMethod q.1 ∈ tables_1
theorem lw_p0 : lw_okq (⟨"TrajectoryRails$Tokens", "addToken", "(II)I"⟩, 6) := ⟨⟨by decide +kernel, by decide +kernel⟩, List.mem_of_getElem? (i := 52) (by decide +kernel), List.mem_of_getElem? (i := 408) (by decide +kernel), List.mem_of_getElem? (i := 409) (by decide +kernel)⟩
theorem lw_p1 : lw_okq (⟨"TrajectoryRails$Tokens", "stopOf", "(II)I"⟩, 6) := ⟨⟨by decide +kernel, by decide +kernel⟩, List.mem_of_getElem? (i := 52) (by decide +kernel), List.mem_of_getElem? (i := 412) (by decide +kernel), List.mem_of_getElem? (i := 413) (by decide +kernel)⟩
theorem lw_p2 : lw_okq (⟨"TrajectoryRails$CircuitReader", "takeItem", "()Z"⟩, 8) := ⟨⟨by decide +kernel, by decide +kernel⟩, List.mem_of_getElem? (i := 79) (by decide +kernel), List.mem_of_getElem? (i := 441) (by decide +kernel), List.mem_of_getElem? (i := 442) (by decide +kernel)⟩
theorem lw_p3 : lw_okq (⟨"TrajectoryRails$CircuitReader", "takeInputs", "()Z"⟩, 8) := ⟨⟨by decide +kernel, by decide +kernel⟩, List.mem_of_getElem? (i := 79) (by decide +kernel), List.mem_of_getElem? (i := 461) (by decide +kernel), List.mem_of_getElem? (i := 462) (by decide +kernel)⟩
theorem lw_p4 : lw_okq (⟨"TrajectoryRails$CircuitReader", "takeDeclared", "(I)Z"⟩, 8) := ⟨⟨by decide +kernel, by decide +kernel⟩, List.mem_of_getElem? (i := 79) (by decide +kernel), List.mem_of_getElem? (i := 465) (by decide +kernel), List.mem_of_getElem? (i := 466) (by decide +kernel)⟩
theorem lw_p5 : lw_okq (⟨"TrajectoryRails$CircuitReader", "takeMade", "(I)Z"⟩, 8) := ⟨⟨by decide +kernel, by decide +kernel⟩, List.mem_of_getElem? (i := 79) (by decide +kernel), List.mem_of_getElem? (i := 490) (by decide +kernel), List.mem_of_getElem? (i := 491) (by decide +kernel)⟩
theorem lw_p6 : lw_okq (⟨"TrajectoryRails$CircuitReader", "putNodesForNames", "()I"⟩, 8) := ⟨⟨by decide +kernel, by decide +kernel⟩, List.mem_of_getElem? (i := 79) (by decide +kernel), List.mem_of_getElem? (i := 552) (by decide +kernel), List.mem_of_getElem? (i := 553) (by decide +kernel)⟩
theorem lw_p7 : lw_okq (⟨"TrajectoryRails$Circuit", "leavesOf", "(I)J"⟩, 9) := ⟨⟨by decide +kernel, by decide +kernel⟩, List.mem_of_getElem? (i := 205) (by decide +kernel), List.mem_of_getElem? (i := 577) (by decide +kernel), List.mem_of_getElem? (i := 578) (by decide +kernel)⟩
theorem lw_p8 : lw_okq (⟨"TrajectoryRails$Circuit", "close", "([J)V"⟩, 9) := ⟨⟨by decide +kernel, by decide +kernel⟩, List.mem_of_getElem? (i := 205) (by decide +kernel), List.mem_of_getElem? (i := 582) (by decide +kernel), List.mem_of_getElem? (i := 583) (by decide +kernel)⟩
theorem lw_p9 : lw_okq (⟨"TrajectoryRails$Circuit", "putInOrder", "()V"⟩, 9) := ⟨⟨by decide +kernel, by decide +kernel⟩, List.mem_of_getElem? (i := 205) (by decide +kernel), List.mem_of_getElem? (i := 586) (by decide +kernel), List.mem_of_getElem? (i := 587) (by decide +kernel)⟩
theorem lw_p10 : lw_okq (⟨"TrajectoryRails$Circuit", "rankOf", "(I)I"⟩, 9) := ⟨⟨by decide +kernel, by decide +kernel⟩, List.mem_of_getElem? (i := 205) (by decide +kernel), List.mem_of_getElem? (i := 590) (by decide +kernel), List.mem_of_getElem? (i := 591) (by decide +kernel)⟩
theorem lw_p11 : lw_okq (⟨"TrajectoryRails$ClaimReader", "takeClauses", "()Z"⟩, 8) := ⟨⟨by decide +kernel, by decide +kernel⟩, List.mem_of_getElem? (i := 121) (by decide +kernel), List.mem_of_getElem? (i := 623) (by decide +kernel), List.mem_of_getElem? (i := 624) (by decide +kernel)⟩
theorem lw_p12 : lw_okq (⟨"TrajectoryRails$ClaimReader", "takeClause", "()Z"⟩, 8) := ⟨⟨by decide +kernel, by decide +kernel⟩, List.mem_of_getElem? (i := 121) (by decide +kernel), List.mem_of_getElem? (i := 627) (by decide +kernel), List.mem_of_getElem? (i := 628) (by decide +kernel)⟩
theorem lw_p13 : lw_okq (⟨"TrajectoryRails$ClaimReader", "takeTimes", "(I)Z"⟩, 8) := ⟨⟨by decide +kernel, by decide +kernel⟩, List.mem_of_getElem? (i := 121) (by decide +kernel), List.mem_of_getElem? (i := 637) (by decide +kernel), List.mem_of_getElem? (i := 638) (by decide +kernel)⟩
theorem lw_p14 : lw_okq (⟨"TrajectoryRails$ClaimReader", "takeTime", "(I)I"⟩, 8) := ⟨⟨by decide +kernel, by decide +kernel⟩, List.mem_of_getElem? (i := 121) (by decide +kernel), List.mem_of_getElem? (i := 647) (by decide +kernel), List.mem_of_getElem? (i := 648) (by decide +kernel)⟩
theorem lw_p15 : lw_okq (⟨"TrajectoryRails$Check", "setVariables", "(I)V"⟩, 14) := ⟨⟨by decide +kernel, by decide +kernel⟩, List.mem_of_getElem? (i := 140) (by decide +kernel), List.mem_of_getElem? (i := 667) (by decide +kernel), List.mem_of_getElem? (i := 668) (by decide +kernel)⟩
def lw_privs_1 : List (MethodName × Nat) := [(⟨"TrajectoryRails$Tokens", "addToken", "(II)I"⟩, 6), (⟨"TrajectoryRails$Tokens", "stopOf", "(II)I"⟩, 6), (⟨"TrajectoryRails$CircuitReader", "takeItem", "()Z"⟩, 8), (⟨"TrajectoryRails$CircuitReader", "takeInputs", "()Z"⟩, 8), (⟨"TrajectoryRails$CircuitReader", "takeDeclared", "(I)Z"⟩, 8), (⟨"TrajectoryRails$CircuitReader", "takeMade", "(I)Z"⟩, 8), (⟨"TrajectoryRails$CircuitReader", "putNodesForNames", "()I"⟩, 8), (⟨"TrajectoryRails$Circuit", "leavesOf", "(I)J"⟩, 9), (⟨"TrajectoryRails$Circuit", "close", "([J)V"⟩, 9), (⟨"TrajectoryRails$Circuit", "putInOrder", "()V"⟩, 9), (⟨"TrajectoryRails$Circuit", "rankOf", "(I)I"⟩, 9), (⟨"TrajectoryRails$ClaimReader", "takeClauses", "()Z"⟩, 8), (⟨"TrajectoryRails$ClaimReader", "takeClause", "()Z"⟩, 8), (⟨"TrajectoryRails$ClaimReader", "takeTimes", "(I)Z"⟩, 8), (⟨"TrajectoryRails$ClaimReader", "takeTime", "(I)I"⟩, 8), (⟨"TrajectoryRails$Check", "setVariables", "(I)V"⟩, 14)]
theorem lw_r1 : ∀ q ∈ lw_privs_1, lw_okq q := List.forall_mem_cons.mpr ⟨lw_p0, List.forall_mem_cons.mpr ⟨lw_p1, List.forall_mem_cons.mpr ⟨lw_p2, List.forall_mem_cons.mpr ⟨lw_p3, List.forall_mem_cons.mpr ⟨lw_p4, List.forall_mem_cons.mpr ⟨lw_p5, List.forall_mem_cons.mpr ⟨lw_p6, List.forall_mem_cons.mpr ⟨lw_p7, List.forall_mem_cons.mpr ⟨lw_p8, List.forall_mem_cons.mpr ⟨lw_p9, List.forall_mem_cons.mpr ⟨lw_p10, List.forall_mem_cons.mpr ⟨lw_p11, List.forall_mem_cons.mpr ⟨lw_p12, List.forall_mem_cons.mpr ⟨lw_p13, List.forall_mem_cons.mpr ⟨lw_p14, List.forall_mem_cons.mpr ⟨lw_p15, fun _ h => absurd h List.not_mem_nil⟩⟩⟩⟩⟩⟩⟩⟩⟩⟩⟩⟩⟩⟩⟩⟩
theorem lw_p16 : lw_okq (⟨"TrajectoryRails$Check", "bitOf", "(I)I"⟩, 14) := ⟨⟨by decide +kernel, by decide +kernel⟩, List.mem_of_getElem? (i := 140) (by decide +kernel), List.mem_of_getElem? (i := 671) (by decide +kernel), List.mem_of_getElem? (i := 672) (by decide +kernel)⟩
theorem lw_p17 : lw_okq (⟨"TrajectoryRails$Check", "workOutClauses", "(I)V"⟩, 14) := ⟨⟨by decide +kernel, by decide +kernel⟩, List.mem_of_getElem? (i := 140) (by decide +kernel), List.mem_of_getElem? (i := 680) (by decide +kernel), List.mem_of_getElem? (i := 681) (by decide +kernel)⟩
theorem lw_p18 : lw_okq (⟨"TrajectoryRails$Stack", "push", "(JJ)V"⟩, 3) := ⟨⟨by decide +kernel, by decide +kernel⟩, List.mem_of_getElem? (i := 146) (by decide +kernel), List.mem_of_getElem? (i := 692) (by decide +kernel), List.mem_of_getElem? (i := 693) (by decide +kernel)⟩
theorem lw_p19 : lw_okq (⟨"TrajectoryRails$Stack", "apply", "(I)V"⟩, 3) := ⟨⟨by decide +kernel, by decide +kernel⟩, List.mem_of_getElem? (i := 146) (by decide +kernel), List.mem_of_getElem? (i := 696) (by decide +kernel), List.mem_of_getElem? (i := 697) (by decide +kernel)⟩
theorem lw_p20 : lw_okq (⟨"TrajectoryRails$Stack", "invert", "()V"⟩, 3) := ⟨⟨by decide +kernel, by decide +kernel⟩, List.mem_of_getElem? (i := 146) (by decide +kernel), List.mem_of_getElem? (i := 701) (by decide +kernel), List.mem_of_getElem? (i := 702) (by decide +kernel)⟩
theorem lw_p21 : lw_okq (⟨"TrajectoryRails$Stack", "join", "(I)V"⟩, 3) := ⟨⟨by decide +kernel, by decide +kernel⟩, List.mem_of_getElem? (i := 146) (by decide +kernel), List.mem_of_getElem? (i := 705) (by decide +kernel), List.mem_of_getElem? (i := 706) (by decide +kernel)⟩
theorem lw_p22 : lw_okq (⟨"TrajectoryRails$Check", "layGivens", "(I)V"⟩, 14) := ⟨⟨by decide +kernel, by decide +kernel⟩, List.mem_of_getElem? (i := 140) (by decide +kernel), List.mem_of_getElem? (i := 713) (by decide +kernel), List.mem_of_getElem? (i := 714) (by decide +kernel)⟩
theorem lw_p23 : lw_okq (⟨"TrajectoryRails$Check", "follow", "(I)V"⟩, 14) := ⟨⟨by decide +kernel, by decide +kernel⟩, List.mem_of_getElem? (i := 140) (by decide +kernel), List.mem_of_getElem? (i := 720) (by decide +kernel), List.mem_of_getElem? (i := 721) (by decide +kernel)⟩
theorem lw_p24 : lw_okq (⟨"TrajectoryRails$Check", "joinOwn", "(III)V"⟩, 14) := ⟨⟨by decide +kernel, by decide +kernel⟩, List.mem_of_getElem? (i := 140) (by decide +kernel), List.mem_of_getElem? (i := 724) (by decide +kernel), List.mem_of_getElem? (i := 725) (by decide +kernel)⟩
theorem lw_p25 : lw_okq (⟨"TrajectoryRails$Check", "compare", "(I)V"⟩, 14) := ⟨⟨by decide +kernel, by decide +kernel⟩, List.mem_of_getElem? (i := 140) (by decide +kernel), List.mem_of_getElem? (i := 732) (by decide +kernel), List.mem_of_getElem? (i := 733) (by decide +kernel)⟩
theorem lw_p26 : lw_okq (⟨"TrajectoryRails$Check", "wrongLanes", "(III)J"⟩, 14) := ⟨⟨by decide +kernel, by decide +kernel⟩, List.mem_of_getElem? (i := 140) (by decide +kernel), List.mem_of_getElem? (i := 736) (by decide +kernel), List.mem_of_getElem? (i := 737) (by decide +kernel)⟩
theorem lw_p27 : lw_okq (⟨"TrajectoryRails$Check", "lanesIn", "([J)I"⟩, 14) := ⟨⟨by decide +kernel, by decide +kernel⟩, List.mem_of_getElem? (i := 140) (by decide +kernel), List.mem_of_getElem? (i := 748) (by decide +kernel), List.mem_of_getElem? (i := 749) (by decide +kernel)⟩
theorem lw_p28 : lw_okq (⟨"TrajectoryRails$Check", "wrongTime", "(II)I"⟩, 14) := ⟨⟨by decide +kernel, by decide +kernel⟩, List.mem_of_getElem? (i := 140) (by decide +kernel), List.mem_of_getElem? (i := 787) (by decide +kernel), List.mem_of_getElem? (i := 788) (by decide +kernel)⟩
theorem lw_p29 : lw_okq (⟨"TrajectoryRails", "hasPlace", "(II)Z"⟩, 9) := ⟨⟨by decide +kernel, by decide +kernel⟩, List.mem_of_getElem? (i := 28) (by decide +kernel), List.mem_of_getElem? (i := 800) (by decide +kernel), List.mem_of_getElem? (i := 801) (by decide +kernel)⟩
theorem lw_p30 : lw_okq (⟨"TrajectoryRails$Check", "changedLanes", "(III)J"⟩, 14) := ⟨⟨by decide +kernel, by decide +kernel⟩, List.mem_of_getElem? (i := 140) (by decide +kernel), List.mem_of_getElem? (i := 820) (by decide +kernel), List.mem_of_getElem? (i := 821) (by decide +kernel)⟩
theorem lw_p31 : lw_okq (⟨"TrajectoryRailsModel", "put", "(I)V"⟩, 31) := ⟨⟨by decide +kernel, by decide +kernel⟩, List.mem_of_getElem? (i := 837) (by decide +kernel), List.mem_of_getElem? (i := 1042) (by decide +kernel), List.mem_of_getElem? (i := 1043) (by decide +kernel)⟩
def lw_privs_2 : List (MethodName × Nat) := [(⟨"TrajectoryRails$Check", "bitOf", "(I)I"⟩, 14), (⟨"TrajectoryRails$Check", "workOutClauses", "(I)V"⟩, 14), (⟨"TrajectoryRails$Stack", "push", "(JJ)V"⟩, 3), (⟨"TrajectoryRails$Stack", "apply", "(I)V"⟩, 3), (⟨"TrajectoryRails$Stack", "invert", "()V"⟩, 3), (⟨"TrajectoryRails$Stack", "join", "(I)V"⟩, 3), (⟨"TrajectoryRails$Check", "layGivens", "(I)V"⟩, 14), (⟨"TrajectoryRails$Check", "follow", "(I)V"⟩, 14), (⟨"TrajectoryRails$Check", "joinOwn", "(III)V"⟩, 14), (⟨"TrajectoryRails$Check", "compare", "(I)V"⟩, 14), (⟨"TrajectoryRails$Check", "wrongLanes", "(III)J"⟩, 14), (⟨"TrajectoryRails$Check", "lanesIn", "([J)I"⟩, 14), (⟨"TrajectoryRails$Check", "wrongTime", "(II)I"⟩, 14), (⟨"TrajectoryRails", "hasPlace", "(II)Z"⟩, 9), (⟨"TrajectoryRails$Check", "changedLanes", "(III)J"⟩, 14), (⟨"TrajectoryRailsModel", "put", "(I)V"⟩, 31)]
theorem lw_r2 : ∀ q ∈ lw_privs_2, lw_okq q := List.forall_mem_cons.mpr ⟨lw_p16, List.forall_mem_cons.mpr ⟨lw_p17, List.forall_mem_cons.mpr ⟨lw_p18, List.forall_mem_cons.mpr ⟨lw_p19, List.forall_mem_cons.mpr ⟨lw_p20, List.forall_mem_cons.mpr ⟨lw_p21, List.forall_mem_cons.mpr ⟨lw_p22, List.forall_mem_cons.mpr ⟨lw_p23, List.forall_mem_cons.mpr ⟨lw_p24, List.forall_mem_cons.mpr ⟨lw_p25, List.forall_mem_cons.mpr ⟨lw_p26, List.forall_mem_cons.mpr ⟨lw_p27, List.forall_mem_cons.mpr ⟨lw_p28, List.forall_mem_cons.mpr ⟨lw_p29, List.forall_mem_cons.mpr ⟨lw_p30, List.forall_mem_cons.mpr ⟨lw_p31, fun _ h => absurd h List.not_mem_nil⟩⟩⟩⟩⟩⟩⟩⟩⟩⟩⟩⟩⟩⟩⟩⟩
theorem lw_p32 : lw_okq (⟨"TrajectoryRailsModel", "readTokens", "()V"⟩, 31) := ⟨⟨by decide +kernel, by decide +kernel⟩, List.mem_of_getElem? (i := 837) (by decide +kernel), List.mem_of_getElem? (i := 1055) (by decide +kernel), List.mem_of_getElem? (i := 1056) (by decide +kernel)⟩
theorem lw_p33 : lw_okq (⟨"TrajectoryRailsModel", "byteAt", "(I)I"⟩, 31) := ⟨⟨by decide +kernel, by decide +kernel⟩, List.mem_of_getElem? (i := 837) (by decide +kernel), List.mem_of_getElem? (i := 1062) (by decide +kernel), List.mem_of_getElem? (i := 1063) (by decide +kernel)⟩
theorem lw_p34 : lw_okq (⟨"TrajectoryRailsModel", "here", "(I)Z"⟩, 31) := ⟨⟨by decide +kernel, by decide +kernel⟩, List.mem_of_getElem? (i := 837) (by decide +kernel), List.mem_of_getElem? (i := 1161) (by decide +kernel), List.mem_of_getElem? (i := 1162) (by decide +kernel)⟩
theorem lw_p35 : lw_okq (⟨"TrajectoryRailsModel", "item", "()V"⟩, 31) := ⟨⟨by decide +kernel, by decide +kernel⟩, List.mem_of_getElem? (i := 837) (by decide +kernel), List.mem_of_getElem? (i := 1165) (by decide +kernel), List.mem_of_getElem? (i := 1166) (by decide +kernel)⟩
theorem lw_p36 : lw_okq (⟨"TrajectoryRailsModel", "check", "(Z)V"⟩, 31) := ⟨⟨by decide +kernel, by decide +kernel⟩, List.mem_of_getElem? (i := 837) (by decide +kernel), List.mem_of_getElem? (i := 1169) (by decide +kernel), List.mem_of_getElem? (i := 1170) (by decide +kernel)⟩
theorem lw_p37 : lw_okq (⟨"java/lang/Throwable", "fillInStackTrace", "(I)Ljava/lang/Throwable;"⟩, 6) := ⟨⟨by decide +kernel, by decide +kernel⟩, List.mem_of_getElem? (i := 1208) (by decide +kernel), List.mem_of_getElem? (i := 1206) (by decide +kernel), List.mem_of_getElem? (i := 1207) (by decide +kernel)⟩
theorem lw_p38 : lw_okq (⟨"TrajectoryRailsModel", "declare", "(I)V"⟩, 31) := ⟨⟨by decide +kernel, by decide +kernel⟩, List.mem_of_getElem? (i := 837) (by decide +kernel), List.mem_of_getElem? (i := 1233) (by decide +kernel), List.mem_of_getElem? (i := 1234) (by decide +kernel)⟩
theorem lw_p39 : lw_okq (⟨"TrajectoryRailsModel", "take", "(I)V"⟩, 31) := ⟨⟨by decide +kernel, by decide +kernel⟩, List.mem_of_getElem? (i := 837) (by decide +kernel), List.mem_of_getElem? (i := 1240) (by decide +kernel), List.mem_of_getElem? (i := 1241) (by decide +kernel)⟩
theorem lw_p40 : lw_okq (⟨"TrajectoryRailsModel", "ors", "(I)I"⟩, 31) := ⟨⟨by decide +kernel, by decide +kernel⟩, List.mem_of_getElem? (i := 837) (by decide +kernel), List.mem_of_getElem? (i := 1244) (by decide +kernel), List.mem_of_getElem? (i := 1245) (by decide +kernel)⟩
theorem lw_p41 : lw_okq (⟨"TrajectoryRailsModel", "xors", "(I)I"⟩, 31) := ⟨⟨by decide +kernel, by decide +kernel⟩, List.mem_of_getElem? (i := 837) (by decide +kernel), List.mem_of_getElem? (i := 1248) (by decide +kernel), List.mem_of_getElem? (i := 1249) (by decide +kernel)⟩
theorem lw_p42 : lw_okq (⟨"TrajectoryRailsModel", "ands", "(I)I"⟩, 31) := ⟨⟨by decide +kernel, by decide +kernel⟩, List.mem_of_getElem? (i := 837) (by decide +kernel), List.mem_of_getElem? (i := 1252) (by decide +kernel), List.mem_of_getElem? (i := 1253) (by decide +kernel)⟩
theorem lw_p43 : lw_okq (⟨"TrajectoryRailsModel", "not", "(I)I"⟩, 31) := ⟨⟨by decide +kernel, by decide +kernel⟩, List.mem_of_getElem? (i := 837) (by decide +kernel), List.mem_of_getElem? (i := 1256) (by decide +kernel), List.mem_of_getElem? (i := 1257) (by decide +kernel)⟩
theorem lw_p44 : lw_okq (⟨"TrajectoryRailsModel", "atom", "(I)I"⟩, 31) := ⟨⟨by decide +kernel, by decide +kernel⟩, List.mem_of_getElem? (i := 837) (by decide +kernel), List.mem_of_getElem? (i := 1260) (by decide +kernel), List.mem_of_getElem? (i := 1261) (by decide +kernel)⟩
theorem lw_p45 : lw_okq (⟨"TrajectoryRailsModel", "tree", "(III)I"⟩, 31) := ⟨⟨by decide +kernel, by decide +kernel⟩, List.mem_of_getElem? (i := 837) (by decide +kernel), List.mem_of_getElem? (i := 1264) (by decide +kernel), List.mem_of_getElem? (i := 1265) (by decide +kernel)⟩
theorem lw_p46 : lw_okq (⟨"TrajectoryRailsModel", "variable", "()I"⟩, 31) := ⟨⟨by decide +kernel, by decide +kernel⟩, List.mem_of_getElem? (i := 837) (by decide +kernel), List.mem_of_getElem? (i := 1268) (by decide +kernel), List.mem_of_getElem? (i := 1269) (by decide +kernel)⟩
theorem lw_p47 : lw_okq (⟨"TrajectoryRailsModel", "finish", "()V"⟩, 31) := ⟨⟨by decide +kernel, by decide +kernel⟩, List.mem_of_getElem? (i := 837) (by decide +kernel), List.mem_of_getElem? (i := 1272) (by decide +kernel), List.mem_of_getElem? (i := 1273) (by decide +kernel)⟩
def lw_privs_3 : List (MethodName × Nat) := [(⟨"TrajectoryRailsModel", "readTokens", "()V"⟩, 31), (⟨"TrajectoryRailsModel", "byteAt", "(I)I"⟩, 31), (⟨"TrajectoryRailsModel", "here", "(I)Z"⟩, 31), (⟨"TrajectoryRailsModel", "item", "()V"⟩, 31), (⟨"TrajectoryRailsModel", "check", "(Z)V"⟩, 31), (⟨"java/lang/Throwable", "fillInStackTrace", "(I)Ljava/lang/Throwable;"⟩, 6), (⟨"TrajectoryRailsModel", "declare", "(I)V"⟩, 31), (⟨"TrajectoryRailsModel", "take", "(I)V"⟩, 31), (⟨"TrajectoryRailsModel", "ors", "(I)I"⟩, 31), (⟨"TrajectoryRailsModel", "xors", "(I)I"⟩, 31), (⟨"TrajectoryRailsModel", "ands", "(I)I"⟩, 31), (⟨"TrajectoryRailsModel", "not", "(I)I"⟩, 31), (⟨"TrajectoryRailsModel", "atom", "(I)I"⟩, 31), (⟨"TrajectoryRailsModel", "tree", "(III)I"⟩, 31), (⟨"TrajectoryRailsModel", "variable", "()I"⟩, 31), (⟨"TrajectoryRailsModel", "finish", "()V"⟩, 31)]
theorem lw_r3 : ∀ q ∈ lw_privs_3, lw_okq q := List.forall_mem_cons.mpr ⟨lw_p32, List.forall_mem_cons.mpr ⟨lw_p33, List.forall_mem_cons.mpr ⟨lw_p34, List.forall_mem_cons.mpr ⟨lw_p35, List.forall_mem_cons.mpr ⟨lw_p36, List.forall_mem_cons.mpr ⟨lw_p37, List.forall_mem_cons.mpr ⟨lw_p38, List.forall_mem_cons.mpr ⟨lw_p39, List.forall_mem_cons.mpr ⟨lw_p40, List.forall_mem_cons.mpr ⟨lw_p41, List.forall_mem_cons.mpr ⟨lw_p42, List.forall_mem_cons.mpr ⟨lw_p43, List.forall_mem_cons.mpr ⟨lw_p44, List.forall_mem_cons.mpr ⟨lw_p45, List.forall_mem_cons.mpr ⟨lw_p46, List.forall_mem_cons.mpr ⟨lw_p47, fun _ h => absurd h List.not_mem_nil⟩⟩⟩⟩⟩⟩⟩⟩⟩⟩⟩⟩⟩⟩⟩⟩
theorem lw_p48 : lw_okq (⟨"TrajectoryRailsModel", "reach", "(LTrajectoryRailsModel$Nodes;IZ)V"⟩, 31) := ⟨⟨by decide +kernel, by decide +kernel⟩, List.mem_of_getElem? (i := 837) (by decide +kernel), List.mem_of_getElem? (i := 1276) (by decide +kernel), List.mem_of_getElem? (i := 1277) (by decide +kernel)⟩
theorem lw_p49 : lw_okq (⟨"TrajectoryRailsModel", "names", "(II)Z"⟩, 31) := ⟨⟨by decide +kernel, by decide +kernel⟩, List.mem_of_getElem? (i := 837) (by decide +kernel), List.mem_of_getElem? (i := 1280) (by decide +kernel), List.mem_of_getElem? (i := 1281) (by decide +kernel)⟩
theorem lw_p50 : lw_okq (⟨"TrajectoryRailsModel", "part", "(I)I"⟩, 31) := ⟨⟨by decide +kernel, by decide +kernel⟩, List.mem_of_getElem? (i := 837) (by decide +kernel), List.mem_of_getElem? (i := 1288) (by decide +kernel), List.mem_of_getElem? (i := 1289) (by decide +kernel)⟩
theorem lw_p51 : lw_okq (⟨"TrajectoryRailsModel", "clause", "(I)V"⟩, 31) := ⟨⟨by decide +kernel, by decide +kernel⟩, List.mem_of_getElem? (i := 837) (by decide +kernel), List.mem_of_getElem? (i := 1292) (by decide +kernel), List.mem_of_getElem? (i := 1293) (by decide +kernel)⟩
theorem lw_p52 : lw_okq (⟨"TrajectoryRailsModel", "number", "(I)I"⟩, 31) := ⟨⟨by decide +kernel, by decide +kernel⟩, List.mem_of_getElem? (i := 837) (by decide +kernel), List.mem_of_getElem? (i := 1296) (by decide +kernel), List.mem_of_getElem? (i := 1297) (by decide +kernel)⟩
theorem lw_p53 : lw_okq (⟨"TrajectoryRailsModel", "judge", "(I)V"⟩, 31) := ⟨⟨by decide +kernel, by decide +kernel⟩, List.mem_of_getElem? (i := 837) (by decide +kernel), List.mem_of_getElem? (i := 1301) (by decide +kernel), List.mem_of_getElem? (i := 1302) (by decide +kernel)⟩
theorem lw_p54 : lw_okq (⟨"TrajectoryRailsModel", "work", "(II)V"⟩, 31) := ⟨⟨by decide +kernel, by decide +kernel⟩, List.mem_of_getElem? (i := 837) (by decide +kernel), List.mem_of_getElem? (i := 1305) (by decide +kernel), List.mem_of_getElem? (i := 1306) (by decide +kernel)⟩
theorem lw_p55 : lw_okq (⟨"TrajectoryRailsModel", "valueOf", "(IIZ)I"⟩, 31) := ⟨⟨by decide +kernel, by decide +kernel⟩, List.mem_of_getElem? (i := 837) (by decide +kernel), List.mem_of_getElem? (i := 1309) (by decide +kernel), List.mem_of_getElem? (i := 1310) (by decide +kernel)⟩
theorem lw_p56 : lw_okq (⟨"TrajectoryRailsModel", "cell", "(III)I"⟩, 31) := ⟨⟨by decide +kernel, by decide +kernel⟩, List.mem_of_getElem? (i := 837) (by decide +kernel), List.mem_of_getElem? (i := 1313) (by decide +kernel), List.mem_of_getElem? (i := 1314) (by decide +kernel)⟩
theorem lw_p57 : lw_okq (⟨"TrajectoryRailsModel", "applies", "(I)Z"⟩, 31) := ⟨⟨by decide +kernel, by decide +kernel⟩, List.mem_of_getElem? (i := 837) (by decide +kernel), List.mem_of_getElem? (i := 1320) (by decide +kernel), List.mem_of_getElem? (i := 1321) (by decide +kernel)⟩
theorem lw_p58 : lw_okq (⟨"TrajectoryRailsModel", "holds", "(I)Z"⟩, 31) := ⟨⟨by decide +kernel, by decide +kernel⟩, List.mem_of_getElem? (i := 837) (by decide +kernel), List.mem_of_getElem? (i := 1324) (by decide +kernel), List.mem_of_getElem? (i := 1325) (by decide +kernel)⟩
theorem lw_p59 : lw_okq (⟨"TrajectoryRailsModel", "variable", "(I)Z"⟩, 31) := ⟨⟨by decide +kernel, by decide +kernel⟩, List.mem_of_getElem? (i := 837) (by decide +kernel), List.mem_of_getElem? (i := 1328) (by decide +kernel), List.mem_of_getElem? (i := 1329) (by decide +kernel)⟩
theorem lw_p60 : lw_okq (⟨"TrajectoryRailsModel", "all", "()I"⟩, 31) := ⟨⟨by decide +kernel, by decide +kernel⟩, List.mem_of_getElem? (i := 837) (by decide +kernel), List.mem_of_getElem? (i := 1336) (by decide +kernel), List.mem_of_getElem? (i := 1337) (by decide +kernel)⟩
theorem lw_p61 : lw_okq (⟨"TrajectoryRailsModel", "isPlace", "(II)Z"⟩, 31) := ⟨⟨by decide +kernel, by decide +kernel⟩, List.mem_of_getElem? (i := 837) (by decide +kernel), List.mem_of_getElem? (i := 1356) (by decide +kernel), List.mem_of_getElem? (i := 1357) (by decide +kernel)⟩
theorem lw_p62 : lw_okq (⟨"TrajectoryRailsModel", "kinds", "(I)I"⟩, 31) := ⟨⟨by decide +kernel, by decide +kernel⟩, List.mem_of_getElem? (i := 837) (by decide +kernel), List.mem_of_getElem? (i := 1372) (by decide +kernel), List.mem_of_getElem? (i := 1373) (by decide +kernel)⟩
def lw_privs_4 : List (MethodName × Nat) := [(⟨"TrajectoryRailsModel", "reach", "(LTrajectoryRailsModel$Nodes;IZ)V"⟩, 31), (⟨"TrajectoryRailsModel", "names", "(II)Z"⟩, 31), (⟨"TrajectoryRailsModel", "part", "(I)I"⟩, 31), (⟨"TrajectoryRailsModel", "clause", "(I)V"⟩, 31), (⟨"TrajectoryRailsModel", "number", "(I)I"⟩, 31), (⟨"TrajectoryRailsModel", "judge", "(I)V"⟩, 31), (⟨"TrajectoryRailsModel", "work", "(II)V"⟩, 31), (⟨"TrajectoryRailsModel", "valueOf", "(IIZ)I"⟩, 31), (⟨"TrajectoryRailsModel", "cell", "(III)I"⟩, 31), (⟨"TrajectoryRailsModel", "applies", "(I)Z"⟩, 31), (⟨"TrajectoryRailsModel", "holds", "(I)Z"⟩, 31), (⟨"TrajectoryRailsModel", "variable", "(I)Z"⟩, 31), (⟨"TrajectoryRailsModel", "all", "()I"⟩, 31), (⟨"TrajectoryRailsModel", "isPlace", "(II)Z"⟩, 31), (⟨"TrajectoryRailsModel", "kinds", "(I)I"⟩, 31)]
theorem lw_r4 : ∀ q ∈ lw_privs_4, lw_okq q := List.forall_mem_cons.mpr ⟨lw_p48, List.forall_mem_cons.mpr ⟨lw_p49, List.forall_mem_cons.mpr ⟨lw_p50, List.forall_mem_cons.mpr ⟨lw_p51, List.forall_mem_cons.mpr ⟨lw_p52, List.forall_mem_cons.mpr ⟨lw_p53, List.forall_mem_cons.mpr ⟨lw_p54, List.forall_mem_cons.mpr ⟨lw_p55, List.forall_mem_cons.mpr ⟨lw_p56, List.forall_mem_cons.mpr ⟨lw_p57, List.forall_mem_cons.mpr ⟨lw_p58, List.forall_mem_cons.mpr ⟨lw_p59, List.forall_mem_cons.mpr ⟨lw_p60, List.forall_mem_cons.mpr ⟨lw_p61, List.forall_mem_cons.mpr ⟨lw_p62, fun _ h => absurd h List.not_mem_nil⟩⟩⟩⟩⟩⟩⟩⟩⟩⟩⟩⟩⟩⟩⟩
def lw_privs : List (MethodName × Nat) := lw_privs_1 ++ (lw_privs_2 ++ (lw_privs_3 ++ (lw_privs_4)))
def lw_tbl : List Cond := k2_sels lw_privs ++ tables_1
theorem lw_privs_ok : ∀ q ∈ lw_privs, lw_okq q := by
  show ∀ q ∈ lw_privs_1 ++ (lw_privs_2 ++ (lw_privs_3 ++ (lw_privs_4))), lw_okq q
  exact List.forall_mem_append.mpr ⟨lw_r1, List.forall_mem_append.mpr ⟨lw_r2, List.forall_mem_append.mpr ⟨lw_r3, lw_r4⟩⟩⟩
-- ===== end of PART A; then your names; then what follows =====
/-! ===== BEGIN words of one list among another's, by their places ===== -/
theorem goodIn_r {big : List Cond} (ws : List Cond) (ps : List Nat) (hp : ws = ps.filterMap (fun i => big[i]?)) (h : ws.all goodWord = true) : GoodIn big ws := by
  intro w hw
  have h1 := List.all_eq_true.mp h w hw
  rw [hp] at hw
  obtain ⟨i, -, hi⟩ := List.mem_filterMap.mp hw
  have hm : w ∈ big := by first | exact List.mem_of_getElem? hi | exact List.getElem?_mem hi
  exact ⟨hm, good_of_word h1⟩
theorem goodIn_app {big a b : List Cond} (ha : GoodIn big a) (hb : GoodIn big b) : GoodIn big (a ++ b) := fun w h => (List.mem_append.mp h).elim (ha w) (hb w)
theorem goodIn_ca {big a b : List Cond} {c : Cond} (ha : GoodIn big (c :: a)) (hb : GoodIn big b) : GoodIn big (c :: (a ++ b)) := fun w h => (List.mem_cons.mp h).elim (fun e => ha w (List.mem_cons.mpr (Or.inl e))) (fun h => (List.mem_append.mp h).elim (fun h => ha w (List.mem_cons.mpr (Or.inr h))) (hb w))
theorem goodIn_sub {big ws : List Cond} (hm : ∀ w ∈ ws, w ∈ big) (h : ws.all goodWord = true) : GoodIn big ws := fun w hw => ⟨hm w hw, good_of_word (List.all_eq_true.mp h w hw)⟩
/-! ===== END ===== -/

/-! ===== BEGIN exceptions that leave a method, and their catching by the caller (launches without stack traces) ===== -/
section VXA
/-! The laws vx_back, vx_callV, vx_callS, vx_callSW, vx_throw0, vx_throwS follow proofs of the library, with one case more: JvmDerived/Free/Laws.lean (Back.of_free), Shelf42/LK1.lean (callV, callS), Shelf/KitTraced.lean (throwNew0V, throwNewS). -/
/-- where a method has thrown q: the class by its name, the cell, what was written, the world -/
def vx_T (XC : String → State → State → Prop) (st : State) (q : Addr) (t : State) (mc ms : Nat) (free : Addr → Prop) : Prop :=
  ∃ (E : String) (ce : Cell) (L : List Loc), XC E st t ∧ t.heap[q]? = some ce ∧ ce.vm = .none ∧ st.vm.findClass E = some ce.cls ∧ st.WarmedH t.vm ∧ st.sameButNew ({ t with vm := st.vm } : State) L mc ms ∧ ∀ z ∈ L, free z.base
def vx_Q (Qc : Array Value → State → Outcome → State → Prop) (XC : String → State → State → Prop) (mc ms : Nat) (free : Addr → Prop) : Array Value → State → Outcome → State → Prop := fun a st o t =>
  (Qc a st o t ∧ ∃ L, FrameEnd st o t L mc ms ∧ ∀ q ∈ L, free q.base) ∨ ∃ q, o = .threw q ∧ vx_T XC st q t mc ms free
/-- a callee that returns or throws -/
def vx_Met (l : Launch) (y : MethodName) (ws : List Cond) (rm : Room) (Pc : Array Value → State → Prop) (Qc : Array Value → State → Outcome → State → Prop) (XC : String → State → State → Prop) (mc ms : Nat) (free : Addr → Prop) : Prop :=
  MetFree l y (headSpec ws rm) Pc (fun _ _ _ _ _ => True) (vx_Q Qc XC mc ms free)
def vx_Post (XC : String → State → State → Prop) (mc ms : Nat) (free : Addr → Prop) : Pt → Array Value → Addr → Pt → Prop := fun A a q B =>
  ∃ (g : JFrame) (mk : MethodId) (t : State) (L : List Loc) (E : String) (ce : Cell), B.U.heap = t.heap ∧ B.U.vm = t.vm ∧ XC E (A.U.calling g mk a) t ∧ t.heap[q]? = some ce ∧ ce.vm = .none ∧ A.U.vm.findClass E = some ce.cls ∧ B.locs = A.locs ++ L ∧ (∀ z ∈ L, free z.base) ∧ B.cells = A.cells + mc ∧ B.slots = A.slots + ms
def vx_Back (l : Launch) (R : Room) (p : Program) (e : Env) (below : List Frame) (s : State) (sargs : Array Value) (y : MethodName) (len W9 : Nat)
    (Pre : Pt → Array Value → Prop) (Post : Pt → Array Value → Option Value → Pt → Prop) (PostX : Pt → Array Value → Addr → Pt → Prop) : Prop :=
  ∀ (m : MethodId) (meth : Method) (c : Code) (A : Pt) (g : JFrame) (ig : Instr) (mk : MethodId) (a : Array Value),
    Stand p l e R s m sargs below meth c A.U A.locs A.cells A.slots → g.method = m → g.locals.size = c.maxLocals → decode c.code g.pc = .ok (ig, len) →
    2 * g.monitorRoom + (g.stack.map fun v => v.category).sum ≤ W9 → A.U.methodNamed? y = some mk → Pre A a →
    (∃ (v : Option Value) (B : Pt), Stand p l e R s m sargs below meth c B.U B.locs B.cells B.slots ∧ Post A a v B ∧
      Steps p.tables e below (doInvoke e (A.U.setTop g) [] mk a).1 (B.U.setTop { g with pc := g.pc + len, stack := v.toList ++ g.stack })) ∨
    (∃ (q : Addr) (B : Pt), Stand p l e R s m sargs below meth c B.U B.locs B.cells B.slots ∧ PostX A a q B ∧
      Steps p.tables e below (doInvoke e (A.U.setTop g) [] mk a).1 ((B.U.setTop g).pushFrame (.throwing q)))
section Payer
variable {l : Launch} {R : Room} {p : Program} {e : Env} {below : List Frame} {s : State} {sargs : Array Value} {y : MethodName} {len W9 : Nat}
theorem vx_back {ws : List Cond} {rm : Room} {Pc : Array Value → State → Prop} {Qc : Array Value → State → Outcome → State → Prop} {XC : String → State → State → Prop} {mc ms : Nat} {free : Addr → Prop} {bytes : ByteArray} {maxL : Nat} {ret : Option FieldType}
    (hM : vx_Met l y ws rm Pc Qc XC mc ms free) (hblind : FrameBlind Pc) (hrc : rm.cells = mc) (hrs : rm.slots = ms)
    (hframes : rm.frames + 1 ≤ R.frames) (hlocals : W9 + (maxL + 11) + rm.locals ≤ R.locals)
    (hws : ∀ w ∈ ws, ∀ a' U, s.WarmedH U.vm → w.before a' U = true) (hcode : Cond.code y bytes maxL ret ∈ ws) (hinit : ∀ a' U, s.WarmedH U.vm → (Cond.initialized y.cls).before a' U = true) :
    vx_Back l R p e below s sargs y len W9 (PreOf R mc ms Pc) (PostOf Qc mc ms free) (vx_Post XC mc ms free) := by
  intro m meth c A g ig mk a X hg hsize hdg hW hn hp
  have h1 : (headSpec ws rm).pre.before a A.U = true := atoms_intro fun w hw => hws w hw _ _ X.warmed
  have h2 : (Cond.code y bytes maxL ret).before a A.U = true := hws _ hcode _ _ X.warmed
  have h3 : (Cond.initialized y.cls).before a A.U = true := hinit _ _ X.warmed
  have h4 : A.cells + (headSpec ws rm).room.cells ≤ R.cells := by rw [show (headSpec ws rm).room.cells = mc from hrc]; exact hp.1
  have h5 : A.slots + (headSpec ws rm).room.slots ≤ R.slots := by rw [show (headSpec ws rm).room.slots = ms from hrs]; exact hp.2.1
  have hPc : Pc a (A.U.calling g mk a) := hblind _ _ _ _ hp.2.2
  obtain ⟨U, Ls, c0, s0⟩ := A
  dsimp only [Pt.U, Pt.locs, Pt.cells, Pt.slots] at h1 h2 h3 h4 h5 X hn hPc ⊢
  obtain ⟨methY, cY, hmY, hcY, -, hlY, -, -, -, -⟩ := Cond.code_spec hn h2
  obtain ⟨kY, hkY, -⟩ := className_of_methodNamed hn
  have hinitY : kY.init = .initialized := Cond.initialized_spec (findClass_of_methodNamed hn) hkY h3
  have h : At U g.method c below := by rw [hg]; exact X.here
  have hlocals9 : W9 + (maxL + 11) + (headSpec ws rm).room.locals ≤ R.locals := hlocals
  have happ : (headSpec ws rm).appliesLoose y e.platform (U.calling g mk a) = true :=
    Spec.appliesLoose_calling (g := g) h hdg hn hkY hinitY
      (X.room_calling (g := g) (R' := (headSpec ws rm).room) hsize hmY hcY hframes (by rw [hlY]; omega) h4 h5) h1
  obtain ⟨mid, hmid⟩ := h.above
  have hfr : (U.setTop g).frames = (.java g :: mid) ++ below := by rw [State.frames_setTop' g h.top, hmid]; rfl
  obtain ⟨o, s₂, hsteps, -, hend, hq⟩ := Steps.callFree hM p X.admits X.cas X.clock (acts := []) hfr happ hPc trivial
  have hq' : vx_Q Qc XC mc ms free a (U.calling g mk a) o s₂ := hq
  rw [State.frames_setTop' g h.top] at hend
  obtain ⟨g₀, hg0⟩ := Option.isSome_iff_exists.mp h.top
  obtain ⟨r, hr⟩ := State.topJava?_eq_some.mp hg0
  have hr' : (({ U with heap := s₂.heap, slotsUsed := s₂.slotsUsed } : State).setVm s₂.vm).frames = .java g₀ :: r := hr
  rcases hq' with ⟨hqc, L, hfe, hL⟩ | ⟨q, rfl, E, ce, L, hx, hce, hcv, hcl, hW₂, hsm, hL⟩
  · obtain ⟨⟨v, rfl⟩, hW₂, e2, q2, q3, q4, q5, q6⟩ := id hfe
    have e3 : s₂ = ({ (U.calling g mk a).setFrames s₂.frames with heap := s₂.heap, slotsUsed := s₂.slotsUsed } : State).setVm s₂.vm := by
      have : s₂ = ({ s₂ with vm := (U.calling g mk a).vm } : State).setVm s₂.vm := rfl
      rw [e2] at this
      exact this
    obtain ⟨c₂, i₂, len₂, hc₂, hd₂, hf₂⟩ := hend
    have hW' : U.WarmedH s₂.vm := hW₂
    have hcc : c₂ = c := by
      have h1 : s₂.code? g.method = U.code? g.method := by
        rw [State.code?_eq, State.code?_eq, hW'.alike.method?]
      exact Option.some.inj (hc₂.symm.trans (h1.trans h.code))
    subst hcc
    have hlen : len₂ = len := by rw [hdg] at hd₂; cases hd₂; rfl
    subst hlen
    have hs₂ : s₂ = (({ U with heap := s₂.heap, slotsUsed := s₂.slotsUsed } : State).setVm s₂.vm).setTop { g with pc := g.pc + len₂, stack := v.toList ++ g.stack } := by
      refine e3.trans ?_
      rw [hf₂, State.calling_eq h.top, State.setFrames_setFrames, State.setTop_of_frames _ hr', hr]
      rfl
    have hsame : U.sameButNew ({ U with heap := s₂.heap, slotsUsed := s₂.slotsUsed } : State) L mc ms := by
      refine ⟨?_, q2, q3, q4, q5, q6⟩
      obtain ⟨t, ht, -⟩ := State.frames_cons hr
      show ({ U with heap := s₂.heap, slotsUsed := s₂.slotsUsed } : State) = { U.setFrames U.frames with heap := s₂.heap, slotsUsed := s₂.slotsUsed }
      rw [State.setFrames_self ht]
    subst hg
    refine Or.inl ⟨v, ⟨(({ U with heap := s₂.heap, slotsUsed := s₂.slotsUsed } : State).setVm s₂.vm), Ls ++ L, c0 + mc, s0 + ms⟩,
      ⟨X.admits, X.cas, X.clock, X.frames, X.room, X.hears, X.method, X.code, (X.here.setHeapUsed s₂.heap s₂.slotsUsed).setVm hW'.alike, X.tail, State.WarmedH.trans X.warmed hW', X.limits, X.bytes, X.same.trans (hsame.setVm s.vm)⟩,
      ⟨g, mk, s₂, L, rfl, rfl, hqc, rfl, hL, rfl, rfl⟩, ?_⟩
    show Steps p.tables e below _ ((({ U with heap := s₂.heap, slotsUsed := s₂.slotsUsed } : State).setVm s₂.vm).setTop { g with pc := g.pc + len₂, stack := v.toList ++ g.stack })
    rw [← hs₂]
    exact hsteps
  · obtain ⟨e2, q2, q3, q4, q5, q6⟩ := id hsm
    have e3 : s₂ = ({ (U.calling g mk a).setFrames s₂.frames with heap := s₂.heap, slotsUsed := s₂.slotsUsed } : State).setVm s₂.vm := by
      have : s₂ = ({ s₂ with vm := (U.calling g mk a).vm } : State).setVm s₂.vm := rfl
      rw [e2] at this
      exact this
    have hf₂ : s₂.frames = .throwing q :: .java g :: U.frames.tail := hend
    have hW' : U.WarmedH s₂.vm := hW₂
    have hs₂ : s₂ = ((({ U with heap := s₂.heap, slotsUsed := s₂.slotsUsed } : State).setVm s₂.vm).setTop g).pushFrame (.throwing q) := by
      refine e3.trans ?_
      rw [hf₂, State.calling_eq h.top, State.setFrames_setFrames, State.pushFrame, State.frames_setTop _ hr', State.setTop_of_frames _ hr', State.setFrames_setFrames, hr]
      rfl
    have hsame : U.sameButNew ({ U with heap := s₂.heap, slotsUsed := s₂.slotsUsed } : State) L mc ms := by
      refine ⟨?_, q2, q3, q4, q5, q6⟩
      obtain ⟨t, ht, -⟩ := State.frames_cons hr
      show ({ U with heap := s₂.heap, slotsUsed := s₂.slotsUsed } : State) = { U.setFrames U.frames with heap := s₂.heap, slotsUsed := s₂.slotsUsed }
      rw [State.setFrames_self ht]
    subst hg
    refine Or.inr ⟨q, ⟨(({ U with heap := s₂.heap, slotsUsed := s₂.slotsUsed } : State).setVm s₂.vm), Ls ++ L, c0 + mc, s0 + ms⟩,
      ⟨X.admits, X.cas, X.clock, X.frames, X.room, X.hears, X.method, X.code, (X.here.setHeapUsed s₂.heap s₂.slotsUsed).setVm hW'.alike, X.tail, State.WarmedH.trans X.warmed hW', X.limits, X.bytes, X.same.trans (hsame.setVm s.vm)⟩,
      ⟨g, mk, s₂, L, E, ce, rfl, rfl, hx, hce, hcv, hcl, rfl, hL, rfl, rfl⟩, ?_⟩
    show Steps p.tables e below _ (((({ U with heap := s₂.heap, slotsUsed := s₂.slotsUsed } : State).setVm s₂.vm).setTop g).pushFrame (.throwing q))
    rw [← hs₂]
    exact hsteps
end Payer
section Calls
variable {p : Program} {l : Launch} {e : Env} {R : Room} {s : State} {m : MethodId} {args : Array Value} {below : List Frame} {meth : Method} {c : Code} {T : State} {locs : List Loc} {cells slots : Nat}
theorem vx_callV (X : Stand p l e R s m args below meth c T locs cells slots) (hexec : p.tables.exec = Jvm.exec) {own C : String} {index : Nat} {y : MethodName} {bytes : ByteArray} {maxL : Nat} {ret : Option FieldType}
    (hown : s.vm.findClass own = some m.cls) (hlink : (Cond.methodLink own index y).before args s = true) (hinst : (Cond.instanceMethod y).before args s = true) (hsel : (Cond.selects C y y).before args s = true)
    (hcode : (Cond.code y bytes maxL ret).before args s = true) (hy : y.cls ≠ "java/lang/invoke/MethodHandle" ∧ y.cls ≠ "java/lang/invoke/VarHandle")
    {W9 : Nat} {Pre : Pt → Array Value → Prop} {Post : Pt → Array Value → Option Value → Pt → Prop} {PostX : Pt → Array Value → Addr → Pt → Prop} (hK : vx_Back l R p e below s args y 3 W9 Pre Post PostX)
    {b : Addr} {cellB : Cell} (hcell : T.heap[b]? = some cellB) (hobj : cellB.vm.isStatics = false) (hcls : s.vm.findClass C = some cellB.cls)
    {g : JFrame} (hg : g.method = m) (hsize : g.locals.size = c.maxLocals) {argsL rest : List Value} (hlen : ∀ sig, parseMethodDescriptor y.desc = some sig → argsL.length = sig.parameters.length)
    (hstack : g.stack = argsL.reverse ++ .ref b :: rest) (hW : 2 * g.monitorRoom + (rest.map fun v => v.category).sum ≤ W9) (hdg : decode c.code g.pc = .ok (.invokevirtual index, 3))
    (hpre : ∀ vm₁, s.WarmedH vm₁ → Pre ⟨T.setVm vm₁, locs, cells, slots⟩ (Value.ref b :: argsL).toArray) :
    (∃ (v : Option Value) (vm₁ : Vm) (B : Pt), s.WarmedH vm₁ ∧ Stand p l e R s m args below meth c B.U B.locs B.cells B.slots ∧ Post ⟨T.setVm vm₁, locs, cells, slots⟩ (Value.ref b :: argsL).toArray v B ∧
      ∀ target, Steps p.tables e below (B.U.setTop { g with pc := g.pc + 3, stack := v.toList ++ rest }) target → Steps p.tables e below (T.setTop g) target) ∨
    (∃ (q : Addr) (vm₁ : Vm) (B : Pt), s.WarmedH vm₁ ∧ Stand p l e R s m args below meth c B.U B.locs B.cells B.slots ∧ PostX ⟨T.setVm vm₁, locs, cells, slots⟩ (Value.ref b :: argsL).toArray q B ∧
      Steps p.tables e below (T.setTop g) ((B.U.setTop { g with stack := rest }).pushFrame (.throwing q))) := by
  obtain ⟨mk, methM, hnamed, hmethM, hstM, habM⟩ := Cond.instanceMethod_spec hinst
  obtain ⟨methM', cM, hmethM', -, -, -, -, -, -, hsigM⟩ := Cond.code_spec hnamed hcode
  cases hmethM.symm.trans hmethM'
  obtain ⟨c2, r2, m2, q1, q2, q3, q4, kP, hkP, hkPi⟩ := Cond.selects_spec hsel
  cases hcls.symm.trans q1
  cases (State.methodFound?_of_named hnamed hy).symm.trans q2
  cases hnamed.symm.trans q3
  have hselP : selectMethod e.platform s.vm cellB.cls mk = .method mk := by rw [Launch.admits_selectMethod X.admits]; exact q4
  obtain ⟨vm₁, X₁, hstep₁⟩ := X.invokevirtual hexec hown hlink hnamed hmethM hstM hkP hkPi hy (a := b) (cell := cellB) hcell
    (fun z h => by rw [h] at hobj; cases hobj) hselP hmethM habM hkP hkPi (g := g) hg (argsL := argsL) (rest := rest) (hlen _ hsigM) hstack hdg
  rcases hK m meth c ⟨T.setVm vm₁, locs, cells, slots⟩ { g with stack := rest } (.invokevirtual index) mk (Value.ref b :: argsL).toArray X₁ hg hsize hdg hW (X₁.named hnamed) (hpre vm₁ X₁.warmed) with ⟨v, B, X', hpost, hsteps⟩ | ⟨q, B, X', hpost, hsteps⟩
  · exact Or.inl ⟨v, vm₁, B, X₁.warmed, X', hpost, fun target h => hstep₁ _ fun acts => by rw [doInvoke_state]; exact hsteps.trans h⟩
  · exact Or.inr ⟨q, vm₁, B, X₁.warmed, X', hpost, hstep₁ _ fun acts => by rw [doInvoke_state]; exact hsteps⟩
theorem vx_callS (X : Stand p l e R s m args below meth c T locs cells slots) (hexec : p.tables.exec = Jvm.exec) {own : String} {index : Nat} {y : MethodName} {bytes : ByteArray} {maxL : Nat} {ret : Option FieldType}
    (hown : s.vm.findClass own = some m.cls) (hlink : (Cond.methodLink own index y).before args s = true) (hstat : (Cond.static y).before args s = true) (hinit : (Cond.initialized y.cls).before args s = true)
    (hcode : (Cond.code y bytes maxL ret).before args s = true) (hy : y.cls ≠ "java/lang/invoke/MethodHandle" ∧ y.cls ≠ "java/lang/invoke/VarHandle")
    {W9 : Nat} {Pre : Pt → Array Value → Prop} {Post : Pt → Array Value → Option Value → Pt → Prop} {PostX : Pt → Array Value → Addr → Pt → Prop} (hK : vx_Back l R p e below s args y 3 W9 Pre Post PostX)
    {g : JFrame} (hg : g.method = m) (hsize : g.locals.size = c.maxLocals) {argsL rest : List Value} (hlen : ∀ sig, parseMethodDescriptor y.desc = some sig → argsL.length = sig.parameters.length)
    (hstack : g.stack = argsL.reverse ++ rest) (hW : 2 * g.monitorRoom + (rest.map fun v => v.category).sum ≤ W9) (hdg : decode c.code g.pc = .ok (.invokestatic index, 3))
    (hpre : ∀ vm₁, s.WarmedH vm₁ → Pre ⟨T.setVm vm₁, locs, cells, slots⟩ argsL.toArray) :
    (∃ (v : Option Value) (vm₁ : Vm) (B : Pt), s.WarmedH vm₁ ∧ Stand p l e R s m args below meth c B.U B.locs B.cells B.slots ∧ Post ⟨T.setVm vm₁, locs, cells, slots⟩ argsL.toArray v B ∧
      ∀ target, Steps p.tables e below (B.U.setTop { g with pc := g.pc + 3, stack := v.toList ++ rest }) target → Steps p.tables e below (T.setTop g) target) ∨
    (∃ (q : Addr) (vm₁ : Vm) (B : Pt), s.WarmedH vm₁ ∧ Stand p l e R s m args below meth c B.U B.locs B.cells B.slots ∧ PostX ⟨T.setVm vm₁, locs, cells, slots⟩ argsL.toArray q B ∧
      Steps p.tables e below (T.setTop g) ((B.U.setTop { g with stack := rest }).pushFrame (.throwing q))) := by
  obtain ⟨mk, hnamed⟩ := Cond.code_named hcode
  obtain ⟨methM, cM, hmethM, -, -, -, -, -, -, hsigM⟩ := Cond.code_spec hnamed hcode
  have hstatic : methM.isStatic = true := Cond.static_spec hnamed hmethM hstat
  obtain ⟨kP, hkP, -⟩ := className_of_methodNamed hnamed
  have hinitP : kP.init = .initialized := Cond.initialized_spec (findClass_of_methodNamed hnamed) hkP hinit
  obtain ⟨vm₁, X₁, hstep₁⟩ := X.invokestatic hexec hown hlink hnamed hmethM hstatic hkP hinitP hy (g := g) hg (argsL := argsL) (rest := rest) (hlen _ hsigM) hstack hdg
  rcases hK m meth c ⟨T.setVm vm₁, locs, cells, slots⟩ { g with stack := rest } (.invokestatic index) mk argsL.toArray X₁ hg hsize hdg hW (X₁.named hnamed) (hpre vm₁ X₁.warmed) with ⟨v, B, X', hpost, hsteps⟩ | ⟨q, B, X', hpost, hsteps⟩
  · exact Or.inl ⟨v, vm₁, B, X₁.warmed, X', hpost, fun target h => hstep₁ _ fun acts => by rw [doInvoke_state]; exact hsteps.trans h⟩
  · exact Or.inr ⟨q, vm₁, B, X₁.warmed, X', hpost, hstep₁ _ fun acts => by rw [doInvoke_state]; exact hsteps⟩
end Calls
theorem vx_cls {s : State} {T : State} {vm₁ : Vm} {E : String} {k : ClassId} (hW : s.WarmedH vm₁) (h : (T.setVm vm₁).vm.findClass E = some k) : s.vm.findClass E = some k := by
  have h1 : vm₁.findClass E = some k := h
  rw [hW.alike.findClass] at h1
  exact h1
/-- the method's frame g, with q thrown over it -/
def vx_W (p : Program) (l : Launch) (e : Env) (R : Room) (s : State) (m : MethodId) (args : Array Value) (below : List Frame) (meth : Method) (c : Code) (H : Heap) (locs : List Loc) (cells slots : Nat) (Q : State → Prop) (g : JFrame) (q : Addr) : Prop :=
  ∀ T : State, T.heap = H → Stand p l e R s m args below meth c T locs cells slots → ∃ t, Steps p.tables e below ((T.setTop g).pushFrame (.throwing q)) t ∧ Q t
def vx_Run (p : Program) (l : Launch) (e : Env) (R : Room) (s : State) (m : MethodId) (args : Array Value) (below : List Frame) (meth : Method) (c : Code) (H : Heap) (locs : List Loc) (cells slots mc ms : Nat) (g : JFrame) (rest : List Value) (Qa : State → Outcome → State → Prop) (XC : String → State → State → Prop) (free : Addr → Prop) : Prop :=
  ∀ T : State, T.heap = H → Stand p l e R s m args below meth c T locs cells slots →
    (∃ (v : Option Value) (st₀ t T' : State) (L : List Loc), st₀.heap = H ∧ Stand p l e R s m args below meth c T' (locs ++ L) (cells + mc) (slots + ms) ∧ (∀ q ∈ L, free q.base) ∧ T'.heap = t.heap ∧ T'.vm = t.vm ∧ Qa st₀ (.returned v) t ∧
      Goes p e below T g T' { g with pc := g.pc + 3, stack := v.toList ++ rest }) ∨
    (∃ (q : Addr) (st₀ t T' : State) (L : List Loc) (E : String) (ce : Cell), st₀.heap = H ∧ Stand p l e R s m args below meth c T' (locs ++ L) (cells + mc) (slots + ms) ∧ (∀ z ∈ L, free z.base) ∧ T'.heap = t.heap ∧ T'.vm = t.vm ∧ XC E st₀ t ∧ t.heap[q]? = some ce ∧ ce.vm = .none ∧ s.vm.findClass E = some ce.cls ∧
      Steps p.tables e below (T.setTop g) ((T'.setTop { g with stack := rest }).pushFrame (.throwing q)))
def vx_X {S : Type} (px : S → Prop) (B : String → S → State → Prop) (A : Nat → Prop) : String → State → State → Prop := fun E st t => ∃ u : S, px u ∧ B E u t ∧ va_F A st t
section Runs
variable {p : Program} {l : Launch} {e : Env} {R : Room} {s : State} {m : MethodId} {args : Array Value} {below : List Frame} {meth : Method} {c : Code} {H : Heap} {locs : List Loc} {cells slots : Nat}
variable {y : MethodName} {bytes cc : ByteArray} {maxL nL mc ms n index : Nat} {ret : Option FieldType} {ws : List Cond} {rm : Room} {Pc : Array Value → State → Prop} {Qc : Array Value → State → Outcome → State → Prop} {XC : String → State → State → Prop} {free : Addr → Prop} {Ts : List Cond} {own C : String} {b : Addr} {As rest : List Value} {g : JFrame}
theorem vx_callBack (cb : CallB R s args own index y bytes maxL ret ws rm mc ms n) (hM : vx_Met l y ws rm Pc Qc XC mc ms free) (hbl : FrameBlind Pc) : vx_Back l R p e below s args y 3 8 (PreOf R mc ms Pc) (PostOf Qc mc ms free) (vx_Post XC mc ms free) := by
  obtain ⟨hrc, hrs, hfr, hlo, hws, hcw, -, hini, -⟩ := cb
  exact vx_back (bytes := bytes) (maxL := maxL) (ret := ret) hM hbl hrc hrs hfr hlo hws hcw (fun a' U hW => word_at hW (Or.inl (by first | rfl | simp [Cond.onTables, Cond.keeps, Cond.steady])) hini)
theorem vx_runV (S : CallFix p m c cc nL s args Ts own) (hM : vx_Met l y ws rm Pc Qc XC mc ms free) (cw : CallW R s args own C index y bytes maxL ret ws rm mc ms n) (hp : PreV s H C b Pc As)
    (hg : g.method = m) (hn : As.length = n) (hsize : g.locals.size = nL) (hstack : g.stack = As.reverse ++ .ref b :: rest) (hW : 2 * g.monitorRoom + (rest.map fun v => v.category).sum ≤ 8) (hdg : decode cc g.pc = .ok (.invokevirtual index, 3)) (hf : cells + mc ≤ R.cells ∧ slots + ms ≤ R.slots) :
    vx_Run p l e R s m args below meth c H locs cells slots mc ms g rest (Qc (Value.ref b :: As).toArray) XC free := by
  have hK : vx_Back l R p e below s args y 3 8 (PreOf R mc ms Pc) (PostOf Qc mc ms free) (vx_Post XC mc ms free) := vx_callBack cw.1 hM hp.1
  obtain ⟨⟨-, -, -, -, -, -, hcode, -, hy, hlen, hl⟩, hin, hse⟩ := cw
  obtain ⟨hx, hb, hml, ho, -⟩ := S
  obtain ⟨-, ⟨cellB, hcB, hoB, hclB⟩, hPc⟩ := hp
  intro T hT X
  rcases vx_callV X hx (C := C) (bytes := bytes) (maxL := maxL) (ret := ret) ho hl hin hse hcode hy hK (by rw [hT]; exact hcB) hoB hclB hg (hsize.trans hml.symm) (argsL := As) (rest := rest) (fun sig h => hn.trans (hlen sig h)) hstack hW (by rw [hb]; exact hdg)
    (fun vm₁ hW₁ => ⟨hf.1, hf.2, hPc (T.setVm vm₁) hT hW₁⟩) with ⟨v, vm₁, ⟨U', l2, c2, s2⟩, hW₁, X', ⟨g', mk, t, L, e1, e2, hq, h1, hL, h2, h3⟩, st⟩ | ⟨q, vm₁, ⟨U', l2, c2, s2⟩, hW₁, X', ⟨g', mk, t, L, E, ce, e1, e2, hq, hce, hcv, hcl, h1, hL, h2, h3⟩, st⟩
  · dsimp only [Pt.U, Pt.locs, Pt.cells, Pt.slots] at X' e1 e2 h1 h2 h3 st
    subst h1; subst h2; subst h3
    exact Or.inl ⟨v, (T.setVm vm₁).calling g' mk (Value.ref b :: As).toArray, t, U', L, hT, X', hL, e1, e2, hq, st⟩
  · dsimp only [Pt.U, Pt.locs, Pt.cells, Pt.slots] at X' e1 e2 h1 h2 h3 st hcl
    subst h1; subst h2; subst h3
    exact Or.inr ⟨q, (T.setVm vm₁).calling g' mk (Value.ref b :: As).toArray, t, U', L, E, ce, hT, X', hL, e1, e2, hq, hce, hcv, vx_cls hW₁ hcl, st⟩
theorem vx_runS (S : CallFix p m c cc nL s args Ts own) (hM : vx_Met l y ws rm Pc Qc XC mc ms free) (cw : CallB R s args own index y bytes maxL ret ws rm mc ms n ∧ (Cond.static y).before args s = true) (hp : PreS s H Pc As)
    (hg : g.method = m) (hn : As.length = n) (hsize : g.locals.size = nL) (hstack : g.stack = As.reverse ++ rest) (hW : 2 * g.monitorRoom + (rest.map fun v => v.category).sum ≤ 8) (hdg : decode cc g.pc = .ok (.invokestatic index, 3)) (hf : cells + mc ≤ R.cells ∧ slots + ms ≤ R.slots) :
    vx_Run p l e R s m args below meth c H locs cells slots mc ms g rest (Qc As.toArray) XC free := by
  have hK : vx_Back l R p e below s args y 3 8 (PreOf R mc ms Pc) (PostOf Qc mc ms free) (vx_Post XC mc ms free) := vx_callBack cw.1 hM hp.1
  obtain ⟨⟨-, -, -, -, -, -, hcode, hini, hy, hlen, hl⟩, hstt⟩ := cw
  obtain ⟨hx, hb, hml, ho, -⟩ := S
  intro T hT X
  rcases vx_callS X hx (bytes := bytes) (maxL := maxL) (ret := ret) ho hl hstt hini hcode hy hK hg (hsize.trans hml.symm) (argsL := As) (rest := rest) (fun sig h => hn.trans (hlen sig h)) hstack hW (by rw [hb]; exact hdg)
    (fun vm₁ hW₁ => ⟨hf.1, hf.2, hp.2 (T.setVm vm₁) hT hW₁⟩) with ⟨v, vm₁, ⟨U', l2, c2, s2⟩, hW₁, X', ⟨g', mk, t, L, e1, e2, hq, h1, hL, h2, h3⟩, st⟩ | ⟨q, vm₁, ⟨U', l2, c2, s2⟩, hW₁, X', ⟨g', mk, t, L, E, ce, e1, e2, hq, hce, hcv, hcl, h1, hL, h2, h3⟩, st⟩
  · dsimp only [Pt.U, Pt.locs, Pt.cells, Pt.slots] at X' e1 e2 h1 h2 h3 st
    subst h1; subst h2; subst h3
    exact Or.inl ⟨v, (T.setVm vm₁).calling g' mk As.toArray, t, U', L, hT, X', hL, e1, e2, hq, st⟩
  · dsimp only [Pt.U, Pt.locs, Pt.cells, Pt.slots] at X' e1 e2 h1 h2 h3 st hcl
    subst h1; subst h2; subst h3
    exact Or.inr ⟨q, (T.setVm vm₁).calling g' mk As.toArray, t, U', L, E, ce, hT, X', hL, e1, e2, hq, hce, hcv, vx_cls hW₁ hcl, st⟩
end Runs
section Rows
variable {p : Program} {l : Launch} {e : Env} {R : Room} {s : State} {m : MethodId} {args : Array Value} {below : List Frame} {meth : Method} {c : Code} {H : Heap} {locs : List Loc} {cells slots : Nat} {Q : State → Prop}
variable {mc ms : Nat} {free : Addr → Prop} {A0 A1 : Nat → Prop} {H0 : Heap} {a : Array Value} {pc : Nat} {ls : Array Slot} {st0 rest : List Value}
theorem vx_keep {st₀ t T' : State} {L : List Loc} (h0 : st₀.heap = H) (e1 : T'.heap = t.heap) (hS : va_S A0 H0 H locs) (hA : ∀ q, q < H.size → A1 q → A0 q) (hf : ∀ q, free q → A0 q) (hL : ∀ q ∈ L, free q.base) (hF : va_F A1 st₀ t) :
    H.size ≤ T'.heap.size ∧ (∀ q : Nat, q < H.size → ¬ A1 q → T'.heap[q]? = H[q]?) ∧ va_S A0 H0 T'.heap (locs ++ L) := by
  obtain ⟨hz, hk⟩ := hF
  rw [h0] at hz hk
  exact ⟨by rw [e1]; exact hz, fun q h1 h2 => by rw [e1]; exact hk q h1 h2,
    ⟨Nat.le_trans hS.1 (by rw [e1]; exact hz), fun q h1 h2 => by rw [e1, hk q (Nat.lt_of_lt_of_le h1 hS.1) (fun z => h2 (hA q (Nat.lt_of_lt_of_le h1 hS.1) z))]; exact hS.2.1 q h1 h2, fun q hq => by
      rcases List.mem_append.mp hq with h | h
      · exact hS.2.2 q h
      · exact hf _ (hL q h)⟩⟩
theorem vx_calli {S SX : Type} {post : Int32 → S → Prop} {px : SX → Prop} {B : S → State → Prop} {BX : String → SX → State → Prop} {AX : Nat → Prop} (hr : vx_Run p l e R s m args below meth c H locs cells slots mc ms (F0 m pc ls st0) rest (va_Qi post B A1 a) (vx_X px BX AX) free) (hS : va_S A0 H0 H locs) (hA : ∀ q, q < H.size → A1 q → A0 q) (hf : ∀ q, free q → A0 q) (hAX : ∀ q, q < H.size → AX q → A0 q)
    (kx : ∀ (E : String) (ce : Cell) (q9 : Addr) (u : SX) (t : State) (H1 : Heap) (locs1 : List Loc), t.heap = H1 → s.vm.Alike t.vm → px u → BX E u t → H.size ≤ H1.size → (∀ q : Nat, q < H.size → ¬ AX q → H1[q]? = H[q]?) → va_S A0 H0 H1 locs1 → H1[q9]? = some ce → ce.vm = .none → s.vm.findClass E = some ce.cls → vx_W p l e R s m args below meth c H1 locs1 (cells + mc) (slots + ms) Q (F0 m pc ls rest) q9)
    (kk : ∀ (r : Int32) (u : S) (t : State) (H1 : Heap) (locs1 : List Loc), t.heap = H1 → s.vm.Alike t.vm → post r u → B u t → H.size ≤ H1.size → (∀ q : Nat, q < H.size → ¬ A1 q → H1[q]? = H[q]?) → va_S A0 H0 H1 locs1 → W p l e R s m args below meth c H1 locs1 (cells + mc) (slots + ms) Q (F0 m (pc + 3) ls (.int r :: rest))) : W p l e R s m args below meth c H locs cells slots Q (F0 m pc ls st0) := by
  intro T hT X
  rcases hr T hT X with ⟨v, st₀, t, T', L, h0, X', hL, e1, e2, ⟨⟨r, u, hv, hp, hb⟩, hF⟩, st⟩ | ⟨q, st₀, t, T', L, E, ce, h0, X', hL, e1, e2, ⟨u, hp, hb, hF⟩, hce, hcv, hcl, st⟩
  · cases hv
    obtain ⟨k1, k2, k3⟩ := vx_keep h0 e1 hS hA hf hL hF
    obtain ⟨t2, a1, b1⟩ := kk r u t T'.heap (locs ++ L) e1.symm (by rw [← e2]; exact X'.warmed.alike) hp hb k1 k2 k3 T' rfl X'
    exact ⟨t2, st t2 a1, b1⟩
  · obtain ⟨k1, k2, k3⟩ := vx_keep h0 e1 hS hAX hf hL hF
    obtain ⟨t2, a1, b1⟩ := kx E ce q u t T'.heap (locs ++ L) e1.symm (by rw [← e2]; exact X'.warmed.alike) hp hb k1 k2 k3 (by rw [e1]; exact hce) hcv hcl T' rfl X'
    exact ⟨t2, st.trans a1, b1⟩
theorem vx_calll {S SX : Type} {post : Int64 → S → Prop} {px : SX → Prop} {B : S → State → Prop} {BX : String → SX → State → Prop} {AX : Nat → Prop} (hr : vx_Run p l e R s m args below meth c H locs cells slots mc ms (F0 m pc ls st0) rest (va_Ql post B A1 a) (vx_X px BX AX) free) (hS : va_S A0 H0 H locs) (hA : ∀ q, q < H.size → A1 q → A0 q) (hf : ∀ q, free q → A0 q) (hAX : ∀ q, q < H.size → AX q → A0 q)
    (kx : ∀ (E : String) (ce : Cell) (q9 : Addr) (u : SX) (t : State) (H1 : Heap) (locs1 : List Loc), t.heap = H1 → s.vm.Alike t.vm → px u → BX E u t → H.size ≤ H1.size → (∀ q : Nat, q < H.size → ¬ AX q → H1[q]? = H[q]?) → va_S A0 H0 H1 locs1 → H1[q9]? = some ce → ce.vm = .none → s.vm.findClass E = some ce.cls → vx_W p l e R s m args below meth c H1 locs1 (cells + mc) (slots + ms) Q (F0 m pc ls rest) q9)
    (kk : ∀ (r : Int64) (u : S) (t : State) (H1 : Heap) (locs1 : List Loc), t.heap = H1 → s.vm.Alike t.vm → post r u → B u t → H.size ≤ H1.size → (∀ q : Nat, q < H.size → ¬ A1 q → H1[q]? = H[q]?) → va_S A0 H0 H1 locs1 → W p l e R s m args below meth c H1 locs1 (cells + mc) (slots + ms) Q (F0 m (pc + 3) ls (.long r :: rest))) : W p l e R s m args below meth c H locs cells slots Q (F0 m pc ls st0) := by
  intro T hT X
  rcases hr T hT X with ⟨v, st₀, t, T', L, h0, X', hL, e1, e2, ⟨⟨r, u, hv, hp, hb⟩, hF⟩, st⟩ | ⟨q, st₀, t, T', L, E, ce, h0, X', hL, e1, e2, ⟨u, hp, hb, hF⟩, hce, hcv, hcl, st⟩
  · cases hv
    obtain ⟨k1, k2, k3⟩ := vx_keep h0 e1 hS hA hf hL hF
    obtain ⟨t2, a1, b1⟩ := kk r u t T'.heap (locs ++ L) e1.symm (by rw [← e2]; exact X'.warmed.alike) hp hb k1 k2 k3 T' rfl X'
    exact ⟨t2, st t2 a1, b1⟩
  · obtain ⟨k1, k2, k3⟩ := vx_keep h0 e1 hS hAX hf hL hF
    obtain ⟨t2, a1, b1⟩ := kx E ce q u t T'.heap (locs ++ L) e1.symm (by rw [← e2]; exact X'.warmed.alike) hp hb k1 k2 k3 (by rw [e1]; exact hce) hcv hcl T' rfl X'
    exact ⟨t2, st.trans a1, b1⟩
theorem vx_callf {S SX : Type} {post : UInt32 → S → Prop} {px : SX → Prop} {B : S → State → Prop} {BX : String → SX → State → Prop} {AX : Nat → Prop} (hr : vx_Run p l e R s m args below meth c H locs cells slots mc ms (F0 m pc ls st0) rest (va_Qf post B A1 a) (vx_X px BX AX) free) (hS : va_S A0 H0 H locs) (hA : ∀ q, q < H.size → A1 q → A0 q) (hf : ∀ q, free q → A0 q) (hAX : ∀ q, q < H.size → AX q → A0 q)
    (kx : ∀ (E : String) (ce : Cell) (q9 : Addr) (u : SX) (t : State) (H1 : Heap) (locs1 : List Loc), t.heap = H1 → s.vm.Alike t.vm → px u → BX E u t → H.size ≤ H1.size → (∀ q : Nat, q < H.size → ¬ AX q → H1[q]? = H[q]?) → va_S A0 H0 H1 locs1 → H1[q9]? = some ce → ce.vm = .none → s.vm.findClass E = some ce.cls → vx_W p l e R s m args below meth c H1 locs1 (cells + mc) (slots + ms) Q (F0 m pc ls rest) q9)
    (kk : ∀ (r : UInt32) (u : S) (t : State) (H1 : Heap) (locs1 : List Loc), t.heap = H1 → s.vm.Alike t.vm → post r u → B u t → H.size ≤ H1.size → (∀ q : Nat, q < H.size → ¬ A1 q → H1[q]? = H[q]?) → va_S A0 H0 H1 locs1 → W p l e R s m args below meth c H1 locs1 (cells + mc) (slots + ms) Q (F0 m (pc + 3) ls (.float r :: rest))) : W p l e R s m args below meth c H locs cells slots Q (F0 m pc ls st0) := by
  intro T hT X
  rcases hr T hT X with ⟨v, st₀, t, T', L, h0, X', hL, e1, e2, ⟨⟨r, u, hv, hp, hb⟩, hF⟩, st⟩ | ⟨q, st₀, t, T', L, E, ce, h0, X', hL, e1, e2, ⟨u, hp, hb, hF⟩, hce, hcv, hcl, st⟩
  · cases hv
    obtain ⟨k1, k2, k3⟩ := vx_keep h0 e1 hS hA hf hL hF
    obtain ⟨t2, a1, b1⟩ := kk r u t T'.heap (locs ++ L) e1.symm (by rw [← e2]; exact X'.warmed.alike) hp hb k1 k2 k3 T' rfl X'
    exact ⟨t2, st t2 a1, b1⟩
  · obtain ⟨k1, k2, k3⟩ := vx_keep h0 e1 hS hAX hf hL hF
    obtain ⟨t2, a1, b1⟩ := kx E ce q u t T'.heap (locs ++ L) e1.symm (by rw [← e2]; exact X'.warmed.alike) hp hb k1 k2 k3 (by rw [e1]; exact hce) hcv hcl T' rfl X'
    exact ⟨t2, st.trans a1, b1⟩
theorem vx_calld {S SX : Type} {post : UInt64 → S → Prop} {px : SX → Prop} {B : S → State → Prop} {BX : String → SX → State → Prop} {AX : Nat → Prop} (hr : vx_Run p l e R s m args below meth c H locs cells slots mc ms (F0 m pc ls st0) rest (va_Qd post B A1 a) (vx_X px BX AX) free) (hS : va_S A0 H0 H locs) (hA : ∀ q, q < H.size → A1 q → A0 q) (hf : ∀ q, free q → A0 q) (hAX : ∀ q, q < H.size → AX q → A0 q)
    (kx : ∀ (E : String) (ce : Cell) (q9 : Addr) (u : SX) (t : State) (H1 : Heap) (locs1 : List Loc), t.heap = H1 → s.vm.Alike t.vm → px u → BX E u t → H.size ≤ H1.size → (∀ q : Nat, q < H.size → ¬ AX q → H1[q]? = H[q]?) → va_S A0 H0 H1 locs1 → H1[q9]? = some ce → ce.vm = .none → s.vm.findClass E = some ce.cls → vx_W p l e R s m args below meth c H1 locs1 (cells + mc) (slots + ms) Q (F0 m pc ls rest) q9)
    (kk : ∀ (r : UInt64) (u : S) (t : State) (H1 : Heap) (locs1 : List Loc), t.heap = H1 → s.vm.Alike t.vm → post r u → B u t → H.size ≤ H1.size → (∀ q : Nat, q < H.size → ¬ A1 q → H1[q]? = H[q]?) → va_S A0 H0 H1 locs1 → W p l e R s m args below meth c H1 locs1 (cells + mc) (slots + ms) Q (F0 m (pc + 3) ls (.double r :: rest))) : W p l e R s m args below meth c H locs cells slots Q (F0 m pc ls st0) := by
  intro T hT X
  rcases hr T hT X with ⟨v, st₀, t, T', L, h0, X', hL, e1, e2, ⟨⟨r, u, hv, hp, hb⟩, hF⟩, st⟩ | ⟨q, st₀, t, T', L, E, ce, h0, X', hL, e1, e2, ⟨u, hp, hb, hF⟩, hce, hcv, hcl, st⟩
  · cases hv
    obtain ⟨k1, k2, k3⟩ := vx_keep h0 e1 hS hA hf hL hF
    obtain ⟨t2, a1, b1⟩ := kk r u t T'.heap (locs ++ L) e1.symm (by rw [← e2]; exact X'.warmed.alike) hp hb k1 k2 k3 T' rfl X'
    exact ⟨t2, st t2 a1, b1⟩
  · obtain ⟨k1, k2, k3⟩ := vx_keep h0 e1 hS hAX hf hL hF
    obtain ⟨t2, a1, b1⟩ := kx E ce q u t T'.heap (locs ++ L) e1.symm (by rw [← e2]; exact X'.warmed.alike) hp hb k1 k2 k3 (by rw [e1]; exact hce) hcv hcl T' rfl X'
    exact ⟨t2, st.trans a1, b1⟩
theorem vx_callv {S SX : Type} {post : S → Prop} {px : SX → Prop} {B : S → State → Prop} {BX : String → SX → State → Prop} {AX : Nat → Prop} (hr : vx_Run p l e R s m args below meth c H locs cells slots mc ms (F0 m pc ls st0) rest (va_Qv post B A1 a) (vx_X px BX AX) free) (hS : va_S A0 H0 H locs) (hA : ∀ q, q < H.size → A1 q → A0 q) (hf : ∀ q, free q → A0 q) (hAX : ∀ q, q < H.size → AX q → A0 q)
    (kx : ∀ (E : String) (ce : Cell) (q9 : Addr) (u : SX) (t : State) (H1 : Heap) (locs1 : List Loc), t.heap = H1 → s.vm.Alike t.vm → px u → BX E u t → H.size ≤ H1.size → (∀ q : Nat, q < H.size → ¬ AX q → H1[q]? = H[q]?) → va_S A0 H0 H1 locs1 → H1[q9]? = some ce → ce.vm = .none → s.vm.findClass E = some ce.cls → vx_W p l e R s m args below meth c H1 locs1 (cells + mc) (slots + ms) Q (F0 m pc ls rest) q9)
    (kk : ∀ (u : S) (t : State) (H1 : Heap) (locs1 : List Loc), t.heap = H1 → s.vm.Alike t.vm → post u → B u t → H.size ≤ H1.size → (∀ q : Nat, q < H.size → ¬ A1 q → H1[q]? = H[q]?) → va_S A0 H0 H1 locs1 → W p l e R s m args below meth c H1 locs1 (cells + mc) (slots + ms) Q (F0 m (pc + 3) ls (rest))) : W p l e R s m args below meth c H locs cells slots Q (F0 m pc ls st0) := by
  intro T hT X
  rcases hr T hT X with ⟨v, st₀, t, T', L, h0, X', hL, e1, e2, ⟨⟨u, hv, hp, hb⟩, hF⟩, st⟩ | ⟨q, st₀, t, T', L, E, ce, h0, X', hL, e1, e2, ⟨u, hp, hb, hF⟩, hce, hcv, hcl, st⟩
  · cases hv
    obtain ⟨k1, k2, k3⟩ := vx_keep h0 e1 hS hA hf hL hF
    obtain ⟨t2, a1, b1⟩ := kk u t T'.heap (locs ++ L) e1.symm (by rw [← e2]; exact X'.warmed.alike) hp hb k1 k2 k3 T' rfl X'
    exact ⟨t2, st t2 a1, b1⟩
  · obtain ⟨k1, k2, k3⟩ := vx_keep h0 e1 hS hAX hf hL hF
    obtain ⟨t2, a1, b1⟩ := kx E ce q u t T'.heap (locs ++ L) e1.symm (by rw [← e2]; exact X'.warmed.alike) hp hb k1 k2 k3 (by rw [e1]; exact hce) hcv hcl T' rfl X'
    exact ⟨t2, st.trans a1, b1⟩
end Rows
section Ends
variable {p : Program} {l : Launch} {e : Env} {R : Room} {s : State} {m : MethodId} {args : Array Value} {below : List Frame} {meth : Method} {c : Code} {H : Heap} {locs : List Loc} {cells slots : Nat} {Q : State → Prop}
variable {mc ms : Nat} {free : Addr → Prop} {A0 A1 : Nat → Prop} {H0 : Heap} {a : Array Value} {ls : Array Slot} {st0 rest : List Value}
variable {Qc : Array Value → State → Outcome → State → Prop} {XC : String → State → State → Prop}
/-- what a body that may throw owes at its end -/
def vx_MQ (below : List Frame) (Qc : Array Value → State → Outcome → State → Prop) (XC : String → State → State → Prop) (a : Array Value) (s : State) (mc ms : Nat) (free : Addr → Prop) : State → Prop := fun t =>
  ∃ o, t.status = .running ∧ Ended t below o ∧ vx_Q Qc XC mc ms free a s o t
theorem vx_ret {g : JFrame} {mc ms : Nat} (k : W p l e R s m args below meth c H locs cells slots (MQ below Qc args s mc ms free) g) : W p l e R s m args below meth c H locs cells slots (vx_MQ below Qc XC args s mc ms free) g := by
  intro T hT X
  obtain ⟨t, a1, o, b1, b2, b3, b4⟩ := k T hT X
  exact ⟨t, a1, o, b1, b2, Or.inl ⟨b3, b4⟩⟩
/-- not caught here: it goes on to the caller -/
theorem vx_widen {g : JFrame} {q : Addr} {k n : Nat} (h1 : cells ≤ k) (h2 : slots ≤ n) (kk : vx_W p l e R s m args below meth c H locs k n Q g q) : vx_W p l e R s m args below meth c H locs cells slots Q g q := fun T hT X => kk T hT (stand_widen X h1 h2)
theorem vx_out {pc : Nat} {E : String} {ce : Cell} {q : Addr} {mc ms : Nat} (hout : ∀ x ∈ c.exceptionTable.toList, covers x pc = false) (hlocks : meth.locks = false) (hcell : H[q]? = some ce) (hv : ce.vm = .none) (hcl : s.vm.findClass E = some ce.cls)
    (hx : ∀ t : State, t.heap = H → s.vm.Alike t.vm → XC E s t) (hf : ∀ z ∈ locs, free z.base) (hc : cells ≤ mc) (hs : slots ≤ ms) :
    vx_W p l e R s m args below meth c H locs cells slots (vx_MQ below Qc XC args s mc ms free) (F0 m pc ls rest) q := by
  intro T hT X
  obtain ⟨st1, hrun, hend, hW, hsm⟩ := X.leaveThrown q (g := F0 m pc ls rest) rfl rfl rfl hout hlocks
  have hcell9 : (T.setFrames (.throwing q :: below)).heap[q]? = some ce := by
    show T.heap[q]? = some ce
    rw [hT]; exact hcell
  exact ⟨_, st1, .threw q, hrun, hend, Or.inr ⟨q, rfl, E, ce, locs, hx _ hT hW.alike, hcell9, hv, hcl, hW, hsm.mono hc hs, hf⟩⟩
theorem vx_frame {U : State} {k n : Nat} (h : s.sameButNew ({ U with vm := s.vm } : State) locs k n) : s.heap.size ≤ U.heap.size ∧ ∀ q : Nat, q < s.heap.size → (∀ z ∈ locs, z.base ≠ q) → U.heap[q]? = s.heap[q]? := by
  obtain ⟨-, h2, -, -, -, h6⟩ := h
  refine ⟨h2, fun q hq hz => ?_⟩
  obtain ⟨c9, e1, e2, e3, e4⟩ := h6 q _ (Array.getElem?_eq_getElem hq)
  have hs : c9.slots = (s.heap[q]).slots := Array.ext_getElem? fun i => e4 i fun hm => hz _ hm rfl
  have h9 : c9 = s.heap[q] := by
    rw [hs] at e2
    exact e2
  have e5 : U.heap[q]? = some c9 := e1
  rw [e5, h9, Array.getElem?_eq_getElem hq]
/-- the words of a throw but the four that speak of the heap -/
def vx_no (w : Cond) : Bool := decide (w ≠ .isRef (.static Bundle.tN "UNASSIGNED_STACK" Bundle.steD)) && decide (w ≠ .isRef (.static Bundle.tN "SUPPRESSED_SENTINEL" Bundle.listD)) && decide (w ≠ .laysStatic Bundle.tN "UNASSIGNED_STACK" Bundle.steD) && decide (w ≠ .laysStatic Bundle.tN "SUPPRESSED_SENTINEL" Bundle.listD)
def vx_at0 (own : String) (ic : Nat) (X : String) (names : List String) : List Cond := (Bundle.ownAtoms0 own ic X names).filter vx_no
def vx_atS (own : String) (ic : Nat) (X : String) (names : List String) : List Cond := (Bundle.ownAtoms own ic X names).filter vx_no
/-- a word that the tables alone decide, or a good one -/
def vx_ot (w : Cond) : Bool := w.onTables || goodWord w
theorem vx_ot_at {args a' : Array Value} {s U : State} {w : Cond} (hW : s.WarmedH U.vm) (hvm : s.vm = U.vm) (hg : vx_ot w = true) (h : w.before args s = true) : w.before a' U = true := by
  simp only [vx_ot, Bool.or_eq_true] at hg
  rcases hg with hg | hg
  · exact va_tabs hg hvm h
  · exact word_at hW (good_of_word hg) h
/-- a list's words: the good ones out of the method's own list, the others by premises of their own -/
theorem vx_hat {args : Array Value} {s : State} {L B : List Cond} (h1 : ∀ w ∈ L.filter goodWord, w.before args s = true) (h2 : ∀ w ∈ L.filter (fun w => !goodWord w), w ∈ B) (h3 : ∀ w ∈ B, w.before args s = true) : ∀ w ∈ L, w.before args s = true := by
  intro w hw
  by_cases g : goodWord w = true
  · exact h1 w (List.mem_filter.mpr ⟨hw, g⟩)
  · refine h3 w (h2 w (List.mem_filter.mpr ⟨hw, ?_⟩))
    show (!goodWord w) = true
    cases hgw : goodWord w
    · rfl
    · exact absurd hgw g
theorem vx_c {args : Array Value} {s : State} {w : Cond} {B : List Cond} (h : w.before args s = true) (t : ∀ w ∈ B, w.before args s = true) : ∀ w' ∈ w :: B, w'.before args s = true := fun w' h' => (List.mem_cons.mp h').elim (fun e => by rw [e]; exact h) (t w')
theorem vx_n {args : Array Value} {s : State} : ∀ w ∈ ([] : List Cond), w.before args s = true := fun _ h => nomatch h
theorem vx_own {args : Array Value} {s : State} {L : List Cond} (h1 : ∀ w ∈ L.filter vx_no, w.before args s = true)
    (hU : (Cond.isRef (.static Bundle.tN "UNASSIGNED_STACK" Bundle.steD)).before args s = true) (hN : (Cond.isRef (.static Bundle.tN "SUPPRESSED_SENTINEL" Bundle.listD)).before args s = true)
    (lU : (Cond.laysStatic Bundle.tN "UNASSIGNED_STACK" Bundle.steD).before args s = true) (lN : (Cond.laysStatic Bundle.tN "SUPPRESSED_SENTINEL" Bundle.listD).before args s = true) : ∀ w ∈ L, w.before args s = true := by
  intro w hw
  by_cases e1 : w = .isRef (.static Bundle.tN "UNASSIGNED_STACK" Bundle.steD)
  · rw [e1]; exact hU
  · by_cases e2 : w = .isRef (.static Bundle.tN "SUPPRESSED_SENTINEL" Bundle.listD)
    · rw [e2]; exact hN
    · by_cases e3 : w = .laysStatic Bundle.tN "UNASSIGNED_STACK" Bundle.steD
      · rw [e3]; exact lU
      · by_cases e4 : w = .laysStatic Bundle.tN "SUPPRESSED_SENTINEL" Bundle.listD
        · rw [e4]; exact lN
        · exact h1 w (List.mem_filter.mpr ⟨hw, by unfold vx_no; rw [decide_eq_true e1, decide_eq_true e2, decide_eq_true e3, decide_eq_true e4]; rfl⟩)
/-- where a static field lies, its class's statics cell in H -/
def vx_L (C n d : String) (A : Nat → Prop) (U : State) (H : Heap) : Prop := ∃ (c : ClassId) (k : Class) (i : Nat) (f : Field) (a : Nat) (cell : Cell), U.vm.findClass C = some c ∧ U.fieldFound? C n d = some (c, k, i, f) ∧ f.isStatic = true ∧ k.statics = some a ∧ H[a]? = some cell ∧ cell.vm.isStatics = true ∧ cell.cls = c ∧ f.slot < cell.slots.size ∧ k.staticTypes[f.slot]? = some f.type ∧ ¬ A a
theorem vx_L.moved {C n d : String} {A : Nat → Prop} {u U : State} {H : Heap} (hvm : u.vm.Alike U.vm) (h : vx_L C n d A u H) : vx_L C n d A U H := by
  obtain ⟨c, k, i, f, a, cell, h1, h2, h3, h4, h5, h6, h7, h8, h9, h10⟩ := h
  obtain ⟨k', hi', he⟩ := State.fieldFound?_setVm hvm h2
  exact ⟨c, k', i, f, a, cell, by rw [hvm.findClass]; exact h1, hi', h3, by rw [he]; exact h4, h5, h6, h7, h8, by rw [he]; exact h9, h10⟩
theorem vx_L.kept {C n d : String} {A : Nat → Prop} {U : State} {H H1 : Heap} (h : vx_L C n d A U H) (hq : ∀ a : Nat, a < H.size → ¬ A a → H1[a]? = H[a]?) : vx_L C n d A U H1 := by
  obtain ⟨c, k, i, f, a, cell, h1, h2, h3, h4, h5, h6, h7, h8, h9, h10⟩ := h
  exact ⟨c, k, i, f, a, cell, h1, h2, h3, h4, by rw [hq a (Array.getElem?_eq_some_iff.mp h5).1 h10]; exact h5, h6, h7, h8, h9, h10⟩
theorem vx_L.narrow {C n d : String} {A B : Nat → Prop} {U : State} {H : Heap} (h : vx_L C n d A U H) (hAB : ∀ q, B q → A q) : vx_L C n d B U H := by
  obtain ⟨c, k, i, f, a, cell, h1, h2, h3, h4, h5, h6, h7, h8, h9, h10⟩ := h
  exact ⟨c, k, i, f, a, cell, h1, h2, h3, h4, h5, h6, h7, h8, h9, fun z => h10 (hAB _ z)⟩
theorem vx_L.word {C n d : String} {A : Nat → Prop} {s : State} {args : Array Value} (h : vx_L C n d A s s.heap) : (Cond.laysStatic C n d).before args s = true := by
  obtain ⟨c, k, i, f, a, cell, h1, h2, h3, h4, h5, h6, h7, h8, h9, -⟩ := h
  show (Cond.laysStatic C n d).holds args s none s [] = true
  exact Cond.laysStatic_of h1 h2 h3 h4 h5 h6 h7 h8 h9
/-- .. and what it holds: null or some reference -/
def vx_Zq (C n d : String) (A : Nat → Prop) (U : State) (H : Heap) : Prop := va_Zq C n d A U H ∧ vx_L C n d A U H
theorem vx_Zq.moved {C n d : String} {A : Nat → Prop} {u U : State} {H : Heap} (hvm : u.vm.Alike U.vm) (h : vx_Zq C n d A u H) : vx_Zq C n d A U H := ⟨va_Zq.moved hvm h.1, vx_L.moved hvm h.2⟩
theorem vx_Zq.kept {C n d : String} {A : Nat → Prop} {U : State} {H H1 : Heap} (h : vx_Zq C n d A U H) (hq : ∀ a : Nat, a < H.size → ¬ A a → H1[a]? = H[a]?) : vx_Zq C n d A U H1 := ⟨va_Zq.kept h.1 hq, vx_L.kept h.2 hq⟩
theorem vx_Zq.narrow {C n d : String} {A B : Nat → Prop} {U : State} {H : Heap} (h : vx_Zq C n d A U H) (hAB : ∀ q, B q → A q) : vx_Zq C n d B U H := ⟨va_Zq.narrow h.1 hAB, vx_L.narrow h.2 hAB⟩
theorem vx_Zqof {args : Array Value} {s : State} {C n d : String} {A : Nat → Prop} (hl : (Cond.laysStatic C n d).before args s = true) (hini : (Cond.initialized C).before args s = true) (h : (Cond.isRef (.static C n d)).before args s = true) (hA : ∀ a : Nat, a < s.heap.size → ¬ A a) : vx_Zq C n d A s s.heap := by
  refine ⟨va_Zqof hl hini h hA, ?_⟩
  obtain ⟨c, k, i, f, a, cell, h1, h2, h3, h4, h5, h6, h7, h8, h9⟩ := Cond.laysStatic_spec hl
  exact ⟨c, k, i, f, a, cell, h1, h2, h3, h4, h5, h6, h7, h8, h9, hA a (Array.getElem?_eq_some_iff.mp h5).1⟩
theorem vx_isRef {C n d : String} {v : Value} {A : Nat → Prop} {s : State} {args : Array Value} (h : va_Z C n d v A s s.heap) (hv : v.isRef = true) : (Cond.isRef (.static C n d)).before args s = true := by
  obtain ⟨cf, kf, fi, f, a, cell, h1, h2, h3, h4, h5, h6, h7, -⟩ := h
  have he : (Term.static C n d).eval args s none [] s = some v := by
    simp [Term.eval, State.fieldNamed?, h1, h2, h4, h5, h6, h7]
  simp only [Cond.before, Cond.holds, Cond.value, he]
  cases v <;> simp_all [Value.isRef]
theorem vx_isRefq {C n d : String} {A : Nat → Prop} {s : State} {args : Array Value} (h : va_Zq C n d A s s.heap) : (Cond.isRef (.static C n d)).before args s = true := by
  rcases h with h | ⟨t, h⟩
  · exact vx_isRef h rfl
  · exact vx_isRef h rfl
/-- the same frame, seen from here: as if the method were called anew in this heap -/
theorem vx_rebase {T : State} (X : Stand p l e R s m args below meth c T locs cells slots) {R' : Room} (hf : R'.frames ≤ R.frames) (hl : R'.locals ≤ R.locals) (hc : cells + R'.cells ≤ R.cells) (hs : slots + R'.slots ≤ R.slots) :
    Stand p l e R' ((T.setVm s.vm).setFrames (.invoking m args :: below)) m args below meth c T [] 0 0 := by
  have htop : (T.setVm s.vm).topJava?.isSome := X.here.top
  have hF : ((T.setVm s.vm).setFrames (.invoking m args :: below)).frames = .invoking m args :: below := State.frames_setFrames _ (State.cur_lt_of_top htop)
  obtain ⟨g₀, hg0⟩ := Option.isSome_iff_exists.mp htop
  obtain ⟨r, hr⟩ := State.topJava?_eq_some.mp hg0
  have hl9 : e.platform.stackLimits (T.setVm s.vm).me = e.platform.stackLimits s.me := X.limits
  have hb9 : (T.setVm s.vm).me.stackBytes = s.me.stackBytes := X.bytes
  refine ⟨X.admits, X.cas, X.clock, hF, ?_, X.hears, X.method, X.code, X.here, X.tail, X.warmed, ?_, ?_, ?_⟩
  · have h := X.room
    have hU : ((T.setVm s.vm).setFrames (.invoking m args :: below)).localsInUse = s.localsInUse := by
      rw [State.localsInUse_invoking hF (meth := meth) (c := c) X.method X.code, State.localsInUse_invoking X.frames X.method X.code]
    simp only [State.hasRoom, Bool.and_eq_true, decide_eq_true_eq] at h ⊢
    obtain ⟨⟨⟨⟨h1, h2, h3, h4, h5, h6⟩, h7⟩, h8⟩, h9⟩ := h
    rw [X.frames, List.length_cons] at h2 h3
    have q1 := X.heapSize
    have q2 := X.used
    simp only [hF, hU, List.length_cons, State.stackLimits_setFrames, State.stackBytes_setFrames, hl9, hb9]
    refine ⟨⟨⟨⟨by omega, by omega, by omega, by omega, by omega, h6⟩, ?_⟩, ?_⟩, X.book⟩
    · show T.heap.size + R'.cells ≤ e.platform.maxCells
      omega
    · show T.slotsUsed + R'.slots ≤ e.platform.maxSlots
      omega
  · rw [State.stackLimits_setFrames]; rfl
  · rw [State.stackBytes_setFrames]; rfl
  · refine ⟨?_, Nat.le_refl _, Nat.le_refl _, ?_, ?_, fun a c9 h9 => ⟨c9, h9, rfl, rfl, fun _ _ => rfl⟩⟩
    · obtain ⟨t, ht, -⟩ := State.frames_cons hr
      show T.setVm s.vm = { ((T.setVm s.vm).setFrames (.invoking m args :: below)).setFrames (T.setVm s.vm).frames with heap := T.heap, slotsUsed := T.slotsUsed }
      rw [State.setFrames_setFrames, State.setFrames_self ht]
      rfl
    · show T.slotsUsed = T.slotsUsed + ((T.heap.toList.drop T.heap.size).map (·.slots.size)).sum
      rw [List.drop_eq_nil_of_le (Nat.le_of_eq Array.length_toList)]
      rfl
    · show ((T.heap.toList.drop T.heap.size).map (·.slots.size)).sum ≤ 0
      rw [List.drop_eq_nil_of_le (Nat.le_of_eq Array.length_toList)]
      exact Nat.le_refl _
/-- 'throw new E()': new; dup; invokespecial; athrow -/
theorem vx_throw0 {cc : ByteArray} {pc : Nat} (hexec : p.tables.exec = Jvm.exec) (hb : c.code = cc) (hl : l.stackTraces = false) {own cls : String} {names : List String} {ik ic mc ms : Nat} {A : Nat → Prop}
    (hown : s.vm.findClass own = some m.cls) (hcls : Bundle.fit cls = true) (hnames : ∀ n ∈ names, Bundle.fit n = true)
    (hk : (Cond.classLink own ik cls).before args s = true) (hini : (Cond.initialized cls).before args s = true) (hat : ∀ w ∈ vx_at0 own ic cls names, w.before args s = true)
    (hgood : ∀ w ∈ Cond.classLink own ik cls :: Cond.initialized cls :: vx_at0 own ic cls names, vx_ot w = true)
    (hU : vx_Zq Bundle.tN "UNASSIGNED_STACK" Bundle.steD A s s.heap) (hN : vx_Zq Bundle.tN "SUPPRESSED_SENTINEL" Bundle.listD A s s.heap) (hS : va_S A s.heap H locs) (hsize : ls.size = c.maxLocals)
    (d0 : decode cc pc = .ok (.new ik, 3)) (d3 : decode cc (pc + 3) = .ok (.dup, 1)) (d4 : decode cc (pc + 4) = .ok (.invokespecial ic, 3)) (d7 : decode cc (pc + 7) = .ok (.athrow, 1))
    (hout : ∀ x ∈ c.exceptionTable.toList, covers x (pc + 7) = false)
    (hRframes : names.length + 3 < R.frames) (hRlocals : (rest.map fun v => v.category).sum + (13 * (names.length + 1) + 42) ≤ R.locals) (hRcells : cells + 1 ≤ R.cells) (hRslots : slots + 6 ≤ R.slots) (hlocks : meth.locks = false)
    (hx : ∀ t : State, s.vm.Alike t.vm → H.size ≤ t.heap.size → (∀ q : Nat, q < H.size → t.heap[q]? = H[q]?) → XC cls s t)
    (hf : ∀ z ∈ locs, free z.base) (hc : cells + 1 ≤ mc) (hs : slots + 6 ≤ ms) :
    W p l e R s m args below meth c H locs cells slots (vx_MQ below Qc XC args s mc ms free) (F0 m pc ls rest) := by
  intro T hT X
  have htr : e.platform.stackTraces = false := (show e.platform.stackTraces = l.stackTraces by rw [X.admits.platform]).trans hl
  have Y := vx_rebase X (R' := { frames := R.frames, locals := R.locals, cells := 1, slots := 6 }) (Nat.le_refl _) (Nat.le_refl _) hRcells hRslots
  obtain ⟨s', hA⟩ : ∃ z, z = (T.setVm s.vm).setFrames (.invoking m args :: below) := ⟨_, rfl⟩
  rw [← hA] at Y
  have hvm : s'.vm = s.vm := by rw [hA]; rfl
  have hhp : s'.heap = H := by rw [hA]; exact hT
  have hW0 : s.WarmedH s'.vm := by rw [hvm]; exact State.WarmedH.refl s
  have hat' : ∀ w ∈ vx_at0 own ic cls names, w.before args s' = true := fun w hw => vx_ot_at hW0 hvm.symm (hgood w (List.mem_cons_of_mem _ (List.mem_cons_of_mem _ hw))) (hat w hw)
  have hk' : (Cond.classLink own ik cls).before args s' = true := vx_ot_at hW0 hvm.symm (hgood _ List.mem_cons_self) hk
  have hini' : (Cond.initialized cls).before args s' = true := vx_ot_at hW0 hvm.symm (hgood _ (List.mem_cons_of_mem _ List.mem_cons_self)) hini
  have hU' : vx_Zq Bundle.tN "UNASSIGNED_STACK" Bundle.steD A s' s'.heap := by rw [hhp]; exact vx_Zq.moved hW0.alike (hU.kept hS.2.1)
  have hN' : vx_Zq Bundle.tN "SUPPRESSED_SENTINEL" Bundle.listD A s' s'.heap := by rw [hhp]; exact vx_Zq.moved hW0.alike (hN.kept hS.2.1)
  have h : ∀ w ∈ Bundle.ownAtoms0 own ic cls names, w.before args s' = true := vx_own hat' (vx_isRefq hU'.1) (vx_isRefq hN'.1) hU'.2.word hN'.2.word
  have hown' : s'.vm.findClass own = some m.cls := by rw [hvm]; exact hown
  have hins : (Cond.instantiable cls 6).before args s' = true := h _ (by simp [Bundle.ownAtoms0])
  obtain ⟨vm₁, cX, kX, hfX, hkX, -, -, X₁, st1⟩ := Y.newCold hexec (own := own) (C := cls) (index := ik) (n := 6) hown' hk' hins hini'
    (g := F0 m pc ls rest) rfl (by rw [hb]; exact d0) (Nat.le_refl _) (Nat.le_refl _)
  generalize hT1 : (T.setVm vm₁).pushCell { cls := cX, slots := kX.instanceTypes.map defaultValue, vm := .none } = T1 at X₁ st1
  have hcat : (Value.ref T.heap.size).category = 1 := rfl
  have hcellA : T1.heap[T.heap.size]? = some (freshCell cX kX) := by rw [← hT1]; exact State.heap_pushCell_size _ _
  have d3' : decode c.code (pc + 3) = .ok (.dup, 1) := by rw [hb]; exact d3
  obtain ⟨U, hsteps, hrun, hend, hW, hsame, ce, hce, hO⟩ := X₁.ctorThrow0 hexec htr (own := own) (cls := cls) (names := names) (ic := ic) hown' hcls hnames h (fun x hx => nomatch hx) hfX hkX hcellA (by rw [hhp, hT]; exact Nat.le_refl _)
    (g := { method := m, pc := pc + 4, locals := ls, stack := .ref T.heap.size :: .ref T.heap.size :: rest, locked := none }) rfl hsize rfl rfl (rest := rest) rfl
    (by rw [hb]; exact d4) (by rw [hb]; exact d7) hout hRframes (by simp only [List.map_cons, List.sum_cons, hcat]; omega) hlocks
  obtain ⟨f1, f2⟩ := vx_frame hsame
  rw [hhp] at f1 f2
  have hWs : s.WarmedH U.vm := State.WarmedH.trans hW0 hW
  have hcl : s.vm.findClass cls = some ce.cls := by
    have h9 := hO.cls
    rw [hvm] at h9
    exact h9
  have hall : s.sameButNew ({ U with vm := s.vm } : State) locs mc ms := by
    subst hA
    obtain ⟨e1, e2⟩ := hsame
    rw [State.setFrames_setFrames] at e1
    have h2 : (T.setVm s.vm).sameButNew ({ U with vm := s.vm } : State) [] (0 + 1) (0 + 6) := ⟨e1, e2⟩
    have h3 := X.same.trans h2
    rw [List.append_nil] at h3
    exact h3.mono hc hs
  refine ⟨U, ?_, .threw T.heap.size, hrun, hend, Or.inr ⟨T.heap.size, rfl, cls, ce, locs, hx U hWs.alike f1 (fun q hq => f2 q hq (fun z hz => nomatch hz)), hce, hO.vm, hcl, hWs, hall, hf⟩⟩
  refine st1 _ ?_
  show Steps p.tables e below (T1.setTop { method := m, pc := pc + 3, locals := ls, stack := .ref T.heap.size :: rest, locked := none }) _
  jvm_step X₁.here [X₁.here.top, hexec, d3', Value.category]
  exact hsteps
end Ends
section Bodies
variable {l : Launch}
theorem vx_ofW {y : MethodName} {ws ws' : List Cond} {rm : Room} {Pc : Array Value → State → Prop} {Qc : Array Value → State → Outcome → State → Prop} {XC : String → State → State → Prop} {mc ms : Nat} {free : Addr → Prop} {cc : ByteArray} {maxL : Nat} {ret : Option FieldType}
    (hy : plainName y.cls = true) (hw : ws = Cond.code y cc maxL ret :: ws')
    (body : ∀ p e s m args below meth c s₁, BodyLoose p l y (headSpec ws rm) cc maxL ret e s m args below meth c s₁ → c.maxLocals = maxL → (∀ x ∈ c.exceptionTable.toList, False) → Pc args s →
      W p l e (headSpec ws rm).room s m args below meth c s.heap [] 0 0 (vx_MQ below Qc XC args s mc ms free) (entryFrame m args maxL)) : vx_Met l y ws rm Pc Qc XC mc ms free := by
  refine MetFree.of_bodyS (code := cc) (maxLocals := maxL) (ret := ret) hy ?_ ?_
  · intro args s m h hn
    obtain ⟨meth, c, h1, h2, h3, h4, h5, h6, -, -⟩ := Cond.code_spec hn (atoms_spec (ws := ws) h _ (by rw [hw]; exact List.mem_cons_self))
    exact ⟨meth, c, h1, h2, h3, h4, h5, h6⟩
  · intro p e s m args below meth c s₁ B hml hP _
    have hh0 : s₁.heap = s.heap := by rw [B.state]; rfl
    have ht : ∀ x ∈ c.exceptionTable.toList, False := by
      obtain ⟨meth9, c9, h1, h2, -, -, -, -, h7, -⟩ := Cond.code_spec B.named (atoms_spec (ws := ws) B.pre _ (by rw [hw]; exact List.mem_cons_self))
      cases Option.some.inj (h1.symm.trans B.method)
      cases Option.some.inj (h2.symm.trans (Stand.of_body B).code)
      intro x hx
      rw [Array.isEmpty_iff.mp h7] at hx
      cases hx
    obtain ⟨t, a1, o, b1, b2, b3⟩ := body p e s m args below meth c s₁ B hml ht hP s₁ hh0 (Stand.of_body B)
    exact ⟨t, o, a1, b1, b2, b3⟩
/-- the table of a body with handlers -/
theorem vx_table {p : Program} {x y : MethodName} {S : Spec} {cc bytes : ByteArray} {maxL maxL' : Nat} {ret ret' : Option FieldType} {e : Env} {s s₁ : State} {m : MethodId} {args : Array Value} {below : List Frame} {meth : Method} {c : Code} {hh : List (Nat × Nat × Nat × Nat)}
    (B : BodyLoose p l y S cc maxL ret e s m args below meth c s₁) (h : (Cond.codeWith y bytes maxL' ret' hh).before args s = true) : c.exceptionTable.toList = tableOf hh := by
  obtain ⟨m9, meth9, c9, hn9, h1, h2, -, -, h6, -⟩ := Cond.codeWith_spec h
  cases Option.some.inj (hn9.symm.trans B.named)
  cases Option.some.inj (h1.symm.trans B.method)
  cases Option.some.inj (h2.symm.trans (Stand.of_body B).code)
  rw [← h6, table_eq]
end Bodies
end VXA
/-! ===== END ===== -/
/-! ===== BEGIN a static call of a method with an exception table ===== -/
section VXS
variable {p : Program} {l : Launch} {e : Env} {R : Room} {s : State} {m : MethodId} {args : Array Value} {below : List Frame} {meth : Method} {c : Code} {T : State} {H : Heap} {locs : List Loc} {cells slots : Nat}
abbrev vx_CSW (R : Room) (s : State) (args : Array Value) (own : String) (index : Nat) (y : MethodName) (bytes : ByteArray) (maxL : Nat) (ret : Option FieldType) (hh : List (Nat × Nat × Nat × Nat)) (ws : List Cond) (rm : Room) (mc ms n : Nat) : Prop :=
  (rm.cells = mc ∧ rm.slots = ms ∧ rm.frames + 1 ≤ R.frames ∧ 8 + (maxL + 11) + rm.locals ≤ R.locals ∧ (∀ w ∈ ws, ∀ (a' : Array Value) (U : State), s.WarmedH U.vm → w.before a' U = true) ∧ Cond.codeWith y bytes maxL ret hh ∈ ws) ∧
  (Cond.codeWith y bytes maxL ret hh).before args s = true ∧ (Cond.initialized y.cls).before args s = true ∧ (y.cls ≠ "java/lang/invoke/MethodHandle" ∧ y.cls ≠ "java/lang/invoke/VarHandle") ∧
  (∀ sig, parseMethodDescriptor y.desc = some sig → n = sig.parameters.length) ∧ (Cond.methodLink own index y).before args s = true ∧ (Cond.static y).before args s = true
theorem vx_cwSW {own : String} {index maxL mc ms : Nat} {y : MethodName} {bytes : ByteArray} {ret : Option FieldType} {hh : List (Nat × Nat × Nat × Nat)} {Ts ws ws' : List Cond} {rm : Room} (n : Nat) (ht : ∀ w ∈ Ts, w.before args s = true) (hT : GoodIn Ts (va_wsS own index y ws)) (hw : ws = Cond.codeWith y bytes maxL ret hh :: ws') (hrc : rm.cells = mc) (hrs : rm.slots = ms)
    (hd : y.cls ≠ "java/lang/invoke/MethodHandle" ∧ y.cls ≠ "java/lang/invoke/VarHandle" ∧ (parseMethodDescriptor y.desc).map (fun d => d.parameters.length) = some n) (hR : rm.frames + 1 ≤ R.frames ∧ 8 + (maxL + 11) + rm.locals ≤ R.locals) :
    vx_CSW R s args own index y bytes maxL ret hh ws rm mc ms n := by
  have ok : ∀ w ∈ va_wsS own index y ws, w.before args s = true := fun w h => ht w (hT w h).1
  have hG : GoodIn Ts ws := fun w h => hT w (by unfold va_wsS; exact List.mem_append_right _ h)
  have hc : Cond.codeWith y bytes maxL ret hh ∈ ws := by rw [hw]; exact List.mem_cons_self
  refine ⟨⟨hrc, hrs, hR.1, hR.2, pay_in ht hG, hc⟩, ht _ (hG _ hc).1, ok _ (by simp [va_wsS]), ⟨hd.1, hd.2.1⟩, fun sig h => ?_, ok _ (by simp [va_wsS]), ok _ (by simp [va_wsS])⟩
  have h2 := hd.2.2
  rw [h] at h2
  exact (Option.some.inj h2).symm
theorem vx_callSW (X : Stand p l e R s m args below meth c T locs cells slots) (hexec : p.tables.exec = Jvm.exec) {own : String} {index : Nat} {y : MethodName} {bytes : ByteArray} {maxL : Nat} {ret : Option FieldType} {hh : List (Nat × Nat × Nat × Nat)}
    (hown : s.vm.findClass own = some m.cls) (hlink : (Cond.methodLink own index y).before args s = true) (hstat : (Cond.static y).before args s = true) (hinit : (Cond.initialized y.cls).before args s = true)
    (hcode : (Cond.codeWith y bytes maxL ret hh).before args s = true) (hy : y.cls ≠ "java/lang/invoke/MethodHandle" ∧ y.cls ≠ "java/lang/invoke/VarHandle")
    {W9 : Nat} {Pre : Pt → Array Value → Prop} {Post : Pt → Array Value → Option Value → Pt → Prop} (hK : Back l R p e below s args y 3 W9 Pre Post)
    {g : JFrame} (hg : g.method = m) (hsize : g.locals.size = c.maxLocals) {argsL rest : List Value} (hlen : ∀ sig, parseMethodDescriptor y.desc = some sig → argsL.length = sig.parameters.length)
    (hstack : g.stack = argsL.reverse ++ rest) (hW : 2 * g.monitorRoom + (rest.map fun v => v.category).sum ≤ W9) (hdg : decode c.code g.pc = .ok (.invokestatic index, 3))
    (hpre : ∀ vm₁, s.WarmedH vm₁ → Pre ⟨T.setVm vm₁, locs, cells, slots⟩ argsL.toArray) :
    ∃ (v : Option Value) (vm₁ : Vm) (B : Pt), s.WarmedH vm₁ ∧ Stand p l e R s m args below meth c B.U B.locs B.cells B.slots ∧ Post ⟨T.setVm vm₁, locs, cells, slots⟩ argsL.toArray v B ∧
      ∀ target, Steps p.tables e below (B.U.setTop { g with pc := g.pc + 3, stack := v.toList ++ rest }) target → Steps p.tables e below (T.setTop g) target := by
  obtain ⟨mk, methM, cM, hnamed, hmethM, -, -, -, -, -, -, hsigM⟩ := Cond.codeWith_spec hcode
  have hstatic : methM.isStatic = true := Cond.static_spec hnamed hmethM hstat
  obtain ⟨kP, hkP, -⟩ := className_of_methodNamed hnamed
  have hinitP : kP.init = .initialized := Cond.initialized_spec (findClass_of_methodNamed hnamed) hkP hinit
  obtain ⟨vm₁, X₁, hstep₁⟩ := X.invokestatic hexec hown hlink hnamed hmethM hstatic hkP hinitP hy (g := g) hg (argsL := argsL) (rest := rest) (hlen _ hsigM) hstack hdg
  obtain ⟨v, B, X', hpost, hsteps⟩ := hK m meth c ⟨T.setVm vm₁, locs, cells, slots⟩ { g with stack := rest } (.invokestatic index) mk argsL.toArray X₁ hg hsize hdg hW (X₁.named hnamed) (hpre vm₁ X₁.warmed)
  exact ⟨v, vm₁, B, X₁.warmed, X', hpost, fun target h => hstep₁ _ fun acts => by rw [doInvoke_state]; exact hsteps.trans h⟩
theorem vx_runSW {y : MethodName} {bytes cc : ByteArray} {maxL nL mc ms n index : Nat} {ret : Option FieldType} {hh : List (Nat × Nat × Nat × Nat)} {ws : List Cond} {rm : Room} {Pc : Array Value → State → Prop} {Qc : Array Value → State → Outcome → State → Prop} {free : Addr → Prop} {Ts : List Cond} {own : String} {As rest : List Value} {g : JFrame}
    (S : CallFix p m c cc nL s args Ts own) (hM : Met l y ws rm Pc Qc mc ms free) (cw : vx_CSW R s args own index y bytes maxL ret hh ws rm mc ms n) (hp : PreS s H Pc As)
    (hg : g.method = m) (hn : As.length = n) (hsize : g.locals.size = nL) (hstack : g.stack = As.reverse ++ rest) (hW : 2 * g.monitorRoom + (rest.map fun v => v.category).sum ≤ 8) (hdg : decode cc g.pc = .ok (.invokestatic index, 3)) (hf : cells + mc ≤ R.cells ∧ slots + ms ≤ R.slots) :
    va_Run p l e R s m args below meth c H locs cells slots mc ms g rest (Qc As.toArray) (free) := by
  obtain ⟨⟨hrc, hrs, hfr, hlo, hws, hcw⟩, hcode, hini, hy, hlen, hl, hstt⟩ := cw
  have hK : Back l R p e below s args y 3 8 (PreOf R mc ms Pc) (PostOf Qc mc ms free) := va_backW (hh := hh) (bytes := bytes) (maxL := maxL) (ret := ret) hM hp.1 hrc hrs hfr hlo hws hcw (fun a' U hW => word_at hW (Or.inl (by first | rfl | simp [Cond.onTables, Cond.keeps, Cond.steady])) hini)
  obtain ⟨hx, hb, hml, ho, -⟩ := S
  intro T hT X
  obtain ⟨v, vm₁, ⟨U', l2, c2, s2⟩, hW₁, X', ⟨g', mk, t, L, e1, e2, hq, h1, hL, h2, h3⟩, st⟩ := vx_callSW X hx (hh := hh) (bytes := bytes) (maxL := maxL) (ret := ret) ho hl hstt hini hcode hy hK hg (hsize.trans hml.symm) (argsL := As) (rest := rest) (fun sig h => hn.trans (hlen sig h)) hstack hW (by rw [hb]; exact hdg)
    (fun vm₁ hW₁ => ⟨hf.1, hf.2, hp.2 (T.setVm vm₁) hT hW₁⟩)
  dsimp only [Pt.U, Pt.locs, Pt.cells, Pt.slots] at X' e1 e2 h1 h2 h3 st
  subst h1; subst h2; subst h3
  exact ⟨v, (T.setVm vm₁).calling g' mk As.toArray, t, U', L, hT, X', hL, e1, e2, hq, st⟩
/-- a thing of a world lies in the heap -/
theorem vx_lt {D : va_G} {cl : List vw_C} {ws : va_W} {H1 : Heap} (h : va_P D cl ws H1) {k : Nat} {q : Nat × va_E} (hk : ws[k]? = some q) : q.1 < H1.size := (h k q hk).lt
end VXS
/-! ===== END ===== -/
/-! ===== BEGIN methods with a table of their own: called by a name, returning or throwing ===== -/
section VXH
/-! vx_backW, vx_callVX, vx_callSX, vx_callVW, vx_runVW, vx_runVX, vx_runSX, vx_ofWH follow the same proofs as their sisters above (Free/Laws.lean, Shelf42/LK1.lean); vx_outP calls Shelf42/NT130.lean (outThrough). -/
section
variable {l : Launch} {R : Room} {p : Program} {e : Env} {below : List Frame} {s : State} {sargs : Array Value} {y : MethodName} {len W9 : Nat}
theorem vx_backW {ws : List Cond} {rm : Room} {Pc : Array Value → State → Prop} {Qc : Array Value → State → Outcome → State → Prop} {XC : String → State → State → Prop} {mc ms : Nat} {free : Addr → Prop} {bytes : ByteArray} {maxL : Nat} {ret : Option FieldType} {hh : List (Nat × Nat × Nat × Nat)}
    (hM : vx_Met l y ws rm Pc Qc XC mc ms free) (hblind : FrameBlind Pc) (hrc : rm.cells = mc) (hrs : rm.slots = ms)
    (hframes : rm.frames + 1 ≤ R.frames) (hlocals : W9 + (maxL + 11) + rm.locals ≤ R.locals)
    (hws : ∀ w ∈ ws, ∀ a' U, s.WarmedH U.vm → w.before a' U = true) (hcode : Cond.codeWith y bytes maxL ret hh ∈ ws) (hinit : ∀ a' U, s.WarmedH U.vm → (Cond.initialized y.cls).before a' U = true) :
    vx_Back l R p e below s sargs y len W9 (PreOf R mc ms Pc) (PostOf Qc mc ms free) (vx_Post XC mc ms free) := by
  intro m meth c A g ig mk a X hg hsize hdg hW hn hp
  have h1 : (headSpec ws rm).pre.before a A.U = true := atoms_intro fun w hw => hws w hw _ _ X.warmed
  have h2 : (Cond.codeWith y bytes maxL ret hh).before a A.U = true := hws _ hcode _ _ X.warmed
  have h3 : (Cond.initialized y.cls).before a A.U = true := hinit _ _ X.warmed
  have h4 : A.cells + (headSpec ws rm).room.cells ≤ R.cells := by rw [show (headSpec ws rm).room.cells = mc from hrc]; exact hp.1
  have h5 : A.slots + (headSpec ws rm).room.slots ≤ R.slots := by rw [show (headSpec ws rm).room.slots = ms from hrs]; exact hp.2.1
  have hPc : Pc a (A.U.calling g mk a) := hblind _ _ _ _ hp.2.2
  obtain ⟨U, Ls, c0, s0⟩ := A
  dsimp only [Pt.U, Pt.locs, Pt.cells, Pt.slots] at h1 h2 h3 h4 h5 X hn hPc ⊢
  obtain ⟨m9, methY, cY, hn9, hmY, hcY, -, hlY, -⟩ := Cond.codeWith_spec h2
  cases Option.some.inj (hn9.symm.trans hn)
  obtain ⟨kY, hkY, -⟩ := className_of_methodNamed hn
  have hinitY : kY.init = .initialized := Cond.initialized_spec (findClass_of_methodNamed hn) hkY h3
  have h : At U g.method c below := by rw [hg]; exact X.here
  have hlocals9 : W9 + (maxL + 11) + (headSpec ws rm).room.locals ≤ R.locals := hlocals
  have happ : (headSpec ws rm).appliesLoose y e.platform (U.calling g mk a) = true :=
    Spec.appliesLoose_calling (g := g) h hdg hn hkY hinitY
      (X.room_calling (g := g) (R' := (headSpec ws rm).room) hsize hmY hcY hframes (by rw [hlY]; omega) h4 h5) h1
  obtain ⟨mid, hmid⟩ := h.above
  have hfr : (U.setTop g).frames = (.java g :: mid) ++ below := by rw [State.frames_setTop' g h.top, hmid]; rfl
  obtain ⟨o, s₂, hsteps, -, hend, hq⟩ := Steps.callFree hM p X.admits X.cas X.clock (acts := []) hfr happ hPc trivial
  have hq' : vx_Q Qc XC mc ms free a (U.calling g mk a) o s₂ := hq
  rw [State.frames_setTop' g h.top] at hend
  obtain ⟨g₀, hg0⟩ := Option.isSome_iff_exists.mp h.top
  obtain ⟨r, hr⟩ := State.topJava?_eq_some.mp hg0
  have hr' : (({ U with heap := s₂.heap, slotsUsed := s₂.slotsUsed } : State).setVm s₂.vm).frames = .java g₀ :: r := hr
  rcases hq' with ⟨hqc, L, hfe, hL⟩ | ⟨q, rfl, E, ce, L, hx, hce, hcv, hcl, hW₂, hsm, hL⟩
  · obtain ⟨⟨v, rfl⟩, hW₂, e2, q2, q3, q4, q5, q6⟩ := id hfe
    have e3 : s₂ = ({ (U.calling g mk a).setFrames s₂.frames with heap := s₂.heap, slotsUsed := s₂.slotsUsed } : State).setVm s₂.vm := by
      have : s₂ = ({ s₂ with vm := (U.calling g mk a).vm } : State).setVm s₂.vm := rfl
      rw [e2] at this
      exact this
    obtain ⟨c₂, i₂, len₂, hc₂, hd₂, hf₂⟩ := hend
    have hW' : U.WarmedH s₂.vm := hW₂
    have hcc : c₂ = c := by
      have h1 : s₂.code? g.method = U.code? g.method := by
        rw [State.code?_eq, State.code?_eq, hW'.alike.method?]
      exact Option.some.inj (hc₂.symm.trans (h1.trans h.code))
    subst hcc
    have hlen : len₂ = len := by rw [hdg] at hd₂; cases hd₂; rfl
    subst hlen
    have hs₂ : s₂ = (({ U with heap := s₂.heap, slotsUsed := s₂.slotsUsed } : State).setVm s₂.vm).setTop { g with pc := g.pc + len₂, stack := v.toList ++ g.stack } := by
      refine e3.trans ?_
      rw [hf₂, State.calling_eq h.top, State.setFrames_setFrames, State.setTop_of_frames _ hr', hr]
      rfl
    have hsame : U.sameButNew ({ U with heap := s₂.heap, slotsUsed := s₂.slotsUsed } : State) L mc ms := by
      refine ⟨?_, q2, q3, q4, q5, q6⟩
      obtain ⟨t, ht, -⟩ := State.frames_cons hr
      show ({ U with heap := s₂.heap, slotsUsed := s₂.slotsUsed } : State) = { U.setFrames U.frames with heap := s₂.heap, slotsUsed := s₂.slotsUsed }
      rw [State.setFrames_self ht]
    subst hg
    refine Or.inl ⟨v, ⟨(({ U with heap := s₂.heap, slotsUsed := s₂.slotsUsed } : State).setVm s₂.vm), Ls ++ L, c0 + mc, s0 + ms⟩,
      ⟨X.admits, X.cas, X.clock, X.frames, X.room, X.hears, X.method, X.code, (X.here.setHeapUsed s₂.heap s₂.slotsUsed).setVm hW'.alike, X.tail, State.WarmedH.trans X.warmed hW', X.limits, X.bytes, X.same.trans (hsame.setVm s.vm)⟩,
      ⟨g, mk, s₂, L, rfl, rfl, hqc, rfl, hL, rfl, rfl⟩, ?_⟩
    show Steps p.tables e below _ ((({ U with heap := s₂.heap, slotsUsed := s₂.slotsUsed } : State).setVm s₂.vm).setTop { g with pc := g.pc + len₂, stack := v.toList ++ g.stack })
    rw [← hs₂]
    exact hsteps
  · obtain ⟨e2, q2, q3, q4, q5, q6⟩ := id hsm
    have e3 : s₂ = ({ (U.calling g mk a).setFrames s₂.frames with heap := s₂.heap, slotsUsed := s₂.slotsUsed } : State).setVm s₂.vm := by
      have : s₂ = ({ s₂ with vm := (U.calling g mk a).vm } : State).setVm s₂.vm := rfl
      rw [e2] at this
      exact this
    have hf₂ : s₂.frames = .throwing q :: .java g :: U.frames.tail := hend
    have hW' : U.WarmedH s₂.vm := hW₂
    have hs₂ : s₂ = ((({ U with heap := s₂.heap, slotsUsed := s₂.slotsUsed } : State).setVm s₂.vm).setTop g).pushFrame (.throwing q) := by
      refine e3.trans ?_
      rw [hf₂, State.calling_eq h.top, State.setFrames_setFrames, State.pushFrame, State.frames_setTop _ hr', State.setTop_of_frames _ hr', State.setFrames_setFrames, hr]
      rfl
    have hsame : U.sameButNew ({ U with heap := s₂.heap, slotsUsed := s₂.slotsUsed } : State) L mc ms := by
      refine ⟨?_, q2, q3, q4, q5, q6⟩
      obtain ⟨t, ht, -⟩ := State.frames_cons hr
      show ({ U with heap := s₂.heap, slotsUsed := s₂.slotsUsed } : State) = { U.setFrames U.frames with heap := s₂.heap, slotsUsed := s₂.slotsUsed }
      rw [State.setFrames_self ht]
    subst hg
    refine Or.inr ⟨q, ⟨(({ U with heap := s₂.heap, slotsUsed := s₂.slotsUsed } : State).setVm s₂.vm), Ls ++ L, c0 + mc, s0 + ms⟩,
      ⟨X.admits, X.cas, X.clock, X.frames, X.room, X.hears, X.method, X.code, (X.here.setHeapUsed s₂.heap s₂.slotsUsed).setVm hW'.alike, X.tail, State.WarmedH.trans X.warmed hW', X.limits, X.bytes, X.same.trans (hsame.setVm s.vm)⟩,
      ⟨g, mk, s₂, L, E, ce, rfl, rfl, hx, hce, hcv, hcl, rfl, hL, rfl, rfl⟩, ?_⟩
    show Steps p.tables e below _ (((({ U with heap := s₂.heap, slotsUsed := s₂.slotsUsed } : State).setVm s₂.vm).setTop g).pushFrame (.throwing q))
    rw [← hs₂]
    exact hsteps
end
variable {p : Program} {l : Launch} {e : Env} {R : Room} {s : State} {m : MethodId} {args : Array Value} {below : List Frame} {meth : Method} {c : Code} {T : State} {H : Heap} {locs : List Loc} {cells slots : Nat}
theorem vx_callVX (X : Stand p l e R s m args below meth c T locs cells slots) (hexec : p.tables.exec = Jvm.exec) {own C : String} {index : Nat} {y : MethodName} {bytes : ByteArray} {maxL : Nat} {ret : Option FieldType} {hh : List (Nat × Nat × Nat × Nat)}
    (hown : s.vm.findClass own = some m.cls) (hlink : (Cond.methodLink own index y).before args s = true) (hinst : (Cond.instanceMethod y).before args s = true) (hsel : (Cond.selects C y y).before args s = true)
    (hcode : (Cond.codeWith y bytes maxL ret hh).before args s = true) (hy : y.cls ≠ "java/lang/invoke/MethodHandle" ∧ y.cls ≠ "java/lang/invoke/VarHandle")
    {W9 : Nat} {Pre : Pt → Array Value → Prop} {Post : Pt → Array Value → Option Value → Pt → Prop} {PostX : Pt → Array Value → Addr → Pt → Prop} (hK : vx_Back l R p e below s args y 3 W9 Pre Post PostX)
    {b : Addr} {cellB : Cell} (hcell : T.heap[b]? = some cellB) (hobj : cellB.vm.isStatics = false) (hcls : s.vm.findClass C = some cellB.cls)
    {g : JFrame} (hg : g.method = m) (hsize : g.locals.size = c.maxLocals) {argsL rest : List Value} (hlen : ∀ sig, parseMethodDescriptor y.desc = some sig → argsL.length = sig.parameters.length)
    (hstack : g.stack = argsL.reverse ++ .ref b :: rest) (hW : 2 * g.monitorRoom + (rest.map fun v => v.category).sum ≤ W9) (hdg : decode c.code g.pc = .ok (.invokevirtual index, 3))
    (hpre : ∀ vm₁, s.WarmedH vm₁ → Pre ⟨T.setVm vm₁, locs, cells, slots⟩ (Value.ref b :: argsL).toArray) :
    (∃ (v : Option Value) (vm₁ : Vm) (B : Pt), s.WarmedH vm₁ ∧ Stand p l e R s m args below meth c B.U B.locs B.cells B.slots ∧ Post ⟨T.setVm vm₁, locs, cells, slots⟩ (Value.ref b :: argsL).toArray v B ∧
      ∀ target, Steps p.tables e below (B.U.setTop { g with pc := g.pc + 3, stack := v.toList ++ rest }) target → Steps p.tables e below (T.setTop g) target) ∨
    (∃ (q : Addr) (vm₁ : Vm) (B : Pt), s.WarmedH vm₁ ∧ Stand p l e R s m args below meth c B.U B.locs B.cells B.slots ∧ PostX ⟨T.setVm vm₁, locs, cells, slots⟩ (Value.ref b :: argsL).toArray q B ∧
      Steps p.tables e below (T.setTop g) ((B.U.setTop { g with stack := rest }).pushFrame (.throwing q))) := by
  obtain ⟨mk, methM, hnamed, hmethM, hstM, habM⟩ := Cond.instanceMethod_spec hinst
  obtain ⟨m8, methM', cM, hn8, hmethM', -, -, -, -, -, -, hsigM⟩ := Cond.codeWith_spec hcode
  cases Option.some.inj (hn8.symm.trans hnamed)
  cases hmethM.symm.trans hmethM'
  obtain ⟨c2, r2, m2, q1, q2, q3, q4, kP, hkP, hkPi⟩ := Cond.selects_spec hsel
  cases hcls.symm.trans q1
  cases (State.methodFound?_of_named hnamed hy).symm.trans q2
  cases hnamed.symm.trans q3
  have hselP : selectMethod e.platform s.vm cellB.cls mk = .method mk := by rw [Launch.admits_selectMethod X.admits]; exact q4
  obtain ⟨vm₁, X₁, hstep₁⟩ := X.invokevirtual hexec hown hlink hnamed hmethM hstM hkP hkPi hy (a := b) (cell := cellB) hcell
    (fun z h => by rw [h] at hobj; cases hobj) hselP hmethM habM hkP hkPi (g := g) hg (argsL := argsL) (rest := rest) (hlen _ hsigM) hstack hdg
  rcases hK m meth c ⟨T.setVm vm₁, locs, cells, slots⟩ { g with stack := rest } (.invokevirtual index) mk (Value.ref b :: argsL).toArray X₁ hg hsize hdg hW (X₁.named hnamed) (hpre vm₁ X₁.warmed) with ⟨v, B, X', hpost, hsteps⟩ | ⟨q, B, X', hpost, hsteps⟩
  · exact Or.inl ⟨v, vm₁, B, X₁.warmed, X', hpost, fun target h => hstep₁ _ fun acts => by rw [doInvoke_state]; exact hsteps.trans h⟩
  · exact Or.inr ⟨q, vm₁, B, X₁.warmed, X', hpost, hstep₁ _ fun acts => by rw [doInvoke_state]; exact hsteps⟩
theorem vx_callSX (X : Stand p l e R s m args below meth c T locs cells slots) (hexec : p.tables.exec = Jvm.exec) {own : String} {index : Nat} {y : MethodName} {bytes : ByteArray} {maxL : Nat} {ret : Option FieldType} {hh : List (Nat × Nat × Nat × Nat)}
    (hown : s.vm.findClass own = some m.cls) (hlink : (Cond.methodLink own index y).before args s = true) (hstat : (Cond.static y).before args s = true) (hinit : (Cond.initialized y.cls).before args s = true)
    (hcode : (Cond.codeWith y bytes maxL ret hh).before args s = true) (hy : y.cls ≠ "java/lang/invoke/MethodHandle" ∧ y.cls ≠ "java/lang/invoke/VarHandle")
    {W9 : Nat} {Pre : Pt → Array Value → Prop} {Post : Pt → Array Value → Option Value → Pt → Prop} {PostX : Pt → Array Value → Addr → Pt → Prop} (hK : vx_Back l R p e below s args y 3 W9 Pre Post PostX)
    {g : JFrame} (hg : g.method = m) (hsize : g.locals.size = c.maxLocals) {argsL rest : List Value} (hlen : ∀ sig, parseMethodDescriptor y.desc = some sig → argsL.length = sig.parameters.length)
    (hstack : g.stack = argsL.reverse ++ rest) (hW : 2 * g.monitorRoom + (rest.map fun v => v.category).sum ≤ W9) (hdg : decode c.code g.pc = .ok (.invokestatic index, 3))
    (hpre : ∀ vm₁, s.WarmedH vm₁ → Pre ⟨T.setVm vm₁, locs, cells, slots⟩ argsL.toArray) :
    (∃ (v : Option Value) (vm₁ : Vm) (B : Pt), s.WarmedH vm₁ ∧ Stand p l e R s m args below meth c B.U B.locs B.cells B.slots ∧ Post ⟨T.setVm vm₁, locs, cells, slots⟩ argsL.toArray v B ∧
      ∀ target, Steps p.tables e below (B.U.setTop { g with pc := g.pc + 3, stack := v.toList ++ rest }) target → Steps p.tables e below (T.setTop g) target) ∨
    (∃ (q : Addr) (vm₁ : Vm) (B : Pt), s.WarmedH vm₁ ∧ Stand p l e R s m args below meth c B.U B.locs B.cells B.slots ∧ PostX ⟨T.setVm vm₁, locs, cells, slots⟩ argsL.toArray q B ∧
      Steps p.tables e below (T.setTop g) ((B.U.setTop { g with stack := rest }).pushFrame (.throwing q))) := by
  obtain ⟨mk, methM, cM, hnamed, hmethM, -, -, -, -, -, -, hsigM⟩ := Cond.codeWith_spec hcode
  have hstatic : methM.isStatic = true := Cond.static_spec hnamed hmethM hstat
  obtain ⟨kP, hkP, -⟩ := className_of_methodNamed hnamed
  have hinitP : kP.init = .initialized := Cond.initialized_spec (findClass_of_methodNamed hnamed) hkP hinit
  obtain ⟨vm₁, X₁, hstep₁⟩ := X.invokestatic hexec hown hlink hnamed hmethM hstatic hkP hinitP hy (g := g) hg (argsL := argsL) (rest := rest) (hlen _ hsigM) hstack hdg
  rcases hK m meth c ⟨T.setVm vm₁, locs, cells, slots⟩ { g with stack := rest } (.invokestatic index) mk argsL.toArray X₁ hg hsize hdg hW (X₁.named hnamed) (hpre vm₁ X₁.warmed) with ⟨v, B, X', hpost, hsteps⟩ | ⟨q, B, X', hpost, hsteps⟩
  · exact Or.inl ⟨v, vm₁, B, X₁.warmed, X', hpost, fun target h => hstep₁ _ fun acts => by rw [doInvoke_state]; exact hsteps.trans h⟩
  · exact Or.inr ⟨q, vm₁, B, X₁.warmed, X', hpost, hstep₁ _ fun acts => by rw [doInvoke_state]; exact hsteps⟩
theorem vx_callVW (X : Stand p l e R s m args below meth c T locs cells slots) (hexec : p.tables.exec = Jvm.exec) {own C : String} {index : Nat} {y : MethodName} {bytes : ByteArray} {maxL : Nat} {ret : Option FieldType} {hh : List (Nat × Nat × Nat × Nat)}
    (hown : s.vm.findClass own = some m.cls) (hlink : (Cond.methodLink own index y).before args s = true) (hinst : (Cond.instanceMethod y).before args s = true) (hsel : (Cond.selects C y y).before args s = true)
    (hcode : (Cond.codeWith y bytes maxL ret hh).before args s = true) (hy : y.cls ≠ "java/lang/invoke/MethodHandle" ∧ y.cls ≠ "java/lang/invoke/VarHandle")
    {W9 : Nat} {Pre : Pt → Array Value → Prop} {Post : Pt → Array Value → Option Value → Pt → Prop} (hK : Back l R p e below s args y 3 W9 Pre Post)
    {b : Addr} {cellB : Cell} (hcell : T.heap[b]? = some cellB) (hobj : cellB.vm.isStatics = false) (hcls : s.vm.findClass C = some cellB.cls)
    {g : JFrame} (hg : g.method = m) (hsize : g.locals.size = c.maxLocals) {argsL rest : List Value} (hlen : ∀ sig, parseMethodDescriptor y.desc = some sig → argsL.length = sig.parameters.length)
    (hstack : g.stack = argsL.reverse ++ .ref b :: rest) (hW : 2 * g.monitorRoom + (rest.map fun v => v.category).sum ≤ W9) (hdg : decode c.code g.pc = .ok (.invokevirtual index, 3))
    (hpre : ∀ vm₁, s.WarmedH vm₁ → Pre ⟨T.setVm vm₁, locs, cells, slots⟩ (Value.ref b :: argsL).toArray) :
    ∃ (v : Option Value) (vm₁ : Vm) (B : Pt), s.WarmedH vm₁ ∧ Stand p l e R s m args below meth c B.U B.locs B.cells B.slots ∧ Post ⟨T.setVm vm₁, locs, cells, slots⟩ (Value.ref b :: argsL).toArray v B ∧
      ∀ target, Steps p.tables e below (B.U.setTop { g with pc := g.pc + 3, stack := v.toList ++ rest }) target → Steps p.tables e below (T.setTop g) target := by
  obtain ⟨mk, methM, hnamed, hmethM, hstM, habM⟩ := Cond.instanceMethod_spec hinst
  obtain ⟨m8, methM', cM, hn8, hmethM', -, -, -, -, -, -, hsigM⟩ := Cond.codeWith_spec hcode
  cases Option.some.inj (hn8.symm.trans hnamed)
  cases hmethM.symm.trans hmethM'
  obtain ⟨c2, r2, m2, q1, q2, q3, q4, kP, hkP, hkPi⟩ := Cond.selects_spec hsel
  cases hcls.symm.trans q1
  cases (State.methodFound?_of_named hnamed hy).symm.trans q2
  cases hnamed.symm.trans q3
  have hselP : selectMethod e.platform s.vm cellB.cls mk = .method mk := by rw [Launch.admits_selectMethod X.admits]; exact q4
  obtain ⟨vm₁, X₁, hstep₁⟩ := X.invokevirtual hexec hown hlink hnamed hmethM hstM hkP hkPi hy (a := b) (cell := cellB) hcell
    (fun z h => by rw [h] at hobj; cases hobj) hselP hmethM habM hkP hkPi (g := g) hg (argsL := argsL) (rest := rest) (hlen _ hsigM) hstack hdg
  obtain ⟨v, B, X', hpost, hsteps⟩ := hK m meth c ⟨T.setVm vm₁, locs, cells, slots⟩ { g with stack := rest } (.invokevirtual index) mk (Value.ref b :: argsL).toArray X₁ hg hsize hdg hW (X₁.named hnamed) (hpre vm₁ X₁.warmed)
  exact ⟨v, vm₁, B, X₁.warmed, X', hpost, fun target h => hstep₁ _ fun acts => by rw [doInvoke_state]; exact hsteps.trans h⟩
abbrev vx_CVW (R : Room) (s : State) (args : Array Value) (own C : String) (index : Nat) (y : MethodName) (bytes : ByteArray) (maxL : Nat) (ret : Option FieldType) (hh : List (Nat × Nat × Nat × Nat)) (ws : List Cond) (rm : Room) (mc ms n : Nat) : Prop :=
  (rm.cells = mc ∧ rm.slots = ms ∧ rm.frames + 1 ≤ R.frames ∧ 8 + (maxL + 11) + rm.locals ≤ R.locals ∧ (∀ w ∈ ws, ∀ (a' : Array Value) (U : State), s.WarmedH U.vm → w.before a' U = true) ∧ Cond.codeWith y bytes maxL ret hh ∈ ws) ∧
  (Cond.codeWith y bytes maxL ret hh).before args s = true ∧ (Cond.initialized y.cls).before args s = true ∧ (y.cls ≠ "java/lang/invoke/MethodHandle" ∧ y.cls ≠ "java/lang/invoke/VarHandle") ∧
  (∀ sig, parseMethodDescriptor y.desc = some sig → n = sig.parameters.length) ∧ (Cond.methodLink own index y).before args s = true ∧ (Cond.instanceMethod y).before args s = true ∧ (Cond.selects C y y).before args s = true
theorem vx_cwVW {own C : String} {index maxL mc ms : Nat} {y : MethodName} {bytes : ByteArray} {ret : Option FieldType} {hh : List (Nat × Nat × Nat × Nat)} {Ts ws ws' : List Cond} {rm : Room} (n : Nat) (ht : ∀ w ∈ Ts, w.before args s = true) (hT : GoodIn Ts (wsV own index C y ws)) (hw : ws = Cond.codeWith y bytes maxL ret hh :: ws') (hrc : rm.cells = mc) (hrs : rm.slots = ms)
    (hd : y.cls = C ∧ y.cls ≠ "java/lang/invoke/MethodHandle" ∧ y.cls ≠ "java/lang/invoke/VarHandle" ∧ (parseMethodDescriptor y.desc).map (fun d => d.parameters.length) = some n) (hR : rm.frames + 1 ≤ R.frames ∧ 8 + (maxL + 11) + rm.locals ≤ R.locals) :
    vx_CVW R s args own C index y bytes maxL ret hh ws rm mc ms n := by
  obtain ⟨hC, hd⟩ := hd
  subst hC
  have ok : ∀ w ∈ wsV own index y.cls y ws, w.before args s = true := fun w h => ht w (hT w h).1
  have hG : GoodIn Ts ws := fun w h => hT w (by unfold wsV; exact List.mem_append_right _ h)
  have hc : Cond.codeWith y bytes maxL ret hh ∈ ws := by rw [hw]; exact List.mem_cons_self
  refine ⟨⟨hrc, hrs, hR.1, hR.2, pay_in ht hG, hc⟩, ht _ (hG _ hc).1, ok _ (by simp [wsV]), ⟨hd.1, hd.2.1⟩, fun sig h => ?_, ok _ (by simp [wsV]), ok _ (by simp [wsV]), ok _ (by simp [wsV])⟩
  have h2 := hd.2.2
  rw [h] at h2
  exact (Option.some.inj h2).symm
theorem vx_runVW {y : MethodName} {bytes cc : ByteArray} {maxL nL mc ms n index : Nat} {ret : Option FieldType} {hh : List (Nat × Nat × Nat × Nat)} {ws : List Cond} {rm : Room} {Pc : Array Value → State → Prop} {Qc : Array Value → State → Outcome → State → Prop} {free : Addr → Prop} {Ts : List Cond} {own C : String} {b : Addr} {As rest : List Value} {g : JFrame}
    (S : CallFix p m c cc nL s args Ts own) (hM : Met l y ws rm Pc Qc mc ms free) (cw : vx_CVW R s args own C index y bytes maxL ret hh ws rm mc ms n) (hp : PreV s H C b Pc As)
    (hg : g.method = m) (hn : As.length = n) (hsize : g.locals.size = nL) (hstack : g.stack = As.reverse ++ .ref b :: rest) (hW : 2 * g.monitorRoom + (rest.map fun v => v.category).sum ≤ 8) (hdg : decode cc g.pc = .ok (.invokevirtual index, 3)) (hf : cells + mc ≤ R.cells ∧ slots + ms ≤ R.slots) :
    va_Run p l e R s m args below meth c H locs cells slots mc ms g rest (Qc (Value.ref b :: As).toArray) free := by
  obtain ⟨⟨hrc, hrs, hfr, hlo, hws, hcw⟩, hcode, hini, hy, hlen, hl, hin, hse⟩ := cw
  have hK : Back l R p e below s args y 3 8 (PreOf R mc ms Pc) (PostOf Qc mc ms free) := va_backW (hh := hh) (bytes := bytes) (maxL := maxL) (ret := ret) hM hp.1 hrc hrs hfr hlo hws hcw (fun a' U hW => word_at hW (Or.inl (by first | rfl | simp [Cond.onTables, Cond.keeps, Cond.steady])) hini)
  obtain ⟨hx, hb, hml, ho, -⟩ := S
  obtain ⟨-, ⟨cellB, hcB, hoB, hclB⟩, hPc⟩ := hp
  intro T hT X
  obtain ⟨v, vm₁, ⟨U', l2, c2, s2⟩, hW₁, X', ⟨g', mk, t, L, e1, e2, hq, h1, hL, h2, h3⟩, st⟩ := vx_callVW X hx (C := C) (hh := hh) (bytes := bytes) (maxL := maxL) (ret := ret) ho hl hin hse hcode hy hK (by rw [hT]; exact hcB) hoB hclB hg (hsize.trans hml.symm) (argsL := As) (rest := rest) (fun sig h => hn.trans (hlen sig h)) hstack hW (by rw [hb]; exact hdg)
    (fun vm₁ hW₁ => ⟨hf.1, hf.2, hPc (T.setVm vm₁) hT hW₁⟩)
  dsimp only [Pt.U, Pt.locs, Pt.cells, Pt.slots] at X' e1 e2 h1 h2 h3 st
  subst h1; subst h2; subst h3
  exact ⟨v, (T.setVm vm₁).calling g' mk (Value.ref b :: As).toArray, t, U', L, hT, X', hL, e1, e2, hq, st⟩
section
variable {y : MethodName} {bytes cc : ByteArray} {maxL nL mc ms n index : Nat} {ret : Option FieldType} {ws : List Cond} {rm : Room} {Pc : Array Value → State → Prop} {Qc : Array Value → State → Outcome → State → Prop} {XC : String → State → State → Prop} {free : Addr → Prop} {Ts : List Cond} {own C : String} {b : Addr} {As rest : List Value} {g : JFrame}
theorem vx_runVX {hh : List (Nat × Nat × Nat × Nat)} (S : CallFix p m c cc nL s args Ts own) (hM : vx_Met l y ws rm Pc Qc XC mc ms free) (cw : vx_CVW R s args own C index y bytes maxL ret hh ws rm mc ms n) (hp : PreV s H C b Pc As)
    (hg : g.method = m) (hn : As.length = n) (hsize : g.locals.size = nL) (hstack : g.stack = As.reverse ++ .ref b :: rest) (hW : 2 * g.monitorRoom + (rest.map fun v => v.category).sum ≤ 8) (hdg : decode cc g.pc = .ok (.invokevirtual index, 3)) (hf : cells + mc ≤ R.cells ∧ slots + ms ≤ R.slots) :
    vx_Run p l e R s m args below meth c H locs cells slots mc ms g rest (Qc (Value.ref b :: As).toArray) XC free := by
  obtain ⟨⟨hrc, hrs, hfr, hlo, hws, hcw⟩, hcode, hini, hy, hlen, hl, hin, hse⟩ := cw
  have hK : vx_Back l R p e below s args y 3 8 (PreOf R mc ms Pc) (PostOf Qc mc ms free) (vx_Post XC mc ms free) := vx_backW (hh := hh) (bytes := bytes) (maxL := maxL) (ret := ret) hM hp.1 hrc hrs hfr hlo hws hcw (fun a' U hW => word_at hW (Or.inl (by first | rfl | simp [Cond.onTables, Cond.keeps, Cond.steady])) hini)
  obtain ⟨hx, hb, hml, ho, -⟩ := S
  obtain ⟨-, ⟨cellB, hcB, hoB, hclB⟩, hPc⟩ := hp
  intro T hT X
  rcases vx_callVX X hx (C := C) (hh := hh) (bytes := bytes) (maxL := maxL) (ret := ret) ho hl hin hse hcode hy hK (by rw [hT]; exact hcB) hoB hclB hg (hsize.trans hml.symm) (argsL := As) (rest := rest) (fun sig h => hn.trans (hlen sig h)) hstack hW (by rw [hb]; exact hdg)
    (fun vm₁ hW₁ => ⟨hf.1, hf.2, hPc (T.setVm vm₁) hT hW₁⟩) with ⟨v, vm₁, ⟨U', l2, c2, s2⟩, hW₁, X', ⟨g', mk, t, L, e1, e2, hq, h1, hL, h2, h3⟩, st⟩ | ⟨q, vm₁, ⟨U', l2, c2, s2⟩, hW₁, X', ⟨g', mk, t, L, E, ce, e1, e2, hq, hce, hcv, hcl, h1, hL, h2, h3⟩, st⟩
  · dsimp only [Pt.U, Pt.locs, Pt.cells, Pt.slots] at X' e1 e2 h1 h2 h3 st
    subst h1; subst h2; subst h3
    exact Or.inl ⟨v, (T.setVm vm₁).calling g' mk (Value.ref b :: As).toArray, t, U', L, hT, X', hL, e1, e2, hq, st⟩
  · dsimp only [Pt.U, Pt.locs, Pt.cells, Pt.slots] at X' e1 e2 h1 h2 h3 st hcl
    subst h1; subst h2; subst h3
    exact Or.inr ⟨q, (T.setVm vm₁).calling g' mk (Value.ref b :: As).toArray, t, U', L, E, ce, hT, X', hL, e1, e2, hq, hce, hcv, vx_cls hW₁ hcl, st⟩
theorem vx_runSX {hh : List (Nat × Nat × Nat × Nat)} (S : CallFix p m c cc nL s args Ts own) (hM : vx_Met l y ws rm Pc Qc XC mc ms free) (cw : vx_CSW R s args own index y bytes maxL ret hh ws rm mc ms n) (hp : PreS s H Pc As)
    (hg : g.method = m) (hn : As.length = n) (hsize : g.locals.size = nL) (hstack : g.stack = As.reverse ++ rest) (hW : 2 * g.monitorRoom + (rest.map fun v => v.category).sum ≤ 8) (hdg : decode cc g.pc = .ok (.invokestatic index, 3)) (hf : cells + mc ≤ R.cells ∧ slots + ms ≤ R.slots) :
    vx_Run p l e R s m args below meth c H locs cells slots mc ms g rest (Qc As.toArray) XC free := by
  obtain ⟨⟨hrc, hrs, hfr, hlo, hws, hcw⟩, hcode, hini, hy, hlen, hl, hstt⟩ := cw
  have hK : vx_Back l R p e below s args y 3 8 (PreOf R mc ms Pc) (PostOf Qc mc ms free) (vx_Post XC mc ms free) := vx_backW (hh := hh) (bytes := bytes) (maxL := maxL) (ret := ret) hM hp.1 hrc hrs hfr hlo hws hcw (fun a' U hW => word_at hW (Or.inl (by first | rfl | simp [Cond.onTables, Cond.keeps, Cond.steady])) hini)
  obtain ⟨hx, hb, hml, ho, -⟩ := S
  intro T hT X
  rcases vx_callSX X hx (hh := hh) (bytes := bytes) (maxL := maxL) (ret := ret) ho hl hstt hini hcode hy hK hg (hsize.trans hml.symm) (argsL := As) (rest := rest) (fun sig h => hn.trans (hlen sig h)) hstack hW (by rw [hb]; exact hdg)
    (fun vm₁ hW₁ => ⟨hf.1, hf.2, hp.2 (T.setVm vm₁) hT hW₁⟩) with ⟨v, vm₁, ⟨U', l2, c2, s2⟩, hW₁, X', ⟨g', mk, t, L, e1, e2, hq, h1, hL, h2, h3⟩, st⟩ | ⟨q, vm₁, ⟨U', l2, c2, s2⟩, hW₁, X', ⟨g', mk, t, L, E, ce, e1, e2, hq, hce, hcv, hcl, h1, hL, h2, h3⟩, st⟩
  · dsimp only [Pt.U, Pt.locs, Pt.cells, Pt.slots] at X' e1 e2 h1 h2 h3 st
    subst h1; subst h2; subst h3
    exact Or.inl ⟨v, (T.setVm vm₁).calling g' mk As.toArray, t, U', L, hT, X', hL, e1, e2, hq, st⟩
  · dsimp only [Pt.U, Pt.locs, Pt.cells, Pt.slots] at X' e1 e2 h1 h2 h3 st hcl
    subst h1; subst h2; subst h3
    exact Or.inr ⟨q, (T.setVm vm₁).calling g' mk As.toArray, t, U', L, E, ce, hT, X', hL, e1, e2, hq, hce, hcv, vx_cls hW₁ hcl, st⟩
end
end VXH
theorem vx_ofWH {l : Launch} {y : MethodName} {ws ws' : List Cond} {rm : Room} {Pc : Array Value → State → Prop} {Qc : Array Value → State → Outcome → State → Prop} {XC : String → State → State → Prop} {mc ms : Nat} {free : Addr → Prop} {cc : ByteArray} {maxL : Nat} {ret : Option FieldType} {hh : List (Nat × Nat × Nat × Nat)}
    (hy : plainName y.cls = true) (hw : ws = Cond.codeWith y cc maxL ret hh :: ws')
    (body : ∀ p e s m args below meth c s₁, BodyLoose p l y (headSpec ws rm) cc maxL ret e s m args below meth c s₁ → c.maxLocals = maxL → Pc args s →
      W p l e (headSpec ws rm).room s m args below meth c s.heap [] 0 0 (vx_MQ below Qc XC args s mc ms free) (entryFrame m args maxL)) : vx_Met l y ws rm Pc Qc XC mc ms free := by
  refine MetFree.of_bodyS (code := cc) (maxLocals := maxL) (ret := ret) hy ?_ ?_
  · intro args s m h hn
    obtain ⟨m9, meth, c, hn9, h1, h2, h3, h4, -, h5, h6, -⟩ := Cond.codeWith_spec (atoms_spec (ws := ws) h _ (by rw [hw]; exact List.mem_cons_self))
    cases hn.symm.trans hn9
    exact ⟨meth, c, h1, h2, h3, h4, h5, h6⟩
  · intro p e s m args below meth c s₁ B hml hP _
    have hh0 : s₁.heap = s.heap := by rw [B.state]; rfl
    obtain ⟨t, a1, o, b1, b2, b3⟩ := body p e s m args below meth c s₁ B hml hP s₁ hh0 (Stand.of_body B)
    exact ⟨t, o, a1, b1, b2, b3⟩
/-! ===== END ===== -/
end
section
def RX0 : String := "TrajectoryRails$Check"
def TX0 : u_T := fun k => match k with
  | 0 => ("TrajectoryRails$Check", "circuit", "LTrajectoryRails$Circuit;", false)
  | 1 => ("TrajectoryRails$Check", "claim", "LTrajectoryRails$Claim;", false)
  | 2 => ("TrajectoryRails$Check", "assignments", "I", false)
  | 3 => ("TrajectoryRails$Check", "words", "I", false)
  | 4 => ("TrajectoryRails$Check", "lanesUsed", "J", false)
  | 5 => ("TrajectoryRails$Check", "stack", "LTrajectoryRails$Stack;", true)
  | 6 => ("TrajectoryRails$Check", "variableOnes", "[J", true)
  | 7 => ("TrajectoryRails$Check", "variableZeros", "[J", true)
  | 8 => ("TrajectoryRails$Check", "says", "[J", true)
  | 9 => ("TrajectoryRails$Check", "holds", "[J", true)
  | 10 => ("TrajectoryRails$Check", "ones", "[J", true)
  | 11 => ("TrajectoryRails$Check", "zeros", "[J", true)
  | 12 => ("TrajectoryRails$Check", "out", "[J", true)
  | _ => ("TrajectoryRails$Check", "failed", "[J", true)
def tyX0 : Nat → FieldType := fun k => match k with
  | 0 => .object "TrajectoryRails$Circuit"
  | 1 => .object "TrajectoryRails$Claim"
  | 2 => .int
  | 3 => .int
  | 4 => .long
  | 5 => .object "TrajectoryRails$Stack"
  | 6 => .array .long
  | 7 => .array .long
  | 8 => .array .long
  | 9 => .array .long
  | 10 => .array .long
  | 11 => .array .long
  | 12 => .array .long
  | _ => .array .long
abbrev wsX00 : List Cond := u_ws RX0 TX0 14
theorem nmX0 : ∀ a, a < 14 → ∀ b, b < 14 → a ≠ b → (TX0 a).2.1 ≠ (TX0 b).2.1 := by decide +kernel
theorem tyX0_ok : ∀ k, k < 14 → parseFieldDescriptor (TX0 k).2.2.1 = some (tyX0 k) := by decide +kernel
abbrev cX0_init : ByteArray := prog_2_method_1_code
def yX0_init : MethodName := ⟨RX0, "<init>", "()V"⟩
abbrev cX0_run : ByteArray := prog_2_method_2_code
def yX0_run : MethodName := ⟨RX0, "run", "(LTrajectoryRails$Circuit;LTrajectoryRails$Claim;)V"⟩
abbrev cX0_clauseRow : ByteArray := prog_2_method_3_code
def yX0_clauseRow : MethodName := ⟨RX0, "clauseRow", "(II)I"⟩
abbrev cX0_row : ByteArray := prog_2_method_4_code
def yX0_row : MethodName := ⟨RX0, "row", "(II)I"⟩
abbrev cX0_lanesWith : ByteArray := prog_2_method_5_code
def yX0_lanesWith : MethodName := ⟨RX0, "lanesWith", "(II)J"⟩
abbrev cX0_bitOf : ByteArray := prog_2_method_6_code
def yX0_bitOf : MethodName := ⟨RX0, "bitOf", "(I)I"⟩
abbrev cX0_setVariables : ByteArray := prog_2_method_7_code
def yX0_setVariables : MethodName := ⟨RX0, "setVariables", "(I)V"⟩
abbrev cX0_workOutClauses : ByteArray := prog_2_method_8_code
def yX0_workOutClauses : MethodName := ⟨RX0, "workOutClauses", "(I)V"⟩
abbrev cX0_layGivens : ByteArray := prog_2_method_9_code
def yX0_layGivens : MethodName := ⟨RX0, "layGivens", "(I)V"⟩
abbrev cX0_follow : ByteArray := prog_2_method_10_code
def yX0_follow : MethodName := ⟨RX0, "follow", "(I)V"⟩
abbrev cX0_joinOwn : ByteArray := prog_2_method_11_code
def yX0_joinOwn : MethodName := ⟨RX0, "joinOwn", "(III)V"⟩
abbrev cX0_compare : ByteArray := prog_2_method_12_code
def yX0_compare : MethodName := ⟨RX0, "compare", "(I)V"⟩
abbrev cX0_wrongLanes : ByteArray := prog_2_method_13_code
def yX0_wrongLanes : MethodName := ⟨RX0, "wrongLanes", "(III)J"⟩
abbrev cX0_hasAssignment : ByteArray := prog_2_method_14_code
def yX0_hasAssignment : MethodName := ⟨RX0, "hasAssignment", "(I)Z"⟩
abbrev cX0_howManyFail : ByteArray := prog_2_method_15_code
def yX0_howManyFail : MethodName := ⟨RX0, "howManyFail", "()I"⟩
abbrev cX0_howManyAreOut : ByteArray := prog_2_method_16_code
def yX0_howManyAreOut : MethodName := ⟨RX0, "howManyAreOut", "()I"⟩
abbrev cX0_lanesIn : ByteArray := prog_2_method_17_code
def yX0_lanesIn : MethodName := ⟨RX0, "lanesIn", "([J)I"⟩
abbrev cX0_failingByRank : ByteArray := prog_2_method_18_code
def yX0_failingByRank : MethodName := ⟨RX0, "failingByRank", "(I)I"⟩
abbrev cX0_laneByRank : ByteArray := prog_2_method_19_code
def yX0_laneByRank : MethodName := ⟨RX0, "laneByRank", "(JI)I"⟩
abbrev cX0_isIn : ByteArray := prog_2_method_20_code
def yX0_isIn : MethodName := ⟨RX0, "isIn", "(JI)Z"⟩
abbrev cX0_firstWrongClause : ByteArray := prog_2_method_21_code
def yX0_firstWrongClause : MethodName := ⟨RX0, "firstWrongClause", "(I)I"⟩
abbrev cX0_firstWrongTime : ByteArray := prog_2_method_22_code
def yX0_firstWrongTime : MethodName := ⟨RX0, "firstWrongTime", "(I)I"⟩
abbrev cX0_wrongTime : ByteArray := prog_2_method_23_code
def yX0_wrongTime : MethodName := ⟨RX0, "wrongTime", "(II)I"⟩
abbrev cX0_valueOf : ByteArray := prog_2_method_24_code
def yX0_valueOf : MethodName := ⟨RX0, "valueOf", "(III)I"⟩
abbrev cX0_everMatters : ByteArray := prog_2_method_25_code
def yX0_everMatters : MethodName := ⟨RX0, "everMatters", "(III)Z"⟩
abbrev cX0_changedLanes : ByteArray := prog_2_method_26_code
def yX0_changedLanes : MethodName := ⟨RX0, "changedLanes", "(III)J"⟩
def RX1 : String := "TrajectoryRails$Circuit"
def TX1 : u_T := fun k => match k with
  | 0 => ("TrajectoryRails$Circuit", "size", "I", false)
  | 1 => ("TrajectoryRails$Circuit", "names", "[J", true)
  | 2 => ("TrajectoryRails$Circuit", "kinds", "[I", true)
  | 3 => ("TrajectoryRails$Circuit", "starts", "[I", true)
  | 4 => ("TrajectoryRails$Circuit", "stops", "[I", true)
  | 5 => ("TrajectoryRails$Circuit", "code", "LTrajectoryRails$Code;", true)
  | 6 => ("TrajectoryRails$Circuit", "reach", "[J", true)
  | 7 => ("TrajectoryRails$Circuit", "wireReach", "[J", true)
  | _ => ("TrajectoryRails$Circuit", "order", "[I", true)
def tyX1 : Nat → FieldType := fun k => match k with
  | 0 => .int
  | 1 => .array .long
  | 2 => .array .int
  | 3 => .array .int
  | 4 => .array .int
  | 5 => .object "TrajectoryRails$Code"
  | 6 => .array .long
  | 7 => .array .long
  | _ => .array .int
abbrev wsX10 : List Cond := u_ws RX1 TX1 9
theorem nmX1 : ∀ a, a < 9 → ∀ b, b < 9 → a ≠ b → (TX1 a).2.1 ≠ (TX1 b).2.1 := by decide +kernel
theorem tyX1_ok : ∀ k, k < 9 → parseFieldDescriptor (TX1 k).2.2.1 = some (tyX1 k) := by decide +kernel
abbrev cX1_init : ByteArray := prog_3_method_1_code
def yX1_init : MethodName := ⟨RX1, "<init>", "()V"⟩
abbrev cX1_hasNode : ByteArray := prog_3_method_2_code
def yX1_hasNode : MethodName := ⟨RX1, "hasNode", "(I)Z"⟩
abbrev cX1_find : ByteArray := prog_3_method_3_code
def yX1_find : MethodName := ⟨RX1, "find", "(J)I"⟩
abbrev cX1_howMany : ByteArray := prog_3_method_4_code
def yX1_howMany : MethodName := ⟨RX1, "howMany", "(I)I"⟩
abbrev cX1_declare : ByteArray := prog_3_method_5_code
def yX1_declare : MethodName := ⟨RX1, "declare", "(JI)Z"⟩
abbrev cX1_link : ByteArray := prog_3_method_6_code
def yX1_link : MethodName := ⟨RX1, "link", "()V"⟩
abbrev cX1_leavesOf : ByteArray := prog_3_method_7_code
def yX1_leavesOf : MethodName := ⟨RX1, "leavesOf", "(I)J"⟩
abbrev cX1_close : ByteArray := prog_3_method_8_code
def yX1_close : MethodName := ⟨RX1, "close", "([J)V"⟩
abbrev cX1_firstLoop : ByteArray := prog_3_method_9_code
def yX1_firstLoop : MethodName := ⟨RX1, "firstLoop", "()I"⟩
abbrev cX1_putInOrder : ByteArray := prog_3_method_10_code
def yX1_putInOrder : MethodName := ⟨RX1, "putInOrder", "()V"⟩
abbrev cX1_rankOf : ByteArray := prog_3_method_11_code
def yX1_rankOf : MethodName := ⟨RX1, "rankOf", "(I)I"⟩
def RX2 : String := "TrajectoryRails$CircuitReader"
def TX2 : u_T := fun k => match k with
  | 0 => ("TrajectoryRails$Reader", "tokens", "LTrajectoryRails$Tokens;", true)
  | 1 => ("TrajectoryRails$Reader", "code", "LTrajectoryRails$Code;", false)
  | 2 => ("TrajectoryRails$Reader", "atoms", "I", false)
  | 3 => ("TrajectoryRails$Reader", "waiting", "[I", true)
  | 4 => ("TrajectoryRails$Reader", "waits", "I", false)
  | 5 => ("TrajectoryRails$Reader", "depth", "I", false)
  | 6 => ("TrajectoryRails$CircuitReader", "circuit", "LTrajectoryRails$Circuit;", false)
  | _ => ("TrajectoryRails$CircuitReader", "places", "[I", true)
def tyX2 : Nat → FieldType := fun k => match k with
  | 0 => .object "TrajectoryRails$Tokens"
  | 1 => .object "TrajectoryRails$Code"
  | 2 => .int
  | 3 => .array .int
  | 4 => .int
  | 5 => .int
  | 6 => .object "TrajectoryRails$Circuit"
  | _ => .array .int
abbrev wsX20 : List Cond := u_ws RX2 TX2 8
theorem nmX2 : ∀ a, a < 8 → ∀ b, b < 8 → a ≠ b → (TX2 a).2.1 ≠ (TX2 b).2.1 := by decide +kernel
theorem tyX2_ok : ∀ k, k < 8 → parseFieldDescriptor (TX2 k).2.2.1 = some (tyX2 k) := by decide +kernel
abbrev cX2_init : ByteArray := prog_4_method_1_code
def yX2_init : MethodName := ⟨RX2, "<init>", "(LTrajectoryRails$Tokens;)V"⟩
abbrev cX2_read : ByteArray := prog_4_method_2_code
def yX2_read : MethodName := ⟨RX2, "read", "(LTrajectoryRails$Circuit;)I"⟩
abbrev cX2_takeItem : ByteArray := prog_4_method_3_code
def yX2_takeItem : MethodName := ⟨RX2, "takeItem", "()Z"⟩
abbrev cX2_takeInputs : ByteArray := prog_4_method_4_code
def yX2_takeInputs : MethodName := ⟨RX2, "takeInputs", "()Z"⟩
abbrev cX2_takeMade : ByteArray := prog_4_method_5_code
def yX2_takeMade : MethodName := ⟨RX2, "takeMade", "(I)Z"⟩
abbrev cX2_takeDeclared : ByteArray := prog_4_method_6_code
def yX2_takeDeclared : MethodName := ⟨RX2, "takeDeclared", "(I)Z"⟩
abbrev cX2_takeLeaf : ByteArray := prog_4_method_7_code
def yX2_takeLeaf : MethodName := ⟨RX2, "takeLeaf", "()Z"⟩
abbrev cX2_putNodesForNames : ByteArray := prog_4_method_8_code
def yX2_putNodesForNames : MethodName := ⟨RX2, "putNodesForNames", "()I"⟩
def RX3 : String := "TrajectoryRails$Claim"
def TX3 : u_T := fun k => match k with
  | 0 => ("TrajectoryRails$Claim", "variables", "I", false)
  | 1 => ("TrajectoryRails$Claim", "names", "[J", true)
  | 2 => ("TrajectoryRails$Claim", "givens", "I", false)
  | 3 => ("TrajectoryRails$Claim", "clauses", "I", false)
  | 4 => ("TrajectoryRails$Claim", "last", "I", false)
  | 5 => ("TrajectoryRails$Claim", "nodes", "[I", true)
  | 6 => ("TrajectoryRails$Claim", "froms", "[I", true)
  | 7 => ("TrajectoryRails$Claim", "tos", "[I", true)
  | 8 => ("TrajectoryRails$Claim", "starts", "[I", true)
  | 9 => ("TrajectoryRails$Claim", "ifs", "[I", true)
  | 10 => ("TrajectoryRails$Claim", "stops", "[I", true)
  | _ => ("TrajectoryRails$Claim", "code", "LTrajectoryRails$Code;", true)
def tyX3 : Nat → FieldType := fun k => match k with
  | 0 => .int
  | 1 => .array .long
  | 2 => .int
  | 3 => .int
  | 4 => .int
  | 5 => .array .int
  | 6 => .array .int
  | 7 => .array .int
  | 8 => .array .int
  | 9 => .array .int
  | 10 => .array .int
  | _ => .object "TrajectoryRails$Code"
abbrev wsX30 : List Cond := u_ws RX3 TX3 12
theorem nmX3 : ∀ a, a < 12 → ∀ b, b < 12 → a ≠ b → (TX3 a).2.1 ≠ (TX3 b).2.1 := by decide +kernel
theorem tyX3_ok : ∀ k, k < 12 → parseFieldDescriptor (TX3 k).2.2.1 = some (tyX3 k) := by decide +kernel
abbrev cX3_init : ByteArray := prog_5_method_1_code
def yX3_init : MethodName := ⟨RX3, "<init>", "()V"⟩
abbrev cX3_clear : ByteArray := prog_5_method_2_code
def yX3_clear : MethodName := ⟨RX3, "clear", "()V"⟩
abbrev cX3_variable : ByteArray := prog_5_method_3_code
def yX3_variable : MethodName := ⟨RX3, "variable", "(J)I"⟩
abbrev cX3_setTimes : ByteArray := prog_5_method_4_code
def yX3_setTimes : MethodName := ⟨RX3, "setTimes", "(III)V"⟩
def RX4 : String := "TrajectoryRails$ClaimReader"
def TX4 : u_T := fun k => match k with
  | 0 => ("TrajectoryRails$Reader", "tokens", "LTrajectoryRails$Tokens;", true)
  | 1 => ("TrajectoryRails$Reader", "code", "LTrajectoryRails$Code;", false)
  | 2 => ("TrajectoryRails$Reader", "atoms", "I", false)
  | 3 => ("TrajectoryRails$Reader", "waiting", "[I", true)
  | 4 => ("TrajectoryRails$Reader", "waits", "I", false)
  | 5 => ("TrajectoryRails$Reader", "depth", "I", false)
  | 6 => ("TrajectoryRails$ClaimReader", "claim", "LTrajectoryRails$Claim;", false)
  | _ => ("TrajectoryRails$ClaimReader", "circuit", "LTrajectoryRails$Circuit;", false)
def tyX4 : Nat → FieldType := fun k => match k with
  | 0 => .object "TrajectoryRails$Tokens"
  | 1 => .object "TrajectoryRails$Code"
  | 2 => .int
  | 3 => .array .int
  | 4 => .int
  | 5 => .int
  | 6 => .object "TrajectoryRails$Claim"
  | _ => .object "TrajectoryRails$Circuit"
abbrev wsX40 : List Cond := u_ws RX4 TX4 8
theorem nmX4 : ∀ a, a < 8 → ∀ b, b < 8 → a ≠ b → (TX4 a).2.1 ≠ (TX4 b).2.1 := by decide +kernel
theorem tyX4_ok : ∀ k, k < 8 → parseFieldDescriptor (TX4 k).2.2.1 = some (tyX4 k) := by decide +kernel
abbrev cX4_init : ByteArray := prog_6_method_1_code
def yX4_init : MethodName := ⟨RX4, "<init>", "(LTrajectoryRails$Tokens;)V"⟩
abbrev cX4_read : ByteArray := prog_6_method_2_code
def yX4_read : MethodName := ⟨RX4, "read", "(LTrajectoryRails$Claim;LTrajectoryRails$Circuit;)I"⟩
abbrev cX4_takeClauses : ByteArray := prog_6_method_3_code
def yX4_takeClauses : MethodName := ⟨RX4, "takeClauses", "()Z"⟩
abbrev cX4_takeClause : ByteArray := prog_6_method_4_code
def yX4_takeClause : MethodName := ⟨RX4, "takeClause", "()Z"⟩
abbrev cX4_takeTimes : ByteArray := prog_6_method_5_code
def yX4_takeTimes : MethodName := ⟨RX4, "takeTimes", "(I)Z"⟩
abbrev cX4_takeTime : ByteArray := prog_6_method_6_code
def yX4_takeTime : MethodName := ⟨RX4, "takeTime", "(I)I"⟩
abbrev cX4_takeLeaf : ByteArray := prog_6_method_7_code
def yX4_takeLeaf : MethodName := ⟨RX4, "takeLeaf", "()Z"⟩
def RX5 : String := "TrajectoryRails$Code"
def TX5 : u_T := fun k => match k with
  | 0 => ("TrajectoryRails$Code", "steps", "[I", true)
  | _ => ("TrajectoryRails$Code", "size", "I", false)
def tyX5 : Nat → FieldType := fun k => match k with
  | 0 => .array .int
  | _ => .int
abbrev wsX50 : List Cond := u_ws RX5 TX5 2
theorem nmX5 : ∀ a, a < 2 → ∀ b, b < 2 → a ≠ b → (TX5 a).2.1 ≠ (TX5 b).2.1 := by decide +kernel
theorem tyX5_ok : ∀ k, k < 2 → parseFieldDescriptor (TX5 k).2.2.1 = some (tyX5 k) := by decide +kernel
abbrev cX5_init : ByteArray := prog_7_method_1_code
def yX5_init : MethodName := ⟨RX5, "<init>", "()V"⟩
abbrev cX5_add : ByteArray := prog_7_method_2_code
def yX5_add : MethodName := ⟨RX5, "add", "(I)V"⟩
abbrev cX5_at : ByteArray := prog_7_method_3_code
def yX5_at : MethodName := ⟨RX5, "at", "(I)I"⟩
abbrev cX5_set : ByteArray := prog_7_method_4_code
def yX5_set : MethodName := ⟨RX5, "set", "(II)V"⟩
def RX6 : String := "TrajectoryRails$Reader"
def TX6 : u_T := fun k => match k with
  | _ => ("", "", "", false)
def tyX6 : Nat → FieldType := fun k => match k with
  | _ => .int
abbrev wsX60 : List Cond := u_ws RX6 TX6 0
theorem nmX6 : ∀ a, a < 0 → ∀ b, b < 0 → a ≠ b → (TX6 a).2.1 ≠ (TX6 b).2.1 := by decide +kernel
theorem tyX6_ok : ∀ k, k < 0 → parseFieldDescriptor (TX6 k).2.2.1 = some (tyX6 k) := by decide +kernel
abbrev cX6_init : ByteArray := prog_8_method_1_code
def yX6_init : MethodName := ⟨RX6, "<init>", "(LTrajectoryRails$Tokens;)V"⟩
abbrev cX6_begin : ByteArray := prog_8_method_3_code
def yX6_begin : MethodName := ⟨RX6, "begin", "(LTrajectoryRails$Code;)V"⟩
abbrev cX6_takeSign : ByteArray := prog_8_method_4_code
def yX6_takeSign : MethodName := ⟨RX6, "takeSign", "(I)Z"⟩
abbrev cX6_takeWord : ByteArray := prog_8_method_5_code
def yX6_takeWord : MethodName := ⟨RX6, "takeWord", "(J)Z"⟩
abbrev cX6_takeFormula : ByteArray := prog_8_method_6_code
def yX6_takeFormula : MethodName := ⟨RX6, "takeFormula", "()Z"⟩
abbrev cX6_takeOpeners : ByteArray := prog_8_method_7_code
def yX6_takeOpeners : MethodName := ⟨RX6, "takeOpeners", "()Z"⟩
abbrev cX6_takeClosers : ByteArray := prog_8_method_8_code
def yX6_takeClosers : MethodName := ⟨RX6, "takeClosers", "()V"⟩
abbrev cX6_letWait : ByteArray := prog_8_method_9_code
def yX6_letWait : MethodName := ⟨RX6, "letWait", "(I)V"⟩
abbrev cX6_setFree : ByteArray := prog_8_method_10_code
def yX6_setFree : MethodName := ⟨RX6, "setFree", "(I)V"⟩
abbrev cX6_strengthOf : ByteArray := prog_8_method_11_code
def yX6_strengthOf : MethodName := ⟨RX6, "strengthOf", "(I)I"⟩
abbrev cX6_takeAtom : ByteArray := prog_8_method_12_code
def yX6_takeAtom : MethodName := ⟨RX6, "takeAtom", "()Z"⟩
def RX7 : String := "TrajectoryRails$Stack"
def TX7 : u_T := fun k => match k with
  | 0 => ("TrajectoryRails$Stack", "ones", "[J", true)
  | 1 => ("TrajectoryRails$Stack", "zeros", "[J", true)
  | _ => ("TrajectoryRails$Stack", "size", "I", false)
def tyX7 : Nat → FieldType := fun k => match k with
  | 0 => .array .long
  | 1 => .array .long
  | _ => .int
abbrev wsX70 : List Cond := u_ws RX7 TX7 3
theorem nmX7 : ∀ a, a < 3 → ∀ b, b < 3 → a ≠ b → (TX7 a).2.1 ≠ (TX7 b).2.1 := by decide +kernel
theorem tyX7_ok : ∀ k, k < 3 → parseFieldDescriptor (TX7 k).2.2.1 = some (tyX7 k) := by decide +kernel
abbrev cX7_init : ByteArray := prog_9_method_1_code
def yX7_init : MethodName := ⟨RX7, "<init>", "()V"⟩
abbrev cX7_run : ByteArray := prog_9_method_2_code
def yX7_run : MethodName := ⟨RX7, "run", "(LTrajectoryRails$Code;II[J[JI)V"⟩
abbrev cX7_ones : ByteArray := prog_9_method_3_code
def yX7_ones : MethodName := ⟨RX7, "ones", "()J"⟩
abbrev cX7_zeros : ByteArray := prog_9_method_4_code
def yX7_zeros : MethodName := ⟨RX7, "zeros", "()J"⟩
abbrev cX7_push : ByteArray := prog_9_method_5_code
def yX7_push : MethodName := ⟨RX7, "push", "(JJ)V"⟩
abbrev cX7_apply : ByteArray := prog_9_method_6_code
def yX7_apply : MethodName := ⟨RX7, "apply", "(I)V"⟩
abbrev cX7_invert : ByteArray := prog_9_method_7_code
def yX7_invert : MethodName := ⟨RX7, "invert", "()V"⟩
abbrev cX7_join : ByteArray := prog_9_method_8_code
def yX7_join : MethodName := ⟨RX7, "join", "(I)V"⟩
def RX8 : String := "TrajectoryRails$Tape"
def TX8 : u_T := fun k => match k with
  | 0 => ("TrajectoryRails$Tape", "bytes", "[B", true)
  | _ => ("TrajectoryRails$Tape", "length", "I", false)
def tyX8 : Nat → FieldType := fun k => match k with
  | 0 => .array .byte
  | _ => .int
abbrev wsX80 : List Cond := u_ws RX8 TX8 2
theorem nmX8 : ∀ a, a < 2 → ∀ b, b < 2 → a ≠ b → (TX8 a).2.1 ≠ (TX8 b).2.1 := by decide +kernel
theorem tyX8_ok : ∀ k, k < 2 → parseFieldDescriptor (TX8 k).2.2.1 = some (tyX8 k) := by decide +kernel
abbrev cX8_init : ByteArray := prog_10_method_1_code
def yX8_init : MethodName := ⟨RX8, "<init>", "()V"⟩
abbrev cX8_put : ByteArray := prog_10_method_2_code
def yX8_put : MethodName := ⟨RX8, "put", "(I)V"⟩
abbrev cX8_byteAt : ByteArray := prog_10_method_3_code
def yX8_byteAt : MethodName := ⟨RX8, "byteAt", "(I)I"⟩
def RX9 : String := "TrajectoryRails$Tokens"
def TX9 : u_T := fun k => match k with
  | 0 => ("TrajectoryRails$Tokens", "tape", "LTrajectoryRails$Tape;", true)
  | 1 => ("TrajectoryRails$Tokens", "kinds", "[I", true)
  | 2 => ("TrajectoryRails$Tokens", "places", "[I", true)
  | 3 => ("TrajectoryRails$Tokens", "keys", "[J", true)
  | 4 => ("TrajectoryRails$Tokens", "size", "I", false)
  | _ => ("TrajectoryRails$Tokens", "cursor", "I", false)
def tyX9 : Nat → FieldType := fun k => match k with
  | 0 => .object "TrajectoryRails$Tape"
  | 1 => .array .int
  | 2 => .array .int
  | 3 => .array .long
  | 4 => .int
  | _ => .int
abbrev wsX90 : List Cond := u_ws RX9 TX9 6
theorem nmX9 : ∀ a, a < 6 → ∀ b, b < 6 → a ≠ b → (TX9 a).2.1 ≠ (TX9 b).2.1 := by decide +kernel
theorem tyX9_ok : ∀ k, k < 6 → parseFieldDescriptor (TX9 k).2.2.1 = some (tyX9 k) := by decide +kernel
abbrev cX9_init : ByteArray := prog_11_method_1_code
def yX9_init : MethodName := ⟨RX9, "<init>", "(LTrajectoryRails$Tape;)V"⟩
abbrev cX9_scan : ByteArray := prog_11_method_2_code
def yX9_scan : MethodName := ⟨RX9, "scan", "()V"⟩
abbrev cX9_addToken : ByteArray := prog_11_method_3_code
def yX9_addToken : MethodName := ⟨RX9, "addToken", "(II)I"⟩
abbrev cX9_stopOf : ByteArray := prog_11_method_4_code
def yX9_stopOf : MethodName := ⟨RX9, "stopOf", "(II)I"⟩
abbrev cX9_goesOn : ByteArray := prog_11_method_5_code
def yX9_goesOn : MethodName := ⟨RX9, "goesOn", "(II)Z"⟩
abbrev cX9_kindOf : ByteArray := prog_11_method_6_code
def yX9_kindOf : MethodName := ⟨RX9, "kindOf", "(I)I"⟩
abbrev cX9_longest : ByteArray := prog_11_method_7_code
def yX9_longest : MethodName := ⟨RX9, "longest", "(I)I"⟩
abbrev cX9_isReserved : ByteArray := prog_11_method_8_code
def yX9_isReserved : MethodName := ⟨RX9, "isReserved", "(J)Z"⟩
abbrev cX9_isSmall : ByteArray := prog_11_method_9_code
def yX9_isSmall : MethodName := ⟨RX9, "isSmall", "(I)Z"⟩
abbrev cX9_isCapital : ByteArray := prog_11_method_10_code
def yX9_isCapital : MethodName := ⟨RX9, "isCapital", "(I)Z"⟩
abbrev cX9_isDigit : ByteArray := prog_11_method_11_code
def yX9_isDigit : MethodName := ⟨RX9, "isDigit", "(I)Z"⟩
abbrev cX9_kind : ByteArray := prog_11_method_12_code
def yX9_kind : MethodName := ⟨RX9, "kind", "()I"⟩
abbrev cX9_place : ByteArray := prog_11_method_13_code
def yX9_place : MethodName := ⟨RX9, "place", "()I"⟩
abbrev cX9_key : ByteArray := prog_11_method_14_code
def yX9_key : MethodName := ⟨RX9, "key", "()J"⟩
abbrev cX9_index : ByteArray := prog_11_method_15_code
def yX9_index : MethodName := ⟨RX9, "index", "()I"⟩
abbrev cX9_placeAt : ByteArray := prog_11_method_16_code
def yX9_placeAt : MethodName := ⟨RX9, "placeAt", "(I)I"⟩
abbrev cX9_keyAt : ByteArray := prog_11_method_17_code
def yX9_keyAt : MethodName := ⟨RX9, "keyAt", "(I)J"⟩
abbrev cX9_number : ByteArray := prog_11_method_18_code
def yX9_number : MethodName := ⟨RX9, "number", "()I"⟩
abbrev cX9_step : ByteArray := prog_11_method_19_code
def yX9_step : MethodName := ⟨RX9, "step", "()V"⟩
def RX10 : String := "TrajectoryRails"
def TX10 : u_T := fun k => match k with
  | 0 => ("TrajectoryRails", "tape", "LTrajectoryRails$Tape;", true)
  | 1 => ("TrajectoryRails", "circuitReader", "LTrajectoryRails$CircuitReader;", true)
  | 2 => ("TrajectoryRails", "claimReader", "LTrajectoryRails$ClaimReader;", true)
  | 3 => ("TrajectoryRails", "check", "LTrajectoryRails$Check;", true)
  | 4 => ("TrajectoryRails", "circuitNow", "LTrajectoryRails$Circuit;", false)
  | 5 => ("TrajectoryRails", "circuitSpare", "LTrajectoryRails$Circuit;", false)
  | 6 => ("TrajectoryRails", "claimNow", "LTrajectoryRails$Claim;", false)
  | 7 => ("TrajectoryRails", "claimSpare", "LTrajectoryRails$Claim;", false)
  | _ => ("TrajectoryRails", "hasClaim", "Z", false)
def tyX10 : Nat → FieldType := fun k => match k with
  | 0 => .object "TrajectoryRails$Tape"
  | 1 => .object "TrajectoryRails$CircuitReader"
  | 2 => .object "TrajectoryRails$ClaimReader"
  | 3 => .object "TrajectoryRails$Check"
  | 4 => .object "TrajectoryRails$Circuit"
  | 5 => .object "TrajectoryRails$Circuit"
  | 6 => .object "TrajectoryRails$Claim"
  | 7 => .object "TrajectoryRails$Claim"
  | _ => .boolean
abbrev wsX100 : List Cond := u_ws RX10 TX10 9
theorem nmX10 : ∀ a, a < 9 → ∀ b, b < 9 → a ≠ b → (TX10 a).2.1 ≠ (TX10 b).2.1 := by decide +kernel
theorem tyX10_ok : ∀ k, k < 9 → parseFieldDescriptor (TX10 k).2.2.1 = some (tyX10 k) := by decide +kernel
abbrev cX10_init : ByteArray := prog_1_method_1_code
def yX10_init : MethodName := ⟨RX10, "<init>", "()V"⟩
abbrev cX10_feed : ByteArray := prog_1_method_2_code
def yX10_feed : MethodName := ⟨RX10, "feed", "(IIIII)I"⟩
abbrev cX10_end : ByteArray := prog_1_method_3_code
def yX10_end : MethodName := ⟨RX10, "end", "(I)I"⟩
abbrev cX10_circuit : ByteArray := prog_1_method_4_code
def yX10_circuit : MethodName := ⟨RX10, "circuit", "()I"⟩
abbrev cX10_assertion : ByteArray := prog_1_method_5_code
def yX10_assertion : MethodName := ⟨RX10, "assertion", "()I"⟩
abbrev cX10_fails : ByteArray := prog_1_method_6_code
def yX10_fails : MethodName := ⟨RX10, "fails", "()I"⟩
abbrev cX10_excluded : ByteArray := prog_1_method_7_code
def yX10_excluded : MethodName := ⟨RX10, "excluded", "()I"⟩
abbrev cX10_failing : ByteArray := prog_1_method_8_code
def yX10_failing : MethodName := ⟨RX10, "failing", "(I)I"⟩
abbrev cX10_shortfall : ByteArray := prog_1_method_9_code
def yX10_shortfall : MethodName := ⟨RX10, "shortfall", "(II)I"⟩
abbrev cX10_value : ByteArray := prog_1_method_10_code
def yX10_value : MethodName := ⟨RX10, "value", "(III)I"⟩
abbrev cX10_matters : ByteArray := prog_1_method_11_code
def yX10_matters : MethodName := ⟨RX10, "matters", "(III)I"⟩
abbrev cX10_cone : ByteArray := prog_1_method_12_code
def yX10_cone : MethodName := ⟨RX10, "cone", "(I)I"⟩
abbrev cX10_count : ByteArray := prog_1_method_13_code
def yX10_count : MethodName := ⟨RX10, "count", "(I)I"⟩
abbrev cX10_hasPlace : ByteArray := prog_1_method_14_code
def yX10_hasPlace : MethodName := ⟨RX10, "hasPlace", "(II)Z"⟩
def RX11 : String := "TrajectoryRailsModel$Claims"
def TX11 : u_T := fun k => match k with
  | 0 => ("TrajectoryRailsModel$Claims", "node", "[I", true)
  | 1 => ("TrajectoryRailsModel$Claims", "is", "[I", true)
  | 2 => ("TrajectoryRailsModel$Claims", "when", "[I", true)
  | 3 => ("TrajectoryRailsModel$Claims", "first", "[I", true)
  | 4 => ("TrajectoryRailsModel$Claims", "last", "[I", true)
  | 5 => ("TrajectoryRailsModel$Claims", "variable", "[J", true)
  | 6 => ("TrajectoryRailsModel$Claims", "given", "I", false)
  | 7 => ("TrajectoryRailsModel$Claims", "behind", "I", false)
  | 8 => ("TrajectoryRailsModel$Claims", "variables", "I", false)
  | _ => ("TrajectoryRailsModel$Claims", "end", "I", false)
def tyX11 : Nat → FieldType := fun k => match k with
  | 0 => .array .int
  | 1 => .array .int
  | 2 => .array .int
  | 3 => .array .int
  | 4 => .array .int
  | 5 => .array .long
  | 6 => .int
  | 7 => .int
  | 8 => .int
  | _ => .int
abbrev wsX110 : List Cond := u_ws RX11 TX11 10
theorem nmX11 : ∀ a, a < 10 → ∀ b, b < 10 → a ≠ b → (TX11 a).2.1 ≠ (TX11 b).2.1 := by decide +kernel
theorem tyX11_ok : ∀ k, k < 10 → parseFieldDescriptor (TX11 k).2.2.1 = some (tyX11 k) := by decide +kernel
abbrev cX11_init : ByteArray := prog_14_method_1_code
def yX11_init : MethodName := ⟨RX11, "<init>", "()V"⟩
def RX12 : String := "TrajectoryRailsModel$Nodes"
def TX12 : u_T := fun k => match k with
  | 0 => ("TrajectoryRailsModel$Nodes", "name", "[J", true)
  | 1 => ("TrajectoryRailsModel$Nodes", "kind", "[I", true)
  | 2 => ("TrajectoryRailsModel$Nodes", "tree", "[I", true)
  | 3 => ("TrajectoryRailsModel$Nodes", "from", "[I", true)
  | _ => ("TrajectoryRailsModel$Nodes", "count", "I", false)
def tyX12 : Nat → FieldType := fun k => match k with
  | 0 => .array .long
  | 1 => .array .int
  | 2 => .array .int
  | 3 => .array .int
  | _ => .int
abbrev wsX120 : List Cond := u_ws RX12 TX12 5
theorem nmX12 : ∀ a, a < 5 → ∀ b, b < 5 → a ≠ b → (TX12 a).2.1 ≠ (TX12 b).2.1 := by decide +kernel
theorem tyX12_ok : ∀ k, k < 5 → parseFieldDescriptor (TX12 k).2.2.1 = some (tyX12 k) := by decide +kernel
abbrev cX12_init : ByteArray := prog_15_method_1_code
def yX12_init : MethodName := ⟨RX12, "<init>", "()V"⟩
def RX13 : String := "TrajectoryRailsModel$Trees"
def TX13 : u_T := fun k => match k with
  | 0 => ("TrajectoryRailsModel$Trees", "op", "[I", true)
  | 1 => ("TrajectoryRailsModel$Trees", "left", "[I", true)
  | 2 => ("TrajectoryRailsModel$Trees", "right", "[I", true)
  | 3 => ("TrajectoryRailsModel$Trees", "name", "[J", true)
  | 4 => ("TrajectoryRailsModel$Trees", "from", "[I", true)
  | _ => ("TrajectoryRailsModel$Trees", "count", "I", false)
def tyX13 : Nat → FieldType := fun k => match k with
  | 0 => .array .int
  | 1 => .array .int
  | 2 => .array .int
  | 3 => .array .long
  | 4 => .array .int
  | _ => .int
abbrev wsX130 : List Cond := u_ws RX13 TX13 6
theorem nmX13 : ∀ a, a < 6 → ∀ b, b < 6 → a ≠ b → (TX13 a).2.1 ≠ (TX13 b).2.1 := by decide +kernel
theorem tyX13_ok : ∀ k, k < 6 → parseFieldDescriptor (TX13 k).2.2.1 = some (tyX13 k) := by decide +kernel
abbrev cX13_init : ByteArray := prog_16_method_1_code
def yX13_init : MethodName := ⟨RX13, "<init>", "()V"⟩
def RX14 : String := "TrajectoryRailsModel"
def TX14 : u_T := fun k => match k with
  | 0 => ("TrajectoryRailsModel", "tape", "[B", true)
  | 1 => ("TrajectoryRailsModel", "tapeLength", "I", false)
  | 2 => ("TrajectoryRailsModel", "kind", "[I", true)
  | 3 => ("TrajectoryRailsModel", "word", "[J", true)
  | 4 => ("TrajectoryRailsModel", "place", "[I", true)
  | 5 => ("TrajectoryRailsModel", "size", "[I", true)
  | 6 => ("TrajectoryRailsModel", "tokens", "I", false)
  | 7 => ("TrajectoryRailsModel", "at", "I", false)
  | 8 => ("TrajectoryRailsModel", "fault", "I", false)
  | 9 => ("TrajectoryRailsModel", "trees", "LTrajectoryRailsModel$Trees;", false)
  | 10 => ("TrajectoryRailsModel", "spare", "LTrajectoryRailsModel$Trees;", false)
  | 11 => ("TrajectoryRailsModel", "nodes", "LTrajectoryRailsModel$Nodes;", false)
  | 12 => ("TrajectoryRailsModel", "spareNodes", "LTrajectoryRailsModel$Nodes;", false)
  | 13 => ("TrajectoryRailsModel", "claims", "LTrajectoryRailsModel$Claims;", false)
  | 14 => ("TrajectoryRailsModel", "spareClaims", "LTrajectoryRailsModel$Claims;", false)
  | 15 => ("TrajectoryRailsModel", "claimTrees", "LTrajectoryRailsModel$Trees;", false)
  | 16 => ("TrajectoryRailsModel", "spareClaimTrees", "LTrajectoryRailsModel$Trees;", false)
  | 17 => ("TrajectoryRailsModel", "now", "LTrajectoryRailsModel$Trees;", false)
  | 18 => ("TrajectoryRailsModel", "making", "LTrajectoryRailsModel$Nodes;", false)
  | 19 => ("TrajectoryRailsModel", "claiming", "LTrajectoryRailsModel$Claims;", false)
  | 20 => ("TrajectoryRailsModel", "ofNodes", "Z", false)
  | 21 => ("TrajectoryRailsModel", "atoms", "I", false)
  | 22 => ("TrajectoryRailsModel", "circuit", "Z", false)
  | 23 => ("TrajectoryRailsModel", "values", "[B", true)
  | 24 => ("TrajectoryRailsModel", "excluded", "[Z", true)
  | 25 => ("TrajectoryRailsModel", "failed", "[Z", true)
  | 26 => ("TrajectoryRailsModel", "firstClause", "[I", true)
  | 27 => ("TrajectoryRailsModel", "firstTime", "[I", true)
  | 28 => ("TrajectoryRailsModel", "ready", "[Z", true)
  | 29 => ("TrajectoryRailsModel", "assignment", "I", false)
  | _ => ("TrajectoryRailsModel", "reached", "[Z", true)
def tyX14 : Nat → FieldType := fun k => match k with
  | 0 => .array .byte
  | 1 => .int
  | 2 => .array .int
  | 3 => .array .long
  | 4 => .array .int
  | 5 => .array .int
  | 6 => .int
  | 7 => .int
  | 8 => .int
  | 9 => .object "TrajectoryRailsModel$Trees"
  | 10 => .object "TrajectoryRailsModel$Trees"
  | 11 => .object "TrajectoryRailsModel$Nodes"
  | 12 => .object "TrajectoryRailsModel$Nodes"
  | 13 => .object "TrajectoryRailsModel$Claims"
  | 14 => .object "TrajectoryRailsModel$Claims"
  | 15 => .object "TrajectoryRailsModel$Trees"
  | 16 => .object "TrajectoryRailsModel$Trees"
  | 17 => .object "TrajectoryRailsModel$Trees"
  | 18 => .object "TrajectoryRailsModel$Nodes"
  | 19 => .object "TrajectoryRailsModel$Claims"
  | 20 => .boolean
  | 21 => .int
  | 22 => .boolean
  | 23 => .array .byte
  | 24 => .array .boolean
  | 25 => .array .boolean
  | 26 => .array .int
  | 27 => .array .int
  | 28 => .array .boolean
  | 29 => .int
  | _ => .array .boolean
abbrev wsX140 : List Cond := u_ws RX14 TX14 31
theorem nmX14 : ∀ a, a < 31 → ∀ b, b < 31 → a ≠ b → (TX14 a).2.1 ≠ (TX14 b).2.1 := by decide +kernel
theorem tyX14_ok : ∀ k, k < 31 → parseFieldDescriptor (TX14 k).2.2.1 = some (tyX14 k) := by decide +kernel
abbrev cX14_init : ByteArray := prog_13_method_1_code
def yX14_init : MethodName := ⟨RX14, "<init>", "()V"⟩
abbrev cX14_put : ByteArray := prog_13_method_2_code
def yX14_put : MethodName := ⟨RX14, "put", "(I)V"⟩
abbrev cX14_feed : ByteArray := prog_13_method_3_code
def yX14_feed : MethodName := ⟨RX14, "feed", "(IIIII)I"⟩
abbrev cX14_end : ByteArray := prog_13_method_4_code
def yX14_end : MethodName := ⟨RX14, "end", "(I)I"⟩
abbrev cX14_byteAt : ByteArray := prog_13_method_5_code
def yX14_byteAt : MethodName := ⟨RX14, "byteAt", "(I)I"⟩
abbrev cX14_digit : ByteArray := prog_13_method_6_code
def yX14_digit : MethodName := ⟨RX14, "digit", "(I)Z"⟩
abbrev cX14_small : ByteArray := prog_13_method_7_code
def yX14_small : MethodName := ⟨RX14, "small", "(I)Z"⟩
abbrev cX14_capital : ByteArray := prog_13_method_8_code
def yX14_capital : MethodName := ⟨RX14, "capital", "(I)Z"⟩
abbrev cX14_readTokens : ByteArray := prog_13_method_9_code
def yX14_readTokens : MethodName := ⟨RX14, "readTokens", "()V"⟩
abbrev cX14_here : ByteArray := prog_13_method_10_code
def yX14_here : MethodName := ⟨RX14, "here", "(I)Z"⟩
abbrev cX14_check : ByteArray := prog_13_method_11_code
def yX14_check : MethodName := ⟨RX14, "check", "(Z)V"⟩
abbrev cX14_take : ByteArray := prog_13_method_12_code
def yX14_take : MethodName := ⟨RX14, "take", "(I)V"⟩
abbrev cX14_tree : ByteArray := prog_13_method_13_code
def yX14_tree : MethodName := ⟨RX14, "tree", "(III)I"⟩
abbrev cX14_ors : ByteArray := prog_13_method_14_code
def yX14_ors : MethodName := ⟨RX14, "ors", "(I)I"⟩
abbrev cX14_xors : ByteArray := prog_13_method_15_code
def yX14_xors : MethodName := ⟨RX14, "xors", "(I)I"⟩
abbrev cX14_ands : ByteArray := prog_13_method_16_code
def yX14_ands : MethodName := ⟨RX14, "ands", "(I)I"⟩
abbrev cX14_not : ByteArray := prog_13_method_17_code
def yX14_not : MethodName := ⟨RX14, "not", "(I)I"⟩
abbrev cX14_atom : ByteArray := prog_13_method_18_code
def yX14_atom : MethodName := ⟨RX14, "atom", "(I)I"⟩
abbrev cX14_variable : ByteArray := prog_13_method_19_code
def yX14_variable : MethodName := ⟨RX14, "variable", "()I"⟩
abbrev cX14_find : ByteArray := prog_13_method_20_code
def yX14_find : MethodName := ⟨RX14, "find", "(LTrajectoryRailsModel$Nodes;J)I"⟩
abbrev cX14_declare : ByteArray := prog_13_method_21_code
def yX14_declare : MethodName := ⟨RX14, "declare", "(I)V"⟩
abbrev cX14_item : ByteArray := prog_13_method_22_code
def yX14_item : MethodName := ⟨RX14, "item", "()V"⟩
abbrev cX14_names : ByteArray := prog_13_method_23_code
def yX14_names : MethodName := ⟨RX14, "names", "(II)Z"⟩
abbrev cX14_reach : ByteArray := prog_13_method_24_code
def yX14_reach : MethodName := ⟨RX14, "reach", "(LTrajectoryRailsModel$Nodes;IZ)V"⟩
abbrev cX14_finish : ByteArray := prog_13_method_25_code
def yX14_finish : MethodName := ⟨RX14, "finish", "()V"⟩
abbrev cX14_circuit : ByteArray := prog_13_method_26_code
def yX14_circuit : MethodName := ⟨RX14, "circuit", "()I"⟩
abbrev cX14_number : ByteArray := prog_13_method_27_code
def yX14_number : MethodName := ⟨RX14, "number", "(I)I"⟩
abbrev cX14_clause : ByteArray := prog_13_method_28_code
def yX14_clause : MethodName := ⟨RX14, "clause", "(I)V"⟩
abbrev cX14_part : ByteArray := prog_13_method_29_code
def yX14_part : MethodName := ⟨RX14, "part", "(I)I"⟩
abbrev cX14_assertion : ByteArray := prog_13_method_30_code
def yX14_assertion : MethodName := ⟨RX14, "assertion", "()I"⟩
abbrev cX14_cell : ByteArray := prog_13_method_31_code
def yX14_cell : MethodName := ⟨RX14, "cell", "(III)I"⟩
abbrev cX14_variable_ : ByteArray := prog_13_method_32_code
def yX14_variable_ : MethodName := ⟨RX14, "variable", "(I)Z"⟩
abbrev cX14_holds : ByteArray := prog_13_method_33_code
def yX14_holds : MethodName := ⟨RX14, "holds", "(I)Z"⟩
abbrev cX14_valueOf : ByteArray := prog_13_method_34_code
def yX14_valueOf : MethodName := ⟨RX14, "valueOf", "(IIZ)I"⟩
abbrev cX14_covers : ByteArray := prog_13_method_35_code
def yX14_covers : MethodName := ⟨RX14, "covers", "(LTrajectoryRailsModel$Claims;III)Z"⟩
abbrev cX14_applies : ByteArray := prog_13_method_36_code
def yX14_applies : MethodName := ⟨RX14, "applies", "(I)Z"⟩
abbrev cX14_work : ByteArray := prog_13_method_37_code
def yX14_work : MethodName := ⟨RX14, "work", "(II)V"⟩
abbrev cX14_judge : ByteArray := prog_13_method_38_code
def yX14_judge : MethodName := ⟨RX14, "judge", "(I)V"⟩
abbrev cX14_all : ByteArray := prog_13_method_39_code
def yX14_all : MethodName := ⟨RX14, "all", "()I"⟩
abbrev cX14_fails : ByteArray := prog_13_method_40_code
def yX14_fails : MethodName := ⟨RX14, "fails", "()I"⟩
abbrev cX14_excluded : ByteArray := prog_13_method_41_code
def yX14_excluded : MethodName := ⟨RX14, "excluded", "()I"⟩
abbrev cX14_failing : ByteArray := prog_13_method_42_code
def yX14_failing : MethodName := ⟨RX14, "failing", "(I)I"⟩
abbrev cX14_shortfall : ByteArray := prog_13_method_43_code
def yX14_shortfall : MethodName := ⟨RX14, "shortfall", "(II)I"⟩
abbrev cX14_isPlace : ByteArray := prog_13_method_44_code
def yX14_isPlace : MethodName := ⟨RX14, "isPlace", "(II)Z"⟩
abbrev cX14_value : ByteArray := prog_13_method_45_code
def yX14_value : MethodName := ⟨RX14, "value", "(III)I"⟩
abbrev cX14_matters : ByteArray := prog_13_method_46_code
def yX14_matters : MethodName := ⟨RX14, "matters", "(III)I"⟩
abbrev cX14_cone : ByteArray := prog_13_method_47_code
def yX14_cone : MethodName := ⟨RX14, "cone", "(I)I"⟩
abbrev cX14_kinds : ByteArray := prog_13_method_48_code
def yX14_kinds : MethodName := ⟨RX14, "kinds", "(I)I"⟩
abbrev cX14_count : ByteArray := prog_13_method_49_code
def yX14_count : MethodName := ⟨RX14, "count", "(I)I"⟩
def RJ11 : String := "java/lang/Character"
def TJ11 : u_T := fun k => match k with
  | _ => ("", "", "", false)
def tyJ11 : Nat → FieldType := fun k => match k with
  | _ => .int
abbrev wsJ110 : List Cond := u_ws RJ11 TJ11 0
theorem nmJ11 : ∀ a, a < 0 → ∀ b, b < 0 → a ≠ b → (TJ11 a).2.1 ≠ (TJ11 b).2.1 := by decide +kernel
theorem tyJ11_ok : ∀ k, k < 0 → parseFieldDescriptor (TJ11 k).2.2.1 = some (tyJ11 k) := by decide +kernel
abbrev cJ11_isValidCodePoint_9a6ad : ByteArray := prog_17_method_11_code
def yJ11_isValidCodePoint_9a6ad : MethodName := ⟨RJ11, "isValidCodePoint", "(I)Z"⟩
abbrev cJ11_highSurrogate_5068e : ByteArray := prog_17_method_28_code
def yJ11_highSurrogate_5068e : MethodName := ⟨RJ11, "highSurrogate", "(I)C"⟩
abbrev cJ11_lowSurrogate_5068e : ByteArray := prog_17_method_29_code
def yJ11_lowSurrogate_5068e : MethodName := ⟨RJ11, "lowSurrogate", "(I)C"⟩
def RJ13 : String := "java/lang/Long"
def TJ13 : u_T := fun k => match k with
  | _ => ("", "", "", false)
def tyJ13 : Nat → FieldType := fun k => match k with
  | _ => .int
abbrev wsJ130 : List Cond := u_ws RJ13 TJ13 0
theorem nmJ13 : ∀ a, a < 0 → ∀ b, b < 0 → a ≠ b → (TJ13 a).2.1 ≠ (TJ13 b).2.1 := by decide +kernel
theorem tyJ13_ok : ∀ k, k < 0 → parseFieldDescriptor (TJ13 k).2.2.1 = some (tyJ13 k) := by decide +kernel
abbrev cJ13_bitCount_95d88 : ByteArray := prog_20_method_50_code
def yJ13_bitCount_95d88 : MethodName := ⟨RJ13, "bitCount", "(J)I"⟩
def RJ9 : String := "java/lang/Math"
def TJ9 : u_T := fun k => match k with
  | _ => ("", "", "", false)
def tyJ9 : Nat → FieldType := fun k => match k with
  | _ => .int
abbrev wsJ90 : List Cond := u_ws RJ9 TJ9 0
theorem nmJ9 : ∀ a, a < 0 → ∀ b, b < 0 → a ≠ b → (TJ9 a).2.1 ≠ (TJ9 b).2.1 := by decide +kernel
theorem tyJ9_ok : ∀ k, k < 0 → parseFieldDescriptor (TJ9 k).2.2.1 = some (tyJ9 k) := by decide +kernel
abbrev cJ9_max_7cf53 : ByteArray := prog_21_method_65_code
def yJ9_max_7cf53 : MethodName := ⟨RJ9, "max", "(II)I"⟩
abbrev cJ9_min_7cf53 : ByteArray := prog_21_method_69_code
def yJ9_min_7cf53 : MethodName := ⟨RJ9, "min", "(II)I"⟩
def RJ0 : String := "java/lang/String"
def TJ0 : u_T := fun k => match k with
  | _ => ("", "", "", false)
def tyJ0 : Nat → FieldType := fun k => match k with
  | _ => .int
abbrev wsJ00 : List Cond := u_ws RJ0 TJ0 0
theorem nmJ0 : ∀ a, a < 0 → ∀ b, b < 0 → a ≠ b → (TJ0 a).2.1 ≠ (TJ0 b).2.1 := by decide +kernel
theorem tyJ0_ok : ∀ k, k < 0 → parseFieldDescriptor (TJ0 k).2.2.1 = some (tyJ0 k) := by decide +kernel
abbrev cJ0_length_8abf5 : ByteArray := prog_23_method_54_code
def yJ0_length_8abf5 : MethodName := ⟨RJ0, "length", "()I"⟩
abbrev cJ0_indexOf_0f7a4 : ByteArray := prog_23_method_79_code
def yJ0_indexOf_0f7a4 : MethodName := ⟨RJ0, "indexOf", "(I)I"⟩
abbrev cJ0_indexOf_7cf53 : ByteArray := prog_23_method_80_code
def yJ0_indexOf_7cf53 : MethodName := ⟨RJ0, "indexOf", "(II)I"⟩
abbrev cJ0_coder_7d493 : ByteArray := prog_23_method_152_code
def yJ0_coder_7d493 : MethodName := ⟨RJ0, "coder", "()B"⟩
abbrev cJ0_isLatin1_aae02 : ByteArray := prog_23_method_154_code
def yJ0_isLatin1_aae02 : MethodName := ⟨RJ0, "isLatin1", "()Z"⟩
abbrev cJ0_checkBoundsBeginEnd_23922 : ByteArray := prog_23_method_158_code
def yJ0_checkBoundsBeginEnd_23922 : MethodName := ⟨RJ0, "checkBoundsBeginEnd", "(III)V"⟩
def RJ1 : String := "java/lang/StringLatin1"
def TJ1 : u_T := fun k => match k with
  | _ => ("", "", "", false)
def tyJ1 : Nat → FieldType := fun k => match k with
  | _ => .int
abbrev wsJ10 : List Cond := u_ws RJ1 TJ1 0
theorem nmJ1 : ∀ a, a < 0 → ∀ b, b < 0 → a ≠ b → (TJ1 a).2.1 ≠ (TJ1 b).2.1 := by decide +kernel
theorem tyJ1_ok : ∀ k, k < 0 → parseFieldDescriptor (TJ1 k).2.2.1 = some (tyJ1 k) := by decide +kernel
abbrev cJ1_canEncode_9a6ad : ByteArray := prog_24_method_4_code
def yJ1_canEncode_9a6ad : MethodName := ⟨RJ1, "canEncode", "(I)Z"⟩
abbrev cJ1_indexOf_4cfef : ByteArray := prog_24_method_22_code
def yJ1_indexOf_4cfef : MethodName := ⟨RJ1, "indexOf", "([BIII)I"⟩
abbrev cJ1_indexOfChar_4cfef : ByteArray := prog_24_method_23_code
def yJ1_indexOfChar_4cfef : MethodName := ⟨RJ1, "indexOfChar", "([BIII)I"⟩
def RJ2 : String := "java/lang/StringUTF16"
def TJ2 : u_T := fun k => match k with
  | _ => ("", "", "", false)
def tyJ2 : Nat → FieldType := fun k => match k with
  | _ => .int
abbrev wsJ20 : List Cond := u_ws RJ2 TJ2 0
theorem nmJ2 : ∀ a, a < 0 → ∀ b, b < 0 → a ≠ b → (TJ2 a).2.1 ≠ (TJ2 b).2.1 := by decide +kernel
theorem tyJ2_ok : ∀ k, k < 0 → parseFieldDescriptor (TJ2 k).2.2.1 = some (tyJ2 k) := by decide +kernel
abbrev cJ2_getChar_3b067 : ByteArray := prog_25_method_5_code
def yJ2_getChar_3b067 : MethodName := ⟨RJ2, "getChar", "([BI)C"⟩
abbrev cJ2_length_9d52b : ByteArray := prog_25_method_6_code
def yJ2_length_9d52b : MethodName := ⟨RJ2, "length", "([B)I"⟩
abbrev cJ2_indexOf_4cfef : ByteArray := prog_25_method_40_code
def yJ2_indexOf_4cfef : MethodName := ⟨RJ2, "indexOf", "([BIII)I"⟩
abbrev cJ2_indexOfChar_4cfef : ByteArray := prog_25_method_47_code
def yJ2_indexOfChar_4cfef : MethodName := ⟨RJ2, "indexOfChar", "([BIII)I"⟩
abbrev cJ2_indexOfCharUnsafe_4cfef : ByteArray := prog_25_method_48_code
def yJ2_indexOfCharUnsafe_4cfef : MethodName := ⟨RJ2, "indexOfCharUnsafe", "([BIII)I"⟩
abbrev cJ2_indexOfSupplementary_4cfef : ByteArray := prog_25_method_49_code
def yJ2_indexOfSupplementary_4cfef : MethodName := ⟨RJ2, "indexOfSupplementary", "([BIII)I"⟩
abbrev cJ2_checkBoundsBeginEnd_d044e : ByteArray := prog_25_method_93_code
def yJ2_checkBoundsBeginEnd_d044e : MethodName := ⟨RJ2, "checkBoundsBeginEnd", "(II[B)V"⟩
def RJ3 : String := "jdk/internal/util/Preconditions"
def TJ3 : u_T := fun k => match k with
  | _ => ("", "", "", false)
def tyJ3 : Nat → FieldType := fun k => match k with
  | _ => .int
abbrev wsJ30 : List Cond := u_ws RJ3 TJ3 0
theorem nmJ3 : ∀ a, a < 0 → ∀ b, b < 0 → a ≠ b → (TJ3 a).2.1 ≠ (TJ3 b).2.1 := by decide +kernel
theorem tyJ3_ok : ∀ k, k < 0 → parseFieldDescriptor (TJ3 k).2.2.1 = some (tyJ3 k) := by decide +kernel
abbrev cJ3_checkFromToIndex_8c36e : ByteArray := prog_27_method_12_code
def yJ3_checkFromToIndex_8c36e : MethodName := ⟨RJ3, "checkFromToIndex", "(IIILjava/util/function/BiFunction;)I"⟩
def RL : String := "TrajectoryRailsLaw"
abbrev cL_law : ByteArray := code
def yL_law : MethodName := ⟨RL, "law", "([I)Z"⟩
abbrev vwCl : List vw_C := [(RX0, TX0, 14), (RX1, TX1, 9), (RX2, TX2, 8), (RX3, TX3, 12), (RX4, TX4, 8), (RX5, TX5, 2), (RX7, TX7, 3), (RX8, TX8, 2), (RX9, TX9, 6), (RX10, TX10, 9), (RX11, TX11, 10), (RX12, TX12, 5), (RX13, TX13, 6), (RX14, TX14, 31)]
end
section
/-! ===== the mini machine: tables (written by wip/whole/gen/gen3.py) ===== -/
def mjN : List String := [RX0, RX1, RX2, RX3, RX4, RX5, RX6, RX7, RX8, RX9, RX10, RX11, RX12, RX13, RX14, RL, RJ13, RJ9]
def mjT0 : List (MethodName × ByteArray × Nat × Option FieldType × Nat × Nat × List (Nat × Nat × Nat × Nat)) := [
  (yX0_init, cX0_init, 1, none, 0, 0, []),
  (yX0_run, cX0_run, 4, none, 0, 2, []),
  (yX0_clauseRow, cX0_clauseRow, 2, (some .int), 0, 2, []),
  (yX0_row, cX0_row, 2, (some .int), 0, 2, []),
  (yX0_lanesWith, cX0_lanesWith, 2, (some .long), 0, 2, []),
  (yX0_bitOf, cX0_bitOf, 2, (some .int), 0, 1, []),
  (yX0_setVariables, cX0_setVariables, 3, none, 0, 1, []),
  (yX0_workOutClauses, cX0_workOutClauses, 7, none, 0, 1, []),
  (yX0_layGivens, cX0_layGivens, 9, none, 0, 1, []),
  (yX0_follow, cX0_follow, 8, none, 0, 1, []),
  (yX0_joinOwn, cX0_joinOwn, 7, none, 0, 3, []),
  (yX0_compare, cX0_compare, 6, none, 0, 1, []),
  (yX0_wrongLanes, cX0_wrongLanes, 9, (some .long), 0, 3, []),
  (yX0_hasAssignment, cX0_hasAssignment, 2, (some .boolean), 0, 1, []),
  (yX0_howManyFail, cX0_howManyFail, 1, (some .int), 0, 0, []),
  (yX0_howManyAreOut, cX0_howManyAreOut, 1, (some .int), 0, 0, []),
  (yX0_lanesIn, cX0_lanesIn, 4, (some .int), 0, 1, []),
  (yX0_failingByRank, cX0_failingByRank, 5, (some .int), 0, 1, []),
  (yX0_laneByRank, cX0_laneByRank, 6, (some .int), 0, 2, []),
  (yX0_isIn, cX0_isIn, 3, (some .boolean), 0, 2, [])]
def mjT1 : List (MethodName × ByteArray × Nat × Option FieldType × Nat × Nat × List (Nat × Nat × Nat × Nat)) := [
  (yX0_firstWrongClause, cX0_firstWrongClause, 4, (some .int), 0, 1, []),
  (yX0_firstWrongTime, cX0_firstWrongTime, 3, (some .int), 0, 1, []),
  (yX0_wrongTime, cX0_wrongTime, 4, (some .int), 0, 2, []),
  (yX0_valueOf, cX0_valueOf, 6, (some .int), 0, 3, []),
  (yX0_everMatters, cX0_everMatters, 5, (some .boolean), 0, 3, []),
  (yX0_changedLanes, cX0_changedLanes, 12, (some .long), 0, 3, []),
  (yX1_init, cX1_init, 1, none, 1, 0, []),
  (yX1_hasNode, cX1_hasNode, 2, (some .boolean), 1, 1, []),
  (yX1_find, cX1_find, 4, (some .int), 1, 1, []),
  (yX1_howMany, cX1_howMany, 4, (some .int), 1, 1, []),
  (yX1_declare, cX1_declare, 4, (some .boolean), 1, 2, []),
  (yX1_link, cX1_link, 4, none, 1, 0, []),
  (yX1_leavesOf, cX1_leavesOf, 5, (some .long), 1, 1, []),
  (yX1_close, cX1_close, 4, none, 1, 1, []),
  (yX1_firstLoop, cX1_firstLoop, 2, (some .int), 1, 0, []),
  (yX1_putInOrder, cX1_putInOrder, 4, none, 1, 0, []),
  (yX1_rankOf, cX1_rankOf, 2, (some .int), 1, 1, []),
  (yX2_init, cX2_init, 2, none, 2, 1, []),
  (yX2_read, cX2_read, 4, (some .int), 2, 1, []),
  (yX2_takeItem, cX2_takeItem, 1, (some .boolean), 2, 0, [])]
def mjT2 : List (MethodName × ByteArray × Nat × Option FieldType × Nat × Nat × List (Nat × Nat × Nat × Nat)) := [
  (yX2_takeInputs, cX2_takeInputs, 3, (some .boolean), 2, 0, []),
  (yX2_takeMade, cX2_takeMade, 3, (some .boolean), 2, 1, []),
  (yX2_takeDeclared, cX2_takeDeclared, 2, (some .boolean), 2, 1, []),
  (yX2_takeLeaf, cX2_takeLeaf, 1, (some .boolean), 2, 0, []),
  (yX2_putNodesForNames, cX2_putNodesForNames, 4, (some .int), 2, 0, []),
  (yX3_init, cX3_init, 1, none, 3, 0, []),
  (yX3_clear, cX3_clear, 1, none, 3, 0, []),
  (yX3_variable, cX3_variable, 4, (some .int), 3, 1, []),
  (yX3_setTimes, cX3_setTimes, 4, none, 3, 3, []),
  (yX4_init, cX4_init, 2, none, 4, 1, []),
  (yX4_read, cX4_read, 4, (some .int), 4, 2, []),
  (yX4_takeClauses, cX4_takeClauses, 2, (some .boolean), 4, 0, []),
  (yX4_takeClause, cX4_takeClause, 3, (some .boolean), 4, 0, []),
  (yX4_takeTimes, cX4_takeTimes, 4, (some .boolean), 4, 1, []),
  (yX4_takeTime, cX4_takeTime, 3, (some .int), 4, 1, []),
  (yX4_takeLeaf, cX4_takeLeaf, 2, (some .boolean), 4, 0, []),
  (yX5_init, cX5_init, 1, none, 5, 0, []),
  (yX5_add, cX5_add, 2, none, 5, 1, []),
  (yX5_at, cX5_at, 2, (some .int), 5, 1, []),
  (yX5_set, cX5_set, 3, none, 5, 2, [])]
def mjT3 : List (MethodName × ByteArray × Nat × Option FieldType × Nat × Nat × List (Nat × Nat × Nat × Nat)) := [
  (yX6_init, cX6_init, 2, none, 6, 1, []),
  (yX6_begin, cX6_begin, 2, none, 6, 1, []),
  (yX6_takeSign, cX6_takeSign, 2, (some .boolean), 6, 1, []),
  (yX6_takeWord, cX6_takeWord, 3, (some .boolean), 6, 1, []),
  (yX6_takeFormula, cX6_takeFormula, 3, (some .boolean), 6, 0, []),
  (yX6_takeOpeners, cX6_takeOpeners, 3, (some .boolean), 6, 0, []),
  (yX6_takeClosers, cX6_takeClosers, 2, none, 6, 0, []),
  (yX6_letWait, cX6_letWait, 2, none, 6, 1, []),
  (yX6_setFree, cX6_setFree, 2, none, 6, 1, []),
  (yX6_strengthOf, cX6_strengthOf, 1, (some .int), 6, 1, []),
  (yX6_takeAtom, cX6_takeAtom, 1, (some .boolean), 6, 0, []),
  (yX7_init, cX7_init, 1, none, 7, 0, []),
  (yX7_run, cX7_run, 9, none, 7, 6, []),
  (yX7_ones, cX7_ones, 1, (some .long), 7, 0, []),
  (yX7_zeros, cX7_zeros, 1, (some .long), 7, 0, []),
  (yX7_push, cX7_push, 5, none, 7, 2, []),
  (yX7_apply, cX7_apply, 2, none, 7, 1, []),
  (yX7_invert, cX7_invert, 3, none, 7, 0, []),
  (yX7_join, cX7_join, 10, none, 7, 1, []),
  (yX8_init, cX8_init, 1, none, 8, 0, [])]
def mjT4 : List (MethodName × ByteArray × Nat × Option FieldType × Nat × Nat × List (Nat × Nat × Nat × Nat)) := [
  (yX8_put, cX8_put, 3, none, 8, 1, []),
  (yX8_byteAt, cX8_byteAt, 2, (some .int), 8, 1, []),
  (yX9_init, cX9_init, 2, none, 9, 1, []),
  (yX9_scan, cX9_scan, 3, none, 9, 0, []),
  (yX9_addToken, cX9_addToken, 7, (some .int), 9, 2, []),
  (yX9_stopOf, cX9_stopOf, 4, (some .int), 9, 2, []),
  (yX9_goesOn, cX9_goesOn, 2, (some .boolean), 9, 2, []),
  (yX9_kindOf, cX9_kindOf, 1, (some .int), 9, 1, []),
  (yX9_longest, cX9_longest, 1, (some .int), 9, 1, []),
  (yX9_isReserved, cX9_isReserved, 2, (some .boolean), 9, 1, []),
  (yX9_isSmall, cX9_isSmall, 1, (some .boolean), 9, 1, []),
  (yX9_isCapital, cX9_isCapital, 1, (some .boolean), 9, 1, []),
  (yX9_isDigit, cX9_isDigit, 1, (some .boolean), 9, 1, []),
  (yX9_kind, cX9_kind, 1, (some .int), 9, 0, []),
  (yX9_place, cX9_place, 1, (some .int), 9, 0, []),
  (yX9_key, cX9_key, 1, (some .long), 9, 0, []),
  (yX9_index, cX9_index, 1, (some .int), 9, 0, []),
  (yX9_placeAt, cX9_placeAt, 2, (some .int), 9, 1, []),
  (yX9_keyAt, cX9_keyAt, 2, (some .long), 9, 1, []),
  (yX9_number, cX9_number, 4, (some .int), 9, 0, [])]
def mjT5 : List (MethodName × ByteArray × Nat × Option FieldType × Nat × Nat × List (Nat × Nat × Nat × Nat)) := [
  (yX9_step, cX9_step, 1, none, 9, 0, []),
  (yX10_init, cX10_init, 2, none, 10, 0, []),
  (yX10_feed, cX10_feed, 6, (some .int), 10, 5, []),
  (yX10_end, cX10_end, 2, (some .int), 10, 1, []),
  (yX10_circuit, cX10_circuit, 3, (some .int), 10, 0, []),
  (yX10_assertion, cX10_assertion, 3, (some .int), 10, 0, []),
  (yX10_fails, cX10_fails, 1, (some .int), 10, 0, []),
  (yX10_excluded, cX10_excluded, 1, (some .int), 10, 0, []),
  (yX10_failing, cX10_failing, 2, (some .int), 10, 1, []),
  (yX10_shortfall, cX10_shortfall, 3, (some .int), 10, 2, []),
  (yX10_value, cX10_value, 4, (some .int), 10, 3, []),
  (yX10_matters, cX10_matters, 4, (some .int), 10, 3, []),
  (yX10_cone, cX10_cone, 2, (some .int), 10, 1, []),
  (yX10_count, cX10_count, 2, (some .int), 10, 1, []),
  (yX10_hasPlace, cX10_hasPlace, 3, (some .boolean), 10, 2, []),
  (yX11_init, cX11_init, 1, none, 11, 0, []),
  (yX12_init, cX12_init, 1, none, 12, 0, []),
  (yX13_init, cX13_init, 1, none, 13, 0, []),
  (yX14_init, cX14_init, 1, none, 14, 0, []),
  (yX14_put, cX14_put, 3, none, 14, 1, [])]
def mjT6 : List (MethodName × ByteArray × Nat × Option FieldType × Nat × Nat × List (Nat × Nat × Nat × Nat)) := [
  (yX14_feed, cX14_feed, 6, (some .int), 14, 5, []),
  (yX14_end, cX14_end, 2, (some .int), 14, 1, []),
  (yX14_byteAt, cX14_byteAt, 2, (some .int), 14, 1, []),
  (yX14_digit, cX14_digit, 1, (some .boolean), 14, 1, []),
  (yX14_small, cX14_small, 1, (some .boolean), 14, 1, []),
  (yX14_capital, cX14_capital, 1, (some .boolean), 14, 1, []),
  (yX14_readTokens, cX14_readTokens, 8, none, 14, 0, []),
  (yX14_here, cX14_here, 2, (some .boolean), 14, 1, []),
  (yX14_check, cX14_check, 2, none, 14, 1, []),
  (yX14_take, cX14_take, 2, none, 14, 1, []),
  (yX14_tree, cX14_tree, 5, (some .int), 14, 3, []),
  (yX14_ors, cX14_ors, 3, (some .int), 14, 1, []),
  (yX14_xors, cX14_xors, 3, (some .int), 14, 1, []),
  (yX14_ands, cX14_ands, 3, (some .int), 14, 1, []),
  (yX14_not, cX14_not, 2, (some .int), 14, 1, []),
  (yX14_atom, cX14_atom, 3, (some .int), 14, 1, []),
  (yX14_variable, cX14_variable, 2, (some .int), 14, 0, []),
  (yX14_find, cX14_find, 4, (some .int), 14, 2, []),
  (yX14_declare, cX14_declare, 3, none, 14, 1, []),
  (yX14_item, cX14_item, 3, none, 14, 0, [])]
def mjT7 : List (MethodName × ByteArray × Nat × Option FieldType × Nat × Nat × List (Nat × Nat × Nat × Nat)) := [
  (yX14_names, cX14_names, 3, (some .boolean), 14, 2, []),
  (yX14_reach, cX14_reach, 9, none, 14, 3, []),
  (yX14_finish, cX14_finish, 2, none, 14, 0, []),
  (yX14_circuit, cX14_circuit, 2, (some .int), 14, 0, [(51, 70, 73, 128)]),
  (yX14_number, cX14_number, 2, (some .int), 14, 1, []),
  (yX14_clause, cX14_clause, 3, none, 14, 1, []),
  (yX14_part, cX14_part, 4, (some .int), 14, 1, []),
  (yX14_assertion, cX14_assertion, 2, (some .int), 14, 0, [(59, 111, 114, 128)]),
  (yX14_cell, cX14_cell, 4, (some .int), 14, 3, []),
  (yX14_variable_, cX14_variable_, 2, (some .boolean), 14, 1, []),
  (yX14_holds, cX14_holds, 2, (some .boolean), 14, 1, []),
  (yX14_valueOf, cX14_valueOf, 7, (some .int), 14, 3, []),
  (yX14_covers, cX14_covers, 4, (some .boolean), 14, 4, []),
  (yX14_applies, cX14_applies, 2, (some .boolean), 14, 1, []),
  (yX14_work, cX14_work, 6, none, 14, 2, []),
  (yX14_judge, cX14_judge, 5, none, 14, 1, []),
  (yX14_all, cX14_all, 1, (some .int), 14, 0, []),
  (yX14_fails, cX14_fails, 3, (some .int), 14, 0, []),
  (yX14_excluded, cX14_excluded, 3, (some .int), 14, 0, []),
  (yX14_failing, cX14_failing, 4, (some .int), 14, 1, [])]
def mjT8 : List (MethodName × ByteArray × Nat × Option FieldType × Nat × Nat × List (Nat × Nat × Nat × Nat)) := [
  (yX14_shortfall, cX14_shortfall, 3, (some .int), 14, 2, []),
  (yX14_isPlace, cX14_isPlace, 3, (some .boolean), 14, 2, []),
  (yX14_value, cX14_value, 4, (some .int), 14, 3, []),
  (yX14_matters, cX14_matters, 6, (some .int), 14, 3, []),
  (yX14_cone, cX14_cone, 4, (some .int), 14, 1, []),
  (yX14_kinds, cX14_kinds, 4, (some .int), 14, 1, []),
  (yX14_count, cX14_count, 2, (some .int), 14, 1, []),
  (yJ13_bitCount_95d88, cJ13_bitCount_95d88, 2, (some .int), 16, 1, []),
  (yL_law, cL_law, 4, (some .boolean), 15, 1, [])]
def mjT : List (MethodName × ByteArray × Nat × Option FieldType × Nat × Nat × List (Nat × Nat × Nat × Nat)) := mjT0 ++ (mjT1 ++ (mjT2 ++ (mjT3 ++ (mjT4 ++ (mjT5 ++ (mjT6 ++ (mjT7 ++ (mjT8))))))))
def mjr (j : Nat) : MethodName × ByteArray × Nat × Option FieldType × Nat × Nat × List (Nat × Nat × Nat × Nat) := mjT.getD j (yL_law, cL_law, 4, some .boolean, 15, 1, [])
def mY (j : Nat) : MethodName := (mjr j).1
def mB (j : Nat) : ByteArray := (mjr j).2.1
def mL (j : Nat) : Nat := (mjr j).2.2.1
def mR (j : Nat) : Option FieldType := (mjr j).2.2.2.1
def mO (j : Nat) : Nat := (mjr j).2.2.2.2.1
def mP (j : Nat) : Nat := (mjr j).2.2.2.2.2.1
def mHH (j : Nat) : List (Nat × Nat × Nat × Nat) := (mjr j).2.2.2.2.2.2
def oN (o : Nat) : String := mjN.getD o ""
abbrev jX0_init : Nat := 0
abbrev jX0_run : Nat := 1
abbrev jX0_clauseRow : Nat := 2
abbrev jX0_row : Nat := 3
abbrev jX0_lanesWith : Nat := 4
abbrev jX0_bitOf : Nat := 5
abbrev jX0_setVariables : Nat := 6
abbrev jX0_workOutClauses : Nat := 7
abbrev jX0_layGivens : Nat := 8
abbrev jX0_follow : Nat := 9
abbrev jX0_joinOwn : Nat := 10
abbrev jX0_compare : Nat := 11
abbrev jX0_wrongLanes : Nat := 12
abbrev jX0_hasAssignment : Nat := 13
abbrev jX0_howManyFail : Nat := 14
abbrev jX0_howManyAreOut : Nat := 15
abbrev jX0_lanesIn : Nat := 16
abbrev jX0_failingByRank : Nat := 17
abbrev jX0_laneByRank : Nat := 18
abbrev jX0_isIn : Nat := 19
abbrev jX0_firstWrongClause : Nat := 20
abbrev jX0_firstWrongTime : Nat := 21
abbrev jX0_wrongTime : Nat := 22
abbrev jX0_valueOf : Nat := 23
abbrev jX0_everMatters : Nat := 24
abbrev jX0_changedLanes : Nat := 25
abbrev jX1_init : Nat := 26
abbrev jX1_hasNode : Nat := 27
abbrev jX1_find : Nat := 28
abbrev jX1_howMany : Nat := 29
abbrev jX1_declare : Nat := 30
abbrev jX1_link : Nat := 31
abbrev jX1_leavesOf : Nat := 32
abbrev jX1_close : Nat := 33
abbrev jX1_firstLoop : Nat := 34
abbrev jX1_putInOrder : Nat := 35
abbrev jX1_rankOf : Nat := 36
abbrev jX2_init : Nat := 37
abbrev jX2_read : Nat := 38
abbrev jX2_takeItem : Nat := 39
abbrev jX2_takeInputs : Nat := 40
abbrev jX2_takeMade : Nat := 41
abbrev jX2_takeDeclared : Nat := 42
abbrev jX2_takeLeaf : Nat := 43
abbrev jX2_putNodesForNames : Nat := 44
abbrev jX3_init : Nat := 45
abbrev jX3_clear : Nat := 46
abbrev jX3_variable : Nat := 47
abbrev jX3_setTimes : Nat := 48
abbrev jX4_init : Nat := 49
abbrev jX4_read : Nat := 50
abbrev jX4_takeClauses : Nat := 51
abbrev jX4_takeClause : Nat := 52
abbrev jX4_takeTimes : Nat := 53
abbrev jX4_takeTime : Nat := 54
abbrev jX4_takeLeaf : Nat := 55
abbrev jX5_init : Nat := 56
abbrev jX5_add : Nat := 57
abbrev jX5_at : Nat := 58
abbrev jX5_set : Nat := 59
abbrev jX6_init : Nat := 60
abbrev jX6_begin : Nat := 61
abbrev jX6_takeSign : Nat := 62
abbrev jX6_takeWord : Nat := 63
abbrev jX6_takeFormula : Nat := 64
abbrev jX6_takeOpeners : Nat := 65
abbrev jX6_takeClosers : Nat := 66
abbrev jX6_letWait : Nat := 67
abbrev jX6_setFree : Nat := 68
abbrev jX6_strengthOf : Nat := 69
abbrev jX6_takeAtom : Nat := 70
abbrev jX7_init : Nat := 71
abbrev jX7_run : Nat := 72
abbrev jX7_ones : Nat := 73
abbrev jX7_zeros : Nat := 74
abbrev jX7_push : Nat := 75
abbrev jX7_apply : Nat := 76
abbrev jX7_invert : Nat := 77
abbrev jX7_join : Nat := 78
abbrev jX8_init : Nat := 79
abbrev jX8_put : Nat := 80
abbrev jX8_byteAt : Nat := 81
abbrev jX9_init : Nat := 82
abbrev jX9_scan : Nat := 83
abbrev jX9_addToken : Nat := 84
abbrev jX9_stopOf : Nat := 85
abbrev jX9_goesOn : Nat := 86
abbrev jX9_kindOf : Nat := 87
abbrev jX9_longest : Nat := 88
abbrev jX9_isReserved : Nat := 89
abbrev jX9_isSmall : Nat := 90
abbrev jX9_isCapital : Nat := 91
abbrev jX9_isDigit : Nat := 92
abbrev jX9_kind : Nat := 93
abbrev jX9_place : Nat := 94
abbrev jX9_key : Nat := 95
abbrev jX9_index : Nat := 96
abbrev jX9_placeAt : Nat := 97
abbrev jX9_keyAt : Nat := 98
abbrev jX9_number : Nat := 99
abbrev jX9_step : Nat := 100
abbrev jX10_init : Nat := 101
abbrev jX10_feed : Nat := 102
abbrev jX10_end : Nat := 103
abbrev jX10_circuit : Nat := 104
abbrev jX10_assertion : Nat := 105
abbrev jX10_fails : Nat := 106
abbrev jX10_excluded : Nat := 107
abbrev jX10_failing : Nat := 108
abbrev jX10_shortfall : Nat := 109
abbrev jX10_value : Nat := 110
abbrev jX10_matters : Nat := 111
abbrev jX10_cone : Nat := 112
abbrev jX10_count : Nat := 113
abbrev jX10_hasPlace : Nat := 114
abbrev jX11_init : Nat := 115
abbrev jX12_init : Nat := 116
abbrev jX13_init : Nat := 117
abbrev jX14_init : Nat := 118
abbrev jX14_put : Nat := 119
abbrev jX14_feed : Nat := 120
abbrev jX14_end : Nat := 121
abbrev jX14_byteAt : Nat := 122
abbrev jX14_digit : Nat := 123
abbrev jX14_small : Nat := 124
abbrev jX14_capital : Nat := 125
abbrev jX14_readTokens : Nat := 126
abbrev jX14_here : Nat := 127
abbrev jX14_check : Nat := 128
abbrev jX14_take : Nat := 129
abbrev jX14_tree : Nat := 130
abbrev jX14_ors : Nat := 131
abbrev jX14_xors : Nat := 132
abbrev jX14_ands : Nat := 133
abbrev jX14_not : Nat := 134
abbrev jX14_atom : Nat := 135
abbrev jX14_variable : Nat := 136
abbrev jX14_find : Nat := 137
abbrev jX14_declare : Nat := 138
abbrev jX14_item : Nat := 139
abbrev jX14_names : Nat := 140
abbrev jX14_reach : Nat := 141
abbrev jX14_finish : Nat := 142
abbrev jX14_circuit : Nat := 143
abbrev jX14_number : Nat := 144
abbrev jX14_clause : Nat := 145
abbrev jX14_part : Nat := 146
abbrev jX14_assertion : Nat := 147
abbrev jX14_cell : Nat := 148
abbrev jX14_variable_ : Nat := 149
abbrev jX14_holds : Nat := 150
abbrev jX14_valueOf : Nat := 151
abbrev jX14_covers : Nat := 152
abbrev jX14_applies : Nat := 153
abbrev jX14_work : Nat := 154
abbrev jX14_judge : Nat := 155
abbrev jX14_all : Nat := 156
abbrev jX14_fails : Nat := 157
abbrev jX14_excluded : Nat := 158
abbrev jX14_failing : Nat := 159
abbrev jX14_shortfall : Nat := 160
abbrev jX14_isPlace : Nat := 161
abbrev jX14_value : Nat := 162
abbrev jX14_matters : Nat := 163
abbrev jX14_cone : Nat := 164
abbrev jX14_kinds : Nat := 165
abbrev jX14_count : Nat := 166
abbrev jJ13_bitCount_95d88 : Nat := 167
abbrev jL_law : Nat := 168
def mjX : List (String × MethodName) := [(RX2, yX6_takeOpeners), (RX4, yX6_takeOpeners), (RX2, yX6_takeClosers), (RX4, yX6_takeClosers), (RX2, yX6_letWait), (RX4, yX6_letWait), (RX2, yX6_setFree), (RX4, yX6_setFree), (RX2, yX6_takeAtom), (RX4, yX6_takeAtom)]
def mjS : List Cond := mjX.map (fun q => Cond.selects q.1 q.2 q.2) ++ lw_tbl
/-- fields by owner: pool index, class of the object, slot, class that the link names, place of the link word, place of the sameField word (or 9999) -/
def mjF : List (List (Nat × Nat × Nat × String × Nat × Nat)) := [
  [(12, 0, 5, RX0, 239, 9999), (20, 0, 6, RX0, 240, 9999), (24, 0, 7, RX0, 241, 9999), (27, 0, 8, RX0, 242, 9999), (30, 0, 9, RX0, 243, 9999), (35, 0, 10, RX0, 244, 9999), (38, 0, 11, RX0, 245, 9999), (41, 0, 12, RX0, 246, 9999), (44, 0, 13, RX0, 247, 9999), (47, 0, 0, RX0, 234, 9999), (51, 0, 1, RX0, 235, 9999), (55, 3, 0, RX3, 348, 9999), (59, 0, 2, RX0, 236, 9999), (68, 0, 3, RX0, 237, 9999), (73, 0, 4, RX0, 238, 9999), (104, 3, 3, RX3, 357, 9999), (107, 3, 8, RX3, 371, 9999), (111, 3, 9, RX3, 374, 9999), (114, 3, 10, RX3, 377, 9999), (120, 3, 11, RX3, 380, 9999), (134, 3, 4, RX3, 360, 9999), (137, 3, 2, RX3, 353, 9999), (140, 3, 6, RX3, 366, 9999), (143, 3, 7, RX3, 368, 9999), (146, 3, 5, RX3, 364, 9999), (149, 1, 0, RX1, 302, 9999), (152, 1, 8, RX1, 319, 9999), (159, 1, 2, RX1, 306, 9999), (162, 1, 5, RX1, 314, 9999), (163, 1, 3, RX1, 308, 9999), (164, 1, 4, RX1, 311, 9999)],
  [(11, 1, 1, RX1, 304, 9999), (15, 1, 2, RX1, 305, 9999), (19, 1, 3, RX1, 307, 9999), (22, 1, 4, RX1, 309, 9999), (28, 1, 5, RX1, 312, 9999), (32, 1, 6, RX1, 315, 9999), (35, 1, 7, RX1, 317, 9999), (38, 1, 8, RX1, 318, 9999), (41, 1, 0, RX1, 300, 9999), (49, 5, 1, RX5, 294, 9999)],
  [(11, 2, 7, RX2, 161, 9999), (17, 2, 6, RX2, 160, 9999), (21, 1, 0, RX1, 301, 9999), (25, 1, 5, RX1, 313, 9999), (35, 2, 0, RX2, 163, 164), (88, 1, 4, RX1, 310, 9999), (91, 2, 1, RX2, 170, 171), (92, 5, 1, RX5, 293, 9999)],
  [(11, 3, 1, RX3, 350, 9999), (15, 3, 5, RX3, 362, 9999), (19, 3, 6, RX3, 365, 9999), (22, 3, 7, RX3, 367, 9999), (25, 3, 8, RX3, 369, 9999), (28, 3, 9, RX3, 372, 9999), (31, 3, 10, RX3, 375, 9999), (37, 3, 11, RX3, 378, 9999), (41, 3, 0, RX3, 347, 9999), (45, 3, 2, RX3, 351, 9999), (48, 3, 3, RX3, 355, 9999), (51, 3, 4, RX3, 359, 9999)],
  [(9, 4, 6, RX4, 199, 9999), (15, 4, 7, RX4, 200, 9999), (25, 3, 11, RX3, 379, 9999), (45, 3, 3, RX3, 356, 9999), (49, 3, 2, RX3, 352, 9999), (58, 4, 0, RX4, 165, 166), (85, 3, 5, RX3, 363, 9999), (89, 3, 8, RX3, 370, 9999), (92, 4, 1, RX4, 168, 169), (93, 5, 1, RX5, 292, 9999), (103, 3, 9, RX3, 373, 9999), (108, 3, 10, RX3, 376, 9999)],
  [(9, 5, 0, RX5, 289, 9999), (15, 5, 1, RX5, 290, 9999)],
  [(9, 2, 3, RX6, 173, 9999), (9, 4, 3, RX6, 173, 9999), (13, 2, 0, RX6, 162, 9999), (13, 4, 0, RX6, 162, 9999), (22, 2, 2, RX6, 172, 9999), (22, 4, 2, RX6, 172, 9999), (26, 2, 1, RX6, 167, 9999), (26, 4, 1, RX6, 167, 9999), (30, 5, 1, RX5, 291, 9999), (46, 2, 4, RX6, 174, 9999), (46, 4, 4, RX6, 174, 9999), (49, 2, 5, RX6, 175, 9999), (49, 4, 5, RX6, 175, 9999)],
  [(9, 6, 0, RX7, 224, 9999), (13, 6, 1, RX7, 225, 9999), (16, 6, 2, RX7, 226, 9999)],
  [(9, 7, 0, RX8, 114, 9999), (13, 7, 1, RX8, 116, 9999)],
  [(9, 8, 1, RX9, 131, 9999), (15, 8, 2, RX9, 132, 9999), (18, 8, 3, RX9, 133, 9999), (22, 8, 0, RX9, 130, 9999), (26, 8, 4, RX9, 134, 9999), (30, 8, 5, RX9, 135, 9999), (33, 7, 1, RX8, 117, 9999)],
  [(10, 9, 0, RX10, 406, 9999), (26, 9, 1, RX10, 407, 9999), (33, 9, 2, RX10, 408, 9999), (40, 9, 3, RX10, 409, 9999), (47, 9, 4, RX10, 410, 9999), (51, 9, 5, RX10, 411, 9999), (57, 9, 6, RX10, 412, 9999), (61, 9, 7, RX10, 413, 9999), (64, 9, 8, RX10, 414, 9999), (68, 7, 1, RX8, 115, 9999), (116, 3, 0, RX3, 349, 9999), (126, 1, 6, RX1, 316, 9999), (136, 1, 0, RX1, 303, 9999), (142, 3, 2, RX3, 354, 9999), (145, 3, 3, RX3, 358, 9999), (148, 3, 4, RX3, 361, 9999)],
  [(9, 10, 0, RX11, 977, 9999), (15, 10, 1, RX11, 979, 9999), (18, 10, 2, RX11, 981, 9999), (21, 10, 3, RX11, 983, 9999), (24, 10, 4, RX11, 985, 9999), (27, 10, 5, RX11, 987, 9999)],
  [(9, 11, 0, RX12, 951, 9999), (15, 11, 1, RX12, 953, 9999), (19, 11, 2, RX12, 955, 9999), (22, 11, 3, RX12, 957, 9999)],
  [(9, 12, 0, RX13, 921, 9999), (15, 12, 1, RX13, 923, 9999), (18, 12, 2, RX13, 925, 9999), (21, 12, 3, RX13, 927, 9999), (25, 12, 4, RX13, 929, 9999)],
  [(9, 13, 0, RX14, 1015, 9999), (13, 13, 2, RX14, 1017, 9999), (17, 13, 3, RX14, 1018, 9999), (21, 13, 4, RX14, 1019, 9999), (24, 13, 5, RX14, 1020, 9999), (30, 13, 9, RX14, 1024, 9999), (34, 13, 10, RX14, 1025, 9999), (40, 13, 11, RX14, 1026, 9999), (44, 13, 12, RX14, 1027, 9999), (50, 13, 14, RX14, 1029, 9999), (54, 13, 15, RX14, 1030, 9999), (57, 13, 16, RX14, 1031, 9999), (61, 13, 23, RX14, 1038, 9999), (64, 13, 24, RX14, 1039, 9999), (68, 13, 25, RX14, 1040, 9999), (71, 13, 26, RX14, 1041, 9999), (74, 13, 27, RX14, 1042, 9999), (77, 13, 28, RX14, 1043, 9999), (80, 13, 30, RX14, 1045, 9999), (83, 13, 1, RX14, 1016, 9999), (91, 13, 6, RX14, 1021, 9999), (122, 13, 7, RX14, 1022, 9999), (125, 13, 8, RX14, 1023, 9999), (138, 13, 17, RX14, 1032, 9999), (141, 12, 5, RX13, 931, 9999), (144, 12, 0, RX13, 922, 9999), (147, 12, 1, RX13, 924, 9999), (150, 12, 2, RX13, 926, 9999), (175, 13, 20, RX14, 1035, 9999), (179, 13, 21, RX14, 1036, 9999), (182, 12, 3, RX13, 928, 9999), (185, 12, 4, RX13, 930, 9999), (192, 13, 19, RX14, 1034, 9999), (195, 10, 8, RX11, 991, 9999), (198, 10, 5, RX11, 988, 9999), (200, 11, 4, RX12, 959, 9999), (201, 11, 0, RX12, 952, 9999), (202, 13, 18, RX14, 1033, 9999), (209, 11, 1, RX12, 954, 9999), (210, 11, 2, RX12, 956, 9999), (212, 11, 3, RX12, 958, 9999), (233, 13, 13, RX14, 1028, 9999), (236, 13, 22, RX14, 1037, 9999), (241, 10, 0, RX11, 978, 9999), (244, 10, 1, RX11, 980, 9999), (247, 10, 2, RX11, 982, 9999), (250, 10, 3, RX11, 984, 9999), (253, 10, 4, RX11, 986, 9999), (259, 10, 9, RX11, 992, 9999), (268, 10, 6, RX11, 989, 9999), (271, 10, 7, RX11, 990, 9999), (277, 13, 29, RX14, 1044, 9999)],
  [],
  [],
  []]
/-- static calls by owner: pool index, callee, places of methodLink, static, initialized -/
def mjCs : List (List (Nat × Nat × Nat × Nat × Nat)) := [
  [(100, 4, 747, 748, 80), (117, 2, 756, 757, 80), (131, 3, 789, 790, 80), (175, 167, 824, 667, 90), (181, 18, 841, 842, 80), (185, 19, 856, 857, 80)],
  [(68, 167, 666, 667, 90)],
  [],
  [],
  [],
  [],
  [(68, 69, 620, 621, 77)],
  [],
  [],
  [(40, 87, 468, 469, 76), (55, 88, 491, 492, 76), (58, 89, 494, 495, 76), (62, 86, 488, 489, 76), (66, 90, 471, 472, 76), (70, 92, 477, 478, 76), (73, 91, 474, 475, 76)],
  [(130, 167, 900, 667, 90)],
  [],
  [],
  [],
  [(94, 124, 1131, 1132, 85), (102, 123, 1138, 1139, 85), (108, 125, 1143, 1144, 85), (205, 137, 1309, 1310, 85), (296, 152, 1389, 1390, 85)],
  [],
  [],
  []]
/-- constructor calls by owner: pool index, callee, 1 by a nest link, places of link, instanceMethod, initialized; the nest host -/
def mjCp : List (List (Nat × Nat × Nat × Nat × Nat × Nat × String)) := [
  [(11, 71, 1, 220, 221, 81, "TrajectoryRails")],
  [(27, 56, 1, 285, 286, 83, "TrajectoryRails")],
  [(3, 60, 0, 156, 157, 77, "")],
  [(36, 56, 1, 346, 286, 83, "TrajectoryRails")],
  [(3, 60, 0, 198, 157, 77, "")],
  [],
  [],
  [],
  [],
  [],
  [(9, 79, 1, 110, 111, 75, "TrajectoryRails"), (18, 82, 0, 126, 127, 76, ""), (23, 37, 0, 153, 154, 78, ""), (32, 49, 0, 195, 196, 79, ""), (39, 0, 1, 214, 215, 80, "TrajectoryRails"), (46, 26, 1, 279, 280, 82, "TrajectoryRails"), (56, 45, 1, 341, 342, 84, "TrajectoryRails")],
  [],
  [],
  [],
  [(29, 117, 1, 917, 918, 86, "TrajectoryRailsModel"), (39, 116, 1, 947, 948, 87, "TrajectoryRailsModel"), (49, 115, 1, 973, 974, 88, "TrajectoryRailsModel")],
  [(9, 101, 0, 102, 103, 74, ""), (12, 118, 0, 911, 912, 85, "")],
  [],
  []]
/-- virtual calls by owner: pool index, class of the receiver, callee, kind (0 plain, 1 inherited by declares, 2 inherited by instanceMethod), the linked name, owner; places of methodLink, sameMethod, selects, instanceMethod, initialized, declares or instanceMethod -/
def mjCv : List (List (Nat × Nat × Nat × Nat × MethodName × String × Nat × Nat × Nat × Nat × Nat × Nat)) := [
  [(77, 0, 6, 0, yX0_setVariables, RX0, 739, 9999, 25, 741, 80, 9999), (81, 0, 7, 0, yX0_workOutClauses, RX0, 752, 9999, 27, 754, 80, 9999), (84, 0, 8, 0, yX0_layGivens, RX0, 785, 9999, 32, 787, 80, 9999), (87, 0, 9, 0, yX0_follow, RX0, 792, 9999, 33, 794, 80, 9999), (90, 0, 11, 0, yX0_compare, RX0, 804, 9999, 35, 806, 80, 9999), (96, 0, 5, 0, yX0_bitOf, RX0, 743, 9999, 26, 745, 80, 9999), (124, 6, 72, 0, yX7_run, RX7, 759, 9999, 761, 760, 81, 9999), (128, 6, 73, 0, yX7_ones, RX7, 781, 9999, 783, 782, 81, 9999), (155, 0, 10, 0, yX0_joinOwn, RX0, 796, 9999, 34, 798, 80, 9999), (165, 6, 74, 0, yX7_zeros, RX7, 800, 9999, 802, 801, 81, 9999), (167, 0, 12, 0, yX0_wrongLanes, RX0, 808, 9999, 36, 810, 80, 9999), (171, 0, 16, 0, yX0_lanesIn, RX0, 820, 9999, 37, 822, 80, 9999), (189, 0, 22, 0, yX0_wrongTime, RX0, 859, 9999, 38, 861, 80, 9999), (192, 0, 20, 0, yX0_firstWrongClause, RX0, 867, 9999, 854, 853, 80, 9999), (195, 0, 25, 0, yX0_changedLanes, RX0, 892, 9999, 40, 894, 80, 9999)],
  [(45, 1, 28, 0, yX1_find, RX1, 546, 9999, 548, 547, 82, 9999), (50, 1, 32, 0, yX1_leavesOf, RX1, 649, 9999, 17, 651, 82, 9999), (54, 1, 33, 0, yX1_close, RX1, 654, 9999, 18, 656, 82, 9999), (58, 1, 35, 0, yX1_putInOrder, RX1, 658, 9999, 19, 660, 82, 9999), (61, 5, 58, 0, yX5_at, RX5, 653, 9999, 630, 629, 83, 9999), (65, 1, 36, 0, yX1_rankOf, RX1, 662, 9999, 20, 664, 82, 9999)],
  [(29, 2, 61, 1, ⟨RX2, "begin", "(LTrajectoryRails$Code;)V"⟩, RX6, 454, 455, 457, 458, 77, 456), (39, 8, 93, 0, yX9_kind, RX9, 509, 9999, 511, 510, 76, 9999), (45, 2, 39, 0, yX2_takeItem, RX2, 513, 9999, 12, 515, 78, 9999), (49, 8, 94, 0, yX9_place, RX9, 550, 9999, 552, 551, 76, 9999), (52, 2, 44, 0, yX2_putNodesForNames, RX2, 624, 9999, 16, 626, 78, 9999), (55, 1, 31, 0, yX1_link, RX1, 645, 9999, 647, 646, 82, 9999), (59, 1, 34, 0, yX1_firstLoop, RX1, 672, 9999, 674, 673, 82, 9999), (64, 2, 63, 1, ⟨RX2, "takeWord", "(J)Z"⟩, RX6, 518, 519, 521, 522, 77, 520), (68, 2, 40, 0, yX2_takeInputs, RX2, 533, 9999, 13, 535, 78, 9999), (73, 2, 41, 0, yX2_takeMade, RX2, 562, 9999, 15, 564, 78, 9999), (79, 2, 42, 0, yX2_takeDeclared, RX2, 537, 9999, 14, 539, 78, 9999), (82, 2, 62, 1, ⟨RX2, "takeSign", "(I)Z"⟩, RX6, 555, 556, 558, 559, 77, 557), (85, 2, 64, 1, ⟨RX2, "takeFormula", "()Z"⟩, RX6, 566, 567, 569, 570, 77, 568), (95, 8, 95, 0, yX9_key, RX9, 541, 9999, 527, 526, 76, 9999), (99, 1, 30, 0, yX1_declare, RX1, 542, 9999, 544, 543, 82, 9999), (103, 8, 100, 0, yX9_step, RX9, 554, 9999, 531, 530, 76, 9999), (106, 8, 96, 0, yX9_index, RX9, 590, 9999, 592, 591, 76, 9999), (109, 5, 57, 0, yX5_add, RX5, 594, 9999, 596, 595, 83, 9999), (113, 5, 58, 0, yX5_at, RX5, 628, 9999, 630, 629, 83, 9999), (117, 8, 98, 0, yX9_keyAt, RX9, 632, 9999, 634, 633, 76, 9999), (121, 1, 28, 0, yX1_find, RX1, 636, 9999, 548, 547, 82, 9999), (125, 8, 97, 0, yX9_placeAt, RX9, 637, 9999, 639, 638, 76, 9999), (128, 5, 59, 0, yX5_set, RX5, 641, 9999, 643, 642, 83, 9999)],
  [],
  [(19, 3, 46, 0, yX3_clear, RX3, 684, 9999, 686, 685, 84, 9999), (29, 4, 61, 1, ⟨RX4, "begin", "(LTrajectoryRails$Code;)V"⟩, RX6, 688, 689, 690, 458, 77, 456), (37, 4, 63, 1, ⟨RX4, "takeWord", "(J)Z"⟩, RX6, 692, 693, 694, 522, 77, 520), (41, 4, 51, 0, yX4_takeClauses, RX4, 695, 9999, 21, 697, 79, 9999), (54, 4, 62, 1, ⟨RX4, "takeSign", "(I)Z"⟩, RX6, 728, 729, 730, 559, 77, 557), (62, 8, 93, 0, yX9_kind, RX9, 601, 9999, 511, 510, 76, 9999), (66, 8, 94, 0, yX9_place, RX9, 732, 9999, 552, 551, 76, 9999), (69, 4, 52, 0, yX4_takeClause, RX4, 699, 9999, 22, 701, 79, 9999), (72, 8, 95, 0, yX9_key, RX9, 602, 9999, 527, 526, 76, 9999), (76, 1, 28, 0, yX1_find, RX1, 703, 9999, 548, 547, 82, 9999), (82, 8, 100, 0, yX9_step, RX9, 608, 9999, 531, 530, 76, 9999), (100, 4, 64, 1, ⟨RX4, "takeFormula", "()Z"⟩, RX6, 705, 706, 707, 570, 77, 568), (111, 4, 53, 0, yX4_takeTimes, RX4, 709, 9999, 23, 711, 79, 9999), (116, 3, 48, 0, yX3_setTimes, RX3, 714, 9999, 716, 715, 84, 9999), (120, 4, 54, 0, yX4_takeTime, RX4, 719, 9999, 24, 721, 79, 9999), (126, 8, 99, 0, yX9_number, RX9, 723, 9999, 725, 724, 76, 9999), (129, 3, 47, 0, yX3_variable, RX3, 603, 9999, 605, 604, 84, 9999), (132, 5, 57, 0, yX5_add, RX5, 607, 9999, 596, 595, 83, 9999)],
  [],
  [(17, 8, 83, 0, yX9_scan, RX9, 460, 9999, 462, 461, 76, 9999), (35, 8, 93, 0, yX9_kind, RX9, 524, 9999, 511, 510, 76, 9999), (39, 8, 100, 0, yX9_step, RX9, 529, 9999, 531, 530, 76, 9999), (42, 8, 95, 0, yX9_key, RX9, 525, 9999, 527, 526, 76, 9999), (54, 2, 65, 2, ⟨RX6, "takeOpeners", "()Z"⟩, RX6, 572, 1448, 0, 574, 77, 574), (54, 4, 65, 2, ⟨RX6, "takeOpeners", "()Z"⟩, RX6, 572, 1448, 1, 574, 77, 574), (58, 2, 70, 2, ⟨RX6, "takeAtom", "()Z"⟩, RX6, 580, 1450, 8, 582, 77, 582), (58, 4, 70, 2, ⟨RX6, "takeAtom", "()Z"⟩, RX6, 580, 1450, 9, 582, 77, 582), (61, 2, 66, 2, ⟨RX6, "takeClosers", "()V"⟩, RX6, 612, 1451, 2, 614, 77, 614), (61, 4, 66, 2, ⟨RX6, "takeClosers", "()V"⟩, RX6, 612, 1451, 3, 614, 77, 614), (64, 2, 68, 2, ⟨RX6, "setFree", "(I)V"⟩, RX6, 616, 1452, 6, 618, 77, 618), (64, 4, 68, 2, ⟨RX6, "setFree", "(I)V"⟩, RX6, 616, 1452, 7, 618, 77, 618), (72, 2, 67, 2, ⟨RX6, "letWait", "(I)V"⟩, RX6, 576, 1449, 4, 578, 77, 578), (72, 4, 67, 2, ⟨RX6, "letWait", "(I)V"⟩, RX6, 576, 1449, 5, 578, 77, 578), (75, 5, 57, 0, yX5_add, RX5, 611, 9999, 596, 595, 83, 9999), (78, 2, 43, 1, ⟨RX6, "takeLeaf", "()Z"⟩, RX6, 584, 586, 587, 588, 78, 585), (78, 4, 55, 1, ⟨RX6, "takeLeaf", "()Z"⟩, RX6, 584, 586, 598, 599, 79, 585)],
  [(20, 5, 58, 0, yX5_at, RX5, 763, 9999, 630, 629, 83, 9999), (26, 6, 75, 0, yX7_push, RX7, 764, 9999, 28, 766, 81, 9999), (30, 6, 76, 0, yX7_apply, RX7, 768, 9999, 29, 770, 81, 9999), (36, 6, 77, 0, yX7_invert, RX7, 773, 9999, 30, 775, 81, 9999), (39, 6, 78, 0, yX7_join, RX7, 777, 9999, 31, 779, 81, 9999)],
  [],
  [(36, 7, 81, 0, yX8_byteAt, RX8, 464, 9999, 466, 465, 75, 9999), (43, 8, 84, 0, yX9_addToken, RX9, 480, 9999, 10, 482, 76, 9999), (52, 8, 85, 0, yX9_stopOf, RX9, 484, 9999, 11, 486, 76, 9999)],
  [(72, 7, 80, 0, yX8_put, RX8, 438, 9999, 440, 439, 75, 9999), (76, 2, 38, 0, yX2_read, RX2, 450, 9999, 452, 451, 78, 9999), (80, 4, 50, 0, yX4_read, RX4, 680, 9999, 682, 681, 79, 9999), (83, 0, 1, 0, yX0_run, RX0, 733, 9999, 735, 734, 80, 9999), (87, 0, 14, 0, yX0_howManyFail, RX0, 816, 9999, 818, 817, 80, 9999), (91, 0, 15, 0, yX0_howManyAreOut, RX0, 829, 9999, 831, 830, 80, 9999), (94, 0, 17, 0, yX0_failingByRank, RX0, 837, 9999, 839, 838, 80, 9999), (98, 0, 13, 0, yX0_hasAssignment, RX0, 848, 9999, 850, 849, 80, 9999), (102, 0, 20, 0, yX0_firstWrongClause, RX0, 852, 9999, 854, 853, 80, 9999), (105, 0, 21, 0, yX0_firstWrongTime, RX0, 863, 9999, 865, 864, 80, 9999), (108, 9, 114, 0, yX10_hasPlace, RX10, 872, 9999, 39, 874, 74, 9999), (112, 0, 23, 0, yX0_valueOf, RX0, 880, 9999, 882, 881, 80, 9999), (119, 0, 24, 0, yX0_everMatters, RX0, 888, 9999, 890, 889, 80, 9999), (123, 1, 27, 0, yX1_hasNode, RX1, 876, 9999, 878, 877, 82, 9999), (139, 1, 29, 0, yX1_howMany, RX1, 905, 9999, 907, 906, 82, 9999)],
  [],
  [],
  [],
  [(87, 13, 119, 0, yX14_put, RX14, 1114, 9999, 41, 1116, 85, 9999), (98, 13, 122, 0, yX14_byteAt, RX14, 1134, 9999, 43, 1136, 85, 9999), (131, 13, 127, 0, yX14_here, RX14, 1233, 9999, 44, 1235, 85, 9999), (134, 13, 128, 0, yX14_check, RX14, 1241, 9999, 46, 1243, 85, 9999), (153, 13, 132, 0, yX14_xors, RX14, 1320, 9999, 51, 1322, 85, 9999), (156, 13, 130, 0, yX14_tree, RX14, 1336, 9999, 55, 1338, 85, 9999), (160, 13, 133, 0, yX14_ands, RX14, 1324, 9999, 52, 1326, 85, 9999), (163, 13, 134, 0, yX14_not, RX14, 1328, 9999, 53, 1330, 85, 9999), (166, 13, 135, 0, yX14_atom, RX14, 1332, 9999, 54, 1334, 85, 9999), (169, 13, 131, 0, yX14_ors, RX14, 1316, 9999, 50, 1318, 85, 9999), (172, 13, 129, 0, yX14_take, RX14, 1312, 9999, 49, 1314, 85, 9999), (188, 13, 136, 0, yX14_variable, RX14, 1340, 9999, 56, 1342, 85, 9999), (213, 13, 138, 0, yX14_declare, RX14, 1305, 9999, 48, 1307, 85, 9999), (216, 13, 140, 0, yX14_names, RX14, 1352, 9999, 59, 1354, 85, 9999), (220, 13, 141, 0, yX14_reach, RX14, 1348, 9999, 58, 1350, 85, 9999), (224, 13, 126, 0, yX14_readTokens, RX14, 1127, 9999, 42, 1129, 85, 9999), (227, 13, 139, 0, yX14_item, RX14, 1237, 9999, 45, 1239, 85, 9999), (230, 13, 142, 0, yX14_finish, RX14, 1344, 9999, 57, 1346, 85, 9999), (256, 13, 144, 0, yX14_number, RX14, 1368, 9999, 62, 1370, 85, 9999), (262, 13, 145, 0, yX14_clause, RX14, 1364, 9999, 61, 1366, 85, 9999), (265, 13, 146, 0, yX14_part, RX14, 1360, 9999, 60, 1362, 85, 9999), (274, 13, 155, 0, yX14_judge, RX14, 1373, 9999, 63, 1375, 85, 9999), (280, 13, 149, 0, yX14_variable_, RX14, 1400, 9999, 69, 1402, 85, 9999), (282, 13, 150, 0, yX14_holds, RX14, 1396, 9999, 68, 1398, 85, 9999), (285, 13, 154, 0, yX14_work, RX14, 1377, 9999, 64, 1379, 85, 9999), (289, 13, 148, 0, yX14_cell, RX14, 1385, 9999, 66, 1387, 85, 9999), (292, 13, 151, 0, yX14_valueOf, RX14, 1381, 9999, 65, 1383, 85, 9999), (300, 13, 153, 0, yX14_applies, RX14, 1392, 9999, 67, 1394, 85, 9999), (303, 13, 156, 0, yX14_all, RX14, 1408, 9999, 70, 1410, 85, 9999), (306, 13, 161, 0, yX14_isPlace, RX14, 1428, 9999, 71, 1430, 85, 9999), (309, 13, 165, 0, yX14_kinds, RX14, 1444, 9999, 72, 1446, 85, 9999)],
  [(13, 9, 102, 0, yX10_feed, RX10, 434, 9999, 436, 435, 74, 9999), (17, 13, 120, 0, yX14_feed, RX14, 1110, 9999, 1112, 1111, 85, 9999), (18, 9, 103, 0, yX10_end, RX10, 442, 9999, 444, 443, 74, 9999), (22, 13, 121, 0, yX14_end, RX14, 1118, 9999, 1120, 1119, 85, 9999), (23, 9, 104, 0, yX10_circuit, RX10, 446, 9999, 448, 447, 74, 9999), (27, 13, 143, 0, yX14_circuit, RX14, 1122, 9999, 1124, 1123, 85, 9999), (28, 9, 105, 0, yX10_assertion, RX10, 676, 9999, 678, 677, 74, 9999), (31, 13, 147, 0, yX14_assertion, RX14, 1356, 9999, 1358, 1357, 85, 9999), (32, 9, 106, 0, yX10_fails, RX10, 812, 9999, 814, 813, 74, 9999), (35, 13, 157, 0, yX14_fails, RX14, 1404, 9999, 1406, 1405, 85, 9999), (36, 9, 107, 0, yX10_excluded, RX10, 825, 9999, 827, 826, 74, 9999), (39, 13, 158, 0, yX14_excluded, RX14, 1412, 9999, 1414, 1413, 85, 9999), (40, 9, 108, 0, yX10_failing, RX10, 833, 9999, 835, 834, 74, 9999), (43, 13, 159, 0, yX14_failing, RX14, 1416, 9999, 1418, 1417, 85, 9999), (44, 9, 109, 0, yX10_shortfall, RX10, 844, 9999, 846, 845, 74, 9999), (48, 13, 160, 0, yX14_shortfall, RX14, 1420, 9999, 1422, 1421, 85, 9999), (49, 9, 110, 0, yX10_value, RX10, 868, 9999, 870, 869, 74, 9999), (53, 13, 162, 0, yX14_value, RX14, 1424, 9999, 1426, 1425, 85, 9999), (54, 9, 111, 0, yX10_matters, RX10, 884, 9999, 886, 885, 74, 9999), (57, 13, 163, 0, yX14_matters, RX14, 1432, 9999, 1434, 1433, 85, 9999), (58, 9, 112, 0, yX10_cone, RX10, 896, 9999, 898, 897, 74, 9999), (61, 13, 164, 0, yX14_cone, RX14, 1436, 9999, 1438, 1437, 85, 9999), (62, 9, 113, 0, yX10_count, RX10, 901, 9999, 903, 902, 74, 9999), (65, 13, 166, 0, yX14_count, RX14, 1440, 9999, 1442, 1441, 85, 9999)],
  [],
  []]
def mjCn : List (List (Nat × Nat)) := [
  [(77, 1), (81, 1), (84, 1), (87, 1), (90, 1), (96, 1), (124, 6), (128, 0), (155, 3), (165, 0), (167, 3), (171, 1), (189, 2), (192, 1), (195, 3)],
  [(45, 1), (50, 1), (54, 1), (58, 0), (61, 1), (65, 1)],
  [(29, 1), (39, 0), (45, 0), (49, 0), (52, 0), (55, 0), (59, 0), (64, 1), (68, 0), (73, 1), (79, 1), (82, 1), (85, 0), (95, 0), (99, 2), (103, 0), (106, 0), (109, 1), (113, 1), (117, 1), (121, 1), (125, 1), (128, 2)],
  [],
  [(19, 0), (29, 1), (37, 1), (41, 0), (54, 1), (62, 0), (66, 0), (69, 0), (72, 0), (76, 1), (82, 0), (100, 0), (111, 1), (116, 3), (120, 1), (126, 0), (129, 1), (132, 1)],
  [],
  [(17, 0), (35, 0), (39, 0), (42, 0), (54, 0), (58, 0), (61, 0), (64, 1), (72, 1), (75, 1), (78, 0)],
  [(20, 1), (26, 2), (30, 1), (36, 0), (39, 1)],
  [],
  [(36, 1), (43, 2), (52, 2)],
  [(72, 1), (76, 1), (80, 2), (83, 2), (87, 0), (91, 0), (94, 1), (98, 1), (102, 1), (105, 1), (108, 2), (112, 3), (119, 3), (123, 1), (139, 1)],
  [],
  [],
  [],
  [(87, 1), (98, 1), (131, 1), (134, 1), (153, 1), (156, 3), (160, 1), (163, 1), (166, 1), (169, 1), (172, 1), (188, 0), (213, 1), (216, 2), (220, 3), (224, 0), (227, 0), (230, 0), (256, 1), (262, 1), (265, 1), (274, 1), (280, 1), (282, 1), (285, 2), (289, 3), (292, 3), (300, 1), (303, 0), (306, 2), (309, 1)],
  [(13, 5), (17, 5), (18, 1), (22, 1), (23, 0), (27, 0), (28, 0), (31, 0), (32, 0), (35, 0), (36, 0), (39, 0), (40, 1), (43, 1), (44, 2), (48, 2), (49, 3), (53, 3), (54, 3), (57, 3), (58, 1), (61, 1), (62, 1), (65, 1)],
  [],
  []]
def mjMx : List (Nat × Nat × Nat) := [(0, 62, 737), (3, 54, 718), (9, 47, 506)]
def mjO : List Nat := [3, 3, 9999, 3, 9999, 1, 1, 1, 1, 1, 1, 3, 3, 3, 1, 9999, 9999, 9999]
def mjK : List (List (Nat × Int32 × Nat)) := [[], [], [], [], [], [], [], [], [], [], [], [], [], [], [(60, 245760, 1014)], [], [], []]
def mjJ : List (List (Nat × Int64 × Nat)) := [
  [(71, -1, 738)],
  [],
  [(62, 452824429940, 517), (71, 2003399269, 561), (77, 465491485544, 623)],
  [],
  [(35, 444150998382, 691), (98, 26995, 704), (106, 26982, 708), (114, 24948, 713), (124, 29807, 727), (52, 1952998766, 731)],
  [],
  [(81, 48, 609), (83, 49, 610)],
  [(34, -1, 772)],
  [],
  [(76, 452824429940, 497), (78, 2003399269, 498), (80, 465491485544, 499), (82, 444150998382, 500), (84, 1952998766, 501), (86, 26995, 502), (88, 26982, 503), (90, 24948, 504), (92, 29807, 505)],
  [],
  [],
  [],
  [],
  [(111, 10, 1146), (113, 48, 1147), (239, 12, 1372)],
  [],
  [(314, 6148914691236517205, 669), (316, 3689348814741910323, 670), (318, 1085102592571150095, 671)],
  []]
def mjW : List (List (Nat × Nat × Nat × Nat × Nat)) := [[(9, 6, 218, 219, 81)], [(25, 5, 283, 284, 83)], [], [(34, 5, 345, 284, 83)], [], [], [], [], [], [], [(7, 7, 108, 109, 75), (16, 8, 124, 125, 76), (21, 2, 151, 152, 78), (30, 4, 193, 194, 79), (37, 0, 212, 213, 80), (44, 1, 277, 278, 82), (54, 3, 339, 340, 84)], [], [], [], [(27, 12, 915, 916, 86), (37, 11, 945, 946, 87), (47, 10, 971, 972, 88)], [(7, 9, 100, 101, 74), (10, 13, 909, 910, 85)], [], []]
/-- statics: owner, pool index, the mini machine's number, place of the link -/
def mjG : List (Nat × Nat × Nat × Nat) := [(0, 93, 1, 750), (14, 105, 2, 1141)]
def mjTh : List (Nat × Nat) := [(128, 18), (142, 83), (142, 162)]
def tyT (c : Nat) : Nat → FieldType := match c with
  | 0 => tyX0
  | 1 => tyX1
  | 2 => tyX2
  | 3 => tyX3
  | 4 => tyX4
  | 5 => tyX5
  | 6 => tyX7
  | 7 => tyX8
  | 8 => tyX9
  | 9 => tyX10
  | 10 => tyX11
  | 11 => tyX12
  | 12 => tyX13
  | 13 => tyX14
  | _ => fun _ => .int
def nFt : List Nat := [14, 9, 8, 12, 8, 2, 3, 2, 6, 9, 10, 5, 6, 31, 0]
def nF (c : Nat) : Nat := nFt.getD c 0
def mjC : List vw_C := vwCl ++ [("java/lang/IllegalArgumentException", TX6, 0)]
end
section
/-! ===== the mini machine ===== -/
/-- what an address is: an object of a class (by its place in mjC), or an array of a type and a length -/
abbrev Shp : Type := Nat ⊕ (FieldType × Nat)
/-- the heap: shapes; int fields and int, byte, boolean arrays; long fields and arrays; references (0 is null); cells made; slots made -/
abbrev MH : Type := (Nat → Shp) × (Nat → Nat → Int32) × (Nat → Nat → Int64) × (Nat → Nat → Nat) × Nat × Nat
def u1 {α : Type} (f : Nat → α) (a : Nat) (v : α) : Nat → α := fun x => if x = a then v else f x
def u2 {α : Type} (f : Nat → Nat → α) (a k : Nat) (v : α) : Nat → Nat → α := u1 f a (u1 (f a) k v)
def fl (o idx ci : Nat) : Option Nat := ((mjF.getD o []).find? (fun r => r.1 == idx && r.2.1 == ci)).map (fun r => r.2.2.1)
def csl (o idx : Nat) : Option Nat := ((mjCs.getD o []).find? (fun r => r.1 == idx)).map (fun r => r.2.1)
def cpl (o idx : Nat) : Option Nat := ((mjCp.getD o []).find? (fun r => r.1 == idx)).map (fun r => r.2.1)
def cvl (o idx ci : Nat) : Option Nat := ((mjCv.getD o []).find? (fun r => r.1 == idx && r.2.1 == ci)).map (fun r => r.2.2.1)
def cvn (o idx : Nat) : Option Nat := ((mjCn.getD o []).find? (fun r => r.1 == idx)).map (fun r => r.2)
def kIl (o idx : Nat) : Option Int32 := ((mjK.getD o []).find? (fun r => r.1 == idx)).map (fun r => r.2.1)
def kJl (o idx : Nat) : Option Int64 := ((mjJ.getD o []).find? (fun r => r.1 == idx)).map (fun r => r.2.1)
def nwl (o idx : Nat) : Option Nat := ((mjW.getD o []).find? (fun r => r.1 == idx)).map (fun r => r.2.1)
def gsl (o idx : Nat) : Option Nat := (mjG.find? (fun r => r.1 == o && r.2.1 == idx)).map (fun r => r.2.2.1)
def ldI (ls : List Value) (n : Nat) : Option Int32 := match ls[n]? with
  | some (.int x) => some x
  | _ => none
def ldJ (ls : List Value) (n : Nat) : Option Int64 := match ls[n]? with
  | some (.long x) => some x
  | _ => none
def ldR (ls : List Value) (n : Nat) : Option Value := match ls[n]? with
  | some (.ref a) => some (.ref a)
  | some (.retAddr a) => some (.retAddr a)
  | _ => none
def klL (ls : List Value) (n : Nat) : List Value := match n with
  | 0 => ls
  | k + 1 => match ls[k]? with
    | some (.int _) => ls
    | some (.ref _) => ls
    | some (.retAddr _) => ls
    | some .null => ls
    | _ => ls.set k .null
def st1 (ls : List Value) (n : Nat) (v : Value) : Option (List Value) := if n < ls.length then some ((klL ls n).set n v) else none
def st2 (ls : List Value) (n : Nat) (v : Value) : Option (List Value) := if n + 1 < ls.length then some (((klL ls n).set n v).set (n + 1) .null) else none
def isR (v : Value) : Bool := match v with
  | .ref _ => true
  | .retAddr _ => true
  | _ => false
/-- constants, locals, the stack, arithmetic: locals, stack -/
def xnA (j : Nat) (i : Instr) (ls st : List Value) : Option (List Value × List Value) := match i with
  | .iconst n => some (ls, .int (Int32.ofInt n) :: st)
  | .bipush n => some (ls, .int (Int8.ofInt n).toInt32 :: st)
  | .sipush n => some (ls, .int (Int16.ofInt n).toInt32 :: st)
  | .lconst n => some (ls, .long (Int64.ofNat (n : Nat)) :: st)
  | .aconst_null => some (ls, .ref 0 :: st)
  | .ldc k => (kIl (mO j) k).map fun v => (ls, .int v :: st)
  | .ldc2_w k => (kJl (mO j) k).map fun v => (ls, .long v :: st)
  | .iload_n n => (ldI ls (n : Nat)).map fun x => (ls, .int x :: st)
  | .iload n => (ldI ls n).map fun x => (ls, .int x :: st)
  | .lload_n n => (ldJ ls (n : Nat)).map fun x => (ls, .long x :: st)
  | .lload n => (ldJ ls n).map fun x => (ls, .long x :: st)
  | .aload_n n => (ldR ls (n : Nat)).map fun x => (ls, x :: st)
  | .aload n => (ldR ls n).map fun x => (ls, x :: st)
  | .istore_n n => match st with
    | .int x :: t => (st1 ls (n : Nat) (.int x)).map fun l => (l, t)
    | _ => none
  | .istore n => match st with
    | .int x :: t => (st1 ls n (.int x)).map fun l => (l, t)
    | _ => none
  | .lstore_n n => match st with
    | .long x :: t => (st2 ls (n : Nat) (.long x)).map fun l => (l, t)
    | _ => none
  | .lstore n => match st with
    | .long x :: t => (st2 ls n (.long x)).map fun l => (l, t)
    | _ => none
  | .astore_n n => match st with
    | v :: t => if isR v then (st1 ls (n : Nat) v).map fun l => (l, t) else none
    | _ => none
  | .astore n => match st with
    | v :: t => if isR v then (st1 ls n v).map fun l => (l, t) else none
    | _ => none
  | .iinc n c => (ldI ls n).map fun x => (ls.set n (.int (x + Int32.ofInt c)), st)
  | .dup => match st with
    | v :: t => if v.category = 1 then some (ls, v :: v :: t) else none
    | _ => none
  | .dup2 => match st with
    | v :: w :: t => if v.category = 1 ∧ w.category = 1 then some (ls, v :: w :: v :: w :: t) else none
    | _ => none
  | .iadd => match st with
    | .int y :: .int x :: t => some (ls, .int (x + y) :: t)
    | _ => none
  | .isub => match st with
    | .int y :: .int x :: t => some (ls, .int (x - y) :: t)
    | _ => none
  | .imul => match st with
    | .int y :: .int x :: t => some (ls, .int (x * y) :: t)
    | _ => none
  | .idiv => match st with
    | .int y :: .int x :: t => if y = 0 then none else some (ls, .int (x / y) :: t)
    | _ => none
  | .irem => match st with
    | .int y :: .int x :: t => if y = 0 then none else some (ls, .int (x - x / y * y) :: t)
    | _ => none
  | .iand => match st with
    | .int y :: .int x :: t => some (ls, .int (x &&& y) :: t)
    | _ => none
  | .ior => match st with
    | .int y :: .int x :: t => some (ls, .int (x ||| y) :: t)
    | _ => none
  | .ixor => match st with
    | .int y :: .int x :: t => some (ls, .int (x ^^^ y) :: t)
    | _ => none
  | .ineg => match st with
    | .int x :: t => some (ls, .int (-x) :: t)
    | _ => none
  | .ishl => match st with
    | .int y :: .int x :: t => some (ls, .int (x <<< (y &&& 31)) :: t)
    | _ => none
  | .ishr => match st with
    | .int y :: .int x :: t => some (ls, .int (x >>> (y &&& 31)) :: t)
    | _ => none
  | .ladd => match st with
    | .long y :: .long x :: t => some (ls, .long (x + y) :: t)
    | _ => none
  | .lsub => match st with
    | .long y :: .long x :: t => some (ls, .long (x - y) :: t)
    | _ => none
  | .lmul => match st with
    | .long y :: .long x :: t => some (ls, .long (x * y) :: t)
    | _ => none
  | .land => match st with
    | .long y :: .long x :: t => some (ls, .long (x &&& y) :: t)
    | _ => none
  | .lor => match st with
    | .long y :: .long x :: t => some (ls, .long (x ||| y) :: t)
    | _ => none
  | .lxor => match st with
    | .long y :: .long x :: t => some (ls, .long (x ^^^ y) :: t)
    | _ => none
  | .lneg => match st with
    | .long x :: t => some (ls, .long (-x) :: t)
    | _ => none
  | .lshl => match st with
    | .int y :: .long x :: t => some (ls, .long (x <<< (y.toInt64 &&& 63)) :: t)
    | _ => none
  | .lshr => match st with
    | .int y :: .long x :: t => some (ls, .long (x >>> (y.toInt64 &&& 63)) :: t)
    | _ => none
  | .lushr => match st with
    | .int y :: .long x :: t => some (ls, .long (x.toUInt64 >>> (y.toInt64.toUInt64 &&& Int64.toUInt64 63)).toInt64 :: t)
    | _ => none
  | .i2l => match st with
    | .int x :: t => some (ls, .long x.toInt64 :: t)
    | _ => none
  | .l2i => match st with
    | .long x :: t => some (ls, .int x.toInt32 :: t)
    | _ => none
  | .i2b => match st with
    | .int x :: t => some (ls, .int x.toInt8.toInt32 :: t)
    | _ => none
  | .lcmp => match st with
    | .long y :: .long x :: t => some (ls, .int (lg_cmp x y) :: t)
    | _ => none
  | _ => none
def tg (pc : Nat) (off : Int) : Option Nat := match (pc : Int) + off with
  | .ofNat t => some t
  | .negSucc _ => none
def cnd (c : ClassFile.Cond) (x y : Int32) : Bool := match c with
  | .eq => decide (x = y)
  | .ne => decide (¬ x = y)
  | .lt => decide (x < y)
  | .ge => decide (y ≤ x)
  | .gt => decide (y < x)
  | .le => decide (x ≤ y)
/-- branches: target, stack -/
def xnB (pc : Nat) (i : Instr) (st : List Value) : Option (Nat × List Value) := match i with
  | .goto off => (tg pc off).map fun t => (t, st)
  | .ifCond c off => match st with
    | .int x :: t => (tg pc off).map fun g => if cnd c x 0 = true then (g, t) else (pc + 3, t)
    | _ => none
  | .if_icmp c off => match st with
    | .int y :: .int x :: t => (tg pc off).map fun g => if cnd c x y = true then (g, t) else (pc + 3, t)
    | _ => none
  | .ifnull off => match st with
    | .ref a :: t => if a = 0 then (tg pc off).map fun g => (g, t) else some (pc + 3, t)
    | _ => none
  | .ifnonnull off => match st with
    | .ref a :: t => if a = 0 then some (pc + 3, t) else (tg pc off).map fun g => (g, t)
    | _ => none
  | .tableswitch dflt lo hi offs => match st with
    | .int x :: t => if x.toInt < lo ∨ hi < x.toInt then (tg pc dflt).map fun g => (g, t) else match offs[(x.toInt - lo).toNat]? with
      | some off => (tg pc off).map fun g => (g, t)
      | none => none
    | _ => none
  | .lookupswitch dflt ps => match st with
    | .int x :: t => if (ps.toList.zip (ps.toList.drop 1)).all (fun (a, next) => a.1 < next.1) = true then (tg pc (Op.lookupswitch.offset ps.toList dflt x.toInt)).map fun g => (g, t) else none
    | _ => none
  | _ => none
def inb (i : Int32) (n : Nat) : Bool := decide (¬ (i < 0 ∨ n ≤ i.toNatClampNeg))
def fv (M : MH) (ci a f : Nat) : Value := match tyT ci f with
  | .long => .long (M.2.2.1 a f)
  | .object _ => .ref (M.2.2.2.1 a f)
  | .array _ => .ref (M.2.2.2.1 a f)
  | _ => .int (M.2.1 a f)
def wI (M : MH) (a k : Nat) (x : Int32) : MH := (M.1, u2 M.2.1 a k x, M.2.2)
def wJ (M : MH) (a k : Nat) (x : Int64) : MH := (M.1, M.2.1, u2 M.2.2.1 a k x, M.2.2.2)
def wR (M : MH) (a k : Nat) (x : Nat) : MH := (M.1, M.2.1, M.2.2.1, u2 M.2.2.2.1 a k x, M.2.2.2.2)
def pf (M : MH) (ci a f : Nat) (v : Value) : Option MH := match tyT ci f with
  | .long => match v with
    | .long x => some (wJ M a f x)
    | _ => none
  | .int => match v with
    | .int x => some (wI M a f x)
    | _ => none
  | .boolean => match v with
    | .int x => if x = 0 ∨ x = 1 then some (wI M a f x) else none
    | _ => none
  | .object _ => match v with
    | .ref q => some (wR M a f q)
    | _ => none
  | .array _ => match v with
    | .ref q => some (wR M a f q)
    | _ => none
  | _ => none
def finF (ci f : Nat) : Bool := ((mjC.getD ci ("", TX6, 0)).2.1 f).2.2.2
def decF (ci f : Nat) : String := ((mjC.getD ci ("", TX6, 0)).2.1 f).1
def pfOK (j ci f : Nat) : Bool := !(finF ci f) || (decide ((mY j).name = "<init>") && decide (decF ci f = oN (mO j)))
def newO (M : MH) (ci : Nat) : MH := (u1 M.1 (M.2.2.2.2.1 + 1) (.inl ci), u1 M.2.1 (M.2.2.2.2.1 + 1) (fun _ => 0), u1 M.2.2.1 (M.2.2.2.2.1 + 1) (fun _ => 0), u1 M.2.2.2.1 (M.2.2.2.2.1 + 1) (fun _ => 0), M.2.2.2.2.1 + 1, M.2.2.2.2.2 + nF ci)
def newA (M : MH) (ty : FieldType) (n : Nat) : MH := (u1 M.1 (M.2.2.2.2.1 + 1) (.inr (ty, n)), u1 M.2.1 (M.2.2.2.2.1 + 1) (fun _ => 0), u1 M.2.2.1 (M.2.2.2.2.1 + 1) (fun _ => 0), M.2.2.2.1, M.2.2.2.2.1 + 1, M.2.2.2.2.2 + n)
def arT (t : ArrayType) : Option FieldType := match t with
  | .int => some .int
  | .long => some .long
  | .byte => some .byte
  | .boolean => some .boolean
  | _ => none
def jTab (e : Nat) : List Int64 := match e with
  | 1 => [-6148914691236517206, -3689348814741910324, -1085102592571150096, -71777214294589696, -281470681808896, -4294967296]
  | 2 => [452824429940, 2003399269, 465491485544, 444150998382, 1952998766, 26995, 26982, 24948, 29807]
  | _ => []
def ixT : List Int32 := [61, 38, 124, 94, 33, 40, 41, 59, 44, 46]
def ixF (c : Int32) : List Int32 → Nat → Int32
  | [], _ => -1
  | x :: l, k => if x = c then nI k else ixF c l (k + 1)
def ixOf (c : Int32) : Int32 := ixF c ixT 0
def wt (st : List Value) : Nat := (st.map fun v => v.category).sum
/-- the heap: next pc, stack, heap -/
def xnC (xs : Nat → Int32) (L d j pc : Nat) (i : Instr) (st : List Value) (M : MH) : Option (Nat × List Value × MH) := match i with
  | .getfield k => match st with
    | .ref a :: t => match M.1 a with
      | .inl ci => (fl (mO j) k ci).map fun f => (pc + 3, fv M ci a f :: t, M)
      | _ => none
    | _ => none
  | .putfield k => match st with
    | v :: .ref a :: t => match M.1 a with
      | .inl ci => match fl (mO j) k ci with
        | some f => if pfOK j ci f then (pf M ci a f v).map fun M' => (pc + 3, t, M') else none
        | none => none
      | _ => none
    | _ => none
  | .iaload => match st with
    | .int x :: .ref a :: t => match M.1 a with
      | .inr (.int, n) => if inb x n then some (pc + 1, .int (M.2.1 a x.toNatClampNeg) :: t, M) else none
      | _ => none
    | .int x :: .retAddr 0 :: t => if inb x L then some (pc + 1, .int (xs x.toNatClampNeg) :: t, M) else none
    | _ => none
  | .laload => match st with
    | .int x :: .ref a :: t => match M.1 a with
      | .inr (.long, n) => if inb x n then some (pc + 1, .long (M.2.2.1 a x.toNatClampNeg) :: t, M) else none
      | _ => none
    | .int x :: .retAddr e :: t => if inb x (jTab e).length then some (pc + 1, .long ((jTab e).getD x.toNatClampNeg 0) :: t, M) else none
    | _ => none
  | .baload => match st with
    | .int x :: .ref a :: t => match M.1 a with
      | .inr (.byte, n) => if inb x n then some (pc + 1, .int (M.2.1 a x.toNatClampNeg) :: t, M) else none
      | .inr (.boolean, n) => if inb x n then some (pc + 1, .int (M.2.1 a x.toNatClampNeg) :: t, M) else none
      | _ => none
    | _ => none
  | .iastore => match st with
    | .int v :: .int x :: .ref a :: t => match M.1 a with
      | .inr (.int, n) => if inb x n then some (pc + 1, t, wI M a x.toNatClampNeg v) else none
      | _ => none
    | _ => none
  | .lastore => match st with
    | .long v :: .int x :: .ref a :: t => match M.1 a with
      | .inr (.long, n) => if inb x n then some (pc + 1, t, wJ M a x.toNatClampNeg v) else none
      | _ => none
    | _ => none
  | .bastore => match st with
    | .int v :: .int x :: .ref a :: t => match M.1 a with
      | .inr (.byte, n) => if inb x n then some (pc + 1, t, wI M a x.toNatClampNeg (vp_nar .byte v)) else none
      | .inr (.boolean, n) => if inb x n then some (pc + 1, t, wI M a x.toNatClampNeg (vp_nar .boolean v)) else none
      | _ => none
    | _ => none
  | .arraylength => match st with
    | .ref a :: t => match M.1 a with
      | .inr (_, n) => some (pc + 1, .int (Int32.ofNat n) :: t, M)
      | _ => none
    | .retAddr 0 :: t => some (pc + 1, .int (Int32.ofNat L) :: t, M)
    | _ => none
  | .new k => (nwl (mO j) k).map fun ci => (pc + 3, .ref (M.2.2.2.2.1 + 1) :: st, newO M ci)
  | .newarray ty => match st with
    | .int n :: t => match arT ty with
      | some y => if ¬ n < 0 ∧ n.toNatClampNeg ≤ 1000000 then some (pc + 2, .ref (M.2.2.2.2.1 + 1) :: t, newA M y n.toNatClampNeg) else none
      | none => none
    | _ => none
  | .getstatic k => (gsl (mO j) k).map fun e => (pc + 3, .retAddr e :: st, M)
  | .ldc k => if mO j = 14 ∧ k = 115 then some (pc + 2, .retAddr 3 :: st, M) else none
  | .invokespecial k => if mjO.getD (mO j) 9999 = k ∧ k ≠ 9999 then match st with
      | .ref a :: t => if a ≠ 0 ∧ 1 ≤ d ∧ wt t ≤ 8 then some (pc + 3, t, M) else none
      | _ => none
    else none
  | .invokestatic k => if mjMx.any (fun r => r.1 == mO j && r.2.1 == k) = true then match st with
      | .int y :: .int x :: t => if 1 ≤ d ∧ wt t ≤ 8 then some (pc + 3, .int (if x < y then y else x) :: t, M) else none
      | _ => none
    else none
  | .invokevirtual k => if mO j = 14 ∧ k = 117 then match st with
      | .int c :: .retAddr 3 :: t => if 8 ≤ d ∧ wt t ≤ 8 then some (pc + 3, .int (ixOf c) :: t, M) else none
      | _ => none
    else none
  | _ => none
/-- lengths of the instructions that the mini machine knows, but for the switches -/
def ilen (i : Instr) : Option Nat := match i with
  | .aconst_null => some 1
  | .iload_n _ => some 1
  | .lload_n _ => some 1
  | .aload_n _ => some 1
  | .istore_n _ => some 1
  | .lstore_n _ => some 1
  | .astore_n _ => some 1
  | .dup => some 1
  | .dup2 => some 1
  | .iadd => some 1
  | .isub => some 1
  | .imul => some 1
  | .idiv => some 1
  | .irem => some 1
  | .iand => some 1
  | .ior => some 1
  | .ixor => some 1
  | .ineg => some 1
  | .ishl => some 1
  | .ishr => some 1
  | .ladd => some 1
  | .lsub => some 1
  | .lmul => some 1
  | .land => some 1
  | .lor => some 1
  | .lxor => some 1
  | .lneg => some 1
  | .lshl => some 1
  | .lshr => some 1
  | .lushr => some 1
  | .i2l => some 1
  | .l2i => some 1
  | .i2b => some 1
  | .lcmp => some 1
  | .iaload => some 1
  | .laload => some 1
  | .baload => some 1
  | .iastore => some 1
  | .lastore => some 1
  | .bastore => some 1
  | .arraylength => some 1
  | .ireturn => some 1
  | .lreturn => some 1
  | .return_ => some 1
  | .iconst _ => some 1
  | .lconst _ => some 1
  | .bipush _ => some 2
  | .ldc _ => some 2
  | .iload _ => some 2
  | .lload _ => some 2
  | .aload _ => some 2
  | .istore _ => some 2
  | .lstore _ => some 2
  | .astore _ => some 2
  | .newarray _ => some 2
  | .sipush _ => some 3
  | .ldc2_w _ => some 3
  | .iinc _ _ => some 3
  | .goto _ => some 3
  | .ifCond _ _ => some 3
  | .if_icmp _ _ => some 3
  | .ifnull _ => some 3
  | .ifnonnull _ => some 3
  | .getfield _ => some 3
  | .putfield _ => some 3
  | .new _ => some 3
  | .getstatic _ => some 3
  | .invokespecial _ => some 3
  | .invokevirtual _ => some 3
  | .invokestatic _ => some 3
  | _ => none
def okL (i : Instr) (ln : Nat) : Bool := match ilen i with
  | some k => decide (k = ln)
  | none => true
def xn (xs : Nat → Int32) (L d j pc ln : Nat) (i : Instr) (ls st : List Value) (M : MH) : Option (Nat × List Value × List Value × MH) := match xnA j i ls st with
  | some r => some (pc + ln, r.1, r.2, M)
  | none => match xnB pc i st with
    | some r => some (r.1, ls, r.2, M)
    | none => (xnC xs L d j pc i st M).map fun r => (r.1, ls, r.2.1, r.2.2)
def lay : List Value → List Value
  | [] => []
  | .long x :: t => .long x :: .null :: lay t
  | .double x :: t => .double x :: .null :: lay t
  | v :: t => v :: lay t
def en (k : Nat) (as : List Value) : List Value := lay as ++ List.replicate (mL k - (lay as).length) .null
def rt (j : Nat) (i : Instr) (st : List Value) : Option (Option Value) := match i with
  | .ireturn => match st with
    | [.int x] => match mR j with
      | some ty => if narrow ty (.int x) = .int x then some (some (.int x)) else none
      | none => none
    | _ => none
  | .lreturn => match st with
    | [.long x] => if mR j = some .long then some (some (.long x)) else none
    | _ => none
  | .return_ => match st with
    | [] => if mR j = none then some none else none
    | _ => none
  | _ => none
/-- values that a call may hand over -/
def vOK (v : Value) : Bool := match v with
  | .int _ => true
  | .long _ => true
  | .ref _ => true
  | _ => false
def cvk (o idx ci : Nat) : Bool := (mjCv.getD o []).any (fun r => r.1 == idx && r.2.1 == ci && r.2.2.2.1 == 0 && (mHH r.2.2.1).isEmpty)
/-- a call: the callee, its arguments, what stays on the stack; whether it may throw here -/
def cl (j : Nat) (i : Instr) (st : List Value) (M : MH) : Option (Nat × List Value × List Value × Bool) := match i with
  | .invokestatic k => match csl (mO j) k with
    | some y => if mP y ≤ st.length ∧ (lay (st.take (mP y)).reverse).length ≤ mL y ∧ wt (st.drop (mP y)) ≤ 8 ∧ (st.take (mP y)).all vOK = true then some (y, (st.take (mP y)).reverse, st.drop (mP y), false) else none
    | none => none
  | .invokespecial k => match cpl (mO j) k with
    | some y => match st.drop (mP y) with
      | .ref (a + 1) :: t => if (lay (.ref (a + 1) :: (st.take (mP y)).reverse)).length ≤ mL y ∧ wt t ≤ 8 ∧ (st.take (mP y)).all vOK = true then some (y, .ref (a + 1) :: (st.take (mP y)).reverse, t, false) else none
      | _ => none
    | none => none
  | .invokevirtual k => match cvn (mO j) k with
    | some n => match st.drop n with
      | .ref a :: t => match M.1 a with
        | .inl ci => match cvl (mO j) k ci with
          | some y => if (lay (.ref a :: (st.take n).reverse)).length ≤ mL y ∧ wt t ≤ 8 ∧ (st.take n).all vOK = true then some (y, .ref a :: (st.take n).reverse, t, cvk (mO j) k ci) else none
          | none => none
        | _ => none
      | _ => none
    | none => none
  | _ => none
/-- the handler that covers a pc: where it goes on behind its first instruction, the local that takes the exception -/
def hd (j pc : Nat) : Option (Nat × Nat) := match mHH j with
  | [(a, b, h, _)] => if a ≤ pc ∧ pc < b then some (h + 1, 1) else none
  | _ => none
def th (d j pc : Nat) (st : List Value) : Bool := decide ((j, pc) ∈ mjTh) && st.isEmpty && decide (8 ≤ d)
def thM (M : MH) : MH := (u1 M.1 (M.2.2.2.2.1 + 1) (.inl 14), M.2.1, M.2.2.1, M.2.2.2.1, M.2.2.2.2.1 + 1, M.2.2.2.2.2 + 6)
def xq (xs : Nat → Int32) (L : Nat) : Nat → Nat → Nat → Nat → List Value → List Value → MH → Option (Option (Option Value) × MH)
  | 0, _, _, _, _, _, _ => none
  | n + 1, d, j, pc, ls, st, M => match decode (mB j) pc with
    | .error _ => none
    | .ok (i, ln) => if okL i ln = false then none else match xn xs L d j pc ln i ls st M with
      | some r => xq xs L n d j r.1 r.2.1 r.2.2.1 r.2.2.2
      | none => match rt j i st with
        | some v => some (some v, M)
        | none => match cl j i st M with
          | some r => match d with
            | 0 => none
            | d' + 1 => match xq xs L n d' r.1 0 (en r.1 r.2.1) [] M with
              | none => none
              | some (some v, M') => xq xs L n (d' + 1) j (pc + 3) ls (v.toList ++ r.2.2.1) M'
              | some (none, M') => if r.2.2.2 = false then none else match hd j pc with
                | some h => xq xs L n (d' + 1) j h.1 ((klL ls h.2).set h.2 .null) [] M'
                | none => some (none, M')
          | none => if th d j pc st then some (none, thM M) else none
end
section
/-! ===== the mini machine and the JVM: values, locals, the heap ===== -/
def up (b : Nat) (ex : Nat → Nat) (v : Value) : Value := match v with
  | .ref 0 => .null
  | .ref (k + 1) => .ref (b + (k + 1))
  | .retAddr e => .ref (ex e)
  | v => v
def kn (v : Value) : Bool := match v with
  | .int _ => true
  | .long _ => true
  | .ref _ => true
  | .retAddr _ => true
  | _ => false
theorem up_cat (b : Nat) (ex : Nat → Nat) (v : Value) : (up b ex v).category = v.category := by
  cases v with
  | ref a => cases a <;> rfl
  | _ => rfl
theorem up_wt (b : Nat) (ex : Nat → Nat) (st : List Value) : ((st.map (up b ex)).map fun v => v.category).sum = wt st := by
  unfold wt
  rw [List.map_map]
  congr 1
  exact List.map_congr_left fun v _ => up_cat b ex v
theorem up_ref {b : Nat} {ex : Nat → Nat} {a : Nat} (h : a ≠ 0) : up b ex (.ref a) = .ref (b + a) := by
  cases a with
  | zero => exact absurd rfl h
  | succ k => rfl
def LV (b : Nat) (ex : Nat → Nat) (vs : List Value) (ls : Array Slot) : Prop := ls.size = vs.length ∧ lv_wf ls ∧ ∀ (i : Nat) (v : Value), vs[i]? = some v → kn v = true → ls[i]? = some (.val (up b ex v))
def lvl (b : Nat) (ex : Nat → Nat) (vs : List Value) : List (Nat × Value) := (List.range vs.length).filterMap fun i => (vs[i]?).bind fun v => if kn v = true then some (i, up b ex v) else none
theorem lvl_mem {b : Nat} {ex : Nat → Nat} {vs : List Value} {q : Nat × Value} : q ∈ lvl b ex vs ↔ ∃ v, vs[q.1]? = some v ∧ kn v = true ∧ q.2 = up b ex v := by
  unfold lvl
  rw [List.mem_filterMap]
  constructor
  · rintro ⟨i, hi, h⟩
    cases hv : vs[i]? with
    | none => rw [hv] at h; simp at h
    | some v =>
      rw [hv] at h
      simp only [Option.bind_some] at h
      split at h
      · rename_i hk
        cases h
        exact ⟨v, hv, hk, rfl⟩
      · cases h
  · rintro ⟨v, hv, hk, hq⟩
    refine ⟨q.1, ?_, ?_⟩
    · rw [List.mem_range]
      exact (List.getElem?_eq_some_iff.mp hv).1
    · rw [hv]
      simp only [Option.bind_some, hk, if_true]
      rw [← hq]
theorem LV.has {b : Nat} {ex : Nat → Nat} {vs : List Value} {ls : Array Slot} (h : LV b ex vs ls) : lv_has ls vs.length (lvl b ex vs) := by
  refine ⟨h.1, h.2.1, fun q hq => ?_⟩
  obtain ⟨v, h1, h2, h3⟩ := lvl_mem.mp hq
  rw [h3]
  exact h.2.2 _ _ h1 h2
theorem LV.at {b : Nat} {ex : Nat → Nat} {vs : List Value} {ls : Array Slot} (h : LV b ex vs ls) {i : Nat} {v : Value} (hv : vs[i]? = some v) (hk : kn v = true) : ls[i]? = some (.val (up b ex v)) := h.2.2 i v hv hk
theorem klL_len (ls : List Value) (n : Nat) : (klL ls n).length = ls.length := by
  cases n with
  | zero => rfl
  | succ k =>
    simp only [klL]
    split <;> simp
theorem klL_get (ls : List Value) (n k : Nat) (v : Value) (h : (klL ls n)[k]? = some v) (hk : kn v = true) : ls[k]? = some v ∧ (k + 1 = n → v.category ≠ 2) := by
  cases n with
  | zero => exact ⟨h, fun h => by omega⟩
  | succ m =>
    simp only [klL] at h
    by_cases hkm : k = m
    · subst hkm
      split at h
      · rename_i e; rw [e] at h; cases h; exact ⟨e, fun _ => by simp [Value.category]⟩
      · rename_i e; rw [e] at h; cases h; exact ⟨e, fun _ => by simp [Value.category]⟩
      · rename_i e; rw [e] at h; cases h; exact ⟨e, fun _ => by simp [Value.category]⟩
      · rename_i e; rw [e] at h; cases h; cases hk
      · by_cases hl : k < ls.length
        · rw [List.getElem?_set_self hl] at h
          cases h
          cases hk
        · rw [List.getElem?_eq_none (by simpa using Nat.le_of_not_lt hl)] at h
          cases h
    · have hne : ¬ k + 1 = m + 1 := by omega
      refine ⟨?_, fun q => absurd q hne⟩
      split at h
      · exact h
      · exact h
      · exact h
      · exact h
      · rw [List.getElem?_set_ne (Ne.symm hkm)] at h
        exact h
/-- behind a store of one slot -/
theorem LV.st1 {b : Nat} {ex : Nat → Nat} {vs vs' : List Value} {ls' : Array Slot} {n : Nat} {v : Value} (h : st1 vs n v = some vs') (hl : lv_has ls' vs.length ((n, up b ex v) :: (lvl b ex vs).filter (fun q => !(q.1 == n) && !(q.1 + 1 == n && q.2.category == 2)))) : LV b ex vs' ls' ∧ vs'.length = vs.length := by
  unfold Jvm.Pilot.CTrajectoryRailsLaw_law_r4940_cb8154.st1 at h
  split at h
  · rename_i hn
    cases h
    have hlen : ((klL vs n).set n v).length = vs.length := by simp [klL_len]
    refine ⟨⟨by rw [hlen]; exact hl.1, hl.2.1, fun i w hi hk => ?_⟩, hlen⟩
    by_cases hin : i = n
    · subst hin
      rw [List.getElem?_set_self (by rw [klL_len]; exact hn)] at hi
      cases hi
      exact hl.2.2 (i, up b ex v) List.mem_cons_self
    · rw [List.getElem?_set_ne (Ne.symm hin)] at hi
      obtain ⟨h1, h2⟩ := klL_get vs n i w hi hk
      refine hl.2.2 (i, up b ex w) (List.mem_cons_of_mem _ (List.mem_filter.mpr ⟨lvl_mem.mpr ⟨w, h1, hk, rfl⟩, ?_⟩))
      simp only [Bool.and_eq_true, Bool.not_eq_true', beq_eq_false_iff_ne, ne_eq, Bool.and_eq_false_iff]
      refine ⟨hin, ?_⟩
      by_cases hz : i + 1 = n
      · exact Or.inr (by rw [up_cat]; exact h2 hz)
      · exact Or.inl hz
  · cases h
theorem LV.st2 {b : Nat} {ex : Nat → Nat} {vs vs' : List Value} {ls' : Array Slot} {n : Nat} {v : Value} (h : st2 vs n v = some vs') (hl : lv_has ls' vs.length ((n, up b ex v) :: (lvl b ex vs).filter (fun q => !(q.1 == n) && (!(q.1 == n + 1) && !(q.1 + 1 == n && q.2.category == 2))))) : LV b ex vs' ls' ∧ vs'.length = vs.length := by
  unfold Jvm.Pilot.CTrajectoryRailsLaw_law_r4940_cb8154.st2 at h
  split at h
  · rename_i hn
    cases h
    have hlen : (((klL vs n).set n v).set (n + 1) .null).length = vs.length := by simp [klL_len]
    refine ⟨⟨by rw [hlen]; exact hl.1, hl.2.1, fun i w hi hk => ?_⟩, hlen⟩
    by_cases hin1 : i = n + 1
    · subst hin1
      rw [List.getElem?_set_self (by simp [klL_len]; exact hn)] at hi
      cases hi
      cases hk
    · rw [List.getElem?_set_ne (Ne.symm hin1)] at hi
      by_cases hin : i = n
      · subst hin
        rw [List.getElem?_set_self (by rw [klL_len]; omega)] at hi
        cases hi
        exact hl.2.2 (i, up b ex v) List.mem_cons_self
      · rw [List.getElem?_set_ne (Ne.symm hin)] at hi
        obtain ⟨h1, h2⟩ := klL_get vs n i w hi hk
        refine hl.2.2 (i, up b ex w) (List.mem_cons_of_mem _ (List.mem_filter.mpr ⟨lvl_mem.mpr ⟨w, h1, hk, rfl⟩, ?_⟩))
        simp only [Bool.and_eq_true, Bool.not_eq_true', beq_eq_false_iff_ne, ne_eq, Bool.and_eq_false_iff]
        refine ⟨hin, hin1, ?_⟩
        by_cases hz : i + 1 = n
        · exact Or.inr (by rw [up_cat]; exact h2 hz)
        · exact Or.inl hz
  · cases h
theorem ldI_spec {vs : List Value} {n : Nat} {x : Int32} (h : ldI vs n = some x) : vs[n]? = some (.int x) := by
  unfold ldI at h
  split at h
  · rename_i e; cases h; exact e
  · cases h
theorem ldJ_spec {vs : List Value} {n : Nat} {x : Int64} (h : ldJ vs n = some x) : vs[n]? = some (.long x) := by
  unfold ldJ at h
  split at h
  · rename_i e; cases h; exact e
  · cases h
theorem ldR_spec {vs : List Value} {n : Nat} {v : Value} (h : ldR vs n = some v) : vs[n]? = some v ∧ isR v = true := by
  unfold ldR at h
  split at h
  · rename_i e; cases h; exact ⟨e, rfl⟩
  · rename_i e; cases h; exact ⟨e, rfl⟩
  · cases h
theorem up_isR {b : Nat} {ex : Nat → Nat} {v : Value} (h : isR v = true) : kn v = true ∧ (up b ex v = .null ∨ ∃ a, up b ex v = .ref a) := by
  cases v with
  | ref a => cases a with
    | zero => exact ⟨rfl, Or.inl rfl⟩
    | succ k => exact ⟨rfl, Or.inr ⟨_, rfl⟩⟩
  | retAddr a => exact ⟨rfl, Or.inr ⟨_, rfl⟩⟩
  | _ => cases h
/-- the entry: the arguments as the locals have them -/
theorem lg_cons (v : Value) (t : List Value) : lg_sl (v :: t) = (if v.category = 2 then [.val v, .second] else [.val v]) ++ lg_sl t := by simp [lg_sl]
theorem lay_len (b : Nat) (ex : Nat → Nat) (as : List Value) : (lg_sl (as.map (up b ex))).length = (lay as).length := by
  induction as with
  | nil => rfl
  | cons v t ih =>
    rw [List.map_cons, lg_cons, List.length_append, ih, up_cat]
    cases v <;> simp [lay, Value.category] <;> omega
theorem lay_mem (b : Nat) (ex : Nat → Nat) (as : List Value) : ∀ (off i : Nat) (v : Value), (lay as)[i]? = some v → kn v = true → (off + i, up b ex v) ∈ lv_args off (as.map (up b ex)) := by
  induction as with
  | nil => intro off i v h; simp [lay] at h
  | cons w t ih =>
    intro off i v h hk
    rw [List.map_cons]
    simp only [lv_args, up_cat]
    by_cases hc : w.category = 2
    · rw [if_pos hc]
      have hl : lay (w :: t) = w :: .null :: lay t := by cases w <;> first | rfl | (simp [Value.category] at hc)
      rw [hl] at h
      match i, h with
      | 0, h => cases h; exact List.mem_cons_self
      | 1, h => cases h; cases hk
      | i + 2, h =>
        refine List.mem_cons_of_mem _ ?_
        have h2 := ih (off + 2) i v h hk
        rw [show off + (i + 2) = off + 2 + i by omega]
        exact h2
    · rw [if_neg hc]
      have hl : lay (w :: t) = w :: lay t := by cases w <;> first | rfl | (exact absurd rfl hc)
      rw [hl] at h
      match i, h with
      | 0, h => cases h; exact List.mem_cons_self
      | i + 1, h =>
        refine List.mem_cons_of_mem _ ?_
        have h2 := ih (off + 1) i v h hk
        rw [show off + (i + 1) = off + 1 + i by omega]
        exact h2
theorem LV.entry (b : Nat) (ex : Nat → Nat) (as : List Value) (k : Nat) (h : (lay as).length ≤ mL k) : LV b ex (en k as) ((lg_sl (as.map (up b ex)) ++ List.replicate (mL k - (lg_sl (as.map (up b ex))).length) Slot.unset).toArray) := by
  have hl := lv_entry (as.map (up b ex)) (n := mL k) (by rw [lay_len]; exact h)
  refine ⟨?_, hl.2.1, fun i v hi hk => ?_⟩
  · rw [hl.1]
    simp only [en, List.length_append, List.length_replicate]
    omega
  · have h2 : (lay as)[i]? = some v := by
      unfold en at hi
      by_cases hlt : i < (lay as).length
      · rw [List.getElem?_append_left hlt] at hi
        exact hi
      · rw [List.getElem?_append_right (by omega)] at hi
        have := List.eq_of_mem_replicate (List.mem_of_getElem? hi)
        rw [this] at hk
        cases hk
    have h3 := lay_mem b ex as 0 i v h2 hk
    rw [Nat.zero_add] at h3
    exact hl.2.2 _ h3
end
section
/-! ===== the tables say what the words say ===== -/
theorem tb_gd {α : Type} {l : List α} {n : Nat} {d : α} (h : l.length ≤ n) : l.getD n d = d := by
  rw [List.getD_eq_getElem?_getD, List.getElem?_eq_none h]
  rfl
theorem tb_all {α : Type} (T : List (List α)) (n : Nat) (hn : T.length = n) (P : Nat → α → Bool) (h : (List.range n).all (fun o => (T.getD o []).all (P o)) = true) {o : Nat} {r : α} (hr : r ∈ T.getD o []) : P o r = true := by
  by_cases ho : o < n
  · have h1 := List.all_eq_true.mp h o (List.mem_range.mpr ho)
    exact List.all_eq_true.mp h1 r hr
  · rw [tb_gd (by omega)] at hr
    cases hr
theorem tb_fd {α β : Type} {l : List α} {p : α → Bool} {f : α → β} {y : β} (h : (l.find? p).map f = some y) : ∃ r ∈ l, p r = true ∧ f r = y := by
  cases hf : l.find? p with
  | none => rw [hf] at h; cases h
  | some r => rw [hf] at h; cases h; exact ⟨r, List.mem_of_find?_eq_some hf, List.find?_some hf, rfl⟩
def mjTT (ci : Nat) : u_T := (mjC.getD ci ("", TX6, 0)).2.1
def mjCN (ci : Nat) : String := (mjC.getD ci ("", TX6, 0)).1
def ckK (o : Nat) (r : Nat × Int32 × Nat) : Bool := decide (mjS[r.2.2]? = some (Cond.constant (oN o) r.1 r.2.1))
def ckJ (o : Nat) (r : Nat × Int64 × Nat) : Bool := decide (mjS[r.2.2]? = some (Cond.constantLong (oN o) r.1 r.2.1))
def ckW (o : Nat) (r : Nat × Nat × Nat × Nat × Nat) : Bool := decide (r.2.1 < 14) && (decide (mjS[r.2.2.1]? = some (Cond.classLink (oN o) r.1 (mjCN r.2.1))) && (decide (mjS[r.2.2.2.1]? = some (Cond.instantiable (mjCN r.2.1) (nF r.2.1))) && decide (mjS[r.2.2.2.2]? = some (Cond.initialized (mjCN r.2.1)))))
def ckF (o : Nat) (r : Nat × Nat × Nat × String × Nat × Nat) : Bool := decide (r.2.1 < 14) && (decide (r.2.2.1 < nF r.2.1) && (decide (mjS[r.2.2.2.2.1]? = some (Cond.fieldLink (oN o) r.1 r.2.2.2.1 (mjTT r.2.1 r.2.2.1).2.1 (mjTT r.2.1 r.2.2.1).2.2.1)) && (if r.2.2.2.2.2 = 9999 then decide (r.2.2.2.1 = (mjTT r.2.1 r.2.2.1).1) else decide (mjS[r.2.2.2.2.2]? = some (Cond.sameField r.2.2.2.1 (mjTT r.2.1 r.2.2.1).1 (mjTT r.2.1 r.2.2.1).2.1 (mjTT r.2.1 r.2.2.1).2.2.1)))))
def nMH (y : MethodName) : Bool := decide (y.cls ≠ "java/lang/invoke/MethodHandle") && decide (y.cls ≠ "java/lang/invoke/VarHandle")
def npO (y : MethodName) (n : Nat) : Bool := decide ((parseMethodDescriptor y.desc).map (fun d => d.parameters.length) = some n)
def ckCs (o : Nat) (r : Nat × Nat × Nat × Nat × Nat) : Bool := decide (mjS[r.2.2.1]? = some (Cond.methodLink (oN o) r.1 (mY r.2.1))) && (decide (mjS[r.2.2.2.1]? = some (Cond.static (mY r.2.1))) && (decide (mjS[r.2.2.2.2]? = some (Cond.initialized (mY r.2.1).cls)) && (nMH (mY r.2.1) && (npO (mY r.2.1) (mP r.2.1) && decide (mHH r.2.1 = [])))))
def ckCp (o : Nat) (r : Nat × Nat × Nat × Nat × Nat × Nat × String) : Bool := (if r.2.2.1 = 0 then decide (mjS[r.2.2.2.1]? = some (Cond.methodLink (oN o) r.1 (mY r.2.1))) else decide (mjS[r.2.2.2.1]? = some (Cond.methodLinkNest (oN o) r.1 (mY r.2.1) r.2.2.2.2.2.2))) && (decide (mjS[r.2.2.2.2.1]? = some (Cond.instanceMethod (mY r.2.1))) && (decide (mjS[r.2.2.2.2.2.1]? = some (Cond.initialized (mY r.2.1).cls)) && (nMH (mY r.2.1) && (npO (mY r.2.1) (mP r.2.1) && (decide (mHH r.2.1 = []) && (decide (mR r.2.1 = none) && decide ((mY r.2.1).name = "<init>")))))))
/-- virtual: plain -/
def ckV0 (o : Nat) (r : Nat × Nat × Nat × Nat × MethodName × String × Nat × Nat × Nat × Nat × Nat × Nat) : Bool := decide (mjS[r.2.2.2.2.2.2.1]? = some (Cond.methodLink (oN o) r.1 (mY r.2.2.1))) && (decide (mjS[r.2.2.2.2.2.2.2.2.1]? = some (Cond.selects (mjCN r.2.1) (mY r.2.2.1) (mY r.2.2.1))) && (decide (mjS[r.2.2.2.2.2.2.2.2.2.1]? = some (Cond.instanceMethod (mY r.2.2.1))) && (decide (mjS[r.2.2.2.2.2.2.2.2.2.2.1]? = some (Cond.initialized (mY r.2.2.1).cls)) && (decide ((mY r.2.2.1).cls = mjCN r.2.1) && (nMH (mY r.2.2.1) && (npO (mY r.2.2.1) (mP r.2.2.1) && (decide (cvn o r.1 = some (mP r.2.2.1)) && decide (r.2.1 < 14))))))))
/-- virtual: inherited or overriding -/
def ckV1 (o : Nat) (r : Nat × Nat × Nat × Nat × MethodName × String × Nat × Nat × Nat × Nat × Nat × Nat) : Bool := decide (mjS[r.2.2.2.2.2.2.1]? = some (Cond.methodLink (oN o) r.1 r.2.2.2.2.1)) && (decide (mjS[r.2.2.2.2.2.2.2.1]? = some (Cond.sameMethod r.2.2.2.2.1.cls r.2.2.2.2.2.1 r.2.2.2.2.1.name r.2.2.2.2.1.desc)) && (decide (mjS[r.2.2.2.2.2.2.2.2.1]? = some (Cond.selects (mjCN r.2.1) r.2.2.2.2.1 (mY r.2.2.1))) && (decide (mjS[r.2.2.2.2.2.2.2.2.2.1]? = some (Cond.instanceMethod (mY r.2.2.1))) && (decide (mjS[r.2.2.2.2.2.2.2.2.2.2.1]? = some (Cond.initialized (mY r.2.2.1).cls)) && ((if r.2.2.2.1 = 1 then decide (mjS[r.2.2.2.2.2.2.2.2.2.2.2]? = some (Cond.declares ⟨r.2.2.2.2.2.1, r.2.2.2.2.1.name, r.2.2.2.2.1.desc⟩)) else decide (mY r.2.2.1 = ⟨r.2.2.2.2.2.1, r.2.2.2.2.1.name, r.2.2.2.2.1.desc⟩)) && (decide (r.2.2.2.2.2.1 ≠ "java/lang/invoke/MethodHandle") && (decide (r.2.2.2.2.2.1 ≠ "java/lang/invoke/VarHandle") && (npO r.2.2.2.2.1 (mP r.2.2.1) && (decide (cvn o r.1 = some (mP r.2.2.1)) && (decide (mHH r.2.2.1 = []) && decide (r.2.1 < 14)))))))))))
def ckV (o : Nat) (r : Nat × Nat × Nat × Nat × MethodName × String × Nat × Nat × Nat × Nat × Nat × Nat) : Bool := if r.2.2.2.1 = 0 then ckV0 o r else ckV1 o r
theorem mjK_ok : (List.range 18).all (fun o => (mjK.getD o []).all (ckK o)) = true := by decide +kernel
theorem mjJ_ok : (List.range 18).all (fun o => (mjJ.getD o []).all (ckJ o)) = true := by decide +kernel
theorem mjW_ok : (List.range 18).all (fun o => (mjW.getD o []).all (ckW o)) = true := by decide +kernel
theorem mjF_ok : (List.range 18).all (fun o => (mjF.getD o []).all (ckF o)) = true := by decide +kernel
theorem mjCs_ok : (List.range 18).all (fun o => (mjCs.getD o []).all (ckCs o)) = true := by decide +kernel
theorem mjCp_ok : (List.range 18).all (fun o => (mjCp.getD o []).all (ckCp o)) = true := by decide +kernel
theorem mjCv_ok : (List.range 18).all (fun o => (mjCv.getD o []).all (ckV o)) = true := by decide +kernel
theorem mjO_ok : (List.range 18).all (fun o => decide (mjO.getD o 9999 = 9999) || mjS.contains (Cond.methodLink (oN o) (mjO.getD o 9999) Lib.objectInit)) = true := by decide +kernel
theorem mjMx_ok : mjMx.all (fun r => decide (mjS[r.2.2]? = some (Cond.methodLink (oN r.1) r.2.1 Lib.Math.max.name))) = true := by decide +kernel
theorem mjS_mx : Cond.static Lib.Math.max.name ∈ mjS ∧ Cond.initialized "java/lang/Math" ∈ mjS ∧ Cond.code Lib.Math.max.name Lib.Math.max.code 2 (some .int) ∈ mjS := by decide +kernel
theorem mjS_oi : Cond.instanceMethod Lib.objectInit ∈ mjS ∧ Cond.code Lib.objectInit ⟨#[0xb1]⟩ 1 none ∈ mjS := by decide +kernel
/-- of every method: its class's name is plain, its code is among the words, at most 22 locals -/
def ckM (r : MethodName × ByteArray × Nat × Option FieldType × Nat × Nat × List (Nat × Nat × Nat × Nat)) : Bool := Jvm.plainName r.1.cls && (decide (r.2.2.1 ≤ 22) && decide (oN r.2.2.2.2.1 = r.1.cls))
theorem mjT_ok : mjT.all ckM = true := by decide +kernel
theorem mjr_ok (j : Nat) : ckM (mjr j) = true := by
  unfold mjr
  by_cases h : j < mjT.length
  · rw [List.getD_eq_getElem?_getD, List.getElem?_eq_getElem h]
    exact List.all_eq_true.mp mjT_ok _ (List.getElem_mem h)
  · rw [tb_gd (by omega)]
    decide +kernel
theorem m_plain (j : Nat) : Jvm.plainName (mY j).cls = true := (Bool.and_eq_true_iff.mp (mjr_ok j)).1
theorem m_max (j : Nat) : mL j ≤ 22 := of_decide_eq_true (Bool.and_eq_true_iff.mp (Bool.and_eq_true_iff.mp (mjr_ok j)).2).1
theorem m_own (j : Nat) : oN (mO j) = (mY j).cls := of_decide_eq_true (Bool.and_eq_true_iff.mp (Bool.and_eq_true_iff.mp (mjr_ok j)).2).2
theorem kI_mem {o k : Nat} {v : Int32} (h : kIl o k = some v) : Cond.constant (oN o) k v ∈ mjS := by
  obtain ⟨r, h1, h2, h3⟩ := tb_fd h
  have h4 := of_decide_eq_true (tb_all mjK 18 rfl ckK mjK_ok h1)
  have h5 : r.1 = k := beq_iff_eq.mp h2
  rw [h5, show r.2.1 = v from h3] at h4
  exact List.mem_of_getElem? h4
theorem kJ_mem {o k : Nat} {v : Int64} (h : kJl o k = some v) : Cond.constantLong (oN o) k v ∈ mjS := by
  obtain ⟨r, h1, h2, h3⟩ := tb_fd h
  have h4 := of_decide_eq_true (tb_all mjJ 18 rfl ckJ mjJ_ok h1)
  have h5 : r.1 = k := beq_iff_eq.mp h2
  rw [h5, show r.2.1 = v from h3] at h4
  exact List.mem_of_getElem? h4
end
section
/-! ===== soundness: instructions that leave the heap alone ===== -/
section SNA
variable {p : Program} {l : Launch} {e : Env} {R : Room} {s : State} {m : MethodId} {args : Array Value} {below : List Frame} {meth : Method} {c : Code} {H : Heap} {locs : List Loc} {cells slots : Nat} {Q : State → Prop}
variable {b : Nat} {ex : Nat → Nat} {j pc ln : Nat} {vs vs' st st' : List Value} {ls : Array Slot}
theorem okL_eq {i : Instr} {ln k : Nat} (h : okL i ln = true) (hi : ilen i = some k) : k = ln := by
  unfold okL at h
  rw [hi] at h
  exact of_decide_eq_true h
theorem lt1 {vs vs' : List Value} {n : Nat} {v : Value} (h : st1 vs n v = some vs') : n < vs.length := by
  unfold st1 at h
  split at h
  · assumption
  · cases h
theorem lt2 {vs vs' : List Value} {n : Nat} {v : Value} (h : st2 vs n v = some vs') : n + 1 < vs.length := by
  unfold st2 at h
  split at h
  · assumption
  · cases h
theorem LV.inc {vs : List Value} {ls ls' : Array Slot} {n : Nat} {x : Int32} {v : Value} (h0 : LV b ex vs ls) (h : vs[n]? = some (.int x)) (hl : lv_has ls' vs.length ((n, up b ex v) :: (lvl b ex vs).filter (fun q => !(q.1 == n) && !(q.1 + 1 == n && q.2.category == 2)))) : LV b ex (vs.set n v) ls' := by
  have hn : n < vs.length := (List.getElem?_eq_some_iff.mp h).1
  refine ⟨by rw [List.length_set]; exact hl.1, hl.2.1, fun i w hi hk => ?_⟩
  by_cases hin : i = n
  · subst hin
    rw [List.getElem?_set_self hn] at hi
    cases hi
    exact hl.2.2 (i, up b ex v) List.mem_cons_self
  · rw [List.getElem?_set_ne (Ne.symm hin)] at hi
    refine hl.2.2 (i, up b ex w) (List.mem_cons_of_mem _ (List.mem_filter.mpr ⟨lvl_mem.mpr ⟨w, hi, hk, rfl⟩, ?_⟩))
    simp only [Bool.and_eq_true, Bool.not_eq_true', beq_eq_false_iff_ne, ne_eq, Bool.and_eq_false_iff]
    refine ⟨hin, ?_⟩
    by_cases hz : i + 1 = n
    · refine Or.inr (fun hc => ?_)
      have h1 := h0.2.1.1 i _ (h0.at hi hk) hc
      rw [hz, h0.at h rfl] at h1
      cases h1
    · exact Or.inl hz
set_option maxHeartbeats 4000000 in
set_option maxRecDepth 100000 in
theorem snA {i : Instr} (hx : p.tables.exec = Jvm.exec) (hb : c.code = mB j) (hown : s.vm.findClass (oN (mO j)) = some m.cls) (hts : ∀ w ∈ mjS, goodWord w = true → w.before args s = true) (hd : decode (mB j) pc = .ok (i, ln)) (hln : okL i ln = true) (hl : LV b ex vs ls) (h : xnA j i vs st = some (vs', st'))
    (kk : ∀ ls' : Array Slot, LV b ex vs' ls' → vs'.length = vs.length → W p l e R s m args below meth c H locs cells slots Q (F0 m (pc + ln) ls' (st'.map (up b ex)))) : W p l e R s m args below meth c H locs cells slots Q (F0 m pc ls (st.map (up b ex))) := by
  cases i
  case iconst n =>
    cases okL_eq hln rfl
    cases h
    exact lv_iconst hx hb hd rfl (kk ls hl rfl)
  case bipush n =>
    cases okL_eq hln rfl
    cases h
    exact lv_bipush hx hb hd rfl (kk ls hl rfl)
  case sipush n =>
    cases okL_eq hln rfl
    cases h
    exact lv_sipush hx hb hd rfl (kk ls hl rfl)
  case lconst n =>
    cases okL_eq hln rfl
    cases h
    exact lv_lconst hx hb hd rfl (kk ls hl rfl)
  case aconst_null =>
    cases okL_eq hln rfl
    cases h
    exact lv_null hx hb hd (kk ls hl rfl)
  case ldc k =>
    cases okL_eq hln rfl
    cases hk : kIl (mO j) k with
    | none => simp only [xnA, hk, Option.map_none] at h; cases h
    | some v =>
      simp only [xnA, hk, Option.map_some] at h
      cases h
      exact lv_ldc hx hb hown (hts _ (kI_mem hk) rfl) hd (kk ls hl rfl)
  case ldc2_w k =>
    cases okL_eq hln rfl
    cases hk : kJl (mO j) k with
    | none => simp only [xnA, hk, Option.map_none] at h; cases h
    | some v =>
      simp only [xnA, hk, Option.map_some] at h
      cases h
      exact lv_ldc2 hx hb hown (hts _ (kJ_mem hk) rfl) hd (kk ls hl rfl)
  case iload_n n =>
    cases okL_eq hln rfl
    cases hk : ldI vs (n : Nat) with
    | none => simp only [xnA, hk, Option.map_none] at h; cases h
    | some v =>
      simp only [xnA, hk, Option.map_some] at h
      cases h
      exact lv_iload_n hx hb hd rfl (hl.at (ldI_spec hk) rfl) (kk ls hl rfl)
  case iload n =>
    cases okL_eq hln rfl
    cases hk : ldI vs n with
    | none => simp only [xnA, hk, Option.map_none] at h; cases h
    | some v =>
      simp only [xnA, hk, Option.map_some] at h
      cases h
      exact lv_iload hx hb hd (hl.at (ldI_spec hk) rfl) (kk ls hl rfl)
  case lload_n n =>
    cases okL_eq hln rfl
    cases hk : ldJ vs (n : Nat) with
    | none => simp only [xnA, hk, Option.map_none] at h; cases h
    | some v =>
      simp only [xnA, hk, Option.map_some] at h
      cases h
      exact lv_lload_n hx hb hd rfl (hl.at (ldJ_spec hk) rfl) (kk ls hl rfl)
  case lload n =>
    cases okL_eq hln rfl
    cases hk : ldJ vs n with
    | none => simp only [xnA, hk, Option.map_none] at h; cases h
    | some v =>
      simp only [xnA, hk, Option.map_some] at h
      cases h
      exact lv_lload hx hb hd (hl.at (ldJ_spec hk) rfl) (kk ls hl rfl)
  case aload_n n =>
    cases okL_eq hln rfl
    cases hk : ldR vs (n : Nat) with
    | none => simp only [xnA, hk, Option.map_none] at h; cases h
    | some v =>
      simp only [xnA, hk, Option.map_some] at h
      cases h
      obtain ⟨h1, h2⟩ := ldR_spec hk
      obtain ⟨h3, h4⟩ := up_isR (b := b) (ex := ex) h2
      have h5 := hl.at h1 h3
      have kk := kk ls hl rfl
      rw [List.map_cons] at kk
      rcases h4 with h4 | ⟨a, h4⟩
      · rw [h4] at h5 kk
        exact lv_aload_nN hx hb hd rfl h5 kk
      · rw [h4] at h5 kk
        exact lv_aload_n hx hb hd rfl h5 kk
  case aload n =>
    cases okL_eq hln rfl
    cases hk : ldR vs n with
    | none => simp only [xnA, hk, Option.map_none] at h; cases h
    | some v =>
      simp only [xnA, hk, Option.map_some] at h
      cases h
      obtain ⟨h1, h2⟩ := ldR_spec hk
      obtain ⟨h3, h4⟩ := up_isR (b := b) (ex := ex) h2
      have h5 := hl.at h1 h3
      have kk := kk ls hl rfl
      rw [List.map_cons] at kk
      rcases h4 with h4 | ⟨a, h4⟩
      · rw [h4] at h5 kk
        exact lv_aloadN hx hb hd h5 kk
      · rw [h4] at h5 kk
        exact lv_aload hx hb hd h5 kk
  case istore_n n =>
    cases okL_eq hln rfl
    simp only [xnA] at h
    split at h
    · rename_i x t
      cases hk : st1 vs (n : Nat) (.int x) with
      | none => rw [hk] at h; cases h
      | some v =>
        rw [hk] at h
        cases h
        exact lv_istore_n hx hb hd rfl hl.has (lt1 hk) rfl (fun ls9 h9 => by obtain ⟨q1, q2⟩ := LV.st1 (b := b) (ex := ex) hk h9; exact kk ls9 q1 q2)
    · cases h
  case istore n =>
    cases okL_eq hln rfl
    simp only [xnA] at h
    split at h
    · rename_i x t
      cases hk : st1 vs n (.int x) with
      | none => rw [hk] at h; cases h
      | some v =>
        rw [hk] at h
        cases h
        exact lv_istore hx hb hd hl.has (lt1 hk) rfl (fun ls9 h9 => by obtain ⟨q1, q2⟩ := LV.st1 (b := b) (ex := ex) hk h9; exact kk ls9 q1 q2)
    · cases h
  case lstore_n n =>
    cases okL_eq hln rfl
    simp only [xnA] at h
    split at h
    · rename_i x t
      cases hk : st2 vs (n : Nat) (.long x) with
      | none => rw [hk] at h; cases h
      | some v =>
        rw [hk] at h
        cases h
        exact lv_lstore_n hx hb hd rfl hl.has (lt2 hk) rfl (fun ls9 h9 => by obtain ⟨q1, q2⟩ := LV.st2 (b := b) (ex := ex) hk h9; exact kk ls9 q1 q2)
    · cases h
  case lstore n =>
    cases okL_eq hln rfl
    simp only [xnA] at h
    split at h
    · rename_i x t
      cases hk : st2 vs n (.long x) with
      | none => rw [hk] at h; cases h
      | some v =>
        rw [hk] at h
        cases h
        exact lv_lstore hx hb hd hl.has (lt2 hk) rfl (fun ls9 h9 => by obtain ⟨q1, q2⟩ := LV.st2 (b := b) (ex := ex) hk h9; exact kk ls9 q1 q2)
    · cases h
  case astore_n n =>
    cases okL_eq hln rfl
    simp only [xnA] at h
    split at h
    · rename_i x t
      split at h
      · rename_i hr
        cases hk : st1 vs (n : Nat) x with
        | none => rw [hk] at h; cases h
        | some v =>
          rw [hk] at h
          cases h
          obtain ⟨h3, h4⟩ := up_isR (b := b) (ex := ex) hr
          rw [List.map_cons]
          rcases h4 with h4 | ⟨a, h4⟩
          · rw [h4]
            exact lv_astore_nN hx hb hd rfl hl.has (lt1 hk) rfl (fun ls9 h9 => by obtain ⟨q1, q2⟩ := LV.st1 (b := b) (ex := ex) hk (by rw [h4]; exact h9); exact kk ls9 q1 q2)
          · rw [h4]
            exact lv_astore_n hx hb hd rfl hl.has (lt1 hk) rfl (fun ls9 h9 => by obtain ⟨q1, q2⟩ := LV.st1 (b := b) (ex := ex) hk (by rw [h4]; exact h9); exact kk ls9 q1 q2)
      · cases h
    · cases h
  case astore n =>
    cases okL_eq hln rfl
    simp only [xnA] at h
    split at h
    · rename_i x t
      split at h
      · rename_i hr
        cases hk : st1 vs n x with
        | none => rw [hk] at h; cases h
        | some v =>
          rw [hk] at h
          cases h
          obtain ⟨h3, h4⟩ := up_isR (b := b) (ex := ex) hr
          rw [List.map_cons]
          rcases h4 with h4 | ⟨a, h4⟩
          · rw [h4]
            exact lv_astoreN hx hb hd hl.has (lt1 hk) rfl (fun ls9 h9 => by obtain ⟨q1, q2⟩ := LV.st1 (b := b) (ex := ex) hk (by rw [h4]; exact h9); exact kk ls9 q1 q2)
          · rw [h4]
            exact lv_astore hx hb hd hl.has (lt1 hk) rfl (fun ls9 h9 => by obtain ⟨q1, q2⟩ := LV.st1 (b := b) (ex := ex) hk (by rw [h4]; exact h9); exact kk ls9 q1 q2)
      · cases h
    · cases h
  case iinc n k =>
    cases okL_eq hln rfl
    cases hk : ldI vs n with
    | none => simp only [xnA, hk, Option.map_none] at h; cases h
    | some x =>
      simp only [xnA, hk, Option.map_some] at h
      cases h
      have h1 := ldI_spec hk
      have h2 : (n, Value.int x) ∈ lvl b ex vs := lvl_mem.mpr ⟨.int x, h1, rfl, rfl⟩
      obtain ⟨q, hq⟩ := List.getElem?_of_mem h2
      have hn : n < vs.length := (List.getElem?_eq_some_iff.mp h1).1
      exact lv_iinc hx hb hd hl.has hq rfl hn rfl (fun ls9 h9 => kk ls9 (LV.inc hl h1 h9) (by simp))
  case dup =>
    cases okL_eq hln rfl
    simp only [xnA] at h
    split at h
    · rename_i v t
      split at h
      · rename_i hc
        cases h
        exact lv_dup hx hb hd ((up_cat b ex v).trans hc) (kk ls hl rfl)
      · cases h
    · cases h
  case dup2 =>
    cases okL_eq hln rfl
    simp only [xnA] at h
    split at h
    · rename_i v w t
      split at h
      · rename_i hc
        cases h
        exact lv_dup2_11 hx hb hd ((up_cat b ex v).trans hc.1) ((up_cat b ex w).trans hc.2) (kk ls hl rfl)
      · cases h
    · cases h
  case iadd =>
    cases okL_eq hln rfl
    simp only [xnA] at h
    split at h
    · rename_i y x t
      cases h
      exact lv_iadd hx hb hd (kk ls hl rfl)
    · cases h
  case isub =>
    cases okL_eq hln rfl
    simp only [xnA] at h
    split at h
    · rename_i y x t
      cases h
      exact lv_isub hx hb hd (kk ls hl rfl)
    · cases h
  case imul =>
    cases okL_eq hln rfl
    simp only [xnA] at h
    split at h
    · rename_i y x t
      cases h
      exact lv_imul hx hb hd (kk ls hl rfl)
    · cases h
  case iand =>
    cases okL_eq hln rfl
    simp only [xnA] at h
    split at h
    · rename_i y x t
      cases h
      exact lv_iand hx hb hd (kk ls hl rfl)
    · cases h
  case ior =>
    cases okL_eq hln rfl
    simp only [xnA] at h
    split at h
    · rename_i y x t
      cases h
      exact lv_ior hx hb hd (kk ls hl rfl)
    · cases h
  case ixor =>
    cases okL_eq hln rfl
    simp only [xnA] at h
    split at h
    · rename_i y x t
      cases h
      exact lv_ixor hx hb hd (kk ls hl rfl)
    · cases h
  case ishl =>
    cases okL_eq hln rfl
    simp only [xnA] at h
    split at h
    · rename_i y x t
      cases h
      exact lv_ishl hx hb hd (kk ls hl rfl)
    · cases h
  case ishr =>
    cases okL_eq hln rfl
    simp only [xnA] at h
    split at h
    · rename_i y x t
      cases h
      exact lv_ishr hx hb hd (kk ls hl rfl)
    · cases h
  case ladd =>
    cases okL_eq hln rfl
    simp only [xnA] at h
    split at h
    · rename_i y x t
      cases h
      exact lv_ladd hx hb hd (kk ls hl rfl)
    · cases h
  case lsub =>
    cases okL_eq hln rfl
    simp only [xnA] at h
    split at h
    · rename_i y x t
      cases h
      exact lv_lsub hx hb hd (kk ls hl rfl)
    · cases h
  case lmul =>
    cases okL_eq hln rfl
    simp only [xnA] at h
    split at h
    · rename_i y x t
      cases h
      exact lv_lmul hx hb hd (kk ls hl rfl)
    · cases h
  case land =>
    cases okL_eq hln rfl
    simp only [xnA] at h
    split at h
    · rename_i y x t
      cases h
      exact lv_land hx hb hd (kk ls hl rfl)
    · cases h
  case lor =>
    cases okL_eq hln rfl
    simp only [xnA] at h
    split at h
    · rename_i y x t
      cases h
      exact lv_lor hx hb hd (kk ls hl rfl)
    · cases h
  case lxor =>
    cases okL_eq hln rfl
    simp only [xnA] at h
    split at h
    · rename_i y x t
      cases h
      exact lv_lxor hx hb hd (kk ls hl rfl)
    · cases h
  case idiv =>
    cases okL_eq hln rfl
    simp only [xnA] at h
    split at h
    · rename_i y x t
      split at h
      · cases h
      · rename_i hy
        cases h
        exact lv_idiv hx hb hd hy (kk ls hl rfl)
    · cases h
  case irem =>
    cases okL_eq hln rfl
    simp only [xnA] at h
    split at h
    · rename_i y x t
      split at h
      · cases h
      · rename_i hy
        cases h
        exact lv_irem hx hb hd hy (kk ls hl rfl)
    · cases h
  case ineg =>
    cases okL_eq hln rfl
    simp only [xnA] at h
    split at h
    · rename_i x t
      cases h
      exact lv_ineg hx hb hd (kk ls hl rfl)
    · cases h
  case lneg =>
    cases okL_eq hln rfl
    simp only [xnA] at h
    split at h
    · rename_i x t
      cases h
      exact lv_lneg hx hb hd (kk ls hl rfl)
    · cases h
  case lshl =>
    cases okL_eq hln rfl
    simp only [xnA] at h
    split at h
    · rename_i y x t
      cases h
      exact lv_lshl hx hb hd rfl (kk ls hl rfl)
    · cases h
  case lshr =>
    cases okL_eq hln rfl
    simp only [xnA] at h
    split at h
    · rename_i y x t
      cases h
      exact lv_lshr hx hb hd rfl (kk ls hl rfl)
    · cases h
  case lushr =>
    cases okL_eq hln rfl
    simp only [xnA] at h
    split at h
    · rename_i y x t
      cases h
      exact lv_lushr hx hb hd rfl (kk ls hl rfl)
    · cases h
  case i2l =>
    cases okL_eq hln rfl
    simp only [xnA] at h
    split at h
    · rename_i x t
      cases h
      exact lv_i2l hx hb hd rfl (kk ls hl rfl)
    · cases h
  case l2i =>
    cases okL_eq hln rfl
    simp only [xnA] at h
    split at h
    · rename_i x t
      cases h
      exact lv_l2i hx hb hd rfl (kk ls hl rfl)
    · cases h
  case i2b =>
    cases okL_eq hln rfl
    simp only [xnA] at h
    split at h
    · rename_i x t
      cases h
      exact lv_i2b hx hb hd rfl (kk ls hl rfl)
    · cases h
  case lcmp =>
    cases okL_eq hln rfl
    simp only [xnA] at h
    split at h
    · rename_i y x t
      cases h
      exact W.lcmp hx hb hd (kk ls hl rfl)
    · cases h
  all_goals exact (nomatch (show (none : Option (List Value × List Value)) = some _ from h))
theorem tg_spec {pc t : Nat} {off : Int} (h : tg pc off = some t) : (pc : Int) + off = (t : Int) := by
  unfold tg at h
  split at h
  · rename_i e; cases h; exact e
  · cases h
set_option maxHeartbeats 4000000 in
set_option maxRecDepth 100000 in
theorem snB {i : Instr} {tgt : Nat} (hx : p.tables.exec = Jvm.exec) (hb : c.code = mB j) (hd : decode (mB j) pc = .ok (i, ln)) (hln : okL i ln = true) (h : xnB pc i st = some (tgt, st'))
    (kk : W p l e R s m args below meth c H locs cells slots Q (F0 m tgt ls (st'.map (up b ex)))) : W p l e R s m args below meth c H locs cells slots Q (F0 m pc ls (st.map (up b ex))) := by
  cases i
  case goto off =>
    cases okL_eq hln rfl
    cases hk : tg pc off with
    | none => simp only [xnB, hk, Option.map_none] at h; cases h
    | some t =>
      simp only [xnB, hk, Option.map_some] at h
      cases h
      exact lv_goto hx hb hd (tg_spec hk) kk
  case ifCond k off =>
    cases okL_eq hln rfl
    simp only [xnB] at h
    split at h
    · rename_i x t
      cases k
      · cases ht : tg pc off with
        | none => rw [ht] at h; cases h
        | some t9 =>
          rw [ht, Option.map_some] at h
          refine lv_if_eq hx hb hd (tg_spec ht) (fun hc => ?_) (fun hc => ?_)
          · rw [if_pos (show cnd .eq x 0 = true from decide_eq_true hc)] at h
            cases h
            exact kk
          · rw [if_neg (show ¬ cnd .eq x 0 = true from fun q => hc (of_decide_eq_true q))] at h
            cases h
            exact kk
      · cases ht : tg pc off with
        | none => rw [ht] at h; cases h
        | some t9 =>
          rw [ht, Option.map_some] at h
          refine lv_if_ne hx hb hd (tg_spec ht) (fun hc => ?_) (fun hc => ?_)
          · rw [if_pos (show cnd .ne x 0 = true from decide_eq_true hc)] at h
            cases h
            exact kk
          · rw [if_neg (show ¬ cnd .ne x 0 = true from fun q => (of_decide_eq_true q) hc)] at h
            cases h
            exact kk
      · cases ht : tg pc off with
        | none => rw [ht] at h; cases h
        | some t9 =>
          rw [ht, Option.map_some] at h
          refine lv_if_lt hx hb hd (tg_spec ht) (fun hc => ?_) (fun hc => ?_)
          · rw [if_pos (show cnd .lt x 0 = true from decide_eq_true hc)] at h
            cases h
            exact kk
          · rw [if_neg (show ¬ cnd .lt x 0 = true from fun q => hc (of_decide_eq_true q))] at h
            cases h
            exact kk
      · cases ht : tg pc off with
        | none => rw [ht] at h; cases h
        | some t9 =>
          rw [ht, Option.map_some] at h
          refine lv_if_ge hx hb hd (tg_spec ht) (fun hc => ?_) (fun hc => ?_)
          · rw [if_pos (show cnd .ge x 0 = true from decide_eq_true hc)] at h
            cases h
            exact kk
          · rw [if_neg (show ¬ cnd .ge x 0 = true from fun q => hc (of_decide_eq_true q))] at h
            cases h
            exact kk
      · cases ht : tg pc off with
        | none => rw [ht] at h; cases h
        | some t9 =>
          rw [ht, Option.map_some] at h
          refine lv_if_gt hx hb hd (tg_spec ht) (fun hc => ?_) (fun hc => ?_)
          · rw [if_pos (show cnd .gt x 0 = true from decide_eq_true hc)] at h
            cases h
            exact kk
          · rw [if_neg (show ¬ cnd .gt x 0 = true from fun q => hc (of_decide_eq_true q))] at h
            cases h
            exact kk
      · cases ht : tg pc off with
        | none => rw [ht] at h; cases h
        | some t9 =>
          rw [ht, Option.map_some] at h
          refine lv_if_le hx hb hd (tg_spec ht) (fun hc => ?_) (fun hc => ?_)
          · rw [if_pos (show cnd .le x 0 = true from decide_eq_true hc)] at h
            cases h
            exact kk
          · rw [if_neg (show ¬ cnd .le x 0 = true from fun q => hc (of_decide_eq_true q))] at h
            cases h
            exact kk
    · cases h
  case if_icmp k off =>
    cases okL_eq hln rfl
    simp only [xnB] at h
    split at h
    · rename_i y x t
      cases k
      · cases ht : tg pc off with
        | none => rw [ht] at h; cases h
        | some t9 =>
          rw [ht, Option.map_some] at h
          refine lv_icmp_eq hx hb hd (tg_spec ht) (fun hc => ?_) (fun hc => ?_)
          · rw [if_pos (show cnd .eq x y = true from decide_eq_true hc)] at h
            cases h
            exact kk
          · rw [if_neg (show ¬ cnd .eq x y = true from fun q => hc (of_decide_eq_true q))] at h
            cases h
            exact kk
      · cases ht : tg pc off with
        | none => rw [ht] at h; cases h
        | some t9 =>
          rw [ht, Option.map_some] at h
          refine lv_icmp_ne hx hb hd (tg_spec ht) (fun hc => ?_) (fun hc => ?_)
          · rw [if_pos (show cnd .ne x y = true from decide_eq_true hc)] at h
            cases h
            exact kk
          · rw [if_neg (show ¬ cnd .ne x y = true from fun q => (of_decide_eq_true q) hc)] at h
            cases h
            exact kk
      · cases ht : tg pc off with
        | none => rw [ht] at h; cases h
        | some t9 =>
          rw [ht, Option.map_some] at h
          refine lv_icmp_lt hx hb hd (tg_spec ht) (fun hc => ?_) (fun hc => ?_)
          · rw [if_pos (show cnd .lt x y = true from decide_eq_true hc)] at h
            cases h
            exact kk
          · rw [if_neg (show ¬ cnd .lt x y = true from fun q => hc (of_decide_eq_true q))] at h
            cases h
            exact kk
      · cases ht : tg pc off with
        | none => rw [ht] at h; cases h
        | some t9 =>
          rw [ht, Option.map_some] at h
          refine lv_icmp_ge hx hb hd (tg_spec ht) (fun hc => ?_) (fun hc => ?_)
          · rw [if_pos (show cnd .ge x y = true from decide_eq_true hc)] at h
            cases h
            exact kk
          · rw [if_neg (show ¬ cnd .ge x y = true from fun q => hc (of_decide_eq_true q))] at h
            cases h
            exact kk
      · cases ht : tg pc off with
        | none => rw [ht] at h; cases h
        | some t9 =>
          rw [ht, Option.map_some] at h
          refine lv_icmp_gt hx hb hd (tg_spec ht) (fun hc => ?_) (fun hc => ?_)
          · rw [if_pos (show cnd .gt x y = true from decide_eq_true hc)] at h
            cases h
            exact kk
          · rw [if_neg (show ¬ cnd .gt x y = true from fun q => hc (of_decide_eq_true q))] at h
            cases h
            exact kk
      · cases ht : tg pc off with
        | none => rw [ht] at h; cases h
        | some t9 =>
          rw [ht, Option.map_some] at h
          refine lv_icmp_le hx hb hd (tg_spec ht) (fun hc => ?_) (fun hc => ?_)
          · rw [if_pos (show cnd .le x y = true from decide_eq_true hc)] at h
            cases h
            exact kk
          · rw [if_neg (show ¬ cnd .le x y = true from fun q => hc (of_decide_eq_true q))] at h
            cases h
            exact kk
    · cases h
  case ifnull off =>
    cases okL_eq hln rfl
    simp only [xnB] at h
    split at h
    · rename_i a t
      cases a with
      | zero =>
        rw [if_pos rfl] at h
        cases ht : tg pc off with
        | none => rw [ht] at h; cases h
        | some t9 => rw [ht] at h; cases h; exact lv_ifnullN hx hb hd (tg_spec ht) kk
      | succ a =>
        rw [if_neg (Nat.succ_ne_zero a)] at h
        cases h
        exact lv_ifnull (x := b + (a + 1)) hx hb hd kk
    · cases h
  case ifnonnull off =>
    cases okL_eq hln rfl
    simp only [xnB] at h
    split at h
    · rename_i a t
      cases a with
      | zero =>
        rw [if_pos rfl] at h
        cases h
        exact lv_ifnonnullN hx hb hd kk
      | succ a =>
        rw [if_neg (Nat.succ_ne_zero a)] at h
        cases ht : tg pc off with
        | none => rw [ht] at h; cases h
        | some t9 => rw [ht] at h; cases h; exact lv_ifnonnull (x := b + (a + 1)) hx hb hd (tg_spec ht) kk
    · cases h
  case tableswitch dflt lo hi offs =>
    simp only [xnB] at h
    split at h
    · rename_i x t
      split at h
      · rename_i hc
        cases ht : tg pc dflt with
        | none => rw [ht] at h; cases h
        | some t9 => rw [ht] at h; cases h; exact lv_tableOut hx hb hd hc (tg_spec ht) kk
      · rename_i hc
        split at h
        · rename_i off ho
          cases ht : tg pc off with
          | none => rw [ht] at h; cases h
          | some t9 => rw [ht] at h; cases h; exact lv_tableIn hx hb hd (fun q => hc (Or.inl q)) (fun q => hc (Or.inr q)) ho (tg_spec ht) kk
        · cases h
    · cases h
  case lookupswitch dflt ps =>
    simp only [xnB] at h
    split at h
    · rename_i x t
      split at h
      · rename_i hc
        cases ht : tg pc (Op.lookupswitch.offset ps.toList dflt x.toInt) with
        | none => rw [ht] at h; cases h
        | some t9 => rw [ht] at h; cases h; exact lv_lookup hx hb hd hc rfl (tg_spec ht) kk
      · cases h
    · cases h
  all_goals exact (nomatch (show (none : Option (Nat × List Value)) = some _ from h))
end SNA
end
section
/-! ===== the heap of the mini machine, as the JVM's heap holds it ===== -/
def Ab (b : Nat) : Nat → Prop := fun q => b < q
def ceE (b : Nat) (ex : Nat → Nat) (cA : FieldType → ClassId) (M : MH) (a : Nat) : va_E := match M.1 a with
  | .inl ci => .inr (ci, (List.range (nF ci)).map fun k => up b ex (fv M ci a k))
  | .inr (ty, n) => .inl (cA ty, n, match ty with
    | .long => .inr (.inl (M.2.2.1 a))
    | _ => .inl (M.2.1 a))
def wsO (b : Nat) (ex : Nat → Nat) (cA : FieldType → ClassId) (M : MH) : va_W := (List.range M.2.2.2.2.1).map fun i => (b + (i + 1), ceE b ex cA M (i + 1))
def tyL (cA : FieldType → ClassId) : List (ClassId × FieldType) := [(cA .int, .int), (cA .long, .long), (cA .byte, .byte), (cA .boolean, .boolean)]
def Inv (M : MH) : Prop := (∀ a, (a = 0 ∨ M.2.2.2.2.1 < a) → M.1 a = .inl 99) ∧ ∀ a ty n, M.1 a = .inr (ty, n) → ty = .int ∨ ty = .long ∨ ty = .byte ∨ ty = .boolean
theorem Inv.in {M : MH} (h : Inv M) {a : Nat} (ha : M.1 a ≠ .inl 99) : a ≠ 0 ∧ a ≤ M.2.2.2.2.1 := by
  refine ⟨fun q => ha (h.1 a (Or.inl q)), ?_⟩
  rcases Nat.lt_or_ge M.2.2.2.2.1 a with q | q
  · exact absurd (h.1 a (Or.inr q)) ha
  · exact q
section HP
variable {b : Nat} {ex : Nat → Nat} {cA : FieldType → ClassId} {M M' : MH}
theorem wsO_len : (wsO b ex cA M).length = M.2.2.2.2.1 := by simp [wsO]
theorem wsO_get {i : Nat} (h : i < M.2.2.2.2.1) : (wsO b ex cA M)[i]? = some (b + (i + 1), ceE b ex cA M (i + 1)) := by
  simp [wsO, h]
theorem wsO_at {a : Nat} (h0 : a ≠ 0) (h : a ≤ M.2.2.2.2.1) : (wsO b ex cA M)[a - 1]? = some (b + a, ceE b ex cA M a) := by
  have := wsO_get (b := b) (ex := ex) (cA := cA) (M := M) (i := a - 1) (by omega)
  rw [show a - 1 + 1 = a by omega] at this
  exact this
theorem wsO_D : va_D (Ab b) (wsO b ex cA M) := by
  have key : ∀ (k : Nat) (q : Nat × va_E), (wsO b ex cA M)[k]? = some q → q.1 = b + (k + 1) := by
    intro k q h
    have hk : k < M.2.2.2.2.1 := by
      have := (List.getElem?_eq_some_iff.mp h).1
      rw [wsO_len] at this
      exact this
    rw [wsO_get hk] at h
    cases h
    rfl
  refine ⟨fun i j x y hi hj hxy => ?_, fun k q hk => ?_⟩
  · have h1 := key i x hi
    have h2 := key j y hj
    omega
  · have h1 := key k q hk
    show b < q.1
    omega
theorem wsO_set {a : Nat} (h0 : a ≠ 0) (hz : M'.2.2.2.2.1 = M.2.2.2.2.1) (h : ∀ x, x ≠ a → ceE b ex cA M' x = ceE b ex cA M x) : wsO b ex cA M' = (wsO b ex cA M).set (a - 1) (b + a, ceE b ex cA M' a) := by
  apply List.ext_getElem?
  intro k
  by_cases hk : k < M.2.2.2.2.1
  · rw [wsO_get (by rw [hz]; exact hk)]
    by_cases hka : k = a - 1
    · subst hka
      rw [List.getElem?_set_self (by rw [wsO_len]; exact hk)]
      rw [show a - 1 + 1 = a by omega]
    · rw [List.getElem?_set_ne (Ne.symm hka), wsO_get hk, h (k + 1) (by omega)]
  · rw [List.getElem?_eq_none (by rw [wsO_len, hz]; omega), List.getElem?_eq_none (by rw [List.length_set, wsO_len]; omega)]
theorem wsO_push (hz : M'.2.2.2.2.1 = M.2.2.2.2.1 + 1) (h : ∀ x, x ≤ M.2.2.2.2.1 → ceE b ex cA M' x = ceE b ex cA M x) : wsO b ex cA M' = wsO b ex cA M ++ [(b + (M.2.2.2.2.1 + 1), ceE b ex cA M' (M.2.2.2.2.1 + 1))] := by
  unfold wsO
  rw [hz, List.range_succ, List.map_append]
  congr 1
  apply List.map_congr_left
  intro i hi
  rw [List.mem_range] at hi
  rw [h (i + 1) (by omega)]
theorem fv_congr {ci a k : Nat} (h1 : M'.2.1 a = M.2.1 a) (h2 : M'.2.2.1 a = M.2.2.1 a) (h3 : M'.2.2.2.1 a = M.2.2.2.1 a) : fv M' ci a k = fv M ci a k := by
  unfold fv
  rw [h1, h2, h3]
theorem ceE_congr {a : Nat} (h0 : M'.1 a = M.1 a) (h1 : M'.2.1 a = M.2.1 a) (h2 : M'.2.2.1 a = M.2.2.1 a) (h3 : M'.2.2.2.1 a = M.2.2.2.1 a) : ceE b ex cA M' a = ceE b ex cA M a := by
  unfold ceE
  rw [h0]
  split
  · simp only [fv_congr h1 h2 h3]
  · rw [h1, h2]
theorem ceE_o {a ci : Nat} (h : M.1 a = .inl ci) : ceE b ex cA M a = .inr (ci, (List.range (nF ci)).map fun k => up b ex (fv M ci a k)) := by
  unfold ceE
  rw [h]
theorem ceE_i {a n : Nat} {ty : FieldType} (h : M.1 a = .inr (ty, n)) (hy : ty ≠ .long) : ceE b ex cA M a = .inl (cA ty, n, .inl (M.2.1 a)) := by
  unfold ceE
  rw [h]
  cases ty <;> first | rfl | exact absurd rfl hy
theorem ceE_l {a n : Nat} (h : M.1 a = .inr (.long, n)) : ceE b ex cA M a = .inl (cA .long, n, .inr (.inl (M.2.2.1 a))) := by
  unfold ceE
  rw [h]
theorem u1_s {α : Type} (f : Nat → α) (a : Nat) (v : α) : u1 f a v a = v := by simp [u1]
theorem u1_n {α : Type} (f : Nat → α) {a x : Nat} (v : α) (h : x ≠ a) : u1 f a v x = f x := by simp [u1, h]
theorem u2_s {α : Type} (f : Nat → Nat → α) (a k : Nat) (v : α) : u2 f a k v a = u1 (f a) k v := by simp [u2, u1_s]
theorem u2_n {α : Type} (f : Nat → Nat → α) {a x : Nat} (k : Nat) (v : α) (h : x ≠ a) : u2 f a k v x = f x := by simp [u2, u1_n _ _ h]
end HP
/-- what the tables say of the classes -/
theorem mjL_ok : (List.range 14).all (fun ci => (u_ws (mjCN ci) (mjTT ci) (nF ci)).all (fun w => goodWord w && decide (w ∈ mjS))) = true := by decide +kernel
theorem mjN_ok : (List.range 14).all (fun ci => (List.range (nF ci)).all (fun x => (List.range (nF ci)).all (fun y => x == y || decide ((mjTT ci x).2.1 ≠ (mjTT ci y).2.1)))) = true := by decide +kernel
theorem mjY_ok : (List.range 14).all (fun ci => (List.range (nF ci)).all (fun k => decide (parseFieldDescriptor (mjTT ci k).2.2.1 = some (tyT ci k)))) = true := by decide +kernel
theorem mjZ_ok : (List.range 15).all (fun ci => decide ((mjC.getD ci ("", TX6, 0)).2.2 = nF ci)) = true := by decide +kernel
theorem mjC_at {ci : Nat} (h : ci < 15) : mjC[ci]? = some (mjCN ci, mjTT ci, nF ci) := by
  have h1 := of_decide_eq_true (List.all_eq_true.mp mjZ_ok ci (List.mem_range.mpr h))
  have h2 : mjC[ci]? = some (mjC.getD ci ("", TX6, 0)) := by
    have hl : ci < mjC.length := h
    rw [List.getD_eq_getElem?_getD, List.getElem?_eq_getElem hl]
    rfl
  rw [h2, ← h1]
  rfl
theorem mjL_at {ci : Nat} (h : ci < 14) : ∀ w ∈ u_ws (mjCN ci) (mjTT ci) (nF ci), w ∈ mjS.filter goodWord := by
  intro w hw
  have h1 := List.all_eq_true.mp (List.all_eq_true.mp mjL_ok ci (List.mem_range.mpr h)) w hw
  rw [Bool.and_eq_true] at h1
  exact List.mem_filter.mpr ⟨of_decide_eq_true h1.2, h1.1⟩
theorem mjN_at {ci : Nat} (h : ci < 14) : ∀ x, x < nF ci → ∀ y, y < nF ci → x ≠ y → (mjTT ci x).2.1 ≠ (mjTT ci y).2.1 := by
  intro x hx y hy hxy
  have h1 := List.all_eq_true.mp (List.all_eq_true.mp (List.all_eq_true.mp mjN_ok ci (List.mem_range.mpr h)) x (List.mem_range.mpr hx)) y (List.mem_range.mpr hy)
  rw [Bool.or_eq_true] at h1
  rcases h1 with h1 | h1
  · exact absurd (beq_iff_eq.mp h1) hxy
  · exact of_decide_eq_true h1
theorem mjY_at {ci : Nat} (h : ci < 14) : ∀ k, k < nF ci → parseFieldDescriptor (mjTT ci k).2.2.1 = some (tyT ci k) := fun k hk =>
  of_decide_eq_true (List.all_eq_true.mp (List.all_eq_true.mp mjY_ok ci (List.mem_range.mpr h)) k (List.mem_range.mpr hk))
/-- a field's link, by its row -/
theorem fl_at {o idx ci k : Nat} (h : fl o idx ci = some k) : ci < 14 ∧ k < nF ci ∧ ∃ ref : String, Cond.fieldLink (oN o) idx ref (mjTT ci k).2.1 (mjTT ci k).2.2.1 ∈ mjS ∧ (ref = (mjTT ci k).1 ∨ Cond.sameField ref (mjTT ci k).1 (mjTT ci k).2.1 (mjTT ci k).2.2.1 ∈ mjS) := by
  obtain ⟨r, h1, h2, h3⟩ := tb_fd h
  have h4 := tb_all mjF 18 rfl ckF mjF_ok h1
  rw [Bool.and_eq_true] at h2
  have e1 : r.1 = idx := beq_iff_eq.mp h2.1
  have e2 : r.2.1 = ci := beq_iff_eq.mp h2.2
  have e3 : r.2.2.1 = k := h3
  unfold ckF at h4
  rw [Bool.and_eq_true, Bool.and_eq_true, Bool.and_eq_true, e1, e2, e3] at h4
  obtain ⟨c1, c2, c3, c4⟩ := h4
  refine ⟨of_decide_eq_true c1, of_decide_eq_true c2, r.2.2.2.1, List.mem_of_getElem? (of_decide_eq_true c3), ?_⟩
  split at c4
  · exact Or.inl (of_decide_eq_true c4)
  · exact Or.inr (List.mem_of_getElem? (of_decide_eq_true c4))
theorem fl_99 (o idx : Nat) : fl o idx 99 = none := by
  cases h : fl o idx 99 with
  | none => rfl
  | some k => exact absurd (fl_at h).1 (by decide)
theorem nw_at {o idx ci : Nat} (h : nwl o idx = some ci) : ci < 14 ∧ Cond.classLink (oN o) idx (mjCN ci) ∈ mjS ∧ Cond.instantiable (mjCN ci) (nF ci) ∈ mjS ∧ Cond.initialized (mjCN ci) ∈ mjS := by
  obtain ⟨r, h1, h2, h3⟩ := tb_fd h
  have h4 := tb_all mjW 18 rfl ckW mjW_ok h1
  have e1 : r.1 = idx := beq_iff_eq.mp h2
  have e3 : r.2.1 = ci := h3
  unfold ckW at h4
  rw [Bool.and_eq_true, Bool.and_eq_true, Bool.and_eq_true, e1, e3] at h4
  obtain ⟨c1, c2, c3, c4⟩ := h4
  exact ⟨of_decide_eq_true c1, List.mem_of_getElem? (of_decide_eq_true c2), List.mem_of_getElem? (of_decide_eq_true c3), List.mem_of_getElem? (of_decide_eq_true c4)⟩
end
section
/-! ===== what stays: statics, the text, the script, links within a nest ===== -/
def isNw (w : Cond) : Bool := match w with
  | .methodLinkNest _ _ _ _ => true
  | .declares _ => true
  | .castable _ _ => true
  | _ => false
theorem nw_warm {w : Cond} (hw : isNw w = true) {s U : State} (hW : s.WarmedH U.vm) (h : va_Nw w s) : va_Nw w U := by
  cases w <;> first | exact va_Nw.warmM hW h | exact va_Nw.warmD hW h | exact va_Nw.warmC hW h | exact Bool.noConfusion hw
def ixB : List Int32 := [61, 38, 124, 94, 33, 40, 41, 59, 44, 46]
def StF (b : Nat) (ex : Nat → Nat) (xs : Nat → Int32) (L : Nat) (U : State) (H : Heap) : Prop :=
  (va_Z RX0 "LANES_WITH" "[J" (.ref (ex 1)) (Ab b) U H ∧ va_T .long (ex 1) 6 (fun j => .long ((jTab 1).getD j 0)) (Ab b) U H) ∧
  (va_Z RX14 "WORDS" "[J" (.ref (ex 2)) (Ab b) U H ∧ va_T .long (ex 2) 9 (fun j => .long ((jTab 2).getD j 0)) (Ab b) U H) ∧
  (vk_R RX14 115 "=&|^!();,." (ex 3) U ∧ vk_S 1 [10] [ixB] (fun _ => ex 3) (fun _ => ex 4) (Ab b) U H ∧ va_Z RJ0 "COMPACT_STRINGS" "Z" (.int 1) (Ab b) U H) ∧
  (vx_Zq Bundle.tN "UNASSIGNED_STACK" Bundle.steD (Ab b) U H ∧ vx_Zq Bundle.tN "SUPPRESSED_SENTINEL" Bundle.listD (Ab b) U H) ∧
  (∀ w ∈ mjS, isNw w = true → va_Nw w U) ∧ va_X (ex 0) L xs U H ∧ ex 0 ≤ b ∧ ex 0 < H.size
theorem StF.moved {b : Nat} {ex : Nat → Nat} {xs : Nat → Int32} {L : Nat} {s U : State} {H : Heap} (hW : s.WarmedH U.vm) (h : StF b ex xs L s H) : StF b ex xs L U H := by
  obtain ⟨⟨a1, a2⟩, ⟨b1, b2⟩, ⟨c1, c2, c3⟩, ⟨d1, d2⟩, e1, f1, f2, f3⟩ := h
  have hA := hW.alike
  exact ⟨⟨va_Z.moved hA a1, va_T.moved hA a2⟩, ⟨va_Z.moved hA b1, va_T.moved hA b2⟩, ⟨vk_R.warm hW c1, vk_S.moved hA c2, va_Z.moved hA c3⟩, ⟨vx_Zq.moved hA d1, vx_Zq.moved hA d2⟩, fun w hw h => nw_warm h hW (e1 w hw h), va_X.moved hA f1, f2, f3⟩
theorem StF.kept {b : Nat} {ex : Nat → Nat} {xs : Nat → Int32} {L : Nat} {U : State} {H H1 : Heap} (h : StF b ex xs L U H) (hz : H.size ≤ H1.size) (hq : ∀ a : Nat, a < H.size → ¬ Ab b a → H1[a]? = H[a]?) : StF b ex xs L U H1 := by
  obtain ⟨⟨a1, a2⟩, ⟨b1, b2⟩, ⟨c1, c2, c3⟩, ⟨d1, d2⟩, e1, f1, f2, f3⟩ := h
  exact ⟨⟨a1.kept hq, a2.kept hq⟩, ⟨b1.kept hq, b2.kept hq⟩, ⟨c1, c2.kept hq, c3.kept hq⟩, ⟨d1.kept hq, d2.kept hq⟩, e1, f1.kept (hq _ f3 (fun z => absurd z (Nat.not_lt.mpr f2))), f2, Nat.lt_of_lt_of_le f3 hz⟩
section SNC
variable {p : Program} {l : Launch} {e : Env} {R : Room} {s : State} {m : MethodId} {args : Array Value} {below : List Frame} {meth : Method} {c : Code} {H : Heap} {locs : List Loc} {cells slots : Nat} {Q : State → Prop}
variable {b : Nat} {ex : Nat → Nat} {cA : FieldType → ClassId} {D : va_G} {xs : Nat → Int32} {L d j pc ln : Nat} {st st' : List Value} {ls : Array Slot} {M M' : MH}
theorem vpV_map {f : Nat → Value} {n k : Nat} (h : k < n) : vp_V ((List.range n).map f) k = f k := by
  unfold vp_V
  rw [List.getD_eq_getElem?_getD, List.getElem?_map, List.getElem?_range h]
  rfl
theorem fv_wI {ci a f k : Nat} {x : Int32} (hk : k ≠ f) : fv (wI M a f x) ci a k = fv M ci a k := by
  unfold fv wI
  simp only [u2_s, u1_n _ _ hk]
theorem fv_wJ {ci a f k : Nat} {x : Int64} (hk : k ≠ f) : fv (wJ M a f x) ci a k = fv M ci a k := by
  unfold fv wJ
  simp only [u2_s, u1_n _ _ hk]
theorem fv_wR {ci a f k : Nat} {x : Nat} (hk : k ≠ f) : fv (wR M a f x) ci a k = fv M ci a k := by
  unfold fv wR
  simp only [u2_s, u1_n _ _ hk]
/-- what a putfield writes -/
theorem pf_at {ci a f : Nat} {v : Value} (h : pf M ci a f v = some M') : (∀ x, x ≠ a → ceE b ex cA M' x = ceE b ex cA M x) ∧ M'.1 = M.1 ∧ M'.2.2.2.2 = M.2.2.2.2 ∧ fv M' ci a f = v ∧ (∀ k, k ≠ f → fv M' ci a k = fv M ci a k) ∧ narrow (tyT ci f) (up b ex v) = up b ex v ∧ fits (tyT ci f) (up b ex v) = true := by
  have hI : ∀ x k y, x ≠ a → ceE b ex cA (wI M a k y) x = ceE b ex cA M x := fun x k y hx => ceE_congr rfl (u2_n _ _ _ hx) rfl rfl
  have hJ : ∀ x k y, x ≠ a → ceE b ex cA (wJ M a k y) x = ceE b ex cA M x := fun x k y hx => ceE_congr rfl rfl (u2_n _ _ _ hx) rfl
  have hR : ∀ x k y, x ≠ a → ceE b ex cA (wR M a k y) x = ceE b ex cA M x := fun x k y hx => ceE_congr rfl rfl rfl (u2_n _ _ _ hx)
  unfold pf at h
  split at h
  · rename_i ht
    split at h
    · rename_i x
      cases h
      refine ⟨fun y hy => hJ y f x hy, rfl, rfl, ?_, fun k hk => fv_wJ hk, by rw [ht]; rfl, by rw [ht]; rfl⟩
      unfold fv
      rw [ht]
      simp only [wJ, u2_s, u1_s]
    · cases h
  · rename_i ht
    split at h
    · rename_i x
      cases h
      refine ⟨fun y hy => hI y f x hy, rfl, rfl, ?_, fun k hk => fv_wI hk, by rw [ht]; rfl, by rw [ht]; rfl⟩
      unfold fv
      rw [ht]
      simp only [wI, u2_s, u1_s]
    · cases h
  · rename_i ht
    split at h
    · rename_i x
      split at h
      · rename_i h01
        cases h
        refine ⟨fun y hy => hI y f x hy, rfl, rfl, ?_, fun k hk => fv_wI hk, ?_, ?_⟩
        · unfold fv
          rw [ht]
          simp only [wI, u2_s, u1_s]
        · rw [ht]; rcases h01 with rfl | rfl <;> rfl
        · rw [ht]; rcases h01 with rfl | rfl <;> rfl
      · cases h
    · cases h
  · rename_i ht
    split at h
    · rename_i q
      cases h
      refine ⟨fun y hy => hR y f q hy, rfl, rfl, ?_, fun k hk => fv_wR hk, ?_, ?_⟩
      · unfold fv
        rw [ht]
        simp only [wR, u2_s, u1_s]
      · rw [ht]; cases q <;> rfl
      · rw [ht]; cases q <;> rfl
    · cases h
  · rename_i ht
    split at h
    · rename_i q
      cases h
      refine ⟨fun y hy => hR y f q hy, rfl, rfl, ?_, fun k hk => fv_wR hk, ?_, ?_⟩
      · unfold fv
        rw [ht]
        simp only [wR, u2_s, u1_s]
      · rw [ht]; cases q <;> rfl
      · rw [ht]; cases q <;> rfl
    · cases h
  · cases h
theorem inb_in {i : Int32} {n : Nat} (h : inb i n = true) : vp_in i n := by
  have h1 : ¬ (i < 0 ∨ n ≤ i.toNatClampNeg) := of_decide_eq_true h
  exact h1
/-- the words, as the rows of the kit take them -/
theorem htf (hts : ∀ w ∈ mjS, goodWord w = true → w.before args s = true) : ∀ w ∈ mjS.filter goodWord, w.before args s = true := fun w hw => hts w (List.mem_filter.mp hw).1 (List.mem_filter.mp hw).2
theorem fl_same {o idx ci k : Nat} (hts : ∀ w ∈ mjS, goodWord w = true → w.before args s = true) (h : fl o idx ci = some k) : ci < 14 ∧ k < nF ci ∧ ∃ ref : String, (Cond.fieldLink (oN o) idx ref (mjTT ci k).2.1 (mjTT ci k).2.2.1).before args s = true ∧ ∀ x, s.fieldFound? (mjTT ci k).1 (mjTT ci k).2.1 (mjTT ci k).2.2.1 = some x → s.fieldFound? ref (mjTT ci k).2.1 (mjTT ci k).2.2.1 = some x := by
  obtain ⟨h1, h2, ref, h3, h4⟩ := fl_at h
  refine ⟨h1, h2, ref, hts _ h3 rfl, fun x hx => ?_⟩
  rcases h4 with rfl | h4
  · exact hx
  · exact u_same (hts _ h4 rfl) x hx
set_option maxHeartbeats 4000000 in
set_option maxRecDepth 100000 in
theorem sn_get {k : Nat} (hx : p.tables.exec = Jvm.exec) (hb : c.code = mB j) (hown : s.vm.findClass (oN (mO j)) = some m.cls) (hts : ∀ w ∈ mjS, goodWord w = true → w.before args s = true) (hK : va_K D mjC (tyL cA) s) (hI : Inv M) (hP : va_P D mjC (wsO b ex cA M) H)
    (hd : decode (mB j) pc = .ok (.getfield k, 3)) {a ci f : Nat} {t : List Value} (hsh : M.1 a = .inl ci) (hf : fl (mO j) k ci = some f)
    (kk : W p l e R s m args below meth c H locs cells slots Q (F0 m (pc + 3) ls ((fv M ci a f :: t).map (up b ex)))) : W p l e R s m args below meth c H locs cells slots Q (F0 m pc ls ((Value.ref a :: t).map (up b ex))) := by
  obtain ⟨h1, h2, ref, h3, h4⟩ := fl_same hts hf
  obtain ⟨ha0, haz⟩ := hI.in (a := a) (fun q => by rw [hsh] at q; cases q; exact absurd h1 (by decide))
  have hat := wsO_at (b := b) (ex := ex) (cA := cA) ha0 haz
  rw [ceE_o hsh] at hat
  rw [List.map_cons, up_ref ha0]
  exact va_get (C := mjCN ci) (T := mjTT ci) (N := nF ci) hx hb (htf hts) (mjL_at h1) hown hK hP (a - 1) hat (mjC_at (Nat.lt_succ_of_lt h1)) f h2 h3 h4 (by rw [List.getElem?_map, List.getElem?_range h2]; rfl) hd kk
set_option maxHeartbeats 4000000 in
set_option maxRecDepth 100000 in
theorem sn_put {k : Nat} (hx : p.tables.exec = Jvm.exec) (hb : c.code = mB j) (hown : s.vm.findClass (oN (mO j)) = some m.cls) (hnm : meth.name = (mY j).name) (hts : ∀ w ∈ mjS, goodWord w = true → w.before args s = true) (hK : va_K D mjC (tyL cA) s) (hI : Inv M) (hP : va_P D mjC (wsO b ex cA M) H) (hS : va_S (Ab b) s.heap H locs)
    (hd : decode (mB j) pc = .ok (.putfield k, 3)) {a ci f : Nat} {v : Value} {t : List Value} (hsh : M.1 a = .inl ci) (hf : fl (mO j) k ci = some f) (hok : pfOK j ci f = true) (hpf : pf M ci a f v = some M')
    (hz : H.size = b + M.2.2.2.2.1 + 1)
    (kk : ∀ (H' : Heap) (locs' : List Loc), va_P D mjC (wsO b ex cA M') H' → va_S (Ab b) s.heap H' locs' → W p l e R s m args below meth c H' locs' cells slots Q (F0 m (pc + 3) ls (t.map (up b ex)))) : W p l e R s m args below meth c H locs cells slots Q (F0 m pc ls ((v :: Value.ref a :: t).map (up b ex))) := by
  obtain ⟨h1, h2, ref, h3, h4⟩ := fl_same hts hf
  obtain ⟨ha0, haz⟩ := hI.in (a := a) (fun q => by rw [hsh] at q; cases q; exact absurd h1 (by decide))
  have hat := wsO_at (b := b) (ex := ex) (cA := cA) ha0 haz
  rw [ceE_o hsh] at hat
  obtain ⟨g1, g2, g3, g4, g5, g6, g7⟩ := pf_at (b := b) (ex := ex) (cA := cA) hpf
  have hset : wsO b ex cA M' = (wsO b ex cA M).set (a - 1) (b + a, .inr (ci, ((List.range (nF ci)).map fun k => up b ex (fv M ci a k)).set f (up b ex v))) := by
    rw [wsO_set ha0 (by rw [g3]) g1, ceE_o (by rw [g2]; exact hsh)]
    congr 4
    apply List.ext_getElem?
    intro q
    by_cases hq : q < nF ci
    · rw [List.getElem?_map, List.getElem?_range hq]
      by_cases hqf : q = f
      · subst hqf
        rw [List.getElem?_set_self (by simp; exact hq), Option.map_some, g4]
      · rw [List.getElem?_set_ne (Ne.symm hqf), List.getElem?_map, List.getElem?_range hq, Option.map_some, Option.map_some, g5 q hqf]
    · rw [List.getElem?_eq_none (by simp; omega), List.getElem?_eq_none (by simp; omega)]
  rw [List.map_cons, List.map_cons, up_ref ha0]
  by_cases hfin : finF ci f = true
  · have hok2 : (mY j).name = "<init>" ∧ decF ci f = oN (mO j) := by
      unfold pfOK at hok
      rw [hfin] at hok
      simp only [Bool.not_true, Bool.false_or, Bool.and_eq_true, decide_eq_true_eq] at hok
      exact hok
    exact va_putF (C := mjCN ci) (T := mjTT ci) (N := nF ci) hx hb (htf hts) (mjL_at h1) (tyT ci) (mjY_at h1) (mjN_at h1) hown hK hP wsO_D hS (a - 1) hat (mjC_at (Nat.lt_succ_of_lt h1)) f h2 h3 h4 hfin (hnm.trans hok2.1) hok2.2 (mjY_at h1 f h2) g6 g7 (by simp; exact h2) hd (fun H' locs' q1 _ q3 => kk H' locs' (by rw [hset]; exact q1) q3)
  · exact va_put (C := mjCN ci) (T := mjTT ci) (N := nF ci) hx hb (htf hts) (mjL_at h1) (tyT ci) (mjY_at h1) (mjN_at h1) hown hK hP wsO_D hS (a - 1) hat (mjC_at (Nat.lt_succ_of_lt h1)) f h2 h3 h4 (Bool.eq_false_iff.mpr hfin) (mjY_at h1 f h2) g6 g7 (by simp; exact h2) hd (fun H' locs' q1 _ q3 => kk H' locs' (by rw [hset]; exact q1) q3)
end SNC
end
section
/-! ===== soundness: arrays, new things, statics ===== -/
section SND
theorem mjFD_ok : (List.range 14).all (fun ci => (List.range (nF ci)).all (fun k => decide (tyT ci k ≠ .float ∧ tyT ci k ≠ .double))) = true := by decide +kernel
theorem mjAC : Cond.arrayClass .int ∈ mjS ∧ Cond.arrayClass .long ∈ mjS ∧ Cond.arrayClass .byte ∈ mjS ∧ Cond.arrayClass .boolean ∈ mjS := by decide +kernel
variable {p : Program} {l : Launch} {e : Env} {R : Room} {s : State} {m : MethodId} {args : Array Value} {below : List Frame} {meth : Method} {c : Code} {H : Heap} {locs : List Loc} {cells slots : Nat} {Q : State → Prop}
variable {b : Nat} {ex : Nat → Nat} {cA : FieldType → ClassId} {D : va_G} {xs : Nat → Int32} {L d j pc ln : Nat} {st st' : List Value} {ls : Array Slot} {M M' : MH}
theorem sn_arr (hI : Inv M) {a n : Nat} {ty : FieldType} (hsh : M.1 a = .inr (ty, n)) : a ≠ 0 ∧ a ≤ M.2.2.2.2.1 := hI.in (fun q => by rw [hsh] at q; cases q)
set_option maxHeartbeats 4000000 in
theorem sn_iald (hx : p.tables.exec = Jvm.exec) (hb : c.code = mB j) (hK : va_K D mjC (tyL cA) s) (hI : Inv M) (hP : va_P D mjC (wsO b ex cA M) H) (hd : decode (mB j) pc = .ok (.iaload, 1)) {a n : Nat} {x : Int32} {t : List Value} (hsh : M.1 a = .inr (.int, n)) (hin : inb x n = true)
    (kk : W p l e R s m args below meth c H locs cells slots Q (F0 m (pc + 1) ls ((Value.int (M.2.1 a x.toNatClampNeg) :: t).map (up b ex)))) : W p l e R s m args below meth c H locs cells slots Q (F0 m pc ls ((Value.int x :: Value.ref a :: t).map (up b ex))) := by
  obtain ⟨ha0, haz⟩ := sn_arr hI hsh
  have hat := wsO_at (b := b) (ex := ex) (cA := cA) ha0 haz
  rw [ceE_i hsh (by decide)] at hat
  rw [List.map_cons, List.map_cons, up_ref ha0]
  exact va_iald hx hb hK hP (a - 1) 0 hat rfl (inb_in hin) hd kk
set_option maxHeartbeats 4000000 in
theorem sn_bald (hx : p.tables.exec = Jvm.exec) (hb : c.code = mB j) (hK : va_K D mjC (tyL cA) s) (hI : Inv M) (hP : va_P D mjC (wsO b ex cA M) H) (hd : decode (mB j) pc = .ok (.baload, 1)) {a n : Nat} {x : Int32} {t : List Value} {ty : FieldType} (hty : ty = .byte ∨ ty = .boolean) (hsh : M.1 a = .inr (ty, n)) (hin : inb x n = true)
    (kk : W p l e R s m args below meth c H locs cells slots Q (F0 m (pc + 1) ls ((Value.int (M.2.1 a x.toNatClampNeg) :: t).map (up b ex)))) : W p l e R s m args below meth c H locs cells slots Q (F0 m pc ls ((Value.int x :: Value.ref a :: t).map (up b ex))) := by
  obtain ⟨ha0, haz⟩ := sn_arr hI hsh
  have hat := wsO_at (b := b) (ex := ex) (cA := cA) ha0 haz
  rw [List.map_cons, List.map_cons, up_ref ha0]
  rcases hty with rfl | rfl
  · rw [ceE_i hsh (by decide)] at hat
    exact va_bald hx hb hK hP (a - 1) 2 hat rfl (inb_in hin) hd kk
  · rw [ceE_i hsh (by decide)] at hat
    exact va_zald hx hb hK hP (a - 1) 3 hat rfl (inb_in hin) hd kk
set_option maxHeartbeats 4000000 in
theorem sn_lald (hx : p.tables.exec = Jvm.exec) (hb : c.code = mB j) (hK : va_K D mjC (tyL cA) s) (hI : Inv M) (hP : va_P D mjC (wsO b ex cA M) H) (hd : decode (mB j) pc = .ok (.laload, 1)) {a n : Nat} {x : Int32} {t : List Value} (hsh : M.1 a = .inr (.long, n)) (hin : inb x n = true)
    (kk : W p l e R s m args below meth c H locs cells slots Q (F0 m (pc + 1) ls ((Value.long (M.2.2.1 a x.toNatClampNeg) :: t).map (up b ex)))) : W p l e R s m args below meth c H locs cells slots Q (F0 m pc ls ((Value.int x :: Value.ref a :: t).map (up b ex))) := by
  obtain ⟨ha0, haz⟩ := sn_arr hI hsh
  have hat := wsO_at (b := b) (ex := ex) (cA := cA) ha0 haz
  rw [ceE_l hsh] at hat
  rw [List.map_cons, List.map_cons, up_ref ha0]
  exact va_lald hx hb hK hP (a - 1) 1 hat rfl (inb_in hin) hd kk
theorem ws_wI {a k n : Nat} {x : Int32} {ty : FieldType} (ha0 : a ≠ 0) (hsh : M.1 a = .inr (ty, n)) (hty : ty ≠ .long) : wsO b ex cA (wI M a k x) = (wsO b ex cA M).set (a - 1) (b + a, .inl (cA ty, n, .inl (upd (M.2.1 a) k x))) := by
  rw [wsO_set (M := M) (M' := wI M a k x) ha0 rfl (fun y hy => ceE_congr rfl (u2_n _ _ _ hy) rfl rfl), ceE_i (M := wI M a k x) hsh hty]
  simp only [wI, u2_s]
  rfl
theorem ws_wJ {a k n : Nat} {x : Int64} (ha0 : a ≠ 0) (hsh : M.1 a = .inr (.long, n)) : wsO b ex cA (wJ M a k x) = (wsO b ex cA M).set (a - 1) (b + a, .inl (cA .long, n, .inr (.inl (vp_updL (M.2.2.1 a) k x)))) := by
  rw [wsO_set (M := M) (M' := wJ M a k x) ha0 rfl (fun y hy => ceE_congr rfl rfl (u2_n _ _ _ hy) rfl), ceE_l (M := wJ M a k x) hsh]
  simp only [wJ, u2_s]
  rfl
set_option maxHeartbeats 4000000 in
theorem sn_iast (hx : p.tables.exec = Jvm.exec) (hb : c.code = mB j) (hK : va_K D mjC (tyL cA) s) (hI : Inv M) (hP : va_P D mjC (wsO b ex cA M) H) (hS : va_S (Ab b) s.heap H locs) (hd : decode (mB j) pc = .ok (.iastore, 1)) {a n : Nat} {x v : Int32} {t : List Value} (hsh : M.1 a = .inr (.int, n)) (hin : inb x n = true)
    (kk : ∀ (H' : Heap) (locs' : List Loc), va_P D mjC (wsO b ex cA (wI M a x.toNatClampNeg v)) H' → va_S (Ab b) s.heap H' locs' → W p l e R s m args below meth c H' locs' cells slots Q (F0 m (pc + 1) ls (t.map (up b ex)))) : W p l e R s m args below meth c H locs cells slots Q (F0 m pc ls ((Value.int v :: Value.int x :: Value.ref a :: t).map (up b ex))) := by
  obtain ⟨ha0, haz⟩ := sn_arr hI hsh
  have hat := wsO_at (b := b) (ex := ex) (cA := cA) ha0 haz
  rw [ceE_i hsh (by decide)] at hat
  rw [List.map_cons, List.map_cons, List.map_cons, up_ref ha0]
  exact va_iast hx hb hK hP wsO_D hS (a - 1) 0 hat rfl (inb_in hin) hd (fun H' locs' q1 _ q3 => kk H' locs' (by rw [ws_wI ha0 hsh (by decide)]; exact q1) q3)
set_option maxHeartbeats 4000000 in
theorem sn_bast (hx : p.tables.exec = Jvm.exec) (hb : c.code = mB j) (hK : va_K D mjC (tyL cA) s) (hI : Inv M) (hP : va_P D mjC (wsO b ex cA M) H) (hS : va_S (Ab b) s.heap H locs) (hd : decode (mB j) pc = .ok (.bastore, 1)) {a n : Nat} {x v : Int32} {t : List Value} {ty : FieldType} (hty : ty = .byte ∨ ty = .boolean) (hsh : M.1 a = .inr (ty, n)) (hin : inb x n = true)
    (kk : ∀ (H' : Heap) (locs' : List Loc), va_P D mjC (wsO b ex cA (wI M a x.toNatClampNeg (vp_nar ty v))) H' → va_S (Ab b) s.heap H' locs' → W p l e R s m args below meth c H' locs' cells slots Q (F0 m (pc + 1) ls (t.map (up b ex)))) : W p l e R s m args below meth c H locs cells slots Q (F0 m pc ls ((Value.int v :: Value.int x :: Value.ref a :: t).map (up b ex))) := by
  obtain ⟨ha0, haz⟩ := sn_arr hI hsh
  have hat := wsO_at (b := b) (ex := ex) (cA := cA) ha0 haz
  rw [List.map_cons, List.map_cons, List.map_cons, up_ref ha0]
  rcases hty with rfl | rfl
  · rw [ceE_i hsh (by decide)] at hat
    exact va_bast hx hb hK hP wsO_D hS (a - 1) 2 hat rfl (inb_in hin) hd (fun H' locs' q1 _ q3 => kk H' locs' (by rw [ws_wI ha0 hsh (by decide)]; exact q1) q3)
  · rw [ceE_i hsh (by decide)] at hat
    exact va_zast hx hb hK hP wsO_D hS (a - 1) 3 hat rfl (inb_in hin) hd (fun H' locs' q1 _ q3 => kk H' locs' (by rw [ws_wI ha0 hsh (by decide)]; exact q1) q3)
set_option maxHeartbeats 4000000 in
theorem sn_last (hx : p.tables.exec = Jvm.exec) (hb : c.code = mB j) (hK : va_K D mjC (tyL cA) s) (hI : Inv M) (hP : va_P D mjC (wsO b ex cA M) H) (hS : va_S (Ab b) s.heap H locs) (hd : decode (mB j) pc = .ok (.lastore, 1)) {a n : Nat} {x : Int32} {v : Int64} {t : List Value} (hsh : M.1 a = .inr (.long, n)) (hin : inb x n = true)
    (kk : ∀ (H' : Heap) (locs' : List Loc), va_P D mjC (wsO b ex cA (wJ M a x.toNatClampNeg v)) H' → va_S (Ab b) s.heap H' locs' → W p l e R s m args below meth c H' locs' cells slots Q (F0 m (pc + 1) ls (t.map (up b ex)))) : W p l e R s m args below meth c H locs cells slots Q (F0 m pc ls ((Value.long v :: Value.int x :: Value.ref a :: t).map (up b ex))) := by
  obtain ⟨ha0, haz⟩ := sn_arr hI hsh
  have hat := wsO_at (b := b) (ex := ex) (cA := cA) ha0 haz
  rw [ceE_l hsh] at hat
  rw [List.map_cons, List.map_cons, List.map_cons, up_ref ha0]
  exact va_last hx hb hK hP wsO_D hS (a - 1) 1 hat rfl (inb_in hin) hd (fun H' locs' q1 _ q3 => kk H' locs' (by rw [ws_wJ ha0 hsh]; exact q1) q3)
set_option maxHeartbeats 4000000 in
theorem sn_alen (hx : p.tables.exec = Jvm.exec) (hb : c.code = mB j) (hK : va_K D mjC (tyL cA) s) (hI : Inv M) (hP : va_P D mjC (wsO b ex cA M) H) (hd : decode (mB j) pc = .ok (.arraylength, 1)) {a n : Nat} {ty : FieldType} {t : List Value} (hsh : M.1 a = .inr (ty, n))
    (kk : W p l e R s m args below meth c H locs cells slots Q (F0 m (pc + 1) ls ((Value.int (Int32.ofNat n) :: t).map (up b ex)))) : W p l e R s m args below meth c H locs cells slots Q (F0 m pc ls ((Value.ref a :: t).map (up b ex))) := by
  obtain ⟨ha0, haz⟩ := sn_arr hI hsh
  have hat := wsO_at (b := b) (ex := ex) (cA := cA) ha0 haz
  rw [List.map_cons, up_ref ha0]
  rcases hI.2 a ty n hsh with rfl | rfl | rfl | rfl
  · rw [ceE_i hsh (by decide)] at hat
    exact va_alen hx hb hK hP (a - 1) 0 hat (ty := .int) rfl rfl hd kk
  · rw [ceE_l hsh] at hat
    exact va_alen hx hb hK hP (a - 1) 1 hat (ty := .long) rfl rfl hd kk
  · rw [ceE_i hsh (by decide)] at hat
    exact va_alen hx hb hK hP (a - 1) 2 hat (ty := .byte) rfl rfl hd kk
  · rw [ceE_i hsh (by decide)] at hat
    exact va_alen hx hb hK hP (a - 1) 3 hat (ty := .boolean) rfl rfl hd kk
/-- a new cell behind all others -/
theorem sn_push {H' : Heap} (hP : va_P D mjC (wsO b ex cA M) H) (hz : H.size = b + M.2.2.2.2.1 + 1) (hz' : M'.2.2.2.2.1 = M.2.2.2.2.1 + 1) (hce : ∀ x, x ≤ M.2.2.2.2.1 → ceE b ex cA M' x = ceE b ex cA M x) (h1 : ∀ q, q < H.size → H'[q]? = H[q]?) (h2 : va_at D mjC (b + (M.2.2.2.2.1 + 1), ceE b ex cA M' (M.2.2.2.2.1 + 1)) H') : va_P D mjC (wsO b ex cA M') H' := by
  rw [wsO_push hz' hce]
  refine (hP.kept (fun k q hq => h1 q.1 ?_)).app (fun k q hq => ?_)
  · have := (hP k q hq).lt
    exact this
  · have hk : k < 1 := (List.getElem?_eq_some_iff.mp hq).1
    rw [show k = 0 by omega] at hq
    cases hq
    exact h2
theorem sn_pushS {H' : Heap} (hS : va_S (Ab b) s.heap H locs) (h0 : H'.size = H.size + 1) (h1 : ∀ q, q < H.size → H'[q]? = H[q]?) : va_S (Ab b) s.heap H' locs := ⟨by have := hS.1; omega, fun q q1 q2 => (h1 q (Nat.lt_of_lt_of_le q1 hS.1)).trans (hS.2.1 q q1 q2), hS.2.2⟩
theorem ce_new {x : Nat} {S : Shp} {f0 : Nat → Int32} {f1 : Nat → Int64} {f2 : Nat → Nat} {z : Nat × Nat} (hx : x ≤ M.2.2.2.2.1) : ceE b ex cA (u1 M.1 (M.2.2.2.2.1 + 1) S, u1 M.2.1 (M.2.2.2.2.1 + 1) f0, u1 M.2.2.1 (M.2.2.2.2.1 + 1) f1, u1 M.2.2.2.1 (M.2.2.2.2.1 + 1) f2, z) x = ceE b ex cA M x :=
  ceE_congr (u1_n _ _ (by omega)) (u1_n _ _ (by omega)) (u1_n _ _ (by omega)) (u1_n _ _ (by omega))
set_option maxHeartbeats 4000000 in
theorem sn_new {k ci : Nat} (hx : p.tables.exec = Jvm.exec) (hb : c.code = mB j) (hown : s.vm.findClass (oN (mO j)) = some m.cls) (hts : ∀ w ∈ mjS, goodWord w = true → w.before args s = true) (hK : va_K D mjC (tyL cA) s) (hP : va_P D mjC (wsO b ex cA M) H) (hS : va_S (Ab b) s.heap H locs) (hz : H.size = b + M.2.2.2.2.1 + 1)
    (hd : decode (mB j) pc = .ok (.new k, 3)) {t : List Value} (hn : nwl (mO j) k = some ci) (hRc : cells + 1 ≤ R.cells) (hRs : slots + nF ci ≤ R.slots)
    (kk : ∀ (H' : Heap), va_P D mjC (wsO b ex cA (newO M ci)) H' → H'.size = H.size + 1 → va_S (Ab b) s.heap H' locs → W p l e R s m args below meth c H' locs (cells + 1) (slots + nF ci) Q (F0 m (pc + 3) ls ((Value.ref (M.2.2.2.2.1 + 1) :: t).map (up b ex)))) : W p l e R s m args below meth c H locs cells slots Q (F0 m pc ls (t.map (up b ex))) := by
  obtain ⟨h1, h2, h3, h4⟩ := nw_at hn
  have hc := mjC_at (Nat.lt_succ_of_lt h1)
  have hKn := hK.1 ci _ hc
  refine W.newcK hx hb hown (hts _ h2 rfl) (hts _ h3 rfl) (hts _ h4 rfl) rfl hd hRc hRs hKn.2.1 hz fun H1 kC hkC e1 z1 o1 => ?_
  rw [← hz] at z1 o1
  have kk := kk H1 (sn_push (M' := newO M ci) hP hz rfl (fun x hx => ce_new hx) o1 ?_) z1 (sn_pushS hS z1 o1)
  · rw [show b + M.2.2.2.2.1 + 1 = b + (M.2.2.2.2.1 + 1) from rfl]
    exact kk
  · rw [ceE_o (M := newO M ci) (u1_s _ _ _)]
    refine ⟨_, hc, (u_born (tyT ci) (htf hts) (mjL_at h1) hKn hkC e1 (mjY_at h1)).to (fun q hq => ?_)⟩
    rw [vpV_map hq]
    unfold fv newO
    simp only [u1_s]
    have hfd := of_decide_eq_true (List.all_eq_true.mp (List.all_eq_true.mp mjFD_ok ci (List.mem_range.mpr h1)) q (List.mem_range.mpr hq))
    cases htq : tyT ci q <;> first | rfl | (rw [htq] at hfd; exact absurd rfl hfd.1) | (rw [htq] at hfd; exact absurd rfl hfd.2)
set_option maxHeartbeats 4000000 in
theorem sn_newa {aty : ArrayType} {ty : FieldType} (hx : p.tables.exec = Jvm.exec) (hb : c.code = mB j) (hts : ∀ w ∈ mjS, goodWord w = true → w.before args s = true) (hK : va_K D mjC (tyL cA) s) (hP : va_P D mjC (wsO b ex cA M) H) (hS : va_S (Ab b) s.heap H locs) (hz : H.size = b + M.2.2.2.2.1 + 1)
    (hd : decode (mB j) pc = .ok (.newarray aty, 2)) {t : List Value} {n : Int32} (hty : arT aty = some ty) (hn : ¬ n < 0) (hN : n.toNatClampNeg ≤ 1000000) (hRc : cells + 1 ≤ R.cells) (hRs : slots + n.toNatClampNeg ≤ R.slots)
    (kk : ∀ (H' : Heap), va_P D mjC (wsO b ex cA (newA M ty n.toNatClampNeg)) H' → H'.size = H.size + 1 → va_S (Ab b) s.heap H' locs → W p l e R s m args below meth c H' locs (cells + 1) (slots + n.toNatClampNeg) Q (F0 m (pc + 2) ls ((Value.ref (M.2.2.2.2.1 + 1) :: t).map (up b ex)))) : W p l e R s m args below meth c H locs cells slots Q (F0 m pc ls ((Value.int n :: t).map (up b ex))) := by
  have hce : ∀ x, x ≤ M.2.2.2.2.1 → ceE b ex cA (newA M ty n.toNatClampNeg) x = ceE b ex cA M x := fun x hx => ceE_congr (u1_n _ _ (by omega)) (u1_n _ _ (by omega)) (u1_n _ _ (by omega)) rfl
  have key : newarray.typeOf aty = ty → Cond.arrayClass ty ∈ mjS → componentBytes ty ≤ 8 → s.vm.findClass ("[" ++ ty.toString) = some (cA ty) → (∀ H1 : Heap, H1[b + M.2.2.2.2.1 + 1]? = some (arrV (cA ty) n.toNatClampNeg (fun _ => defaultValue ty)) → va_at D mjC (b + (M.2.2.2.2.1 + 1), ceE b ex cA (newA M ty n.toNatClampNeg) (M.2.2.2.2.1 + 1)) H1) → W p l e R s m args below meth c H locs cells slots Q (F0 m pc ls ((Value.int n :: t).map (up b ex))) := by
    intro hto hmem hcb hid hcell
    refine va_newaK hx hb (atype := aty) (by rw [hto]; exact hts _ hmem rfl) rfl hd rfl hn rfl (by rw [hto]; exact Nat.le_trans (Nat.mul_le_mul hN hcb) (by decide)) hRc hRs hz fun H1 cB e1 z1 o1 hAr hNm => ?_
    rw [hto] at e1 hAr hNm
    cases Option.some.inj (hid.symm.trans hNm)
    rw [← hz] at z1 o1
    have kk := kk H1 (sn_push (M' := newA M ty n.toNatClampNeg) hP hz rfl hce o1 (hcell H1 e1)) z1 (sn_pushS hS z1 o1)
    rw [show b + M.2.2.2.2.1 + 1 = b + (M.2.2.2.2.1 + 1) from rfl]
    exact kk
  have hci : ∀ (ty : FieldType), ty ≠ .long → defaultValue ty = .int 0 → ∀ H1 : Heap, H1[b + M.2.2.2.2.1 + 1]? = some (arrV (cA ty) n.toNatClampNeg (fun _ => defaultValue ty)) → va_at D mjC (b + (M.2.2.2.2.1 + 1), ceE b ex cA (newA M ty n.toNatClampNeg) (M.2.2.2.2.1 + 1)) H1 := by
    intro ty h1 h2 H1 e1
    rw [ceE_i (M := newA M ty n.toNatClampNeg) (u1_s _ _ _) h1]
    simp only [newA, u1_s]
    rw [h2] at e1
    exact e1
  cases aty <;> cases hty
  · exact key rfl mjAC.2.2.2 (by decide) (hK.2 3 _ rfl).2 (hci .boolean (by decide) rfl)
  · exact key rfl mjAC.2.2.1 (by decide) (hK.2 2 _ rfl).2 (hci .byte (by decide) rfl)
  · exact key rfl mjAC.1 (by decide) (hK.2 0 _ rfl).2 (hci .int (by decide) rfl)
  · refine key rfl mjAC.2.1 (by decide) (hK.2 1 _ rfl).2 (fun H1 e1 => ?_)
    rw [ceE_l (M := newA M .long n.toNatClampNeg) (u1_s _ _ _)]
    simp only [newA, u1_s]
    exact e1
end SND
end
section
/-! ===== soundness: all that touches the heap ===== -/
section SNE
variable {p : Program} {l : Launch} {e : Env} {R : Room} {s : State} {m : MethodId} {args : Array Value} {below : List Frame} {meth : Method} {c : Code} {H : Heap} {locs : List Loc} {cells slots : Nat} {Q : State → Prop}
variable {b : Nat} {ex : Nat → Nat} {cA : FieldType → ClassId} {D : va_G} {xs : Nat → Int32} {L d j pc ln : Nat} {st st' : List Value} {ls : Array Slot} {M M' : MH}
theorem mjG_ok : mjG = [(0, 93, 1, 750), (14, 105, 2, 1141)] := rfl
theorem mjG_w : Cond.fieldLink (oN 0) 93 RX0 "LANES_WITH" "[J" ∈ mjS ∧ Cond.fieldLink (oN 14) 105 RX14 "WORDS" "[J" ∈ mjS := by decide +kernel
/-- what the text's indexOf does, as a step -/
def IxS (p : Program) (l : Launch) (e : Env) (R : Room) (s : State) (m : MethodId) (args : Array Value) (below : List Frame) (meth : Method) (c : Code) (b : Nat) (ex : Nat → Nat) (d : Nat) : Prop :=
  ∀ (H : Heap) (locs : List Loc) (cells slots : Nat) (Q : State → Prop) (pc : Nat) (ls : Array Slot) (x : Int32) (t : List Value), decode c.code pc = .ok (.invokevirtual 117, 3) → s.vm.findClass RX14 = some m.cls → ls.size = c.maxLocals → 8 ≤ d → wt t ≤ 8 → va_S (Ab b) s.heap H locs → cells ≤ R.cells → slots ≤ R.slots →
    W p l e R s m args below meth c H locs cells slots Q (F0 m (pc + 3) ls (.int (ixOf x) :: t.map (up b ex))) → W p l e R s m args below meth c H locs cells slots Q (F0 m pc ls (.int x :: .ref (ex 3) :: t.map (up b ex)))
/-- the heap is no larger than what has been made -/
theorem W_sz {g : JFrame} (k : H.size ≤ s.heap.size + cells → W p l e R s m args below meth c H locs cells slots Q g) : W p l e R s m args below meth c H locs cells slots Q g := fun T hT X => k (by rw [← hT]; exact X.same.2.2.1) T hT X
theorem ws_low {H' : Heap} (h : va_P D mjC (wsO b ex cA M) H') (h0 : 0 < M.2.2.2.2.1) : b + M.2.2.2.2.1 + 1 ≤ H'.size := by
  have h1 := (h _ _ (wsO_at (b := b) (ex := ex) (cA := cA) (M := M) (a := M.2.2.2.2.1) (by omega) (Nat.le_refl _))).lt
  exact h1
set_option maxHeartbeats 8000000 in
set_option maxRecDepth 100000 in
theorem snC {i : Instr} {pc' : Nat} (hx : p.tables.exec = Jvm.exec) (hb : c.code = mB j) (hown : s.vm.findClass (oN (mO j)) = some m.cls) (hnm : meth.name = (mY j).name) (hts : ∀ w ∈ mjS, goodWord w = true → w.before args s = true) (hK : va_K D mjC (tyL cA) s) (hSt : StF b ex xs L s s.heap) (hix : IxS p l e R s m args below meth c b ex d) (hsz : ls.size = c.maxLocals)
    (hI : Inv M) (hP : va_P D mjC (wsO b ex cA M) H) (hz : H.size = b + M.2.2.2.2.1 + 1) (hh : s.heap.size + cells = b + M.2.2.2.2.1 + 1) (hS : va_S (Ab b) s.heap H locs) (hRf : d ≤ R.frames) (hRl : 41 * d ≤ R.locals) (hRc : cells + (M'.2.2.2.2.1 - M.2.2.2.2.1) ≤ R.cells) (hRs : slots + (M'.2.2.2.2.2 - M.2.2.2.2.2) ≤ R.slots)
    (hd : decode (mB j) pc = .ok (i, ln)) (hln : okL i ln = true) (h : xnC xs L d j pc i st M = some (pc', st', M'))
    (kk : ∀ (H' : Heap) (locs' : List Loc), va_P D mjC (wsO b ex cA M') H' → H'.size = b + M'.2.2.2.2.1 + 1 → va_S (Ab b) s.heap H' locs' → W p l e R s m args below meth c H' locs' (cells + (M'.2.2.2.2.1 - M.2.2.2.2.1)) (slots + (M'.2.2.2.2.2 - M.2.2.2.2.2)) Q (F0 m pc' ls (st'.map (up b ex)))) : W p l e R s m args below meth c H locs cells slots Q (F0 m pc ls (st.map (up b ex))) := by
  have same : M' = M → ∀ g : JFrame, (∀ (H' : Heap) (locs' : List Loc), va_P D mjC (wsO b ex cA M') H' → H'.size = b + M'.2.2.2.2.1 + 1 → va_S (Ab b) s.heap H' locs' → W p l e R s m args below meth c H' locs' (cells + (M'.2.2.2.2.1 - M.2.2.2.2.1)) (slots + (M'.2.2.2.2.2 - M.2.2.2.2.2)) Q g) → W p l e R s m args below meth c H locs cells slots Q g := by
    intro e g k
    subst e
    have k := k H locs hP hz hS
    rw [Nat.sub_self, Nat.sub_self] at k
    exact k
  have wr : M'.2.2.2.2 = M.2.2.2.2 → 0 < M.2.2.2.2.1 → ∀ g : JFrame, (∀ (H' : Heap) (locs' : List Loc), va_P D mjC (wsO b ex cA M') H' → H'.size = b + M'.2.2.2.2.1 + 1 → va_S (Ab b) s.heap H' locs' → W p l e R s m args below meth c H' locs' (cells + (M'.2.2.2.2.1 - M.2.2.2.2.1)) (slots + (M'.2.2.2.2.2 - M.2.2.2.2.2)) Q g) → ∀ (H' : Heap) (locs' : List Loc), va_P D mjC (wsO b ex cA M') H' → va_S (Ab b) s.heap H' locs' → W p l e R s m args below meth c H' locs' cells slots Q g := by
    intro e hpos g k H' locs' q1 q3
    refine W_sz fun q2 => ?_
    have hlow := ws_low q1 (by rw [e]; exact hpos)
    have k := k H' locs' q1 (by rw [e] at hlow ⊢; omega) q3
    rw [e, Nat.sub_self, Nat.sub_self] at k
    exact k
  cases i
  case getfield k =>
    cases okL_eq hln rfl
    simp only [xnC] at h
    split at h
    · rename_i a t
      split at h
      · rename_i ci hsh
        cases hf : fl (mO j) k ci with
        | none => rw [hf] at h; cases h
        | some f =>
          rw [hf] at h
          cases h
          exact sn_get hx hb hown hts hK hI hP hd hsh hf (same rfl _ kk)
      · cases h
    · cases h
  case putfield k =>
    cases okL_eq hln rfl
    simp only [xnC] at h
    split at h
    · rename_i v a t
      split at h
      · rename_i ci hsh
        split at h
        · rename_i f hf
          split at h
          · rename_i hok
            cases hpf : pf M ci a f v with
            | none => rw [hpf] at h; cases h
            | some M9 =>
              rw [hpf] at h
              cases h
              have hzz := (pf_at (b := b) (ex := ex) (cA := cA) hpf).2.2.1
              refine sn_put hx hb hown hnm hts hK hI hP hS hd hsh hf hok hpf hz (fun H' locs' q1 q3 => wr hzz (by have := fl_at hf; have := hI.in (a := a) (fun q => by rw [hsh] at q; cases q; exact absurd this.1 (by decide)); omega) _ kk H' locs' q1 q3)
          · cases h
        · cases h
      · cases h
    · cases h
  case iaload =>
    cases okL_eq hln rfl
    simp only [xnC] at h
    split at h
    · rename_i x a t
      split at h
      · rename_i n hsh
        split at h
        · rename_i hin
          cases h
          exact sn_iald hx hb hK hI hP hd hsh hin (same rfl _ kk)
        · cases h
      · cases h
    · rename_i x t
      split at h
      · rename_i hin
        cases h
        obtain ⟨-, -, -, -, -, f1, f2, f3⟩ := hSt
        exact va_sld hx hb f1 f3 (Nat.not_lt.mpr f2) hS (inb_in hin) hd (same rfl _ kk)
      · cases h
    · cases h
  case laload =>
    cases okL_eq hln rfl
    simp only [xnC] at h
    split at h
    · rename_i x a t
      split at h
      · rename_i n hsh
        split at h
        · rename_i hin
          cases h
          exact sn_lald hx hb hK hI hP hd hsh hin (same rfl _ kk)
        · cases h
      · cases h
    · rename_i x e9 t
      split at h
      · rename_i hin
        cases h
        obtain ⟨⟨a1, a2⟩, ⟨b1, b2⟩, -⟩ := hSt
        match e9, hin, kk with
        | 1, hin, kk => exact va_tl hx hb a2 hS (inb_in hin) rfl hd (same rfl _ kk)
        | 2, hin, kk => exact va_tl hx hb b2 hS (inb_in hin) rfl hd (same rfl _ kk)
        | 0, hin, _ => exact absurd (inb_in hin) (fun q => q (Or.inr (Nat.zero_le _)))
        | n + 3, hin, _ => exact absurd (inb_in hin) (fun q => q (Or.inr (Nat.zero_le _)))
      · cases h
    · cases h
  case baload =>
    cases okL_eq hln rfl
    simp only [xnC] at h
    split at h
    · rename_i x a t
      split at h
      · rename_i n hsh
        split at h
        · rename_i hin
          cases h
          exact sn_bald hx hb hK hI hP hd (Or.inl rfl) hsh hin (same rfl _ kk)
        · cases h
      · rename_i n hsh
        split at h
        · rename_i hin
          cases h
          exact sn_bald hx hb hK hI hP hd (Or.inr rfl) hsh hin (same rfl _ kk)
        · cases h
      · cases h
    · cases h
  case iastore =>
    cases okL_eq hln rfl
    simp only [xnC] at h
    split at h
    · rename_i v x a t
      split at h
      · rename_i n hsh
        split at h
        · rename_i hin
          cases h
          exact sn_iast hx hb hK hI hP hS hd hsh hin (fun H' locs' q1 q3 => wr rfl (by have := sn_arr hI hsh; omega) _ kk H' locs' q1 q3)
        · cases h
      · cases h
    · cases h
  case lastore =>
    cases okL_eq hln rfl
    simp only [xnC] at h
    split at h
    · rename_i v x a t
      split at h
      · rename_i n hsh
        split at h
        · rename_i hin
          cases h
          exact sn_last hx hb hK hI hP hS hd hsh hin (fun H' locs' q1 q3 => wr rfl (by have := sn_arr hI hsh; omega) _ kk H' locs' q1 q3)
        · cases h
      · cases h
    · cases h
  case bastore =>
    cases okL_eq hln rfl
    simp only [xnC] at h
    split at h
    · rename_i v x a t
      split at h
      · rename_i n hsh
        split at h
        · rename_i hin
          cases h
          exact sn_bast hx hb hK hI hP hS hd (Or.inl rfl) hsh hin (fun H' locs' q1 q3 => wr rfl (by have := sn_arr hI hsh; omega) _ kk H' locs' q1 q3)
        · cases h
      · rename_i n hsh
        split at h
        · rename_i hin
          cases h
          exact sn_bast hx hb hK hI hP hS hd (Or.inr rfl) hsh hin (fun H' locs' q1 q3 => wr rfl (by have := sn_arr hI hsh; omega) _ kk H' locs' q1 q3)
        · cases h
      · cases h
    · cases h
  case arraylength =>
    cases okL_eq hln rfl
    simp only [xnC] at h
    split at h
    · rename_i a t
      split at h
      · rename_i ty n hsh
        cases h
        exact sn_alen hx hb hK hI hP hd hsh (same rfl _ kk)
      · cases h
    · rename_i t
      cases h
      obtain ⟨-, -, -, -, -, f1, f2, f3⟩ := hSt
      exact va_slen hx hb f1 f3 (Nat.not_lt.mpr f2) hS hd (same rfl _ kk)
    · cases h
  case new k =>
    cases okL_eq hln rfl
    simp only [xnC] at h
    cases hn : nwl (mO j) k with
    | none => rw [hn] at h; cases h
    | some ci =>
      rw [hn] at h
      cases h
      have e1 : (newO M ci).2.2.2.2.1 - M.2.2.2.2.1 = 1 := by show M.2.2.2.2.1 + 1 - M.2.2.2.2.1 = 1; omega
      have e2 : (newO M ci).2.2.2.2.2 - M.2.2.2.2.2 = nF ci := by show M.2.2.2.2.2 + nF ci - M.2.2.2.2.2 = nF ci; omega
      rw [e1] at hRc kk
      rw [e2] at hRs kk
      exact sn_new hx hb hown hts hK hP hS hz hd hn hRc hRs (fun H' q1 q2 q3 => kk H' locs q1 (by rw [q2, hz]; rfl) q3)
  case newarray aty =>
    cases okL_eq hln rfl
    simp only [xnC] at h
    split at h
    · rename_i n t
      split at h
      · rename_i y hy
        split at h
        · rename_i hc
          cases h
          have e1 : (newA M y n.toNatClampNeg).2.2.2.2.1 - M.2.2.2.2.1 = 1 := by show M.2.2.2.2.1 + 1 - M.2.2.2.2.1 = 1; omega
          have e2 : (newA M y n.toNatClampNeg).2.2.2.2.2 - M.2.2.2.2.2 = n.toNatClampNeg := by show M.2.2.2.2.2 + n.toNatClampNeg - M.2.2.2.2.2 = _; omega
          rw [e1] at hRc kk
          rw [e2] at hRs kk
          exact sn_newa hx hb hts hK hP hS hz hd hy hc.1 hc.2 hRc hRs (fun H' q1 q2 q3 => kk H' locs q1 (by rw [q2, hz]; rfl) q3)
        · cases h
      · cases h
    · cases h
  case getstatic k =>
    cases okL_eq hln rfl
    simp only [xnC] at h
    cases hg : gsl (mO j) k with
    | none => rw [hg] at h; cases h
    | some e9 =>
      rw [hg] at h
      cases h
      obtain ⟨r, h1, h2, h3⟩ := tb_fd hg
      rw [mjG_ok] at h1
      rw [Bool.and_eq_true] at h2
      have o1 : r.1 = mO j := beq_iff_eq.mp h2.1
      have o2 : r.2.1 = k := beq_iff_eq.mp h2.2
      have o3 : r.2.2.1 = e9 := h3
      obtain ⟨⟨a1, a2⟩, ⟨b1, b2⟩, -⟩ := hSt
      rcases List.mem_cons.mp h1 with rfl | h1
      · subst o2
        subst o3
        exact va_gets hx hb a1 hS hown (by rw [← o1]; exact hts _ mjG_w.1 rfl) (fun _ q => q) hd (same rfl _ kk)
      · rcases List.mem_cons.mp h1 with rfl | h1
        · subst o2
          subst o3
          exact va_gets hx hb b1 hS hown (by rw [← o1]; exact hts _ mjG_w.2 rfl) (fun _ q => q) hd (same rfl _ kk)
        · cases h1
  case ldc k =>
    cases okL_eq hln rfl
    simp only [xnC] at h
    split at h
    · rename_i hc
      cases h
      obtain ⟨-, -, ⟨c1, -⟩, -⟩ := hSt
      rw [hc.1] at hown
      rw [hc.2] at hd
      exact va_ldcS hx hb hown c1 hd (same rfl _ kk)
    · cases h
  case invokespecial k =>
    cases okL_eq hln rfl
    simp only [xnC] at h
    split at h
    · rename_i hk
      split at h
      · rename_i a t
        split at h
        · rename_i hc
          cases h
          have hlo : mO j < 18 := by
            rcases Nat.lt_or_ge (mO j) 18 with q | q
            · exact q
            · exfalso
              have hq : oN (mO j) = "" := tb_gd (l := mjN) (d := "") q
              have := m_plain j
              rw [← m_own j, hq] at this
              have h2 := List.all_eq_true.mp (show mjT.all (fun r => decide (r.2.2.2.2.1 < 18)) = true by decide +kernel)
              have h3 : mO j < 18 := by
                show (mjr j).2.2.2.2.1 < 18
                unfold mjr
                by_cases hj : j < mjT.length
                · rw [List.getD_eq_getElem?_getD, List.getElem?_eq_getElem hj]
                  exact of_decide_eq_true (h2 _ (List.getElem_mem hj))
                · rw [tb_gd (by omega)]
                  decide
              omega
          have hw := List.all_eq_true.mp mjO_ok (mO j) (List.mem_range.mpr hlo)
          rw [hk.1, Bool.or_eq_true] at hw
          rcases hw with hw | hw
          · exact absurd (of_decide_eq_true hw) hk.2
          · have hmem : Cond.methodLink (oN (mO j)) k Lib.objectInit ∈ mjS := List.contains_iff_mem.mp hw
            rw [List.map_cons, up_ref hc.1]
            refine W.objInit hx hb hown (hts _ hmem rfl) (hts _ mjS_oi.1 rfl) (hts _ mjS_oi.2 rfl) rfl hsz rfl hd (Nat.le_trans hc.2.1 hRf) ?_ (same rfl _ kk)
            have h5 := up_wt b ex st'
            show 0 + ((st'.map (up b ex)).map fun v => v.category).sum + 12 ≤ R.locals
            rw [h5]
            have := hc.2.2
            have := hc.2.1
            omega
        · cases h
      · cases h
    · cases h
  case invokestatic k =>
    cases okL_eq hln rfl
    simp only [xnC] at h
    split at h
    · rename_i hk
      split at h
      · rename_i y x t
        split at h
        · rename_i hc
          cases h
          obtain ⟨r, h1, h2⟩ := List.any_eq_true.mp hk
          rw [Bool.and_eq_true] at h2
          have h4 := of_decide_eq_true (List.all_eq_true.mp mjMx_ok r h1)
          rw [beq_iff_eq.mp h2.1, beq_iff_eq.mp h2.2] at h4
          have h5 := up_wt b ex t
          exact va_mmax hx hb hsz.symm hown (hts _ (List.mem_of_getElem? h4) rfl) (hts _ mjS_mx.1 rfl) (hts _ mjS_mx.2.1 rfl) (hts _ mjS_mx.2.2 rfl) (Nat.le_trans hc.1 hRf) (by rw [h5]; have := hc.1; have := hc.2; omega) (by omega) (by omega) hd (same rfl _ kk)
        · cases h
      · cases h
    · cases h
  case invokevirtual k =>
    cases okL_eq hln rfl
    simp only [xnC] at h
    split at h
    · rename_i hk
      split at h
      · rename_i x t
        split at h
        · rename_i hc
          cases h
          rw [hk.2] at hd
          rw [hk.1] at hown
          exact hix H locs cells slots Q pc ls x t (by rw [hb]; exact hd) hown hsz hc.1 hc.2 hS (by omega) (by omega) (same rfl _ kk)
        · cases h
      · cases h
    · cases h
  all_goals exact (nomatch (show (none : Option (Nat × List Value × MH)) = some _ from h))
end SNE
end
section
/-! ===== the mini heap only grows ===== -/
def Gr (M M' : MH) : Prop := (Inv M → Inv M') ∧ M.2.2.2.2.1 ≤ M'.2.2.2.2.1 ∧ M.2.2.2.2.2 ≤ M'.2.2.2.2.2
theorem Gr.rf {M : MH} : Gr M M := ⟨fun h => h, Nat.le_refl _, Nat.le_refl _⟩
theorem Gr.tr {M M' M'' : MH} (h : Gr M M') (h' : Gr M' M'') : Gr M M'' := ⟨fun q => h'.1 (h.1 q), Nat.le_trans h.2.1 h'.2.1, Nat.le_trans h.2.2 h'.2.2⟩
theorem Gr.same {M M' : MH} (h1 : M'.1 = M.1) (h2 : M'.2.2.2.2 = M.2.2.2.2) : Gr M M' := by
  refine ⟨fun h => ?_, by rw [h2]; exact Nat.le_refl _, by rw [h2]; exact Nat.le_refl _⟩
  unfold Inv
  rw [h1, h2]
  exact h
theorem Gr.push {M : MH} {S : Shp} {I : Nat → Nat → Int32} {J : Nat → Nat → Int64} {R : Nat → Nat → Nat} {k : Nat} (hS : ∀ ty n, S = .inr (ty, n) → ty = .int ∨ ty = .long ∨ ty = .byte ∨ ty = .boolean) : Gr M (u1 M.1 (M.2.2.2.2.1 + 1) S, I, J, R, M.2.2.2.2.1 + 1, M.2.2.2.2.2 + k) := by
  refine ⟨fun h => ⟨fun a ha => ?_, fun a ty n ha => ?_⟩, Nat.le_succ _, Nat.le_add_right _ _⟩
  · have h1 : a ≠ M.2.2.2.2.1 + 1 := by
      rcases ha with ha | ha
      · omega
      · have : M.2.2.2.2.1 + 1 < a := ha
        omega
    show u1 M.1 (M.2.2.2.2.1 + 1) S a = .inl 99
    rw [u1_n _ _ h1]
    refine h.1 a ?_
    rcases ha with ha | ha
    · exact Or.inl ha
    · have : M.2.2.2.2.1 + 1 < a := ha
      exact Or.inr (by omega)
  · have ha : u1 M.1 (M.2.2.2.2.1 + 1) S a = .inr (ty, n) := ha
    by_cases h1 : a = M.2.2.2.2.1 + 1
    · rw [h1, u1_s] at ha
      exact hS ty n ha
    · rw [u1_n _ _ h1] at ha
      exact h.2 a ty n ha
theorem gr_pf {M M' : MH} {ci a f : Nat} {v : Value} (h : pf M ci a f v = some M') : Gr M M' := by
  obtain ⟨-, g2, g3, -⟩ := pf_at (b := 0) (ex := fun _ => 0) (cA := fun _ => 0) h
  exact Gr.same g2 g3
set_option maxHeartbeats 4000000 in
theorem gr_xnC {xs : Nat → Int32} {L d j pc : Nat} {i : Instr} {st st' : List Value} {M M' : MH} {pc' : Nat} (h : xnC xs L d j pc i st M = some (pc', st', M')) : Gr M M' := by
  have z : ∀ {a a' : Nat} {t t' : List Value} {X X' : MH}, some (a, t, X) = some (a', t', X') → X = M → Gr M X' := by
    intro a a' t t' X X' h1 h2
    cases h1
    rw [h2]
    exact Gr.rf
  cases i
  case getfield k =>
    simp only [xnC] at h
    split at h
    · split at h
      · rename_i ci hsh
        cases hf : fl (mO j) k ci with
        | none => rw [hf] at h; cases h
        | some f => rw [hf] at h; exact z h rfl
      · cases h
    · cases h
  case putfield k =>
    simp only [xnC] at h
    split at h
    · rename_i v a t
      split at h
      · rename_i ci hsh
        split at h
        · rename_i f hf
          split at h
          · cases hpf : pf M ci a f v with
            | none => rw [hpf] at h; cases h
            | some M9 => rw [hpf] at h; cases h; exact gr_pf hpf
          · cases h
        · cases h
      · cases h
    · cases h
  case new k =>
    simp only [xnC] at h
    cases hn : nwl (mO j) k with
    | none => rw [hn] at h; cases h
    | some ci =>
      rw [hn] at h
      cases h
      exact Gr.push (fun _ _ q => by cases q)
  case newarray aty =>
    simp only [xnC] at h
    split at h
    · rename_i n t
      split at h
      · rename_i y hy
        split at h
        · cases h
          refine Gr.push (fun ty n q => ?_)
          cases q
          cases aty <;> cases hy
          · exact Or.inr (Or.inr (Or.inr rfl))
          · exact Or.inr (Or.inr (Or.inl rfl))
          · exact Or.inl rfl
          · exact Or.inr (Or.inl rfl)
        · cases h
      · cases h
    · cases h
  case getstatic k =>
    simp only [xnC] at h
    cases hg : gsl (mO j) k with
    | none => rw [hg] at h; cases h
    | some e9 => rw [hg] at h; exact z h rfl
  case iastore =>
    simp only [xnC] at h
    split at h
    · split at h
      · split at h
        · cases h; exact Gr.same rfl rfl
        · cases h
      · cases h
    · cases h
  case lastore =>
    simp only [xnC] at h
    split at h
    · split at h
      · split at h
        · cases h; exact Gr.same rfl rfl
        · cases h
      · cases h
    · cases h
  case bastore =>
    simp only [xnC] at h
    split at h
    · split at h
      · split at h
        · cases h; exact Gr.same rfl rfl
        · cases h
      · split at h
        · cases h; exact Gr.same rfl rfl
        · cases h
      · cases h
    · cases h
  all_goals first
    | exact (nomatch (show (none : Option (Nat × List Value × MH)) = some _ from h))
    | (simp only [xnC] at h; (repeat' (split at h)) <;> (first | exact z h rfl | cases h))
theorem gr_xn {xs : Nat → Int32} {L d j pc ln : Nat} {i : Instr} {ls st : List Value} {M : MH} {r : Nat × List Value × List Value × MH} (h : xn xs L d j pc ln i ls st M = some r) : Gr M r.2.2.2 := by
  unfold xn at h
  split at h
  · cases h; exact Gr.rf
  · split at h
    · cases h; exact Gr.rf
    · cases hc : xnC xs L d j pc i st M with
      | none => rw [hc] at h; cases h
      | some q =>
        rw [hc] at h
        cases h
        obtain ⟨q1, q2, q3⟩ := q
        exact gr_xnC hc
theorem gr_xq {xs : Nat → Int32} {L : Nat} : ∀ (n d j pc : Nat) (ls st : List Value) (M : MH) (o : Option (Option Value)) (M' : MH), xq xs L n d j pc ls st M = some (o, M') → Gr M M' := by
  intro n
  induction n with
  | zero => intro d j pc ls st M o M' h; cases h
  | succ n ih =>
    intro d j pc ls st M o M' h
    unfold xq at h
    split at h
    · cases h
    · rename_i i ln hdec
      split at h
      · cases h
      · split at h
        · rename_i r hr
          exact (gr_xn hr).tr (ih _ _ _ _ _ _ _ _ h)
        · split at h
          · cases h; exact Gr.rf
          · split at h
            · rename_i r hr
              split at h
              · cases h
              · split at h
                · cases h
                · rename_i v M1 hq
                  exact (ih _ _ _ _ _ _ _ _ hq).tr (ih _ _ _ _ _ _ _ _ h)
                · rename_i M1 hq
                  split at h
                  · cases h
                  split at h
                  · exact (ih _ _ _ _ _ _ _ _ hq).tr (ih _ _ _ _ _ _ _ _ h)
                  · cases h
                    exact ih _ _ _ _ _ _ _ _ hq
            · split at h
              · cases h
                exact Gr.push (fun _ _ q => by cases q)
              · cases h
end
section
/-! ===== throwing and catching ===== -/
section MXT
variable {p : Program} {l : Launch} {e : Env} {R : Room} {s : State} {m : MethodId} {args : Array Value} {below : List Frame} {meth : Method} {c : Code} {H : Heap} {locs : List Loc} {cells slots : Nat} {Q : State → Prop}
variable {mc ms : Nat} {free : Addr → Prop} {A0 A1 : Nat → Prop} {H0 : Heap} {a : Array Value} {ls : Array Slot} {st0 rest : List Value}
variable {Qc : Array Value → State → Outcome → State → Prop} {XC : String → State → State → Prop}
/-- 'throw new E()': new; dup; invokespecial; athrow -/
theorem mx_throw0 {cc : ByteArray} {pc : Nat} (hexec : p.tables.exec = Jvm.exec) (hb : c.code = cc) (hl : l.stackTraces = false) {own cls : String} {names : List String} {ik ic mc ms : Nat} {A : Nat → Prop}
    (hown : s.vm.findClass own = some m.cls) (hcls : Bundle.fit cls = true) (hnames : ∀ n ∈ names, Bundle.fit n = true)
    (hk : (Cond.classLink own ik cls).before args s = true) (hini : (Cond.initialized cls).before args s = true) (hat : ∀ w ∈ vx_at0 own ic cls names, w.before args s = true)
    (hgood : ∀ w ∈ Cond.classLink own ik cls :: Cond.initialized cls :: vx_at0 own ic cls names, vx_ot w = true)
    (hU : vx_Zq Bundle.tN "UNASSIGNED_STACK" Bundle.steD A s s.heap) (hN : vx_Zq Bundle.tN "SUPPRESSED_SENTINEL" Bundle.listD A s s.heap) (hS : va_S A s.heap H locs) (hsize : ls.size = c.maxLocals)
    (d0 : decode cc pc = .ok (.new ik, 3)) (d3 : decode cc (pc + 3) = .ok (.dup, 1)) (d4 : decode cc (pc + 4) = .ok (.invokespecial ic, 3)) (d7 : decode cc (pc + 7) = .ok (.athrow, 1))
    (hout : ∀ x ∈ c.exceptionTable.toList, covers x (pc + 7) = false)
    (hRframes : names.length + 3 < R.frames) (hRlocals : (rest.map fun v => v.category).sum + (13 * (names.length + 1) + 42) ≤ R.locals) (hRcells : cells + 1 ≤ R.cells) (hRslots : slots + 6 ≤ R.slots) (hlocks : meth.locks = false)
    (hx : ∀ t : State, s.vm.Alike t.vm → t.heap.size = H.size + 1 → (∀ q : Nat, q < H.size → t.heap[q]? = H[q]?) → (∃ ce : Cell, t.heap[H.size]? = some ce ∧ ce.vm = .none ∧ s.vm.findClass cls = some ce.cls) → XC cls s t)
    (hf : ∀ z ∈ locs, free z.base) (hc : cells + 1 ≤ mc) (hs : slots + 6 ≤ ms) :
    W p l e R s m args below meth c H locs cells slots (vx_MQ below Qc XC args s mc ms free) (F0 m pc ls rest) := by
  intro T hT X
  have htr : e.platform.stackTraces = false := (show e.platform.stackTraces = l.stackTraces by rw [X.admits.platform]).trans hl
  have Y := vx_rebase X (R' := { frames := R.frames, locals := R.locals, cells := 1, slots := 6 }) (Nat.le_refl _) (Nat.le_refl _) hRcells hRslots
  obtain ⟨s', hA⟩ : ∃ z, z = (T.setVm s.vm).setFrames (.invoking m args :: below) := ⟨_, rfl⟩
  rw [← hA] at Y
  have hvm : s'.vm = s.vm := by rw [hA]; rfl
  have hhp : s'.heap = H := by rw [hA]; exact hT
  have hW0 : s.WarmedH s'.vm := by rw [hvm]; exact State.WarmedH.refl s
  have hat' : ∀ w ∈ vx_at0 own ic cls names, w.before args s' = true := fun w hw => vx_ot_at hW0 hvm.symm (hgood w (List.mem_cons_of_mem _ (List.mem_cons_of_mem _ hw))) (hat w hw)
  have hk' : (Cond.classLink own ik cls).before args s' = true := vx_ot_at hW0 hvm.symm (hgood _ List.mem_cons_self) hk
  have hini' : (Cond.initialized cls).before args s' = true := vx_ot_at hW0 hvm.symm (hgood _ (List.mem_cons_of_mem _ List.mem_cons_self)) hini
  have hU' : vx_Zq Bundle.tN "UNASSIGNED_STACK" Bundle.steD A s' s'.heap := by rw [hhp]; exact vx_Zq.moved hW0.alike (hU.kept hS.2.1)
  have hN' : vx_Zq Bundle.tN "SUPPRESSED_SENTINEL" Bundle.listD A s' s'.heap := by rw [hhp]; exact vx_Zq.moved hW0.alike (hN.kept hS.2.1)
  have h : ∀ w ∈ Bundle.ownAtoms0 own ic cls names, w.before args s' = true := vx_own hat' (vx_isRefq hU'.1) (vx_isRefq hN'.1) hU'.2.word hN'.2.word
  have hown' : s'.vm.findClass own = some m.cls := by rw [hvm]; exact hown
  have hins : (Cond.instantiable cls 6).before args s' = true := h _ (by simp [Bundle.ownAtoms0])
  obtain ⟨vm₁, cX, kX, hfX, hkX, -, -, X₁, st1⟩ := Y.newCold hexec (own := own) (C := cls) (index := ik) (n := 6) hown' hk' hins hini'
    (g := F0 m pc ls rest) rfl (by rw [hb]; exact d0) (Nat.le_refl _) (Nat.le_refl _)
  generalize hT1 : (T.setVm vm₁).pushCell { cls := cX, slots := kX.instanceTypes.map defaultValue, vm := .none } = T1 at X₁ st1
  have hcat : (Value.ref T.heap.size).category = 1 := rfl
  have hcellA : T1.heap[T.heap.size]? = some (freshCell cX kX) := by rw [← hT1]; exact State.heap_pushCell_size _ _
  have d3' : decode c.code (pc + 3) = .ok (.dup, 1) := by rw [hb]; exact d3
  obtain ⟨U, hsteps, hrun, hend, hW, hsame, ce, hce, hO⟩ := X₁.ctorThrow0 hexec htr (own := own) (cls := cls) (names := names) (ic := ic) hown' hcls hnames h (fun x hx => nomatch hx) hfX hkX hcellA (by rw [hhp, hT]; exact Nat.le_refl _)
    (g := { method := m, pc := pc + 4, locals := ls, stack := .ref T.heap.size :: .ref T.heap.size :: rest, locked := none }) rfl hsize rfl rfl (rest := rest) rfl
    (by rw [hb]; exact d4) (by rw [hb]; exact d7) hout hRframes (by simp only [List.map_cons, List.sum_cons, hcat]; omega) hlocks
  obtain ⟨f1, f2⟩ := vx_frame hsame
  rw [hhp] at f1 f2
  have hsz9 : U.heap.size = H.size + 1 := by
    have g1 : U.heap.size ≤ s'.heap.size + (0 + 1) := hsame.2.2.1
    rw [hhp] at g1
    have g2 : T.heap.size < U.heap.size := (Array.getElem?_eq_some_iff.mp hce).1
    rw [hT] at g2
    omega
  have hWs : s.WarmedH U.vm := State.WarmedH.trans hW0 hW
  have hcl : s.vm.findClass cls = some ce.cls := by
    have h9 := hO.cls
    rw [hvm] at h9
    exact h9
  have hall : s.sameButNew ({ U with vm := s.vm } : State) locs mc ms := by
    subst hA
    obtain ⟨e1, e2⟩ := hsame
    rw [State.setFrames_setFrames] at e1
    have h2 : (T.setVm s.vm).sameButNew ({ U with vm := s.vm } : State) [] (0 + 1) (0 + 6) := ⟨e1, e2⟩
    have h3 := X.same.trans h2
    rw [List.append_nil] at h3
    exact h3.mono hc hs
  refine ⟨U, ?_, .threw T.heap.size, hrun, hend, Or.inr ⟨T.heap.size, rfl, cls, ce, locs, hx U hWs.alike hsz9 (fun q hq => f2 q hq (fun z hz => nomatch hz)) ⟨ce, by rw [← hT]; exact hce, hO.vm, hcl⟩, hce, hO.vm, hcl, hWs, hall, hf⟩⟩
  refine st1 _ ?_
  show Steps p.tables e below (T1.setTop { method := m, pc := pc + 3, locals := ls, stack := .ref T.heap.size :: rest, locked := none }) _
  jvm_step X₁.here [X₁.here.top, hexec, d3', Value.category]
  exact hsteps

/-- the search for a handler in a table of one row, which takes the thrown thing's class -/
theorem mx_find {s : State} {f : JFrame} {q : Addr} {meth : Method} {code : Code} {x : ExceptionTableEntry} {cl : ClassId} {cell : Cell} (hm : s.vm.method? f.method = some meth) (hc : meth.code = some code) (hone : code.exceptionTable.toList = [x])
    (hx : covers x f.pc = true) (h0 : x.catchType ≠ 0) (hl : s.vm.ClassLinks e.platform f.method.cls x.catchType cl) (hcell : s.heap[q]? = some cell) (hobj : ∀ k, cell.vm ≠ .statics k) (hk : ∃ k, s.vm.classes[cell.cls]? = some k) (hkc : ∃ k, s.vm.classes[cl]? = some k) (hfit : s.vm.assignable cell.cls cl = true)
    (Z : Handler → Pre) (E : CtlPost) (d : Bool) (acts : List Action) : wp (findHandler f q) Z E e d acts s ↔ Z (.found x.handlerPc) d acts (s.setVm (s.vm.noted f.method.cls x.catchType (.cls cl))) := by
  rw [Jvm.W.findHandler_eq hm hc, hone]
  simp only [covers] at hx
  obtain ⟨ha, ht⟩ := (resolveClass_links e.toSetting hl).op (op := VmOp.resolveClass f.method.cls x.catchType) rfl
  have hal : s.vm.Alike (s.vm.noted f.method.cls x.catchType (.cls cl)) := (Vm.Alike.refl s.vm).noted _ _ _
  obtain ⟨k1, hk1⟩ := hk
  obtain ⟨k2, hk2⟩ := hkc
  obtain ⟨k1', hk1', -⟩ := hal.2.2 _ _ hk1
  obtain ⟨k2', hk2', -⟩ := hal.2.2 _ _ hk2
  have hfit' : (s.vm.noted f.method.cls x.catchType (.cls cl)).assignable cell.cls cl = true := by rw [hal.assignable]; exact hfit
  simp [findHandler.go, hx, h0, ha, ht, hcell, hobj, hk1', hk2', hfit', VmOp.dirties, VmOp.acts]
theorem mx_step {s target : State} {g : JFrame} {code : Code} {q : Addr} {pc : Nat} {vm' : Vm} {tb : Tables} (h : At s g.method code below)
    (hf : ∀ (Z : Handler → Pre) (E : CtlPost) (d : Bool) (acts : List Action), wp (findHandler g q) Z E e d acts ((s.setTop g).pushFrame (.throwing q)) ↔ Z (.found pc) d acts (((s.setTop g).pushFrame (.throwing q)).setVm vm'))
    (hrest : Steps tb e below ((s.setVm vm').setTop { g with pc := pc, stack := [.ref q] }) target) : Steps tb e below ((s.setTop g).pushFrame (.throwing q)) target := by
  obtain ⟨hgo, hw⟩ := h.throwing q
  refine Steps.head hgo hw ?_
  have key : ∀ r : List Frame, (stepThrowing e ((s.setTop g).pushFrame (.throwing q)) q (.java g :: r)).Is ((((s.setTop g).pushFrame (.throwing q)).setVm vm').setFrames (.java { g with pc := pc, stack := [.ref q] } :: r)) [] := by
    intro r
    simp only [stepThrowing, searchFrame, vmDo]
    generalize hr : Sem.go _ e false [] ((s.setTop g).pushFrame (.throwing q)) = res
    obtain ⟨as, rfl, ha⟩ := Sem.eq_ok_of hr (a := Handler.found pc) (s' := ((s.setTop g).pushFrame (.throwing q)).setVm vm') (acts' := []) (by simp [hf _ _ _ _])
    exact ⟨rfl, ha⟩
  rw [stepThread_throwing (frames_entered h.top _), (key _).1]
  obtain ⟨g₀, hg⟩ := Option.isSome_iff_exists.mp h.top
  obtain ⟨r, hr⟩ := State.topJava?_eq_some.mp hg
  have hr' : (s.setVm vm').frames = .java g₀ :: r := hr
  have sf : ∀ (u : State) (F G : List Frame), ((u.setFrames F).setVm vm').setFrames G = (u.setVm vm').setFrames G := by
    intro u F G
    have h1 : (u.setFrames F).setVm vm' = (u.setVm vm').setFrames F := rfl
    rw [h1, State.setFrames_setFrames]
  rw [State.setTop_of_frames _ hr'] at hrest
  rw [hr, List.tail_cons, State.pushFrame, sf, State.setTop_of_frames _ hr, sf]
  exact hrest
theorem mx_catch {own name E : String} {ce : Cell} {q : Addr} {pc : Nat} (hown : s.vm.findClass own = some m.cls) (x : ExceptionTableEntry) (hone : c.exceptionTable.toList = [x]) (hx : covers x pc = true) (h0 : x.catchType ≠ 0)
    (hlink : (Cond.classLink own x.catchType name).before args s = true) (hcast : (Cond.castable E name).before args s = true) (hcell : H[q]? = some ce) (hv : ce.vm = .none) (hcl : s.vm.findClass E = some ce.cls)
    (kk : W p l e R s m args below meth c H locs cells slots Q (F0 m x.handlerPc ls [.ref q])) : vx_W p l e R s m args below meth c H locs cells slots Q (F0 m pc ls rest) q := by
  intro T hT X
  have hpl : e.platform.magicAccessors = ({} : Platform).magicAccessors := by rw [X.admits.platform]
  obtain ⟨c3, c4, hc3, hc4, hasg⟩ := Cond.castable_spec hcast
  cases Option.some.inj (hc3.symm.trans hcl)
  obtain ⟨c5, hc5, hcl5⟩ := Cond.classLink_spec hown hlink e.platform hpl
  cases Option.some.inj (hc4.symm.trans hc5)
  obtain ⟨dk, _, _, kt, hd, _, _, _, _, hkt, _, hopen⟩ := hcl5.here
  have hcl₀ := X.warmed.classLinks hcl5
  have hW' : s.WarmedH (T.vm.noted m.cls x.catchType (.cls c4)) := X.warmed.noted hd hopen (State.rightAt_cls hcl5)
  have hal := X.warmed.alike
  obtain ⟨kt', hkt', -⟩ := hal.2.2 _ _ hkt
  have hfit' : T.vm.assignable ce.cls c4 = true := by rw [hal.assignable]; exact hasg
  obtain ⟨t, a1, b1⟩ := kk (T.setVm (T.vm.noted m.cls x.catchType (.cls c4))) hT (X.noted hW')
  refine ⟨t, ?_, b1⟩
  exact mx_step (g := F0 m pc ls rest) X.here (mx_find (s := (T.setTop (F0 m pc ls rest)).pushFrame (.throwing q)) (f := F0 m pc ls rest) (meth := meth) (code := c) X.method' X.code hone hx h0 hcl₀ (by rw [← hT] at hcell; exact hcell) (fun k h => by rw [hv] at h; cases h)
    (Vm.classAt_of_assignable hfit' ⟨kt', hkt'⟩) ⟨kt', hkt'⟩ hfit') a1
end MXT
end
section
/-! ===== every method's code is among the words ===== -/
def mCo (j : Nat) : Cond := if mHH j = [] then .code (mY j) (mB j) (mL j) (mR j) else .codeWith (mY j) (mB j) (mL j) (mR j) (mHH j)
theorem mCo_good (j : Nat) : goodWord (mCo j) = true := by
  unfold mCo
  split <;> rfl
set_option maxRecDepth 100000 in
theorem mco_0 : mCo 0 ∈ mjS := (show mCo 0 = .code yX0_init cX0_init 1 none from rfl) ▸ (List.mem_of_getElem? (i := 216) rfl)
set_option maxRecDepth 100000 in
theorem mco_1 : mCo 1 ∈ mjS := (show mCo 1 = .code yX0_run cX0_run 4 none from rfl) ▸ (List.mem_of_getElem? (i := 736) rfl)
set_option maxRecDepth 100000 in
theorem mco_2 : mCo 2 ∈ mjS := (show mCo 2 = .code yX0_clauseRow cX0_clauseRow 2 (some .int) from rfl) ▸ (List.mem_of_getElem? (i := 758) rfl)
set_option maxRecDepth 100000 in
theorem mco_3 : mCo 3 ∈ mjS := (show mCo 3 = .code yX0_row cX0_row 2 (some .int) from rfl) ▸ (List.mem_of_getElem? (i := 791) rfl)
set_option maxRecDepth 100000 in
theorem mco_4 : mCo 4 ∈ mjS := (show mCo 4 = .code yX0_lanesWith cX0_lanesWith 2 (some .long) from rfl) ▸ (List.mem_of_getElem? (i := 749) rfl)
set_option maxRecDepth 100000 in
theorem mco_5 : mCo 5 ∈ mjS := (show mCo 5 = .code yX0_bitOf cX0_bitOf 2 (some .int) from rfl) ▸ (List.mem_of_getElem? (i := 746) rfl)
set_option maxRecDepth 100000 in
theorem mco_6 : mCo 6 ∈ mjS := (show mCo 6 = .code yX0_setVariables cX0_setVariables 3 none from rfl) ▸ (List.mem_of_getElem? (i := 742) rfl)
set_option maxRecDepth 100000 in
theorem mco_7 : mCo 7 ∈ mjS := (show mCo 7 = .code yX0_workOutClauses cX0_workOutClauses 7 none from rfl) ▸ (List.mem_of_getElem? (i := 755) rfl)
set_option maxRecDepth 100000 in
theorem mco_8 : mCo 8 ∈ mjS := (show mCo 8 = .code yX0_layGivens cX0_layGivens 9 none from rfl) ▸ (List.mem_of_getElem? (i := 788) rfl)
set_option maxRecDepth 100000 in
theorem mco_9 : mCo 9 ∈ mjS := (show mCo 9 = .code yX0_follow cX0_follow 8 none from rfl) ▸ (List.mem_of_getElem? (i := 795) rfl)
set_option maxRecDepth 100000 in
theorem mco_10 : mCo 10 ∈ mjS := (show mCo 10 = .code yX0_joinOwn cX0_joinOwn 7 none from rfl) ▸ (List.mem_of_getElem? (i := 799) rfl)
set_option maxRecDepth 100000 in
theorem mco_11 : mCo 11 ∈ mjS := (show mCo 11 = .code yX0_compare cX0_compare 6 none from rfl) ▸ (List.mem_of_getElem? (i := 807) rfl)
set_option maxRecDepth 100000 in
theorem mco_12 : mCo 12 ∈ mjS := (show mCo 12 = .code yX0_wrongLanes cX0_wrongLanes 9 (some .long) from rfl) ▸ (List.mem_of_getElem? (i := 811) rfl)
set_option maxRecDepth 100000 in
theorem mco_13 : mCo 13 ∈ mjS := (show mCo 13 = .code yX0_hasAssignment cX0_hasAssignment 2 (some .boolean) from rfl) ▸ (List.mem_of_getElem? (i := 851) rfl)
set_option maxRecDepth 100000 in
theorem mco_14 : mCo 14 ∈ mjS := (show mCo 14 = .code yX0_howManyFail cX0_howManyFail 1 (some .int) from rfl) ▸ (List.mem_of_getElem? (i := 819) rfl)
set_option maxRecDepth 100000 in
theorem mco_15 : mCo 15 ∈ mjS := (show mCo 15 = .code yX0_howManyAreOut cX0_howManyAreOut 1 (some .int) from rfl) ▸ (List.mem_of_getElem? (i := 832) rfl)
set_option maxRecDepth 100000 in
theorem mco_16 : mCo 16 ∈ mjS := (show mCo 16 = .code yX0_lanesIn cX0_lanesIn 4 (some .int) from rfl) ▸ (List.mem_of_getElem? (i := 823) rfl)
set_option maxRecDepth 100000 in
theorem mco_17 : mCo 17 ∈ mjS := (show mCo 17 = .code yX0_failingByRank cX0_failingByRank 5 (some .int) from rfl) ▸ (List.mem_of_getElem? (i := 840) rfl)
set_option maxRecDepth 100000 in
theorem mco_18 : mCo 18 ∈ mjS := (show mCo 18 = .code yX0_laneByRank cX0_laneByRank 6 (some .int) from rfl) ▸ (List.mem_of_getElem? (i := 843) rfl)
set_option maxRecDepth 100000 in
theorem mco_19 : mCo 19 ∈ mjS := (show mCo 19 = .code yX0_isIn cX0_isIn 3 (some .boolean) from rfl) ▸ (List.mem_of_getElem? (i := 858) rfl)
set_option maxRecDepth 100000 in
theorem mco_20 : mCo 20 ∈ mjS := (show mCo 20 = .code yX0_firstWrongClause cX0_firstWrongClause 4 (some .int) from rfl) ▸ (List.mem_of_getElem? (i := 855) rfl)
set_option maxRecDepth 100000 in
theorem mco_21 : mCo 21 ∈ mjS := (show mCo 21 = .code yX0_firstWrongTime cX0_firstWrongTime 3 (some .int) from rfl) ▸ (List.mem_of_getElem? (i := 866) rfl)
set_option maxRecDepth 100000 in
theorem mco_22 : mCo 22 ∈ mjS := (show mCo 22 = .code yX0_wrongTime cX0_wrongTime 4 (some .int) from rfl) ▸ (List.mem_of_getElem? (i := 862) rfl)
set_option maxRecDepth 100000 in
theorem mco_23 : mCo 23 ∈ mjS := (show mCo 23 = .code yX0_valueOf cX0_valueOf 6 (some .int) from rfl) ▸ (List.mem_of_getElem? (i := 883) rfl)
set_option maxRecDepth 100000 in
theorem mco_24 : mCo 24 ∈ mjS := (show mCo 24 = .code yX0_everMatters cX0_everMatters 5 (some .boolean) from rfl) ▸ (List.mem_of_getElem? (i := 891) rfl)
set_option maxRecDepth 100000 in
theorem mco_25 : mCo 25 ∈ mjS := (show mCo 25 = .code yX0_changedLanes cX0_changedLanes 12 (some .long) from rfl) ▸ (List.mem_of_getElem? (i := 895) rfl)
set_option maxRecDepth 100000 in
theorem mco_26 : mCo 26 ∈ mjS := (show mCo 26 = .code yX1_init cX1_init 1 none from rfl) ▸ (List.mem_of_getElem? (i := 281) rfl)
set_option maxRecDepth 100000 in
theorem mco_27 : mCo 27 ∈ mjS := (show mCo 27 = .code yX1_hasNode cX1_hasNode 2 (some .boolean) from rfl) ▸ (List.mem_of_getElem? (i := 879) rfl)
set_option maxRecDepth 100000 in
theorem mco_28 : mCo 28 ∈ mjS := (show mCo 28 = .code yX1_find cX1_find 4 (some .int) from rfl) ▸ (List.mem_of_getElem? (i := 549) rfl)
set_option maxRecDepth 100000 in
theorem mco_29 : mCo 29 ∈ mjS := (show mCo 29 = .code yX1_howMany cX1_howMany 4 (some .int) from rfl) ▸ (List.mem_of_getElem? (i := 908) rfl)
set_option maxRecDepth 100000 in
theorem mco_30 : mCo 30 ∈ mjS := (show mCo 30 = .code yX1_declare cX1_declare 4 (some .boolean) from rfl) ▸ (List.mem_of_getElem? (i := 545) rfl)
set_option maxRecDepth 100000 in
theorem mco_31 : mCo 31 ∈ mjS := (show mCo 31 = .code yX1_link cX1_link 4 none from rfl) ▸ (List.mem_of_getElem? (i := 648) rfl)
set_option maxRecDepth 100000 in
theorem mco_32 : mCo 32 ∈ mjS := (show mCo 32 = .code yX1_leavesOf cX1_leavesOf 5 (some .long) from rfl) ▸ (List.mem_of_getElem? (i := 652) rfl)
set_option maxRecDepth 100000 in
theorem mco_33 : mCo 33 ∈ mjS := (show mCo 33 = .code yX1_close cX1_close 4 none from rfl) ▸ (List.mem_of_getElem? (i := 657) rfl)
set_option maxRecDepth 100000 in
theorem mco_34 : mCo 34 ∈ mjS := (show mCo 34 = .code yX1_firstLoop cX1_firstLoop 2 (some .int) from rfl) ▸ (List.mem_of_getElem? (i := 675) rfl)
set_option maxRecDepth 100000 in
theorem mco_35 : mCo 35 ∈ mjS := (show mCo 35 = .code yX1_putInOrder cX1_putInOrder 4 none from rfl) ▸ (List.mem_of_getElem? (i := 661) rfl)
set_option maxRecDepth 100000 in
theorem mco_36 : mCo 36 ∈ mjS := (show mCo 36 = .code yX1_rankOf cX1_rankOf 2 (some .int) from rfl) ▸ (List.mem_of_getElem? (i := 665) rfl)
set_option maxRecDepth 100000 in
theorem mco_37 : mCo 37 ∈ mjS := (show mCo 37 = .code yX2_init cX2_init 2 none from rfl) ▸ (List.mem_of_getElem? (i := 155) rfl)
set_option maxRecDepth 100000 in
theorem mco_38 : mCo 38 ∈ mjS := (show mCo 38 = .code yX2_read cX2_read 4 (some .int) from rfl) ▸ (List.mem_of_getElem? (i := 453) rfl)
set_option maxRecDepth 100000 in
theorem mco_39 : mCo 39 ∈ mjS := (show mCo 39 = .code yX2_takeItem cX2_takeItem 1 (some .boolean) from rfl) ▸ (List.mem_of_getElem? (i := 516) rfl)
set_option maxRecDepth 100000 in
theorem mco_40 : mCo 40 ∈ mjS := (show mCo 40 = .code yX2_takeInputs cX2_takeInputs 3 (some .boolean) from rfl) ▸ (List.mem_of_getElem? (i := 536) rfl)
set_option maxRecDepth 100000 in
theorem mco_41 : mCo 41 ∈ mjS := (show mCo 41 = .code yX2_takeMade cX2_takeMade 3 (some .boolean) from rfl) ▸ (List.mem_of_getElem? (i := 565) rfl)
set_option maxRecDepth 100000 in
theorem mco_42 : mCo 42 ∈ mjS := (show mCo 42 = .code yX2_takeDeclared cX2_takeDeclared 2 (some .boolean) from rfl) ▸ (List.mem_of_getElem? (i := 540) rfl)
set_option maxRecDepth 100000 in
theorem mco_43 : mCo 43 ∈ mjS := (show mCo 43 = .code yX2_takeLeaf cX2_takeLeaf 1 (some .boolean) from rfl) ▸ (List.mem_of_getElem? (i := 589) rfl)
set_option maxRecDepth 100000 in
theorem mco_44 : mCo 44 ∈ mjS := (show mCo 44 = .code yX2_putNodesForNames cX2_putNodesForNames 4 (some .int) from rfl) ▸ (List.mem_of_getElem? (i := 627) rfl)
set_option maxRecDepth 100000 in
theorem mco_45 : mCo 45 ∈ mjS := (show mCo 45 = .code yX3_init cX3_init 1 none from rfl) ▸ (List.mem_of_getElem? (i := 343) rfl)
set_option maxRecDepth 100000 in
theorem mco_46 : mCo 46 ∈ mjS := (show mCo 46 = .code yX3_clear cX3_clear 1 none from rfl) ▸ (List.mem_of_getElem? (i := 687) rfl)
set_option maxRecDepth 100000 in
theorem mco_47 : mCo 47 ∈ mjS := (show mCo 47 = .code yX3_variable cX3_variable 4 (some .int) from rfl) ▸ (List.mem_of_getElem? (i := 606) rfl)
set_option maxRecDepth 100000 in
theorem mco_48 : mCo 48 ∈ mjS := (show mCo 48 = .code yX3_setTimes cX3_setTimes 4 none from rfl) ▸ (List.mem_of_getElem? (i := 717) rfl)
set_option maxRecDepth 100000 in
theorem mco_49 : mCo 49 ∈ mjS := (show mCo 49 = .code yX4_init cX4_init 2 none from rfl) ▸ (List.mem_of_getElem? (i := 197) rfl)
set_option maxRecDepth 100000 in
theorem mco_50 : mCo 50 ∈ mjS := (show mCo 50 = .code yX4_read cX4_read 4 (some .int) from rfl) ▸ (List.mem_of_getElem? (i := 683) rfl)
set_option maxRecDepth 100000 in
theorem mco_51 : mCo 51 ∈ mjS := (show mCo 51 = .code yX4_takeClauses cX4_takeClauses 2 (some .boolean) from rfl) ▸ (List.mem_of_getElem? (i := 698) rfl)
set_option maxRecDepth 100000 in
theorem mco_52 : mCo 52 ∈ mjS := (show mCo 52 = .code yX4_takeClause cX4_takeClause 3 (some .boolean) from rfl) ▸ (List.mem_of_getElem? (i := 702) rfl)
set_option maxRecDepth 100000 in
theorem mco_53 : mCo 53 ∈ mjS := (show mCo 53 = .code yX4_takeTimes cX4_takeTimes 4 (some .boolean) from rfl) ▸ (List.mem_of_getElem? (i := 712) rfl)
set_option maxRecDepth 100000 in
theorem mco_54 : mCo 54 ∈ mjS := (show mCo 54 = .code yX4_takeTime cX4_takeTime 3 (some .int) from rfl) ▸ (List.mem_of_getElem? (i := 722) rfl)
set_option maxRecDepth 100000 in
theorem mco_55 : mCo 55 ∈ mjS := (show mCo 55 = .code yX4_takeLeaf cX4_takeLeaf 2 (some .boolean) from rfl) ▸ (List.mem_of_getElem? (i := 600) rfl)
set_option maxRecDepth 100000 in
theorem mco_56 : mCo 56 ∈ mjS := (show mCo 56 = .code yX5_init cX5_init 1 none from rfl) ▸ (List.mem_of_getElem? (i := 287) rfl)
set_option maxRecDepth 100000 in
theorem mco_57 : mCo 57 ∈ mjS := (show mCo 57 = .code yX5_add cX5_add 2 none from rfl) ▸ (List.mem_of_getElem? (i := 597) rfl)
set_option maxRecDepth 100000 in
theorem mco_58 : mCo 58 ∈ mjS := (show mCo 58 = .code yX5_at cX5_at 2 (some .int) from rfl) ▸ (List.mem_of_getElem? (i := 631) rfl)
set_option maxRecDepth 100000 in
theorem mco_59 : mCo 59 ∈ mjS := (show mCo 59 = .code yX5_set cX5_set 3 none from rfl) ▸ (List.mem_of_getElem? (i := 644) rfl)
set_option maxRecDepth 100000 in
theorem mco_60 : mCo 60 ∈ mjS := (show mCo 60 = .code yX6_init cX6_init 2 none from rfl) ▸ (List.mem_of_getElem? (i := 158) rfl)
set_option maxRecDepth 100000 in
theorem mco_61 : mCo 61 ∈ mjS := (show mCo 61 = .code yX6_begin cX6_begin 2 none from rfl) ▸ (List.mem_of_getElem? (i := 459) rfl)
set_option maxRecDepth 100000 in
theorem mco_62 : mCo 62 ∈ mjS := (show mCo 62 = .code yX6_takeSign cX6_takeSign 2 (some .boolean) from rfl) ▸ (List.mem_of_getElem? (i := 560) rfl)
set_option maxRecDepth 100000 in
theorem mco_63 : mCo 63 ∈ mjS := (show mCo 63 = .code yX6_takeWord cX6_takeWord 3 (some .boolean) from rfl) ▸ (List.mem_of_getElem? (i := 523) rfl)
set_option maxRecDepth 100000 in
theorem mco_64 : mCo 64 ∈ mjS := (show mCo 64 = .code yX6_takeFormula cX6_takeFormula 3 (some .boolean) from rfl) ▸ (List.mem_of_getElem? (i := 571) rfl)
set_option maxRecDepth 100000 in
theorem mco_65 : mCo 65 ∈ mjS := (show mCo 65 = .code yX6_takeOpeners cX6_takeOpeners 3 (some .boolean) from rfl) ▸ (List.mem_of_getElem? (i := 575) rfl)
set_option maxRecDepth 100000 in
theorem mco_66 : mCo 66 ∈ mjS := (show mCo 66 = .code yX6_takeClosers cX6_takeClosers 2 none from rfl) ▸ (List.mem_of_getElem? (i := 615) rfl)
set_option maxRecDepth 100000 in
theorem mco_67 : mCo 67 ∈ mjS := (show mCo 67 = .code yX6_letWait cX6_letWait 2 none from rfl) ▸ (List.mem_of_getElem? (i := 579) rfl)
set_option maxRecDepth 100000 in
theorem mco_68 : mCo 68 ∈ mjS := (show mCo 68 = .code yX6_setFree cX6_setFree 2 none from rfl) ▸ (List.mem_of_getElem? (i := 619) rfl)
set_option maxRecDepth 100000 in
theorem mco_69 : mCo 69 ∈ mjS := (show mCo 69 = .code yX6_strengthOf cX6_strengthOf 1 (some .int) from rfl) ▸ (List.mem_of_getElem? (i := 622) rfl)
set_option maxRecDepth 100000 in
theorem mco_70 : mCo 70 ∈ mjS := (show mCo 70 = .code yX6_takeAtom cX6_takeAtom 1 (some .boolean) from rfl) ▸ (List.mem_of_getElem? (i := 583) rfl)
set_option maxRecDepth 100000 in
theorem mco_71 : mCo 71 ∈ mjS := (show mCo 71 = .code yX7_init cX7_init 1 none from rfl) ▸ (List.mem_of_getElem? (i := 222) rfl)
set_option maxRecDepth 100000 in
theorem mco_72 : mCo 72 ∈ mjS := (show mCo 72 = .code yX7_run cX7_run 9 none from rfl) ▸ (List.mem_of_getElem? (i := 762) rfl)
set_option maxRecDepth 100000 in
theorem mco_73 : mCo 73 ∈ mjS := (show mCo 73 = .code yX7_ones cX7_ones 1 (some .long) from rfl) ▸ (List.mem_of_getElem? (i := 784) rfl)
set_option maxRecDepth 100000 in
theorem mco_74 : mCo 74 ∈ mjS := (show mCo 74 = .code yX7_zeros cX7_zeros 1 (some .long) from rfl) ▸ (List.mem_of_getElem? (i := 803) rfl)
set_option maxRecDepth 100000 in
theorem mco_75 : mCo 75 ∈ mjS := (show mCo 75 = .code yX7_push cX7_push 5 none from rfl) ▸ (List.mem_of_getElem? (i := 767) rfl)
set_option maxRecDepth 100000 in
theorem mco_76 : mCo 76 ∈ mjS := (show mCo 76 = .code yX7_apply cX7_apply 2 none from rfl) ▸ (List.mem_of_getElem? (i := 771) rfl)
set_option maxRecDepth 100000 in
theorem mco_77 : mCo 77 ∈ mjS := (show mCo 77 = .code yX7_invert cX7_invert 3 none from rfl) ▸ (List.mem_of_getElem? (i := 776) rfl)
set_option maxRecDepth 100000 in
theorem mco_78 : mCo 78 ∈ mjS := (show mCo 78 = .code yX7_join cX7_join 10 none from rfl) ▸ (List.mem_of_getElem? (i := 780) rfl)
set_option maxRecDepth 100000 in
theorem mco_79 : mCo 79 ∈ mjS := (show mCo 79 = .code yX8_init cX8_init 1 none from rfl) ▸ (List.mem_of_getElem? (i := 112) rfl)
set_option maxRecDepth 100000 in
theorem mco_80 : mCo 80 ∈ mjS := (show mCo 80 = .code yX8_put cX8_put 3 none from rfl) ▸ (List.mem_of_getElem? (i := 441) rfl)
set_option maxRecDepth 100000 in
theorem mco_81 : mCo 81 ∈ mjS := (show mCo 81 = .code yX8_byteAt cX8_byteAt 2 (some .int) from rfl) ▸ (List.mem_of_getElem? (i := 467) rfl)
set_option maxRecDepth 100000 in
theorem mco_82 : mCo 82 ∈ mjS := (show mCo 82 = .code yX9_init cX9_init 2 none from rfl) ▸ (List.mem_of_getElem? (i := 128) rfl)
set_option maxRecDepth 100000 in
theorem mco_83 : mCo 83 ∈ mjS := (show mCo 83 = .code yX9_scan cX9_scan 3 none from rfl) ▸ (List.mem_of_getElem? (i := 463) rfl)
set_option maxRecDepth 100000 in
theorem mco_84 : mCo 84 ∈ mjS := (show mCo 84 = .code yX9_addToken cX9_addToken 7 (some .int) from rfl) ▸ (List.mem_of_getElem? (i := 483) rfl)
set_option maxRecDepth 100000 in
theorem mco_85 : mCo 85 ∈ mjS := (show mCo 85 = .code yX9_stopOf cX9_stopOf 4 (some .int) from rfl) ▸ (List.mem_of_getElem? (i := 487) rfl)
set_option maxRecDepth 100000 in
theorem mco_86 : mCo 86 ∈ mjS := (show mCo 86 = .code yX9_goesOn cX9_goesOn 2 (some .boolean) from rfl) ▸ (List.mem_of_getElem? (i := 490) rfl)
set_option maxRecDepth 100000 in
theorem mco_87 : mCo 87 ∈ mjS := (show mCo 87 = .code yX9_kindOf cX9_kindOf 1 (some .int) from rfl) ▸ (List.mem_of_getElem? (i := 470) rfl)
set_option maxRecDepth 100000 in
theorem mco_88 : mCo 88 ∈ mjS := (show mCo 88 = .code yX9_longest cX9_longest 1 (some .int) from rfl) ▸ (List.mem_of_getElem? (i := 493) rfl)
set_option maxRecDepth 100000 in
theorem mco_89 : mCo 89 ∈ mjS := (show mCo 89 = .code yX9_isReserved cX9_isReserved 2 (some .boolean) from rfl) ▸ (List.mem_of_getElem? (i := 496) rfl)
set_option maxRecDepth 100000 in
theorem mco_90 : mCo 90 ∈ mjS := (show mCo 90 = .code yX9_isSmall cX9_isSmall 1 (some .boolean) from rfl) ▸ (List.mem_of_getElem? (i := 473) rfl)
set_option maxRecDepth 100000 in
theorem mco_91 : mCo 91 ∈ mjS := (show mCo 91 = .code yX9_isCapital cX9_isCapital 1 (some .boolean) from rfl) ▸ (List.mem_of_getElem? (i := 476) rfl)
set_option maxRecDepth 100000 in
theorem mco_92 : mCo 92 ∈ mjS := (show mCo 92 = .code yX9_isDigit cX9_isDigit 1 (some .boolean) from rfl) ▸ (List.mem_of_getElem? (i := 479) rfl)
set_option maxRecDepth 100000 in
theorem mco_93 : mCo 93 ∈ mjS := (show mCo 93 = .code yX9_kind cX9_kind 1 (some .int) from rfl) ▸ (List.mem_of_getElem? (i := 512) rfl)
set_option maxRecDepth 100000 in
theorem mco_94 : mCo 94 ∈ mjS := (show mCo 94 = .code yX9_place cX9_place 1 (some .int) from rfl) ▸ (List.mem_of_getElem? (i := 553) rfl)
set_option maxRecDepth 100000 in
theorem mco_95 : mCo 95 ∈ mjS := (show mCo 95 = .code yX9_key cX9_key 1 (some .long) from rfl) ▸ (List.mem_of_getElem? (i := 528) rfl)
set_option maxRecDepth 100000 in
theorem mco_96 : mCo 96 ∈ mjS := (show mCo 96 = .code yX9_index cX9_index 1 (some .int) from rfl) ▸ (List.mem_of_getElem? (i := 593) rfl)
set_option maxRecDepth 100000 in
theorem mco_97 : mCo 97 ∈ mjS := (show mCo 97 = .code yX9_placeAt cX9_placeAt 2 (some .int) from rfl) ▸ (List.mem_of_getElem? (i := 640) rfl)
set_option maxRecDepth 100000 in
theorem mco_98 : mCo 98 ∈ mjS := (show mCo 98 = .code yX9_keyAt cX9_keyAt 2 (some .long) from rfl) ▸ (List.mem_of_getElem? (i := 635) rfl)
set_option maxRecDepth 100000 in
theorem mco_99 : mCo 99 ∈ mjS := (show mCo 99 = .code yX9_number cX9_number 4 (some .int) from rfl) ▸ (List.mem_of_getElem? (i := 726) rfl)
set_option maxRecDepth 100000 in
theorem mco_100 : mCo 100 ∈ mjS := (show mCo 100 = .code yX9_step cX9_step 1 none from rfl) ▸ (List.mem_of_getElem? (i := 532) rfl)
set_option maxRecDepth 100000 in
theorem mco_101 : mCo 101 ∈ mjS := (show mCo 101 = .code yX10_init cX10_init 2 none from rfl) ▸ (List.mem_of_getElem? (i := 104) rfl)
set_option maxRecDepth 100000 in
theorem mco_102 : mCo 102 ∈ mjS := (show mCo 102 = .code yX10_feed cX10_feed 6 (some .int) from rfl) ▸ (List.mem_of_getElem? (i := 437) rfl)
set_option maxRecDepth 100000 in
theorem mco_103 : mCo 103 ∈ mjS := (show mCo 103 = .code yX10_end cX10_end 2 (some .int) from rfl) ▸ (List.mem_of_getElem? (i := 445) rfl)
set_option maxRecDepth 100000 in
theorem mco_104 : mCo 104 ∈ mjS := (show mCo 104 = .code yX10_circuit cX10_circuit 3 (some .int) from rfl) ▸ (List.mem_of_getElem? (i := 449) rfl)
set_option maxRecDepth 100000 in
theorem mco_105 : mCo 105 ∈ mjS := (show mCo 105 = .code yX10_assertion cX10_assertion 3 (some .int) from rfl) ▸ (List.mem_of_getElem? (i := 679) rfl)
set_option maxRecDepth 100000 in
theorem mco_106 : mCo 106 ∈ mjS := (show mCo 106 = .code yX10_fails cX10_fails 1 (some .int) from rfl) ▸ (List.mem_of_getElem? (i := 815) rfl)
set_option maxRecDepth 100000 in
theorem mco_107 : mCo 107 ∈ mjS := (show mCo 107 = .code yX10_excluded cX10_excluded 1 (some .int) from rfl) ▸ (List.mem_of_getElem? (i := 828) rfl)
set_option maxRecDepth 100000 in
theorem mco_108 : mCo 108 ∈ mjS := (show mCo 108 = .code yX10_failing cX10_failing 2 (some .int) from rfl) ▸ (List.mem_of_getElem? (i := 836) rfl)
set_option maxRecDepth 100000 in
theorem mco_109 : mCo 109 ∈ mjS := (show mCo 109 = .code yX10_shortfall cX10_shortfall 3 (some .int) from rfl) ▸ (List.mem_of_getElem? (i := 847) rfl)
set_option maxRecDepth 100000 in
theorem mco_110 : mCo 110 ∈ mjS := (show mCo 110 = .code yX10_value cX10_value 4 (some .int) from rfl) ▸ (List.mem_of_getElem? (i := 871) rfl)
set_option maxRecDepth 100000 in
theorem mco_111 : mCo 111 ∈ mjS := (show mCo 111 = .code yX10_matters cX10_matters 4 (some .int) from rfl) ▸ (List.mem_of_getElem? (i := 887) rfl)
set_option maxRecDepth 100000 in
theorem mco_112 : mCo 112 ∈ mjS := (show mCo 112 = .code yX10_cone cX10_cone 2 (some .int) from rfl) ▸ (List.mem_of_getElem? (i := 899) rfl)
set_option maxRecDepth 100000 in
theorem mco_113 : mCo 113 ∈ mjS := (show mCo 113 = .code yX10_count cX10_count 2 (some .int) from rfl) ▸ (List.mem_of_getElem? (i := 904) rfl)
set_option maxRecDepth 100000 in
theorem mco_114 : mCo 114 ∈ mjS := (show mCo 114 = .code yX10_hasPlace cX10_hasPlace 3 (some .boolean) from rfl) ▸ (List.mem_of_getElem? (i := 875) rfl)
set_option maxRecDepth 100000 in
theorem mco_115 : mCo 115 ∈ mjS := (show mCo 115 = .code yX11_init cX11_init 1 none from rfl) ▸ (List.mem_of_getElem? (i := 975) rfl)
set_option maxRecDepth 100000 in
theorem mco_116 : mCo 116 ∈ mjS := (show mCo 116 = .code yX12_init cX12_init 1 none from rfl) ▸ (List.mem_of_getElem? (i := 949) rfl)
set_option maxRecDepth 100000 in
theorem mco_117 : mCo 117 ∈ mjS := (show mCo 117 = .code yX13_init cX13_init 1 none from rfl) ▸ (List.mem_of_getElem? (i := 919) rfl)
set_option maxRecDepth 100000 in
theorem mco_118 : mCo 118 ∈ mjS := (show mCo 118 = .code yX14_init cX14_init 1 none from rfl) ▸ (List.mem_of_getElem? (i := 913) rfl)
set_option maxRecDepth 100000 in
theorem mco_119 : mCo 119 ∈ mjS := (show mCo 119 = .code yX14_put cX14_put 3 none from rfl) ▸ (List.mem_of_getElem? (i := 1117) rfl)
set_option maxRecDepth 100000 in
theorem mco_120 : mCo 120 ∈ mjS := (show mCo 120 = .code yX14_feed cX14_feed 6 (some .int) from rfl) ▸ (List.mem_of_getElem? (i := 1113) rfl)
set_option maxRecDepth 100000 in
theorem mco_121 : mCo 121 ∈ mjS := (show mCo 121 = .code yX14_end cX14_end 2 (some .int) from rfl) ▸ (List.mem_of_getElem? (i := 1121) rfl)
set_option maxRecDepth 100000 in
theorem mco_122 : mCo 122 ∈ mjS := (show mCo 122 = .code yX14_byteAt cX14_byteAt 2 (some .int) from rfl) ▸ (List.mem_of_getElem? (i := 1137) rfl)
set_option maxRecDepth 100000 in
theorem mco_123 : mCo 123 ∈ mjS := (show mCo 123 = .code yX14_digit cX14_digit 1 (some .boolean) from rfl) ▸ (List.mem_of_getElem? (i := 1140) rfl)
set_option maxRecDepth 100000 in
theorem mco_124 : mCo 124 ∈ mjS := (show mCo 124 = .code yX14_small cX14_small 1 (some .boolean) from rfl) ▸ (List.mem_of_getElem? (i := 1133) rfl)
set_option maxRecDepth 100000 in
theorem mco_125 : mCo 125 ∈ mjS := (show mCo 125 = .code yX14_capital cX14_capital 1 (some .boolean) from rfl) ▸ (List.mem_of_getElem? (i := 1145) rfl)
set_option maxRecDepth 100000 in
theorem mco_126 : mCo 126 ∈ mjS := (show mCo 126 = .code yX14_readTokens cX14_readTokens 8 none from rfl) ▸ (List.mem_of_getElem? (i := 1130) rfl)
set_option maxRecDepth 100000 in
theorem mco_127 : mCo 127 ∈ mjS := (show mCo 127 = .code yX14_here cX14_here 2 (some .boolean) from rfl) ▸ (List.mem_of_getElem? (i := 1236) rfl)
set_option maxRecDepth 100000 in
theorem mco_128 : mCo 128 ∈ mjS := (show mCo 128 = .code yX14_check cX14_check 2 none from rfl) ▸ (List.mem_of_getElem? (i := 1244) rfl)
set_option maxRecDepth 100000 in
theorem mco_129 : mCo 129 ∈ mjS := (show mCo 129 = .code yX14_take cX14_take 2 none from rfl) ▸ (List.mem_of_getElem? (i := 1315) rfl)
set_option maxRecDepth 100000 in
theorem mco_130 : mCo 130 ∈ mjS := (show mCo 130 = .code yX14_tree cX14_tree 5 (some .int) from rfl) ▸ (List.mem_of_getElem? (i := 1339) rfl)
set_option maxRecDepth 100000 in
theorem mco_131 : mCo 131 ∈ mjS := (show mCo 131 = .code yX14_ors cX14_ors 3 (some .int) from rfl) ▸ (List.mem_of_getElem? (i := 1319) rfl)
set_option maxRecDepth 100000 in
theorem mco_132 : mCo 132 ∈ mjS := (show mCo 132 = .code yX14_xors cX14_xors 3 (some .int) from rfl) ▸ (List.mem_of_getElem? (i := 1323) rfl)
set_option maxRecDepth 100000 in
theorem mco_133 : mCo 133 ∈ mjS := (show mCo 133 = .code yX14_ands cX14_ands 3 (some .int) from rfl) ▸ (List.mem_of_getElem? (i := 1327) rfl)
set_option maxRecDepth 100000 in
theorem mco_134 : mCo 134 ∈ mjS := (show mCo 134 = .code yX14_not cX14_not 2 (some .int) from rfl) ▸ (List.mem_of_getElem? (i := 1331) rfl)
set_option maxRecDepth 100000 in
theorem mco_135 : mCo 135 ∈ mjS := (show mCo 135 = .code yX14_atom cX14_atom 3 (some .int) from rfl) ▸ (List.mem_of_getElem? (i := 1335) rfl)
set_option maxRecDepth 100000 in
theorem mco_136 : mCo 136 ∈ mjS := (show mCo 136 = .code yX14_variable cX14_variable 2 (some .int) from rfl) ▸ (List.mem_of_getElem? (i := 1343) rfl)
set_option maxRecDepth 100000 in
theorem mco_137 : mCo 137 ∈ mjS := (show mCo 137 = .code yX14_find cX14_find 4 (some .int) from rfl) ▸ (List.mem_of_getElem? (i := 1311) rfl)
set_option maxRecDepth 100000 in
theorem mco_138 : mCo 138 ∈ mjS := (show mCo 138 = .code yX14_declare cX14_declare 3 none from rfl) ▸ (List.mem_of_getElem? (i := 1308) rfl)
set_option maxRecDepth 100000 in
theorem mco_139 : mCo 139 ∈ mjS := (show mCo 139 = .code yX14_item cX14_item 3 none from rfl) ▸ (List.mem_of_getElem? (i := 1240) rfl)
set_option maxRecDepth 100000 in
theorem mco_140 : mCo 140 ∈ mjS := (show mCo 140 = .code yX14_names cX14_names 3 (some .boolean) from rfl) ▸ (List.mem_of_getElem? (i := 1355) rfl)
set_option maxRecDepth 100000 in
theorem mco_141 : mCo 141 ∈ mjS := (show mCo 141 = .code yX14_reach cX14_reach 9 none from rfl) ▸ (List.mem_of_getElem? (i := 1351) rfl)
set_option maxRecDepth 100000 in
theorem mco_142 : mCo 142 ∈ mjS := (show mCo 142 = .code yX14_finish cX14_finish 2 none from rfl) ▸ (List.mem_of_getElem? (i := 1347) rfl)
set_option maxRecDepth 100000 in
theorem mco_143 : mCo 143 ∈ mjS := (show mCo 143 = .codeWith yX14_circuit cX14_circuit 2 (some .int) [(51, 70, 73, 128)] from rfl) ▸ (List.mem_of_getElem? (i := 1125) rfl)
set_option maxRecDepth 100000 in
theorem mco_144 : mCo 144 ∈ mjS := (show mCo 144 = .code yX14_number cX14_number 2 (some .int) from rfl) ▸ (List.mem_of_getElem? (i := 1371) rfl)
set_option maxRecDepth 100000 in
theorem mco_145 : mCo 145 ∈ mjS := (show mCo 145 = .code yX14_clause cX14_clause 3 none from rfl) ▸ (List.mem_of_getElem? (i := 1367) rfl)
set_option maxRecDepth 100000 in
theorem mco_146 : mCo 146 ∈ mjS := (show mCo 146 = .code yX14_part cX14_part 4 (some .int) from rfl) ▸ (List.mem_of_getElem? (i := 1363) rfl)
set_option maxRecDepth 100000 in
theorem mco_147 : mCo 147 ∈ mjS := (show mCo 147 = .codeWith yX14_assertion cX14_assertion 2 (some .int) [(59, 111, 114, 128)] from rfl) ▸ (List.mem_of_getElem? (i := 1359) rfl)
set_option maxRecDepth 100000 in
theorem mco_148 : mCo 148 ∈ mjS := (show mCo 148 = .code yX14_cell cX14_cell 4 (some .int) from rfl) ▸ (List.mem_of_getElem? (i := 1388) rfl)
set_option maxRecDepth 100000 in
theorem mco_149 : mCo 149 ∈ mjS := (show mCo 149 = .code yX14_variable_ cX14_variable_ 2 (some .boolean) from rfl) ▸ (List.mem_of_getElem? (i := 1403) rfl)
set_option maxRecDepth 100000 in
theorem mco_150 : mCo 150 ∈ mjS := (show mCo 150 = .code yX14_holds cX14_holds 2 (some .boolean) from rfl) ▸ (List.mem_of_getElem? (i := 1399) rfl)
set_option maxRecDepth 100000 in
theorem mco_151 : mCo 151 ∈ mjS := (show mCo 151 = .code yX14_valueOf cX14_valueOf 7 (some .int) from rfl) ▸ (List.mem_of_getElem? (i := 1384) rfl)
set_option maxRecDepth 100000 in
theorem mco_152 : mCo 152 ∈ mjS := (show mCo 152 = .code yX14_covers cX14_covers 4 (some .boolean) from rfl) ▸ (List.mem_of_getElem? (i := 1391) rfl)
set_option maxRecDepth 100000 in
theorem mco_153 : mCo 153 ∈ mjS := (show mCo 153 = .code yX14_applies cX14_applies 2 (some .boolean) from rfl) ▸ (List.mem_of_getElem? (i := 1395) rfl)
set_option maxRecDepth 100000 in
theorem mco_154 : mCo 154 ∈ mjS := (show mCo 154 = .code yX14_work cX14_work 6 none from rfl) ▸ (List.mem_of_getElem? (i := 1380) rfl)
set_option maxRecDepth 100000 in
theorem mco_155 : mCo 155 ∈ mjS := (show mCo 155 = .code yX14_judge cX14_judge 5 none from rfl) ▸ (List.mem_of_getElem? (i := 1376) rfl)
set_option maxRecDepth 100000 in
theorem mco_156 : mCo 156 ∈ mjS := (show mCo 156 = .code yX14_all cX14_all 1 (some .int) from rfl) ▸ (List.mem_of_getElem? (i := 1411) rfl)
set_option maxRecDepth 100000 in
theorem mco_157 : mCo 157 ∈ mjS := (show mCo 157 = .code yX14_fails cX14_fails 3 (some .int) from rfl) ▸ (List.mem_of_getElem? (i := 1407) rfl)
set_option maxRecDepth 100000 in
theorem mco_158 : mCo 158 ∈ mjS := (show mCo 158 = .code yX14_excluded cX14_excluded 3 (some .int) from rfl) ▸ (List.mem_of_getElem? (i := 1415) rfl)
set_option maxRecDepth 100000 in
theorem mco_159 : mCo 159 ∈ mjS := (show mCo 159 = .code yX14_failing cX14_failing 4 (some .int) from rfl) ▸ (List.mem_of_getElem? (i := 1419) rfl)
set_option maxRecDepth 100000 in
theorem mco_160 : mCo 160 ∈ mjS := (show mCo 160 = .code yX14_shortfall cX14_shortfall 3 (some .int) from rfl) ▸ (List.mem_of_getElem? (i := 1423) rfl)
set_option maxRecDepth 100000 in
theorem mco_161 : mCo 161 ∈ mjS := (show mCo 161 = .code yX14_isPlace cX14_isPlace 3 (some .boolean) from rfl) ▸ (List.mem_of_getElem? (i := 1431) rfl)
set_option maxRecDepth 100000 in
theorem mco_162 : mCo 162 ∈ mjS := (show mCo 162 = .code yX14_value cX14_value 4 (some .int) from rfl) ▸ (List.mem_of_getElem? (i := 1427) rfl)
set_option maxRecDepth 100000 in
theorem mco_163 : mCo 163 ∈ mjS := (show mCo 163 = .code yX14_matters cX14_matters 6 (some .int) from rfl) ▸ (List.mem_of_getElem? (i := 1435) rfl)
set_option maxRecDepth 100000 in
theorem mco_164 : mCo 164 ∈ mjS := (show mCo 164 = .code yX14_cone cX14_cone 4 (some .int) from rfl) ▸ (List.mem_of_getElem? (i := 1439) rfl)
set_option maxRecDepth 100000 in
theorem mco_165 : mCo 165 ∈ mjS := (show mCo 165 = .code yX14_kinds cX14_kinds 4 (some .int) from rfl) ▸ (List.mem_of_getElem? (i := 1447) rfl)
set_option maxRecDepth 100000 in
theorem mco_166 : mCo 166 ∈ mjS := (show mCo 166 = .code yX14_count cX14_count 2 (some .int) from rfl) ▸ (List.mem_of_getElem? (i := 1443) rfl)
set_option maxRecDepth 100000 in
theorem mco_167 : mCo 167 ∈ mjS := (show mCo 167 = .code yJ13_bitCount_95d88 cJ13_bitCount_95d88 2 (some .int) from rfl) ▸ (List.mem_of_getElem? (i := 668) rfl)
theorem mCo_mem : ∀ j, j < 168 → mCo j ∈ mjS
  | 0, _ => mco_0
  | 1, _ => mco_1
  | 2, _ => mco_2
  | 3, _ => mco_3
  | 4, _ => mco_4
  | 5, _ => mco_5
  | 6, _ => mco_6
  | 7, _ => mco_7
  | 8, _ => mco_8
  | 9, _ => mco_9
  | 10, _ => mco_10
  | 11, _ => mco_11
  | 12, _ => mco_12
  | 13, _ => mco_13
  | 14, _ => mco_14
  | 15, _ => mco_15
  | 16, _ => mco_16
  | 17, _ => mco_17
  | 18, _ => mco_18
  | 19, _ => mco_19
  | 20, _ => mco_20
  | 21, _ => mco_21
  | 22, _ => mco_22
  | 23, _ => mco_23
  | 24, _ => mco_24
  | 25, _ => mco_25
  | 26, _ => mco_26
  | 27, _ => mco_27
  | 28, _ => mco_28
  | 29, _ => mco_29
  | 30, _ => mco_30
  | 31, _ => mco_31
  | 32, _ => mco_32
  | 33, _ => mco_33
  | 34, _ => mco_34
  | 35, _ => mco_35
  | 36, _ => mco_36
  | 37, _ => mco_37
  | 38, _ => mco_38
  | 39, _ => mco_39
  | 40, _ => mco_40
  | 41, _ => mco_41
  | 42, _ => mco_42
  | 43, _ => mco_43
  | 44, _ => mco_44
  | 45, _ => mco_45
  | 46, _ => mco_46
  | 47, _ => mco_47
  | 48, _ => mco_48
  | 49, _ => mco_49
  | 50, _ => mco_50
  | 51, _ => mco_51
  | 52, _ => mco_52
  | 53, _ => mco_53
  | 54, _ => mco_54
  | 55, _ => mco_55
  | 56, _ => mco_56
  | 57, _ => mco_57
  | 58, _ => mco_58
  | 59, _ => mco_59
  | 60, _ => mco_60
  | 61, _ => mco_61
  | 62, _ => mco_62
  | 63, _ => mco_63
  | 64, _ => mco_64
  | 65, _ => mco_65
  | 66, _ => mco_66
  | 67, _ => mco_67
  | 68, _ => mco_68
  | 69, _ => mco_69
  | 70, _ => mco_70
  | 71, _ => mco_71
  | 72, _ => mco_72
  | 73, _ => mco_73
  | 74, _ => mco_74
  | 75, _ => mco_75
  | 76, _ => mco_76
  | 77, _ => mco_77
  | 78, _ => mco_78
  | 79, _ => mco_79
  | 80, _ => mco_80
  | 81, _ => mco_81
  | 82, _ => mco_82
  | 83, _ => mco_83
  | 84, _ => mco_84
  | 85, _ => mco_85
  | 86, _ => mco_86
  | 87, _ => mco_87
  | 88, _ => mco_88
  | 89, _ => mco_89
  | 90, _ => mco_90
  | 91, _ => mco_91
  | 92, _ => mco_92
  | 93, _ => mco_93
  | 94, _ => mco_94
  | 95, _ => mco_95
  | 96, _ => mco_96
  | 97, _ => mco_97
  | 98, _ => mco_98
  | 99, _ => mco_99
  | 100, _ => mco_100
  | 101, _ => mco_101
  | 102, _ => mco_102
  | 103, _ => mco_103
  | 104, _ => mco_104
  | 105, _ => mco_105
  | 106, _ => mco_106
  | 107, _ => mco_107
  | 108, _ => mco_108
  | 109, _ => mco_109
  | 110, _ => mco_110
  | 111, _ => mco_111
  | 112, _ => mco_112
  | 113, _ => mco_113
  | 114, _ => mco_114
  | 115, _ => mco_115
  | 116, _ => mco_116
  | 117, _ => mco_117
  | 118, _ => mco_118
  | 119, _ => mco_119
  | 120, _ => mco_120
  | 121, _ => mco_121
  | 122, _ => mco_122
  | 123, _ => mco_123
  | 124, _ => mco_124
  | 125, _ => mco_125
  | 126, _ => mco_126
  | 127, _ => mco_127
  | 128, _ => mco_128
  | 129, _ => mco_129
  | 130, _ => mco_130
  | 131, _ => mco_131
  | 132, _ => mco_132
  | 133, _ => mco_133
  | 134, _ => mco_134
  | 135, _ => mco_135
  | 136, _ => mco_136
  | 137, _ => mco_137
  | 138, _ => mco_138
  | 139, _ => mco_139
  | 140, _ => mco_140
  | 141, _ => mco_141
  | 142, _ => mco_142
  | 143, _ => mco_143
  | 144, _ => mco_144
  | 145, _ => mco_145
  | 146, _ => mco_146
  | 147, _ => mco_147
  | 148, _ => mco_148
  | 149, _ => mco_149
  | 150, _ => mco_150
  | 151, _ => mco_151
  | 152, _ => mco_152
  | 153, _ => mco_153
  | 154, _ => mco_154
  | 155, _ => mco_155
  | 156, _ => mco_156
  | 157, _ => mco_157
  | 158, _ => mco_158
  | 159, _ => mco_159
  | 160, _ => mco_160
  | 161, _ => mco_161
  | 162, _ => mco_162
  | 163, _ => mco_163
  | 164, _ => mco_164
  | 165, _ => mco_165
  | 166, _ => mco_166
  | 167, _ => mco_167
  | n + 168, h => absurd h (by omega)
end
section
/-! ===== contracts out of runs of the mini machine ===== -/
def mWs (j : Nat) : List Cond := mCo j :: mjS.filter goodWord
theorem mj_lt : (mjCs.all (fun l => l.all (fun r => decide (r.2.1 < 168))) && mjCp.all (fun l => l.all (fun r => decide (r.2.1 < 168))) && mjCv.all (fun l => l.all (fun r => decide (r.2.2.1 < 168)))) = true := by decide +kernel
theorem mCo_at {j : Nat} (h : j < 168) : mCo j ∈ mjS ∧ goodWord (mCo j) = true := ⟨mCo_mem j h, mCo_good j⟩
theorem gw_in {w : Cond} (h : w ∈ mjS) (hg : goodWord w = true) : w ∈ mjS.filter goodWord ∧ ((w.onTables && w.keeps) = true ∨ ∃ ty, w = .arrayClass ty) := ⟨List.mem_filter.mpr ⟨h, hg⟩, good_of_word hg⟩
theorem mWs_in {j : Nat} (h : j < 168) : GoodIn (mjS.filter goodWord) (mWs j) := by
  intro w hw
  rcases List.mem_cons.mp hw with rfl | hw
  · exact gw_in (mCo_at h).1 (mCo_at h).2
  · exact gw_in (List.mem_filter.mp hw).1 (List.mem_filter.mp hw).2
theorem getD_mem_all {α : Type} {T : List (List α)} {P : α → Bool} (h : T.all (fun l => l.all P) = true) {o : Nat} {r : α} (hr : r ∈ T.getD o []) : P r = true := by
  by_cases ho : o < T.length
  · rw [List.getD_eq_getElem?_getD, List.getElem?_eq_getElem ho] at hr
    exact List.all_eq_true.mp (List.all_eq_true.mp h _ (List.getElem_mem ho)) r hr
  · rw [tb_gd (by omega)] at hr
    cases hr
theorem cs_at {o idx y : Nat} (h : csl o idx = some y) : y < 168 ∧ Cond.methodLink (oN o) idx (mY y) ∈ mjS ∧ Cond.static (mY y) ∈ mjS ∧ Cond.initialized (mY y).cls ∈ mjS ∧ (nMH (mY y) = true ∧ npO (mY y) (mP y) = true) ∧ mHH y = [] := by
  obtain ⟨r, h1, h2, h3⟩ := tb_fd h
  have h4 := tb_all mjCs 18 rfl ckCs mjCs_ok h1
  have e1 : r.1 = idx := beq_iff_eq.mp h2
  have e3 : r.2.1 = y := h3
  have hl := mj_lt
  rw [Bool.and_eq_true, Bool.and_eq_true] at hl
  have h5 := of_decide_eq_true (getD_mem_all (P := fun r : Nat × Nat × Nat × Nat × Nat => decide (r.2.1 < 168)) hl.1.1 h1)
  unfold ckCs at h4
  rw [Bool.and_eq_true, Bool.and_eq_true, Bool.and_eq_true, Bool.and_eq_true, Bool.and_eq_true, e1, e3] at h4
  rw [e3] at h5
  obtain ⟨c1, c2, c3, c4, c5, c6⟩ := h4
  exact ⟨h5, List.mem_of_getElem? (of_decide_eq_true c1), List.mem_of_getElem? (of_decide_eq_true c2), List.mem_of_getElem? (of_decide_eq_true c3), ⟨c4, c5⟩, of_decide_eq_true c6⟩
theorem cp_at {o idx y : Nat} (h : cpl o idx = some y) : y < 168 ∧ (Cond.methodLink (oN o) idx (mY y) ∈ mjS ∨ ∃ host, Cond.methodLinkNest (oN o) idx (mY y) host ∈ mjS) ∧ Cond.instanceMethod (mY y) ∈ mjS ∧ Cond.initialized (mY y).cls ∈ mjS ∧ (nMH (mY y) = true ∧ npO (mY y) (mP y) = true) ∧ mHH y = [] ∧ mR y = none ∧ (mY y).name = "<init>" := by
  obtain ⟨r, h1, h2, h3⟩ := tb_fd h
  have h4 := tb_all mjCp 18 rfl ckCp mjCp_ok h1
  have e1 : r.1 = idx := beq_iff_eq.mp h2
  have e3 : r.2.1 = y := h3
  have hl := mj_lt
  rw [Bool.and_eq_true, Bool.and_eq_true] at hl
  have h5 := of_decide_eq_true (getD_mem_all (P := fun r : Nat × Nat × Nat × Nat × Nat × Nat × String => decide (r.2.1 < 168)) hl.1.2 h1)
  unfold ckCp at h4
  rw [Bool.and_eq_true, Bool.and_eq_true, Bool.and_eq_true, Bool.and_eq_true, Bool.and_eq_true, Bool.and_eq_true, Bool.and_eq_true, e1, e3] at h4
  rw [e3] at h5
  obtain ⟨c1, c2, c3, c4, c5, c6, c7, c8⟩ := h4
  refine ⟨h5, ?_, List.mem_of_getElem? (of_decide_eq_true c2), List.mem_of_getElem? (of_decide_eq_true c3), ⟨c4, c5⟩, of_decide_eq_true c6, of_decide_eq_true c7, of_decide_eq_true c8⟩
  split at c1
  · exact Or.inl (List.mem_of_getElem? (of_decide_eq_true c1))
  · exact Or.inr ⟨_, List.mem_of_getElem? (of_decide_eq_true c1)⟩
/-- a plain virtual call -/
def V0 (o idx ci y : Nat) : Prop := Cond.methodLink (oN o) idx (mY y) ∈ mjS ∧ Cond.selects (mjCN ci) (mY y) (mY y) ∈ mjS ∧ Cond.instanceMethod (mY y) ∈ mjS ∧ Cond.initialized (mY y).cls ∈ mjS ∧ (mY y).cls = mjCN ci ∧ (nMH (mY y) = true ∧ npO (mY y) (mP y) = true)
/-- an inherited or overriding one -/
def V1 (o idx ci y : Nat) : Prop := ∃ (x : MethodName) (owner : String), Cond.methodLink (oN o) idx x ∈ mjS ∧ Cond.sameMethod x.cls owner x.name x.desc ∈ mjS ∧ Cond.selects (mjCN ci) x (mY y) ∈ mjS ∧ Cond.instanceMethod (mY y) ∈ mjS ∧ Cond.initialized (mY y).cls ∈ mjS ∧ (Cond.declares ⟨owner, x.name, x.desc⟩ ∈ mjS ∨ mY y = ⟨owner, x.name, x.desc⟩) ∧ (owner ≠ "java/lang/invoke/MethodHandle" ∧ owner ≠ "java/lang/invoke/VarHandle") ∧ npO x (mP y) = true ∧ mHH y = []
theorem cv_row {o : Nat} {r : Nat × Nat × Nat × Nat × MethodName × String × Nat × Nat × Nat × Nat × Nat × Nat} (h1 : r ∈ mjCv.getD o []) : r.2.2.1 < 168 ∧ r.2.1 < 14 ∧ cvn o r.1 = some (mP r.2.2.1) ∧ ((r.2.2.2.1 = 0 ∧ V0 o r.1 r.2.1 r.2.2.1) ∨ (r.2.2.2.1 ≠ 0 ∧ V1 o r.1 r.2.1 r.2.2.1)) := by
  have h4 := tb_all mjCv 18 rfl ckV mjCv_ok h1
  have hl := mj_lt
  rw [Bool.and_eq_true, Bool.and_eq_true] at hl
  have h5 := of_decide_eq_true (getD_mem_all (P := fun r : Nat × Nat × Nat × Nat × MethodName × String × Nat × Nat × Nat × Nat × Nat × Nat => decide (r.2.2.1 < 168)) hl.2 h1)
  unfold ckV at h4
  split at h4
  · rename_i hz
    unfold ckV0 at h4
    rw [Bool.and_eq_true, Bool.and_eq_true, Bool.and_eq_true, Bool.and_eq_true, Bool.and_eq_true, Bool.and_eq_true, Bool.and_eq_true, Bool.and_eq_true] at h4
    obtain ⟨c1, c2, c3, c4, c5, c6, c7, c8, c9⟩ := h4
    exact ⟨h5, of_decide_eq_true c9, of_decide_eq_true c8, Or.inl ⟨hz, List.mem_of_getElem? (of_decide_eq_true c1), List.mem_of_getElem? (of_decide_eq_true c2), List.mem_of_getElem? (of_decide_eq_true c3), List.mem_of_getElem? (of_decide_eq_true c4), of_decide_eq_true c5, c6, c7⟩⟩
  · rename_i hz
    unfold ckV1 at h4
    rw [Bool.and_eq_true, Bool.and_eq_true, Bool.and_eq_true, Bool.and_eq_true, Bool.and_eq_true, Bool.and_eq_true, Bool.and_eq_true, Bool.and_eq_true, Bool.and_eq_true, Bool.and_eq_true, Bool.and_eq_true] at h4
    obtain ⟨c1, c2, c3, c4, c5, c6, c7, c8, c9, c10, c11, c12⟩ := h4
    refine ⟨h5, of_decide_eq_true c12, of_decide_eq_true c10, Or.inr ⟨hz, _, _, List.mem_of_getElem? (of_decide_eq_true c1), List.mem_of_getElem? (of_decide_eq_true c2), List.mem_of_getElem? (of_decide_eq_true c3), List.mem_of_getElem? (of_decide_eq_true c4), List.mem_of_getElem? (of_decide_eq_true c5), ?_, ⟨of_decide_eq_true c7, of_decide_eq_true c8⟩, c9, of_decide_eq_true c11⟩⟩
    split at c6
    · exact Or.inl (List.mem_of_getElem? (of_decide_eq_true c6))
    · exact Or.inr (of_decide_eq_true c6)
theorem cv_at {o idx ci y : Nat} (h : cvl o idx ci = some y) : y < 168 ∧ ci < 14 ∧ cvn o idx = some (mP y) ∧ (V0 o idx ci y ∨ V1 o idx ci y) := by
  obtain ⟨r, h1, h2, h3⟩ := tb_fd h
  rw [Bool.and_eq_true] at h2
  have e1 : r.1 = idx := beq_iff_eq.mp h2.1
  have e2 : r.2.1 = ci := beq_iff_eq.mp h2.2
  have e3 : r.2.2.1 = y := h3
  obtain ⟨g1, g2, g3, g4⟩ := cv_row h1
  rw [e1, e2, e3] at g4
  rw [e1, e3] at g3
  rw [e3] at g1
  rw [e2] at g2
  exact ⟨g1, g2, g3, g4.elim (fun q => Or.inl q.2) (fun q => Or.inr q.2)⟩
/-- rows of one owner have different keys -/
def keyOK (l : List (Nat × Nat × Nat × Nat × MethodName × String × Nat × Nat × Nat × Nat × Nat × Nat)) : Bool := l.all (fun r => l.all (fun q => !(r.1 == q.1 && r.2.1 == q.2.1) || (r.2.2.1 == q.2.2.1)))
theorem mjCv_key : mjCv.all keyOK = true := by decide +kernel
theorem cvk_at {o idx ci y : Nat} (h : cvl o idx ci = some y) (hk : cvk o idx ci = true) : V0 o idx ci y ∧ mHH y = [] := by
  obtain ⟨r, h1, h2, h3⟩ := tb_fd h
  rw [Bool.and_eq_true] at h2
  have e1 : r.1 = idx := beq_iff_eq.mp h2.1
  have e2 : r.2.1 = ci := beq_iff_eq.mp h2.2
  have e3 : r.2.2.1 = y := h3
  obtain ⟨q, hq, hq2⟩ := List.any_eq_true.mp hk
  rw [Bool.and_eq_true, Bool.and_eq_true, Bool.and_eq_true] at hq2
  obtain ⟨⟨⟨f1, f2⟩, f3⟩, f4⟩ := hq2
  have f1 : q.1 = idx := beq_iff_eq.mp f1
  have f2 : q.2.1 = ci := beq_iff_eq.mp f2
  have f3 : q.2.2.2.1 = 0 := beq_iff_eq.mp f3
  have hky : q.2.2.1 = y := by
    by_cases ho : o < mjCv.length
    · have hka : keyOK (mjCv.getD o []) = true := by
        rw [List.getD_eq_getElem?_getD, List.getElem?_eq_getElem ho]
        exact List.all_eq_true.mp mjCv_key _ (List.getElem_mem ho)
      have h9 := List.all_eq_true.mp (List.all_eq_true.mp hka q hq) r h1
      rw [f1, f2, e1, e2] at h9
      simp only [beq_self_eq_true, Bool.and_self, Bool.not_true, Bool.false_or, beq_iff_eq] at h9
      rw [h9, e3]
    · rw [tb_gd (by omega)] at h1
      cases h1
  obtain ⟨-, -, -, g4⟩ := cv_row hq
  rw [f1, f2, hky] at g4
  rw [hky] at f4
  refine ⟨?_, List.isEmpty_iff.mp f4⟩
  rcases g4 with g | g
  · exact g.2
  · exact absurd f3 g.1
section CT
variable (D : va_G) (b : Nat) (ex : Nat → Nat) (cA : FieldType → ClassId) (xs : Nat → Int32) (L : Nat)
def PcM (as : List Value) (M : MH) : Array Value → State → Prop := va_Pc (as.map (up b ex)) (fun U => U.heap.size = b + M.2.2.2.2.1 + 1 ∧ va_P D mjC (wsO b ex cA M) U.heap ∧ va_K D mjC (tyL cA) U ∧ StF b ex xs L U U.heap)
def QcM (v : Option Value) (M' : MH) : Array Value → State → Outcome → State → Prop := fun _ st oc t => (oc = .returned (v.map (up b ex)) ∧ t.heap.size = b + M'.2.2.2.2.1 + 1 ∧ va_P D mjC (wsO b ex cA M') t.heap) ∧ va_F (Ab b) st t
def XcM (M' : MH) : String → State → State → Prop := fun E st t => (E = "java/lang/IllegalArgumentException" ∧ t.heap.size = b + M'.2.2.2.2.1 + 1 ∧ va_P D mjC (wsO b ex cA M') t.heap) ∧ va_F (Ab b) st t
theorem PcM_blind (as : List Value) (M : MH) : FrameBlind (PcM D b ex cA xs L as M) := by
  intro a U g mk h
  obtain ⟨h1, h2, h3, h4, h5⟩ := h
  exact ⟨h1, h2, h3, va_K.moved (u := U) (U := U.calling g mk a) (Vm.Alike.refl U.vm) h4, StF.moved (s := U) (U := U.calling g mk a) (State.WarmedH.refl U) h5⟩
end CT
section MC
variable {p : Program} {l : Launch} {e : Env} {R : Room} {s : State} {m : MethodId} {args : Array Value} {below : List Frame} {meth : Method} {c : Code} {H : Heap} {locs : List Loc} {cells slots : Nat} {Q : State → Prop}
variable {D : va_G} {b : Nat} {ex : Nat → Nat} {cA : FieldType → ClassId} {xs : Nat → Int32} {L d j pc mc ms : Nat} {st st0 : List Value} {ls : Array Slot} {M M' M1 : MH} {a : Array Value} {v : Option Value} {rest : List Value}
/-- behind a call that returns -/
theorem mx_call (hr : va_Run p l e R s m args below meth c H locs cells slots mc ms (F0 m pc ls st0) rest (QcM D b ex cA v M1 a) (Ab b)) (hS : va_S (Ab b) s.heap H locs)
    (kk : ∀ (H1 : Heap) (locs1 : List Loc), va_P D mjC (wsO b ex cA M1) H1 → H1.size = b + M1.2.2.2.2.1 + 1 → va_S (Ab b) s.heap H1 locs1 → W p l e R s m args below meth c H1 locs1 (cells + mc) (slots + ms) Q (F0 m (pc + 3) ls ((v.map (up b ex)).toList ++ rest))) : W p l e R s m args below meth c H locs cells slots Q (F0 m pc ls st0) := by
  intro T hT X
  obtain ⟨v9, st₀, t, T', L', h0, X', hL, e1, e2, ⟨⟨hv, hz1, hp⟩, hz, hk⟩, st⟩ := hr T hT X
  cases hv
  rw [h0] at hz hk
  obtain ⟨t2, a1, b1⟩ := kk T'.heap (locs ++ L') (by rw [e1]; exact hp) (by rw [e1]; exact hz1)
    ⟨Nat.le_trans hS.1 (by rw [e1]; exact hz), fun q h1 h2 => by rw [e1, hk q (Nat.lt_of_lt_of_le h1 hS.1) h2]; exact hS.2.1 q h1 h2, fun q hq => by
      rcases List.mem_append.mp hq with h | h
      · exact hS.2.2 q h
      · exact hL q h⟩ T' rfl X'
  exact ⟨t2, st t2 a1, b1⟩
/-- .. of a method that may throw, but doesn't -/
theorem mx_callR (hr : vx_Run p l e R s m args below meth c H locs cells slots mc ms (F0 m pc ls st0) rest (QcM D b ex cA v M1 a) (fun _ _ _ => False) (Ab b)) (hS : va_S (Ab b) s.heap H locs)
    (kk : ∀ (H1 : Heap) (locs1 : List Loc), va_P D mjC (wsO b ex cA M1) H1 → H1.size = b + M1.2.2.2.2.1 + 1 → va_S (Ab b) s.heap H1 locs1 → W p l e R s m args below meth c H1 locs1 (cells + mc) (slots + ms) Q (F0 m (pc + 3) ls ((v.map (up b ex)).toList ++ rest))) : W p l e R s m args below meth c H locs cells slots Q (F0 m pc ls st0) := by
  refine mx_call (mc := mc) (ms := ms) (a := a) (fun T hT X => ?_) hS kk
  rcases hr T hT X with h | ⟨q, st₀, t, T', L, E, ce, h0, X', hL, e1, e2, hF, -⟩
  · exact h
  · exact absurd hF (fun z => z)
/-- behind a call that throws -/
theorem mx_callX (hr : vx_Run p l e R s m args below meth c H locs cells slots mc ms (F0 m pc ls st0) rest (fun _ _ _ => False) (XcM D b ex cA M1) (Ab b)) (hS : va_S (Ab b) s.heap H locs)
    (kk : ∀ (ce : Cell) (q : Addr) (H1 : Heap) (locs1 : List Loc), va_P D mjC (wsO b ex cA M1) H1 → H1.size = b + M1.2.2.2.2.1 + 1 → va_S (Ab b) s.heap H1 locs1 → H1[q]? = some ce → ce.vm = .none → s.vm.findClass "java/lang/IllegalArgumentException" = some ce.cls → vx_W p l e R s m args below meth c H1 locs1 (cells + mc) (slots + ms) Q (F0 m pc ls rest) q) : W p l e R s m args below meth c H locs cells slots Q (F0 m pc ls st0) := by
  intro T hT X
  rcases hr T hT X with ⟨v, st₀, t, T', L, h0, X', hL, e1, e2, hF, -⟩ | ⟨q, st₀, t, T', L', E, ce, h0, X', hL, e1, e2, ⟨⟨hE, hz1, hp⟩, hz, hk⟩, hce, hcv, hcl, st⟩
  · exact absurd hF (fun z => z)
  · subst hE
    rw [h0] at hz hk
    obtain ⟨t2, a1, b1⟩ := kk ce q T'.heap (locs ++ L') (by rw [e1]; exact hp) (by rw [e1]; exact hz1)
      ⟨Nat.le_trans hS.1 (by rw [e1]; exact hz), fun q h1 h2 => by rw [e1, hk q (Nat.lt_of_lt_of_le h1 hS.1) h2]; exact hS.2.1 q h1 h2, fun q hq => by
        rcases List.mem_append.mp hq with h | h
        · exact hS.2.2 q h
        · exact hL q h⟩ (by rw [e1]; exact hce) hcv hcl T' rfl X'
    exact ⟨t2, st.trans a1, b1⟩
theorem stk {st : List Value} {n : Nat} {w : Value} {t : List Value} (h : st.drop n = w :: t) : st.map (up b ex) = (((st.take n).reverse).map (up b ex)).reverse ++ up b ex w :: t.map (up b ex) := by
  rw [List.map_reverse, List.reverse_reverse]
  conv => lhs; rw [← List.take_append_drop n st, h]
  rw [List.map_append, List.map_cons]
theorem stk_len {st : List Value} {n : Nat} {w : Value} {t : List Value} (h : st.drop n = w :: t) : (((st.take n).reverse).map (up b ex)).length = n := by
  have h1 : n < st.length := by
    rcases Nat.lt_or_ge n st.length with q | q
    · exact q
    · rw [List.drop_eq_nil_of_le q] at h
      cases h
  simp
  omega
theorem ret_st (v : Option Value) (rest : List Value) : (v.map (up b ex)).toList ++ rest.map (up b ex) = (v.toList ++ rest).map (up b ex) := by
  cases v <;> rfl
theorem np_of {y : MethodName} {n : Nat} (h : npO y n = true) : (parseMethodDescriptor y.desc).map (fun d => d.parameters.length) = some n := of_decide_eq_true h
theorem np_len {y : MethodName} {n : Nat} (h : npO y n = true) : ∀ sig, parseMethodDescriptor y.desc = some sig → n = sig.parameters.length := by
  intro sig hs
  have h1 := np_of h
  rw [hs] at h1
  exact (Option.some.inj h1).symm
theorem nMH_of {y : MethodName} (h : nMH y = true) : y.cls ≠ "java/lang/invoke/MethodHandle" ∧ y.cls ≠ "java/lang/invoke/VarHandle" := by
  unfold nMH at h
  rw [Bool.and_eq_true] at h
  exact ⟨of_decide_eq_true h.1, of_decide_eq_true h.2⟩
end MC
end
section
/-! ===== a run of the mini machine is a run of the JVM ===== -/
theorem rt_at {j : Nat} {i : Instr} {st : List Value} {v : Option Value} (h : rt j i st = some v) : (∃ x ty, i = .ireturn ∧ st = [.int x] ∧ mR j = some ty ∧ narrow ty (.int x) = .int x ∧ v = some (.int x)) ∨ (∃ x, i = .lreturn ∧ st = [.long x] ∧ mR j = some .long ∧ v = some (.long x)) ∨ (i = .return_ ∧ st = [] ∧ mR j = none ∧ v = none) := by
  cases i
  case ireturn =>
    simp only [rt] at h
    split at h
    · rename_i x
      split at h
      · rename_i ty hty
        split at h
        · rename_i hn
          cases h
          exact Or.inl ⟨x, ty, rfl, rfl, hty, hn, rfl⟩
        · cases h
      · cases h
    · cases h
  case lreturn =>
    simp only [rt] at h
    split at h
    · rename_i x
      split at h
      · rename_i hr
        cases h
        exact Or.inr (Or.inl ⟨x, rfl, rfl, hr, rfl⟩)
      · cases h
    · cases h
  case return_ =>
    simp only [rt] at h
    split at h
    · split at h
      · rename_i hr
        cases h
        exact Or.inr (Or.inr ⟨rfl, rfl, hr, rfl⟩)
      · cases h
    · cases h
  all_goals exact (nomatch (show (none : Option (Option Value)) = some _ from h))
def IxH (l : Launch) (b : Nat) (ex : Nat → Nat) (xs : Nat → Int32) (L : Nat) : Prop := ∀ (p : Program) (e : Env) (R : Room) (s : State) (m : MethodId) (args : Array Value) (below : List Frame) (meth : Method) (c : Code) (d : Nat), p.tables.exec = Jvm.exec → (∀ w ∈ mjS, goodWord w = true → w.before args s = true) → StF b ex xs L s s.heap → d ≤ R.frames → 41 * d ≤ R.locals → IxS p l e R s m args below meth c b ex d
def Sd (l : Launch) (D : va_G) (b : Nat) (ex : Nat → Nat) (cA : FieldType → ClassId) (xs : Nat → Int32) (L n : Nat) : Prop :=
  ∀ (d j pc : Nat) (vs st : List Value) (M : MH) (o : Option (Option Value)) (M' : MH), xq xs L n d j pc vs st M = some (o, M') →
  ∀ (p : Program) (e : Env) (R : Room) (s : State) (m : MethodId) (args : Array Value) (below : List Frame) (meth : Method) (c : Code) (H : Heap) (locs : List Loc) (cells slots : Nat) (Q : State → Prop) (ls : Array Slot) (sl0 : Nat),
    p.tables.exec = Jvm.exec → c.code = mB j → c.maxLocals = mL j → s.vm.findClass (oN (mO j)) = some m.cls → meth.name = (mY j).name → (∀ w ∈ mjS, goodWord w = true → w.before args s = true) → meth.locks = false → c.exceptionTable.toList = tableOf (mHH j) → va_K D mjC (tyL cA) s → StF b ex xs L s s.heap → d ≤ R.frames → 41 * d ≤ R.locals →
    Inv M → va_P D mjC (wsO b ex cA M) H → H.size = b + M.2.2.2.2.1 + 1 → s.heap.size + cells = b + M.2.2.2.2.1 + 1 → va_S (Ab b) s.heap H locs → LV b ex vs ls → vs.length = mL j → b < s.heap.size → b + M'.2.2.2.2.1 + 1 ≤ s.heap.size + R.cells → sl0 + slots = M.2.2.2.2.2 → M'.2.2.2.2.2 ≤ sl0 + R.slots →
    (∀ (v : Option Value), o = some v → ∀ (H1 : Heap) (locs1 : List Loc) (cells1 slots1 pc1 : Nat) (ls1 : Array Slot) (i : Instr) (st1 : List Value), va_P D mjC (wsO b ex cA M') H1 → H1.size = b + M'.2.2.2.2.1 + 1 → va_S (Ab b) s.heap H1 locs1 → s.heap.size + cells1 = b + M'.2.2.2.2.1 + 1 → sl0 + slots1 = M'.2.2.2.2.2 → decode (mB j) pc1 = .ok (i, 1) → rt j i st1 = some v → W p l e R s m args below meth c H1 locs1 cells1 slots1 Q (F0 m pc1 ls1 (st1.map (up b ex)))) →
    (o = none → ∃ (mc ms : Nat) (Qc : Array Value → State → Outcome → State → Prop), Q = vx_MQ below Qc (XcM D b ex cA M') args s mc ms (Ab b) ∧ s.heap.size + mc = b + M'.2.2.2.2.1 + 1 ∧ sl0 + ms = M'.2.2.2.2.2) →
    W p l e R s m args below meth c H locs cells slots Q (F0 m pc ls (st.map (up b ex)))
section SD
variable {l : Launch} {D : va_G} {b : Nat} {ex : Nat → Nat} {cA : FieldType → ClassId} {xs : Nat → Int32} {L n : Nat}
/-- the end of a method, as the kit's returns have it -/
theorem sd_ret {p : Program} {e : Env} {R : Room} {s : State} {m : MethodId} {args : Array Value} {below : List Frame} {meth : Method} {c : Code} {H1 : Heap} {locs1 : List Loc} {cells1 slots1 pc1 j : Nat} {ls1 : Array Slot} {i : Instr} {st1 : List Value} {v : Option Value} {M' : MH} (hx : p.tables.exec = Jvm.exec) (hb : c.code = mB j) (hr : meth.sig.returnType = mR j) (hlocks : meth.locks = false)
    (hP : va_P D mjC (wsO b ex cA M') H1) (hz : H1.size = b + M'.2.2.2.2.1 + 1) (hS : va_S (Ab b) s.heap H1 locs1) (hd : decode (mB j) pc1 = .ok (i, 1)) (h : rt j i st1 = some v) : W p l e R s m args below meth c H1 locs1 cells1 slots1 (MQ below (QcM D b ex cA v M') args s cells1 slots1 (Ab b)) (F0 m pc1 ls1 (st1.map (up b ex))) := by
  rcases rt_at h with ⟨x, ty, rfl, rfl, hty, hn, rfl⟩ | ⟨x, rfl, rfl, hty, rfl⟩ | ⟨rfl, rfl, hty, rfl⟩
  · exact W.zret (ty := ty) hx hb (hr.trans hty) hn (fun t ht _ => ⟨⟨rfl, by rw [ht]; exact hz, by rw [ht]; exact hP⟩, hS.F ht⟩) hS.2.2 hd hlocks
  · exact W.lret hx hb (hr.trans hty) (fun t ht _ => ⟨⟨rfl, by rw [ht]; exact hz, by rw [ht]; exact hP⟩, hS.F ht⟩) hS.2.2 hd hlocks
  · exact W.vret hx hb (hr.trans hty) (fun t ht _ => ⟨⟨rfl, by rw [ht]; exact hz, by rw [ht]; exact hP⟩, hS.F ht⟩) hS.2.2 hd hlocks
set_option maxHeartbeats 4000000 in
/-- a callee that returns -/
theorem cm_ret (ih : Sd l D b ex cA xs L n) {d k : Nat} {as : List Value} {M M1 : MH} {v : Option Value} (hq : xq xs L n d k 0 (en k as) [] M = some (some v, M1)) (hI : Inv M) (hlen : (lay as).length ≤ mL k) (hH : mHH k = []) :
    Met l (mY k) (mWs k) ({ frames := d, cells := M1.2.2.2.2.1 - M.2.2.2.2.1, slots := M1.2.2.2.2.2 - M.2.2.2.2.2, locals := 41 * d } : Room) (PcM D b ex cA xs L as M) (QcM D b ex cA v M1) (M1.2.2.2.2.1 - M.2.2.2.2.1) (M1.2.2.2.2.2 - M.2.2.2.2.2) (Ab b) := by
  have hgr := gr_xq _ _ _ _ _ _ _ _ _ hq
  have hw : mWs k = Cond.code (mY k) (mB k) (mL k) (mR k) :: mjS.filter goodWord := by
    unfold mWs mCo
    rw [if_pos hH]
  refine Met.ofW (cc := mB k) (maxL := mL k) (ret := mR k) (m_plain k) hw ?_
  intro p e s m args below meth c s₁ B hml hv
  obtain ⟨rfl, hsz, hP, hK, hSt⟩ := hv
  have hts0 := atoms_spec (ws := mWs k) B.pre
  have htab : c.exceptionTable.toList = tableOf (mHH k) := by
    obtain ⟨meth9, c9, h1, h2, -, -, -, -, h7, -⟩ := Cond.code_spec B.named (hts0 _ (by rw [hw]; exact List.mem_cons_self))
    cases Option.some.inj (h1.symm.trans B.method)
    cases Option.some.inj (h2.symm.trans (Stand.of_body B).code)
    rw [hH, Array.isEmpty_iff.mp h7]
    rfl
  rw [lg_entry_eq]
  refine ih d k 0 (en k as) [] M (some v) M1 hq p e _ s m _ below meth c s.heap [] 0 0 _ _ M.2.2.2.2.2 B.exec B.bytes hml (by rw [m_own]; exact findClass_of_methodNamed B.named) (name_of_methodNamed B.named B.method).1 (fun w h1 h2 => hts0 w (List.mem_cons_of_mem _ (List.mem_filter.mpr ⟨h1, h2⟩))) B.notSynchronized htab hK hSt (Nat.le_refl _) (Nat.le_refl _) hI hP hsz (by omega) va_S.rf (LV.entry b ex as k hlen) ?_ (by omega) ?_ rfl ?_ ?_ (fun h => by cases h)
  · simp only [en, List.length_append, List.length_replicate]
    omega
  · have := hgr.2.1
    show b + M1.2.2.2.2.1 + 1 ≤ s.heap.size + (M1.2.2.2.2.1 - M.2.2.2.2.1)
    omega
  · have := hgr.2.2
    show M1.2.2.2.2.2 ≤ M.2.2.2.2.2 + (M1.2.2.2.2.2 - M.2.2.2.2.2)
    omega
  · intro v9 hv9 H1 locs1 cells1 slots1 pc1 ls1 i st1 q1 q2 q3 q4 q5 q6 q7
    cases hv9
    have e1 : cells1 = M1.2.2.2.2.1 - M.2.2.2.2.1 := by omega
    have e2 : slots1 = M1.2.2.2.2.2 - M.2.2.2.2.2 := by omega
    subst e1
    subst e2
    exact sd_ret B.exec B.bytes B.returns B.notSynchronized q1 q2 q3 q6 q7
set_option maxHeartbeats 4000000 in
/-- a callee with a table of its own that returns -/
theorem cm_retH (ih : Sd l D b ex cA xs L n) {d k : Nat} {as : List Value} {M M1 : MH} {v : Option Value} (hq : xq xs L n d k 0 (en k as) [] M = some (some v, M1)) (hI : Inv M) (hlen : (lay as).length ≤ mL k) (hH : ¬ mHH k = []) :
    vx_Met l (mY k) (mWs k) ({ frames := d, cells := M1.2.2.2.2.1 - M.2.2.2.2.1, slots := M1.2.2.2.2.2 - M.2.2.2.2.2, locals := 41 * d } : Room) (PcM D b ex cA xs L as M) (QcM D b ex cA v M1) (fun _ _ _ => False) (M1.2.2.2.2.1 - M.2.2.2.2.1) (M1.2.2.2.2.2 - M.2.2.2.2.2) (Ab b) := by
  have hgr := gr_xq _ _ _ _ _ _ _ _ _ hq
  have hw : mWs k = Cond.codeWith (mY k) (mB k) (mL k) (mR k) (mHH k) :: mjS.filter goodWord := by
    unfold mWs mCo
    rw [if_neg hH]
  refine vx_ofWH (cc := mB k) (maxL := mL k) (ret := mR k) (m_plain k) hw ?_
  intro p e s m args below meth c s₁ B hml hv
  obtain ⟨rfl, hsz, hP, hK, hSt⟩ := hv
  have hts0 := atoms_spec (ws := mWs k) B.pre
  have htab : c.exceptionTable.toList = tableOf (mHH k) := vx_table (x := mY k) B (hts0 _ (by rw [hw]; exact List.mem_cons_self))
  rw [lg_entry_eq]
  refine ih d k 0 (en k as) [] M (some v) M1 hq p e _ s m _ below meth c s.heap [] 0 0 _ _ M.2.2.2.2.2 B.exec B.bytes hml (by rw [m_own]; exact findClass_of_methodNamed B.named) (name_of_methodNamed B.named B.method).1 (fun w h1 h2 => hts0 w (List.mem_cons_of_mem _ (List.mem_filter.mpr ⟨h1, h2⟩))) B.notSynchronized htab hK hSt (Nat.le_refl _) (Nat.le_refl _) hI hP hsz (by omega) va_S.rf (LV.entry b ex as k hlen) ?_ (by omega) ?_ rfl ?_ ?_ (fun h => by cases h)
  · simp only [en, List.length_append, List.length_replicate]
    omega
  · have := hgr.2.1
    show b + M1.2.2.2.2.1 + 1 ≤ s.heap.size + (M1.2.2.2.2.1 - M.2.2.2.2.1)
    omega
  · have := hgr.2.2
    show M1.2.2.2.2.2 ≤ M.2.2.2.2.2 + (M1.2.2.2.2.2 - M.2.2.2.2.2)
    omega
  · intro v9 hv9 H1 locs1 cells1 slots1 pc1 ls1 i st1 q1 q2 q3 q4 q5 q6 q7
    cases hv9
    have e1 : cells1 = M1.2.2.2.2.1 - M.2.2.2.2.1 := by omega
    have e2 : slots1 = M1.2.2.2.2.2 - M.2.2.2.2.2 := by omega
    subst e1
    subst e2
    exact vx_ret (sd_ret B.exec B.bytes B.returns B.notSynchronized q1 q2 q3 q6 q7)
set_option maxHeartbeats 4000000 in
/-- a callee that throws -/
theorem cm_thr (ih : Sd l D b ex cA xs L n) {d k : Nat} {as : List Value} {M M1 : MH} (hq : xq xs L n d k 0 (en k as) [] M = some (none, M1)) (hI : Inv M) (hlen : (lay as).length ≤ mL k) (hH : mHH k = []) :
    vx_Met l (mY k) (mWs k) ({ frames := d, cells := M1.2.2.2.2.1 - M.2.2.2.2.1, slots := M1.2.2.2.2.2 - M.2.2.2.2.2, locals := 41 * d } : Room) (PcM D b ex cA xs L as M) (fun _ _ _ _ => False) (XcM D b ex cA M1) (M1.2.2.2.2.1 - M.2.2.2.2.1) (M1.2.2.2.2.2 - M.2.2.2.2.2) (Ab b) := by
  have hgr := gr_xq _ _ _ _ _ _ _ _ _ hq
  have hw : mWs k = Cond.code (mY k) (mB k) (mL k) (mR k) :: mjS.filter goodWord := by
    unfold mWs mCo
    rw [if_pos hH]
  refine vx_ofW (cc := mB k) (maxL := mL k) (ret := mR k) (m_plain k) hw ?_
  intro p e s m args below meth c s₁ B hml htb hv
  obtain ⟨rfl, hsz, hP, hK, hSt⟩ := hv
  have hts0 := atoms_spec (ws := mWs k) B.pre
  have htab : c.exceptionTable.toList = tableOf (mHH k) := by
    rw [hH]
    cases hc : c.exceptionTable.toList with
    | nil => rfl
    | cons x t => exact absurd (by rw [hc]; exact List.mem_cons_self) (fun h => htb x h)
  rw [lg_entry_eq]
  refine ih d k 0 (en k as) [] M none M1 hq p e _ s m _ below meth c s.heap [] 0 0 _ _ M.2.2.2.2.2 B.exec B.bytes hml (by rw [m_own]; exact findClass_of_methodNamed B.named) (name_of_methodNamed B.named B.method).1 (fun w h1 h2 => hts0 w (List.mem_cons_of_mem _ (List.mem_filter.mpr ⟨h1, h2⟩))) B.notSynchronized htab hK hSt (Nat.le_refl _) (Nat.le_refl _) hI hP hsz (by omega) va_S.rf (LV.entry b ex as k hlen) ?_ (by omega) ?_ rfl ?_ (fun v h => by cases h) (fun _ => ⟨_, _, _, rfl, ?_, ?_⟩)
  · simp only [en, List.length_append, List.length_replicate]
    omega
  · have := hgr.2.1
    show b + M1.2.2.2.2.1 + 1 ≤ s.heap.size + (M1.2.2.2.2.1 - M.2.2.2.2.1)
    omega
  · have := hgr.2.2
    show M1.2.2.2.2.2 ≤ M.2.2.2.2.2 + (M1.2.2.2.2.2 - M.2.2.2.2.2)
    omega
  · have := hgr.2.1
    omega
  · have := hgr.2.2
    omega
end SD
end
section
/-! ===== soundness ===== -/
section MAIN
variable {l : Launch} {D : va_G} {b : Nat} {ex : Nat → Nat} {cA : FieldType → ClassId} {xs : Nat → Int32} {L n : Nat}
variable {p : Program} {e : Env} {R : Room} {s : State} {m : MethodId} {args : Array Value} {below : List Frame} {meth : Method} {c : Code} {H : Heap} {locs : List Loc} {cells slots : Nat} {Q : State → Prop} {ls : Array Slot} {j pc d y : Nat} {st as rest : List Value} {M M1 : MH} {v : Option Value}
/-- what a caller hands over -/
theorem pre_call (hK : va_K D mjC (tyL cA) s) (hSt : StF b ex xs L s s.heap) (hP : va_P D mjC (wsO b ex cA M) H) (hz : H.size = b + M.2.2.2.2.1 + 1) (hS : va_S (Ab b) s.heap H locs) : ∀ U : State, U.heap = H → s.WarmedH U.vm → PcM D b ex cA xs L as M (as.map (up b ex)).toArray U :=
  fun U hU hW => ⟨rfl, by rw [hU]; exact hz, by rw [hU]; exact hP, va_K.moved hW.alike hK, StF.moved hW (by rw [hU]; exact hSt.kept hS.1 hS.2.1)⟩
theorem room_ok {k d' : Nat} (h1 : d' + 1 ≤ R.frames) (h2 : 41 * (d' + 1) ≤ R.locals) : d' + 1 ≤ R.frames ∧ 8 + (mL k + 11) + 41 * d' ≤ R.locals := by
  have := m_max k
  exact ⟨h1, by omega⟩
theorem wt_ok {st : List Value} (h : wt st ≤ 8) : ((st.map (up b ex)).map fun v => v.category).sum ≤ 8 := by rw [up_wt]; exact h
set_option maxHeartbeats 8000000 in
/-- the machine's call of a method, any of our kinds, that returns -/
theorem sn_callR (ih : Sd l D b ex cA xs L n) {d' : Nat} {i : Instr} {fg : Bool} (hx : p.tables.exec = Jvm.exec) (hb : c.code = mB j) (hml : c.maxLocals = mL j) (hown : s.vm.findClass (oN (mO j)) = some m.cls) (hts : ∀ w ∈ mjS, goodWord w = true → w.before args s = true) (hK : va_K D mjC (tyL cA) s) (hSt : StF b ex xs L s s.heap) (hRf : d' + 1 ≤ R.frames) (hRl : 41 * (d' + 1) ≤ R.locals)
    (hI : Inv M) (hP : va_P D mjC (wsO b ex cA M) H) (hz : H.size = b + M.2.2.2.2.1 + 1) (hS : va_S (Ab b) s.heap H locs) (hsz : ls.size = mL j)
    (hd : decode (mB j) pc = .ok (i, 3)) (hcl : cl j i st M = some (y, as, rest, fg)) (hq : xq xs L n d' y 0 (en y as) [] M = some (some v, M1)) (hc : cells + (M1.2.2.2.2.1 - M.2.2.2.2.1) ≤ R.cells) (hs : slots + (M1.2.2.2.2.2 - M.2.2.2.2.2) ≤ R.slots)
    (kk : ∀ (H1 : Heap) (locs1 : List Loc), va_P D mjC (wsO b ex cA M1) H1 → H1.size = b + M1.2.2.2.2.1 + 1 → va_S (Ab b) s.heap H1 locs1 → W p l e R s m args below meth c H1 locs1 (cells + (M1.2.2.2.2.1 - M.2.2.2.2.1)) (slots + (M1.2.2.2.2.2 - M.2.2.2.2.2)) Q (F0 m (pc + 3) ls ((v.toList ++ rest).map (up b ex)))) : W p l e R s m args below meth c H locs cells slots Q (F0 m pc ls (st.map (up b ex))) := by
  have hts2 := htf hts
  have fix : CallFix p m c (mB j) (mL j) s args (mjS.filter goodWord) (oN (mO j)) := ⟨hx, hb, hml, hown, hts2⟩
  have kk2 : ∀ (H1 : Heap) (locs1 : List Loc), va_P D mjC (wsO b ex cA M1) H1 → H1.size = b + M1.2.2.2.2.1 + 1 → va_S (Ab b) s.heap H1 locs1 → W p l e R s m args below meth c H1 locs1 (cells + (M1.2.2.2.2.1 - M.2.2.2.2.1)) (slots + (M1.2.2.2.2.2 - M.2.2.2.2.2)) Q (F0 m (pc + 3) ls ((v.map (up b ex)).toList ++ rest.map (up b ex))) := fun H1 locs1 q1 q2 q3 => by rw [ret_st]; exact kk H1 locs1 q1 q2 q3
  have hpre := pre_call (as := as) hK hSt hP hz hS
  cases i
  case invokestatic k =>
    simp only [cl] at hcl
    split at hcl
    · rename_i y9 hy
      split at hcl
      · rename_i hc9
        cases hcl
        obtain ⟨g1, g2, g3, g4, g5, g6⟩ := cs_at hy
        have hstk : st.map (up b ex) = (((st.take (mP y)).reverse).map (up b ex)).reverse ++ (st.drop (mP y)).map (up b ex) := by
          rw [List.map_reverse, List.reverse_reverse, ← List.map_append, List.take_append_drop]
        have hw : mWs y = Cond.code (mY y) (mB y) (mL y) (mR y) :: mjS.filter goodWord := by
          unfold mWs mCo
          rw [if_pos g6]
        refine mx_call (va_runS (n := mP y) (As := ((st.take (mP y)).reverse).map (up b ex)) fix (cm_ret ih hq hI hc9.2.1 g6) (va_cwS (mP y) hts2 (goodIn_app (fun w h => ?_) (mWs_in g1)) hw rfl rfl ⟨(nMH_of g5.1).1, (nMH_of g5.1).2, np_of g5.2⟩ (room_ok hRf hRl)) ⟨PcM_blind _ _ _ _ _ _ _ _, hpre⟩ rfl ?_ hsz hstk (lv_room (wt_ok hc9.2.2.1)) hd ⟨hc, hs⟩) hS kk2
        · rcases List.mem_cons.mp h with rfl | h
          · exact gw_in g2 rfl
          · rcases List.mem_cons.mp h with rfl | h
            · exact gw_in g3 rfl
            · rcases List.mem_cons.mp h with rfl | h
              · exact gw_in g4 rfl
              · cases h
        · simp
          have := hc9.1
          omega
      · cases hcl
    · cases hcl
  case invokespecial k =>
    simp only [cl] at hcl
    split at hcl
    · rename_i y9 hy
      split at hcl
      · rename_i a t hdr
        split at hcl
        · rename_i hc9
          cases hcl
          obtain ⟨g1, g2, g3, g4, g5, g6, g7, g8⟩ := cp_at hy
          have hw : mWs y = Cond.code (mY y) (mB y) (mL y) (none) :: mjS.filter goodWord := by
            unfold mWs mCo
            rw [if_pos g6, g7]
          have hmet := cm_ret ih hq hI hc9.1 g6
          rcases g2 with g2 | ⟨host, g2⟩
          · exact mx_call (va_runI (n := mP y) (b := b + (a + 1)) (As := ((st.take (mP y)).reverse).map (up b ex)) fix hmet (cwI (mP y) hts2 (mWs_in g1) hw rfl rfl (hts _ g4 rfl) (hts _ g2 rfl) (hts _ g3 rfl) g8 ⟨(nMH_of g5.1).1, (nMH_of g5.1).2, np_of g5.2⟩ (room_ok hRf hRl)) ⟨PcM_blind _ _ _ _ _ _ _ _, hpre⟩ rfl (stk_len hdr) hsz (stk hdr) (lv_room (wt_ok hc9.2.1)) hd ⟨hc, hs⟩) hS kk2
          · exact mx_call (va_runIN (n := mP y) (b := b + (a + 1)) (As := ((st.take (mP y)).reverse).map (up b ex)) fix hmet ⟨va_cnB (mP y) hts2 (mWs_in g1) hw rfl rfl (hSt.2.2.2.2.1 _ g2 rfl) (hts _ g4 rfl) ⟨(nMH_of g5.1).1, (nMH_of g5.1).2, np_of g5.2⟩ (room_ok hRf hRl), g8, hts _ g3 rfl⟩ ⟨PcM_blind _ _ _ _ _ _ _ _, hpre⟩ rfl (stk_len hdr) hsz (stk hdr) (lv_room (wt_ok hc9.2.1)) hd ⟨hc, hs⟩) hS kk2
        · cases hcl
      · cases hcl
    · cases hcl
  case invokevirtual k =>
    simp only [cl] at hcl
    split at hcl
    · rename_i n9 hn9
      split at hcl
      · rename_i a t hdr
        split at hcl
        · rename_i ci hsh
          split at hcl
          · rename_i y9 hy
            split at hcl
            · rename_i hc9
              cases hcl
              obtain ⟨g1, g2, g3, g4⟩ := cv_at hy
              have en9 : n9 = mP y := Option.some.inj (hn9.symm.trans g3)
              subst en9
              obtain ⟨ha0, haz⟩ := hI.in (a := a) (fun q => by rw [hsh] at q; cases q; exact absurd g2 (by decide))
              have hat := wsO_at (b := b) (ex := ex) (cA := cA) ha0 haz
              rw [ceE_o hsh] at hat
              have hrec := va_recv hK hP (mjC_at (Nat.lt_succ_of_lt g2)) hat
              have hst := stk (b := b) (ex := ex) hdr
              rw [up_ref ha0] at hst
              have hpre2 : ∀ U : State, U.heap = H → s.WarmedH U.vm → PcM D b ex cA xs L (.ref a :: (st.take (mP y)).reverse) M (Value.ref (b + a) :: ((st.take (mP y)).reverse).map (up b ex)).toArray U := by
                have := hpre
                rw [List.map_cons, up_ref ha0] at this
                exact this
              by_cases hH : mHH y = []
              · have hw : mWs y = Cond.code (mY y) (mB y) (mL y) (mR y) :: mjS.filter goodWord := by
                  unfold mWs mCo
                  rw [if_pos hH]
                have hmet := cm_ret ih hq hI hc9.1 hH
                rcases g4 with ⟨w1, w2, w3, w4, w5, w6⟩ | ⟨x, owner, w1, w2, w3, w4, w5, w6, w7, w8, w9⟩
                · refine mx_call (va_runV (n := mP y) (C := mjCN ci) (b := b + a) (As := ((st.take (mP y)).reverse).map (up b ex)) fix hmet (cwV (mP y) hts2 (goodIn_app (fun w h => ?_) (mWs_in g1)) hw rfl rfl ⟨w5, (nMH_of w6.1).1, (nMH_of w6.1).2, np_of w6.2⟩ (room_ok hRf hRl)) ⟨PcM_blind _ _ _ _ _ _ _ _, hrec, hpre2⟩ rfl (stk_len hdr) hsz hst (lv_room (wt_ok hc9.2.1)) hd ⟨hc, hs⟩) hS kk2
                  rcases List.mem_cons.mp h with rfl | h
                  · exact gw_in w1 rfl
                  · rcases List.mem_cons.mp h with rfl | h
                    · exact gw_in w3 rfl
                    · rcases List.mem_cons.mp h with rfl | h
                      · exact gw_in w2 rfl
                      · rcases List.mem_cons.mp h with rfl | h
                        · rw [← w5]; exact gw_in w4 rfl
                        · cases h
                · refine mx_call (va_runU (n := mP y) (C := mjCN ci) (owner := owner) (x := x) (b := b + a) (bytes := mB y) (maxL := mL y) (ret := mR y) (As := ((st.take (mP y)).reverse).map (up b ex)) fix hmet ⟨⟨rfl, rfl, (room_ok (k := y) hRf hRl).1, (room_ok hRf hRl).2, pay_in hts2 (mWs_in g1), by rw [hw]; exact List.mem_cons_self⟩, ?_, hts _ w5 rfl, w7, np_len w8, hts _ w1 rfl, hts _ w2 rfl, ?_, hts _ w3 rfl, hts _ w4 rfl⟩ ⟨PcM_blind _ _ _ _ _ _ _ _, hrec, hpre2⟩ rfl (stk_len hdr) hsz hst (lv_room (wt_ok hc9.2.1)) hd ⟨hc, hs⟩) hS kk2
                  · have := hts _ (mCo_at g1).1 (mCo_at g1).2
                    unfold mCo at this
                    rw [if_pos hH] at this
                    exact this
                  · rcases w6 with w6 | w6
                    · exact va_Decl.abs (hSt.2.2.2.2.1 _ w6 rfl)
                    · rw [← w6]
                      have h7 := hts _ (mCo_at g1).1 (mCo_at g1).2
                      unfold mCo at h7
                      rw [if_pos hH] at h7
                      exact va_Decl.of (hts _ w4 rfl) h7
              · have hw : mWs y = Cond.codeWith (mY y) (mB y) (mL y) (mR y) (mHH y) :: mjS.filter goodWord := by
                  unfold mWs mCo
                  rw [if_neg hH]
                have hmet := cm_retH ih hq hI hc9.1 hH
                rcases g4 with ⟨w1, w2, w3, w4, w5, w6⟩ | ⟨x, owner, w1, w2, w3, w4, w5, w6, w7, w8, w9⟩
                · refine mx_callR (vx_runVX (n := mP y) (C := mjCN ci) (b := b + a) (As := ((st.take (mP y)).reverse).map (up b ex)) fix hmet (vx_cwVW (mP y) hts2 (goodIn_app (fun w h => ?_) (mWs_in g1)) hw rfl rfl ⟨w5, (nMH_of w6.1).1, (nMH_of w6.1).2, np_of w6.2⟩ (room_ok hRf hRl)) ⟨PcM_blind _ _ _ _ _ _ _ _, hrec, hpre2⟩ rfl (stk_len hdr) hsz hst (lv_room (wt_ok hc9.2.1)) hd ⟨hc, hs⟩) hS kk2
                  rcases List.mem_cons.mp h with rfl | h
                  · exact gw_in w1 rfl
                  · rcases List.mem_cons.mp h with rfl | h
                    · exact gw_in w3 rfl
                    · rcases List.mem_cons.mp h with rfl | h
                      · exact gw_in w2 rfl
                      · rcases List.mem_cons.mp h with rfl | h
                        · rw [← w5]; exact gw_in w4 rfl
                        · cases h
                · exact absurd w9 hH
            · cases hcl
          · cases hcl
        · cases hcl
      · cases hcl
    · cases hcl
  all_goals exact (nomatch (show (none : Option (Nat × List Value × List Value × Bool)) = some _ from hcl))
end MAIN
end
section
/-! ===== soundness, throws and all ===== -/
abbrev IAEn : String := "java/lang/IllegalArgumentException"
abbrev IAEs : List String := ["java/lang/RuntimeException", "java/lang/Exception"]
theorem iae_a : ((vx_at0 RX14 130 IAEn IAEs).filter goodWord).all (fun w => decide (w ∈ mjS)) = true := by decide +kernel
theorem iae_b : ((vx_at0 RX14 130 IAEn IAEs).filter (fun w => !goodWord w)).all (fun w => isNw w && decide (w ∈ mjS)) = true := by decide +kernel
theorem iae_c : (Cond.classLink RX14 128 IAEn :: Cond.initialized IAEn :: vx_at0 RX14 130 IAEn IAEs).all vx_ot = true := by decide +kernel
theorem iae_d : Cond.classLink RX14 128 IAEn ∈ mjS ∧ Cond.initialized IAEn ∈ mjS ∧ Cond.castable IAEn IAEn ∈ mjS := by decide +kernel
theorem iae_f : Bundle.fit IAEn = true ∧ ∀ n ∈ IAEs, Bundle.fit n = true := by decide +kernel
/-- the code at the three throws -/
def thOK (r : Nat × Nat) : Bool := decide (mO r.1 = 14) && (decide (mHH r.1 = []) && (decide (decode (mB r.1) r.2 = .ok (.new 128, 3)) && (decide (decode (mB r.1) (r.2 + 3) = .ok (.dup, 1)) && (decide (decode (mB r.1) (r.2 + 4) = .ok (.invokespecial 130, 3)) && decide (decode (mB r.1) (r.2 + 7) = .ok (.athrow, 1))))))
theorem mjTh_ok : mjTh.all thOK = true := by decide +kernel
/-- the handlers: they begin with astore_1, catch that class, and belong to the model -/
def hhOK (j : Nat) : Bool := match mHH j with
  | [] => true
  | [(_, _, h, ct)] => decide (mO j = 14) && (decide (ct = 128) && (decide (decode (mB j) h = .ok (.astore_n 1, 1)) && decide (1 < mL j)))
  | _ => false
theorem mjHH_ok : (List.range 169).all hhOK = true := by decide +kernel
theorem hh_at (j : Nat) : hhOK j = true := by
  by_cases h : j < 169
  · exact List.all_eq_true.mp mjHH_ok j (List.mem_range.mpr h)
  · have h1 : mHH j = [] := by
      show (mjr j).2.2.2.2.2.2 = []
      unfold mjr
      rw [tb_gd (by show 169 ≤ j; omega)]
    unfold hhOK
    rw [h1]
end
section
section SD3
variable {l : Launch} {D : va_G} {b : Nat} {ex : Nat → Nat} {cA : FieldType → ClassId} {xs : Nat → Int32} {L n : Nat}
variable {p : Program} {e : Env} {R : Room} {s : State} {m : MethodId} {args : Array Value} {below : List Frame} {meth : Method} {c : Code} {H : Heap} {locs : List Loc} {cells slots : Nat} {Q : State → Prop} {ls : Array Slot} {j pc d y : Nat} {st as rest : List Value} {M M1 : MH} {v : Option Value}
set_option maxHeartbeats 8000000 in
/-- a call of a method that throws -/
theorem sn_callX (ih : Sd l D b ex cA xs L n) {d' : Nat} {i : Instr} (hx : p.tables.exec = Jvm.exec) (hb : c.code = mB j) (hml : c.maxLocals = mL j) (hown : s.vm.findClass (oN (mO j)) = some m.cls) (hts : ∀ w ∈ mjS, goodWord w = true → w.before args s = true) (hK : va_K D mjC (tyL cA) s) (hSt : StF b ex xs L s s.heap) (hRf : d' + 1 ≤ R.frames) (hRl : 41 * (d' + 1) ≤ R.locals)
    (hI : Inv M) (hP : va_P D mjC (wsO b ex cA M) H) (hz : H.size = b + M.2.2.2.2.1 + 1) (hS : va_S (Ab b) s.heap H locs) (hsz : ls.size = mL j)
    (hd : decode (mB j) pc = .ok (i, 3)) (hcl : cl j i st M = some (y, as, rest, true)) (hq : xq xs L n d' y 0 (en y as) [] M = some (none, M1)) (hc : cells + (M1.2.2.2.2.1 - M.2.2.2.2.1) ≤ R.cells) (hs : slots + (M1.2.2.2.2.2 - M.2.2.2.2.2) ≤ R.slots)
    (kk : ∀ (ce : Cell) (q : Addr) (H1 : Heap) (locs1 : List Loc), va_P D mjC (wsO b ex cA M1) H1 → H1.size = b + M1.2.2.2.2.1 + 1 → va_S (Ab b) s.heap H1 locs1 → H1[q]? = some ce → ce.vm = .none → s.vm.findClass "java/lang/IllegalArgumentException" = some ce.cls → vx_W p l e R s m args below meth c H1 locs1 (cells + (M1.2.2.2.2.1 - M.2.2.2.2.1)) (slots + (M1.2.2.2.2.2 - M.2.2.2.2.2)) Q (F0 m pc ls (rest.map (up b ex))) q) : W p l e R s m args below meth c H locs cells slots Q (F0 m pc ls (st.map (up b ex))) := by
  have hts2 := htf hts
  have fix : CallFix p m c (mB j) (mL j) s args (mjS.filter goodWord) (oN (mO j)) := ⟨hx, hb, hml, hown, hts2⟩
  have hpre := pre_call (as := as) hK hSt hP hz hS
  cases i
  case invokevirtual k =>
    simp only [cl] at hcl
    split at hcl
    · rename_i n9 hn9
      split at hcl
      · rename_i a t hdr
        split at hcl
        · rename_i ci hsh
          split at hcl
          · rename_i y9 hy
            split at hcl
            · rename_i hc9
              have e0 := Option.some.inj hcl
              have e1 : y9 = y := (Prod.mk.inj e0).1
              have e2 : .ref a :: (st.take n9).reverse = as := (Prod.mk.inj (Prod.mk.inj e0).2).1
              have e3 : t = rest := (Prod.mk.inj (Prod.mk.inj (Prod.mk.inj e0).2).2).1
              have e4 : cvk (mO j) k ci = true := (Prod.mk.inj (Prod.mk.inj (Prod.mk.inj e0).2).2).2
              subst e1
              subst e2
              subst e3
              obtain ⟨g1, g2, g3, -⟩ := cv_at hy
              obtain ⟨⟨w1, w2, w3, w4, w5, w6⟩, hH⟩ := cvk_at hy e4
              have en9 : n9 = mP y9 := Option.some.inj (hn9.symm.trans g3)
              subst en9
              obtain ⟨ha0, haz⟩ := hI.in (a := a) (fun q => by rw [hsh] at q; cases q; exact absurd g2 (by decide))
              have hat := wsO_at (b := b) (ex := ex) (cA := cA) ha0 haz
              rw [ceE_o hsh] at hat
              have hrec := va_recv hK hP (mjC_at (Nat.lt_succ_of_lt g2)) hat
              have hst := stk (b := b) (ex := ex) hdr
              rw [up_ref ha0] at hst
              have hpre2 : ∀ U : State, U.heap = H → s.WarmedH U.vm → PcM D b ex cA xs L (.ref a :: (st.take (mP y9)).reverse) M (Value.ref (b + a) :: ((st.take (mP y9)).reverse).map (up b ex)).toArray U := by
                have := hpre
                rw [List.map_cons, up_ref ha0] at this
                exact this
              have hw : mWs y9 = Cond.code (mY y9) (mB y9) (mL y9) (mR y9) :: mjS.filter goodWord := by
                unfold mWs mCo
                rw [if_pos hH]
              refine mx_callX (vx_runV (n := mP y9) (C := mjCN ci) (b := b + a) (As := ((st.take (mP y9)).reverse).map (up b ex)) fix (cm_thr ih hq hI hc9.1 hH) (cwV (mP y9) hts2 (goodIn_app (fun w h => ?_) (mWs_in g1)) hw rfl rfl ⟨w5, (nMH_of w6.1).1, (nMH_of w6.1).2, np_of w6.2⟩ (room_ok hRf hRl)) ⟨PcM_blind _ _ _ _ _ _ _ _, hrec, hpre2⟩ rfl (stk_len hdr) hsz hst (lv_room (wt_ok hc9.2.1)) hd ⟨hc, hs⟩) hS kk
              rcases List.mem_cons.mp h with rfl | h
              · exact gw_in w1 rfl
              · rcases List.mem_cons.mp h with rfl | h
                · exact gw_in w3 rfl
                · rcases List.mem_cons.mp h with rfl | h
                  · exact gw_in w2 rfl
                  · rcases List.mem_cons.mp h with rfl | h
                    · rw [← w5]; exact gw_in w4 rfl
                    · cases h
            · cases hcl
          · cases hcl
        · cases hcl
      · cases hcl
    · cases hcl
  case invokestatic k =>
    exfalso
    simp only [cl] at hcl
    split at hcl
    · split at hcl
      · cases hcl
      · cases hcl
    · cases hcl
  case invokespecial k =>
    exfalso
    simp only [cl] at hcl
    split at hcl
    · split at hcl
      · split at hcl
        · cases hcl
        · cases hcl
      · cases hcl
    · cases hcl
  all_goals exact (nomatch (show (none : Option (Nat × List Value × List Value × Bool)) = some _ from hcl))
/-- behind a throw: the world with the thrown thing in it -/
theorem thr_world {t : State} (hK : va_K D mjC (tyL cA) s) (hP : va_P D mjC (wsO b ex cA M) H) (hz : H.size = b + M.2.2.2.2.1 + 1) (hS : va_S (Ab b) s.heap H locs) (h1 : t.heap.size = H.size + 1) (h2 : ∀ q : Nat, q < H.size → t.heap[q]? = H[q]?) (h3 : ∃ ce : Cell, t.heap[H.size]? = some ce ∧ ce.vm = .none ∧ s.vm.findClass IAEn = some ce.cls) : XcM D b ex cA (thM M) IAEn s t := by
  obtain ⟨ce, g1, g2, g3⟩ := h3
  have hc : mjC[14]? = some (mjCN 14, mjTT 14, nF 14) := mjC_at (by decide)
  have hKn := hK.1 14 _ hc
  have hcls : ce.cls = D.1 14 := by
    have h9 : s.vm.findClass IAEn = some (D.1 14) := hKn.2.1
    exact Option.some.inj (g3.symm.trans h9)
  refine ⟨⟨rfl, by rw [h1, hz]; rfl, ?_⟩, ⟨by have := hS.1; omega, fun q q1 q2 => (h2 q (Nat.lt_of_lt_of_le q1 hS.1)).trans (hS.2.1 q q1 q2)⟩⟩
  refine sn_push (M' := thM M) hP hz rfl (fun x hx => ceE_congr (u1_n _ _ (by omega)) rfl rfl rfl) h2 ?_
  rw [ceE_o (M := thM M) (u1_s _ _ _)]
  refine ⟨_, hc, ce, ?_, hcls, g2, fun k hk => absurd hk (by show ¬ k < 0; omega)⟩
  rw [show (b + (M.2.2.2.2.1 + 1), (Sum.inr (14, _) : va_E)).1 = H.size from by rw [hz]; rfl]
  exact g1
set_option maxHeartbeats 8000000 in
set_option maxRecDepth 100000 in
theorem sd_all (hIx : IxH l b ex xs L) (hnt : l.stackTraces = false) : ∀ n, Sd l D b ex cA xs L n := by
  intro n
  induction n with
  | zero => intro d j pc vs st M o M' h; cases h
  | succ n ih =>
    intro d j pc vs st M o M' h p e R s m args below meth c H locs cells slots Q ls sl0 hx hb hml hown hnm hts hlocks htab hK hSt hRf hRl hI hP hz hh hS hl hlen hbs hRc hsl hRs hret hthr
    have hsz : ls.size = mL j := hl.1.trans hlen
    unfold xq at h
    split at h
    · cases h
    · rename_i i ln hdec
      split at h
      · cases h
      · rename_i hok
        have hok : okL i ln = true := by
          cases hq : okL i ln
          · exact absurd hq hok
          · rfl
        split at h
        · -- an instruction
          rename_i r hr
          have hgr := gr_xq _ _ _ _ _ _ _ _ _ h
          unfold xn at hr
          split at hr
          · rename_i r1 hA
            cases hr
            obtain ⟨vs', st'⟩ := r1
            exact snA hx hb hown hts hdec hok hl hA (fun ls' hl' hlen' => ih _ _ _ _ _ _ _ _ h p e R s m args below meth c H locs cells slots Q ls' sl0 hx hb hml hown hnm hts hlocks htab hK hSt hRf hRl hI hP hz hh hS hl' (hlen'.trans hlen) hbs hRc hsl hRs hret hthr)
          · split at hr
            · rename_i r1 hB
              cases hr
              obtain ⟨tgt, st'⟩ := r1
              exact snB hx hb hdec hok hB (ih _ _ _ _ _ _ _ _ h p e R s m args below meth c H locs cells slots Q ls sl0 hx hb hml hown hnm hts hlocks htab hK hSt hRf hRl hI hP hz hh hS hl hlen hbs hRc hsl hRs hret hthr)
            · cases hC : xnC xs L d j pc i st M with
              | none => rw [hC] at hr; cases hr
              | some r1 =>
                rw [hC] at hr
                cases hr
                obtain ⟨pc', st', Mm⟩ := r1
                have hg2 := gr_xnC hC
                have g1 := hgr.2.1
                have g2 := hgr.2.2
                have g3 := hg2.2.1
                have g4 := hg2.2.2
                dsimp only at g1 g2 g3 g4 h
                refine snC hx hb hown hnm hts hK hSt (hIx p e R s m args below meth c d hx hts hSt hRf hRl) (hsz.trans hml.symm) hI hP hz hh hS hRf hRl (by omega) (by omega) hdec hok hC (fun H' locs' q1 q2 q3 => ?_)
                exact ih _ _ _ _ _ _ _ _ h p e R s m args below meth c H' locs' _ _ Q ls sl0 hx hb hml hown hnm hts hlocks htab hK hSt hRf hRl (hg2.1 hI) q1 q2 (by omega) q3 hl hlen hbs hRc (by omega) hRs hret hthr
        · split at h
          · -- a return
            rename_i v hv
            cases h
            have hln : ln = 1 := by
              rcases rt_at hv with ⟨x, ty, rfl, -⟩ | ⟨x, rfl, -⟩ | ⟨rfl, -⟩
              · exact (okL_eq hok rfl).symm
              · exact (okL_eq hok rfl).symm
              · exact (okL_eq hok rfl).symm
            subst hln
            exact hret v rfl H locs cells slots pc ls i st hP hz hS hh hsl hdec hv
          · split at h
            · -- a call
              rename_i r hr
              split at h
              · cases h
              · rename_i d'
                obtain ⟨y, as, rest, fg⟩ := r
                have hln : ln = 3 := by
                  cases i <;> first | exact (okL_eq hok rfl).symm | exact (nomatch (show (none : Option (Nat × List Value × List Value × Bool)) = some _ from hr))
                subst hln
                split at h
                · cases h
                · rename_i v M1 hq
                  have hg1 := gr_xq _ _ _ _ _ _ _ _ _ hq
                  have hg2 := gr_xq _ _ _ _ _ _ _ _ _ h
                  have g1 := hg1.2.1
                  have g2 := hg1.2.2
                  have g3 := hg2.2.1
                  have g4 := hg2.2.2
                  refine sn_callR ih hx hb hml hown hts hK hSt hRf hRl hI hP hz hS hsz hdec hr hq (by omega) (by omega) (fun H1 locs1 q1 q2 q3 => ?_)
                  exact ih _ _ _ _ _ _ _ _ h p e R s m args below meth c H1 locs1 _ _ Q ls sl0 hx hb hml hown hnm hts hlocks htab hK hSt hRf hRl (hg1.1 hI) q1 q2 (by omega) q3 hl hlen hbs hRc (by omega) hRs hret hthr
                · rename_i M1 hq
                  split at h
                  · cases h
                  · rename_i hfg
                    have hfg : fg = true := by
                      cases hfg9 : fg
                      · exact absurd hfg9 hfg
                      · rfl
                    subst hfg
                    have hg1 := gr_xq _ _ _ _ _ _ _ _ _ hq
                    have g1 := hg1.2.1
                    have g2 := hg1.2.2
                    have hhj := hh_at j
                    split at h
                    · -- caught here
                      rename_i h9 hh9
                      have hg2 := gr_xq _ _ _ _ _ _ _ _ _ h
                      have g3 := hg2.2.1
                      have g4 := hg2.2.2
                      refine sn_callX ih hx hb hml hown hts hK hSt hRf hRl hI hP hz hS hsz hdec hr hq (by omega) (by omega) (fun ce q H1 locs1 q1 q2 q3 q4 q5 q6 => ?_)
                      unfold hd at hh9
                      split at hh9
                      · rename_i a1 b1 h1 ct hHH
                        split at hh9
                        · rename_i hab
                          cases hh9
                          unfold hhOK at hhj
                          rw [hHH] at hhj
                          simp only [Bool.and_eq_true, decide_eq_true_eq] at hhj
                          obtain ⟨k1, k2, k3, k4⟩ := hhj
                          have hown2 : s.vm.findClass RX14 = some m.cls := by rw [k1] at hown; exact hown
                          refine mx_catch (own := RX14) (name := IAEn) hown2 (⟨a1, b1, h1, ct⟩ : ExceptionTableEntry) (by rw [htab, hHH]; rfl) (by simp [covers, hab.1, hab.2]) (by show ct ≠ 0; omega) (by show (Cond.classLink RX14 ct IAEn).before args s = true; rw [k2]; exact hts _ iae_d.1 rfl) (va_Nw.use rfl (hSt.2.2.2.2.1 _ iae_d.2.2 rfl)) q4 q5 q6 ?_
                          refine lv_astore_n (i := 1) hx hb k3 rfl hl.has (by omega) rfl (fun ls9 h9 => ?_)
                          refine ih _ _ _ _ _ _ _ _ h p e R s m args below meth c H1 locs1 _ _ Q ls9 sl0 hx hb hml hown hnm hts hlocks htab hK hSt hRf hRl (hg1.1 hI) q1 q2 (by omega) q3 ⟨?_, h9.2.1, fun i9 w9 hi9 hk9 => ?_⟩ (by rw [List.length_set, klL_len]; exact hlen) hbs hRc (by omega) hRs hret hthr
                          · rw [List.length_set, klL_len]; exact h9.1
                          · by_cases hi1 : i9 = 1
                            · subst hi1
                              rw [List.getElem?_set_self (by rw [klL_len]; omega)] at hi9
                              cases hi9
                              cases hk9
                            · rw [List.getElem?_set_ne (Ne.symm hi1)] at hi9
                              obtain ⟨hv1, hv2⟩ := klL_get vs 1 i9 w9 hi9 hk9
                              refine h9.2.2 (i9, up b ex w9) (List.mem_cons_of_mem _ (List.mem_filter.mpr ⟨lvl_mem.mpr ⟨w9, hv1, hk9, rfl⟩, ?_⟩))
                              simp only [Bool.and_eq_true, Bool.not_eq_true', beq_eq_false_iff_ne, ne_eq, Bool.and_eq_false_iff]
                              refine ⟨hi1, ?_⟩
                              by_cases hz9 : i9 + 1 = 1
                              · exact Or.inr (by rw [up_cat]; exact hv2 hz9)
                              · exact Or.inl hz9
                        · cases hh9
                      · cases hh9
                    · -- it goes on
                      rename_i hh9
                      cases h
                      obtain ⟨mc, ms, Qc, rfl, e1, e2⟩ := hthr rfl
                      refine sn_callX ih hx hb hml hown hts hK hSt hRf hRl hI hP hz hS hsz hdec hr hq (by omega) (by omega) (fun ce q H1 locs1 q1 q2 q3 q4 q5 q6 => ?_)
                      refine vx_out (E := IAEn) ?_ hlocks q4 q5 q6 (fun t ht hA => ⟨⟨rfl, by rw [ht]; exact q2, by rw [ht]; exact q1⟩, q3.F ht⟩) q3.2.2 (by omega) (by omega)
                      intro x hx9
                      rw [htab] at hx9
                      cases hHH : mHH j with
                      | nil => rw [hHH] at hx9; cases hx9
                      | cons r9 t9 =>
                        unfold hhOK at hhj
                        rw [hHH] at hhj hx9
                        cases t9 with
                        | cons => cases hhj
                        | nil =>
                          obtain ⟨a1, b1, h1, ct⟩ := r9
                          unfold hd at hh9
                          rw [hHH] at hh9
                          dsimp only at hh9
                          split at hh9
                          · cases hh9
                          · rename_i hab
                            rcases List.mem_cons.mp hx9 with rfl | hx9
                            · simp only [covers, Bool.and_eq_false_iff, decide_eq_false_iff_not]
                              rcases Nat.lt_or_ge pc a1 with q9 | q9
                              · exact Or.inl (by omega)
                              · exact Or.inr (fun q8 => hab ⟨q9, q8⟩)
                            · cases hx9
            · -- a throw
              split at h
              · rename_i hth
                cases h
                obtain ⟨mc, ms, Qc, rfl, e1, e2⟩ := hthr rfl
                unfold th at hth
                rw [Bool.and_eq_true, Bool.and_eq_true] at hth
                obtain ⟨⟨t1, t2⟩, t3⟩ := hth
                have t3 := of_decide_eq_true t3
                have hst : st = [] := List.isEmpty_iff.mp t2
                subst hst
                have tok := List.all_eq_true.mp mjTh_ok (j, pc) (of_decide_eq_true t1)
                unfold thOK at tok
                simp only [Bool.and_eq_true, decide_eq_true_eq] at tok
                obtain ⟨k1, k2, k3, k4, k5, k6⟩ := tok
                have hown2 : s.vm.findClass RX14 = some m.cls := by rw [k1] at hown; exact hown
                have e3 : (thM M).2.2.2.2.1 = M.2.2.2.2.1 + 1 := rfl
                have e4 : (thM M).2.2.2.2.2 = M.2.2.2.2.2 + 6 := rfl
                rw [e3] at e1 hRc
                rw [e4] at e2 hRs
                obtain ⟨-, -, -, ⟨z1, z2⟩, zw, -⟩ := hSt
                refine mx_throw0 (own := RX14) (cls := IAEn) (names := IAEs) (ik := 128) (ic := 130) (A := Ab b) hx hb hnt hown2 iae_f.1 iae_f.2 (hts _ iae_d.1 rfl) (hts _ iae_d.2.1 rfl) ?_ (fun w hw => List.all_eq_true.mp iae_c w hw) z1 z2 hS (hsz.trans hml.symm) k3 k4 k5 k6 ?_ (by show 2 + 3 < R.frames; omega) (by show 0 + (13 * (2 + 1) + 42) ≤ R.locals; omega) (by omega) (by omega) hlocks (fun t q1 q2 q3 q4 => thr_world hK hP hz hS q2 q3 q4) hS.2.2 (by omega) (by omega)
                · intro w hw
                  by_cases hg : goodWord w = true
                  · exact hts w (of_decide_eq_true (List.all_eq_true.mp iae_a w (List.mem_filter.mpr ⟨hw, hg⟩))) hg
                  · have h9 := List.all_eq_true.mp iae_b w (List.mem_filter.mpr ⟨hw, by simp [hg]⟩)
                    rw [Bool.and_eq_true] at h9
                    refine va_Nw.use ?_ (zw w (of_decide_eq_true h9.2) h9.1)
                    have h8 := h9.1
                    cases w <;> first | rfl | exact Bool.noConfusion h8
                · intro x hx9
                  rw [htab, k2] at hx9
                  cases hx9
              · cases h
end SD3
end
section
/-! ===== the text's indexOf ===== -/
theorem dJ0_length_8abf5_0 : decode cJ0_length_8abf5 0 = .ok (.aload_n 0, 1) := by decide +kernel
theorem dJ0_length_8abf5_1 : decode cJ0_length_8abf5 1 = .ok (.getfield 9, 3) := by decide +kernel
theorem dJ0_length_8abf5_4 : decode cJ0_length_8abf5 4 = .ok (.arraylength, 1) := by decide +kernel
theorem dJ0_length_8abf5_5 : decode cJ0_length_8abf5 5 = .ok (.aload_n 0, 1) := by decide +kernel
theorem dJ0_length_8abf5_6 : decode cJ0_length_8abf5 6 = .ok (.invokevirtual 335, 3) := by decide +kernel
theorem dJ0_length_8abf5_9 : decode cJ0_length_8abf5 9 = .ok (.ishr, 1) := by decide +kernel
theorem dJ0_length_8abf5_10 : decode cJ0_length_8abf5 10 = .ok (.ireturn, 1) := by decide +kernel
theorem dJ0_indexOf_0f7a4_0 : decode cJ0_indexOf_0f7a4 0 = .ok (.aload_n 0, 1) := by decide +kernel
theorem dJ0_indexOf_0f7a4_1 : decode cJ0_indexOf_0f7a4 1 = .ok (.iload_n 1, 1) := by decide +kernel
theorem dJ0_indexOf_0f7a4_2 : decode cJ0_indexOf_0f7a4 2 = .ok (.iconst 0, 1) := by decide +kernel
theorem dJ0_indexOf_0f7a4_3 : decode cJ0_indexOf_0f7a4 3 = .ok (.invokevirtual 633, 3) := by decide +kernel
theorem dJ0_indexOf_0f7a4_6 : decode cJ0_indexOf_0f7a4 6 = .ok (.ireturn, 1) := by decide +kernel
theorem dJ0_indexOf_7cf53_0 : decode cJ0_indexOf_7cf53 0 = .ok (.aload_n 0, 1) := by decide +kernel
theorem dJ0_indexOf_7cf53_1 : decode cJ0_indexOf_7cf53 1 = .ok (.invokevirtual 492, 3) := by decide +kernel
theorem dJ0_indexOf_7cf53_4 : decode cJ0_indexOf_7cf53 4 = .ok (.ifCond .eq 19, 3) := by decide +kernel
theorem dJ0_indexOf_7cf53_7 : decode cJ0_indexOf_7cf53 7 = .ok (.aload_n 0, 1) := by decide +kernel
theorem dJ0_indexOf_7cf53_8 : decode cJ0_indexOf_7cf53 8 = .ok (.getfield 9, 3) := by decide +kernel
theorem dJ0_indexOf_7cf53_11 : decode cJ0_indexOf_7cf53 11 = .ok (.iload_n 1, 1) := by decide +kernel
theorem dJ0_indexOf_7cf53_12 : decode cJ0_indexOf_7cf53 12 = .ok (.iload_n 2, 1) := by decide +kernel
theorem dJ0_indexOf_7cf53_13 : decode cJ0_indexOf_7cf53 13 = .ok (.aload_n 0, 1) := by decide +kernel
theorem dJ0_indexOf_7cf53_14 : decode cJ0_indexOf_7cf53 14 = .ok (.invokevirtual 505, 3) := by decide +kernel
theorem dJ0_indexOf_7cf53_17 : decode cJ0_indexOf_7cf53 17 = .ok (.invokestatic 637, 3) := by decide +kernel
theorem dJ0_indexOf_7cf53_20 : decode cJ0_indexOf_7cf53 20 = .ok (.goto 16, 3) := by decide +kernel
theorem dJ0_indexOf_7cf53_23 : decode cJ0_indexOf_7cf53 23 = .ok (.aload_n 0, 1) := by decide +kernel
theorem dJ0_indexOf_7cf53_24 : decode cJ0_indexOf_7cf53 24 = .ok (.getfield 9, 3) := by decide +kernel
theorem dJ0_indexOf_7cf53_27 : decode cJ0_indexOf_7cf53 27 = .ok (.iload_n 1, 1) := by decide +kernel
theorem dJ0_indexOf_7cf53_28 : decode cJ0_indexOf_7cf53 28 = .ok (.iload_n 2, 1) := by decide +kernel
theorem dJ0_indexOf_7cf53_29 : decode cJ0_indexOf_7cf53 29 = .ok (.aload_n 0, 1) := by decide +kernel
theorem dJ0_indexOf_7cf53_30 : decode cJ0_indexOf_7cf53 30 = .ok (.invokevirtual 505, 3) := by decide +kernel
theorem dJ0_indexOf_7cf53_33 : decode cJ0_indexOf_7cf53 33 = .ok (.invokestatic 640, 3) := by decide +kernel
theorem dJ0_indexOf_7cf53_36 : decode cJ0_indexOf_7cf53 36 = .ok (.ireturn, 1) := by decide +kernel
theorem dJ0_coder_7d493_0 : decode cJ0_coder_7d493 0 = .ok (.getstatic 38, 3) := by decide +kernel
theorem dJ0_coder_7d493_3 : decode cJ0_coder_7d493 3 = .ok (.ifCond .eq 10, 3) := by decide +kernel
theorem dJ0_coder_7d493_6 : decode cJ0_coder_7d493 6 = .ok (.aload_n 0, 1) := by decide +kernel
theorem dJ0_coder_7d493_7 : decode cJ0_coder_7d493 7 = .ok (.getfield 15, 3) := by decide +kernel
theorem dJ0_coder_7d493_10 : decode cJ0_coder_7d493 10 = .ok (.goto 4, 3) := by decide +kernel
theorem dJ0_coder_7d493_13 : decode cJ0_coder_7d493 13 = .ok (.iconst 1, 1) := by decide +kernel
theorem dJ0_coder_7d493_14 : decode cJ0_coder_7d493 14 = .ok (.ireturn, 1) := by decide +kernel
theorem dJ0_isLatin1_aae02_0 : decode cJ0_isLatin1_aae02 0 = .ok (.getstatic 38, 3) := by decide +kernel
theorem dJ0_isLatin1_aae02_3 : decode cJ0_isLatin1_aae02 3 = .ok (.ifCond .eq 14, 3) := by decide +kernel
theorem dJ0_isLatin1_aae02_6 : decode cJ0_isLatin1_aae02 6 = .ok (.aload_n 0, 1) := by decide +kernel
theorem dJ0_isLatin1_aae02_7 : decode cJ0_isLatin1_aae02 7 = .ok (.getfield 15, 3) := by decide +kernel
theorem dJ0_isLatin1_aae02_10 : decode cJ0_isLatin1_aae02 10 = .ok (.ifCond .ne 7, 3) := by decide +kernel
theorem dJ0_isLatin1_aae02_13 : decode cJ0_isLatin1_aae02 13 = .ok (.iconst 1, 1) := by decide +kernel
theorem dJ0_isLatin1_aae02_14 : decode cJ0_isLatin1_aae02 14 = .ok (.goto 4, 3) := by decide +kernel
theorem dJ0_isLatin1_aae02_17 : decode cJ0_isLatin1_aae02 17 = .ok (.iconst 0, 1) := by decide +kernel
theorem dJ0_isLatin1_aae02_18 : decode cJ0_isLatin1_aae02 18 = .ok (.ireturn, 1) := by decide +kernel
theorem dJ1_canEncode_9a6ad_0 : decode cJ1_canEncode_9a6ad 0 = .ok (.iload_n 0, 1) := by decide +kernel
theorem dJ1_canEncode_9a6ad_1 : decode cJ1_canEncode_9a6ad 1 = .ok (.ifCond .lt 14, 3) := by decide +kernel
theorem dJ1_canEncode_9a6ad_4 : decode cJ1_canEncode_9a6ad 4 = .ok (.iload_n 0, 1) := by decide +kernel
theorem dJ1_canEncode_9a6ad_5 : decode cJ1_canEncode_9a6ad 5 = .ok (.sipush 255, 3) := by decide +kernel
theorem dJ1_canEncode_9a6ad_8 : decode cJ1_canEncode_9a6ad 8 = .ok (.if_icmp .gt 7, 3) := by decide +kernel
theorem dJ1_canEncode_9a6ad_11 : decode cJ1_canEncode_9a6ad 11 = .ok (.iconst 1, 1) := by decide +kernel
theorem dJ1_canEncode_9a6ad_12 : decode cJ1_canEncode_9a6ad 12 = .ok (.goto 4, 3) := by decide +kernel
theorem dJ1_canEncode_9a6ad_15 : decode cJ1_canEncode_9a6ad 15 = .ok (.iconst 0, 1) := by decide +kernel
theorem dJ1_canEncode_9a6ad_16 : decode cJ1_canEncode_9a6ad 16 = .ok (.ireturn, 1) := by decide +kernel
theorem dJ1_indexOf_4cfef_0 : decode cJ1_indexOf_4cfef 0 = .ok (.iload_n 1, 1) := by decide +kernel
theorem dJ1_indexOf_4cfef_1 : decode cJ1_indexOf_4cfef 1 = .ok (.invokestatic 88, 3) := by decide +kernel
theorem dJ1_indexOf_4cfef_4 : decode cJ1_indexOf_4cfef 4 = .ok (.ifCond .ne 5, 3) := by decide +kernel
theorem dJ1_indexOf_4cfef_7 : decode cJ1_indexOf_4cfef 7 = .ok (.iconst (-1), 1) := by decide +kernel
theorem dJ1_indexOf_4cfef_8 : decode cJ1_indexOf_4cfef 8 = .ok (.ireturn, 1) := by decide +kernel
theorem dJ1_indexOf_4cfef_9 : decode cJ1_indexOf_4cfef 9 = .ok (.iload_n 2, 1) := by decide +kernel
theorem dJ1_indexOf_4cfef_10 : decode cJ1_indexOf_4cfef 10 = .ok (.iconst 0, 1) := by decide +kernel
theorem dJ1_indexOf_4cfef_11 : decode cJ1_indexOf_4cfef 11 = .ok (.invokestatic 92, 3) := by decide +kernel
theorem dJ1_indexOf_4cfef_14 : decode cJ1_indexOf_4cfef 14 = .ok (.istore_n 2, 1) := by decide +kernel
theorem dJ1_indexOf_4cfef_15 : decode cJ1_indexOf_4cfef 15 = .ok (.iload_n 3, 1) := by decide +kernel
theorem dJ1_indexOf_4cfef_16 : decode cJ1_indexOf_4cfef 16 = .ok (.aload_n 0, 1) := by decide +kernel
theorem dJ1_indexOf_4cfef_17 : decode cJ1_indexOf_4cfef 17 = .ok (.arraylength, 1) := by decide +kernel
theorem dJ1_indexOf_4cfef_18 : decode cJ1_indexOf_4cfef 18 = .ok (.invokestatic 38, 3) := by decide +kernel
theorem dJ1_indexOf_4cfef_21 : decode cJ1_indexOf_4cfef 21 = .ok (.istore_n 3, 1) := by decide +kernel
theorem dJ1_indexOf_4cfef_22 : decode cJ1_indexOf_4cfef 22 = .ok (.iload_n 2, 1) := by decide +kernel
theorem dJ1_indexOf_4cfef_23 : decode cJ1_indexOf_4cfef 23 = .ok (.iload_n 3, 1) := by decide +kernel
theorem dJ1_indexOf_4cfef_24 : decode cJ1_indexOf_4cfef 24 = .ok (.if_icmp .lt 5, 3) := by decide +kernel
theorem dJ1_indexOf_4cfef_27 : decode cJ1_indexOf_4cfef 27 = .ok (.iconst (-1), 1) := by decide +kernel
theorem dJ1_indexOf_4cfef_28 : decode cJ1_indexOf_4cfef 28 = .ok (.ireturn, 1) := by decide +kernel
theorem dJ1_indexOf_4cfef_29 : decode cJ1_indexOf_4cfef 29 = .ok (.aload_n 0, 1) := by decide +kernel
theorem dJ1_indexOf_4cfef_30 : decode cJ1_indexOf_4cfef 30 = .ok (.iload_n 1, 1) := by decide +kernel
theorem dJ1_indexOf_4cfef_31 : decode cJ1_indexOf_4cfef 31 = .ok (.iload_n 2, 1) := by decide +kernel
theorem dJ1_indexOf_4cfef_32 : decode cJ1_indexOf_4cfef 32 = .ok (.iload_n 3, 1) := by decide +kernel
theorem dJ1_indexOf_4cfef_33 : decode cJ1_indexOf_4cfef 33 = .ok (.invokestatic 95, 3) := by decide +kernel
theorem dJ1_indexOf_4cfef_36 : decode cJ1_indexOf_4cfef 36 = .ok (.ireturn, 1) := by decide +kernel
theorem dJ1_indexOfChar_4cfef_0 : decode cJ1_indexOfChar_4cfef 0 = .ok (.iload_n 1, 1) := by decide +kernel
theorem dJ1_indexOfChar_4cfef_1 : decode cJ1_indexOfChar_4cfef 1 = .ok (.i2b, 1) := by decide +kernel
theorem dJ1_indexOfChar_4cfef_2 : decode cJ1_indexOfChar_4cfef 2 = .ok (.istore 4, 2) := by decide +kernel
theorem dJ1_indexOfChar_4cfef_4 : decode cJ1_indexOfChar_4cfef 4 = .ok (.iload_n 2, 1) := by decide +kernel
theorem dJ1_indexOfChar_4cfef_5 : decode cJ1_indexOfChar_4cfef 5 = .ok (.istore 5, 2) := by decide +kernel
theorem dJ1_indexOfChar_4cfef_7 : decode cJ1_indexOfChar_4cfef 7 = .ok (.iload 5, 2) := by decide +kernel
theorem dJ1_indexOfChar_4cfef_9 : decode cJ1_indexOfChar_4cfef 9 = .ok (.iload_n 3, 1) := by decide +kernel
theorem dJ1_indexOfChar_4cfef_10 : decode cJ1_indexOfChar_4cfef 10 = .ok (.if_icmp .ge 21, 3) := by decide +kernel
theorem dJ1_indexOfChar_4cfef_13 : decode cJ1_indexOfChar_4cfef 13 = .ok (.aload_n 0, 1) := by decide +kernel
theorem dJ1_indexOfChar_4cfef_14 : decode cJ1_indexOfChar_4cfef 14 = .ok (.iload 5, 2) := by decide +kernel
theorem dJ1_indexOfChar_4cfef_16 : decode cJ1_indexOfChar_4cfef 16 = .ok (.baload, 1) := by decide +kernel
theorem dJ1_indexOfChar_4cfef_17 : decode cJ1_indexOfChar_4cfef 17 = .ok (.iload 4, 2) := by decide +kernel
theorem dJ1_indexOfChar_4cfef_19 : decode cJ1_indexOfChar_4cfef 19 = .ok (.if_icmp .ne 6, 3) := by decide +kernel
theorem dJ1_indexOfChar_4cfef_22 : decode cJ1_indexOfChar_4cfef 22 = .ok (.iload 5, 2) := by decide +kernel
theorem dJ1_indexOfChar_4cfef_24 : decode cJ1_indexOfChar_4cfef 24 = .ok (.ireturn, 1) := by decide +kernel
theorem dJ1_indexOfChar_4cfef_25 : decode cJ1_indexOfChar_4cfef 25 = .ok (.iinc 5 1, 3) := by decide +kernel
theorem dJ1_indexOfChar_4cfef_28 : decode cJ1_indexOfChar_4cfef 28 = .ok (.goto (-21), 3) := by decide +kernel
theorem dJ1_indexOfChar_4cfef_31 : decode cJ1_indexOfChar_4cfef 31 = .ok (.iconst (-1), 1) := by decide +kernel
theorem dJ1_indexOfChar_4cfef_32 : decode cJ1_indexOfChar_4cfef 32 = .ok (.ireturn, 1) := by decide +kernel
theorem j_w0 : Cond.fieldLink RJ0 38 "java/lang/String" "COMPACT_STRINGS" "Z" ∈ mjS ∧ Cond.fieldLink RJ0 15 "java/lang/String" "coder" "B" ∈ mjS ∧ Cond.fieldLink RJ0 9 "java/lang/String" "value" "[B" ∈ mjS ∧ Cond.initialized RJ0 ∈ mjS ∧ Cond.initialized RJ1 ∈ mjS := by decide +kernel
theorem j_w1 : Cond.methodLink RJ0 335 yJ0_coder_7d493 ∈ mjS ∧ Cond.instanceMethod yJ0_coder_7d493 ∈ mjS ∧ Cond.selects RJ0 yJ0_coder_7d493 yJ0_coder_7d493 ∈ mjS := by decide +kernel
theorem j_w2 : Cond.methodLink RJ0 492 yJ0_isLatin1_aae02 ∈ mjS ∧ Cond.instanceMethod yJ0_isLatin1_aae02 ∈ mjS ∧ Cond.selects RJ0 yJ0_isLatin1_aae02 yJ0_isLatin1_aae02 ∈ mjS := by decide +kernel
theorem j_w3 : Cond.methodLink RJ0 505 yJ0_length_8abf5 ∈ mjS ∧ Cond.instanceMethod yJ0_length_8abf5 ∈ mjS ∧ Cond.selects RJ0 yJ0_length_8abf5 yJ0_length_8abf5 ∈ mjS := by decide +kernel
theorem j_w4 : Cond.methodLink RJ0 637 yJ1_indexOf_4cfef ∈ mjS ∧ Cond.static yJ1_indexOf_4cfef ∈ mjS := by decide +kernel
theorem j_w5 : Cond.methodLink RJ1 88 yJ1_canEncode_9a6ad ∈ mjS ∧ Cond.static yJ1_canEncode_9a6ad ∈ mjS ∧ Cond.methodLink RJ1 95 yJ1_indexOfChar_4cfef ∈ mjS ∧ Cond.static yJ1_indexOfChar_4cfef ∈ mjS := by decide +kernel
theorem j_w6 : Cond.methodLink RJ1 92 Lib.Math.max.name ∈ mjS ∧ Cond.methodLink RJ1 38 Lib.Math.min.name ∈ mjS ∧ Cond.static Lib.Math.min.name ∈ mjS ∧ Cond.code Lib.Math.min.name Lib.Math.min.code 2 (some .int) ∈ mjS := by decide +kernel
theorem j_w7 : Cond.methodLink RJ0 633 yJ0_indexOf_7cf53 ∈ mjS ∧ Cond.instanceMethod yJ0_indexOf_7cf53 ∈ mjS ∧ Cond.selects RJ0 yJ0_indexOf_7cf53 yJ0_indexOf_7cf53 ∈ mjS := by decide +kernel
theorem j_w8 : Cond.methodLink RX14 117 yJ0_indexOf_0f7a4 ∈ mjS ∧ Cond.instanceMethod yJ0_indexOf_0f7a4 ∈ mjS ∧ Cond.selects RJ0 yJ0_indexOf_0f7a4 yJ0_indexOf_0f7a4 ∈ mjS := by decide +kernel
set_option maxRecDepth 100000 in
theorem jc_J0_coder_7d493 : Cond.code yJ0_coder_7d493 cJ0_coder_7d493 1 (some .byte) ∈ mjS := List.mem_of_getElem? (i := 1170) rfl
set_option maxRecDepth 100000 in
theorem jc_J0_isLatin1_aae02 : Cond.code yJ0_isLatin1_aae02 cJ0_isLatin1_aae02 1 (some .boolean) ∈ mjS := List.mem_of_getElem? (i := 1160) rfl
set_option maxRecDepth 100000 in
theorem jc_J0_length_8abf5 : Cond.code yJ0_length_8abf5 cJ0_length_8abf5 1 (some .int) ∈ mjS := List.mem_of_getElem? (i := 1166) rfl
set_option maxRecDepth 100000 in
theorem jc_J0_indexOf_0f7a4 : Cond.code yJ0_indexOf_0f7a4 cJ0_indexOf_0f7a4 2 (some .int) ∈ mjS := List.mem_of_getElem? (i := 1152) rfl
set_option maxRecDepth 100000 in
theorem jc_J0_indexOf_7cf53 : Cond.code yJ0_indexOf_7cf53 cJ0_indexOf_7cf53 3 (some .int) ∈ mjS := List.mem_of_getElem? (i := 1156) rfl
set_option maxRecDepth 100000 in
theorem jc_J1_canEncode_9a6ad : Cond.code yJ1_canEncode_9a6ad cJ1_canEncode_9a6ad 1 (some .boolean) ∈ mjS := List.mem_of_getElem? (i := 1176) rfl
set_option maxRecDepth 100000 in
theorem jc_J1_indexOf_4cfef : Cond.code yJ1_indexOf_4cfef cJ1_indexOf_4cfef 4 (some .int) ∈ mjS := List.mem_of_getElem? (i := 1173) rfl
set_option maxRecDepth 100000 in
theorem jc_J1_indexOfChar_4cfef : Cond.code yJ1_indexOfChar_4cfef cJ1_indexOfChar_4cfef 6 (some .int) ∈ mjS := List.mem_of_getElem? (i := 1183) rfl
def PcJ (b : Nat) (ex : Nat → Nat) (xs : Nat → Int32) (L : Nat) (as : List Value) : Array Value → State → Prop := va_Pc as (fun U => StF b ex xs L U U.heap)
def QcJ (r : Int32) : Array Value → State → Outcome → State → Prop := fun _ st oc t => oc = .returned (some (.int r)) ∧ t.heap = st.heap
abbrev rmJ (d : Nat) : Room := { frames := d, cells := 0, slots := 0, locals := 41 * d }
abbrev wJm (y : MethodName) (cc : ByteArray) (n : Nat) (ret : Option FieldType) : List Cond := Cond.code y cc n ret :: mjS.filter goodWord
abbrev MetJ (l : Launch) (b : Nat) (ex : Nat → Nat) (xs : Nat → Int32) (L : Nat) (y : MethodName) (cc : ByteArray) (n : Nat) (ret : Option FieldType) (d : Nat) (as : List Value) (r : Int32) : Prop := Met l y (wJm y cc n ret) (rmJ d) (PcJ b ex xs L as) (QcJ r) 0 0 (fun _ => False)
section JDK
variable {l : Launch} {b : Nat} {ex : Nat → Nat} {xs : Nat → Int32} {L : Nat}
theorem PcJ_blind (as : List Value) : FrameBlind (PcJ b ex xs L as) := by
  intro a U g mk h
  exact ⟨h.1, StF.moved (s := U) (U := U.calling g mk a) (State.WarmedH.refl U) h.2⟩
theorem jm {y : MethodName} {cc : ByteArray} {n d : Nat} {ret : Option FieldType} {as : List Value} {r : Int32} (hy : Jvm.plainName y.cls = true) (hlen : (lg_sl as).length ≤ n)
    (body : ∀ (p : Program) (e : Env) (s : State) (m : MethodId) (below : List Frame) (meth : Method) (c : Code), p.tables.exec = Jvm.exec → c.code = cc → c.maxLocals = n → meth.sig.returnType = ret → (∀ w ∈ mjS, goodWord w = true → w.before as.toArray s = true) → s.vm.findClass y.cls = some m.cls → meth.locks = false → StF b ex xs L s s.heap → ∀ ls : Array Slot, lv_has ls n (lv_args 0 as) → W p l e (rmJ d) s m as.toArray below meth c s.heap [] 0 0 (MQ below (QcJ r) as.toArray s 0 0 (fun _ => False)) (F0 m 0 ls [])) : MetJ l b ex xs L y cc n ret d as r := by
  refine Met.ofW (cc := cc) (maxL := n) (ret := ret) hy rfl ?_
  intro p e s m args below meth c s₁ B hml hv
  obtain ⟨rfl, hSt⟩ := hv
  have hts0 := atoms_spec (ws := wJm y cc n ret) B.pre
  rw [lg_entry_eq]
  exact body p e s m below meth c B.exec B.bytes hml B.returns (fun w h1 h2 => hts0 w (List.mem_cons_of_mem _ (List.mem_filter.mpr ⟨h1, h2⟩))) (findClass_of_methodNamed B.named) B.notSynchronized hSt _ (lv_entry as hlen)
section JR
variable {p : Program} {e : Env} {R : Room} {s : State} {m : MethodId} {args : Array Value} {below : List Frame} {meth : Method} {c : Code} {H : Heap} {locs : List Loc} {cells slots : Nat} {Q : State → Prop} {pc : Nat} {ls : Array Slot} {st0 rest : List Value} {a : Array Value} {r : Int32}
theorem mj_call (hr : va_Run p l e R s m args below meth c H locs cells slots 0 0 (F0 m pc ls st0) rest (QcJ r a) (fun _ => False))
    (kk : W p l e R s m args below meth c H locs cells slots Q (F0 m (pc + 3) ls (.int r :: rest))) : W p l e R s m args below meth c H locs cells slots Q (F0 m pc ls st0) := by
  intro T hT X
  obtain ⟨v9, st₀, t, T', L', h0, X', hL, e1, e2, ⟨hv, hh⟩, st⟩ := hr T hT X
  cases hv
  have hL0 : L' = [] := List.eq_nil_iff_forall_not_mem.mpr (fun q hq => hL q hq)
  subst hL0
  rw [List.append_nil] at X'
  obtain ⟨t2, a1, b1⟩ := kk T' (by rw [e1, hh, h0]) X'
  exact ⟨t2, st t2 a1, b1⟩
/-- a return out of such a method -/
theorem mj_ret {cc : ByteArray} {ty : FieldType} (hx : p.tables.exec = Jvm.exec) (hb : c.code = cc) (hr : meth.sig.returnType = some ty) (hn : narrow ty (.int r) = .int r) (hlocks : meth.locks = false) (hd : decode cc pc = .ok (.ireturn, 1)) : W p l e R s m args below meth c s.heap [] cells slots (MQ below (QcJ r) args s cells slots (fun _ => False)) (F0 m pc ls [.int r]) :=
  W.zret hx hb hr hn (fun t ht _ => ⟨rfl, ht⟩) (fun q hq => nomatch hq) hd hlocks
end JR
set_option maxHeartbeats 4000000 in
theorem jm_coder (d : Nat) : MetJ l b ex xs L yJ0_coder_7d493 cJ0_coder_7d493 1 (some .byte) d [.ref (ex 3)] 0 := by
  refine jm (by decide +kernel) (Nat.le_of_ble_eq_true rfl) ?_
  intro p e s m below meth c hx hb hml hr hts hown hlocks hSt ls hl
  obtain ⟨-, -, ⟨-, c2, c3⟩, -⟩ := hSt
  have hl : lv_has ls 1 [(0, .ref (ex 3))] := hl
  refine va_gets hx hb c3 va_S.rf hown (hts _ j_w0.1 rfl) (fun _ q => q) dJ0_coder_7d493_0 ?_
  refine lv_if_eq (tgt := 13) hx hb dJ0_coder_7d493_3 (by decide) (fun h => absurd h (by decide)) (fun _ => ?_)
  refine lv_aload_n hx hb dJ0_coder_7d493_6 rfl (lv_at hl 0 rfl) ?_
  refine vk_getf hx hb (c2.1 0 (by decide)).2.1 va_S.rf hown (hts _ j_w0.2.1 rfl) (fun _ q => q) dJ0_coder_7d493_7 ?_
  refine lv_goto (tgt := 14) hx hb dJ0_coder_7d493_10 (by decide) ?_
  exact mj_ret hx hb hr rfl hlocks dJ0_coder_7d493_14
set_option maxHeartbeats 4000000 in
theorem jm_lat (d : Nat) : MetJ l b ex xs L yJ0_isLatin1_aae02 cJ0_isLatin1_aae02 1 (some .boolean) d [.ref (ex 3)] 1 := by
  refine jm (by decide +kernel) (Nat.le_of_ble_eq_true rfl) ?_
  intro p e s m below meth c hx hb hml hr hts hown hlocks hSt ls hl
  obtain ⟨-, -, ⟨-, c2, c3⟩, -⟩ := hSt
  have hl : lv_has ls 1 [(0, .ref (ex 3))] := hl
  refine va_gets hx hb c3 va_S.rf hown (hts _ j_w0.1 rfl) (fun _ q => q) dJ0_isLatin1_aae02_0 ?_
  refine lv_if_eq (tgt := 17) hx hb dJ0_isLatin1_aae02_3 (by decide) (fun h => absurd h (by decide)) (fun _ => ?_)
  refine lv_aload_n hx hb dJ0_isLatin1_aae02_6 rfl (lv_at hl 0 rfl) ?_
  refine vk_getf hx hb (c2.1 0 (by decide)).2.1 va_S.rf hown (hts _ j_w0.2.1 rfl) (fun _ q => q) dJ0_isLatin1_aae02_7 ?_
  refine lv_if_ne (tgt := 17) hx hb dJ0_isLatin1_aae02_10 (by decide) (fun h => absurd rfl h) (fun _ => ?_)
  refine lv_iconst (v := 1) hx hb dJ0_isLatin1_aae02_13 (by decide) ?_
  refine lv_goto (tgt := 18) hx hb dJ0_isLatin1_aae02_14 (by decide) ?_
  exact mj_ret hx hb hr rfl hlocks dJ0_isLatin1_aae02_18
/-- a virtual call of one of them, on the text -/
theorem jv_run {p : Program} {e : Env} {R : Room} {s : State} {m : MethodId} {args : Array Value} {below : List Frame} {meth : Method} {c : Code} {H : Heap} {locs : List Loc} {cells slots : Nat} {Q : State → Prop} {pc nL idx : Nat} {cc : ByteArray} {own : String} {ls : Array Slot} {rest As : List Value} {y : MethodName} {cy : ByteArray} {n d : Nat} {ret : Option FieldType} {r : Int32} (hx : p.tables.exec = Jvm.exec) (hb : c.code = cc) (hml : c.maxLocals = nL) (hts : ∀ w ∈ mjS, goodWord w = true → w.before args s = true) (hown : s.vm.findClass own = some m.cls) (hSt : StF b ex xs L s s.heap) (hS : va_S (Ab b) s.heap H locs) (hM : MetJ l b ex xs L y cy n ret d (.ref (ex 3) :: As) r)
    (hco : Cond.code y cy n ret ∈ mjS) (hw : Cond.methodLink own idx y ∈ mjS ∧ Cond.instanceMethod y ∈ mjS ∧ Cond.selects RJ0 y y ∈ mjS) (hyc : y.cls = RJ0) (hnp : npO y As.length = true) (hRf : d + 1 ≤ R.frames) (hRl : 41 * d + (n + 19) ≤ R.locals) (hsz : ls.size = nL) (hwt : (rest.map fun v => v.category).sum ≤ 8) (hc : cells ≤ R.cells) (hs : slots ≤ R.slots) (hd : decode cc pc = .ok (.invokevirtual idx, 3))
    (kk : W p l e R s m args below meth c H locs cells slots Q (F0 m (pc + 3) ls (.int r :: rest))) : W p l e R s m args below meth c H locs cells slots Q (F0 m pc ls (As.reverse ++ .ref (ex 3) :: rest)) := by
  have hrec : ∃ cellB : Cell, H[ex 3]? = some cellB ∧ cellB.vm.isStatics = false ∧ s.vm.findClass RJ0 = some cellB.cls := by
    obtain ⟨-, -, ⟨-, c2, -⟩, -⟩ := hSt
    obtain ⟨cell, h1, h2, h3, -⟩ := ((c2.kept hS.2.1).1 0 (by decide)).1
    exact ⟨cell, h1, h2, h3⟩
  refine mj_call (va_runV (n := As.length) (C := RJ0) (b := ex 3) (As := As) ⟨hx, hb, hml, hown, htf hts⟩ hM (cwV As.length (htf hts) (goodIn_app (fun w h => ?_) (fun w h => ?_)) rfl rfl rfl ⟨hyc, by rw [hyc]; decide, by rw [hyc]; decide, np_of hnp⟩ ⟨hRf, by show 8 + (n + 11) + 41 * d ≤ R.locals; omega⟩) ⟨PcJ_blind _, hrec, fun U hU hW => ⟨rfl, StF.moved hW (by rw [hU]; exact hSt.kept hS.1 hS.2.1)⟩⟩ rfl rfl hsz rfl (lv_room hwt) hd ⟨by show cells + 0 ≤ R.cells; omega, by show slots + 0 ≤ R.slots; omega⟩) kk
  · rcases List.mem_cons.mp h with rfl | h
    · exact gw_in hw.1 rfl
    · rcases List.mem_cons.mp h with rfl | h
      · exact gw_in hw.2.1 rfl
      · rcases List.mem_cons.mp h with rfl | h
        · exact gw_in hw.2.2 rfl
        · rcases List.mem_cons.mp h with rfl | h
          · exact gw_in j_w0.2.2.2.1 rfl
          · cases h
  · rcases List.mem_cons.mp h with rfl | h
    · exact gw_in hco rfl
    · exact gw_in (List.mem_filter.mp h).1 (List.mem_filter.mp h).2
/-- a static one -/
theorem js_run {p : Program} {e : Env} {R : Room} {s : State} {m : MethodId} {args : Array Value} {below : List Frame} {meth : Method} {c : Code} {H : Heap} {locs : List Loc} {cells slots : Nat} {Q : State → Prop} {pc nL idx : Nat} {cc : ByteArray} {own : String} {ls : Array Slot} {rest As : List Value} {y : MethodName} {cy : ByteArray} {n d : Nat} {ret : Option FieldType} {r : Int32} (hx : p.tables.exec = Jvm.exec) (hb : c.code = cc) (hml : c.maxLocals = nL) (hts : ∀ w ∈ mjS, goodWord w = true → w.before args s = true) (hown : s.vm.findClass own = some m.cls) (hSt : StF b ex xs L s s.heap) (hS : va_S (Ab b) s.heap H locs) (hM : MetJ l b ex xs L y cy n ret d As r)
    (hco : Cond.code y cy n ret ∈ mjS) (hw : Cond.methodLink own idx y ∈ mjS ∧ Cond.static y ∈ mjS) (hyc : y.cls = RJ1) (hnp : npO y As.length = true) (hRf : d + 1 ≤ R.frames) (hRl : 41 * d + (n + 19) ≤ R.locals) (hsz : ls.size = nL) (hwt : (rest.map fun v => v.category).sum ≤ 8) (hc : cells ≤ R.cells) (hs : slots ≤ R.slots) (hd : decode cc pc = .ok (.invokestatic idx, 3))
    (kk : W p l e R s m args below meth c H locs cells slots Q (F0 m (pc + 3) ls (.int r :: rest))) : W p l e R s m args below meth c H locs cells slots Q (F0 m pc ls (As.reverse ++ rest)) := by
  refine mj_call (va_runS (n := As.length) (As := As) ⟨hx, hb, hml, hown, htf hts⟩ hM (va_cwS As.length (htf hts) (goodIn_app (fun w h => ?_) (fun w h => ?_)) rfl rfl rfl ⟨by rw [hyc]; decide, by rw [hyc]; decide, np_of hnp⟩ ⟨hRf, by show 8 + (n + 11) + 41 * d ≤ R.locals; omega⟩) ⟨PcJ_blind _, fun U hU hW => ⟨rfl, StF.moved hW (by rw [hU]; exact hSt.kept hS.1 hS.2.1)⟩⟩ rfl rfl hsz rfl (lv_room hwt) hd ⟨by show cells + 0 ≤ R.cells; omega, by show slots + 0 ≤ R.slots; omega⟩) kk
  · rcases List.mem_cons.mp h with rfl | h
    · exact gw_in hw.1 rfl
    · rcases List.mem_cons.mp h with rfl | h
      · exact gw_in hw.2 rfl
      · rcases List.mem_cons.mp h with rfl | h
        · rw [hyc]; exact gw_in j_w0.2.2.2.2 rfl
        · cases h
  · rcases List.mem_cons.mp h with rfl | h
    · exact gw_in hco rfl
    · exact gw_in (List.mem_filter.mp h).1 (List.mem_filter.mp h).2
end JDK
end
section
section JDK2
variable {l : Launch} {b : Nat} {ex : Nat → Nat} {xs : Nat → Int32} {L : Nat}
set_option maxHeartbeats 4000000 in
theorem jm_length : MetJ l b ex xs L yJ0_length_8abf5 cJ0_length_8abf5 1 (some .int) 2 [.ref (ex 3)] 10 := by
  refine jm (by decide +kernel) (Nat.le_of_ble_eq_true rfl) ?_
  intro p e s m below meth c hx hb hml hr hts hown hlocks hSt ls hl
  have hSt0 := hSt
  obtain ⟨-, -, ⟨-, c2, c3⟩, -⟩ := hSt
  have hl : lv_has ls 1 [(0, .ref (ex 3))] := hl
  refine lv_aload_n hx hb dJ0_length_8abf5_0 rfl (lv_at hl 0 rfl) ?_
  refine vk_getf hx hb (c2.1 0 (by decide)).2.2.1 va_S.rf hown (hts _ j_w0.2.2.1 rfl) (fun _ q => q) dJ0_length_8abf5_1 ?_
  refine va_tlen (v := 10) hx hb (c2.1 0 (by decide)).2.2.2 va_S.rf rfl dJ0_length_8abf5_4 ?_
  refine lv_aload_n hx hb dJ0_length_8abf5_5 rfl (lv_at hl 0 rfl) ?_
  refine jv_run (As := []) hx hb hml hts hown hSt0 va_S.rf (jm_coder 1) jc_J0_coder_7d493 j_w1 rfl (show npO yJ0_coder_7d493 0 = true by decide +kernel) (by decide) (by decide) hl.1 (by decide) (by decide) (by decide) dJ0_length_8abf5_6 ?_
  refine lv_ishr hx hb dJ0_length_8abf5_9 ?_
  exact mj_ret hx hb hr rfl hlocks dJ0_length_8abf5_10
def jEnc (c : Int32) : Int32 := if c < 0 then 0 else if 255 < c then 0 else 1
set_option maxHeartbeats 4000000 in
theorem jm_enc (d : Nat) (x : Int32) : MetJ l b ex xs L yJ1_canEncode_9a6ad cJ1_canEncode_9a6ad 1 (some .boolean) d [.int x] (jEnc x) := by
  refine jm (by decide +kernel) (Nat.le_of_ble_eq_true rfl) ?_
  intro p e s m below meth c hx hb hml hr hts hown hlocks hSt ls hl
  have hl : lv_has ls 1 [(0, .int x)] := hl
  have e0 : ∀ {h : jEnc x = 0}, W p l e (rmJ d) s m [Value.int x].toArray below meth c s.heap [] 0 0 (MQ below (QcJ (jEnc x)) [Value.int x].toArray s 0 0 (fun _ => False)) (F0 m 15 ls []) := by
    intro h
    refine lv_iconst (v := 0) hx hb dJ1_canEncode_9a6ad_15 (by decide) ?_
    rw [h]
    exact mj_ret hx hb hr rfl hlocks dJ1_canEncode_9a6ad_16
  refine lv_iload_n hx hb dJ1_canEncode_9a6ad_0 rfl (lv_at hl 0 rfl) ?_
  refine lv_if_lt (tgt := 15) hx hb dJ1_canEncode_9a6ad_1 (by decide) (fun h => e0 (h := by simp [jEnc, h])) (fun h1 => ?_)
  refine lv_iload_n hx hb dJ1_canEncode_9a6ad_4 rfl (lv_at hl 0 rfl) ?_
  refine lv_sipush (v := 255) hx hb dJ1_canEncode_9a6ad_5 (by decide) ?_
  refine lv_icmp_gt (tgt := 15) hx hb dJ1_canEncode_9a6ad_8 (by decide) (fun h => e0 (h := by simp [jEnc, h1, h])) (fun h2 => ?_)
  refine lv_iconst (v := 1) hx hb dJ1_canEncode_9a6ad_11 (by decide) ?_
  refine lv_goto (tgt := 16) hx hb dJ1_canEncode_9a6ad_12 (by decide) ?_
  rw [show jEnc x = 1 by simp [jEnc, h1, h2]]
  exact mj_ret hx hb hr rfl hlocks dJ1_canEncode_9a6ad_16
set_option maxHeartbeats 4000000 in
theorem jm_char (d : Nat) (x : Int32) : MetJ l b ex xs L yJ1_indexOfChar_4cfef cJ1_indexOfChar_4cfef 6 (some .int) d [.ref (ex 4), .int x, .int 0, .int 10] (ixF x.toInt8.toInt32 ixB 0) := by
  refine jm (by decide +kernel) (Nat.le_of_ble_eq_true rfl) ?_
  intro p e s m below meth c hx hb hml hr hts hown hlocks hSt ls hl
  obtain ⟨-, -, ⟨-, c2, c3⟩, -⟩ := hSt
  have hT := (c2.1 0 (by decide)).2.2.2
  have hl : lv_has ls 6 [(0, .ref (ex 4)), (1, .int x), (2, .int 0), (3, .int 10)] := hl
  refine lv_iload_n hx hb dJ1_indexOfChar_4cfef_0 rfl (lv_at hl 1 rfl) ?_
  refine lv_i2b hx hb dJ1_indexOfChar_4cfef_1 rfl ?_
  refine lv_istore (lv' := [(4, .int x.toInt8.toInt32), (0, .ref (ex 4)), (1, .int x), (2, .int 0), (3, .int 10)]) hx hb dJ1_indexOfChar_4cfef_2 hl (by decide) rfl (fun ls hl => ?_)
  refine lv_iload_n hx hb dJ1_indexOfChar_4cfef_4 rfl (lv_at hl 3 rfl) ?_
  refine lv_istore (lv' := [(5, .int 0), (4, .int x.toInt8.toInt32), (0, .ref (ex 4)), (1, .int x), (2, .int 0), (3, .int 10)]) hx hb dJ1_indexOfChar_4cfef_5 hl (by decide) rfl (fun ls hl => ?_)
  have loop : ∀ (t : List Int32) (k : Nat), k ≤ 10 → ixB.drop k = t → ixF x.toInt8.toInt32 t k = ixF x.toInt8.toInt32 ixB 0 → ∀ ls : Array Slot, lv_has ls 6 [(5, .int (nI k)), (4, .int x.toInt8.toInt32), (0, .ref (ex 4)), (3, .int 10)] → W p l e (rmJ d) s m [Value.ref (ex 4), .int x, .int 0, .int 10].toArray below meth c s.heap [] 0 0 (MQ below (QcJ (ixF x.toInt8.toInt32 ixB 0)) [Value.ref (ex 4), .int x, .int 0, .int 10].toArray s 0 0 (fun _ => False)) (F0 m 7 ls []) := by
    intro t
    induction t with
    | nil =>
      intro k hk hd hf ls hl
      have hk10 : k = 10 := by
        have h1 : (ixB.drop k).length = 0 := by rw [hd]; rfl
        rw [List.length_drop] at h1
        have h2 : ixB.length = 10 := rfl
        omega
      subst hk10
      refine lv_iload hx hb dJ1_indexOfChar_4cfef_7 (lv_at hl 0 rfl) ?_
      refine lv_iload_n hx hb dJ1_indexOfChar_4cfef_9 rfl (lv_at hl 3 rfl) ?_
      refine lv_icmp_ge (tgt := 31) hx hb dJ1_indexOfChar_4cfef_10 (by decide) (fun _ => ?_) (fun h => absurd (by decide) h)
      refine lv_iconst (v := -1) hx hb dJ1_indexOfChar_4cfef_31 (by decide) ?_
      rw [← hf]
      exact mj_ret hx hb hr rfl hlocks dJ1_indexOfChar_4cfef_32
    | cons z t ih =>
      intro k hk hd hf ls hl
      have hk10 : k < 10 := by
        have h1 : (ixB.drop k).length = t.length + 1 := by rw [hd]; rfl
        rw [List.length_drop] at h1
        have h2 : ixB.length = 10 := rfl
        omega
      have hz : ixB.getD k 0 = z := by
        have h1 : (ixB.drop k)[0]? = some z := by rw [hd]; rfl
        rw [List.getElem?_drop, Nat.add_zero] at h1
        rw [List.getD_eq_getElem?_getD, h1]
        rfl
      have ht : ixB.drop (k + 1) = t := by
        rw [← List.drop_drop, hd]
        rfl
      refine lv_iload hx hb dJ1_indexOfChar_4cfef_7 (lv_at hl 0 rfl) ?_
      refine lv_iload_n hx hb dJ1_indexOfChar_4cfef_9 rfl (lv_at hl 3 rfl) ?_
      refine lv_icmp_ge (tgt := 31) hx hb dJ1_indexOfChar_4cfef_10 (by decide) (fun h => absurd h (nI_ge hk10 (by decide))) (fun _ => ?_)
      refine lv_aload_n hx hb dJ1_indexOfChar_4cfef_13 rfl (lv_at hl 2 rfl) ?_
      refine lv_iload hx hb dJ1_indexOfChar_4cfef_14 (lv_at hl 0 rfl) ?_
      refine va_tb (v := .int z) hx hb hT va_S.rf (vp_in_nI hk10 (by decide)) ?_ dJ1_indexOfChar_4cfef_16 ?_
      · show Value.int (([ixB].getD 0 []).getD (nI k).toNatClampNeg 0) = .int z
        rw [nI_clamp (by omega)]
        exact congrArg Value.int hz
      refine lv_iload hx hb dJ1_indexOfChar_4cfef_17 (lv_at hl 1 rfl) ?_
      refine lv_icmp_ne (tgt := 25) hx hb dJ1_indexOfChar_4cfef_19 (by decide) (fun hne => ?_) (fun he => ?_)
      · refine lv_iinc (v := nI (k + 1)) (k := 0) (lv' := [(5, .int (nI (k + 1))), (4, .int x.toInt8.toInt32), (0, .ref (ex 4)), (3, .int 10)]) hx hb dJ1_indexOfChar_4cfef_25 hl rfl (by rw [← nI_1]; rfl) (by decide) rfl (fun ls hl => ?_)
        refine lv_goto (tgt := 7) hx hb dJ1_indexOfChar_4cfef_28 (by decide) ?_
        refine ih (k + 1) (by omega) ht ?_ ls hl
        rw [← hf]
        simp only [ixF]
        rw [if_neg hne]
      · refine lv_iload hx hb dJ1_indexOfChar_4cfef_22 (lv_at hl 0 rfl) ?_
        have hres : nI k = ixF x.toInt8.toInt32 ixB 0 := by
          rw [← hf]
          simp only [ixF]
          rw [if_pos he]
        rw [hres]
        exact mj_ret hx hb hr rfl hlocks dJ1_indexOfChar_4cfef_24
  exact loop ixB 0 (by decide) rfl rfl ls (lv_sub hl [0, 1, 2, 5] rfl)
theorem ix_out {c : Int32} (h : jEnc c = 0) : ixOf c = -1 := by
  have key : ∀ z ∈ ixT, z ≠ c := by
    intro z hz e
    subst e
    have h2 : ∀ z ∈ ixT, jEnc z = 1 := by decide
    rw [h2 z hz] at h
    cases h
  have : ∀ (t : List Int32) (k : Nat), (∀ z ∈ t, z ≠ c) → ixF c t k = -1 := by
    intro t
    induction t with
    | nil => intro k _; rfl
    | cons z t ih =>
      intro k h
      simp only [ixF]
      rw [if_neg (h z List.mem_cons_self)]
      exact ih (k + 1) (fun w hw => h w (List.mem_cons_of_mem _ hw))
  exact this ixT 0 key
theorem ix_in {c : Int32} (h : jEnc c = 1) : ixF c.toInt8.toInt32 ixB 0 = ixOf c := by
  have h1 : ¬ c < 0 := by
    intro q
    simp [jEnc, q] at h
  have h2 : ¬ 255 < c := by
    intro q
    simp [jEnc, h1, q] at h
  obtain ⟨n, hn, rfl⟩ := nI_of2 (M := 255) (n := 255) rfl h1 (by
    rw [Int32.le_iff_toInt_le]
    rw [Int32.lt_iff_toInt_lt] at h2
    omega)
  have key : ∀ n, n < 256 → ixF (nI n).toInt8.toInt32 ixB 0 = ixOf (nI n) := by decide +kernel
  exact key n (by omega)
set_option maxHeartbeats 4000000 in
theorem jm_ix4 (x : Int32) : MetJ l b ex xs L yJ1_indexOf_4cfef cJ1_indexOf_4cfef 4 (some .int) 2 [.ref (ex 4), .int x, .int 0, .int 10] (ixOf x) := by
  refine jm (by decide +kernel) (Nat.le_of_ble_eq_true rfl) ?_
  intro p e s m below meth c hx hb hml hr hts hown hlocks hSt ls hl
  have hSt0 := hSt
  obtain ⟨-, -, ⟨-, c2, c3⟩, -⟩ := hSt
  have hT := (c2.1 0 (by decide)).2.2.2
  have hl : lv_has ls 4 [(0, .ref (ex 4)), (1, .int x), (2, .int 0), (3, .int 10)] := hl
  refine lv_iload_n hx hb dJ1_indexOf_4cfef_0 rfl (lv_at hl 1 rfl) ?_
  refine js_run (As := [.int x]) (rest := []) hx hb hml hts hown hSt0 va_S.rf (jm_enc 1 x) jc_J1_canEncode_9a6ad ⟨j_w5.1, j_w5.2.1⟩ rfl (show npO yJ1_canEncode_9a6ad 1 = true by decide +kernel) (by decide) (by decide) hl.1 (by decide) (by decide) (by decide) dJ1_indexOf_4cfef_1 ?_
  refine lv_if_ne (tgt := 9) hx hb dJ1_indexOf_4cfef_4 (by decide) (fun h => ?_) (fun h => ?_)
  · have hen : jEnc x = 1 := by
      unfold jEnc at h ⊢
      split
      · rename_i q; simp [q] at h
      · split
        · rename_i q1 q2; simp [q1, q2] at h
        · rfl
    refine lv_iload_n hx hb dJ1_indexOf_4cfef_9 rfl (lv_at hl 2 rfl) ?_
    refine lv_iconst (v := 0) hx hb dJ1_indexOf_4cfef_10 (by decide) ?_
    refine va_mmax hx hb (hml.trans hl.1.symm) hown (hts _ j_w6.1 rfl) (hts _ mjS_mx.1 rfl) (hts _ mjS_mx.2.1 rfl) (hts _ mjS_mx.2.2 rfl) (by decide) (by decide) (by decide) (by decide) dJ1_indexOf_4cfef_11 ?_
    refine lv_istore_n (lv' := [(2, .int 0), (0, .ref (ex 4)), (1, .int x), (3, .int 10)]) hx hb dJ1_indexOf_4cfef_14 rfl hl (by decide) rfl (fun ls hl => ?_)
    refine lv_iload_n hx hb dJ1_indexOf_4cfef_15 rfl (lv_at hl 3 rfl) ?_
    refine lv_aload_n hx hb dJ1_indexOf_4cfef_16 rfl (lv_at hl 1 rfl) ?_
    refine va_tlen (v := 10) hx hb hT va_S.rf rfl dJ1_indexOf_4cfef_17 ?_
    refine va_mmin hx hb (hml.trans hl.1.symm) hown (hts _ j_w6.2.1 rfl) (hts _ j_w6.2.2.1 rfl) (hts _ mjS_mx.2.1 rfl) (hts _ j_w6.2.2.2 rfl) (by decide) (by decide) (by decide) (by decide) dJ1_indexOf_4cfef_18 ?_
    refine lv_istore_n (lv' := [(3, .int 10), (2, .int 0), (0, .ref (ex 4)), (1, .int x)]) hx hb dJ1_indexOf_4cfef_21 rfl hl (by decide) rfl (fun ls hl => ?_)
    refine lv_iload_n hx hb dJ1_indexOf_4cfef_22 rfl (lv_at hl 1 rfl) ?_
    refine lv_iload_n hx hb dJ1_indexOf_4cfef_23 rfl (lv_at hl 0 rfl) ?_
    refine lv_icmp_lt (tgt := 29) hx hb dJ1_indexOf_4cfef_24 (by decide) (fun _ => ?_) (fun h => absurd (by decide) h)
    refine lv_aload_n hx hb dJ1_indexOf_4cfef_29 rfl (lv_at hl 2 rfl) ?_
    refine lv_iload_n hx hb dJ1_indexOf_4cfef_30 rfl (lv_at hl 3 rfl) ?_
    refine lv_iload_n hx hb dJ1_indexOf_4cfef_31 rfl (lv_at hl 1 rfl) ?_
    refine lv_iload_n hx hb dJ1_indexOf_4cfef_32 rfl (lv_at hl 0 rfl) ?_
    refine js_run (As := [.ref (ex 4), .int x, .int 0, .int 10]) (rest := []) hx hb hml hts hown hSt0 va_S.rf (jm_char 1 x) jc_J1_indexOfChar_4cfef ⟨j_w5.2.2.1, j_w5.2.2.2⟩ rfl (show npO yJ1_indexOfChar_4cfef 4 = true by decide +kernel) (by decide) (by decide) hl.1 (by decide) (by decide) (by decide) dJ1_indexOf_4cfef_33 ?_
    rw [ix_in hen]
    exact mj_ret hx hb hr rfl hlocks dJ1_indexOf_4cfef_36
  · refine lv_iconst (v := -1) hx hb dJ1_indexOf_4cfef_7 (by decide) ?_
    rw [ix_out h]
    exact mj_ret hx hb hr rfl hlocks dJ1_indexOf_4cfef_8
set_option maxHeartbeats 4000000 in
theorem jm_ix2 (x : Int32) : MetJ l b ex xs L yJ0_indexOf_7cf53 cJ0_indexOf_7cf53 3 (some .int) 4 [.ref (ex 3), .int x, .int 0] (ixOf x) := by
  refine jm (by decide +kernel) (Nat.le_of_ble_eq_true rfl) ?_
  intro p e s m below meth c hx hb hml hr hts hown hlocks hSt ls hl
  have hSt0 := hSt
  obtain ⟨-, -, ⟨-, c2, c3⟩, -⟩ := hSt
  have hl : lv_has ls 3 [(0, .ref (ex 3)), (1, .int x), (2, .int 0)] := hl
  refine lv_aload_n hx hb dJ0_indexOf_7cf53_0 rfl (lv_at hl 0 rfl) ?_
  refine jv_run (As := []) hx hb hml hts hown hSt0 va_S.rf (jm_lat 1) jc_J0_isLatin1_aae02 j_w2 rfl (show npO yJ0_isLatin1_aae02 0 = true by decide +kernel) (by decide) (by decide) hl.1 (by decide) (by decide) (by decide) dJ0_indexOf_7cf53_1 ?_
  refine lv_if_eq (tgt := 23) hx hb dJ0_indexOf_7cf53_4 (by decide) (fun h => absurd h (by decide)) (fun _ => ?_)
  refine lv_aload_n hx hb dJ0_indexOf_7cf53_7 rfl (lv_at hl 0 rfl) ?_
  refine vk_getf hx hb (c2.1 0 (by decide)).2.2.1 va_S.rf hown (hts _ j_w0.2.2.1 rfl) (fun _ q => q) dJ0_indexOf_7cf53_8 ?_
  refine lv_iload_n hx hb dJ0_indexOf_7cf53_11 rfl (lv_at hl 1 rfl) ?_
  refine lv_iload_n hx hb dJ0_indexOf_7cf53_12 rfl (lv_at hl 2 rfl) ?_
  refine lv_aload_n hx hb dJ0_indexOf_7cf53_13 rfl (lv_at hl 0 rfl) ?_
  refine jv_run (As := []) hx hb hml hts hown hSt0 va_S.rf (jm_length) jc_J0_length_8abf5 j_w3 rfl (show npO yJ0_length_8abf5 0 = true by decide +kernel) (by decide) (by decide) hl.1 (Nat.le_of_ble_eq_true rfl) (by decide) (by decide) dJ0_indexOf_7cf53_14 ?_
  refine js_run (As := [.ref (ex 4), .int x, .int 0, .int 10]) (rest := []) hx hb hml hts hown hSt0 va_S.rf (jm_ix4 x) jc_J1_indexOf_4cfef j_w4 rfl (show npO yJ1_indexOf_4cfef 4 = true by decide +kernel) (by decide) (by decide) hl.1 (by decide) (by decide) (by decide) dJ0_indexOf_7cf53_17 ?_
  refine lv_goto (tgt := 36) hx hb dJ0_indexOf_7cf53_20 (by decide) ?_
  exact mj_ret hx hb hr rfl hlocks dJ0_indexOf_7cf53_36
set_option maxHeartbeats 4000000 in
theorem jm_ix1 (x : Int32) : MetJ l b ex xs L yJ0_indexOf_0f7a4 cJ0_indexOf_0f7a4 2 (some .int) 6 [.ref (ex 3), .int x] (ixOf x) := by
  refine jm (by decide +kernel) (Nat.le_of_ble_eq_true rfl) ?_
  intro p e s m below meth c hx hb hml hr hts hown hlocks hSt ls hl
  have hl : lv_has ls 2 [(0, .ref (ex 3)), (1, .int x)] := hl
  refine lv_aload_n hx hb dJ0_indexOf_0f7a4_0 rfl (lv_at hl 0 rfl) ?_
  refine lv_iload_n hx hb dJ0_indexOf_0f7a4_1 rfl (lv_at hl 1 rfl) ?_
  refine lv_iconst (v := 0) hx hb dJ0_indexOf_0f7a4_2 (by decide) ?_
  refine jv_run (As := [.int x, .int 0]) (rest := []) hx hb hml hts hown hSt va_S.rf (jm_ix2 x) jc_J0_indexOf_7cf53 j_w7 rfl (show npO yJ0_indexOf_7cf53 2 = true by decide +kernel) (by decide) (by decide) hl.1 (by decide) (by decide) (by decide) dJ0_indexOf_0f7a4_3 ?_
  exact mj_ret hx hb hr rfl hlocks dJ0_indexOf_0f7a4_6
theorem ixH_all : IxH l b ex xs L := by
  intro p e R s m args below meth c d hx hts hSt hRf hRl H locs cells slots Q pc ls x t hd hown hsz h8 hwt hS hc hs kk
  exact jv_run (As := [.int x]) (rest := t.map (up b ex)) hx rfl rfl hts hown hSt hS (jm_ix1 x) jc_J0_indexOf_0f7a4 j_w8 rfl (show npO yJ0_indexOf_0f7a4 1 = true by decide +kernel) (by omega) (by omega) hsz (by rw [up_wt]; exact hwt) hc hs hd kk
end JDK2
end
section
/-! ===== the start ===== -/
def R_law : String := "TrajectoryRailsLaw"
def lw_P (b : Addr) (xs : List Int32) (args : Array Value) (s : State) : Prop := args = #[.ref b] ∧ s.IntsAt b xs ∧ xs.length ≤ 384 ∧ (Jvm.Cond.and given_1 narrow_1).before args s = true
def lw_Q (_ : Array Value) (s : State) (o : Outcome) (t : State) : Prop := o = .returned (some (.int 1)) ∧ Framed s o t [] 600128 7301098
def lw_Z (below : List Frame) (a : Array Value) (s : State) : State → Prop := fun t => ∃ o, t.status = .running ∧ Ended t below o ∧ lw_Q a s o t
/-- the law's own end, with 1 on the stack, nothing written that was there before, its room as the claim has it -/
theorem lw_ret {p : Program} {l : Launch} {e : Env} {s : State} {m : MethodId} {below : List Frame} {meth : Method} {c : Code} {b : Nat} (hx : p.tables.exec = Jvm.exec) (hb : c.code = code) (hr : meth.sig.returnType = ret) (hlocks : meth.locks = false) {pc : Nat} {H : Heap} {ls : Array Slot} (hdg : decode code pc = .ok (.ireturn, 1)) : W p l e room_1 s m #[Value.ref b] below meth c H [] 600128 7301098 (lw_Z below #[Value.ref b] s) (F0 m pc ls [.int 1]) := by
  intro T hT X
  obtain ⟨fs, hret, hrun, hended, hW, hframe⟩ := X.leave (v := some (.int 1)) (hlocks := hlocks) (fun h => by rw [hr] at h; cases h)
  have hmeth' : T.vm.method? m = some meth := X.method'
  refine ⟨T.setFrames fs, ?_, .returned (some (.int 1)), hrun, hended, rfl, ⟨_, rfl⟩, hW, hframe⟩
  jvm_step X.here [X.here.top, hx, hb, hdg, hmeth', hr, ret, narrow_b1]
  (try refine ⟨rfl, ?_⟩); (try refine ⟨rfl, ?_⟩)
  first | (intro acts; rw [hret _ acts rfl rfl rfl]) | rw [hret _ _ rfl rfl rfl]
  exact Steps.refl _
/-- what holds at the law's entry: the machine, the code, the tables' words (any of lw_tbl by 'hts w (by decide +kernel)'), the script of L ints xs at the cell b, what the Statement gives of the start (any of its parts by flat_of_before) -/
def lw_At (p : Program) (s : State) (m : MethodId) (meth : Method) (c : Code) (b L : Nat) (xs : Nat → Int32) : Prop :=
  p.tables.exec = Jvm.exec ∧ c.code = code ∧ meth.sig.returnType = ret ∧ c.maxLocals = 4 ∧ s.vm.findClass R_law = some m.cls ∧ (∀ w ∈ lw_tbl, w.before #[Value.ref b] s = true) ∧ va_X b L xs s s.heap ∧ b < s.heap.size ∧ meth.locks = false ∧ (Jvm.Cond.and given_1 narrow_1).before #[Value.ref b] s = true ∧ meth.name = "law" ∧ c.exceptionTable.toList = []

theorem sel_priv {C : String} {y z x : MethodName} {s : State} {args : Array Value} {n : Nat} (hy : y.cls ≠ "java/lang/invoke/MethodHandle" ∧ y.cls ≠ "java/lang/invoke/VarHandle") (hzy : z.cls = y.cls) (hins : (Cond.instantiable C n).before args s = true) (hz : (Cond.selects C x z).before args s = true) (hpriv : (Cond.privateMethod y).before args s = true) (hinst : (Cond.instanceMethod y).before args s = true) : (Cond.selects C y y).before args s = true := by
  obtain ⟨c, k, hc, hk, -, -, -, -⟩ := Cond.instantiable_spec hins
  obtain ⟨mk, methM, hnamed, hmethM, -, -⟩ := Cond.instanceMethod_spec hinst
  have hfound : s.methodFound? y.cls y.name y.desc = some mk := State.methodFound?_of_named hnamed hy
  have hsel : selectMethod {} s.vm c mk = .method mk := selectMethod_private hmethM (Cond.privateMethod_at hpriv mk methM hnamed hmethM)
  obtain ⟨c2, r2, m2, q1, q2, q3, q4, kP, hkP, hkPi⟩ := Cond.selects_spec hz
  have hcls : m2.cls = mk.cls := by
    have h1 := findClass_of_methodNamed q3
    have h2 := findClass_of_methodNamed hnamed
    rw [hzy] at h1
    exact Option.some.inj (h1.symm.trans h2)
  rw [hcls] at hkP
  simp only [Cond.before, Cond.holds, Cond.value, hc, hfound, hnamed, hsel, hkP]
  simp; exact hkPi
def ckX (q : String × MethodName) : Bool := nMH q.2 && (decide (q.2.cls = "TrajectoryRails$Reader") && (decide (Cond.instantiable q.1 8 ∈ lw_tbl) && (decide (Cond.selects q.1 ⟨q.1, "takeFormula", "()Z"⟩ ⟨"TrajectoryRails$Reader", "takeFormula", "()Z"⟩ ∈ lw_tbl) && (decide (Cond.privateMethod q.2 ∈ lw_tbl) && decide (Cond.instanceMethod q.2 ∈ lw_tbl)))))
theorem mjX_ok : mjX.all ckX = true := by decide +kernel
theorem hts_all {s : State} {args : Array Value} (hts : ∀ w ∈ lw_tbl, w.before args s = true) : ∀ w ∈ mjS, w.before args s = true := by
  intro w hw
  rcases List.mem_append.mp hw with hw | hw
  · obtain ⟨q, hq, rfl⟩ := List.mem_map.mp hw
    have h := List.all_eq_true.mp mjX_ok q hq
    unfold ckX at h
    rw [Bool.and_eq_true, Bool.and_eq_true, Bool.and_eq_true, Bool.and_eq_true, Bool.and_eq_true] at h
    obtain ⟨c1, c2, c3, c4, c5, c6⟩ := h
    exact sel_priv (nMH_of c1) (of_decide_eq_true c2).symm (hts _ (of_decide_eq_true c3)) (hts _ (of_decide_eq_true c4)) (hts _ (of_decide_eq_true c5)) (hts _ (of_decide_eq_true c6))
  · exact hts w hw
theorem mjI_ok : (List.range 14).all (fun ci => decide (Cond.instantiable (mjCN ci) (nF ci) ∈ mjS)) = true := by decide +kernel
theorem mjI_14 : Cond.instantiable (mjCN 14) 6 ∈ mjS := by decide +kernel
theorem known_all {s : State} {args : Array Value} (hts : ∀ w ∈ mjS, w.before args s = true) : ∃ D : va_G, ∀ (k : Nat) (q : vw_C), mjC[k]? = some q → u_Kn s q.1 q.2.1 q.2.2 (D.1 k) (D.2 k) := by
  have h0 : ∀ ci : Nat, ∃ z : ClassId × (Nat → Nat), ci < 15 → u_Kn s (mjCN ci) (mjTT ci) (nF ci) z.1 z.2 := by
    intro ci
    by_cases hci : ci < 15
    · by_cases h14 : ci < 14
      · obtain ⟨cC, iS, h⟩ := u_known (C := mjCN ci) (T := mjTT ci) (N := nF ci) (n := nF ci) hts (fun w hw => (List.mem_filter.mp (mjL_at h14 w hw)).1) (hts _ (of_decide_eq_true (List.all_eq_true.mp mjI_ok ci (List.mem_range.mpr h14))))
        exact ⟨(cC, iS), fun _ => h⟩
      · have e : ci = 14 := by omega
        subst e
        obtain ⟨cC, iS, h⟩ := u_known (C := mjCN 14) (T := mjTT 14) (N := nF 14) (n := 6) hts (fun w hw => by cases hw) (hts _ mjI_14)
        exact ⟨(cC, iS), fun _ => h⟩
    · exact ⟨(0, fun _ => 0), fun h => absurd h hci⟩
  obtain ⟨f, hf⟩ := Classical.axiomOfChoice h0
  refine ⟨(fun k => (f k).1, fun k => (f k).2), fun k q hq => ?_⟩
  have hk : k < 15 := (List.getElem?_eq_some_iff.mp hq).1
  rw [mjC_at hk] at hq
  cases hq
  exact hf k hk
theorem arr_all {s : State} {args : Array Value} (hts : ∀ w ∈ mjS, w.before args s = true) : ∃ cA : FieldType → ClassId, ∀ (k : Nat) (q : ClassId × FieldType), (tyL cA)[k]? = some q → ArrOfT s q.1 q.2 ∧ va_RA s q.1 q.2 := by
  have one : ∀ ty : FieldType, Cond.arrayClass ty ∈ mjS → (∀ cA, va_RA s cA ty = (s.vm.findClass ("[" ++ ty.toString) = some cA)) → ∃ c : ClassId, ArrOfT s c ty ∧ va_RA s c ty := by
    intro ty h1 h2
    obtain ⟨c, k, comp, g1, g2, g3⟩ := Cond.arrayClass_spec (args := args) (first := s) (o := none) (s := s) (idx := []) (hts _ h1)
    exact ⟨c, fun n z => ⟨fun k9 h => (by cases h), k, g2, comp, g3⟩, by rw [h2]; exact g1⟩
  obtain ⟨c1, a1⟩ := one .int mjAC.1 (fun _ => rfl)
  obtain ⟨c2, a2⟩ := one .long mjAC.2.1 (fun _ => rfl)
  obtain ⟨c3, a3⟩ := one .byte mjAC.2.2.1 (fun _ => rfl)
  obtain ⟨c4, a4⟩ := one .boolean mjAC.2.2.2 (fun _ => rfl)
  refine ⟨fun ty => match ty with | .int => c1 | .long => c2 | .byte => c3 | _ => c4, fun k q hq => ?_⟩
  match k, hq with
  | 0, hq => cases hq; exact a1
  | 1, hq => cases hq; exact a2
  | 2, hq => cases hq; exact a3
  | 3, hq => cases hq; exact a4
end
section
/-! ===== the statics at the start; the law out of a run of the mini machine ===== -/
abbrev fls : List Cond := flatC (Jvm.Cond.and given_1 narrow_1)
abbrev tmL : Term := .static RX0 "LANES_WITH" "[J"
abbrev tmW : Term := .static RX14 "WORDS" "[J"
abbrev tmS : Term := .string RX14 115
abbrev tmV : Term := .field tmS "java/lang/String" "value" "[B"
theorem fl_L : Cond.arrayOf tmL .long ∈ fls ∧ Cond.eq (.length tmL) (.int 6) ∈ fls ∧ (List.range 6).all (fun j => decide (Cond.eq (.elem tmL (.int (Int32.ofNat j))) (.long ((jTab 1).getD j 0)) ∈ fls)) = true := by decide +kernel
theorem fl_W : Cond.arrayOf tmW .long ∈ fls ∧ Cond.eq (.length tmW) (.int 9) ∈ fls ∧ (List.range 9).all (fun j => decide (Cond.eq (.elem tmW (.int (Int32.ofNat j))) (.long ((jTab 2).getD j 0)) ∈ fls)) = true := by decide +kernel
theorem fl_S : Cond.exactly tmS "java/lang/String" ∈ fls ∧ Cond.eq (.field tmS "java/lang/String" "coder" "B") (.int 0) ∈ fls ∧ Cond.arrayOf tmV .byte ∈ fls ∧ Cond.eq (.length tmV) (.int (Int32.ofNat 10)) ∈ fls ∧ (List.range 10).all (fun j => decide (Cond.eq (.elem tmV (.int (Int32.ofNat j))) (.int (ixB.getD j 0)) ∈ fls)) = true := by decide +kernel
theorem fl_C : Cond.eq (.static RJ0 "COMPACT_STRINGS" "Z") (.int 1) ∈ fls ∧ Cond.isRef (.static Bundle.tN "UNASSIGNED_STACK" Bundle.steD) ∈ fls ∧ Cond.isRef (.static Bundle.tN "SUPPRESSED_SENTINEL" Bundle.listD) ∈ fls := by decide +kernel
theorem mj_ls : Cond.laysStatic RX0 "LANES_WITH" "[J" ∈ mjS ∧ Cond.laysStatic RX14 "WORDS" "[J" ∈ mjS ∧ Cond.laysStatic RJ0 "COMPACT_STRINGS" "Z" ∈ mjS ∧ Cond.laysStatic Bundle.tN "UNASSIGNED_STACK" Bundle.steD ∈ mjS ∧ Cond.laysStatic Bundle.tN "SUPPRESSED_SENTINEL" Bundle.listD ∈ mjS := by decide +kernel
theorem mj_in : Cond.initialized RX0 ∈ mjS ∧ Cond.initialized RX14 ∈ mjS ∧ Cond.initialized RJ0 ∈ mjS ∧ Cond.initialized Bundle.tN ∈ mjS ∧ Cond.stringRef RX14 115 "=&|^!();,." ∈ mjS := by decide +kernel
theorem isNw_tab {w : Cond} (h : isNw w = true) : w.onTables = true := by
  cases w <;> first | rfl | exact Bool.noConfusion h
theorem stf_start {s : State} {args : Array Value} {bA L : Nat} {xs : Nat → Int32} (hts : ∀ w ∈ mjS, w.before args s = true) (hgv : (Jvm.Cond.and given_1 narrow_1).before args s = true) (hX : va_X bA L xs s s.heap) (hbl : bA < s.heap.size) : ∃ ex : Nat → Nat, ex 0 = bA ∧ StF (s.heap.size - 1) ex xs L s s.heap := by
  have hs := flat_of_before _ hgv
  have hA : ∀ a : Nat, a < s.heap.size → ¬ Ab (s.heap.size - 1) a := fun a h q => by
    have q : s.heap.size - 1 < a := q
    omega
  obtain ⟨t1, v1, T1⟩ := va_Tof (tm := tmL) (ty := .long) (N := 6) (f := fun j => .long ((jTab 1).getD j 0)) (A := Ab (s.heap.size - 1)) (by decide) (hs _ fl_L.1) (va_eqt (hs _ fl_L.2.1)) (fun j hj => va_eqtl (hs _ (of_decide_eq_true (List.all_eq_true.mp fl_L.2.2 j (List.mem_range.mpr hj))))) hA
  obtain ⟨t2, v2, T2⟩ := va_Tof (tm := tmW) (ty := .long) (N := 9) (f := fun j => .long ((jTab 2).getD j 0)) (A := Ab (s.heap.size - 1)) (by decide) (hs _ fl_W.1) (va_eqt (hs _ fl_W.2.1)) (fun j hj => va_eqtl (hs _ (of_decide_eq_true (List.all_eq_true.mp fl_W.2.2 j (List.mem_range.mpr hj))))) hA
  have hS1 := vk_Sof (args := args) (s := s) (N := 1) (tm := fun _ => tmS) (len := [10]) (byt := [ixB]) (A := Ab (s.heap.size - 1)) (fun i hi => by rw [show i = 0 by omega]; decide) (fun i hi => hs _ fl_S.1) (fun i hi => hs _ fl_S.2.1) (fun i hi => hs _ fl_S.2.2.1) (fun i hi => by rw [show i = 0 by omega]; exact hs _ fl_S.2.2.2.1) (fun i hi j hj => by
      have e : i = 0 := by omega
      subst e
      exact hs _ (of_decide_eq_true (List.all_eq_true.mp fl_S.2.2.2.2 j (List.mem_range.mpr hj)))) (fun i j hi hj hij => by omega) hA
  obtain ⟨adK, adV, hSS, hSt⟩ := hS1
  have hSt0 := hSt 0 (by decide)
  refine ⟨fun n => match n with | 0 => bA | 1 => t1 | 2 => t2 | 3 => adK 0 | _ => adV 0, rfl, ⟨va_Zof (hts _ mj_ls.1) (hts _ mj_in.1) v1 hA, T1⟩, ⟨va_Zof (hts _ mj_ls.2.1) (hts _ mj_in.2.1) v2 hA, T2⟩, ⟨?_, ⟨fun i hi => ?_, fun i j hi hj _ => by omega⟩, va_Zof (hts _ mj_ls.2.2.1) (hts _ mj_in.2.2.1) (va_eqi (hs _ fl_C.1)) hA⟩, ⟨vx_Zqof (hts _ mj_ls.2.2.2.1) (hts _ mj_in.2.2.2.1) (hs _ fl_C.2.1) hA, vx_Zqof (hts _ mj_ls.2.2.2.2) (hts _ mj_in.2.2.2.1) (hs _ fl_C.2.2) hA⟩, fun w hw h => va_Nw.of (isNw_tab h) (hts w hw), hX, by show bA ≤ s.heap.size - 1; omega, hbl⟩
  · exact vk_R.of (A := args) (U := s) (hts _ mj_in.2.2.2.2) hSt0
  · have e : i = 0 := by omega
    subst e
    exact hSS.1 0 (by decide)
/-- the empty heap of the mini machine -/
def M00 : MH := (fun _ => .inl 99, fun _ _ => 0, fun _ _ => 0, fun _ _ => 0, 0, 0)
def LawP : Prop := ∀ (xs : Nat → Int32) (L : Nat), L ≤ 384 → ∃ (n : Nat) (M' : MH), xq xs L n 2000 168 0 [.retAddr 0, .null, .null, .null] [] M00 = some (some (some (.int 1)), M') ∧ M'.2.2.2.2.1 ≤ 600128 ∧ M'.2.2.2.2.2 ≤ 7301098
set_option maxHeartbeats 4000000 in
set_option maxRecDepth 100000 in
theorem whole_of (LP : LawP) {p : Program} {e : Env} {s : State} {m : MethodId} {below : List Frame} {meth : Method} {c : Code} (l : Launch) (hfl : l.flags = flags0) {bA L : Nat} {xs : Nat → Int32} (hL : L ≤ 384) (C0 : lw_At p s m meth c bA L xs) : W p l e room_1 s m #[Value.ref bA] below meth c s.heap [] 0 0 (lw_Z below #[Value.ref bA] s) (entryFrame m ([Value.ref bA] : List Value).toArray 4) := by
  obtain ⟨hx, hb, hr, hml, hown, hts0, hX, hbl, hlocks, hgv, hnm, htab⟩ := C0
  have hts := hts_all hts0
  obtain ⟨D, hD⟩ := known_all hts
  obtain ⟨cA, hcA⟩ := arr_all hts
  obtain ⟨ex, hex, hSt⟩ := stf_start hts hgv hX hbl
  obtain ⟨n, M', hq, hz, hsl⟩ := LP xs L hL
  have hnt : l.stackTraces = false := by
    unfold Launch.stackTraces
    rw [hfl]
    decide +kernel
  have hbb : s.heap.size - 1 + 1 = s.heap.size := by omega
  have hK : va_K D mjC (tyL cA) s := ⟨hD, hcA⟩
  have hLV := LV.entry (s.heap.size - 1) ex [.retAddr 0] 168 (by decide)
  have hmap : ([.retAddr 0] : List Value).map (up (s.heap.size - 1) ex) = [Value.ref bA] := by
    show [Value.ref (ex 0)] = [Value.ref bA]
    rw [hex]
  rw [hmap] at hLV
  rw [lg_entry_eq]
  refine sd_all (D := D) (cA := cA) ixH_all hnt n 2000 168 0 [.retAddr 0, .null, .null, .null] [] M00 (some (some (.int 1))) M' hq p e room_1 s m _ below meth c s.heap [] 0 0 _ _ 0 hx hb hml hown hnm (fun w hw _ => hts w hw) hlocks (by rw [htab]; rfl) hK hSt (by decide) (by decide) ⟨fun _ _ => rfl, fun a ty n h => by cases h⟩ (fun k q h => by simp [wsO, M00] at h) (by show s.heap.size = s.heap.size - 1 + 0 + 1; omega) (by show s.heap.size + 0 = s.heap.size - 1 + 0 + 1; omega) va_S.rf hLV rfl (by omega) (by show s.heap.size - 1 + M'.2.2.2.2.1 + 1 ≤ s.heap.size + 600128; omega) rfl (by show M'.2.2.2.2.2 ≤ 0 + 7301098; omega) ?_ (fun h => by cases h)
  intro v hv H1 locs1 cells1 slots1 pc1 ls1 i st1 q1 q2 q3 q4 q5 q6 q7
  cases hv
  rcases rt_at q7 with ⟨x, ty, rfl, rfl, hty, hn, hv⟩ | ⟨x, rfl, rfl, hty, hv⟩ | ⟨rfl, rfl, hty, hv⟩
  · cases hv
    refine va_forget (fun q hq => ?_) ?_
    · have := q3.2.2 q hq
      have : s.heap.size - 1 < q.base := this
      omega
    · refine W.widen (k := 600128) (n := 7301098) (by omega) (by omega) ?_
      exact lw_ret hx hb hr hlocks q6
  · cases hv
  · cases hv
end
section
/-! ===== P0: runs of the mini machine, by their ends ===== -/
theorem xq_mono {xs : Nat → Int32} {L : Nat} : ∀ (n d j pc : Nat) (ls st : List Value) (M : MH) (r : Option (Option Value) × MH), xq xs L n d j pc ls st M = some r → ∀ k, n ≤ k → xq xs L k d j pc ls st M = some r := by
  intro n
  induction n with
  | zero => intro d j pc ls st M r h; cases h
  | succ n ih =>
    intro d j pc ls st M r h k hk
    obtain ⟨k, rfl⟩ : ∃ q, k = q + 1 := ⟨k - 1, by omega⟩
    have hk : n ≤ k := by omega
    unfold xq at h ⊢
    split at h
    · cases h
    · rename_i i ln hdec
      split at h
      · cases h
      · rename_i hok
        rw [if_neg hok]
        split at h
        · rename_i q hq
          exact ih _ _ _ _ _ _ _ h k hk
        · rename_i hq
          split at h
          · rename_i v hv
            exact h
          · rename_i hv
            split at h
            · rename_i q hcl
              split at h
              · cases h
              · rename_i d'
                split at h
                · cases h
                · rename_i v M1 hc
                  rw [ih _ _ _ _ _ _ _ hc k hk]
                  exact ih _ _ _ _ _ _ _ h k hk
                · rename_i M1 hc
                  rw [ih _ _ _ _ _ _ _ hc k hk]
                  dsimp only
                  split at h
                  · cases h
                  · rename_i hf
                    rw [if_neg hf]
                    split at h
                    · rename_i q9 hh
                      exact ih _ _ _ _ _ _ _ h k hk
                    · exact h
            · exact h
def X (xs : Nat → Int32) (L d j pc : Nat) (ls st : List Value) (M : MH) (Q : Option (Option Value) → MH → Prop) : Prop := ∃ (n : Nat) (o : Option (Option Value)) (M' : MH), xq xs L n d j pc ls st M = some (o, M') ∧ Q o M'
section WP
variable {xs : Nat → Int32} {L d j pc ln : Nat} {i : Instr} {ls st ls' st' : List Value} {M M' : MH} {Q Q' : Option (Option Value) → MH → Prop}
theorem X_mono (h : X xs L d j pc ls st M Q) (hQ : ∀ o M', Q o M' → Q' o M') : X xs L d j pc ls st M Q' := by
  obtain ⟨n, o, M', h1, h2⟩ := h
  exact ⟨n, o, M', h1, hQ o M' h2⟩
theorem X_step {pc' : Nat} (hd : decode (mB j) pc = .ok (i, ln)) (hok : okL i ln = true) (hx : xn xs L d j pc ln i ls st M = some (pc', ls', st', M')) (k : X xs L d j pc' ls' st' M' Q) : X xs L d j pc ls st M Q := by
  obtain ⟨n, o, M1, h1, h2⟩ := k
  refine ⟨n + 1, o, M1, ?_, h2⟩
  unfold xq
  rw [hd]
  dsimp only
  rw [hok, if_neg (by decide), hx]
  exact h1
theorem X_A (hd : decode (mB j) pc = .ok (i, ln)) (hok : okL i ln = true) (hx : xnA j i ls st = some (ls', st')) (k : X xs L d j (pc + ln) ls' st' M Q) : X xs L d j pc ls st M Q := by
  refine X_step hd hok ?_ k
  unfold xn
  rw [hx]
theorem X_B {pc' : Nat} (hd : decode (mB j) pc = .ok (i, ln)) (hok : okL i ln = true) (hx0 : xnA j i ls st = none) (hx : xnB pc i st = some (pc', st')) (k : X xs L d j pc' ls st' M Q) : X xs L d j pc ls st M Q := by
  refine X_step hd hok ?_ k
  unfold xn
  rw [hx0]
  dsimp only
  rw [hx]
theorem X_C {pc' : Nat} (hd : decode (mB j) pc = .ok (i, ln)) (hok : okL i ln = true) (hx0 : xnA j i ls st = none) (hx1 : xnB pc i st = none) (hx : xnC xs L d j pc i st M = some (pc', st', M')) (k : X xs L d j pc' ls st' M' Q) : X xs L d j pc ls st M Q := by
  refine X_step hd hok ?_ k
  unfold xn
  rw [hx0]
  dsimp only
  rw [hx1]
  dsimp only
  rw [hx]
  rfl
theorem X_ret {v : Option Value} (hd : decode (mB j) pc = .ok (i, ln)) (hok : okL i ln = true) (hx0 : xnA j i ls st = none) (hx1 : xnB pc i st = none) (hx2 : xnC xs L d j pc i st M = none) (hr : rt j i st = some v) (k : Q (some v) M) : X xs L d j pc ls st M Q := by
  refine ⟨1, some v, M, ?_, k⟩
  unfold xq
  rw [hd]
  dsimp only
  rw [hok, if_neg (by decide)]
  have hx : xn xs L d j pc ln i ls st M = none := by
    unfold xn
    rw [hx0]
    dsimp only
    rw [hx1]
    dsimp only
    rw [hx2]
    rfl
  rw [hx]
  dsimp only
  rw [hr]
/-- a call -/
theorem X_call {y : Nat} {as rest : List Value} {fg : Bool} (hd0 : decode (mB j) pc = .ok (i, ln)) (hok : okL i ln = true) (hx0 : xnA j i ls st = none) (hx1 : xnB pc i st = none) (hx2 : xnC xs L (d + 1) j pc i st M = none) (hr : rt j i st = none) (hc : cl j i st M = some (y, as, rest, fg))
    (k : X xs L d y 0 (en y as) [] M (fun o M1 => match o with
      | some v => X xs L (d + 1) j (pc + 3) ls (v.toList ++ rest) M1 Q
      | none => fg = true ∧ match hd j pc with
        | some h => X xs L (d + 1) j h.1 ((klL ls h.2).set h.2 .null) [] M1 Q
        | none => Q none M1)) : X xs L (d + 1) j pc ls st M Q := by
  obtain ⟨n, o, M1, h1, h2⟩ := k
  have hx : xn xs L (d + 1) j pc ln i ls st M = none := by
    unfold xn
    rw [hx0]
    dsimp only
    rw [hx1]
    dsimp only
    rw [hx2]
    rfl
  have pre : ∀ k, xq xs L (k + 1) (d + 1) j pc ls st M = match xq xs L k d y 0 (en y as) [] M with
              | none => none
              | some (some v, M') => xq xs L k (d + 1) j (pc + 3) ls (v.toList ++ rest) M'
              | some (none, M') => if fg = false then none else match hd j pc with
                | some h => xq xs L k (d + 1) j h.1 ((klL ls h.2).set h.2 .null) [] M'
                | none => some (none, M') := by
    intro k
    conv => lhs; unfold xq
    rw [hd0]
    dsimp only
    rw [hok, if_neg (by decide), hx]
    dsimp only
    rw [hr]
    dsimp only
    rw [hc]
    rfl
  cases o with
  | some v =>
    obtain ⟨n2, o2, M2, g1, g2⟩ := h2
    refine ⟨max n n2 + 1, o2, M2, ?_, g2⟩
    rw [pre, xq_mono _ _ _ _ _ _ _ _ h1 (max n n2) (Nat.le_max_left _ _)]
    exact xq_mono _ _ _ _ _ _ _ _ g1 _ (Nat.le_max_right _ _)
  | none =>
    obtain ⟨hf, h2⟩ := h2
    cases hh : hd j pc with
    | some h =>
      rw [hh] at h2
      obtain ⟨n2, o2, M2, g1, g2⟩ := h2
      refine ⟨max n n2 + 1, o2, M2, ?_, g2⟩
      rw [pre, xq_mono _ _ _ _ _ _ _ _ h1 (max n n2) (Nat.le_max_left _ _)]
      dsimp only
      rw [if_neg (by rw [hf]; decide), hh]
      exact xq_mono _ _ _ _ _ _ _ _ g1 _ (Nat.le_max_right _ _)
    | none =>
      rw [hh] at h2
      refine ⟨n + 1, none, M1, ?_, h2⟩
      rw [pre, h1]
      dsimp only
      rw [if_neg (by rw [hf]; decide), hh]
theorem X_throw (hd0 : decode (mB j) pc = .ok (i, ln)) (hok : okL i ln = true) (hx0 : xn xs L d j pc ln i ls st M = none) (hr : rt j i st = none) (hc : cl j i st M = none) (ht : th d j pc st = true) (k : Q none (thM M)) : X xs L d j pc ls st M Q := by
  refine ⟨1, none, thM M, ?_, k⟩
  unfold xq
  rw [hd0]
  dsimp only
  rw [hok, if_neg (by decide), hx0]
  dsimp only
  rw [hr]
  dsimp only
  rw [hc]
  dsimp only
  rw [ht, if_pos rfl]
end WP
end
section
/-! ===== P0: a rule an instruction ===== -/
section RULES
variable {xs : Nat → Int32} {L d j pc pc' : Nat} {ls st ls' : List Value} {M : MH} {Q : Option (Option Value) → MH → Prop} {S : Nat → Shp} {I : Nat → Nat → Int32} {J : Nat → Nat → Int64} {R : Nat → Nat → Nat} {c : Nat × Nat}
theorem X_iconst {n : Int} {v : Int32} (hd : decode (mB j) pc = .ok (.iconst n, 1)) (hp : pc + 1 = pc') (hv : Int32.ofInt n = v) (k : X xs L d j pc' ls (.int v :: st) M Q) : X xs L d j pc ls st M Q := by
  subst hp
  subst hv
  exact X_A hd rfl rfl k
theorem X_bipush {n : Int} {v : Int32} (hd : decode (mB j) pc = .ok (.bipush n, 2)) (hp : pc + 2 = pc') (hv : (Int8.ofInt n).toInt32 = v) (k : X xs L d j pc' ls (.int v :: st) M Q) : X xs L d j pc ls st M Q := by
  subst hp
  subst hv
  exact X_A hd rfl rfl k
theorem X_sipush {n : Int} {v : Int32} (hd : decode (mB j) pc = .ok (.sipush n, 3)) (hp : pc + 3 = pc') (hv : (Int16.ofInt n).toInt32 = v) (k : X xs L d j pc' ls (.int v :: st) M Q) : X xs L d j pc ls st M Q := by
  subst hp
  subst hv
  exact X_A hd rfl rfl k
theorem X_lconst {n : Fin 2} {v : Int64} (hd : decode (mB j) pc = .ok (.lconst n, 1)) (hp : pc + 1 = pc') (hv : Int64.ofNat (n : Nat) = v) (k : X xs L d j pc' ls (.long v :: st) M Q) : X xs L d j pc ls st M Q := by
  subst hp
  subst hv
  exact X_A hd rfl rfl k
theorem X_null  (hd : decode (mB j) pc = .ok (.aconst_null, 1)) (hp : pc + 1 = pc')  (k : X xs L d j pc' ls (.ref 0 :: st) M Q) : X xs L d j pc ls st M Q := by
  subst hp
  exact X_A hd rfl rfl k
theorem X_ldc {k0 : Nat} {v : Int32} (hd : decode (mB j) pc = .ok (.ldc k0, 2)) (hp : pc + 2 = pc') (hv : kIl (mO j) k0 = some v) (k : X xs L d j pc' ls (.int v :: st) M Q) : X xs L d j pc ls st M Q := by
  subst hp
  exact X_A hd rfl (by simp only [xnA, hv, Option.map_some]) k
theorem X_ldc2 {k0 : Nat} {v : Int64} (hd : decode (mB j) pc = .ok (.ldc2_w k0, 3)) (hp : pc + 3 = pc') (hv : kJl (mO j) k0 = some v) (k : X xs L d j pc' ls (.long v :: st) M Q) : X xs L d j pc ls st M Q := by
  subst hp
  exact X_A hd rfl (by simp only [xnA, hv, Option.map_some]) k
theorem X_iload_n {n : Fin 4} {q : Nat} {x : Int32} (hd : decode (mB j) pc = .ok (.iload_n n, 1)) (hp : pc + 1 = pc') (hn : (n : Nat) = q) (hl : ls[q]? = some (.int x)) (k : X xs L d j pc' ls (.int x :: st) M Q) : X xs L d j pc ls st M Q := by
  subst hp
  exact X_A hd rfl (by simp only [xnA, hn, ldI, hl, Option.map_some]) k
theorem X_iload {q : Nat} {x : Int32} (hd : decode (mB j) pc = .ok (.iload q, 2)) (hp : pc + 2 = pc') (hl : ls[q]? = some (.int x)) (k : X xs L d j pc' ls (.int x :: st) M Q) : X xs L d j pc ls st M Q := by
  subst hp
  exact X_A hd rfl (by simp only [xnA, ldI, hl, Option.map_some]) k
theorem X_lload_n {n : Fin 4} {q : Nat} {x : Int64} (hd : decode (mB j) pc = .ok (.lload_n n, 1)) (hp : pc + 1 = pc') (hn : (n : Nat) = q) (hl : ls[q]? = some (.long x)) (k : X xs L d j pc' ls (.long x :: st) M Q) : X xs L d j pc ls st M Q := by
  subst hp
  exact X_A hd rfl (by simp only [xnA, hn, ldJ, hl, Option.map_some]) k
theorem X_lload {q : Nat} {x : Int64} (hd : decode (mB j) pc = .ok (.lload q, 2)) (hp : pc + 2 = pc') (hl : ls[q]? = some (.long x)) (k : X xs L d j pc' ls (.long x :: st) M Q) : X xs L d j pc ls st M Q := by
  subst hp
  exact X_A hd rfl (by simp only [xnA, ldJ, hl, Option.map_some]) k
theorem X_aload_n {n : Fin 4} {q : Nat} {x : Nat} (hd : decode (mB j) pc = .ok (.aload_n n, 1)) (hp : pc + 1 = pc') (hn : (n : Nat) = q) (hl : ls[q]? = some (.ref x)) (k : X xs L d j pc' ls (.ref x :: st) M Q) : X xs L d j pc ls st M Q := by
  subst hp
  exact X_A hd rfl (by simp only [xnA, hn, ldR, hl, Option.map_some]) k
theorem X_aload {q : Nat} {x : Nat} (hd : decode (mB j) pc = .ok (.aload q, 2)) (hp : pc + 2 = pc') (hl : ls[q]? = some (.ref x)) (k : X xs L d j pc' ls (.ref x :: st) M Q) : X xs L d j pc ls st M Q := by
  subst hp
  exact X_A hd rfl (by simp only [xnA, ldR, hl, Option.map_some]) k
theorem X_eload_n {n : Fin 4} {q : Nat} {x : Nat} (hd : decode (mB j) pc = .ok (.aload_n n, 1)) (hp : pc + 1 = pc') (hn : (n : Nat) = q) (hl : ls[q]? = some (.retAddr x)) (k : X xs L d j pc' ls (.retAddr x :: st) M Q) : X xs L d j pc ls st M Q := by
  subst hp
  exact X_A hd rfl (by simp only [xnA, hn, ldR, hl, Option.map_some]) k
theorem X_eload {q : Nat} {x : Nat} (hd : decode (mB j) pc = .ok (.aload q, 2)) (hp : pc + 2 = pc') (hl : ls[q]? = some (.retAddr x)) (k : X xs L d j pc' ls (.retAddr x :: st) M Q) : X xs L d j pc ls st M Q := by
  subst hp
  exact X_A hd rfl (by simp only [xnA, ldR, hl, Option.map_some]) k
theorem X_istore_n {n : Fin 4} {q : Nat} {x : Int32} (hd : decode (mB j) pc = .ok (.istore_n n, 1)) (hp : pc + 1 = pc') (hn : (n : Nat) = q) (hl : st1 ls q (.int x) = some ls') (k : X xs L d j pc' ls' st M Q) : X xs L d j pc ls (.int x :: st) M Q := by
  subst hp
  exact X_A hd rfl (by simp only [xnA, hn, hl, Option.map_some]) k
theorem X_istore {q : Nat} {x : Int32} (hd : decode (mB j) pc = .ok (.istore q, 2)) (hp : pc + 2 = pc') (hl : st1 ls q (.int x) = some ls') (k : X xs L d j pc' ls' st M Q) : X xs L d j pc ls (.int x :: st) M Q := by
  subst hp
  exact X_A hd rfl (by simp only [xnA, hl, Option.map_some]) k
theorem X_lstore_n {n : Fin 4} {q : Nat} {x : Int64} (hd : decode (mB j) pc = .ok (.lstore_n n, 1)) (hp : pc + 1 = pc') (hn : (n : Nat) = q) (hl : st2 ls q (.long x) = some ls') (k : X xs L d j pc' ls' st M Q) : X xs L d j pc ls (.long x :: st) M Q := by
  subst hp
  exact X_A hd rfl (by simp only [xnA, hn, hl, Option.map_some]) k
theorem X_lstore {q : Nat} {x : Int64} (hd : decode (mB j) pc = .ok (.lstore q, 2)) (hp : pc + 2 = pc') (hl : st2 ls q (.long x) = some ls') (k : X xs L d j pc' ls' st M Q) : X xs L d j pc ls (.long x :: st) M Q := by
  subst hp
  exact X_A hd rfl (by simp only [xnA, hl, Option.map_some]) k
theorem X_astore_n {n : Fin 4} {q x : Nat} (hd : decode (mB j) pc = .ok (.astore_n n, 1)) (hp : pc + 1 = pc') (hn : (n : Nat) = q) (hl : st1 ls q (.ref x) = some ls') (k : X xs L d j pc' ls' st M Q) : X xs L d j pc ls (.ref x :: st) M Q := by
  subst hp
  exact X_A hd rfl (by simp only [xnA, isR, if_true, hn, hl, Option.map_some]) k
theorem X_astore {q x : Nat} (hd : decode (mB j) pc = .ok (.astore q, 2)) (hp : pc + 2 = pc') (hl : st1 ls q (.ref x) = some ls') (k : X xs L d j pc' ls' st M Q) : X xs L d j pc ls (.ref x :: st) M Q := by
  subst hp
  exact X_A hd rfl (by simp only [xnA, isR, if_true, hl, Option.map_some]) k
theorem X_iinc {q : Nat} {n : Int} {x v : Int32} (hd : decode (mB j) pc = .ok (.iinc q n, 3)) (hp : pc + 3 = pc') (hx : ls[q]? = some (.int x)) (hv : x + Int32.ofInt n = v) (hl : ls.set q (.int v) = ls') (k : X xs L d j pc' ls' st M Q) : X xs L d j pc ls st M Q := by
  subst hp
  exact X_A hd rfl (by simp only [xnA, ldI, hx, Option.map_some, hv, hl]) k
theorem X_dup {v : Value} (hd : decode (mB j) pc = .ok (.dup, 1)) (hp : pc + 1 = pc') (hc : v.category = 1) (k : X xs L d j pc' ls (v :: v :: st) M Q) : X xs L d j pc ls (v :: st) M Q := by
  subst hp
  exact X_A hd rfl (by simp only [xnA, hc, if_true]) k
theorem X_dup2 {v w : Value} (hd : decode (mB j) pc = .ok (.dup2, 1)) (hp : pc + 1 = pc') (hc : v.category = 1) (hw : w.category = 1) (k : X xs L d j pc' ls (v :: w :: v :: w :: st) M Q) : X xs L d j pc ls (v :: w :: st) M Q := by
  subst hp
  exact X_A hd rfl (by simp only [xnA, hc, hw, and_self, if_true]) k
theorem X_iadd {x y : Int32} (hd : decode (mB j) pc = .ok (.iadd, 1)) (hp : pc + 1 = pc')  (k : X xs L d j pc' ls (.int (x + y) :: st) M Q) : X xs L d j pc ls (.int y :: .int x :: st) M Q := by
  subst hp
  exact X_A hd rfl rfl k
theorem X_isub {x y : Int32} (hd : decode (mB j) pc = .ok (.isub, 1)) (hp : pc + 1 = pc')  (k : X xs L d j pc' ls (.int (x - y) :: st) M Q) : X xs L d j pc ls (.int y :: .int x :: st) M Q := by
  subst hp
  exact X_A hd rfl rfl k
theorem X_imul {x y : Int32} (hd : decode (mB j) pc = .ok (.imul, 1)) (hp : pc + 1 = pc')  (k : X xs L d j pc' ls (.int (x * y) :: st) M Q) : X xs L d j pc ls (.int y :: .int x :: st) M Q := by
  subst hp
  exact X_A hd rfl rfl k
theorem X_iand {x y : Int32} (hd : decode (mB j) pc = .ok (.iand, 1)) (hp : pc + 1 = pc')  (k : X xs L d j pc' ls (.int (x &&& y) :: st) M Q) : X xs L d j pc ls (.int y :: .int x :: st) M Q := by
  subst hp
  exact X_A hd rfl rfl k
theorem X_ior {x y : Int32} (hd : decode (mB j) pc = .ok (.ior, 1)) (hp : pc + 1 = pc')  (k : X xs L d j pc' ls (.int (x ||| y) :: st) M Q) : X xs L d j pc ls (.int y :: .int x :: st) M Q := by
  subst hp
  exact X_A hd rfl rfl k
theorem X_ixor {x y : Int32} (hd : decode (mB j) pc = .ok (.ixor, 1)) (hp : pc + 1 = pc')  (k : X xs L d j pc' ls (.int (x ^^^ y) :: st) M Q) : X xs L d j pc ls (.int y :: .int x :: st) M Q := by
  subst hp
  exact X_A hd rfl rfl k
theorem X_ishl {x y : Int32} (hd : decode (mB j) pc = .ok (.ishl, 1)) (hp : pc + 1 = pc')  (k : X xs L d j pc' ls (.int (x <<< (y &&& 31)) :: st) M Q) : X xs L d j pc ls (.int y :: .int x :: st) M Q := by
  subst hp
  exact X_A hd rfl rfl k
theorem X_ishr {x y : Int32} (hd : decode (mB j) pc = .ok (.ishr, 1)) (hp : pc + 1 = pc')  (k : X xs L d j pc' ls (.int (x >>> (y &&& 31)) :: st) M Q) : X xs L d j pc ls (.int y :: .int x :: st) M Q := by
  subst hp
  exact X_A hd rfl rfl k
theorem X_idiv {x y : Int32} (hd : decode (mB j) pc = .ok (.idiv, 1)) (hp : pc + 1 = pc') (hy : ¬ y = 0) (k : X xs L d j pc' ls (.int (x / y) :: st) M Q) : X xs L d j pc ls (.int y :: .int x :: st) M Q := by
  subst hp
  exact X_A hd rfl (by simp only [xnA, if_neg hy]) k
theorem X_irem {x y : Int32} (hd : decode (mB j) pc = .ok (.irem, 1)) (hp : pc + 1 = pc') (hy : ¬ y = 0) (k : X xs L d j pc' ls (.int (x - x / y * y) :: st) M Q) : X xs L d j pc ls (.int y :: .int x :: st) M Q := by
  subst hp
  exact X_A hd rfl (by simp only [xnA, if_neg hy]) k
theorem X_ladd {x y : Int64} (hd : decode (mB j) pc = .ok (.ladd, 1)) (hp : pc + 1 = pc')  (k : X xs L d j pc' ls (.long (x + y) :: st) M Q) : X xs L d j pc ls (.long y :: .long x :: st) M Q := by
  subst hp
  exact X_A hd rfl rfl k
theorem X_lsub {x y : Int64} (hd : decode (mB j) pc = .ok (.lsub, 1)) (hp : pc + 1 = pc')  (k : X xs L d j pc' ls (.long (x - y) :: st) M Q) : X xs L d j pc ls (.long y :: .long x :: st) M Q := by
  subst hp
  exact X_A hd rfl rfl k
theorem X_lmul {x y : Int64} (hd : decode (mB j) pc = .ok (.lmul, 1)) (hp : pc + 1 = pc')  (k : X xs L d j pc' ls (.long (x * y) :: st) M Q) : X xs L d j pc ls (.long y :: .long x :: st) M Q := by
  subst hp
  exact X_A hd rfl rfl k
theorem X_land {x y : Int64} (hd : decode (mB j) pc = .ok (.land, 1)) (hp : pc + 1 = pc')  (k : X xs L d j pc' ls (.long (x &&& y) :: st) M Q) : X xs L d j pc ls (.long y :: .long x :: st) M Q := by
  subst hp
  exact X_A hd rfl rfl k
theorem X_lor {x y : Int64} (hd : decode (mB j) pc = .ok (.lor, 1)) (hp : pc + 1 = pc')  (k : X xs L d j pc' ls (.long (x ||| y) :: st) M Q) : X xs L d j pc ls (.long y :: .long x :: st) M Q := by
  subst hp
  exact X_A hd rfl rfl k
theorem X_lxor {x y : Int64} (hd : decode (mB j) pc = .ok (.lxor, 1)) (hp : pc + 1 = pc')  (k : X xs L d j pc' ls (.long (x ^^^ y) :: st) M Q) : X xs L d j pc ls (.long y :: .long x :: st) M Q := by
  subst hp
  exact X_A hd rfl rfl k
theorem X_ineg {x : Int32} (hd : decode (mB j) pc = .ok (.ineg, 1)) (hp : pc + 1 = pc')  (k : X xs L d j pc' ls (.int (-x) :: st) M Q) : X xs L d j pc ls (.int x :: st) M Q := by
  subst hp
  exact X_A hd rfl rfl k
theorem X_lneg {x : Int64} (hd : decode (mB j) pc = .ok (.lneg, 1)) (hp : pc + 1 = pc')  (k : X xs L d j pc' ls (.long (-x) :: st) M Q) : X xs L d j pc ls (.long x :: st) M Q := by
  subst hp
  exact X_A hd rfl rfl k
theorem X_lshl {x : Int64} {y : Int32} (hd : decode (mB j) pc = .ok (.lshl, 1)) (hp : pc + 1 = pc')  (k : X xs L d j pc' ls (.long (x <<< (y.toInt64 &&& 63)) :: st) M Q) : X xs L d j pc ls (.int y :: .long x :: st) M Q := by
  subst hp
  exact X_A hd rfl rfl k
theorem X_lshr {x : Int64} {y : Int32} (hd : decode (mB j) pc = .ok (.lshr, 1)) (hp : pc + 1 = pc')  (k : X xs L d j pc' ls (.long (x >>> (y.toInt64 &&& 63)) :: st) M Q) : X xs L d j pc ls (.int y :: .long x :: st) M Q := by
  subst hp
  exact X_A hd rfl rfl k
theorem X_lushr {x : Int64} {y : Int32} (hd : decode (mB j) pc = .ok (.lushr, 1)) (hp : pc + 1 = pc')  (k : X xs L d j pc' ls (.long ((x.toUInt64 >>> (y.toInt64.toUInt64 &&& Int64.toUInt64 63)).toInt64) :: st) M Q) : X xs L d j pc ls (.int y :: .long x :: st) M Q := by
  subst hp
  exact X_A hd rfl rfl k
theorem X_i2l {x : Int32} (hd : decode (mB j) pc = .ok (.i2l, 1)) (hp : pc + 1 = pc')  (k : X xs L d j pc' ls (.long x.toInt64 :: st) M Q) : X xs L d j pc ls (.int x :: st) M Q := by
  subst hp
  exact X_A hd rfl rfl k
theorem X_l2i {x : Int64} (hd : decode (mB j) pc = .ok (.l2i, 1)) (hp : pc + 1 = pc')  (k : X xs L d j pc' ls (.int x.toInt32 :: st) M Q) : X xs L d j pc ls (.long x :: st) M Q := by
  subst hp
  exact X_A hd rfl rfl k
theorem X_i2b {x : Int32} (hd : decode (mB j) pc = .ok (.i2b, 1)) (hp : pc + 1 = pc')  (k : X xs L d j pc' ls (.int x.toInt8.toInt32 :: st) M Q) : X xs L d j pc ls (.int x :: st) M Q := by
  subst hp
  exact X_A hd rfl rfl k
theorem X_lcmp {x y : Int64} (hd : decode (mB j) pc = .ok (.lcmp, 1)) (hp : pc + 1 = pc')  (k : X xs L d j pc' ls (.int (lg_cmp x y) :: st) M Q) : X xs L d j pc ls (.long y :: .long x :: st) M Q := by
  subst hp
  exact X_A hd rfl rfl k
theorem X_goto {off : Int} {tgt : Nat} (hd : decode (mB j) pc = .ok (.goto off, 3)) (ht : tg pc off = some tgt) (k : X xs L d j tgt ls st M Q) : X xs L d j pc ls st M Q := X_B hd rfl rfl (by simp only [xnB, ht, Option.map_some]) k
theorem X_if_eq {x : Int32} {off : Int} {tgt : Nat} (hd : decode (mB j) pc = .ok (.ifCond .eq off, 3)) (ht : tg pc off = some tgt) (hp : pc + 3 = pc') (kt : x = 0 → X xs L d j tgt ls st M Q) (kf : ¬ (x = 0) → X xs L d j pc' ls st M Q) : X xs L d j pc ls (.int x :: st) M Q := by
  subst hp
  by_cases hc : x = 0
  · exact X_B hd rfl rfl (by simp only [xnB, ht, Option.map_some]; rw [if_pos (show cnd .eq x 0 = true from decide_eq_true hc)]) (kt hc)
  · exact X_B hd rfl rfl (by simp only [xnB, ht, Option.map_some]; rw [if_neg (show ¬ cnd .eq x 0 = true from fun q => hc (of_decide_eq_true q))]) (kf hc)
theorem X_icmp_eq {x y : Int32} {off : Int} {tgt : Nat} (hd : decode (mB j) pc = .ok (.if_icmp .eq off, 3)) (ht : tg pc off = some tgt) (hp : pc + 3 = pc') (kt : x = y → X xs L d j tgt ls st M Q) (kf : ¬ (x = y) → X xs L d j pc' ls st M Q) : X xs L d j pc ls (.int y :: .int x :: st) M Q := by
  subst hp
  by_cases hc : x = y
  · exact X_B hd rfl rfl (by simp only [xnB, ht, Option.map_some]; rw [if_pos (show cnd .eq x y = true from decide_eq_true hc)]) (kt hc)
  · exact X_B hd rfl rfl (by simp only [xnB, ht, Option.map_some]; rw [if_neg (show ¬ cnd .eq x y = true from fun q => hc (of_decide_eq_true q))]) (kf hc)
theorem X_if_ne {x : Int32} {off : Int} {tgt : Nat} (hd : decode (mB j) pc = .ok (.ifCond .ne off, 3)) (ht : tg pc off = some tgt) (hp : pc + 3 = pc') (kt : ¬ x = 0 → X xs L d j tgt ls st M Q) (kf : ¬ (¬ x = 0) → X xs L d j pc' ls st M Q) : X xs L d j pc ls (.int x :: st) M Q := by
  subst hp
  by_cases hc : ¬ x = 0
  · exact X_B hd rfl rfl (by simp only [xnB, ht, Option.map_some]; rw [if_pos (show cnd .ne x 0 = true from decide_eq_true hc)]) (kt hc)
  · exact X_B hd rfl rfl (by simp only [xnB, ht, Option.map_some]; rw [if_neg (show ¬ cnd .ne x 0 = true from fun q => hc (of_decide_eq_true q))]) (kf hc)
theorem X_icmp_ne {x y : Int32} {off : Int} {tgt : Nat} (hd : decode (mB j) pc = .ok (.if_icmp .ne off, 3)) (ht : tg pc off = some tgt) (hp : pc + 3 = pc') (kt : ¬ x = y → X xs L d j tgt ls st M Q) (kf : ¬ (¬ x = y) → X xs L d j pc' ls st M Q) : X xs L d j pc ls (.int y :: .int x :: st) M Q := by
  subst hp
  by_cases hc : ¬ x = y
  · exact X_B hd rfl rfl (by simp only [xnB, ht, Option.map_some]; rw [if_pos (show cnd .ne x y = true from decide_eq_true hc)]) (kt hc)
  · exact X_B hd rfl rfl (by simp only [xnB, ht, Option.map_some]; rw [if_neg (show ¬ cnd .ne x y = true from fun q => hc (of_decide_eq_true q))]) (kf hc)
theorem X_if_lt {x : Int32} {off : Int} {tgt : Nat} (hd : decode (mB j) pc = .ok (.ifCond .lt off, 3)) (ht : tg pc off = some tgt) (hp : pc + 3 = pc') (kt : x < 0 → X xs L d j tgt ls st M Q) (kf : ¬ (x < 0) → X xs L d j pc' ls st M Q) : X xs L d j pc ls (.int x :: st) M Q := by
  subst hp
  by_cases hc : x < 0
  · exact X_B hd rfl rfl (by simp only [xnB, ht, Option.map_some]; rw [if_pos (show cnd .lt x 0 = true from decide_eq_true hc)]) (kt hc)
  · exact X_B hd rfl rfl (by simp only [xnB, ht, Option.map_some]; rw [if_neg (show ¬ cnd .lt x 0 = true from fun q => hc (of_decide_eq_true q))]) (kf hc)
theorem X_icmp_lt {x y : Int32} {off : Int} {tgt : Nat} (hd : decode (mB j) pc = .ok (.if_icmp .lt off, 3)) (ht : tg pc off = some tgt) (hp : pc + 3 = pc') (kt : x < y → X xs L d j tgt ls st M Q) (kf : ¬ (x < y) → X xs L d j pc' ls st M Q) : X xs L d j pc ls (.int y :: .int x :: st) M Q := by
  subst hp
  by_cases hc : x < y
  · exact X_B hd rfl rfl (by simp only [xnB, ht, Option.map_some]; rw [if_pos (show cnd .lt x y = true from decide_eq_true hc)]) (kt hc)
  · exact X_B hd rfl rfl (by simp only [xnB, ht, Option.map_some]; rw [if_neg (show ¬ cnd .lt x y = true from fun q => hc (of_decide_eq_true q))]) (kf hc)
theorem X_if_ge {x : Int32} {off : Int} {tgt : Nat} (hd : decode (mB j) pc = .ok (.ifCond .ge off, 3)) (ht : tg pc off = some tgt) (hp : pc + 3 = pc') (kt : 0 ≤ x → X xs L d j tgt ls st M Q) (kf : ¬ (0 ≤ x) → X xs L d j pc' ls st M Q) : X xs L d j pc ls (.int x :: st) M Q := by
  subst hp
  by_cases hc : 0 ≤ x
  · exact X_B hd rfl rfl (by simp only [xnB, ht, Option.map_some]; rw [if_pos (show cnd .ge x 0 = true from decide_eq_true hc)]) (kt hc)
  · exact X_B hd rfl rfl (by simp only [xnB, ht, Option.map_some]; rw [if_neg (show ¬ cnd .ge x 0 = true from fun q => hc (of_decide_eq_true q))]) (kf hc)
theorem X_icmp_ge {x y : Int32} {off : Int} {tgt : Nat} (hd : decode (mB j) pc = .ok (.if_icmp .ge off, 3)) (ht : tg pc off = some tgt) (hp : pc + 3 = pc') (kt : y ≤ x → X xs L d j tgt ls st M Q) (kf : ¬ (y ≤ x) → X xs L d j pc' ls st M Q) : X xs L d j pc ls (.int y :: .int x :: st) M Q := by
  subst hp
  by_cases hc : y ≤ x
  · exact X_B hd rfl rfl (by simp only [xnB, ht, Option.map_some]; rw [if_pos (show cnd .ge x y = true from decide_eq_true hc)]) (kt hc)
  · exact X_B hd rfl rfl (by simp only [xnB, ht, Option.map_some]; rw [if_neg (show ¬ cnd .ge x y = true from fun q => hc (of_decide_eq_true q))]) (kf hc)
theorem X_if_gt {x : Int32} {off : Int} {tgt : Nat} (hd : decode (mB j) pc = .ok (.ifCond .gt off, 3)) (ht : tg pc off = some tgt) (hp : pc + 3 = pc') (kt : 0 < x → X xs L d j tgt ls st M Q) (kf : ¬ (0 < x) → X xs L d j pc' ls st M Q) : X xs L d j pc ls (.int x :: st) M Q := by
  subst hp
  by_cases hc : 0 < x
  · exact X_B hd rfl rfl (by simp only [xnB, ht, Option.map_some]; rw [if_pos (show cnd .gt x 0 = true from decide_eq_true hc)]) (kt hc)
  · exact X_B hd rfl rfl (by simp only [xnB, ht, Option.map_some]; rw [if_neg (show ¬ cnd .gt x 0 = true from fun q => hc (of_decide_eq_true q))]) (kf hc)
theorem X_icmp_gt {x y : Int32} {off : Int} {tgt : Nat} (hd : decode (mB j) pc = .ok (.if_icmp .gt off, 3)) (ht : tg pc off = some tgt) (hp : pc + 3 = pc') (kt : y < x → X xs L d j tgt ls st M Q) (kf : ¬ (y < x) → X xs L d j pc' ls st M Q) : X xs L d j pc ls (.int y :: .int x :: st) M Q := by
  subst hp
  by_cases hc : y < x
  · exact X_B hd rfl rfl (by simp only [xnB, ht, Option.map_some]; rw [if_pos (show cnd .gt x y = true from decide_eq_true hc)]) (kt hc)
  · exact X_B hd rfl rfl (by simp only [xnB, ht, Option.map_some]; rw [if_neg (show ¬ cnd .gt x y = true from fun q => hc (of_decide_eq_true q))]) (kf hc)
theorem X_if_le {x : Int32} {off : Int} {tgt : Nat} (hd : decode (mB j) pc = .ok (.ifCond .le off, 3)) (ht : tg pc off = some tgt) (hp : pc + 3 = pc') (kt : x ≤ 0 → X xs L d j tgt ls st M Q) (kf : ¬ (x ≤ 0) → X xs L d j pc' ls st M Q) : X xs L d j pc ls (.int x :: st) M Q := by
  subst hp
  by_cases hc : x ≤ 0
  · exact X_B hd rfl rfl (by simp only [xnB, ht, Option.map_some]; rw [if_pos (show cnd .le x 0 = true from decide_eq_true hc)]) (kt hc)
  · exact X_B hd rfl rfl (by simp only [xnB, ht, Option.map_some]; rw [if_neg (show ¬ cnd .le x 0 = true from fun q => hc (of_decide_eq_true q))]) (kf hc)
theorem X_icmp_le {x y : Int32} {off : Int} {tgt : Nat} (hd : decode (mB j) pc = .ok (.if_icmp .le off, 3)) (ht : tg pc off = some tgt) (hp : pc + 3 = pc') (kt : x ≤ y → X xs L d j tgt ls st M Q) (kf : ¬ (x ≤ y) → X xs L d j pc' ls st M Q) : X xs L d j pc ls (.int y :: .int x :: st) M Q := by
  subst hp
  by_cases hc : x ≤ y
  · exact X_B hd rfl rfl (by simp only [xnB, ht, Option.map_some]; rw [if_pos (show cnd .le x y = true from decide_eq_true hc)]) (kt hc)
  · exact X_B hd rfl rfl (by simp only [xnB, ht, Option.map_some]; rw [if_neg (show ¬ cnd .le x y = true from fun q => hc (of_decide_eq_true q))]) (kf hc)
theorem X_ifnull {a : Nat} {off : Int} {tgt : Nat} (hd : decode (mB j) pc = .ok (.ifnull off, 3)) (ht : tg pc off = some tgt) (hp : pc + 3 = pc') (kt : a = 0 → X xs L d j tgt ls st M Q) (kf : ¬ a = 0 → X xs L d j pc' ls st M Q) : X xs L d j pc ls (.ref a :: st) M Q := by
  subst hp
  by_cases hc : a = 0
  · exact X_B hd rfl rfl (by simp only [xnB, if_pos hc, ht, Option.map_some]) (kt hc)
  · exact X_B hd rfl rfl (by simp only [xnB, if_neg hc]) (kf hc)
theorem X_ifnonnull {a : Nat} {off : Int} {tgt : Nat} (hd : decode (mB j) pc = .ok (.ifnonnull off, 3)) (ht : tg pc off = some tgt) (hp : pc + 3 = pc') (kt : ¬ a = 0 → X xs L d j tgt ls st M Q) (kf : a = 0 → X xs L d j pc' ls st M Q) : X xs L d j pc ls (.ref a :: st) M Q := by
  subst hp
  by_cases hc : a = 0
  · exact X_B hd rfl rfl (by simp only [xnB, if_pos hc]) (kf hc)
  · exact X_B hd rfl rfl (by simp only [xnB, if_neg hc, ht, Option.map_some]) (kt hc)
theorem X_sw {i : Instr} {ln tgt : Nat} {x : Int32} (hd : decode (mB j) pc = .ok (i, ln)) (hok : okL i ln = true) (h0 : xnA j i ls (.int x :: st) = none) (h : xnB pc i (.int x :: st) = some (tgt, st)) (k : X xs L d j tgt ls st M Q) : X xs L d j pc ls (.int x :: st) M Q := X_B hd hok h0 h k
def isIF (t : FieldType) : Bool := match t with
  | .int => true
  | .boolean => true
  | _ => false
def isRF (t : FieldType) : Bool := match t with
  | .object _ => true
  | .array _ => true
  | _ => false
theorem X_getI {k0 ci f a : Nat} (hd : decode (mB j) pc = .ok (.getfield k0, 3)) (hp : pc + 3 = pc') (hs : S a = .inl ci) (hf : fl (mO j) k0 ci = some f) (ht : isIF (tyT ci f) = true) (k : X xs L d j pc' ls (.int (I a f) :: st) (S, I, J, R, c) Q) : X xs L d j pc ls (.ref a :: st) (S, I, J, R, c) Q := by
  subst hp
  have hv : fv (S, I, J, R, c) ci a f = .int (I a f) := by
    unfold fv
    cases hq : tyT ci f <;> rw [hq] at ht <;> first | rfl | cases ht
  exact X_C hd rfl rfl rfl (by simp only [xnC, hs, hf, Option.map_some, hv]) k
theorem X_getJ {k0 ci f a : Nat} (hd : decode (mB j) pc = .ok (.getfield k0, 3)) (hp : pc + 3 = pc') (hs : S a = .inl ci) (hf : fl (mO j) k0 ci = some f) (ht : tyT ci f = .long) (k : X xs L d j pc' ls (.long (J a f) :: st) (S, I, J, R, c) Q) : X xs L d j pc ls (.ref a :: st) (S, I, J, R, c) Q := by
  subst hp
  exact X_C hd rfl rfl rfl (by simp only [xnC, hs, hf, Option.map_some, fv, ht]) k
theorem X_getR {k0 ci f a q : Nat} (hd : decode (mB j) pc = .ok (.getfield k0, 3)) (hp : pc + 3 = pc') (hs : S a = .inl ci) (hf : fl (mO j) k0 ci = some f) (ht : isRF (tyT ci f) = true) (hr : R a f = q) (k : X xs L d j pc' ls (.ref q :: st) (S, I, J, R, c) Q) : X xs L d j pc ls (.ref a :: st) (S, I, J, R, c) Q := by
  subst hp
  have hv : fv (S, I, J, R, c) ci a f = .ref q := by
    unfold fv
    cases hq : tyT ci f <;> rw [hq] at ht <;> first | (simp only [hr]; done) | cases ht
  exact X_C hd rfl rfl rfl (by simp only [xnC, hs, hf, Option.map_some, hv]) k
theorem X_putI {k0 ci f a : Nat} {x : Int32} (hd : decode (mB j) pc = .ok (.putfield k0, 3)) (hp : pc + 3 = pc') (hs : S a = .inl ci) (hf : fl (mO j) k0 ci = some f) (hok : pfOK j ci f = true) (ht : tyT ci f = .int) (k : X xs L d j pc' ls st (S, u2 I a f x, J, R, c) Q) : X xs L d j pc ls (.int x :: .ref a :: st) (S, I, J, R, c) Q := by
  subst hp
  exact X_C hd rfl rfl rfl (by simp only [xnC, hs, hf, hok, if_true, pf, ht, Option.map_some]; rfl) k
theorem X_putZ {k0 ci f a : Nat} {x : Int32} (hd : decode (mB j) pc = .ok (.putfield k0, 3)) (hp : pc + 3 = pc') (hs : S a = .inl ci) (hf : fl (mO j) k0 ci = some f) (hok : pfOK j ci f = true) (ht : tyT ci f = .boolean) (hx : x = 0 ∨ x = 1) (k : X xs L d j pc' ls st (S, u2 I a f x, J, R, c) Q) : X xs L d j pc ls (.int x :: .ref a :: st) (S, I, J, R, c) Q := by
  subst hp
  exact X_C hd rfl rfl rfl (by simp only [xnC, hs, hf, hok, if_true, pf, ht, if_pos hx, Option.map_some]; rfl) k
theorem X_putJ {k0 ci f a : Nat} {x : Int64} (hd : decode (mB j) pc = .ok (.putfield k0, 3)) (hp : pc + 3 = pc') (hs : S a = .inl ci) (hf : fl (mO j) k0 ci = some f) (hok : pfOK j ci f = true) (ht : tyT ci f = .long) (k : X xs L d j pc' ls st (S, I, u2 J a f x, R, c) Q) : X xs L d j pc ls (.long x :: .ref a :: st) (S, I, J, R, c) Q := by
  subst hp
  exact X_C hd rfl rfl rfl (by simp only [xnC, hs, hf, hok, if_true, pf, ht, Option.map_some]; rfl) k
theorem X_putR {k0 ci f a q : Nat} (hd : decode (mB j) pc = .ok (.putfield k0, 3)) (hp : pc + 3 = pc') (hs : S a = .inl ci) (hf : fl (mO j) k0 ci = some f) (hok : pfOK j ci f = true) (ht : isRF (tyT ci f) = true) (k : X xs L d j pc' ls st (S, I, J, u2 R a f q, c) Q) : X xs L d j pc ls (.ref q :: .ref a :: st) (S, I, J, R, c) Q := by
  subst hp
  have hv : pf (S, I, J, R, c) ci a f (.ref q) = some (S, I, J, u2 R a f q, c) := by
    unfold pf
    cases hq : tyT ci f <;> rw [hq] at ht <;> first | rfl | cases ht
  exact X_C hd rfl rfl rfl (by simp only [xnC, hs, hf, hok, if_true, hv, Option.map_some]) k
theorem X_iaload {a n : Nat} {x : Int32} (hd : decode (mB j) pc = .ok (.iaload, 1)) (hp : pc + 1 = pc') (hs : S a = .inr (.int, n)) (hin : inb x n = true) (k : X xs L d j pc' ls (.int (I a x.toNatClampNeg) :: st) (S, I, J, R, c) Q) : X xs L d j pc ls (.int x :: .ref a :: st) (S, I, J, R, c) Q := by
  subst hp
  exact X_C hd rfl rfl rfl (by simp only [xnC, hs, hin, if_true]) k
theorem X_saload {x : Int32} (hd : decode (mB j) pc = .ok (.iaload, 1)) (hp : pc + 1 = pc') (hin : inb x L = true) (k : X xs L d j pc' ls (.int (xs x.toNatClampNeg) :: st) (S, I, J, R, c) Q) : X xs L d j pc ls (.int x :: .retAddr 0 :: st) (S, I, J, R, c) Q := by
  subst hp
  exact X_C hd rfl rfl rfl (by simp only [xnC, hin, if_true]) k
theorem X_laload {a n : Nat} {x : Int32} (hd : decode (mB j) pc = .ok (.laload, 1)) (hp : pc + 1 = pc') (hs : S a = .inr (.long, n)) (hin : inb x n = true) (k : X xs L d j pc' ls (.long (J a x.toNatClampNeg) :: st) (S, I, J, R, c) Q) : X xs L d j pc ls (.int x :: .ref a :: st) (S, I, J, R, c) Q := by
  subst hp
  exact X_C hd rfl rfl rfl (by simp only [xnC, hs, hin, if_true]) k
theorem X_tlaload {e : Nat} {x : Int32} (hd : decode (mB j) pc = .ok (.laload, 1)) (hp : pc + 1 = pc') (hin : inb x (jTab e).length = true) (k : X xs L d j pc' ls (.long ((jTab e).getD x.toNatClampNeg 0) :: st) (S, I, J, R, c) Q) : X xs L d j pc ls (.int x :: .retAddr e :: st) (S, I, J, R, c) Q := by
  subst hp
  exact X_C hd rfl rfl rfl (by simp only [xnC, hin, if_true]) k
theorem X_baload {a n : Nat} {x : Int32} (hd : decode (mB j) pc = .ok (.baload, 1)) (hp : pc + 1 = pc') (hs : S a = .inr (.byte, n)) (hin : inb x n = true) (k : X xs L d j pc' ls (.int (I a x.toNatClampNeg) :: st) (S, I, J, R, c) Q) : X xs L d j pc ls (.int x :: .ref a :: st) (S, I, J, R, c) Q := by
  subst hp
  exact X_C hd rfl rfl rfl (by simp only [xnC, hs, hin, if_true]) k
theorem X_bastore {a n : Nat} {x v : Int32} (hd : decode (mB j) pc = .ok (.bastore, 1)) (hp : pc + 1 = pc') (hs : S a = .inr (.byte, n)) (hin : inb x n = true) (k : X xs L d j pc' ls st (S, u2 I a x.toNatClampNeg (vp_nar .byte v), J, R, c) Q) : X xs L d j pc ls (.int v :: .int x :: .ref a :: st) (S, I, J, R, c) Q := by
  subst hp
  exact X_C hd rfl rfl rfl (by simp only [xnC, hs, hin, if_true]; rfl) k
theorem X_zaload {a n : Nat} {x : Int32} (hd : decode (mB j) pc = .ok (.baload, 1)) (hp : pc + 1 = pc') (hs : S a = .inr (.boolean, n)) (hin : inb x n = true) (k : X xs L d j pc' ls (.int (I a x.toNatClampNeg) :: st) (S, I, J, R, c) Q) : X xs L d j pc ls (.int x :: .ref a :: st) (S, I, J, R, c) Q := by
  subst hp
  exact X_C hd rfl rfl rfl (by simp only [xnC, hs, hin, if_true]) k
theorem X_zastore {a n : Nat} {x v : Int32} (hd : decode (mB j) pc = .ok (.bastore, 1)) (hp : pc + 1 = pc') (hs : S a = .inr (.boolean, n)) (hin : inb x n = true) (k : X xs L d j pc' ls st (S, u2 I a x.toNatClampNeg (vp_nar .boolean v), J, R, c) Q) : X xs L d j pc ls (.int v :: .int x :: .ref a :: st) (S, I, J, R, c) Q := by
  subst hp
  exact X_C hd rfl rfl rfl (by simp only [xnC, hs, hin, if_true]; rfl) k
theorem X_iastore {a n : Nat} {x v : Int32} (hd : decode (mB j) pc = .ok (.iastore, 1)) (hp : pc + 1 = pc') (hs : S a = .inr (.int, n)) (hin : inb x n = true) (k : X xs L d j pc' ls st (S, u2 I a x.toNatClampNeg v, J, R, c) Q) : X xs L d j pc ls (.int v :: .int x :: .ref a :: st) (S, I, J, R, c) Q := by
  subst hp
  exact X_C hd rfl rfl rfl (by simp only [xnC, hs, hin, if_true]; rfl) k
theorem X_lastore {a n : Nat} {x : Int32} {v : Int64} (hd : decode (mB j) pc = .ok (.lastore, 1)) (hp : pc + 1 = pc') (hs : S a = .inr (.long, n)) (hin : inb x n = true) (k : X xs L d j pc' ls st (S, I, u2 J a x.toNatClampNeg v, R, c) Q) : X xs L d j pc ls (.long v :: .int x :: .ref a :: st) (S, I, J, R, c) Q := by
  subst hp
  exact X_C hd rfl rfl rfl (by simp only [xnC, hs, hin, if_true]; rfl) k
theorem X_alen {a n : Nat} {ty : FieldType} (hd : decode (mB j) pc = .ok (.arraylength, 1)) (hp : pc + 1 = pc') (hs : S a = .inr (ty, n)) (k : X xs L d j pc' ls (.int (Int32.ofNat n) :: st) (S, I, J, R, c) Q) : X xs L d j pc ls (.ref a :: st) (S, I, J, R, c) Q := by
  subst hp
  exact X_C hd rfl rfl rfl (by simp only [xnC, hs]) k
theorem X_slen  (hd : decode (mB j) pc = .ok (.arraylength, 1)) (hp : pc + 1 = pc')  (k : X xs L d j pc' ls (.int (Int32.ofNat L) :: st) (S, I, J, R, c) Q) : X xs L d j pc ls (.retAddr 0 :: st) (S, I, J, R, c) Q := by
  subst hp
  exact X_C hd rfl rfl rfl rfl k
theorem X_new {k0 ci : Nat} (hd : decode (mB j) pc = .ok (.new k0, 3)) (hp : pc + 3 = pc') (hn : nwl (mO j) k0 = some ci) (k : X xs L d j pc' ls (.ref (M.2.2.2.2.1 + 1) :: st) (newO M ci) Q) : X xs L d j pc ls st M Q := by
  subst hp
  exact X_C hd rfl rfl rfl (by simp only [xnC, hn, Option.map_some]) k
theorem X_newa {aty : ArrayType} {ty : FieldType} {n : Int32} {q : Nat} (hd : decode (mB j) pc = .ok (.newarray aty, 2)) (hp : pc + 2 = pc') (ht : arT aty = some ty) (hn : ¬ n < 0) (hq : n.toNatClampNeg = q) (hq2 : q ≤ 1000000) (k : X xs L d j pc' ls (.ref (M.2.2.2.2.1 + 1) :: st) (newA M ty q) Q) : X xs L d j pc ls (.int n :: st) M Q := by
  subst hp
  subst hq
  exact X_C hd rfl rfl rfl (by simp only [xnC, ht]; rw [if_pos ⟨hn, hq2⟩]) k
theorem X_gets {k0 e : Nat} (hd : decode (mB j) pc = .ok (.getstatic k0, 3)) (hp : pc + 3 = pc') (hg : gsl (mO j) k0 = some e) (k : X xs L d j pc' ls (.retAddr e :: st) M Q) : X xs L d j pc ls st M Q := by
  subst hp
  exact X_C hd rfl rfl rfl (by simp only [xnC, hg, Option.map_some]) k
theorem X_ldcs (hd : decode (mB j) pc = .ok (.ldc 115, 2)) (hp : pc + 2 = pc') (ho : mO j = 14) (k : X xs L d j pc' ls (.retAddr 3 :: st) M Q) : X xs L d j pc ls st M Q := by
  subst hp
  have h0 : xnA j (.ldc 115) ls st = none := by
    simp only [xnA, ho]
    rw [show kIl 14 115 = none by decide +kernel]
    rfl
  exact X_C hd rfl h0 rfl (by simp only [xnC, ho, and_self, if_true]) k
theorem X_indexOf {x : Int32} (hd : decode (mB j) pc = .ok (.invokevirtual 117, 3)) (hp : pc + 3 = pc') (ho : mO j = 14) (h8 : 8 ≤ d) (hw : wt st ≤ 8) (k : X xs L d j pc' ls (.int (ixOf x) :: st) M Q) : X xs L d j pc ls (.int x :: .retAddr 3 :: st) M Q := by
  subst hp
  exact X_C hd rfl rfl rfl (by simp only [xnC, ho, and_self, if_true]; rw [if_pos ⟨h8, hw⟩]) k
theorem X_oinit {k0 a : Nat} (hd : decode (mB j) pc = .ok (.invokespecial k0, 3)) (hp : pc + 3 = pc') (ho : mjO.getD (mO j) 9999 = k0 ∧ k0 ≠ 9999) (ha : a ≠ 0 ∧ 1 ≤ d ∧ wt st ≤ 8) (k : X xs L d j pc' ls st M Q) : X xs L d j pc ls (.ref a :: st) M Q := by
  subst hp
  exact X_C hd rfl rfl rfl (by simp only [xnC, if_pos ho]; rw [if_pos ha]) k
theorem X_max {k0 : Nat} {x y : Int32} (hd : decode (mB j) pc = .ok (.invokestatic k0, 3)) (hp : pc + 3 = pc') (ho : mjMx.any (fun r => r.1 == mO j && r.2.1 == k0) = true) (ha : 1 ≤ d ∧ wt st ≤ 8) (k : X xs L d j pc' ls (.int (if x < y then y else x) :: st) M Q) : X xs L d j pc ls (.int y :: .int x :: st) M Q := by
  subst hp
  exact X_C hd rfl rfl rfl (by simp only [xnC]; rw [if_pos ho, if_pos ha]) k
theorem X_ireturn {x : Int32} {ty : FieldType} (hd : decode (mB j) pc = .ok (.ireturn, 1)) (hr : mR j = some ty) (hn : narrow ty (.int x) = .int x) (k : Q (some (some (.int x))) M) : X xs L d j pc ls [.int x] M Q := X_ret hd rfl rfl rfl rfl (by simp only [rt, hr, hn, if_true]) k
theorem X_lreturn {x : Int64} (hd : decode (mB j) pc = .ok (.lreturn, 1)) (hr : mR j = some .long) (k : Q (some (some (.long x))) M) : X xs L d j pc ls [.long x] M Q := X_ret hd rfl rfl rfl rfl (by simp only [rt, hr, if_true]) k
theorem X_return (hd : decode (mB j) pc = .ok (.return_, 1)) (hr : mR j = none) (k : Q (some none) M) : X xs L d j pc ls [] M Q := X_ret hd rfl rfl rfl rfl (by simp only [rt, hr, if_true]) k
end RULES
end
