/-! ===== P1: where things lie (by wip/whole/gen/blocks.py) ===== -/
def layS : List (Nat × Shp) := [(1, .inl 9), (2, .inl 7), (3, .inr (.byte, 2000)), (4, .inl 8), (5, .inr (.int, 2001)), (6, .inr (.int, 2001)), (7, .inr (.long, 2001)), (8, .inl 2), (9, .inr (.int, 64)), (10, .inr (.int, 40)), (11, .inl 4), (12, .inr (.int, 64)), (13, .inl 0), (14, .inl 6), (15, .inr (.long, 64)), (16, .inr (.long, 64)), (17, .inr (.long, 9)), (18, .inr (.long, 9)), (19, .inr (.long, 384)), (20, .inr (.long, 384)), (21, .inr (.long, 3840)), (22, .inr (.long, 3840)), (23, .inr (.long, 8)), (24, .inr (.long, 8)), (25, .inl 1), (26, .inr (.long, 40)), (27, .inr (.int, 40)), (28, .inr (.int, 40)), (29, .inr (.int, 40)), (30, .inl 5), (31, .inr (.int, 2000)), (32, .inr (.long, 40)), (33, .inr (.long, 40)), (34, .inr (.int, 40)), (35, .inl 1), (36, .inr (.long, 40)), (37, .inr (.int, 40)), (38, .inr (.int, 40)), (39, .inr (.int, 40)), (40, .inl 5), (41, .inr (.int, 2000)), (42, .inr (.long, 40)), (43, .inr (.long, 40)), (44, .inr (.int, 40)), (45, .inl 3), (46, .inr (.long, 9)), (47, .inr (.int, 48)), (48, .inr (.int, 48)), (49, .inr (.int, 48)), (50, .inr (.int, 48)), (51, .inr (.int, 48)), (52, .inr (.int, 48)), (53, .inl 5), (54, .inr (.int, 2000)), (55, .inl 3), (56, .inr (.long, 9)), (57, .inr (.int, 48)), (58, .inr (.int, 48)), (59, .inr (.int, 48)), (60, .inr (.int, 48)), (61, .inr (.int, 48)), (62, .inr (.int, 48)), (63, .inl 5), (64, .inr (.int, 2000)), (65, .inl 13), (66, .inr (.byte, 2000)), (67, .inr (.int, 2001)), (68, .inr (.long, 2001)), (69, .inr (.int, 2001)), (70, .inr (.int, 2001)), (71, .inl 12), (72, .inr (.int, 2000)), (73, .inr (.int, 2000)), (74, .inr (.int, 2000)), (75, .inr (.long, 2000)), (76, .inr (.int, 2000)), (77, .inl 12), (78, .inr (.int, 2000)), (79, .inr (.int, 2000)), (80, .inr (.int, 2000)), (81, .inr (.long, 2000)), (82, .inr (.int, 2000)), (83, .inl 11), (84, .inr (.long, 40)), (85, .inr (.int, 40)), (86, .inr (.int, 40)), (87, .inr (.int, 40)), (88, .inl 11), (89, .inr (.long, 40)), (90, .inr (.int, 40)), (91, .inr (.int, 40)), (92, .inr (.int, 40)), (93, .inl 10), (94, .inr (.int, 48)), (95, .inr (.int, 48)), (96, .inr (.int, 48)), (97, .inr (.int, 48)), (98, .inr (.int, 48)), (99, .inr (.long, 9)), (100, .inl 12), (101, .inr (.int, 2000)), (102, .inr (.int, 2000)), (103, .inr (.int, 2000)), (104, .inr (.long, 2000)), (105, .inr (.int, 2000)), (106, .inl 12), (107, .inr (.int, 2000)), (108, .inr (.int, 2000)), (109, .inr (.int, 2000)), (110, .inr (.long, 2000)), (111, .inr (.int, 2000)), (112, .inr (.byte, 245760)), (113, .inr (.boolean, 512)), (114, .inr (.boolean, 512)), (115, .inr (.int, 512)), (116, .inr (.int, 512)), (117, .inr (.boolean, 40)), (118, .inr (.boolean, 40))]
def layR : List (Nat × Nat × Nat) := [(1, 0, 2), (1, 1, 8), (1, 2, 11), (1, 3, 13), (2, 0, 3), (4, 0, 2), (4, 1, 5), (4, 2, 6), (4, 3, 7), (8, 0, 4), (8, 3, 9), (8, 7, 10), (11, 0, 4), (11, 3, 12), (13, 5, 14), (13, 6, 17), (13, 7, 18), (13, 8, 19), (13, 9, 20), (13, 10, 21), (13, 11, 22), (13, 12, 23), (13, 13, 24), (14, 0, 15), (14, 1, 16), (25, 1, 26), (25, 2, 27), (25, 3, 28), (25, 4, 29), (25, 5, 30), (25, 6, 32), (25, 7, 33), (25, 8, 34), (30, 0, 31), (35, 1, 36), (35, 2, 37), (35, 3, 38), (35, 4, 39), (35, 5, 40), (35, 6, 42), (35, 7, 43), (35, 8, 44), (40, 0, 41), (45, 1, 46), (45, 5, 47), (45, 6, 48), (45, 7, 49), (45, 8, 50), (45, 9, 51), (45, 10, 52), (45, 11, 53), (53, 0, 54), (55, 1, 56), (55, 5, 57), (55, 6, 58), (55, 7, 59), (55, 8, 60), (55, 9, 61), (55, 10, 62), (55, 11, 63), (63, 0, 64), (65, 0, 66), (65, 2, 67), (65, 3, 68), (65, 4, 69), (65, 5, 70), (65, 23, 112), (65, 24, 113), (65, 25, 114), (65, 26, 115), (65, 27, 116), (65, 28, 117), (65, 30, 118), (71, 0, 72), (71, 1, 73), (71, 2, 74), (71, 3, 75), (71, 4, 76), (77, 0, 78), (77, 1, 79), (77, 2, 80), (77, 3, 81), (77, 4, 82), (83, 0, 84), (83, 1, 85), (83, 2, 86), (83, 3, 87), (88, 0, 89), (88, 1, 90), (88, 2, 91), (88, 3, 92), (93, 0, 94), (93, 1, 95), (93, 2, 96), (93, 3, 97), (93, 4, 98), (93, 5, 99), (100, 0, 101), (100, 1, 102), (100, 2, 103), (100, 3, 104), (100, 4, 105), (106, 0, 107), (106, 1, 108), (106, 2, 109), (106, 3, 110), (106, 4, 111)]
def Lay (S : Nat → Shp) (R : Nat → Nat → Nat) : Prop := (∀ p ∈ layS, S p.1 = p.2) ∧ ∀ p ∈ layR, R p.1 p.2.1 = p.2.2
theorem ls_1 {S : Nat → Shp} {R : Nat → Nat → Nat} (h : Lay S R) : S 1 = .inl 9 := h.1 (1, .inl 9) (List.mem_of_getElem? (i := 0) rfl)
theorem ls_2 {S : Nat → Shp} {R : Nat → Nat → Nat} (h : Lay S R) : S 2 = .inl 7 := h.1 (2, .inl 7) (List.mem_of_getElem? (i := 1) rfl)
theorem ls_3 {S : Nat → Shp} {R : Nat → Nat → Nat} (h : Lay S R) : S 3 = .inr (.byte, 2000) := h.1 (3, .inr (.byte, 2000)) (List.mem_of_getElem? (i := 2) rfl)
theorem ls_4 {S : Nat → Shp} {R : Nat → Nat → Nat} (h : Lay S R) : S 4 = .inl 8 := h.1 (4, .inl 8) (List.mem_of_getElem? (i := 3) rfl)
theorem ls_5 {S : Nat → Shp} {R : Nat → Nat → Nat} (h : Lay S R) : S 5 = .inr (.int, 2001) := h.1 (5, .inr (.int, 2001)) (List.mem_of_getElem? (i := 4) rfl)
theorem ls_6 {S : Nat → Shp} {R : Nat → Nat → Nat} (h : Lay S R) : S 6 = .inr (.int, 2001) := h.1 (6, .inr (.int, 2001)) (List.mem_of_getElem? (i := 5) rfl)
theorem ls_7 {S : Nat → Shp} {R : Nat → Nat → Nat} (h : Lay S R) : S 7 = .inr (.long, 2001) := h.1 (7, .inr (.long, 2001)) (List.mem_of_getElem? (i := 6) rfl)
theorem ls_8 {S : Nat → Shp} {R : Nat → Nat → Nat} (h : Lay S R) : S 8 = .inl 2 := h.1 (8, .inl 2) (List.mem_of_getElem? (i := 7) rfl)
theorem ls_9 {S : Nat → Shp} {R : Nat → Nat → Nat} (h : Lay S R) : S 9 = .inr (.int, 64) := h.1 (9, .inr (.int, 64)) (List.mem_of_getElem? (i := 8) rfl)
theorem ls_10 {S : Nat → Shp} {R : Nat → Nat → Nat} (h : Lay S R) : S 10 = .inr (.int, 40) := h.1 (10, .inr (.int, 40)) (List.mem_of_getElem? (i := 9) rfl)
theorem ls_11 {S : Nat → Shp} {R : Nat → Nat → Nat} (h : Lay S R) : S 11 = .inl 4 := h.1 (11, .inl 4) (List.mem_of_getElem? (i := 10) rfl)
theorem ls_12 {S : Nat → Shp} {R : Nat → Nat → Nat} (h : Lay S R) : S 12 = .inr (.int, 64) := h.1 (12, .inr (.int, 64)) (List.mem_of_getElem? (i := 11) rfl)
theorem ls_13 {S : Nat → Shp} {R : Nat → Nat → Nat} (h : Lay S R) : S 13 = .inl 0 := h.1 (13, .inl 0) (List.mem_of_getElem? (i := 12) rfl)
theorem ls_14 {S : Nat → Shp} {R : Nat → Nat → Nat} (h : Lay S R) : S 14 = .inl 6 := h.1 (14, .inl 6) (List.mem_of_getElem? (i := 13) rfl)
theorem ls_15 {S : Nat → Shp} {R : Nat → Nat → Nat} (h : Lay S R) : S 15 = .inr (.long, 64) := h.1 (15, .inr (.long, 64)) (List.mem_of_getElem? (i := 14) rfl)
theorem ls_16 {S : Nat → Shp} {R : Nat → Nat → Nat} (h : Lay S R) : S 16 = .inr (.long, 64) := h.1 (16, .inr (.long, 64)) (List.mem_of_getElem? (i := 15) rfl)
theorem ls_17 {S : Nat → Shp} {R : Nat → Nat → Nat} (h : Lay S R) : S 17 = .inr (.long, 9) := h.1 (17, .inr (.long, 9)) (List.mem_of_getElem? (i := 16) rfl)
theorem ls_18 {S : Nat → Shp} {R : Nat → Nat → Nat} (h : Lay S R) : S 18 = .inr (.long, 9) := h.1 (18, .inr (.long, 9)) (List.mem_of_getElem? (i := 17) rfl)
theorem ls_19 {S : Nat → Shp} {R : Nat → Nat → Nat} (h : Lay S R) : S 19 = .inr (.long, 384) := h.1 (19, .inr (.long, 384)) (List.mem_of_getElem? (i := 18) rfl)
theorem ls_20 {S : Nat → Shp} {R : Nat → Nat → Nat} (h : Lay S R) : S 20 = .inr (.long, 384) := h.1 (20, .inr (.long, 384)) (List.mem_of_getElem? (i := 19) rfl)
theorem ls_21 {S : Nat → Shp} {R : Nat → Nat → Nat} (h : Lay S R) : S 21 = .inr (.long, 3840) := h.1 (21, .inr (.long, 3840)) (List.mem_of_getElem? (i := 20) rfl)
theorem ls_22 {S : Nat → Shp} {R : Nat → Nat → Nat} (h : Lay S R) : S 22 = .inr (.long, 3840) := h.1 (22, .inr (.long, 3840)) (List.mem_of_getElem? (i := 21) rfl)
theorem ls_23 {S : Nat → Shp} {R : Nat → Nat → Nat} (h : Lay S R) : S 23 = .inr (.long, 8) := h.1 (23, .inr (.long, 8)) (List.mem_of_getElem? (i := 22) rfl)
theorem ls_24 {S : Nat → Shp} {R : Nat → Nat → Nat} (h : Lay S R) : S 24 = .inr (.long, 8) := h.1 (24, .inr (.long, 8)) (List.mem_of_getElem? (i := 23) rfl)
theorem ls_25 {S : Nat → Shp} {R : Nat → Nat → Nat} (h : Lay S R) : S 25 = .inl 1 := h.1 (25, .inl 1) (List.mem_of_getElem? (i := 24) rfl)
theorem ls_26 {S : Nat → Shp} {R : Nat → Nat → Nat} (h : Lay S R) : S 26 = .inr (.long, 40) := h.1 (26, .inr (.long, 40)) (List.mem_of_getElem? (i := 25) rfl)
theorem ls_27 {S : Nat → Shp} {R : Nat → Nat → Nat} (h : Lay S R) : S 27 = .inr (.int, 40) := h.1 (27, .inr (.int, 40)) (List.mem_of_getElem? (i := 26) rfl)
theorem ls_28 {S : Nat → Shp} {R : Nat → Nat → Nat} (h : Lay S R) : S 28 = .inr (.int, 40) := h.1 (28, .inr (.int, 40)) (List.mem_of_getElem? (i := 27) rfl)
theorem ls_29 {S : Nat → Shp} {R : Nat → Nat → Nat} (h : Lay S R) : S 29 = .inr (.int, 40) := h.1 (29, .inr (.int, 40)) (List.mem_of_getElem? (i := 28) rfl)
theorem ls_30 {S : Nat → Shp} {R : Nat → Nat → Nat} (h : Lay S R) : S 30 = .inl 5 := h.1 (30, .inl 5) (List.mem_of_getElem? (i := 29) rfl)
theorem ls_31 {S : Nat → Shp} {R : Nat → Nat → Nat} (h : Lay S R) : S 31 = .inr (.int, 2000) := h.1 (31, .inr (.int, 2000)) (List.mem_of_getElem? (i := 30) rfl)
theorem ls_32 {S : Nat → Shp} {R : Nat → Nat → Nat} (h : Lay S R) : S 32 = .inr (.long, 40) := h.1 (32, .inr (.long, 40)) (List.mem_of_getElem? (i := 31) rfl)
theorem ls_33 {S : Nat → Shp} {R : Nat → Nat → Nat} (h : Lay S R) : S 33 = .inr (.long, 40) := h.1 (33, .inr (.long, 40)) (List.mem_of_getElem? (i := 32) rfl)
theorem ls_34 {S : Nat → Shp} {R : Nat → Nat → Nat} (h : Lay S R) : S 34 = .inr (.int, 40) := h.1 (34, .inr (.int, 40)) (List.mem_of_getElem? (i := 33) rfl)
theorem ls_35 {S : Nat → Shp} {R : Nat → Nat → Nat} (h : Lay S R) : S 35 = .inl 1 := h.1 (35, .inl 1) (List.mem_of_getElem? (i := 34) rfl)
theorem ls_36 {S : Nat → Shp} {R : Nat → Nat → Nat} (h : Lay S R) : S 36 = .inr (.long, 40) := h.1 (36, .inr (.long, 40)) (List.mem_of_getElem? (i := 35) rfl)
theorem ls_37 {S : Nat → Shp} {R : Nat → Nat → Nat} (h : Lay S R) : S 37 = .inr (.int, 40) := h.1 (37, .inr (.int, 40)) (List.mem_of_getElem? (i := 36) rfl)
theorem ls_38 {S : Nat → Shp} {R : Nat → Nat → Nat} (h : Lay S R) : S 38 = .inr (.int, 40) := h.1 (38, .inr (.int, 40)) (List.mem_of_getElem? (i := 37) rfl)
theorem ls_39 {S : Nat → Shp} {R : Nat → Nat → Nat} (h : Lay S R) : S 39 = .inr (.int, 40) := h.1 (39, .inr (.int, 40)) (List.mem_of_getElem? (i := 38) rfl)
theorem ls_40 {S : Nat → Shp} {R : Nat → Nat → Nat} (h : Lay S R) : S 40 = .inl 5 := h.1 (40, .inl 5) (List.mem_of_getElem? (i := 39) rfl)
theorem ls_41 {S : Nat → Shp} {R : Nat → Nat → Nat} (h : Lay S R) : S 41 = .inr (.int, 2000) := h.1 (41, .inr (.int, 2000)) (List.mem_of_getElem? (i := 40) rfl)
theorem ls_42 {S : Nat → Shp} {R : Nat → Nat → Nat} (h : Lay S R) : S 42 = .inr (.long, 40) := h.1 (42, .inr (.long, 40)) (List.mem_of_getElem? (i := 41) rfl)
theorem ls_43 {S : Nat → Shp} {R : Nat → Nat → Nat} (h : Lay S R) : S 43 = .inr (.long, 40) := h.1 (43, .inr (.long, 40)) (List.mem_of_getElem? (i := 42) rfl)
theorem ls_44 {S : Nat → Shp} {R : Nat → Nat → Nat} (h : Lay S R) : S 44 = .inr (.int, 40) := h.1 (44, .inr (.int, 40)) (List.mem_of_getElem? (i := 43) rfl)
theorem ls_45 {S : Nat → Shp} {R : Nat → Nat → Nat} (h : Lay S R) : S 45 = .inl 3 := h.1 (45, .inl 3) (List.mem_of_getElem? (i := 44) rfl)
theorem ls_46 {S : Nat → Shp} {R : Nat → Nat → Nat} (h : Lay S R) : S 46 = .inr (.long, 9) := h.1 (46, .inr (.long, 9)) (List.mem_of_getElem? (i := 45) rfl)
theorem ls_47 {S : Nat → Shp} {R : Nat → Nat → Nat} (h : Lay S R) : S 47 = .inr (.int, 48) := h.1 (47, .inr (.int, 48)) (List.mem_of_getElem? (i := 46) rfl)
theorem ls_48 {S : Nat → Shp} {R : Nat → Nat → Nat} (h : Lay S R) : S 48 = .inr (.int, 48) := h.1 (48, .inr (.int, 48)) (List.mem_of_getElem? (i := 47) rfl)
theorem ls_49 {S : Nat → Shp} {R : Nat → Nat → Nat} (h : Lay S R) : S 49 = .inr (.int, 48) := h.1 (49, .inr (.int, 48)) (List.mem_of_getElem? (i := 48) rfl)
theorem ls_50 {S : Nat → Shp} {R : Nat → Nat → Nat} (h : Lay S R) : S 50 = .inr (.int, 48) := h.1 (50, .inr (.int, 48)) (List.mem_of_getElem? (i := 49) rfl)
theorem ls_51 {S : Nat → Shp} {R : Nat → Nat → Nat} (h : Lay S R) : S 51 = .inr (.int, 48) := h.1 (51, .inr (.int, 48)) (List.mem_of_getElem? (i := 50) rfl)
theorem ls_52 {S : Nat → Shp} {R : Nat → Nat → Nat} (h : Lay S R) : S 52 = .inr (.int, 48) := h.1 (52, .inr (.int, 48)) (List.mem_of_getElem? (i := 51) rfl)
theorem ls_53 {S : Nat → Shp} {R : Nat → Nat → Nat} (h : Lay S R) : S 53 = .inl 5 := h.1 (53, .inl 5) (List.mem_of_getElem? (i := 52) rfl)
theorem ls_54 {S : Nat → Shp} {R : Nat → Nat → Nat} (h : Lay S R) : S 54 = .inr (.int, 2000) := h.1 (54, .inr (.int, 2000)) (List.mem_of_getElem? (i := 53) rfl)
theorem ls_55 {S : Nat → Shp} {R : Nat → Nat → Nat} (h : Lay S R) : S 55 = .inl 3 := h.1 (55, .inl 3) (List.mem_of_getElem? (i := 54) rfl)
theorem ls_56 {S : Nat → Shp} {R : Nat → Nat → Nat} (h : Lay S R) : S 56 = .inr (.long, 9) := h.1 (56, .inr (.long, 9)) (List.mem_of_getElem? (i := 55) rfl)
theorem ls_57 {S : Nat → Shp} {R : Nat → Nat → Nat} (h : Lay S R) : S 57 = .inr (.int, 48) := h.1 (57, .inr (.int, 48)) (List.mem_of_getElem? (i := 56) rfl)
theorem ls_58 {S : Nat → Shp} {R : Nat → Nat → Nat} (h : Lay S R) : S 58 = .inr (.int, 48) := h.1 (58, .inr (.int, 48)) (List.mem_of_getElem? (i := 57) rfl)
theorem ls_59 {S : Nat → Shp} {R : Nat → Nat → Nat} (h : Lay S R) : S 59 = .inr (.int, 48) := h.1 (59, .inr (.int, 48)) (List.mem_of_getElem? (i := 58) rfl)
theorem ls_60 {S : Nat → Shp} {R : Nat → Nat → Nat} (h : Lay S R) : S 60 = .inr (.int, 48) := h.1 (60, .inr (.int, 48)) (List.mem_of_getElem? (i := 59) rfl)
theorem ls_61 {S : Nat → Shp} {R : Nat → Nat → Nat} (h : Lay S R) : S 61 = .inr (.int, 48) := h.1 (61, .inr (.int, 48)) (List.mem_of_getElem? (i := 60) rfl)
theorem ls_62 {S : Nat → Shp} {R : Nat → Nat → Nat} (h : Lay S R) : S 62 = .inr (.int, 48) := h.1 (62, .inr (.int, 48)) (List.mem_of_getElem? (i := 61) rfl)
theorem ls_63 {S : Nat → Shp} {R : Nat → Nat → Nat} (h : Lay S R) : S 63 = .inl 5 := h.1 (63, .inl 5) (List.mem_of_getElem? (i := 62) rfl)
theorem ls_64 {S : Nat → Shp} {R : Nat → Nat → Nat} (h : Lay S R) : S 64 = .inr (.int, 2000) := h.1 (64, .inr (.int, 2000)) (List.mem_of_getElem? (i := 63) rfl)
theorem ls_65 {S : Nat → Shp} {R : Nat → Nat → Nat} (h : Lay S R) : S 65 = .inl 13 := h.1 (65, .inl 13) (List.mem_of_getElem? (i := 64) rfl)
theorem ls_66 {S : Nat → Shp} {R : Nat → Nat → Nat} (h : Lay S R) : S 66 = .inr (.byte, 2000) := h.1 (66, .inr (.byte, 2000)) (List.mem_of_getElem? (i := 65) rfl)
theorem ls_67 {S : Nat → Shp} {R : Nat → Nat → Nat} (h : Lay S R) : S 67 = .inr (.int, 2001) := h.1 (67, .inr (.int, 2001)) (List.mem_of_getElem? (i := 66) rfl)
theorem ls_68 {S : Nat → Shp} {R : Nat → Nat → Nat} (h : Lay S R) : S 68 = .inr (.long, 2001) := h.1 (68, .inr (.long, 2001)) (List.mem_of_getElem? (i := 67) rfl)
theorem ls_69 {S : Nat → Shp} {R : Nat → Nat → Nat} (h : Lay S R) : S 69 = .inr (.int, 2001) := h.1 (69, .inr (.int, 2001)) (List.mem_of_getElem? (i := 68) rfl)
theorem ls_70 {S : Nat → Shp} {R : Nat → Nat → Nat} (h : Lay S R) : S 70 = .inr (.int, 2001) := h.1 (70, .inr (.int, 2001)) (List.mem_of_getElem? (i := 69) rfl)
theorem ls_71 {S : Nat → Shp} {R : Nat → Nat → Nat} (h : Lay S R) : S 71 = .inl 12 := h.1 (71, .inl 12) (List.mem_of_getElem? (i := 70) rfl)
theorem ls_72 {S : Nat → Shp} {R : Nat → Nat → Nat} (h : Lay S R) : S 72 = .inr (.int, 2000) := h.1 (72, .inr (.int, 2000)) (List.mem_of_getElem? (i := 71) rfl)
theorem ls_73 {S : Nat → Shp} {R : Nat → Nat → Nat} (h : Lay S R) : S 73 = .inr (.int, 2000) := h.1 (73, .inr (.int, 2000)) (List.mem_of_getElem? (i := 72) rfl)
theorem ls_74 {S : Nat → Shp} {R : Nat → Nat → Nat} (h : Lay S R) : S 74 = .inr (.int, 2000) := h.1 (74, .inr (.int, 2000)) (List.mem_of_getElem? (i := 73) rfl)
theorem ls_75 {S : Nat → Shp} {R : Nat → Nat → Nat} (h : Lay S R) : S 75 = .inr (.long, 2000) := h.1 (75, .inr (.long, 2000)) (List.mem_of_getElem? (i := 74) rfl)
theorem ls_76 {S : Nat → Shp} {R : Nat → Nat → Nat} (h : Lay S R) : S 76 = .inr (.int, 2000) := h.1 (76, .inr (.int, 2000)) (List.mem_of_getElem? (i := 75) rfl)
theorem ls_77 {S : Nat → Shp} {R : Nat → Nat → Nat} (h : Lay S R) : S 77 = .inl 12 := h.1 (77, .inl 12) (List.mem_of_getElem? (i := 76) rfl)
theorem ls_78 {S : Nat → Shp} {R : Nat → Nat → Nat} (h : Lay S R) : S 78 = .inr (.int, 2000) := h.1 (78, .inr (.int, 2000)) (List.mem_of_getElem? (i := 77) rfl)
theorem ls_79 {S : Nat → Shp} {R : Nat → Nat → Nat} (h : Lay S R) : S 79 = .inr (.int, 2000) := h.1 (79, .inr (.int, 2000)) (List.mem_of_getElem? (i := 78) rfl)
theorem ls_80 {S : Nat → Shp} {R : Nat → Nat → Nat} (h : Lay S R) : S 80 = .inr (.int, 2000) := h.1 (80, .inr (.int, 2000)) (List.mem_of_getElem? (i := 79) rfl)
theorem ls_81 {S : Nat → Shp} {R : Nat → Nat → Nat} (h : Lay S R) : S 81 = .inr (.long, 2000) := h.1 (81, .inr (.long, 2000)) (List.mem_of_getElem? (i := 80) rfl)
theorem ls_82 {S : Nat → Shp} {R : Nat → Nat → Nat} (h : Lay S R) : S 82 = .inr (.int, 2000) := h.1 (82, .inr (.int, 2000)) (List.mem_of_getElem? (i := 81) rfl)
theorem ls_83 {S : Nat → Shp} {R : Nat → Nat → Nat} (h : Lay S R) : S 83 = .inl 11 := h.1 (83, .inl 11) (List.mem_of_getElem? (i := 82) rfl)
theorem ls_84 {S : Nat → Shp} {R : Nat → Nat → Nat} (h : Lay S R) : S 84 = .inr (.long, 40) := h.1 (84, .inr (.long, 40)) (List.mem_of_getElem? (i := 83) rfl)
theorem ls_85 {S : Nat → Shp} {R : Nat → Nat → Nat} (h : Lay S R) : S 85 = .inr (.int, 40) := h.1 (85, .inr (.int, 40)) (List.mem_of_getElem? (i := 84) rfl)
theorem ls_86 {S : Nat → Shp} {R : Nat → Nat → Nat} (h : Lay S R) : S 86 = .inr (.int, 40) := h.1 (86, .inr (.int, 40)) (List.mem_of_getElem? (i := 85) rfl)
theorem ls_87 {S : Nat → Shp} {R : Nat → Nat → Nat} (h : Lay S R) : S 87 = .inr (.int, 40) := h.1 (87, .inr (.int, 40)) (List.mem_of_getElem? (i := 86) rfl)
theorem ls_88 {S : Nat → Shp} {R : Nat → Nat → Nat} (h : Lay S R) : S 88 = .inl 11 := h.1 (88, .inl 11) (List.mem_of_getElem? (i := 87) rfl)
theorem ls_89 {S : Nat → Shp} {R : Nat → Nat → Nat} (h : Lay S R) : S 89 = .inr (.long, 40) := h.1 (89, .inr (.long, 40)) (List.mem_of_getElem? (i := 88) rfl)
theorem ls_90 {S : Nat → Shp} {R : Nat → Nat → Nat} (h : Lay S R) : S 90 = .inr (.int, 40) := h.1 (90, .inr (.int, 40)) (List.mem_of_getElem? (i := 89) rfl)
theorem ls_91 {S : Nat → Shp} {R : Nat → Nat → Nat} (h : Lay S R) : S 91 = .inr (.int, 40) := h.1 (91, .inr (.int, 40)) (List.mem_of_getElem? (i := 90) rfl)
theorem ls_92 {S : Nat → Shp} {R : Nat → Nat → Nat} (h : Lay S R) : S 92 = .inr (.int, 40) := h.1 (92, .inr (.int, 40)) (List.mem_of_getElem? (i := 91) rfl)
theorem ls_93 {S : Nat → Shp} {R : Nat → Nat → Nat} (h : Lay S R) : S 93 = .inl 10 := h.1 (93, .inl 10) (List.mem_of_getElem? (i := 92) rfl)
theorem ls_94 {S : Nat → Shp} {R : Nat → Nat → Nat} (h : Lay S R) : S 94 = .inr (.int, 48) := h.1 (94, .inr (.int, 48)) (List.mem_of_getElem? (i := 93) rfl)
theorem ls_95 {S : Nat → Shp} {R : Nat → Nat → Nat} (h : Lay S R) : S 95 = .inr (.int, 48) := h.1 (95, .inr (.int, 48)) (List.mem_of_getElem? (i := 94) rfl)
theorem ls_96 {S : Nat → Shp} {R : Nat → Nat → Nat} (h : Lay S R) : S 96 = .inr (.int, 48) := h.1 (96, .inr (.int, 48)) (List.mem_of_getElem? (i := 95) rfl)
theorem ls_97 {S : Nat → Shp} {R : Nat → Nat → Nat} (h : Lay S R) : S 97 = .inr (.int, 48) := h.1 (97, .inr (.int, 48)) (List.mem_of_getElem? (i := 96) rfl)
theorem ls_98 {S : Nat → Shp} {R : Nat → Nat → Nat} (h : Lay S R) : S 98 = .inr (.int, 48) := h.1 (98, .inr (.int, 48)) (List.mem_of_getElem? (i := 97) rfl)
theorem ls_99 {S : Nat → Shp} {R : Nat → Nat → Nat} (h : Lay S R) : S 99 = .inr (.long, 9) := h.1 (99, .inr (.long, 9)) (List.mem_of_getElem? (i := 98) rfl)
theorem ls_100 {S : Nat → Shp} {R : Nat → Nat → Nat} (h : Lay S R) : S 100 = .inl 12 := h.1 (100, .inl 12) (List.mem_of_getElem? (i := 99) rfl)
theorem ls_101 {S : Nat → Shp} {R : Nat → Nat → Nat} (h : Lay S R) : S 101 = .inr (.int, 2000) := h.1 (101, .inr (.int, 2000)) (List.mem_of_getElem? (i := 100) rfl)
theorem ls_102 {S : Nat → Shp} {R : Nat → Nat → Nat} (h : Lay S R) : S 102 = .inr (.int, 2000) := h.1 (102, .inr (.int, 2000)) (List.mem_of_getElem? (i := 101) rfl)
theorem ls_103 {S : Nat → Shp} {R : Nat → Nat → Nat} (h : Lay S R) : S 103 = .inr (.int, 2000) := h.1 (103, .inr (.int, 2000)) (List.mem_of_getElem? (i := 102) rfl)
theorem ls_104 {S : Nat → Shp} {R : Nat → Nat → Nat} (h : Lay S R) : S 104 = .inr (.long, 2000) := h.1 (104, .inr (.long, 2000)) (List.mem_of_getElem? (i := 103) rfl)
theorem ls_105 {S : Nat → Shp} {R : Nat → Nat → Nat} (h : Lay S R) : S 105 = .inr (.int, 2000) := h.1 (105, .inr (.int, 2000)) (List.mem_of_getElem? (i := 104) rfl)
theorem ls_106 {S : Nat → Shp} {R : Nat → Nat → Nat} (h : Lay S R) : S 106 = .inl 12 := h.1 (106, .inl 12) (List.mem_of_getElem? (i := 105) rfl)
theorem ls_107 {S : Nat → Shp} {R : Nat → Nat → Nat} (h : Lay S R) : S 107 = .inr (.int, 2000) := h.1 (107, .inr (.int, 2000)) (List.mem_of_getElem? (i := 106) rfl)
theorem ls_108 {S : Nat → Shp} {R : Nat → Nat → Nat} (h : Lay S R) : S 108 = .inr (.int, 2000) := h.1 (108, .inr (.int, 2000)) (List.mem_of_getElem? (i := 107) rfl)
theorem ls_109 {S : Nat → Shp} {R : Nat → Nat → Nat} (h : Lay S R) : S 109 = .inr (.int, 2000) := h.1 (109, .inr (.int, 2000)) (List.mem_of_getElem? (i := 108) rfl)
theorem ls_110 {S : Nat → Shp} {R : Nat → Nat → Nat} (h : Lay S R) : S 110 = .inr (.long, 2000) := h.1 (110, .inr (.long, 2000)) (List.mem_of_getElem? (i := 109) rfl)
theorem ls_111 {S : Nat → Shp} {R : Nat → Nat → Nat} (h : Lay S R) : S 111 = .inr (.int, 2000) := h.1 (111, .inr (.int, 2000)) (List.mem_of_getElem? (i := 110) rfl)
theorem ls_112 {S : Nat → Shp} {R : Nat → Nat → Nat} (h : Lay S R) : S 112 = .inr (.byte, 245760) := h.1 (112, .inr (.byte, 245760)) (List.mem_of_getElem? (i := 111) rfl)
theorem ls_113 {S : Nat → Shp} {R : Nat → Nat → Nat} (h : Lay S R) : S 113 = .inr (.boolean, 512) := h.1 (113, .inr (.boolean, 512)) (List.mem_of_getElem? (i := 112) rfl)
theorem ls_114 {S : Nat → Shp} {R : Nat → Nat → Nat} (h : Lay S R) : S 114 = .inr (.boolean, 512) := h.1 (114, .inr (.boolean, 512)) (List.mem_of_getElem? (i := 113) rfl)
theorem ls_115 {S : Nat → Shp} {R : Nat → Nat → Nat} (h : Lay S R) : S 115 = .inr (.int, 512) := h.1 (115, .inr (.int, 512)) (List.mem_of_getElem? (i := 114) rfl)
theorem ls_116 {S : Nat → Shp} {R : Nat → Nat → Nat} (h : Lay S R) : S 116 = .inr (.int, 512) := h.1 (116, .inr (.int, 512)) (List.mem_of_getElem? (i := 115) rfl)
theorem ls_117 {S : Nat → Shp} {R : Nat → Nat → Nat} (h : Lay S R) : S 117 = .inr (.boolean, 40) := h.1 (117, .inr (.boolean, 40)) (List.mem_of_getElem? (i := 116) rfl)
theorem ls_118 {S : Nat → Shp} {R : Nat → Nat → Nat} (h : Lay S R) : S 118 = .inr (.boolean, 40) := h.1 (118, .inr (.boolean, 40)) (List.mem_of_getElem? (i := 117) rfl)
theorem lr_1_0 {S : Nat → Shp} {R : Nat → Nat → Nat} (h : Lay S R) : R 1 0 = 2 := h.2 (1, 0, 2) (List.mem_of_getElem? (i := 0) rfl)
theorem lr_1_1 {S : Nat → Shp} {R : Nat → Nat → Nat} (h : Lay S R) : R 1 1 = 8 := h.2 (1, 1, 8) (List.mem_of_getElem? (i := 1) rfl)
theorem lr_1_2 {S : Nat → Shp} {R : Nat → Nat → Nat} (h : Lay S R) : R 1 2 = 11 := h.2 (1, 2, 11) (List.mem_of_getElem? (i := 2) rfl)
theorem lr_1_3 {S : Nat → Shp} {R : Nat → Nat → Nat} (h : Lay S R) : R 1 3 = 13 := h.2 (1, 3, 13) (List.mem_of_getElem? (i := 3) rfl)
theorem lr_2_0 {S : Nat → Shp} {R : Nat → Nat → Nat} (h : Lay S R) : R 2 0 = 3 := h.2 (2, 0, 3) (List.mem_of_getElem? (i := 4) rfl)
theorem lr_4_0 {S : Nat → Shp} {R : Nat → Nat → Nat} (h : Lay S R) : R 4 0 = 2 := h.2 (4, 0, 2) (List.mem_of_getElem? (i := 5) rfl)
theorem lr_4_1 {S : Nat → Shp} {R : Nat → Nat → Nat} (h : Lay S R) : R 4 1 = 5 := h.2 (4, 1, 5) (List.mem_of_getElem? (i := 6) rfl)
theorem lr_4_2 {S : Nat → Shp} {R : Nat → Nat → Nat} (h : Lay S R) : R 4 2 = 6 := h.2 (4, 2, 6) (List.mem_of_getElem? (i := 7) rfl)
theorem lr_4_3 {S : Nat → Shp} {R : Nat → Nat → Nat} (h : Lay S R) : R 4 3 = 7 := h.2 (4, 3, 7) (List.mem_of_getElem? (i := 8) rfl)
theorem lr_8_0 {S : Nat → Shp} {R : Nat → Nat → Nat} (h : Lay S R) : R 8 0 = 4 := h.2 (8, 0, 4) (List.mem_of_getElem? (i := 9) rfl)
theorem lr_8_3 {S : Nat → Shp} {R : Nat → Nat → Nat} (h : Lay S R) : R 8 3 = 9 := h.2 (8, 3, 9) (List.mem_of_getElem? (i := 10) rfl)
theorem lr_8_7 {S : Nat → Shp} {R : Nat → Nat → Nat} (h : Lay S R) : R 8 7 = 10 := h.2 (8, 7, 10) (List.mem_of_getElem? (i := 11) rfl)
theorem lr_11_0 {S : Nat → Shp} {R : Nat → Nat → Nat} (h : Lay S R) : R 11 0 = 4 := h.2 (11, 0, 4) (List.mem_of_getElem? (i := 12) rfl)
theorem lr_11_3 {S : Nat → Shp} {R : Nat → Nat → Nat} (h : Lay S R) : R 11 3 = 12 := h.2 (11, 3, 12) (List.mem_of_getElem? (i := 13) rfl)
theorem lr_13_5 {S : Nat → Shp} {R : Nat → Nat → Nat} (h : Lay S R) : R 13 5 = 14 := h.2 (13, 5, 14) (List.mem_of_getElem? (i := 14) rfl)
theorem lr_13_6 {S : Nat → Shp} {R : Nat → Nat → Nat} (h : Lay S R) : R 13 6 = 17 := h.2 (13, 6, 17) (List.mem_of_getElem? (i := 15) rfl)
theorem lr_13_7 {S : Nat → Shp} {R : Nat → Nat → Nat} (h : Lay S R) : R 13 7 = 18 := h.2 (13, 7, 18) (List.mem_of_getElem? (i := 16) rfl)
theorem lr_13_8 {S : Nat → Shp} {R : Nat → Nat → Nat} (h : Lay S R) : R 13 8 = 19 := h.2 (13, 8, 19) (List.mem_of_getElem? (i := 17) rfl)
theorem lr_13_9 {S : Nat → Shp} {R : Nat → Nat → Nat} (h : Lay S R) : R 13 9 = 20 := h.2 (13, 9, 20) (List.mem_of_getElem? (i := 18) rfl)
theorem lr_13_10 {S : Nat → Shp} {R : Nat → Nat → Nat} (h : Lay S R) : R 13 10 = 21 := h.2 (13, 10, 21) (List.mem_of_getElem? (i := 19) rfl)
theorem lr_13_11 {S : Nat → Shp} {R : Nat → Nat → Nat} (h : Lay S R) : R 13 11 = 22 := h.2 (13, 11, 22) (List.mem_of_getElem? (i := 20) rfl)
theorem lr_13_12 {S : Nat → Shp} {R : Nat → Nat → Nat} (h : Lay S R) : R 13 12 = 23 := h.2 (13, 12, 23) (List.mem_of_getElem? (i := 21) rfl)
theorem lr_13_13 {S : Nat → Shp} {R : Nat → Nat → Nat} (h : Lay S R) : R 13 13 = 24 := h.2 (13, 13, 24) (List.mem_of_getElem? (i := 22) rfl)
theorem lr_14_0 {S : Nat → Shp} {R : Nat → Nat → Nat} (h : Lay S R) : R 14 0 = 15 := h.2 (14, 0, 15) (List.mem_of_getElem? (i := 23) rfl)
theorem lr_14_1 {S : Nat → Shp} {R : Nat → Nat → Nat} (h : Lay S R) : R 14 1 = 16 := h.2 (14, 1, 16) (List.mem_of_getElem? (i := 24) rfl)
theorem lr_25_1 {S : Nat → Shp} {R : Nat → Nat → Nat} (h : Lay S R) : R 25 1 = 26 := h.2 (25, 1, 26) (List.mem_of_getElem? (i := 25) rfl)
theorem lr_25_2 {S : Nat → Shp} {R : Nat → Nat → Nat} (h : Lay S R) : R 25 2 = 27 := h.2 (25, 2, 27) (List.mem_of_getElem? (i := 26) rfl)
theorem lr_25_3 {S : Nat → Shp} {R : Nat → Nat → Nat} (h : Lay S R) : R 25 3 = 28 := h.2 (25, 3, 28) (List.mem_of_getElem? (i := 27) rfl)
theorem lr_25_4 {S : Nat → Shp} {R : Nat → Nat → Nat} (h : Lay S R) : R 25 4 = 29 := h.2 (25, 4, 29) (List.mem_of_getElem? (i := 28) rfl)
theorem lr_25_5 {S : Nat → Shp} {R : Nat → Nat → Nat} (h : Lay S R) : R 25 5 = 30 := h.2 (25, 5, 30) (List.mem_of_getElem? (i := 29) rfl)
theorem lr_25_6 {S : Nat → Shp} {R : Nat → Nat → Nat} (h : Lay S R) : R 25 6 = 32 := h.2 (25, 6, 32) (List.mem_of_getElem? (i := 30) rfl)
theorem lr_25_7 {S : Nat → Shp} {R : Nat → Nat → Nat} (h : Lay S R) : R 25 7 = 33 := h.2 (25, 7, 33) (List.mem_of_getElem? (i := 31) rfl)
theorem lr_25_8 {S : Nat → Shp} {R : Nat → Nat → Nat} (h : Lay S R) : R 25 8 = 34 := h.2 (25, 8, 34) (List.mem_of_getElem? (i := 32) rfl)
theorem lr_30_0 {S : Nat → Shp} {R : Nat → Nat → Nat} (h : Lay S R) : R 30 0 = 31 := h.2 (30, 0, 31) (List.mem_of_getElem? (i := 33) rfl)
theorem lr_35_1 {S : Nat → Shp} {R : Nat → Nat → Nat} (h : Lay S R) : R 35 1 = 36 := h.2 (35, 1, 36) (List.mem_of_getElem? (i := 34) rfl)
theorem lr_35_2 {S : Nat → Shp} {R : Nat → Nat → Nat} (h : Lay S R) : R 35 2 = 37 := h.2 (35, 2, 37) (List.mem_of_getElem? (i := 35) rfl)
theorem lr_35_3 {S : Nat → Shp} {R : Nat → Nat → Nat} (h : Lay S R) : R 35 3 = 38 := h.2 (35, 3, 38) (List.mem_of_getElem? (i := 36) rfl)
theorem lr_35_4 {S : Nat → Shp} {R : Nat → Nat → Nat} (h : Lay S R) : R 35 4 = 39 := h.2 (35, 4, 39) (List.mem_of_getElem? (i := 37) rfl)
theorem lr_35_5 {S : Nat → Shp} {R : Nat → Nat → Nat} (h : Lay S R) : R 35 5 = 40 := h.2 (35, 5, 40) (List.mem_of_getElem? (i := 38) rfl)
theorem lr_35_6 {S : Nat → Shp} {R : Nat → Nat → Nat} (h : Lay S R) : R 35 6 = 42 := h.2 (35, 6, 42) (List.mem_of_getElem? (i := 39) rfl)
theorem lr_35_7 {S : Nat → Shp} {R : Nat → Nat → Nat} (h : Lay S R) : R 35 7 = 43 := h.2 (35, 7, 43) (List.mem_of_getElem? (i := 40) rfl)
theorem lr_35_8 {S : Nat → Shp} {R : Nat → Nat → Nat} (h : Lay S R) : R 35 8 = 44 := h.2 (35, 8, 44) (List.mem_of_getElem? (i := 41) rfl)
theorem lr_40_0 {S : Nat → Shp} {R : Nat → Nat → Nat} (h : Lay S R) : R 40 0 = 41 := h.2 (40, 0, 41) (List.mem_of_getElem? (i := 42) rfl)
theorem lr_45_1 {S : Nat → Shp} {R : Nat → Nat → Nat} (h : Lay S R) : R 45 1 = 46 := h.2 (45, 1, 46) (List.mem_of_getElem? (i := 43) rfl)
theorem lr_45_5 {S : Nat → Shp} {R : Nat → Nat → Nat} (h : Lay S R) : R 45 5 = 47 := h.2 (45, 5, 47) (List.mem_of_getElem? (i := 44) rfl)
theorem lr_45_6 {S : Nat → Shp} {R : Nat → Nat → Nat} (h : Lay S R) : R 45 6 = 48 := h.2 (45, 6, 48) (List.mem_of_getElem? (i := 45) rfl)
theorem lr_45_7 {S : Nat → Shp} {R : Nat → Nat → Nat} (h : Lay S R) : R 45 7 = 49 := h.2 (45, 7, 49) (List.mem_of_getElem? (i := 46) rfl)
theorem lr_45_8 {S : Nat → Shp} {R : Nat → Nat → Nat} (h : Lay S R) : R 45 8 = 50 := h.2 (45, 8, 50) (List.mem_of_getElem? (i := 47) rfl)
theorem lr_45_9 {S : Nat → Shp} {R : Nat → Nat → Nat} (h : Lay S R) : R 45 9 = 51 := h.2 (45, 9, 51) (List.mem_of_getElem? (i := 48) rfl)
theorem lr_45_10 {S : Nat → Shp} {R : Nat → Nat → Nat} (h : Lay S R) : R 45 10 = 52 := h.2 (45, 10, 52) (List.mem_of_getElem? (i := 49) rfl)
theorem lr_45_11 {S : Nat → Shp} {R : Nat → Nat → Nat} (h : Lay S R) : R 45 11 = 53 := h.2 (45, 11, 53) (List.mem_of_getElem? (i := 50) rfl)
theorem lr_53_0 {S : Nat → Shp} {R : Nat → Nat → Nat} (h : Lay S R) : R 53 0 = 54 := h.2 (53, 0, 54) (List.mem_of_getElem? (i := 51) rfl)
theorem lr_55_1 {S : Nat → Shp} {R : Nat → Nat → Nat} (h : Lay S R) : R 55 1 = 56 := h.2 (55, 1, 56) (List.mem_of_getElem? (i := 52) rfl)
theorem lr_55_5 {S : Nat → Shp} {R : Nat → Nat → Nat} (h : Lay S R) : R 55 5 = 57 := h.2 (55, 5, 57) (List.mem_of_getElem? (i := 53) rfl)
theorem lr_55_6 {S : Nat → Shp} {R : Nat → Nat → Nat} (h : Lay S R) : R 55 6 = 58 := h.2 (55, 6, 58) (List.mem_of_getElem? (i := 54) rfl)
theorem lr_55_7 {S : Nat → Shp} {R : Nat → Nat → Nat} (h : Lay S R) : R 55 7 = 59 := h.2 (55, 7, 59) (List.mem_of_getElem? (i := 55) rfl)
theorem lr_55_8 {S : Nat → Shp} {R : Nat → Nat → Nat} (h : Lay S R) : R 55 8 = 60 := h.2 (55, 8, 60) (List.mem_of_getElem? (i := 56) rfl)
theorem lr_55_9 {S : Nat → Shp} {R : Nat → Nat → Nat} (h : Lay S R) : R 55 9 = 61 := h.2 (55, 9, 61) (List.mem_of_getElem? (i := 57) rfl)
theorem lr_55_10 {S : Nat → Shp} {R : Nat → Nat → Nat} (h : Lay S R) : R 55 10 = 62 := h.2 (55, 10, 62) (List.mem_of_getElem? (i := 58) rfl)
theorem lr_55_11 {S : Nat → Shp} {R : Nat → Nat → Nat} (h : Lay S R) : R 55 11 = 63 := h.2 (55, 11, 63) (List.mem_of_getElem? (i := 59) rfl)
theorem lr_63_0 {S : Nat → Shp} {R : Nat → Nat → Nat} (h : Lay S R) : R 63 0 = 64 := h.2 (63, 0, 64) (List.mem_of_getElem? (i := 60) rfl)
theorem lr_65_0 {S : Nat → Shp} {R : Nat → Nat → Nat} (h : Lay S R) : R 65 0 = 66 := h.2 (65, 0, 66) (List.mem_of_getElem? (i := 61) rfl)
theorem lr_65_2 {S : Nat → Shp} {R : Nat → Nat → Nat} (h : Lay S R) : R 65 2 = 67 := h.2 (65, 2, 67) (List.mem_of_getElem? (i := 62) rfl)
theorem lr_65_3 {S : Nat → Shp} {R : Nat → Nat → Nat} (h : Lay S R) : R 65 3 = 68 := h.2 (65, 3, 68) (List.mem_of_getElem? (i := 63) rfl)
theorem lr_65_4 {S : Nat → Shp} {R : Nat → Nat → Nat} (h : Lay S R) : R 65 4 = 69 := h.2 (65, 4, 69) (List.mem_of_getElem? (i := 64) rfl)
theorem lr_65_5 {S : Nat → Shp} {R : Nat → Nat → Nat} (h : Lay S R) : R 65 5 = 70 := h.2 (65, 5, 70) (List.mem_of_getElem? (i := 65) rfl)
theorem lr_65_23 {S : Nat → Shp} {R : Nat → Nat → Nat} (h : Lay S R) : R 65 23 = 112 := h.2 (65, 23, 112) (List.mem_of_getElem? (i := 66) rfl)
theorem lr_65_24 {S : Nat → Shp} {R : Nat → Nat → Nat} (h : Lay S R) : R 65 24 = 113 := h.2 (65, 24, 113) (List.mem_of_getElem? (i := 67) rfl)
theorem lr_65_25 {S : Nat → Shp} {R : Nat → Nat → Nat} (h : Lay S R) : R 65 25 = 114 := h.2 (65, 25, 114) (List.mem_of_getElem? (i := 68) rfl)
theorem lr_65_26 {S : Nat → Shp} {R : Nat → Nat → Nat} (h : Lay S R) : R 65 26 = 115 := h.2 (65, 26, 115) (List.mem_of_getElem? (i := 69) rfl)
theorem lr_65_27 {S : Nat → Shp} {R : Nat → Nat → Nat} (h : Lay S R) : R 65 27 = 116 := h.2 (65, 27, 116) (List.mem_of_getElem? (i := 70) rfl)
theorem lr_65_28 {S : Nat → Shp} {R : Nat → Nat → Nat} (h : Lay S R) : R 65 28 = 117 := h.2 (65, 28, 117) (List.mem_of_getElem? (i := 71) rfl)
theorem lr_65_30 {S : Nat → Shp} {R : Nat → Nat → Nat} (h : Lay S R) : R 65 30 = 118 := h.2 (65, 30, 118) (List.mem_of_getElem? (i := 72) rfl)
theorem lr_71_0 {S : Nat → Shp} {R : Nat → Nat → Nat} (h : Lay S R) : R 71 0 = 72 := h.2 (71, 0, 72) (List.mem_of_getElem? (i := 73) rfl)
theorem lr_71_1 {S : Nat → Shp} {R : Nat → Nat → Nat} (h : Lay S R) : R 71 1 = 73 := h.2 (71, 1, 73) (List.mem_of_getElem? (i := 74) rfl)
theorem lr_71_2 {S : Nat → Shp} {R : Nat → Nat → Nat} (h : Lay S R) : R 71 2 = 74 := h.2 (71, 2, 74) (List.mem_of_getElem? (i := 75) rfl)
theorem lr_71_3 {S : Nat → Shp} {R : Nat → Nat → Nat} (h : Lay S R) : R 71 3 = 75 := h.2 (71, 3, 75) (List.mem_of_getElem? (i := 76) rfl)
theorem lr_71_4 {S : Nat → Shp} {R : Nat → Nat → Nat} (h : Lay S R) : R 71 4 = 76 := h.2 (71, 4, 76) (List.mem_of_getElem? (i := 77) rfl)
theorem lr_77_0 {S : Nat → Shp} {R : Nat → Nat → Nat} (h : Lay S R) : R 77 0 = 78 := h.2 (77, 0, 78) (List.mem_of_getElem? (i := 78) rfl)
theorem lr_77_1 {S : Nat → Shp} {R : Nat → Nat → Nat} (h : Lay S R) : R 77 1 = 79 := h.2 (77, 1, 79) (List.mem_of_getElem? (i := 79) rfl)
theorem lr_77_2 {S : Nat → Shp} {R : Nat → Nat → Nat} (h : Lay S R) : R 77 2 = 80 := h.2 (77, 2, 80) (List.mem_of_getElem? (i := 80) rfl)
theorem lr_77_3 {S : Nat → Shp} {R : Nat → Nat → Nat} (h : Lay S R) : R 77 3 = 81 := h.2 (77, 3, 81) (List.mem_of_getElem? (i := 81) rfl)
theorem lr_77_4 {S : Nat → Shp} {R : Nat → Nat → Nat} (h : Lay S R) : R 77 4 = 82 := h.2 (77, 4, 82) (List.mem_of_getElem? (i := 82) rfl)
theorem lr_83_0 {S : Nat → Shp} {R : Nat → Nat → Nat} (h : Lay S R) : R 83 0 = 84 := h.2 (83, 0, 84) (List.mem_of_getElem? (i := 83) rfl)
theorem lr_83_1 {S : Nat → Shp} {R : Nat → Nat → Nat} (h : Lay S R) : R 83 1 = 85 := h.2 (83, 1, 85) (List.mem_of_getElem? (i := 84) rfl)
theorem lr_83_2 {S : Nat → Shp} {R : Nat → Nat → Nat} (h : Lay S R) : R 83 2 = 86 := h.2 (83, 2, 86) (List.mem_of_getElem? (i := 85) rfl)
theorem lr_83_3 {S : Nat → Shp} {R : Nat → Nat → Nat} (h : Lay S R) : R 83 3 = 87 := h.2 (83, 3, 87) (List.mem_of_getElem? (i := 86) rfl)
theorem lr_88_0 {S : Nat → Shp} {R : Nat → Nat → Nat} (h : Lay S R) : R 88 0 = 89 := h.2 (88, 0, 89) (List.mem_of_getElem? (i := 87) rfl)
theorem lr_88_1 {S : Nat → Shp} {R : Nat → Nat → Nat} (h : Lay S R) : R 88 1 = 90 := h.2 (88, 1, 90) (List.mem_of_getElem? (i := 88) rfl)
theorem lr_88_2 {S : Nat → Shp} {R : Nat → Nat → Nat} (h : Lay S R) : R 88 2 = 91 := h.2 (88, 2, 91) (List.mem_of_getElem? (i := 89) rfl)
theorem lr_88_3 {S : Nat → Shp} {R : Nat → Nat → Nat} (h : Lay S R) : R 88 3 = 92 := h.2 (88, 3, 92) (List.mem_of_getElem? (i := 90) rfl)
theorem lr_93_0 {S : Nat → Shp} {R : Nat → Nat → Nat} (h : Lay S R) : R 93 0 = 94 := h.2 (93, 0, 94) (List.mem_of_getElem? (i := 91) rfl)
theorem lr_93_1 {S : Nat → Shp} {R : Nat → Nat → Nat} (h : Lay S R) : R 93 1 = 95 := h.2 (93, 1, 95) (List.mem_of_getElem? (i := 92) rfl)
theorem lr_93_2 {S : Nat → Shp} {R : Nat → Nat → Nat} (h : Lay S R) : R 93 2 = 96 := h.2 (93, 2, 96) (List.mem_of_getElem? (i := 93) rfl)
theorem lr_93_3 {S : Nat → Shp} {R : Nat → Nat → Nat} (h : Lay S R) : R 93 3 = 97 := h.2 (93, 3, 97) (List.mem_of_getElem? (i := 94) rfl)
theorem lr_93_4 {S : Nat → Shp} {R : Nat → Nat → Nat} (h : Lay S R) : R 93 4 = 98 := h.2 (93, 4, 98) (List.mem_of_getElem? (i := 95) rfl)
theorem lr_93_5 {S : Nat → Shp} {R : Nat → Nat → Nat} (h : Lay S R) : R 93 5 = 99 := h.2 (93, 5, 99) (List.mem_of_getElem? (i := 96) rfl)
theorem lr_100_0 {S : Nat → Shp} {R : Nat → Nat → Nat} (h : Lay S R) : R 100 0 = 101 := h.2 (100, 0, 101) (List.mem_of_getElem? (i := 97) rfl)
theorem lr_100_1 {S : Nat → Shp} {R : Nat → Nat → Nat} (h : Lay S R) : R 100 1 = 102 := h.2 (100, 1, 102) (List.mem_of_getElem? (i := 98) rfl)
theorem lr_100_2 {S : Nat → Shp} {R : Nat → Nat → Nat} (h : Lay S R) : R 100 2 = 103 := h.2 (100, 2, 103) (List.mem_of_getElem? (i := 99) rfl)
theorem lr_100_3 {S : Nat → Shp} {R : Nat → Nat → Nat} (h : Lay S R) : R 100 3 = 104 := h.2 (100, 3, 104) (List.mem_of_getElem? (i := 100) rfl)
theorem lr_100_4 {S : Nat → Shp} {R : Nat → Nat → Nat} (h : Lay S R) : R 100 4 = 105 := h.2 (100, 4, 105) (List.mem_of_getElem? (i := 101) rfl)
theorem lr_106_0 {S : Nat → Shp} {R : Nat → Nat → Nat} (h : Lay S R) : R 106 0 = 107 := h.2 (106, 0, 107) (List.mem_of_getElem? (i := 102) rfl)
theorem lr_106_1 {S : Nat → Shp} {R : Nat → Nat → Nat} (h : Lay S R) : R 106 1 = 108 := h.2 (106, 1, 108) (List.mem_of_getElem? (i := 103) rfl)
theorem lr_106_2 {S : Nat → Shp} {R : Nat → Nat → Nat} (h : Lay S R) : R 106 2 = 109 := h.2 (106, 2, 109) (List.mem_of_getElem? (i := 104) rfl)
theorem lr_106_3 {S : Nat → Shp} {R : Nat → Nat → Nat} (h : Lay S R) : R 106 3 = 110 := h.2 (106, 3, 110) (List.mem_of_getElem? (i := 105) rfl)
theorem lr_106_4 {S : Nat → Shp} {R : Nat → Nat → Nat} (h : Lay S R) : R 106 4 = 111 := h.2 (106, 4, 111) (List.mem_of_getElem? (i := 106) rfl)
def LyCi (S : Nat → Shp) (R : Nat → Nat → Nat) (a : Nat) : Prop := (S a = .inl 1 ∧ S (a + 1) = .inr (.long, 40) ∧ S (a + 2) = .inr (.int, 40) ∧ S (a + 3) = .inr (.int, 40) ∧ S (a + 4) = .inr (.int, 40) ∧ S (a + 5) = .inl 5 ∧ S (a + 6) = .inr (.int, 2000) ∧ S (a + 7) = .inr (.long, 40) ∧ S (a + 8) = .inr (.long, 40) ∧ S (a + 9) = .inr (.int, 40)) ∧ R a 1 = a + 1 ∧ R a 2 = a + 2 ∧ R a 3 = a + 3 ∧ R a 4 = a + 4 ∧ R a 5 = a + 5 ∧ R a 6 = a + 7 ∧ R a 7 = a + 8 ∧ R a 8 = a + 9 ∧ R (a + 5) 0 = a + 6
theorem LyCi.s0 {S : Nat → Shp} {R : Nat → Nat → Nat} {a : Nat} (h : LyCi S R a) : S a = .inl 1 := h.1.1
theorem LyCi.s1 {S : Nat → Shp} {R : Nat → Nat → Nat} {a : Nat} (h : LyCi S R a) : S (a + 1) = .inr (.long, 40) := h.1.2.1
theorem LyCi.s2 {S : Nat → Shp} {R : Nat → Nat → Nat} {a : Nat} (h : LyCi S R a) : S (a + 2) = .inr (.int, 40) := h.1.2.2.1
theorem LyCi.s3 {S : Nat → Shp} {R : Nat → Nat → Nat} {a : Nat} (h : LyCi S R a) : S (a + 3) = .inr (.int, 40) := h.1.2.2.2.1
theorem LyCi.s4 {S : Nat → Shp} {R : Nat → Nat → Nat} {a : Nat} (h : LyCi S R a) : S (a + 4) = .inr (.int, 40) := h.1.2.2.2.2.1
theorem LyCi.s5 {S : Nat → Shp} {R : Nat → Nat → Nat} {a : Nat} (h : LyCi S R a) : S (a + 5) = .inl 5 := h.1.2.2.2.2.2.1
theorem LyCi.s6 {S : Nat → Shp} {R : Nat → Nat → Nat} {a : Nat} (h : LyCi S R a) : S (a + 6) = .inr (.int, 2000) := h.1.2.2.2.2.2.2.1
theorem LyCi.s7 {S : Nat → Shp} {R : Nat → Nat → Nat} {a : Nat} (h : LyCi S R a) : S (a + 7) = .inr (.long, 40) := h.1.2.2.2.2.2.2.2.1
theorem LyCi.s8 {S : Nat → Shp} {R : Nat → Nat → Nat} {a : Nat} (h : LyCi S R a) : S (a + 8) = .inr (.long, 40) := h.1.2.2.2.2.2.2.2.2.1
theorem LyCi.s9 {S : Nat → Shp} {R : Nat → Nat → Nat} {a : Nat} (h : LyCi S R a) : S (a + 9) = .inr (.int, 40) := h.1.2.2.2.2.2.2.2.2.2
theorem LyCi.r0_1 {S : Nat → Shp} {R : Nat → Nat → Nat} {a : Nat} (h : LyCi S R a) : R a 1 = a + 1 := h.2.1
theorem LyCi.r0_2 {S : Nat → Shp} {R : Nat → Nat → Nat} {a : Nat} (h : LyCi S R a) : R a 2 = a + 2 := h.2.2.1
theorem LyCi.r0_3 {S : Nat → Shp} {R : Nat → Nat → Nat} {a : Nat} (h : LyCi S R a) : R a 3 = a + 3 := h.2.2.2.1
theorem LyCi.r0_4 {S : Nat → Shp} {R : Nat → Nat → Nat} {a : Nat} (h : LyCi S R a) : R a 4 = a + 4 := h.2.2.2.2.1
theorem LyCi.r0_5 {S : Nat → Shp} {R : Nat → Nat → Nat} {a : Nat} (h : LyCi S R a) : R a 5 = a + 5 := h.2.2.2.2.2.1
theorem LyCi.r0_6 {S : Nat → Shp} {R : Nat → Nat → Nat} {a : Nat} (h : LyCi S R a) : R a 6 = a + 7 := h.2.2.2.2.2.2.1
theorem LyCi.r0_7 {S : Nat → Shp} {R : Nat → Nat → Nat} {a : Nat} (h : LyCi S R a) : R a 7 = a + 8 := h.2.2.2.2.2.2.2.1
theorem LyCi.r0_8 {S : Nat → Shp} {R : Nat → Nat → Nat} {a : Nat} (h : LyCi S R a) : R a 8 = a + 9 := h.2.2.2.2.2.2.2.2.1
theorem LyCi.r5_0 {S : Nat → Shp} {R : Nat → Nat → Nat} {a : Nat} (h : LyCi S R a) : R (a + 5) 0 = a + 6 := h.2.2.2.2.2.2.2.2.2
def LyCm (S : Nat → Shp) (R : Nat → Nat → Nat) (a : Nat) : Prop := (S a = .inl 3 ∧ S (a + 1) = .inr (.long, 9) ∧ S (a + 2) = .inr (.int, 48) ∧ S (a + 3) = .inr (.int, 48) ∧ S (a + 4) = .inr (.int, 48) ∧ S (a + 5) = .inr (.int, 48) ∧ S (a + 6) = .inr (.int, 48) ∧ S (a + 7) = .inr (.int, 48) ∧ S (a + 8) = .inl 5 ∧ S (a + 9) = .inr (.int, 2000)) ∧ R a 1 = a + 1 ∧ R a 5 = a + 2 ∧ R a 6 = a + 3 ∧ R a 7 = a + 4 ∧ R a 8 = a + 5 ∧ R a 9 = a + 6 ∧ R a 10 = a + 7 ∧ R a 11 = a + 8 ∧ R (a + 8) 0 = a + 9
theorem LyCm.s0 {S : Nat → Shp} {R : Nat → Nat → Nat} {a : Nat} (h : LyCm S R a) : S a = .inl 3 := h.1.1
theorem LyCm.s1 {S : Nat → Shp} {R : Nat → Nat → Nat} {a : Nat} (h : LyCm S R a) : S (a + 1) = .inr (.long, 9) := h.1.2.1
theorem LyCm.s2 {S : Nat → Shp} {R : Nat → Nat → Nat} {a : Nat} (h : LyCm S R a) : S (a + 2) = .inr (.int, 48) := h.1.2.2.1
theorem LyCm.s3 {S : Nat → Shp} {R : Nat → Nat → Nat} {a : Nat} (h : LyCm S R a) : S (a + 3) = .inr (.int, 48) := h.1.2.2.2.1
theorem LyCm.s4 {S : Nat → Shp} {R : Nat → Nat → Nat} {a : Nat} (h : LyCm S R a) : S (a + 4) = .inr (.int, 48) := h.1.2.2.2.2.1
theorem LyCm.s5 {S : Nat → Shp} {R : Nat → Nat → Nat} {a : Nat} (h : LyCm S R a) : S (a + 5) = .inr (.int, 48) := h.1.2.2.2.2.2.1
theorem LyCm.s6 {S : Nat → Shp} {R : Nat → Nat → Nat} {a : Nat} (h : LyCm S R a) : S (a + 6) = .inr (.int, 48) := h.1.2.2.2.2.2.2.1
theorem LyCm.s7 {S : Nat → Shp} {R : Nat → Nat → Nat} {a : Nat} (h : LyCm S R a) : S (a + 7) = .inr (.int, 48) := h.1.2.2.2.2.2.2.2.1
theorem LyCm.s8 {S : Nat → Shp} {R : Nat → Nat → Nat} {a : Nat} (h : LyCm S R a) : S (a + 8) = .inl 5 := h.1.2.2.2.2.2.2.2.2.1
theorem LyCm.s9 {S : Nat → Shp} {R : Nat → Nat → Nat} {a : Nat} (h : LyCm S R a) : S (a + 9) = .inr (.int, 2000) := h.1.2.2.2.2.2.2.2.2.2
theorem LyCm.r0_1 {S : Nat → Shp} {R : Nat → Nat → Nat} {a : Nat} (h : LyCm S R a) : R a 1 = a + 1 := h.2.1
theorem LyCm.r0_5 {S : Nat → Shp} {R : Nat → Nat → Nat} {a : Nat} (h : LyCm S R a) : R a 5 = a + 2 := h.2.2.1
theorem LyCm.r0_6 {S : Nat → Shp} {R : Nat → Nat → Nat} {a : Nat} (h : LyCm S R a) : R a 6 = a + 3 := h.2.2.2.1
theorem LyCm.r0_7 {S : Nat → Shp} {R : Nat → Nat → Nat} {a : Nat} (h : LyCm S R a) : R a 7 = a + 4 := h.2.2.2.2.1
theorem LyCm.r0_8 {S : Nat → Shp} {R : Nat → Nat → Nat} {a : Nat} (h : LyCm S R a) : R a 8 = a + 5 := h.2.2.2.2.2.1
theorem LyCm.r0_9 {S : Nat → Shp} {R : Nat → Nat → Nat} {a : Nat} (h : LyCm S R a) : R a 9 = a + 6 := h.2.2.2.2.2.2.1
theorem LyCm.r0_10 {S : Nat → Shp} {R : Nat → Nat → Nat} {a : Nat} (h : LyCm S R a) : R a 10 = a + 7 := h.2.2.2.2.2.2.2.1
theorem LyCm.r0_11 {S : Nat → Shp} {R : Nat → Nat → Nat} {a : Nat} (h : LyCm S R a) : R a 11 = a + 8 := h.2.2.2.2.2.2.2.2.1
theorem LyCm.r8_0 {S : Nat → Shp} {R : Nat → Nat → Nat} {a : Nat} (h : LyCm S R a) : R (a + 8) 0 = a + 9 := h.2.2.2.2.2.2.2.2.2
def LyCd (S : Nat → Shp) (R : Nat → Nat → Nat) (a : Nat) : Prop := (S a = .inl 5 ∧ S (a + 1) = .inr (.int, 2000)) ∧ R a 0 = a + 1
theorem LyCd.s0 {S : Nat → Shp} {R : Nat → Nat → Nat} {a : Nat} (h : LyCd S R a) : S a = .inl 5 := h.1.1
theorem LyCd.s1 {S : Nat → Shp} {R : Nat → Nat → Nat} {a : Nat} (h : LyCd S R a) : S (a + 1) = .inr (.int, 2000) := h.1.2
theorem LyCd.r0_0 {S : Nat → Shp} {R : Nat → Nat → Nat} {a : Nat} (h : LyCd S R a) : R a 0 = a + 1 := h.2
def LyTr (S : Nat → Shp) (R : Nat → Nat → Nat) (a : Nat) : Prop := (S a = .inl 12 ∧ S (a + 1) = .inr (.int, 2000) ∧ S (a + 2) = .inr (.int, 2000) ∧ S (a + 3) = .inr (.int, 2000) ∧ S (a + 4) = .inr (.long, 2000) ∧ S (a + 5) = .inr (.int, 2000)) ∧ R a 0 = a + 1 ∧ R a 1 = a + 2 ∧ R a 2 = a + 3 ∧ R a 3 = a + 4 ∧ R a 4 = a + 5
theorem LyTr.s0 {S : Nat → Shp} {R : Nat → Nat → Nat} {a : Nat} (h : LyTr S R a) : S a = .inl 12 := h.1.1
theorem LyTr.s1 {S : Nat → Shp} {R : Nat → Nat → Nat} {a : Nat} (h : LyTr S R a) : S (a + 1) = .inr (.int, 2000) := h.1.2.1
theorem LyTr.s2 {S : Nat → Shp} {R : Nat → Nat → Nat} {a : Nat} (h : LyTr S R a) : S (a + 2) = .inr (.int, 2000) := h.1.2.2.1
theorem LyTr.s3 {S : Nat → Shp} {R : Nat → Nat → Nat} {a : Nat} (h : LyTr S R a) : S (a + 3) = .inr (.int, 2000) := h.1.2.2.2.1
theorem LyTr.s4 {S : Nat → Shp} {R : Nat → Nat → Nat} {a : Nat} (h : LyTr S R a) : S (a + 4) = .inr (.long, 2000) := h.1.2.2.2.2.1
theorem LyTr.s5 {S : Nat → Shp} {R : Nat → Nat → Nat} {a : Nat} (h : LyTr S R a) : S (a + 5) = .inr (.int, 2000) := h.1.2.2.2.2.2
theorem LyTr.r0_0 {S : Nat → Shp} {R : Nat → Nat → Nat} {a : Nat} (h : LyTr S R a) : R a 0 = a + 1 := h.2.1
theorem LyTr.r0_1 {S : Nat → Shp} {R : Nat → Nat → Nat} {a : Nat} (h : LyTr S R a) : R a 1 = a + 2 := h.2.2.1
theorem LyTr.r0_2 {S : Nat → Shp} {R : Nat → Nat → Nat} {a : Nat} (h : LyTr S R a) : R a 2 = a + 3 := h.2.2.2.1
theorem LyTr.r0_3 {S : Nat → Shp} {R : Nat → Nat → Nat} {a : Nat} (h : LyTr S R a) : R a 3 = a + 4 := h.2.2.2.2.1
theorem LyTr.r0_4 {S : Nat → Shp} {R : Nat → Nat → Nat} {a : Nat} (h : LyTr S R a) : R a 4 = a + 5 := h.2.2.2.2.2
def LyNo (S : Nat → Shp) (R : Nat → Nat → Nat) (a : Nat) : Prop := (S a = .inl 11 ∧ S (a + 1) = .inr (.long, 40) ∧ S (a + 2) = .inr (.int, 40) ∧ S (a + 3) = .inr (.int, 40) ∧ S (a + 4) = .inr (.int, 40)) ∧ R a 0 = a + 1 ∧ R a 1 = a + 2 ∧ R a 2 = a + 3 ∧ R a 3 = a + 4
theorem LyNo.s0 {S : Nat → Shp} {R : Nat → Nat → Nat} {a : Nat} (h : LyNo S R a) : S a = .inl 11 := h.1.1
theorem LyNo.s1 {S : Nat → Shp} {R : Nat → Nat → Nat} {a : Nat} (h : LyNo S R a) : S (a + 1) = .inr (.long, 40) := h.1.2.1
theorem LyNo.s2 {S : Nat → Shp} {R : Nat → Nat → Nat} {a : Nat} (h : LyNo S R a) : S (a + 2) = .inr (.int, 40) := h.1.2.2.1
theorem LyNo.s3 {S : Nat → Shp} {R : Nat → Nat → Nat} {a : Nat} (h : LyNo S R a) : S (a + 3) = .inr (.int, 40) := h.1.2.2.2.1
theorem LyNo.s4 {S : Nat → Shp} {R : Nat → Nat → Nat} {a : Nat} (h : LyNo S R a) : S (a + 4) = .inr (.int, 40) := h.1.2.2.2.2
theorem LyNo.r0_0 {S : Nat → Shp} {R : Nat → Nat → Nat} {a : Nat} (h : LyNo S R a) : R a 0 = a + 1 := h.2.1
theorem LyNo.r0_1 {S : Nat → Shp} {R : Nat → Nat → Nat} {a : Nat} (h : LyNo S R a) : R a 1 = a + 2 := h.2.2.1
theorem LyNo.r0_2 {S : Nat → Shp} {R : Nat → Nat → Nat} {a : Nat} (h : LyNo S R a) : R a 2 = a + 3 := h.2.2.2.1
theorem LyNo.r0_3 {S : Nat → Shp} {R : Nat → Nat → Nat} {a : Nat} (h : LyNo S R a) : R a 3 = a + 4 := h.2.2.2.2
def LyCs (S : Nat → Shp) (R : Nat → Nat → Nat) (a : Nat) : Prop := (S a = .inl 10 ∧ S (a + 1) = .inr (.int, 48) ∧ S (a + 2) = .inr (.int, 48) ∧ S (a + 3) = .inr (.int, 48) ∧ S (a + 4) = .inr (.int, 48) ∧ S (a + 5) = .inr (.int, 48) ∧ S (a + 6) = .inr (.long, 9)) ∧ R a 0 = a + 1 ∧ R a 1 = a + 2 ∧ R a 2 = a + 3 ∧ R a 3 = a + 4 ∧ R a 4 = a + 5 ∧ R a 5 = a + 6
theorem LyCs.s0 {S : Nat → Shp} {R : Nat → Nat → Nat} {a : Nat} (h : LyCs S R a) : S a = .inl 10 := h.1.1
theorem LyCs.s1 {S : Nat → Shp} {R : Nat → Nat → Nat} {a : Nat} (h : LyCs S R a) : S (a + 1) = .inr (.int, 48) := h.1.2.1
theorem LyCs.s2 {S : Nat → Shp} {R : Nat → Nat → Nat} {a : Nat} (h : LyCs S R a) : S (a + 2) = .inr (.int, 48) := h.1.2.2.1
theorem LyCs.s3 {S : Nat → Shp} {R : Nat → Nat → Nat} {a : Nat} (h : LyCs S R a) : S (a + 3) = .inr (.int, 48) := h.1.2.2.2.1
theorem LyCs.s4 {S : Nat → Shp} {R : Nat → Nat → Nat} {a : Nat} (h : LyCs S R a) : S (a + 4) = .inr (.int, 48) := h.1.2.2.2.2.1
theorem LyCs.s5 {S : Nat → Shp} {R : Nat → Nat → Nat} {a : Nat} (h : LyCs S R a) : S (a + 5) = .inr (.int, 48) := h.1.2.2.2.2.2.1
theorem LyCs.s6 {S : Nat → Shp} {R : Nat → Nat → Nat} {a : Nat} (h : LyCs S R a) : S (a + 6) = .inr (.long, 9) := h.1.2.2.2.2.2.2
theorem LyCs.r0_0 {S : Nat → Shp} {R : Nat → Nat → Nat} {a : Nat} (h : LyCs S R a) : R a 0 = a + 1 := h.2.1
theorem LyCs.r0_1 {S : Nat → Shp} {R : Nat → Nat → Nat} {a : Nat} (h : LyCs S R a) : R a 1 = a + 2 := h.2.2.1
theorem LyCs.r0_2 {S : Nat → Shp} {R : Nat → Nat → Nat} {a : Nat} (h : LyCs S R a) : R a 2 = a + 3 := h.2.2.2.1
theorem LyCs.r0_3 {S : Nat → Shp} {R : Nat → Nat → Nat} {a : Nat} (h : LyCs S R a) : R a 3 = a + 4 := h.2.2.2.2.1
theorem LyCs.r0_4 {S : Nat → Shp} {R : Nat → Nat → Nat} {a : Nat} (h : LyCs S R a) : R a 4 = a + 5 := h.2.2.2.2.2.1
theorem LyCs.r0_5 {S : Nat → Shp} {R : Nat → Nat → Nat} {a : Nat} (h : LyCs S R a) : R a 5 = a + 6 := h.2.2.2.2.2.2
