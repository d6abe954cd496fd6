def qshT : List (Int × Nat × Int) := [(0, 15, 17), (1, 4, 4), (2, 7, 10), (3, 0, 20), (4, 0, 20), (5, 0, 20), (6, 1, 40), (7, 1, 8), (8, 0, 8), (9, 9, 15), (10, 0, 500), (11, 0, 3), (12, 6, 13), (13, 0, 20), (14, 0, 20), (15, 0, 20), (16, 0, 20), (17, 0, 3), (18, 0, 3), (19, 8, 14), (20, 0, 6), (21, 0, 6), (22, 0, 6), (23, 0, 6), (24, 0, 6), (25, 0, 36), (26, 0, 1476), (27, 3, 1296), (28, 14, 6), (29, 1, 40), (30, 10, 14), (31, 0, 20), (32, 0, 16), (33, 0, 60), (34, 0, 60), (35, 0, 60), (36, 0, 60), (37, 0, 20), (38, 0, 16), (39, 0, 20), (40, 0, 16), (41, 11, 6), (42, 0, 3), (43, 0, 162), (44, 12, 12), (45, 0, 60), (46, 0, 60), (47, 0, 60), (48, 0, 60), (49, 0, 60), (50, 0, 60), (51, 0, 8), (52, 0, 8), (53, 12, 12), (54, 0, 60), (55, 0, 60), (56, 0, 60), (57, 0, 60), (58, 0, 60), (59, 0, 60), (60, 0, 8), (61, 0, 8), (62, 5, 7), (63, 0, 3020), (64, 0, 20), (65, 0, 20), (66, 5, 7), (67, 0, 3020), (68, 0, 20), (69, 0, 20), (70, 13, 4), (71, 1, 40), (72, 13, 4), (73, 1, 40), (74, 13, 4), (75, 1, 40), (76, 13, 4), (77, 1, 40), (78, 16, 102), (79, 0, 4), (80, 0, 4), (81, 1, 160), (82, 0, 20), (83, 0, 20), (84, 0, 20), (85, 0, 8), (86, 3, 2400), (87, 1, 8), (88, 2, 500), (89, 0, 8), (90, 0, 9), (91, 0, 8), (92, 0, 8), (93, 0, 9), (94, 0, 60), (95, 0, 60), (96, 0, 60), (97, 0, 60), (98, 0, 60), (99, 0, 60), (100, 0, 60), (101, 0, 60), (102, 0, 60), (103, 0, 60), (104, 0, 60), (105, 0, 60), (106, 0, 3020), (107, 0, 3020), (108, 0, 3020), (109, 0, 3020), (110, 0, 3020), (111, 0, 3020), (112, 0, 20), (113, 0, 20), (114, 0, 20), (115, 0, 6), (116, 0, 6), (117, 0, 6), (118, 0, 6), (119, 0, 6), (120, 0, 19200), (121, 0, 19200), (122, 0, 19200), (123, 0, 2500), (124, 0, 16), (125, 0, 60), (126, 0, 60), (127, 0, 60), (128, 0, 60), (129, 0, 20), (130, 0, 16), (131, 3, 16), (132, 3, 16), (133, 3, 16), (134, 0, 162), (135, 0, 3)]
def qptT : List (Int × Int × Int) := [(0, 0, 1), (0, 1, 2), (0, 2, 9), (0, 3, 12), (0, 4, 19), (0, 5, 28), (0, 6, 30), (0, 7, 41), (1, 0, 70), (1, 1, 72), (1, 2, 74), (1, 3, 76), (2, 0, 3), (2, 1, 4), (2, 2, 5), (2, 4, 6), (2, 6, 7), (2, 7, 8), (9, 0, 10), (9, 12, 11), (12, 2, 13), (12, 3, 14), (12, 4, 15), (12, 6, 16), (12, 7, 17), (12, 8, 18), (19, 3, 20), (19, 4, 21), (19, 5, 22), (19, 6, 23), (19, 7, 24), (19, 8, 25), (19, 9, 26), (19, 10, 27), (28, 2, 29), (30, 3, 31), (30, 4, 32), (30, 5, 33), (30, 6, 34), (30, 7, 35), (30, 8, 36), (30, 9, 37), (30, 10, 38), (30, 11, 39), (30, 12, 40), (41, 0, 42), (41, 3, 43), (44, 0, 45), (44, 1, 46), (44, 2, 47), (44, 3, 48), (44, 4, 49), (44, 5, 50), (44, 6, 51), (44, 7, 52), (53, 0, 54), (53, 1, 55), (53, 2, 56), (53, 3, 57), (53, 4, 58), (53, 5, 59), (53, 6, 60), (53, 7, 61), (62, 0, 63), (62, 1, 64), (62, 2, 65), (66, 0, 67), (66, 1, 68), (66, 2, 69), (70, 0, 71), (72, 0, 73), (74, 0, 75), (76, 0, 77), (78, 4, 79), (78, 5, 80), (78, 6, 81), (78, 11, 82), (78, 12, 83), (78, 13, 84), (78, 14, 85), (78, 15, 86), (78, 16, 87), (78, 17, 88), (78, 33, 89), (78, 34, 90), (78, 35, 91), (78, 36, 92), (78, 37, 93), (78, 38, 94), (78, 39, 95), (78, 40, 96), (78, 41, 97), (78, 42, 98), (78, 43, 99), (78, 44, 100), (78, 45, 101), (78, 46, 102), (78, 47, 103), (78, 48, 104), (78, 49, 105), (78, 55, 106), (78, 56, 107), (78, 57, 108), (78, 58, 109), (78, 59, 110), (78, 60, 111), (78, 61, 112), (78, 69, 113), (78, 70, 114), (78, 71, 115), (78, 72, 116), (78, 73, 117), (78, 74, 118), (78, 75, 119), (78, 80, 120), (78, 81, 121), (78, 82, 122), (78, 83, 123), (78, 88, 124), (78, 89, 125), (78, 90, 126), (78, 91, 127), (78, 92, 128), (78, 93, 129), (78, 94, 130), (78, 95, 131), (78, 96, 132), (78, 97, 133), (78, 98, 134), (78, 99, 135)]
/-- the cells as they stand behind the constructors: sorts and lengths, and the pointers that never move -/
def St (sh : qS) (pt : qM) : Prop := (∀ q ∈ qshT, qsh sh q.1 = some q.2) ∧ ∀ q ∈ qptT, pt q.1 q.2.1 = q.2.2
section
variable {sh : qS} {pt : qM}
theorem s_0 (h : St sh pt) : qsh sh 0 = some (15, 17) := h.1 (0, 15, 17) (List.mem_of_getElem? (i := 0) rfl)
theorem s_1 (h : St sh pt) : qsh sh 1 = some (4, 4) := h.1 (1, 4, 4) (List.mem_of_getElem? (i := 1) rfl)
theorem s_2 (h : St sh pt) : qsh sh 2 = some (7, 10) := h.1 (2, 7, 10) (List.mem_of_getElem? (i := 2) rfl)
theorem s_3 (h : St sh pt) : qsh sh 3 = some (0, 20) := h.1 (3, 0, 20) (List.mem_of_getElem? (i := 3) rfl)
theorem s_4 (h : St sh pt) : qsh sh 4 = some (0, 20) := h.1 (4, 0, 20) (List.mem_of_getElem? (i := 4) rfl)
theorem s_5 (h : St sh pt) : qsh sh 5 = some (0, 20) := h.1 (5, 0, 20) (List.mem_of_getElem? (i := 5) rfl)
theorem s_6 (h : St sh pt) : qsh sh 6 = some (1, 40) := h.1 (6, 1, 40) (List.mem_of_getElem? (i := 6) rfl)
theorem s_7 (h : St sh pt) : qsh sh 7 = some (1, 8) := h.1 (7, 1, 8) (List.mem_of_getElem? (i := 7) rfl)
theorem s_8 (h : St sh pt) : qsh sh 8 = some (0, 8) := h.1 (8, 0, 8) (List.mem_of_getElem? (i := 8) rfl)
theorem s_9 (h : St sh pt) : qsh sh 9 = some (9, 15) := h.1 (9, 9, 15) (List.mem_of_getElem? (i := 9) rfl)
theorem s_10 (h : St sh pt) : qsh sh 10 = some (0, 500) := h.1 (10, 0, 500) (List.mem_of_getElem? (i := 10) rfl)
theorem s_11 (h : St sh pt) : qsh sh 11 = some (0, 3) := h.1 (11, 0, 3) (List.mem_of_getElem? (i := 11) rfl)
theorem s_12 (h : St sh pt) : qsh sh 12 = some (6, 13) := h.1 (12, 6, 13) (List.mem_of_getElem? (i := 12) rfl)
theorem s_13 (h : St sh pt) : qsh sh 13 = some (0, 20) := h.1 (13, 0, 20) (List.mem_of_getElem? (i := 13) rfl)
theorem s_14 (h : St sh pt) : qsh sh 14 = some (0, 20) := h.1 (14, 0, 20) (List.mem_of_getElem? (i := 14) rfl)
theorem s_15 (h : St sh pt) : qsh sh 15 = some (0, 20) := h.1 (15, 0, 20) (List.mem_of_getElem? (i := 15) rfl)
theorem s_16 (h : St sh pt) : qsh sh 16 = some (0, 20) := h.1 (16, 0, 20) (List.mem_of_getElem? (i := 16) rfl)
theorem s_17 (h : St sh pt) : qsh sh 17 = some (0, 3) := h.1 (17, 0, 3) (List.mem_of_getElem? (i := 17) rfl)
theorem s_18 (h : St sh pt) : qsh sh 18 = some (0, 3) := h.1 (18, 0, 3) (List.mem_of_getElem? (i := 18) rfl)
theorem s_19 (h : St sh pt) : qsh sh 19 = some (8, 14) := h.1 (19, 8, 14) (List.mem_of_getElem? (i := 19) rfl)
theorem s_20 (h : St sh pt) : qsh sh 20 = some (0, 6) := h.1 (20, 0, 6) (List.mem_of_getElem? (i := 20) rfl)
theorem s_21 (h : St sh pt) : qsh sh 21 = some (0, 6) := h.1 (21, 0, 6) (List.mem_of_getElem? (i := 21) rfl)
theorem s_22 (h : St sh pt) : qsh sh 22 = some (0, 6) := h.1 (22, 0, 6) (List.mem_of_getElem? (i := 22) rfl)
theorem s_23 (h : St sh pt) : qsh sh 23 = some (0, 6) := h.1 (23, 0, 6) (List.mem_of_getElem? (i := 23) rfl)
theorem s_24 (h : St sh pt) : qsh sh 24 = some (0, 6) := h.1 (24, 0, 6) (List.mem_of_getElem? (i := 24) rfl)
theorem s_25 (h : St sh pt) : qsh sh 25 = some (0, 36) := h.1 (25, 0, 36) (List.mem_of_getElem? (i := 25) rfl)
theorem s_26 (h : St sh pt) : qsh sh 26 = some (0, 1476) := h.1 (26, 0, 1476) (List.mem_of_getElem? (i := 26) rfl)
theorem s_27 (h : St sh pt) : qsh sh 27 = some (3, 1296) := h.1 (27, 3, 1296) (List.mem_of_getElem? (i := 27) rfl)
theorem s_28 (h : St sh pt) : qsh sh 28 = some (14, 6) := h.1 (28, 14, 6) (List.mem_of_getElem? (i := 28) rfl)
theorem s_29 (h : St sh pt) : qsh sh 29 = some (1, 40) := h.1 (29, 1, 40) (List.mem_of_getElem? (i := 29) rfl)
theorem s_30 (h : St sh pt) : qsh sh 30 = some (10, 14) := h.1 (30, 10, 14) (List.mem_of_getElem? (i := 30) rfl)
theorem s_31 (h : St sh pt) : qsh sh 31 = some (0, 20) := h.1 (31, 0, 20) (List.mem_of_getElem? (i := 31) rfl)
theorem s_32 (h : St sh pt) : qsh sh 32 = some (0, 16) := h.1 (32, 0, 16) (List.mem_of_getElem? (i := 32) rfl)
theorem s_33 (h : St sh pt) : qsh sh 33 = some (0, 60) := h.1 (33, 0, 60) (List.mem_of_getElem? (i := 33) rfl)
theorem s_34 (h : St sh pt) : qsh sh 34 = some (0, 60) := h.1 (34, 0, 60) (List.mem_of_getElem? (i := 34) rfl)
theorem s_35 (h : St sh pt) : qsh sh 35 = some (0, 60) := h.1 (35, 0, 60) (List.mem_of_getElem? (i := 35) rfl)
theorem s_36 (h : St sh pt) : qsh sh 36 = some (0, 60) := h.1 (36, 0, 60) (List.mem_of_getElem? (i := 36) rfl)
theorem s_37 (h : St sh pt) : qsh sh 37 = some (0, 20) := h.1 (37, 0, 20) (List.mem_of_getElem? (i := 37) rfl)
theorem s_38 (h : St sh pt) : qsh sh 38 = some (0, 16) := h.1 (38, 0, 16) (List.mem_of_getElem? (i := 38) rfl)
theorem s_39 (h : St sh pt) : qsh sh 39 = some (0, 20) := h.1 (39, 0, 20) (List.mem_of_getElem? (i := 39) rfl)
theorem s_40 (h : St sh pt) : qsh sh 40 = some (0, 16) := h.1 (40, 0, 16) (List.mem_of_getElem? (i := 40) rfl)
theorem s_41 (h : St sh pt) : qsh sh 41 = some (11, 6) := h.1 (41, 11, 6) (List.mem_of_getElem? (i := 41) rfl)
theorem s_42 (h : St sh pt) : qsh sh 42 = some (0, 3) := h.1 (42, 0, 3) (List.mem_of_getElem? (i := 42) rfl)
theorem s_43 (h : St sh pt) : qsh sh 43 = some (0, 162) := h.1 (43, 0, 162) (List.mem_of_getElem? (i := 43) rfl)
theorem s_44 (h : St sh pt) : qsh sh 44 = some (12, 12) := h.1 (44, 12, 12) (List.mem_of_getElem? (i := 44) rfl)
theorem s_45 (h : St sh pt) : qsh sh 45 = some (0, 60) := h.1 (45, 0, 60) (List.mem_of_getElem? (i := 45) rfl)
theorem s_46 (h : St sh pt) : qsh sh 46 = some (0, 60) := h.1 (46, 0, 60) (List.mem_of_getElem? (i := 46) rfl)
theorem s_47 (h : St sh pt) : qsh sh 47 = some (0, 60) := h.1 (47, 0, 60) (List.mem_of_getElem? (i := 47) rfl)
theorem s_48 (h : St sh pt) : qsh sh 48 = some (0, 60) := h.1 (48, 0, 60) (List.mem_of_getElem? (i := 48) rfl)
theorem s_49 (h : St sh pt) : qsh sh 49 = some (0, 60) := h.1 (49, 0, 60) (List.mem_of_getElem? (i := 49) rfl)
theorem s_50 (h : St sh pt) : qsh sh 50 = some (0, 60) := h.1 (50, 0, 60) (List.mem_of_getElem? (i := 50) rfl)
theorem s_51 (h : St sh pt) : qsh sh 51 = some (0, 8) := h.1 (51, 0, 8) (List.mem_of_getElem? (i := 51) rfl)
theorem s_52 (h : St sh pt) : qsh sh 52 = some (0, 8) := h.1 (52, 0, 8) (List.mem_of_getElem? (i := 52) rfl)
theorem s_53 (h : St sh pt) : qsh sh 53 = some (12, 12) := h.1 (53, 12, 12) (List.mem_of_getElem? (i := 53) rfl)
theorem s_54 (h : St sh pt) : qsh sh 54 = some (0, 60) := h.1 (54, 0, 60) (List.mem_of_getElem? (i := 54) rfl)
theorem s_55 (h : St sh pt) : qsh sh 55 = some (0, 60) := h.1 (55, 0, 60) (List.mem_of_getElem? (i := 55) rfl)
theorem s_56 (h : St sh pt) : qsh sh 56 = some (0, 60) := h.1 (56, 0, 60) (List.mem_of_getElem? (i := 56) rfl)
theorem s_57 (h : St sh pt) : qsh sh 57 = some (0, 60) := h.1 (57, 0, 60) (List.mem_of_getElem? (i := 57) rfl)
theorem s_58 (h : St sh pt) : qsh sh 58 = some (0, 60) := h.1 (58, 0, 60) (List.mem_of_getElem? (i := 58) rfl)
theorem s_59 (h : St sh pt) : qsh sh 59 = some (0, 60) := h.1 (59, 0, 60) (List.mem_of_getElem? (i := 59) rfl)
theorem s_60 (h : St sh pt) : qsh sh 60 = some (0, 8) := h.1 (60, 0, 8) (List.mem_of_getElem? (i := 60) rfl)
theorem s_61 (h : St sh pt) : qsh sh 61 = some (0, 8) := h.1 (61, 0, 8) (List.mem_of_getElem? (i := 61) rfl)
theorem s_62 (h : St sh pt) : qsh sh 62 = some (5, 7) := h.1 (62, 5, 7) (List.mem_of_getElem? (i := 62) rfl)
theorem s_63 (h : St sh pt) : qsh sh 63 = some (0, 3020) := h.1 (63, 0, 3020) (List.mem_of_getElem? (i := 63) rfl)
theorem s_64 (h : St sh pt) : qsh sh 64 = some (0, 20) := h.1 (64, 0, 20) (List.mem_of_getElem? (i := 64) rfl)
theorem s_65 (h : St sh pt) : qsh sh 65 = some (0, 20) := h.1 (65, 0, 20) (List.mem_of_getElem? (i := 65) rfl)
theorem s_66 (h : St sh pt) : qsh sh 66 = some (5, 7) := h.1 (66, 5, 7) (List.mem_of_getElem? (i := 66) rfl)
theorem s_67 (h : St sh pt) : qsh sh 67 = some (0, 3020) := h.1 (67, 0, 3020) (List.mem_of_getElem? (i := 67) rfl)
theorem s_68 (h : St sh pt) : qsh sh 68 = some (0, 20) := h.1 (68, 0, 20) (List.mem_of_getElem? (i := 68) rfl)
theorem s_69 (h : St sh pt) : qsh sh 69 = some (0, 20) := h.1 (69, 0, 20) (List.mem_of_getElem? (i := 69) rfl)
theorem s_70 (h : St sh pt) : qsh sh 70 = some (13, 4) := h.1 (70, 13, 4) (List.mem_of_getElem? (i := 70) rfl)
theorem s_71 (h : St sh pt) : qsh sh 71 = some (1, 40) := h.1 (71, 1, 40) (List.mem_of_getElem? (i := 71) rfl)
theorem s_72 (h : St sh pt) : qsh sh 72 = some (13, 4) := h.1 (72, 13, 4) (List.mem_of_getElem? (i := 72) rfl)
theorem s_73 (h : St sh pt) : qsh sh 73 = some (1, 40) := h.1 (73, 1, 40) (List.mem_of_getElem? (i := 73) rfl)
theorem s_74 (h : St sh pt) : qsh sh 74 = some (13, 4) := h.1 (74, 13, 4) (List.mem_of_getElem? (i := 74) rfl)
theorem s_75 (h : St sh pt) : qsh sh 75 = some (1, 40) := h.1 (75, 1, 40) (List.mem_of_getElem? (i := 75) rfl)
theorem s_76 (h : St sh pt) : qsh sh 76 = some (13, 4) := h.1 (76, 13, 4) (List.mem_of_getElem? (i := 76) rfl)
theorem s_77 (h : St sh pt) : qsh sh 77 = some (1, 40) := h.1 (77, 1, 40) (List.mem_of_getElem? (i := 77) rfl)
theorem s_78 (h : St sh pt) : qsh sh 78 = some (16, 102) := h.1 (78, 16, 102) (List.mem_of_getElem? (i := 78) rfl)
theorem s_79 (h : St sh pt) : qsh sh 79 = some (0, 4) := h.1 (79, 0, 4) (List.mem_of_getElem? (i := 79) rfl)
theorem s_80 (h : St sh pt) : qsh sh 80 = some (0, 4) := h.1 (80, 0, 4) (List.mem_of_getElem? (i := 80) rfl)
theorem s_81 (h : St sh pt) : qsh sh 81 = some (1, 160) := h.1 (81, 1, 160) (List.mem_of_getElem? (i := 81) rfl)
theorem s_82 (h : St sh pt) : qsh sh 82 = some (0, 20) := h.1 (82, 0, 20) (List.mem_of_getElem? (i := 82) rfl)
theorem s_83 (h : St sh pt) : qsh sh 83 = some (0, 20) := h.1 (83, 0, 20) (List.mem_of_getElem? (i := 83) rfl)
theorem s_84 (h : St sh pt) : qsh sh 84 = some (0, 20) := h.1 (84, 0, 20) (List.mem_of_getElem? (i := 84) rfl)
theorem s_85 (h : St sh pt) : qsh sh 85 = some (0, 8) := h.1 (85, 0, 8) (List.mem_of_getElem? (i := 85) rfl)
theorem s_86 (h : St sh pt) : qsh sh 86 = some (3, 2400) := h.1 (86, 3, 2400) (List.mem_of_getElem? (i := 86) rfl)
theorem s_87 (h : St sh pt) : qsh sh 87 = some (1, 8) := h.1 (87, 1, 8) (List.mem_of_getElem? (i := 87) rfl)
theorem s_88 (h : St sh pt) : qsh sh 88 = some (2, 500) := h.1 (88, 2, 500) (List.mem_of_getElem? (i := 88) rfl)
theorem s_89 (h : St sh pt) : qsh sh 89 = some (0, 8) := h.1 (89, 0, 8) (List.mem_of_getElem? (i := 89) rfl)
theorem s_90 (h : St sh pt) : qsh sh 90 = some (0, 9) := h.1 (90, 0, 9) (List.mem_of_getElem? (i := 90) rfl)
theorem s_91 (h : St sh pt) : qsh sh 91 = some (0, 8) := h.1 (91, 0, 8) (List.mem_of_getElem? (i := 91) rfl)
theorem s_92 (h : St sh pt) : qsh sh 92 = some (0, 8) := h.1 (92, 0, 8) (List.mem_of_getElem? (i := 92) rfl)
theorem s_93 (h : St sh pt) : qsh sh 93 = some (0, 9) := h.1 (93, 0, 9) (List.mem_of_getElem? (i := 93) rfl)
theorem s_94 (h : St sh pt) : qsh sh 94 = some (0, 60) := h.1 (94, 0, 60) (List.mem_of_getElem? (i := 94) rfl)
theorem s_95 (h : St sh pt) : qsh sh 95 = some (0, 60) := h.1 (95, 0, 60) (List.mem_of_getElem? (i := 95) rfl)
theorem s_96 (h : St sh pt) : qsh sh 96 = some (0, 60) := h.1 (96, 0, 60) (List.mem_of_getElem? (i := 96) rfl)
theorem s_97 (h : St sh pt) : qsh sh 97 = some (0, 60) := h.1 (97, 0, 60) (List.mem_of_getElem? (i := 97) rfl)
theorem s_98 (h : St sh pt) : qsh sh 98 = some (0, 60) := h.1 (98, 0, 60) (List.mem_of_getElem? (i := 98) rfl)
theorem s_99 (h : St sh pt) : qsh sh 99 = some (0, 60) := h.1 (99, 0, 60) (List.mem_of_getElem? (i := 99) rfl)
theorem s_100 (h : St sh pt) : qsh sh 100 = some (0, 60) := h.1 (100, 0, 60) (List.mem_of_getElem? (i := 100) rfl)
theorem s_101 (h : St sh pt) : qsh sh 101 = some (0, 60) := h.1 (101, 0, 60) (List.mem_of_getElem? (i := 101) rfl)
theorem s_102 (h : St sh pt) : qsh sh 102 = some (0, 60) := h.1 (102, 0, 60) (List.mem_of_getElem? (i := 102) rfl)
theorem s_103 (h : St sh pt) : qsh sh 103 = some (0, 60) := h.1 (103, 0, 60) (List.mem_of_getElem? (i := 103) rfl)
theorem s_104 (h : St sh pt) : qsh sh 104 = some (0, 60) := h.1 (104, 0, 60) (List.mem_of_getElem? (i := 104) rfl)
theorem s_105 (h : St sh pt) : qsh sh 105 = some (0, 60) := h.1 (105, 0, 60) (List.mem_of_getElem? (i := 105) rfl)
theorem s_106 (h : St sh pt) : qsh sh 106 = some (0, 3020) := h.1 (106, 0, 3020) (List.mem_of_getElem? (i := 106) rfl)
theorem s_107 (h : St sh pt) : qsh sh 107 = some (0, 3020) := h.1 (107, 0, 3020) (List.mem_of_getElem? (i := 107) rfl)
theorem s_108 (h : St sh pt) : qsh sh 108 = some (0, 3020) := h.1 (108, 0, 3020) (List.mem_of_getElem? (i := 108) rfl)
theorem s_109 (h : St sh pt) : qsh sh 109 = some (0, 3020) := h.1 (109, 0, 3020) (List.mem_of_getElem? (i := 109) rfl)
theorem s_110 (h : St sh pt) : qsh sh 110 = some (0, 3020) := h.1 (110, 0, 3020) (List.mem_of_getElem? (i := 110) rfl)
theorem s_111 (h : St sh pt) : qsh sh 111 = some (0, 3020) := h.1 (111, 0, 3020) (List.mem_of_getElem? (i := 111) rfl)
theorem s_112 (h : St sh pt) : qsh sh 112 = some (0, 20) := h.1 (112, 0, 20) (List.mem_of_getElem? (i := 112) rfl)
theorem s_113 (h : St sh pt) : qsh sh 113 = some (0, 20) := h.1 (113, 0, 20) (List.mem_of_getElem? (i := 113) rfl)
theorem s_114 (h : St sh pt) : qsh sh 114 = some (0, 20) := h.1 (114, 0, 20) (List.mem_of_getElem? (i := 114) rfl)
theorem s_115 (h : St sh pt) : qsh sh 115 = some (0, 6) := h.1 (115, 0, 6) (List.mem_of_getElem? (i := 115) rfl)
theorem s_116 (h : St sh pt) : qsh sh 116 = some (0, 6) := h.1 (116, 0, 6) (List.mem_of_getElem? (i := 116) rfl)
theorem s_117 (h : St sh pt) : qsh sh 117 = some (0, 6) := h.1 (117, 0, 6) (List.mem_of_getElem? (i := 117) rfl)
theorem s_118 (h : St sh pt) : qsh sh 118 = some (0, 6) := h.1 (118, 0, 6) (List.mem_of_getElem? (i := 118) rfl)
theorem s_119 (h : St sh pt) : qsh sh 119 = some (0, 6) := h.1 (119, 0, 6) (List.mem_of_getElem? (i := 119) rfl)
theorem s_120 (h : St sh pt) : qsh sh 120 = some (0, 19200) := h.1 (120, 0, 19200) (List.mem_of_getElem? (i := 120) rfl)
theorem s_121 (h : St sh pt) : qsh sh 121 = some (0, 19200) := h.1 (121, 0, 19200) (List.mem_of_getElem? (i := 121) rfl)
theorem s_122 (h : St sh pt) : qsh sh 122 = some (0, 19200) := h.1 (122, 0, 19200) (List.mem_of_getElem? (i := 122) rfl)
theorem s_123 (h : St sh pt) : qsh sh 123 = some (0, 2500) := h.1 (123, 0, 2500) (List.mem_of_getElem? (i := 123) rfl)
theorem s_124 (h : St sh pt) : qsh sh 124 = some (0, 16) := h.1 (124, 0, 16) (List.mem_of_getElem? (i := 124) rfl)
theorem s_125 (h : St sh pt) : qsh sh 125 = some (0, 60) := h.1 (125, 0, 60) (List.mem_of_getElem? (i := 125) rfl)
theorem s_126 (h : St sh pt) : qsh sh 126 = some (0, 60) := h.1 (126, 0, 60) (List.mem_of_getElem? (i := 126) rfl)
theorem s_127 (h : St sh pt) : qsh sh 127 = some (0, 60) := h.1 (127, 0, 60) (List.mem_of_getElem? (i := 127) rfl)
theorem s_128 (h : St sh pt) : qsh sh 128 = some (0, 60) := h.1 (128, 0, 60) (List.mem_of_getElem? (i := 128) rfl)
theorem s_129 (h : St sh pt) : qsh sh 129 = some (0, 20) := h.1 (129, 0, 20) (List.mem_of_getElem? (i := 129) rfl)
theorem s_130 (h : St sh pt) : qsh sh 130 = some (0, 16) := h.1 (130, 0, 16) (List.mem_of_getElem? (i := 130) rfl)
theorem s_131 (h : St sh pt) : qsh sh 131 = some (3, 16) := h.1 (131, 3, 16) (List.mem_of_getElem? (i := 131) rfl)
theorem s_132 (h : St sh pt) : qsh sh 132 = some (3, 16) := h.1 (132, 3, 16) (List.mem_of_getElem? (i := 132) rfl)
theorem s_133 (h : St sh pt) : qsh sh 133 = some (3, 16) := h.1 (133, 3, 16) (List.mem_of_getElem? (i := 133) rfl)
theorem s_134 (h : St sh pt) : qsh sh 134 = some (0, 162) := h.1 (134, 0, 162) (List.mem_of_getElem? (i := 134) rfl)
theorem s_135 (h : St sh pt) : qsh sh 135 = some (0, 3) := h.1 (135, 0, 3) (List.mem_of_getElem? (i := 135) rfl)
theorem p_0_0 (h : St sh pt) : pt 0 0 = 1 := h.2 (0, 0, 1) (List.mem_of_getElem? (i := 0) rfl)
theorem p_0_1 (h : St sh pt) : pt 0 1 = 2 := h.2 (0, 1, 2) (List.mem_of_getElem? (i := 1) rfl)
theorem p_0_2 (h : St sh pt) : pt 0 2 = 9 := h.2 (0, 2, 9) (List.mem_of_getElem? (i := 2) rfl)
theorem p_0_3 (h : St sh pt) : pt 0 3 = 12 := h.2 (0, 3, 12) (List.mem_of_getElem? (i := 3) rfl)
theorem p_0_4 (h : St sh pt) : pt 0 4 = 19 := h.2 (0, 4, 19) (List.mem_of_getElem? (i := 4) rfl)
theorem p_0_5 (h : St sh pt) : pt 0 5 = 28 := h.2 (0, 5, 28) (List.mem_of_getElem? (i := 5) rfl)
theorem p_0_6 (h : St sh pt) : pt 0 6 = 30 := h.2 (0, 6, 30) (List.mem_of_getElem? (i := 6) rfl)
theorem p_0_7 (h : St sh pt) : pt 0 7 = 41 := h.2 (0, 7, 41) (List.mem_of_getElem? (i := 7) rfl)
theorem p_1_0 (h : St sh pt) : pt 1 0 = 70 := h.2 (1, 0, 70) (List.mem_of_getElem? (i := 8) rfl)
theorem p_1_1 (h : St sh pt) : pt 1 1 = 72 := h.2 (1, 1, 72) (List.mem_of_getElem? (i := 9) rfl)
theorem p_1_2 (h : St sh pt) : pt 1 2 = 74 := h.2 (1, 2, 74) (List.mem_of_getElem? (i := 10) rfl)
theorem p_1_3 (h : St sh pt) : pt 1 3 = 76 := h.2 (1, 3, 76) (List.mem_of_getElem? (i := 11) rfl)
theorem p_2_0 (h : St sh pt) : pt 2 0 = 3 := h.2 (2, 0, 3) (List.mem_of_getElem? (i := 12) rfl)
theorem p_2_1 (h : St sh pt) : pt 2 1 = 4 := h.2 (2, 1, 4) (List.mem_of_getElem? (i := 13) rfl)
theorem p_2_2 (h : St sh pt) : pt 2 2 = 5 := h.2 (2, 2, 5) (List.mem_of_getElem? (i := 14) rfl)
theorem p_2_4 (h : St sh pt) : pt 2 4 = 6 := h.2 (2, 4, 6) (List.mem_of_getElem? (i := 15) rfl)
theorem p_2_6 (h : St sh pt) : pt 2 6 = 7 := h.2 (2, 6, 7) (List.mem_of_getElem? (i := 16) rfl)
theorem p_2_7 (h : St sh pt) : pt 2 7 = 8 := h.2 (2, 7, 8) (List.mem_of_getElem? (i := 17) rfl)
theorem p_9_0 (h : St sh pt) : pt 9 0 = 10 := h.2 (9, 0, 10) (List.mem_of_getElem? (i := 18) rfl)
theorem p_9_12 (h : St sh pt) : pt 9 12 = 11 := h.2 (9, 12, 11) (List.mem_of_getElem? (i := 19) rfl)
theorem p_12_2 (h : St sh pt) : pt 12 2 = 13 := h.2 (12, 2, 13) (List.mem_of_getElem? (i := 20) rfl)
theorem p_12_3 (h : St sh pt) : pt 12 3 = 14 := h.2 (12, 3, 14) (List.mem_of_getElem? (i := 21) rfl)
theorem p_12_4 (h : St sh pt) : pt 12 4 = 15 := h.2 (12, 4, 15) (List.mem_of_getElem? (i := 22) rfl)
theorem p_12_6 (h : St sh pt) : pt 12 6 = 16 := h.2 (12, 6, 16) (List.mem_of_getElem? (i := 23) rfl)
theorem p_12_7 (h : St sh pt) : pt 12 7 = 17 := h.2 (12, 7, 17) (List.mem_of_getElem? (i := 24) rfl)
theorem p_12_8 (h : St sh pt) : pt 12 8 = 18 := h.2 (12, 8, 18) (List.mem_of_getElem? (i := 25) rfl)
theorem p_19_3 (h : St sh pt) : pt 19 3 = 20 := h.2 (19, 3, 20) (List.mem_of_getElem? (i := 26) rfl)
theorem p_19_4 (h : St sh pt) : pt 19 4 = 21 := h.2 (19, 4, 21) (List.mem_of_getElem? (i := 27) rfl)
theorem p_19_5 (h : St sh pt) : pt 19 5 = 22 := h.2 (19, 5, 22) (List.mem_of_getElem? (i := 28) rfl)
theorem p_19_6 (h : St sh pt) : pt 19 6 = 23 := h.2 (19, 6, 23) (List.mem_of_getElem? (i := 29) rfl)
theorem p_19_7 (h : St sh pt) : pt 19 7 = 24 := h.2 (19, 7, 24) (List.mem_of_getElem? (i := 30) rfl)
theorem p_19_8 (h : St sh pt) : pt 19 8 = 25 := h.2 (19, 8, 25) (List.mem_of_getElem? (i := 31) rfl)
theorem p_19_9 (h : St sh pt) : pt 19 9 = 26 := h.2 (19, 9, 26) (List.mem_of_getElem? (i := 32) rfl)
theorem p_19_10 (h : St sh pt) : pt 19 10 = 27 := h.2 (19, 10, 27) (List.mem_of_getElem? (i := 33) rfl)
theorem p_28_2 (h : St sh pt) : pt 28 2 = 29 := h.2 (28, 2, 29) (List.mem_of_getElem? (i := 34) rfl)
theorem p_30_3 (h : St sh pt) : pt 30 3 = 31 := h.2 (30, 3, 31) (List.mem_of_getElem? (i := 35) rfl)
theorem p_30_4 (h : St sh pt) : pt 30 4 = 32 := h.2 (30, 4, 32) (List.mem_of_getElem? (i := 36) rfl)
theorem p_30_5 (h : St sh pt) : pt 30 5 = 33 := h.2 (30, 5, 33) (List.mem_of_getElem? (i := 37) rfl)
theorem p_30_6 (h : St sh pt) : pt 30 6 = 34 := h.2 (30, 6, 34) (List.mem_of_getElem? (i := 38) rfl)
theorem p_30_7 (h : St sh pt) : pt 30 7 = 35 := h.2 (30, 7, 35) (List.mem_of_getElem? (i := 39) rfl)
theorem p_30_8 (h : St sh pt) : pt 30 8 = 36 := h.2 (30, 8, 36) (List.mem_of_getElem? (i := 40) rfl)
theorem p_30_9 (h : St sh pt) : pt 30 9 = 37 := h.2 (30, 9, 37) (List.mem_of_getElem? (i := 41) rfl)
theorem p_30_10 (h : St sh pt) : pt 30 10 = 38 := h.2 (30, 10, 38) (List.mem_of_getElem? (i := 42) rfl)
theorem p_30_11 (h : St sh pt) : pt 30 11 = 39 := h.2 (30, 11, 39) (List.mem_of_getElem? (i := 43) rfl)
theorem p_30_12 (h : St sh pt) : pt 30 12 = 40 := h.2 (30, 12, 40) (List.mem_of_getElem? (i := 44) rfl)
theorem p_41_0 (h : St sh pt) : pt 41 0 = 42 := h.2 (41, 0, 42) (List.mem_of_getElem? (i := 45) rfl)
theorem p_41_3 (h : St sh pt) : pt 41 3 = 43 := h.2 (41, 3, 43) (List.mem_of_getElem? (i := 46) rfl)
theorem p_44_0 (h : St sh pt) : pt 44 0 = 45 := h.2 (44, 0, 45) (List.mem_of_getElem? (i := 47) rfl)
theorem p_44_1 (h : St sh pt) : pt 44 1 = 46 := h.2 (44, 1, 46) (List.mem_of_getElem? (i := 48) rfl)
theorem p_44_2 (h : St sh pt) : pt 44 2 = 47 := h.2 (44, 2, 47) (List.mem_of_getElem? (i := 49) rfl)
theorem p_44_3 (h : St sh pt) : pt 44 3 = 48 := h.2 (44, 3, 48) (List.mem_of_getElem? (i := 50) rfl)
theorem p_44_4 (h : St sh pt) : pt 44 4 = 49 := h.2 (44, 4, 49) (List.mem_of_getElem? (i := 51) rfl)
theorem p_44_5 (h : St sh pt) : pt 44 5 = 50 := h.2 (44, 5, 50) (List.mem_of_getElem? (i := 52) rfl)
theorem p_44_6 (h : St sh pt) : pt 44 6 = 51 := h.2 (44, 6, 51) (List.mem_of_getElem? (i := 53) rfl)
theorem p_44_7 (h : St sh pt) : pt 44 7 = 52 := h.2 (44, 7, 52) (List.mem_of_getElem? (i := 54) rfl)
theorem p_53_0 (h : St sh pt) : pt 53 0 = 54 := h.2 (53, 0, 54) (List.mem_of_getElem? (i := 55) rfl)
theorem p_53_1 (h : St sh pt) : pt 53 1 = 55 := h.2 (53, 1, 55) (List.mem_of_getElem? (i := 56) rfl)
theorem p_53_2 (h : St sh pt) : pt 53 2 = 56 := h.2 (53, 2, 56) (List.mem_of_getElem? (i := 57) rfl)
theorem p_53_3 (h : St sh pt) : pt 53 3 = 57 := h.2 (53, 3, 57) (List.mem_of_getElem? (i := 58) rfl)
theorem p_53_4 (h : St sh pt) : pt 53 4 = 58 := h.2 (53, 4, 58) (List.mem_of_getElem? (i := 59) rfl)
theorem p_53_5 (h : St sh pt) : pt 53 5 = 59 := h.2 (53, 5, 59) (List.mem_of_getElem? (i := 60) rfl)
theorem p_53_6 (h : St sh pt) : pt 53 6 = 60 := h.2 (53, 6, 60) (List.mem_of_getElem? (i := 61) rfl)
theorem p_53_7 (h : St sh pt) : pt 53 7 = 61 := h.2 (53, 7, 61) (List.mem_of_getElem? (i := 62) rfl)
theorem p_62_0 (h : St sh pt) : pt 62 0 = 63 := h.2 (62, 0, 63) (List.mem_of_getElem? (i := 63) rfl)
theorem p_62_1 (h : St sh pt) : pt 62 1 = 64 := h.2 (62, 1, 64) (List.mem_of_getElem? (i := 64) rfl)
theorem p_62_2 (h : St sh pt) : pt 62 2 = 65 := h.2 (62, 2, 65) (List.mem_of_getElem? (i := 65) rfl)
theorem p_66_0 (h : St sh pt) : pt 66 0 = 67 := h.2 (66, 0, 67) (List.mem_of_getElem? (i := 66) rfl)
theorem p_66_1 (h : St sh pt) : pt 66 1 = 68 := h.2 (66, 1, 68) (List.mem_of_getElem? (i := 67) rfl)
theorem p_66_2 (h : St sh pt) : pt 66 2 = 69 := h.2 (66, 2, 69) (List.mem_of_getElem? (i := 68) rfl)
theorem p_70_0 (h : St sh pt) : pt 70 0 = 71 := h.2 (70, 0, 71) (List.mem_of_getElem? (i := 69) rfl)
theorem p_72_0 (h : St sh pt) : pt 72 0 = 73 := h.2 (72, 0, 73) (List.mem_of_getElem? (i := 70) rfl)
theorem p_74_0 (h : St sh pt) : pt 74 0 = 75 := h.2 (74, 0, 75) (List.mem_of_getElem? (i := 71) rfl)
theorem p_76_0 (h : St sh pt) : pt 76 0 = 77 := h.2 (76, 0, 77) (List.mem_of_getElem? (i := 72) rfl)
theorem p_78_4 (h : St sh pt) : pt 78 4 = 79 := h.2 (78, 4, 79) (List.mem_of_getElem? (i := 73) rfl)
theorem p_78_5 (h : St sh pt) : pt 78 5 = 80 := h.2 (78, 5, 80) (List.mem_of_getElem? (i := 74) rfl)
theorem p_78_6 (h : St sh pt) : pt 78 6 = 81 := h.2 (78, 6, 81) (List.mem_of_getElem? (i := 75) rfl)
theorem p_78_11 (h : St sh pt) : pt 78 11 = 82 := h.2 (78, 11, 82) (List.mem_of_getElem? (i := 76) rfl)
theorem p_78_12 (h : St sh pt) : pt 78 12 = 83 := h.2 (78, 12, 83) (List.mem_of_getElem? (i := 77) rfl)
theorem p_78_13 (h : St sh pt) : pt 78 13 = 84 := h.2 (78, 13, 84) (List.mem_of_getElem? (i := 78) rfl)
theorem p_78_14 (h : St sh pt) : pt 78 14 = 85 := h.2 (78, 14, 85) (List.mem_of_getElem? (i := 79) rfl)
theorem p_78_15 (h : St sh pt) : pt 78 15 = 86 := h.2 (78, 15, 86) (List.mem_of_getElem? (i := 80) rfl)
theorem p_78_16 (h : St sh pt) : pt 78 16 = 87 := h.2 (78, 16, 87) (List.mem_of_getElem? (i := 81) rfl)
theorem p_78_17 (h : St sh pt) : pt 78 17 = 88 := h.2 (78, 17, 88) (List.mem_of_getElem? (i := 82) rfl)
theorem p_78_33 (h : St sh pt) : pt 78 33 = 89 := h.2 (78, 33, 89) (List.mem_of_getElem? (i := 83) rfl)
theorem p_78_34 (h : St sh pt) : pt 78 34 = 90 := h.2 (78, 34, 90) (List.mem_of_getElem? (i := 84) rfl)
theorem p_78_35 (h : St sh pt) : pt 78 35 = 91 := h.2 (78, 35, 91) (List.mem_of_getElem? (i := 85) rfl)
theorem p_78_36 (h : St sh pt) : pt 78 36 = 92 := h.2 (78, 36, 92) (List.mem_of_getElem? (i := 86) rfl)
theorem p_78_37 (h : St sh pt) : pt 78 37 = 93 := h.2 (78, 37, 93) (List.mem_of_getElem? (i := 87) rfl)
theorem p_78_38 (h : St sh pt) : pt 78 38 = 94 := h.2 (78, 38, 94) (List.mem_of_getElem? (i := 88) rfl)
theorem p_78_39 (h : St sh pt) : pt 78 39 = 95 := h.2 (78, 39, 95) (List.mem_of_getElem? (i := 89) rfl)
theorem p_78_40 (h : St sh pt) : pt 78 40 = 96 := h.2 (78, 40, 96) (List.mem_of_getElem? (i := 90) rfl)
theorem p_78_41 (h : St sh pt) : pt 78 41 = 97 := h.2 (78, 41, 97) (List.mem_of_getElem? (i := 91) rfl)
theorem p_78_42 (h : St sh pt) : pt 78 42 = 98 := h.2 (78, 42, 98) (List.mem_of_getElem? (i := 92) rfl)
theorem p_78_43 (h : St sh pt) : pt 78 43 = 99 := h.2 (78, 43, 99) (List.mem_of_getElem? (i := 93) rfl)
theorem p_78_44 (h : St sh pt) : pt 78 44 = 100 := h.2 (78, 44, 100) (List.mem_of_getElem? (i := 94) rfl)
theorem p_78_45 (h : St sh pt) : pt 78 45 = 101 := h.2 (78, 45, 101) (List.mem_of_getElem? (i := 95) rfl)
theorem p_78_46 (h : St sh pt) : pt 78 46 = 102 := h.2 (78, 46, 102) (List.mem_of_getElem? (i := 96) rfl)
theorem p_78_47 (h : St sh pt) : pt 78 47 = 103 := h.2 (78, 47, 103) (List.mem_of_getElem? (i := 97) rfl)
theorem p_78_48 (h : St sh pt) : pt 78 48 = 104 := h.2 (78, 48, 104) (List.mem_of_getElem? (i := 98) rfl)
theorem p_78_49 (h : St sh pt) : pt 78 49 = 105 := h.2 (78, 49, 105) (List.mem_of_getElem? (i := 99) rfl)
theorem p_78_55 (h : St sh pt) : pt 78 55 = 106 := h.2 (78, 55, 106) (List.mem_of_getElem? (i := 100) rfl)
theorem p_78_56 (h : St sh pt) : pt 78 56 = 107 := h.2 (78, 56, 107) (List.mem_of_getElem? (i := 101) rfl)
theorem p_78_57 (h : St sh pt) : pt 78 57 = 108 := h.2 (78, 57, 108) (List.mem_of_getElem? (i := 102) rfl)
theorem p_78_58 (h : St sh pt) : pt 78 58 = 109 := h.2 (78, 58, 109) (List.mem_of_getElem? (i := 103) rfl)
theorem p_78_59 (h : St sh pt) : pt 78 59 = 110 := h.2 (78, 59, 110) (List.mem_of_getElem? (i := 104) rfl)
theorem p_78_60 (h : St sh pt) : pt 78 60 = 111 := h.2 (78, 60, 111) (List.mem_of_getElem? (i := 105) rfl)
theorem p_78_61 (h : St sh pt) : pt 78 61 = 112 := h.2 (78, 61, 112) (List.mem_of_getElem? (i := 106) rfl)
theorem p_78_69 (h : St sh pt) : pt 78 69 = 113 := h.2 (78, 69, 113) (List.mem_of_getElem? (i := 107) rfl)
theorem p_78_70 (h : St sh pt) : pt 78 70 = 114 := h.2 (78, 70, 114) (List.mem_of_getElem? (i := 108) rfl)
theorem p_78_71 (h : St sh pt) : pt 78 71 = 115 := h.2 (78, 71, 115) (List.mem_of_getElem? (i := 109) rfl)
theorem p_78_72 (h : St sh pt) : pt 78 72 = 116 := h.2 (78, 72, 116) (List.mem_of_getElem? (i := 110) rfl)
theorem p_78_73 (h : St sh pt) : pt 78 73 = 117 := h.2 (78, 73, 117) (List.mem_of_getElem? (i := 111) rfl)
theorem p_78_74 (h : St sh pt) : pt 78 74 = 118 := h.2 (78, 74, 118) (List.mem_of_getElem? (i := 112) rfl)
theorem p_78_75 (h : St sh pt) : pt 78 75 = 119 := h.2 (78, 75, 119) (List.mem_of_getElem? (i := 113) rfl)
theorem p_78_80 (h : St sh pt) : pt 78 80 = 120 := h.2 (78, 80, 120) (List.mem_of_getElem? (i := 114) rfl)
theorem p_78_81 (h : St sh pt) : pt 78 81 = 121 := h.2 (78, 81, 121) (List.mem_of_getElem? (i := 115) rfl)
theorem p_78_82 (h : St sh pt) : pt 78 82 = 122 := h.2 (78, 82, 122) (List.mem_of_getElem? (i := 116) rfl)
theorem p_78_83 (h : St sh pt) : pt 78 83 = 123 := h.2 (78, 83, 123) (List.mem_of_getElem? (i := 117) rfl)
theorem p_78_88 (h : St sh pt) : pt 78 88 = 124 := h.2 (78, 88, 124) (List.mem_of_getElem? (i := 118) rfl)
theorem p_78_89 (h : St sh pt) : pt 78 89 = 125 := h.2 (78, 89, 125) (List.mem_of_getElem? (i := 119) rfl)
theorem p_78_90 (h : St sh pt) : pt 78 90 = 126 := h.2 (78, 90, 126) (List.mem_of_getElem? (i := 120) rfl)
theorem p_78_91 (h : St sh pt) : pt 78 91 = 127 := h.2 (78, 91, 127) (List.mem_of_getElem? (i := 121) rfl)
theorem p_78_92 (h : St sh pt) : pt 78 92 = 128 := h.2 (78, 92, 128) (List.mem_of_getElem? (i := 122) rfl)
theorem p_78_93 (h : St sh pt) : pt 78 93 = 129 := h.2 (78, 93, 129) (List.mem_of_getElem? (i := 123) rfl)
theorem p_78_94 (h : St sh pt) : pt 78 94 = 130 := h.2 (78, 94, 130) (List.mem_of_getElem? (i := 124) rfl)
theorem p_78_95 (h : St sh pt) : pt 78 95 = 131 := h.2 (78, 95, 131) (List.mem_of_getElem? (i := 125) rfl)
theorem p_78_96 (h : St sh pt) : pt 78 96 = 132 := h.2 (78, 96, 132) (List.mem_of_getElem? (i := 126) rfl)
theorem p_78_97 (h : St sh pt) : pt 78 97 = 133 := h.2 (78, 97, 133) (List.mem_of_getElem? (i := 127) rfl)
theorem p_78_98 (h : St sh pt) : pt 78 98 = 134 := h.2 (78, 98, 134) (List.mem_of_getElem? (i := 128) rfl)
theorem p_78_99 (h : St sh pt) : pt 78 99 = 135 := h.2 (78, 99, 135) (List.mem_of_getElem? (i := 129) rfl)
abbrev isC (c : Int) : Prop := c = 62 ∨ c = 66
theorem sC (h : St sh pt) {c : Int} (hc : isC c) : qsh sh c = some (5, 7) := by
  rcases hc with rfl | rfl
  · exact s_62 h
  · exact s_66 h
theorem pC0 (h : St sh pt) {c : Int} (hc : isC c) : pt c 0 = c + 1 := by
  rcases hc with rfl | rfl
  · exact p_62_0 h
  · exact p_66_0 h
theorem sC0 (h : St sh pt) {c : Int} (hc : isC c) : qsh sh (c + 1) = some (0, 3020) := by
  rcases hc with rfl | rfl
  · exact s_63 h
  · exact s_67 h
theorem pC1 (h : St sh pt) {c : Int} (hc : isC c) : pt c 1 = c + 2 := by
  rcases hc with rfl | rfl
  · exact p_62_1 h
  · exact p_66_1 h
theorem sC1 (h : St sh pt) {c : Int} (hc : isC c) : qsh sh (c + 2) = some (0, 20) := by
  rcases hc with rfl | rfl
  · exact s_64 h
  · exact s_68 h
theorem pC2 (h : St sh pt) {c : Int} (hc : isC c) : pt c 2 = c + 3 := by
  rcases hc with rfl | rfl
  · exact p_62_2 h
  · exact p_66_2 h
theorem sC2 (h : St sh pt) {c : Int} (hc : isC c) : qsh sh (c + 3) = some (0, 20) := by
  rcases hc with rfl | rfl
  · exact s_65 h
  · exact s_69 h
abbrev isT (c : Int) : Prop := c = 44 ∨ c = 53
theorem sT (h : St sh pt) {c : Int} (hc : isT c) : qsh sh c = some (12, 12) := by
  rcases hc with rfl | rfl
  · exact s_44 h
  · exact s_53 h
theorem pT0 (h : St sh pt) {c : Int} (hc : isT c) : pt c 0 = c + 1 := by
  rcases hc with rfl | rfl
  · exact p_44_0 h
  · exact p_53_0 h
theorem sT0 (h : St sh pt) {c : Int} (hc : isT c) : qsh sh (c + 1) = some (0, 60) := by
  rcases hc with rfl | rfl
  · exact s_45 h
  · exact s_54 h
theorem pT1 (h : St sh pt) {c : Int} (hc : isT c) : pt c 1 = c + 2 := by
  rcases hc with rfl | rfl
  · exact p_44_1 h
  · exact p_53_1 h
theorem sT1 (h : St sh pt) {c : Int} (hc : isT c) : qsh sh (c + 2) = some (0, 60) := by
  rcases hc with rfl | rfl
  · exact s_46 h
  · exact s_55 h
theorem pT2 (h : St sh pt) {c : Int} (hc : isT c) : pt c 2 = c + 3 := by
  rcases hc with rfl | rfl
  · exact p_44_2 h
  · exact p_53_2 h
theorem sT2 (h : St sh pt) {c : Int} (hc : isT c) : qsh sh (c + 3) = some (0, 60) := by
  rcases hc with rfl | rfl
  · exact s_47 h
  · exact s_56 h
theorem pT3 (h : St sh pt) {c : Int} (hc : isT c) : pt c 3 = c + 4 := by
  rcases hc with rfl | rfl
  · exact p_44_3 h
  · exact p_53_3 h
theorem sT3 (h : St sh pt) {c : Int} (hc : isT c) : qsh sh (c + 4) = some (0, 60) := by
  rcases hc with rfl | rfl
  · exact s_48 h
  · exact s_57 h
theorem pT4 (h : St sh pt) {c : Int} (hc : isT c) : pt c 4 = c + 5 := by
  rcases hc with rfl | rfl
  · exact p_44_4 h
  · exact p_53_4 h
theorem sT4 (h : St sh pt) {c : Int} (hc : isT c) : qsh sh (c + 5) = some (0, 60) := by
  rcases hc with rfl | rfl
  · exact s_49 h
  · exact s_58 h
theorem pT5 (h : St sh pt) {c : Int} (hc : isT c) : pt c 5 = c + 6 := by
  rcases hc with rfl | rfl
  · exact p_44_5 h
  · exact p_53_5 h
theorem sT5 (h : St sh pt) {c : Int} (hc : isT c) : qsh sh (c + 6) = some (0, 60) := by
  rcases hc with rfl | rfl
  · exact s_50 h
  · exact s_59 h
theorem pT6 (h : St sh pt) {c : Int} (hc : isT c) : pt c 6 = c + 7 := by
  rcases hc with rfl | rfl
  · exact p_44_6 h
  · exact p_53_6 h
theorem sT6 (h : St sh pt) {c : Int} (hc : isT c) : qsh sh (c + 7) = some (0, 8) := by
  rcases hc with rfl | rfl
  · exact s_51 h
  · exact s_60 h
theorem pT7 (h : St sh pt) {c : Int} (hc : isT c) : pt c 7 = c + 8 := by
  rcases hc with rfl | rfl
  · exact p_44_7 h
  · exact p_53_7 h
theorem sT7 (h : St sh pt) {c : Int} (hc : isT c) : qsh sh (c + 8) = some (0, 8) := by
  rcases hc with rfl | rfl
  · exact s_52 h
  · exact s_61 h
abbrev isW (c : Int) : Prop := c = 70 ∨ c = 72 ∨ c = 74 ∨ c = 76
theorem sW (h : St sh pt) {c : Int} (hc : isW c) : qsh sh c = some (13, 4) := by
  rcases hc with rfl | rfl | rfl | rfl
  · exact s_70 h
  · exact s_72 h
  · exact s_74 h
  · exact s_76 h
theorem pW0 (h : St sh pt) {c : Int} (hc : isW c) : pt c 0 = c + 1 := by
  rcases hc with rfl | rfl | rfl | rfl
  · exact p_70_0 h
  · exact p_72_0 h
  · exact p_74_0 h
  · exact p_76_0 h
theorem sW0 (h : St sh pt) {c : Int} (hc : isW c) : qsh sh (c + 1) = some (1, 40) := by
  rcases hc with rfl | rfl | rfl | rfl
  · exact s_71 h
  · exact s_73 h
  · exact s_75 h
  · exact s_77 h
theorem isW_of {i : Int} (h0 : 0 ≤ i) (h1 : i < 4) : isW (70 + 2 * i) := by
  show 70 + 2 * i = 70 ∨ 70 + 2 * i = 72 ∨ 70 + 2 * i = 74 ∨ 70 + 2 * i = 76
  omega
theorem pW_at (h : St sh pt) {i : Int} (h0 : 0 ≤ i) (h1 : i < 4) : pt 1 i = 70 + 2 * i := by
  have e : i = 0 ∨ i = 1 ∨ i = 2 ∨ i = 3 := by omega
  rcases e with rfl | rfl | rfl | rfl
  · exact p_1_0 h
  · exact p_1_1 h
  · exact p_1_2 h
  · exact p_1_3 h
/-- the rows of PATH stand -/
def Sw (sh : qS) (pt : qM) : Prop := pt 28 3 = 136 ∧ qsh sh 136 = some (2, 19200) ∧ pt 28 4 = 137 ∧ qsh sh 137 = some (0, 19200) ∧ pt 28 1 = 138 ∧ qsh sh 138 = some (2, 19200)
theorem pw_3 (h : Sw sh pt) : pt 28 3 = 136 := h.1
theorem sw_136 (h : Sw sh pt) : qsh sh 136 = some (2, 19200) := h.2.1
theorem pw_4 (h : Sw sh pt) : pt 28 4 = 137 := h.2.2.1
theorem sw_137 (h : Sw sh pt) : qsh sh 137 = some (0, 19200) := h.2.2.2.1
theorem pw_1 (h : Sw sh pt) : pt 28 1 = 138 := h.2.2.2.2.1
theorem sw_138 (h : Sw sh pt) : qsh sh 138 = some (2, 19200) := h.2.2.2.2.2
end
