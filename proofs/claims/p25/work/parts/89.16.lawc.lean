/-! ===== printed by wip/gen/lawgen.py: the contracts that the law calls by ===== -/
def at_c101 : at_C := (101, [.inl (0, some 0), .inr (false, -2147483648, 2147483647), .inr (false, -2147483648, 2147483647), .inr (false, -2147483648, 2147483647)], [], some (.inr (false, -1, 15)), false, [(1, false, 5, 5), (18, false, 0, 18), (19, false, 2, 2), (20, false, 0, 0), (21, false, 0, 10), (25, false, 5, 16), (27, false, 6, 8), (28, false, 0, 29), (29, false, 0, 2), (30, false, 0, 23), (31, false, 0, 11), (32, false, 0, 47), (33, false, 0, 39), (34, false, 3, 6), (35, false, 0, 10), (36, false, 0, 3), (37, false, 2, 3), (38, false, 0, 71), (40, false, 2, 3), (41, false, 0, 95), (42, false, 0, 18), (43, false, 2, 2), (44, false, 0, 31), (45, false, 0, 10), (46, false, 2, 3), (47, false, 0, 15), (48, false, 0, 15), (73, false, 1, 2), (74, false, 0, 19)])
theorem at_c101_in : at_c101 ∈ at_CM ++ at_CA := List.mem_of_getElem? (i := 17) rfl
def at_c102 : at_C := (102, [.inl (0, some 0), .inr (false, -2147483648, 2147483647), .inr (false, -2147483648, 2147483647)], [], some (.inr (false, 0, 1)), false, [(18, false, 2, 4), (25, false, 5, 16), (27, false, 6, 8), (28, false, 0, 29), (29, false, 0, 2), (30, false, 0, 23), (31, false, 0, 11), (32, false, 0, 47), (33, false, 0, 39), (34, false, 3, 6), (35, false, 0, 10), (36, false, 0, 3), (37, false, 2, 3), (38, false, 0, 71), (40, false, 2, 3), (41, false, 0, 95), (42, false, 0, 18), (43, false, 2, 2), (44, false, 0, 31), (45, false, 0, 10), (46, false, 2, 3), (47, false, 0, 15), (48, false, 0, 15), (73, false, 1, 2), (74, false, 0, 19)])
theorem at_c102_in : at_c102 ∈ at_CM ++ at_CA := List.mem_of_getElem? (i := 18) rfl
def at_c103 : at_C := (103, [.inl (0, some 0), .inr (false, -2147483648, 2147483647), .inr (false, -2147483648, 2147483647)], [], some (.inr (false, 0, 1)), false, [(18, false, 6, 6), (25, false, 5, 16), (27, false, 6, 8), (28, false, 0, 29), (29, false, 0, 2), (30, false, 0, 23), (31, false, 0, 11), (32, false, 0, 47), (33, false, 0, 39), (34, false, 3, 6), (35, false, 0, 10), (36, false, 0, 3), (37, false, 2, 3), (38, false, 0, 71), (40, false, 2, 3), (41, false, 0, 95), (42, false, 0, 18), (43, false, 2, 2), (44, false, 0, 31), (45, false, 0, 10), (46, false, 2, 3), (47, false, 0, 15), (48, false, 0, 15), (73, false, 1, 2), (74, false, 0, 19)])
theorem at_c103_in : at_c103 ∈ at_CM ++ at_CA := List.mem_of_getElem? (i := 19) rfl
def at_c104 : at_C := (104, [.inl (0, some 0), .inr (false, -2147483648, 2147483647), .inr (false, -2147483648, 2147483647)], [], some (.inr (false, 0, 1)), false, [(4, false, 0, 29), (25, false, 5, 16), (27, false, 6, 8), (28, false, 0, 29), (29, false, 0, 2), (30, false, 0, 23), (31, false, 0, 11), (32, false, 0, 47), (33, false, 0, 39), (34, false, 3, 6), (35, false, 0, 10), (36, false, 0, 3), (37, false, 2, 3), (38, false, 0, 71), (40, false, 2, 3), (41, false, 0, 95), (42, false, 0, 18), (43, false, 2, 2), (44, false, 0, 31), (45, false, 0, 10), (46, false, 2, 3), (47, false, 0, 15), (48, false, 0, 15), (73, false, 1, 2), (74, false, 0, 19)])
theorem at_c104_in : at_c104 ∈ at_CM ++ at_CA := List.mem_of_getElem? (i := 20) rfl
def at_c105 : at_C := (105, [.inl (0, some 0), .inr (false, -2147483648, 2147483647)], [], some (.inr (false, -2147483648, 2147483647)), false, [(1, false, 6, 16), (4, false, 0, 29), (10, false, 3, 6), (11, false, 0, 10), (12, false, 0, 3), (13, false, 2, 3), (14, false, -69, 140), (16, false, 2, 3), (17, false, -93, 188), (18, false, 0, 0), (18, false, 2, 4), (18, false, 6, 18), (19, false, 2, 2), (20, false, 0, 31), (21, false, 0, 10), (25, false, 5, 16), (27, false, 6, 8), (28, false, 0, 29), (29, false, 0, 2), (30, false, 0, 23), (31, false, 0, 11), (32, false, 0, 47), (33, false, 0, 39), (34, false, 3, 6), (35, false, 0, 10), (36, false, 0, 3), (37, false, 2, 3), (38, false, 0, 71), (40, false, 2, 3), (41, false, 0, 95), (42, false, 0, 18), (43, false, 2, 2), (44, false, 0, 31), (45, false, 0, 10), (46, false, 2, 3), (47, false, 0, 15), (48, false, 0, 15), (73, false, 1, 2), (74, false, 0, 19)])
theorem at_c105_in : at_c105 ∈ at_CM ++ at_CA := List.mem_of_getElem? (i := 59) rfl
def at_c106 : at_C := (106, [.inl (0, some 0)], [], some (.inr (false, 0, 1)), false, [(1, false, 7, 7), (25, false, 5, 16), (27, false, 6, 8), (28, false, 0, 29), (29, false, 0, 2), (30, false, 0, 23), (31, false, 0, 11), (32, false, 0, 47), (33, false, 0, 39), (34, false, 3, 6), (35, false, 0, 10), (36, false, 0, 3), (37, false, 2, 3), (38, false, 0, 71), (40, false, 2, 3), (41, false, 0, 95), (42, false, 0, 18), (43, false, 2, 2), (44, false, 0, 31), (45, false, 0, 10), (46, false, 2, 3), (47, false, 0, 15), (48, false, 0, 15), (73, false, 1, 2), (74, false, 0, 19)])
theorem at_c106_in : at_c106 ∈ at_CM ++ at_CA := List.mem_of_getElem? (i := 60) rfl
def at_c107 : at_C := (107, [.inl (0, some 0)], [], some (.inr (false, 0, 1)), false, [(1, false, 7, 7), (1, false, 9, 9), (25, false, 5, 16), (27, false, 6, 8), (28, false, 0, 29), (29, false, 0, 2), (30, false, 0, 23), (31, false, 0, 11), (32, false, 0, 47), (33, false, 0, 39), (34, false, 3, 6), (35, false, 0, 10), (36, false, 0, 3), (37, false, 2, 3), (38, false, 0, 71), (40, false, 2, 3), (41, false, 0, 95), (42, false, 0, 18), (43, false, 2, 2), (44, false, 0, 31), (45, false, 0, 10), (46, false, 2, 3), (47, false, 0, 15), (48, false, 0, 15), (73, false, 1, 2), (74, false, 0, 19)])
theorem at_c107_in : at_c107 ∈ at_CM ++ at_CA := List.mem_of_getElem? (i := 61) rfl
def at_c108 : at_C := (108, [.inl (0, some 0), .inr (false, -2147483648, 2147483647)], [], some (.inr (false, 0, 1)), false, [(10, false, 3, 3), (25, false, 5, 16), (27, false, 6, 8), (28, false, 0, 29), (29, false, 0, 2), (30, false, 0, 23), (31, false, 0, 11), (32, false, 0, 47), (33, false, 0, 39), (34, false, 3, 6), (35, false, 0, 10), (36, false, 0, 3), (37, false, 2, 3), (38, false, 0, 71), (40, false, 2, 3), (41, false, 0, 95), (42, false, 0, 18), (43, false, 2, 2), (44, false, 0, 31), (45, false, 0, 10), (46, false, 2, 3), (47, false, 0, 15), (48, false, 0, 15), (73, false, 1, 2), (74, false, 0, 19)])
theorem at_c108_in : at_c108 ∈ at_CM ++ at_CA := List.mem_of_getElem? (i := 62) rfl
def at_c109 : at_C := (109, [.inl (0, some 0), .inr (false, -2147483648, 2147483647), .inr (false, -2147483648, 2147483647)], [], some (.inr (false, 0, 1)), false, [(5, false, 0, 2), (25, false, 5, 16), (27, false, 6, 8), (28, false, 0, 29), (29, false, 0, 2), (30, false, 0, 23), (31, false, 0, 11), (32, false, 0, 47), (33, false, 0, 39), (34, false, 3, 6), (35, false, 0, 10), (36, false, 0, 3), (37, false, 2, 3), (38, false, 0, 71), (40, false, 2, 3), (41, false, 0, 95), (42, false, 0, 18), (43, false, 2, 2), (44, false, 0, 31), (45, false, 0, 10), (46, false, 2, 3), (47, false, 0, 15), (48, false, 0, 15), (73, false, 1, 2), (74, false, 0, 19)])
theorem at_c109_in : at_c109 ∈ at_CM ++ at_CA := List.mem_of_getElem? (i := 63) rfl
def at_c110 : at_C := (110, [.inl (0, some 0), .inr (false, -2147483648, 2147483647), .inr (false, -2147483648, 2147483647)], [], some (.inr (false, -1, 6)), false, [(3, false, 6, 6), (7, false, 0, 11), (25, false, 5, 16), (27, false, 6, 8), (28, false, 0, 29), (29, false, 0, 2), (30, false, 0, 23), (31, false, 0, 11), (32, false, 0, 47), (33, false, 0, 39), (34, false, 3, 6), (35, false, 0, 10), (36, false, 0, 3), (37, false, 2, 3), (38, false, 0, 71), (40, false, 2, 3), (41, false, 0, 95), (42, false, 0, 18), (43, false, 2, 2), (44, false, 0, 31), (45, false, 0, 10), (46, false, 2, 3), (47, false, 0, 15), (48, false, 0, 15), (73, false, 1, 2), (74, false, 0, 19)])
theorem at_c110_in : at_c110 ∈ at_CM ++ at_CA := List.mem_of_getElem? (i := 64) rfl
def at_c111 : at_C := (111, [.inl (0, some 0)], [], some (.inr (false, -2147483648, 2147483647)), false, [(10, false, 4, 4), (25, false, 5, 16), (27, false, 6, 8), (28, false, 0, 29), (29, false, 0, 2), (30, false, 0, 23), (31, false, 0, 11), (32, false, 0, 47), (33, false, 0, 39), (34, false, 3, 6), (35, false, 0, 10), (36, false, 0, 3), (37, false, 2, 3), (38, false, 0, 71), (40, false, 2, 3), (41, false, 0, 95), (42, false, 0, 18), (43, false, 2, 2), (44, false, 0, 31), (45, false, 0, 10), (46, false, 2, 3), (47, false, 0, 15), (48, false, 0, 15), (73, false, 1, 2), (74, false, 0, 19)])
theorem at_c111_in : at_c111 ∈ at_CM ++ at_CA := List.mem_of_getElem? (i := 65) rfl
def at_c112 : at_C := (112, [.inl (0, some 0), .inr (false, -2147483648, 2147483647), .inr (false, -2147483648, 2147483647)], [], some (.inr (false, 0, 1)), false, [(6, false, 0, 23), (25, false, 5, 16), (27, false, 6, 8), (28, false, 0, 29), (29, false, 0, 2), (30, false, 0, 23), (31, false, 0, 11), (32, false, 0, 47), (33, false, 0, 39), (34, false, 3, 6), (35, false, 0, 10), (36, false, 0, 3), (37, false, 2, 3), (38, false, 0, 71), (40, false, 2, 3), (41, false, 0, 95), (42, false, 0, 18), (43, false, 2, 2), (44, false, 0, 31), (45, false, 0, 10), (46, false, 2, 3), (47, false, 0, 15), (48, false, 0, 15), (73, false, 1, 2), (74, false, 0, 19)])
theorem at_c112_in : at_c112 ∈ at_CM ++ at_CA := List.mem_of_getElem? (i := 66) rfl
def at_c113 : at_C := (113, [.inl (0, some 0), .inr (false, -2147483648, 2147483647)], [], some (.inr (false, 0, 1)), false, [(22, false, 2, 3), (23, false, 0, 15), (24, false, 0, 15), (25, false, 5, 16), (27, false, 6, 8), (28, false, 0, 29), (29, false, 0, 2), (30, false, 0, 23), (31, false, 0, 11), (32, false, 0, 47), (33, false, 0, 39), (34, false, 3, 6), (35, false, 0, 10), (36, false, 0, 3), (37, false, 2, 3), (38, false, 0, 71), (40, false, 2, 3), (41, false, 0, 95), (42, false, 0, 18), (43, false, 2, 2), (44, false, 0, 31), (45, false, 0, 10), (46, false, 2, 3), (47, false, 0, 15), (48, false, 0, 15), (73, false, 1, 2), (74, false, 0, 19)])
theorem at_c113_in : at_c113 ∈ at_CM ++ at_CA := List.mem_of_getElem? (i := 68) rfl
def at_c114 : at_C := (114, [.inl (0, some 0), .inr (false, -2147483648, 2147483647), .inr (false, -2147483648, 2147483647)], [], some (.inr (false, -1, 24)), false, [(3, false, 7, 7), (8, false, 0, 47), (25, false, 5, 16), (27, false, 6, 8), (28, false, 0, 29), (29, false, 0, 2), (30, false, 0, 23), (31, false, 0, 11), (32, false, 0, 47), (33, false, 0, 39), (34, false, 3, 6), (35, false, 0, 10), (36, false, 0, 3), (37, false, 2, 3), (38, false, 0, 71), (40, false, 2, 3), (41, false, 0, 95), (42, false, 0, 18), (43, false, 2, 2), (44, false, 0, 31), (45, false, 0, 10), (46, false, 2, 3), (47, false, 0, 15), (48, false, 0, 15), (73, false, 1, 2), (74, false, 0, 19)])
theorem at_c114_in : at_c114 ∈ at_CM ++ at_CA := List.mem_of_getElem? (i := 69) rfl
def at_c115 : at_C := (115, [.inl (0, some 0), .inr (false, -2147483648, 2147483647), .inr (false, 0, 1), .inr (false, -2147483648, 2147483647), .inr (false, -2147483648, 2147483647), .inr (false, -2147483648, 2147483647)], [], some (.inr (false, -1, 8)), false, [(3, false, 8, 8), (9, false, 0, 39), (25, false, 5, 16), (27, false, 6, 8), (28, false, 0, 29), (29, false, 0, 2), (30, false, 0, 23), (31, false, 0, 11), (32, false, 0, 47), (33, false, 0, 39), (34, false, 3, 6), (35, false, 0, 10), (36, false, 0, 3), (37, false, 2, 3), (38, false, 0, 71), (40, false, 2, 3), (41, false, 0, 95), (42, false, 0, 18), (43, false, 2, 2), (44, false, 0, 31), (45, false, 0, 10), (46, false, 2, 3), (47, false, 0, 15), (48, false, 0, 15), (73, false, 1, 2), (74, false, 0, 19)])
theorem at_c115_in : at_c115 ∈ at_CM ++ at_CA := List.mem_of_getElem? (i := 70) rfl
def at_c116 : at_C := (116, [.inl (0, some 0)], [], some (.inr (false, 0, 8)), false, [(3, false, 8, 8), (25, false, 5, 16), (27, false, 6, 8), (28, false, 0, 29), (29, false, 0, 2), (30, false, 0, 23), (31, false, 0, 11), (32, false, 0, 47), (33, false, 0, 39), (34, false, 3, 6), (35, false, 0, 10), (36, false, 0, 3), (37, false, 2, 3), (38, false, 0, 71), (40, false, 2, 3), (41, false, 0, 95), (42, false, 0, 18), (43, false, 2, 2), (44, false, 0, 31), (45, false, 0, 10), (46, false, 2, 3), (47, false, 0, 15), (48, false, 0, 15), (73, false, 1, 2), (74, false, 0, 19)])
theorem at_c116_in : at_c116 ∈ at_CM ++ at_CA := List.mem_of_getElem? (i := 71) rfl
def at_c117 : at_C := (117, [.inl (0, some 0)], [], some (.inr (false, 0, 24)), false, [(3, false, 7, 7), (25, false, 5, 16), (27, false, 6, 8), (28, false, 0, 29), (29, false, 0, 2), (30, false, 0, 23), (31, false, 0, 11), (32, false, 0, 47), (33, false, 0, 39), (34, false, 3, 6), (35, false, 0, 10), (36, false, 0, 3), (37, false, 2, 3), (38, false, 0, 71), (40, false, 2, 3), (41, false, 0, 95), (42, false, 0, 18), (43, false, 2, 2), (44, false, 0, 31), (45, false, 0, 10), (46, false, 2, 3), (47, false, 0, 15), (48, false, 0, 15), (73, false, 1, 2), (74, false, 0, 19)])
theorem at_c117_in : at_c117 ∈ at_CM ++ at_CA := List.mem_of_getElem? (i := 72) rfl
def at_c118 : at_C := (118, [.inl (0, some 0)], [], some (.inr (false, -2147483648, 2147483647)), false, [(1, false, 6, 16), (4, false, 0, 29), (10, false, 3, 6), (11, false, 0, 10), (12, false, 0, 3), (13, false, 2, 3), (14, false, -69, 140), (16, false, 2, 3), (17, false, -93, 188), (18, false, 0, 0), (18, false, 2, 4), (18, false, 6, 18), (19, false, 2, 2), (20, false, 0, 31), (21, false, 0, 10), (25, false, 5, 16), (27, false, 6, 8), (28, false, 0, 29), (29, false, 0, 2), (30, false, 0, 23), (31, false, 0, 11), (32, false, 0, 47), (33, false, 0, 39), (34, false, 3, 6), (35, false, 0, 10), (36, false, 0, 3), (37, false, 2, 3), (38, false, 0, 71), (40, false, 2, 3), (41, false, 0, 95), (42, false, 0, 18), (43, false, 2, 2), (44, false, 0, 31), (45, false, 0, 10), (46, false, 2, 3), (47, false, 0, 15), (48, false, 0, 15), (73, false, 1, 2), (74, false, 0, 19)])
theorem at_c118_in : at_c118 ∈ at_CM ++ at_CA := List.mem_of_getElem? (i := 75) rfl
def at_c119 : at_C := (119, [.inl (0, some 0)], [], some (.inr (false, -1, 19)), false, [(1, false, 5, 16), (3, false, 6, 8), (4, false, 0, 29), (5, false, 0, 2), (6, false, 0, 23), (7, false, 0, 11), (8, false, 0, 47), (9, false, 0, 39), (10, false, 3, 6), (11, false, 0, 10), (12, false, 0, 3), (13, false, 2, 3), (14, false, 0, 71), (16, false, 2, 3), (17, false, 0, 95), (18, false, 0, 18), (19, false, 2, 2), (20, false, 0, 31), (21, false, 0, 10), (22, false, 2, 3), (23, false, 0, 15), (24, false, 0, 15), (73, false, 2, 2), (74, false, 0, 19)])
theorem at_c119_in : at_c119 ∈ at_CM ++ at_CA := List.mem_of_getElem? (i := 77) rfl
def at_c120 : at_C := (120, [.inl (0, some 0)], [], some (.inr (false, -2147483648, 2147483647)), false, [(25, false, 5, 16), (27, false, 6, 8), (28, false, 0, 29), (29, false, 0, 2), (30, false, 0, 23), (31, false, 0, 11), (32, false, 0, 47), (33, false, 0, 39), (34, false, 3, 6), (35, false, 0, 10), (36, false, 0, 3), (37, false, 2, 3), (38, false, 0, 71), (40, false, 2, 3), (41, false, 0, 95), (42, false, 0, 18), (43, false, 2, 2), (44, false, 0, 31), (45, false, 0, 10), (46, false, 2, 3), (47, false, 0, 15), (48, false, 0, 15), (73, false, 1, 2), (74, false, 0, 19)])
theorem at_c120_in : at_c120 ∈ at_CM ++ at_CA := List.mem_of_getElem? (i := 80) rfl
def at_c121 : at_C := (121, [.inl (0, some 0)], [], some (.inr (false, -2147483648, 2147483647)), false, [(1, false, 5, 16), (3, false, 6, 8), (4, false, 0, 29), (5, false, 0, 2), (6, false, 0, 23), (7, false, 0, 11), (8, false, 0, 47), (9, false, 0, 39), (10, false, 3, 6), (11, false, 0, 10), (12, false, 0, 3), (13, false, 2, 3), (14, false, 0, 71), (16, false, 2, 3), (17, false, 0, 95), (18, false, 0, 18), (19, false, 2, 2), (20, false, 0, 31), (21, false, 0, 10), (22, false, 2, 3), (23, false, 0, 15), (24, false, 0, 15), (25, false, 5, 16), (27, false, 6, 8), (28, false, 0, 29), (29, false, 0, 2), (30, false, 0, 23), (31, false, 0, 11), (32, false, 0, 47), (33, false, 0, 39), (34, false, 3, 6), (35, false, 0, 10), (36, false, 0, 3), (37, false, 2, 3), (38, false, 0, 71), (40, false, 2, 3), (41, false, 0, 95), (42, false, 0, 18), (43, false, 2, 2), (44, false, 0, 31), (45, false, 0, 10), (46, false, 2, 3), (47, false, 0, 15), (48, false, 0, 15), (73, false, 1, 2), (74, false, 0, 19)])
theorem at_c121_in : at_c121 ∈ at_CM ++ at_CA := List.mem_of_getElem? (i := 81) rfl
def at_c122 : at_C := (122, [.inl (0, some 0), .inr (false, -2147483648, 2147483647)], [], some (.inr (false, -2147483648, 2147483647)), false, [])
theorem at_c122_in : at_c122 ∈ at_CM ++ at_CA := List.mem_of_getElem? (i := 82) rfl
def at_c123 : at_C := (123, [.inl (0, some 0), .inr (false, -2147483648, 2147483647)], [], some (.inr (false, -2147483648, 2147483647)), false, [])
theorem at_c123_in : at_c123 ∈ at_CM ++ at_CA := List.mem_of_getElem? (i := 83) rfl
def at_c124 : at_C := (124, [.inl (0, some 0), .inr (false, -2147483648, 2147483647), .inr (false, -2147483648, 2147483647)], [], some (.inr (false, -2147483648, 2147483647)), false, [])
theorem at_c124_in : at_c124 ∈ at_CM ++ at_CA := List.mem_of_getElem? (i := 84) rfl
def at_c125 : at_C := (125, [.inl (0, some 0), .inr (false, -2147483648, 2147483647), .inr (false, -2147483648, 2147483647)], [], some (.inr (false, -2147483648, 2147483647)), false, [])
theorem at_c125_in : at_c125 ∈ at_CM ++ at_CA := List.mem_of_getElem? (i := 85) rfl
def at_c127 : at_C := (127, [.inl (0, some 0), .inr (false, -2147483648, 2147483647), .inr (false, -2147483648, 2147483647)], [], some (.inr (false, -2147483648, 2147483647)), false, [])
theorem at_c127_in : at_c127 ∈ at_CM ++ at_CA := List.mem_of_getElem? (i := 88) rfl
def at_c128 : at_C := (128, [.inl (0, some 0), .inr (false, -2147483648, 2147483647), .inr (false, -2147483648, 2147483647)], [], some (.inr (false, -2147483648, 2147483647)), false, [])
theorem at_c128_in : at_c128 ∈ at_CM ++ at_CA := List.mem_of_getElem? (i := 89) rfl
def at_c129 : at_C := (129, [.inl (0, some 0), .inr (false, -2147483648, 2147483647), .inr (false, -2147483648, 2147483647)], [], some (.inr (false, -1, 9999000)), false, [])
theorem at_c129_in : at_c129 ∈ at_CM ++ at_CA := List.mem_of_getElem? (i := 90) rfl
def at_c130 : at_C := (130, [.inl (0, some 0), .inr (false, -2147483648, 2147483647)], [], some (.inr (false, -2147483648, 2147483647)), false, [])
theorem at_c130_in : at_c130 ∈ at_CM ++ at_CA := List.mem_of_getElem? (i := 91) rfl
def at_c131 : at_C := (131, [.inl (0, some 0)], [], some (.inr (false, -2147483648, 2147483647)), false, [])
theorem at_c131_in : at_c131 ∈ at_CM ++ at_CA := List.mem_of_getElem? (i := 93) rfl
def at_c132 : at_C := (132, [.inl (0, some 0), .inr (false, -2147483648, 2147483647)], [], some (.inr (false, -2147483648, 2147483647)), false, [])
theorem at_c132_in : at_c132 ∈ at_CM ++ at_CA := List.mem_of_getElem? (i := 94) rfl
def at_c133 : at_C := (133, [.inl (0, some 0), .inr (false, -2147483648, 2147483647), .inr (false, -2147483648, 2147483647)], [], some (.inr (false, -2147483648, 2147483647)), false, [])
theorem at_c133_in : at_c133 ∈ at_CM ++ at_CA := List.mem_of_getElem? (i := 95) rfl
def at_c134 : at_C := (134, [.inl (0, some 0), .inr (false, -2147483648, 2147483647)], [], some (.inr (false, -2147483648, 2147483647)), false, [])
theorem at_c134_in : at_c134 ∈ at_CM ++ at_CA := List.mem_of_getElem? (i := 96) rfl
def at_c135 : at_C := (135, [.inl (0, some 0), .inr (false, -2147483648, 2147483647), .inr (false, -2147483648, 2147483647), .inr (false, -2147483648, 2147483647)], [], some (.inr (false, -2147483648, 2147483647)), false, [])
theorem at_c135_in : at_c135 ∈ at_CM ++ at_CA := List.mem_of_getElem? (i := 97) rfl
def at_c136 : at_C := (136, [.inl (0, some 0), .inr (false, -2147483648, 2147483647)], [], some (.inr (false, -1, 15)), false, [])
theorem at_c136_in : at_c136 ∈ at_CM ++ at_CA := List.mem_of_getElem? (i := 100) rfl
def at_c137 : at_C := (137, [.inl (0, some 0)], [], some (.inr (false, -1, 9999000)), false, [])
theorem at_c137_in : at_c137 ∈ at_CM ++ at_CA := List.mem_of_getElem? (i := 101) rfl
def at_c138 : at_C := (138, [.inl (0, some 0)], [], some (.inr (false, -2147483648, 2147483647)), false, [])
theorem at_c138_in : at_c138 ∈ at_CM ++ at_CA := List.mem_of_getElem? (i := 102) rfl
def at_c139 : at_C := (139, [.inl (0, some 0)], [], some (.inr (false, -2147483648, 2147483647)), false, [])
theorem at_c139_in : at_c139 ∈ at_CM ++ at_CA := List.mem_of_getElem? (i := 105) rfl
def at_c140 : at_C := (140, [.inl (0, some 0), .inr (false, -2147483648, 2147483647)], [], some (.inr (false, -2147483648, 2147483647)), false, [])
theorem at_c140_in : at_c140 ∈ at_CM ++ at_CA := List.mem_of_getElem? (i := 106) rfl
def at_c141 : at_C := (141, [.inl (0, some 0), .inr (false, -2147483648, 2147483647)], [], some (.inr (false, -2147483648, 2147483647)), false, [])
theorem at_c141_in : at_c141 ∈ at_CM ++ at_CA := List.mem_of_getElem? (i := 108) rfl
def at_c142 : at_C := (142, [.inl (0, some 0), .inr (false, -2147483648, 2147483647), .inr (false, -2147483648, 2147483647), .inr (false, -2147483648, 2147483647)], [], some (.inr (false, -2147483648, 2147483647)), false, [(75, false, 0, 324)])
theorem at_c142_in : at_c142 ∈ at_CM ++ at_CA := List.mem_of_getElem? (i := 111) rfl
def at_c143 : at_C := (143, [.inl (0, some 0), .inr (false, -2147483648, 2147483647), .inr (false, -2147483648, 2147483647)], [], some (.inr (false, -277776, 277776)), false, [])
theorem at_c143_in : at_c143 ∈ at_CM ++ at_CA := List.mem_of_getElem? (i := 112) rfl
def at_c144 : at_C := (144, [.inl (0, some 0)], [], some (.inr (false, -2147483648, 2147483647)), false, [])
theorem at_c144_in : at_c144 ∈ at_CM ++ at_CA := List.mem_of_getElem? (i := 113) rfl
def at_c145 : at_C := (145, [.inl (0, some 0), .inr (false, -2147483648, 2147483647)], [], some (.inr (false, -2147483648, 2147483647)), false, [])
theorem at_c145_in : at_c145 ∈ at_CM ++ at_CA := List.mem_of_getElem? (i := 114) rfl
def at_c146 : at_C := (146, [.inl (0, some 0), .inr (false, -2147483648, 2147483647)], [], some (.inr (false, -4158, 8358)), false, [])
theorem at_c146_in : at_c146 ∈ at_CM ++ at_CA := List.mem_of_getElem? (i := 115) rfl
def at_c147 : at_C := (147, [.inl (0, some 0), .inr (false, -2147483648, 2147483647)], [], some (.inr (false, 0, 1000)), false, [])
theorem at_c147_in : at_c147 ∈ at_CM ++ at_CA := List.mem_of_getElem? (i := 116) rfl
def at_c148 : at_C := (148, [.inl (0, some 0), .inr (false, -2147483648, 2147483647)], [], some (.inr (false, -2147483648, 2147483647)), false, [])
theorem at_c148_in : at_c148 ∈ at_CM ++ at_CA := List.mem_of_getElem? (i := 117) rfl
def at_c149 : at_C := (149, [.inl (0, some 0), .inr (false, -2147483648, 2147483647)], [], some (.inr (false, -1, 15)), false, [])
theorem at_c149_in : at_c149 ∈ at_CM ++ at_CA := List.mem_of_getElem? (i := 118) rfl
def at_c150 : at_C := (150, [.inl (0, some 0)], [], some (.inr (false, -1000, 9999000)), false, [])
theorem at_c150_in : at_c150 ∈ at_CM ++ at_CA := List.mem_of_getElem? (i := 119) rfl
def at_c151 : at_C := (151, [.inl (0, some 0), .inr (false, -2147483648, 2147483647)], [], some (.inr (false, 0, 1)), false, [])
theorem at_c151_in : at_c151 ∈ at_CM ++ at_CA := List.mem_of_getElem? (i := 120) rfl
def at_c152 : at_C := (152, [.inl (0, some 0), .inr (false, -2147483648, 2147483647)], [], some (.inr (false, -2147483648, 2147483647)), false, [])
theorem at_c152_in : at_c152 ∈ at_CM ++ at_CA := List.mem_of_getElem? (i := 121) rfl
def at_c153 : at_C := (153, [.inl (0, some 0), .inr (false, -2147483648, 2147483647), .inr (false, -2147483648, 2147483647)], [], some (.inr (false, -2147483648, 2147483647)), false, [])
theorem at_c153_in : at_c153 ∈ at_CM ++ at_CA := List.mem_of_getElem? (i := 122) rfl
def at_c154 : at_C := (154, [.inl (0, some 0), .inr (false, -2147483648, 2147483647), .inr (false, -2147483648, 2147483647)], [], some (.inr (false, -2147483648, 2147483647)), false, [])
theorem at_c154_in : at_c154 ∈ at_CM ++ at_CA := List.mem_of_getElem? (i := 123) rfl
def at_c155 : at_C := (155, [.inl (0, some 0), .inr (false, -2147483648, 2147483647)], [], some (.inr (false, -1000000000, 2147483647)), false, [])
theorem at_c155_in : at_c155 ∈ at_CM ++ at_CA := List.mem_of_getElem? (i := 124) rfl
def at_c156 : at_C := (156, [.inl (0, some 0)], [], some (.inr (true, -9223372036854775808, 9223372036854775807)), false, [])
theorem at_c156_in : at_c156 ∈ at_CM ++ at_CA := List.mem_of_getElem? (i := 1) rfl
def at_c157 : at_C := (157, [.inl (0, some 0)], [], some (.inr (false, -2147483648, 2147483647)), false, [])
theorem at_c157_in : at_c157 ∈ at_CM ++ at_CA := List.mem_of_getElem? (i := 2) rfl
def at_c158 : at_C := (158, [.inl (0, some 0)], [], some (.inr (false, 0, 20)), false, [])
theorem at_c158_in : at_c158 ∈ at_CM ++ at_CA := List.mem_of_getElem? (i := 125) rfl
def at_c159 : at_C := (159, [.inl (0, some 0), .inr (false, -2147483648, 2147483647), .inr (false, -2147483648, 2147483647)], [], some (.inr (false, -2147483648, 2147483647)), false, [(49, false, 5, 16), (51, false, 6, 8), (52, false, 0, 29), (53, false, 0, 2), (54, false, 0, 23), (55, false, 0, 11), (56, false, 0, 47), (57, false, 0, 39), (58, false, 3, 6), (59, false, 0, 10), (60, false, 0, 3), (61, false, 2, 3), (62, false, -69, 140), (64, false, 2, 3), (65, false, -93, 188), (66, false, 0, 18), (67, false, 2, 2), (68, false, 0, 31), (69, false, 0, 10), (70, false, 2, 3), (71, false, 0, 15), (72, false, 0, 15)])
theorem at_c159_in : at_c159 ∈ at_CM ++ at_CA := List.mem_of_getElem? (i := 165) rfl
def at_c160 : at_C := (160, [.inl (0, some 0), .inr (false, -2147483648, 2147483647), .inr (false, -2147483648, 2147483647), .inr (false, -2147483648, 2147483647)], [], some (.inr (false, -2147483648, 2147483647)), false, [(49, false, 5, 16), (51, false, 6, 8), (52, false, 0, 29), (53, false, 0, 2), (54, false, 0, 23), (55, false, 0, 11), (56, false, 0, 47), (57, false, 0, 39), (58, false, 3, 6), (59, false, 0, 10), (60, false, 0, 3), (61, false, 2, 3), (62, false, -69, 140), (64, false, 2, 3), (65, false, -93, 188), (66, false, 0, 18), (67, false, 2, 2), (68, false, 0, 31), (69, false, 0, 10), (70, false, 2, 3), (71, false, 0, 15), (72, false, 0, 15)])
theorem at_c160_in : at_c160 ∈ at_CM ++ at_CA := List.mem_of_getElem? (i := 166) rfl
def at_c161 : at_C := (161, [.inl (0, some 0), .inr (false, -2147483648, 2147483647)], [], some (.inr (false, -2147483648, 2147483647)), false, [(49, false, 5, 16), (51, false, 6, 8), (52, false, 0, 29), (53, false, 0, 2), (54, false, 0, 23), (55, false, 0, 11), (56, false, 0, 47), (57, false, 0, 39), (58, false, 3, 6), (59, false, 0, 10), (60, false, 0, 3), (61, false, 2, 3), (62, false, -69, 140), (64, false, 2, 3), (65, false, -93, 188), (66, false, 0, 18), (67, false, 2, 2), (68, false, 0, 31), (69, false, 0, 10), (70, false, 2, 3), (71, false, 0, 15), (72, false, 0, 15)])
theorem at_c161_in : at_c161 ∈ at_CM ++ at_CA := List.mem_of_getElem? (i := 168) rfl
def at_c162 : at_C := (162, [.inl (0, some 0)], [], some (.inr (false, -1, 2000)), false, [(49, false, 5, 16), (51, false, 6, 8), (52, false, 0, 29), (53, false, 0, 2), (54, false, 0, 23), (55, false, 0, 11), (56, false, 0, 47), (57, false, 0, 39), (58, false, 3, 6), (59, false, 0, 10), (60, false, 0, 3), (61, false, 2, 3), (62, false, -69, 140), (64, false, 2, 3), (65, false, -93, 188), (66, false, 0, 18), (67, false, 2, 2), (68, false, 0, 31), (69, false, 0, 10), (70, false, 2, 3), (71, false, 0, 15), (72, false, 0, 15)])
theorem at_c162_in : at_c162 ∈ at_CM ++ at_CA := List.mem_of_getElem? (i := 169) rfl
def at_c163 : at_C := (163, [.inl (0, some 0), .inr (false, -2147483648, 2147483647)], [], some (.inr (false, -2147483648, 2147483647)), false, [(49, false, 5, 16), (51, false, 6, 8), (52, false, 0, 29), (53, false, 0, 2), (54, false, 0, 23), (55, false, 0, 11), (56, false, 0, 47), (57, false, 0, 39), (58, false, 3, 6), (59, false, 0, 10), (60, false, 0, 3), (61, false, 2, 3), (62, false, -69, 140), (64, false, 2, 3), (65, false, -93, 188), (66, false, 0, 18), (67, false, 2, 2), (68, false, 0, 31), (69, false, 0, 10), (70, false, 2, 3), (71, false, 0, 15), (72, false, 0, 15)])
theorem at_c163_in : at_c163 ∈ at_CM ++ at_CA := List.mem_of_getElem? (i := 170) rfl
def at_c164 : at_C := (164, [.inl (0, some 0), .inr (false, -2147483648, 2147483647), .inr (false, -2147483648, 2147483647)], [], some (.inr (false, -2147483600, 2147483600)), false, [(49, false, 5, 16), (51, false, 6, 8), (52, false, 0, 29), (53, false, 0, 2), (54, false, 0, 23), (55, false, 0, 11), (56, false, 0, 47), (57, false, 0, 39), (58, false, 3, 6), (59, false, 0, 10), (60, false, 0, 3), (61, false, 2, 3), (62, false, -69, 140), (64, false, 2, 3), (65, false, -93, 188), (66, false, 0, 18), (67, false, 2, 2), (68, false, 0, 31), (69, false, 0, 10), (70, false, 2, 3), (71, false, 0, 15), (72, false, 0, 15)])
theorem at_c164_in : at_c164 ∈ at_CM ++ at_CA := List.mem_of_getElem? (i := 172) rfl
def at_c165 : at_C := (165, [.inl (0, some 0), .inr (false, -2147483648, 2147483647), .inr (false, -2147483648, 2147483647)], [], some (.inr (false, -1, 99)), false, [(49, false, 5, 16), (51, false, 6, 8), (52, false, 0, 29), (53, false, 0, 2), (54, false, 0, 23), (55, false, 0, 11), (56, false, 0, 47), (57, false, 0, 39), (58, false, 3, 6), (59, false, 0, 10), (60, false, 0, 3), (61, false, 2, 3), (62, false, -69, 140), (64, false, 2, 3), (65, false, -93, 188), (66, false, 0, 18), (67, false, 2, 2), (68, false, 0, 31), (69, false, 0, 10), (70, false, 2, 3), (71, false, 0, 15), (72, false, 0, 15)])
theorem at_c165_in : at_c165 ∈ at_CM ++ at_CA := List.mem_of_getElem? (i := 174) rfl
def at_c166 : at_C := (166, [.inl (0, some 0), .inr (false, -2147483648, 2147483647)], [], some (.inr (false, -1, 2000)), false, [(49, false, 5, 16), (51, false, 6, 8), (52, false, 0, 29), (53, false, 0, 2), (54, false, 0, 23), (55, false, 0, 11), (56, false, 0, 47), (57, false, 0, 39), (58, false, 3, 6), (59, false, 0, 10), (60, false, 0, 3), (61, false, 2, 3), (62, false, -69, 140), (64, false, 2, 3), (65, false, -93, 188), (66, false, 0, 18), (67, false, 2, 2), (68, false, 0, 31), (69, false, 0, 10), (70, false, 2, 3), (71, false, 0, 15), (72, false, 0, 15)])
theorem at_c166_in : at_c166 ∈ at_CM ++ at_CA := List.mem_of_getElem? (i := 175) rfl
def at_c167 : at_C := (167, [.inl (0, some 0), .inr (false, -2147483648, 2147483647)], [], some (.inr (false, -1, 2000)), false, [(49, false, 5, 16), (51, false, 6, 8), (52, false, 0, 29), (53, false, 0, 2), (54, false, 0, 23), (55, false, 0, 11), (56, false, 0, 47), (57, false, 0, 39), (58, false, 3, 6), (59, false, 0, 10), (60, false, 0, 3), (61, false, 2, 3), (62, false, -69, 140), (64, false, 2, 3), (65, false, -93, 188), (66, false, 0, 18), (67, false, 2, 2), (68, false, 0, 31), (69, false, 0, 10), (70, false, 2, 3), (71, false, 0, 15), (72, false, 0, 15)])
theorem at_c167_in : at_c167 ∈ at_CM ++ at_CA := List.mem_of_getElem? (i := 177) rfl
def at_c168 : at_C := (168, [.inl (0, some 0), .inr (false, -2147483648, 2147483647)], [], some (.inr (false, -1, 2)), false, [(49, false, 5, 16), (51, false, 6, 8), (52, false, 0, 29), (53, false, 0, 2), (54, false, 0, 23), (55, false, 0, 11), (56, false, 0, 47), (57, false, 0, 39), (58, false, 3, 6), (59, false, 0, 10), (60, false, 0, 3), (61, false, 2, 3), (62, false, -69, 140), (64, false, 2, 3), (65, false, -93, 188), (66, false, 0, 18), (67, false, 2, 2), (68, false, 0, 31), (69, false, 0, 10), (70, false, 2, 3), (71, false, 0, 15), (72, false, 0, 15)])
theorem at_c168_in : at_c168 ∈ at_CM ++ at_CA := List.mem_of_getElem? (i := 178) rfl
def at_c242 : at_C := (242, [.inl (76, some 277)], [], some (.inr (false, -1, 19)), false, [(79, false, 0, 0), (79, false, 2, 1419)])
theorem at_c242_in : at_c242 ∈ at_CM ++ at_CA := List.mem_of_getElem? (i := 3) rfl
def at_c243 : at_C := (243, [.inl (76, some 277), .inr (false, -2147483648, 2147483647), .inr (false, -2147483648, 2147483647), .inr (false, -2147483648, 2147483647)], [], some (.inr (false, -1, 15)), false, [(79, false, 0, 2), (79, false, 1420, 29779), (79, true, 0, 60)])
theorem at_c243_in : at_c243 ∈ at_CM ++ at_CA := List.mem_of_getElem? (i := 180) rfl
def at_c244 : at_C := (244, [.inl (76, some 277), .inr (false, -2147483648, 2147483647), .inr (false, -2147483648, 2147483647)], [], some (.inr (false, 0, 1)), false, [(79, false, 0, 1), (79, false, 1420, 29779), (79, true, 1, 1)])
theorem at_c244_in : at_c244 ∈ at_CM ++ at_CA := List.mem_of_getElem? (i := 181) rfl
def at_c245 : at_C := (245, [.inl (76, some 277), .inr (false, -2147483648, 2147483647), .inr (false, -2147483648, 2147483647)], [], some (.inr (false, 0, 1)), false, [(79, false, 0, 1), (79, false, 1420, 29779), (79, true, 3, 3)])
theorem at_c245_in : at_c245 ∈ at_CM ++ at_CA := List.mem_of_getElem? (i := 182) rfl
def at_c247 : at_C := (247, [.inl (76, some 277), .inr (false, -2147483648, 2147483647), .inr (false, -2147483648, 2147483647)], [], some (.inr (false, 0, 1)), false, [(79, false, 0, 1), (79, false, 34, 63), (79, false, 1420, 29779)])
theorem at_c247_in : at_c247 ∈ at_CM ++ at_CA := List.mem_of_getElem? (i := 183) rfl
def at_c250 : at_C := (250, [.inl (76, some 277), .inr (false, -2147483648, 2147483647)], [], some (.inr (false, -2147483648, 2147483647)), false, [(76, false, 4, 4), (76, false, 6, 6), (79, false, 0, 1), (79, false, 3, 16), (79, false, 20, 63), (79, false, 167, 314), (79, false, 444, 29779), (79, true, 1, 1), (79, true, 3, 4), (79, true, 7, 8), (79, true, 10, 60), (81, false, 0, 15)])
theorem at_c250_in : at_c250 ∈ at_CM ++ at_CA := List.mem_of_getElem? (i := 215) rfl
def at_c251 : at_C := (251, [.inl (76, some 277)], [], some (.inr (false, 0, 1)), false, [(79, false, 0, 1), (79, false, 3, 3), (79, false, 1420, 29779)])
theorem at_c251_in : at_c251 ∈ at_CM ++ at_CA := List.mem_of_getElem? (i := 216) rfl
def at_c252 : at_C := (252, [.inl (76, some 277)], [], some (.inr (false, 0, 1)), false, [(79, false, 0, 1), (79, false, 3, 3), (79, false, 5, 5), (79, false, 1420, 29779)])
theorem at_c252_in : at_c252 ∈ at_CM ++ at_CA := List.mem_of_getElem? (i := 217) rfl
def at_c253 : at_C := (253, [.inl (76, some 277), .inr (false, -2147483648, 2147483647)], [], some (.inr (false, 0, 1)), false, [])
theorem at_c253_in : at_c253 ∈ at_CM ++ at_CA := List.mem_of_getElem? (i := 218) rfl
def at_c254 : at_C := (254, [.inl (76, some 277), .inr (false, -2147483648, 2147483647)], [], some (.inr (false, 0, 1)), false, [(79, false, 0, 1), (79, false, 6, 6), (79, false, 1420, 29779)])
theorem at_c254_in : at_c254 ∈ at_CM ++ at_CA := List.mem_of_getElem? (i := 219) rfl
def at_c255 : at_C := (255, [.inl (76, some 277)], [], some (.inr (false, -2147483648, 2147483647)), false, [(79, false, 0, 1), (79, false, 22, 22), (79, false, 1420, 29779)])
theorem at_c255_in : at_c255 ∈ at_CM ++ at_CA := List.mem_of_getElem? (i := 220) rfl
def at_c256 : at_C := (256, [.inl (76, some 277), .inr (false, -2147483648, 2147483647), .inr (false, -2147483648, 2147483647)], [], some (.inr (false, 0, 1)), false, [(79, false, 0, 1), (79, false, 315, 338), (79, false, 1420, 29779)])
theorem at_c256_in : at_c256 ∈ at_CM ++ at_CA := List.mem_of_getElem? (i := 221) rfl
def at_c257 : at_C := (257, [.inl (76, some 277), .inr (false, -2147483648, 2147483647)], [], some (.inr (false, 0, 1)), false, [(79, false, 0, 1), (79, false, 339, 443), (79, false, 1420, 29779)])
theorem at_c257_in : at_c257 ∈ at_CM ++ at_CA := List.mem_of_getElem? (i := 222) rfl
def at_c258 : at_C := (258, [.inl (76, some 277), .inr (false, -2147483648, 2147483647), .inr (false, -2147483648, 2147483647)], [], some (.inr (false, 0, 1)), false, [(79, false, 0, 1), (79, false, 64, 66), (79, false, 1420, 29779)])
theorem at_c258_in : at_c258 ∈ at_CM ++ at_CA := List.mem_of_getElem? (i := 223) rfl
def at_c259 : at_C := (259, [.inl (76, some 277), .inr (false, -2147483648, 2147483647), .inr (false, -2147483648, 2147483647)], [], some (.inr (false, -1, 6)), false, [(79, false, 0, 1), (79, false, 17, 17), (79, false, 67, 78), (79, false, 1420, 29779)])
theorem at_c259_in : at_c259 ∈ at_CM ++ at_CA := List.mem_of_getElem? (i := 224) rfl
def at_c260 : at_C := (260, [.inl (76, some 277), .inr (false, -2147483648, 2147483647), .inr (false, -2147483648, 2147483647)], [], some (.inr (false, -1, 24)), false, [(79, false, 0, 1), (79, false, 19, 19), (79, false, 119, 166), (79, false, 1420, 29779)])
theorem at_c260_in : at_c260 ∈ at_CM ++ at_CA := List.mem_of_getElem? (i := 225) rfl
def at_c261 : at_C := (261, [.inl (76, some 277), .inr (false, -2147483648, 2147483647), .inr (false, 0, 1), .inr (false, -2147483648, 2147483647), .inr (false, -2147483648, 2147483647), .inr (false, -2147483648, 2147483647)], [], some (.inr (false, -1, 8)), false, [(79, false, 0, 1), (79, false, 18, 18), (79, false, 79, 118), (79, false, 1420, 29779)])
theorem at_c261_in : at_c261 ∈ at_CM ++ at_CA := List.mem_of_getElem? (i := 226) rfl
def at_c263 : at_C := (263, [.inl (76, some 277)], [], some (.inr (false, 0, 8)), false, [(79, false, 0, 1), (79, false, 18, 18), (79, false, 79, 166), (79, false, 1420, 29779)])
theorem at_c263_in : at_c263 ∈ at_CM ++ at_CA := List.mem_of_getElem? (i := 227) rfl
def at_c264 : at_C := (264, [.inl (76, some 277)], [], some (.inr (false, 0, 24)), false, [(79, false, 0, 1), (79, false, 19, 19), (79, false, 79, 166), (79, false, 1420, 29779)])
theorem at_c264_in : at_c264 ∈ at_CM ++ at_CA := List.mem_of_getElem? (i := 228) rfl
def at_c267 : at_C := (267, [.inl (76, some 277)], [], some (.inr (false, -2147483648, 2147483647)), false, [(76, false, 4, 4), (76, false, 6, 6), (79, false, 0, 1), (79, false, 3, 16), (79, false, 20, 63), (79, false, 167, 314), (79, false, 444, 29779), (79, true, 1, 1), (79, true, 3, 4), (79, true, 7, 8), (79, true, 10, 60), (81, false, 0, 15)])
theorem at_c267_in : at_c267 ∈ at_CM ++ at_CA := List.mem_of_getElem? (i := 231) rfl
def at_c268 : at_C := (268, [.inl (76, some 277), .inr (false, -2147483648, 2147483647)], [], some (.inr (false, -2147483648, 2147483647)), false, [])
theorem at_c268_in : at_c268 ∈ at_CM ++ at_CA := List.mem_of_getElem? (i := 211) rfl
def at_c269 : at_C := (269, [.inl (76, some 277), .inr (false, -2147483648, 2147483647)], [], some (.inr (false, -1000000000, 99999)), false, [])
theorem at_c269_in : at_c269 ∈ at_CM ++ at_CA := List.mem_of_getElem? (i := 232) rfl
def at_c271 : at_C := (271, [.inl (76, some 277), .inr (false, -2147483648, 2147483647), .inr (false, -2147483648, 2147483647)], [], some (.inr (false, -2147483648, 2147483647)), false, [])
theorem at_c271_in : at_c271 ∈ at_CM ++ at_CA := List.mem_of_getElem? (i := 234) rfl
def at_c272 : at_C := (272, [.inl (76, some 277), .inr (false, -2147483648, 2147483647), .inr (false, -2147483648, 2147483647)], [], some (.inr (false, -2147483648, 2147483647)), false, [])
theorem at_c272_in : at_c272 ∈ at_CM ++ at_CA := List.mem_of_getElem? (i := 235) rfl
def at_c274 : at_C := (274, [.inl (76, some 277), .inr (false, -2147483648, 2147483647), .inr (false, -2147483648, 2147483647)], [], some (.inr (false, -2147483648, 2147483647)), false, [])
theorem at_c274_in : at_c274 ∈ at_CM ++ at_CA := List.mem_of_getElem? (i := 237) rfl
def at_c275 : at_C := (275, [.inl (76, some 277), .inr (false, -2147483648, 2147483647), .inr (false, -2147483648, 2147483647)], [], some (.inr (false, -2147483648, 2147483647)), false, [])
theorem at_c275_in : at_c275 ∈ at_CM ++ at_CA := List.mem_of_getElem? (i := 238) rfl
def at_c276 : at_C := (276, [.inl (76, some 277), .inr (false, -2147483648, 2147483647), .inr (false, -2147483648, 2147483647)], [], some (.inr (false, -1, 1000)), false, [])
theorem at_c276_in : at_c276 ∈ at_CM ++ at_CA := List.mem_of_getElem? (i := 239) rfl
def at_c277 : at_C := (277, [.inl (76, some 277), .inr (false, -2147483648, 2147483647)], [], some (.inr (false, -2147483648, 2147483647)), false, [])
theorem at_c277_in : at_c277 ∈ at_CM ++ at_CA := List.mem_of_getElem? (i := 240) rfl
def at_c278 : at_C := (278, [.inl (76, some 277)], [], some (.inr (false, -2147483648, 2147483647)), false, [])
theorem at_c278_in : at_c278 ∈ at_CM ++ at_CA := List.mem_of_getElem? (i := 241) rfl
def at_c279 : at_C := (279, [.inl (76, some 277), .inr (false, -2147483648, 2147483647)], [], some (.inr (false, -36096398, 36096398)), false, [])
theorem at_c279_in : at_c279 ∈ at_CM ++ at_CA := List.mem_of_getElem? (i := 242) rfl
def at_c280 : at_C := (280, [.inl (76, some 277), .inr (false, -2147483648, 2147483647), .inr (false, -2147483648, 2147483647)], [], some (.inr (false, -2147483648, 2147483647)), false, [])
theorem at_c280_in : at_c280 ∈ at_CM ++ at_CA := List.mem_of_getElem? (i := 243) rfl
def at_c281 : at_C := (281, [.inl (76, some 277)], [], some (.inr (false, -2147483648, 2147483647)), false, [])
theorem at_c281_in : at_c281 ∈ at_CM ++ at_CA := List.mem_of_getElem? (i := 244) rfl
def at_c282 : at_C := (282, [.inl (76, some 277), .inr (false, -2147483648, 2147483647)], [], some (.inr (false, -2147483648, 2147483647)), false, [])
theorem at_c282_in : at_c282 ∈ at_CM ++ at_CA := List.mem_of_getElem? (i := 245) rfl
def at_c283 : at_C := (283, [.inl (76, some 277), .inr (false, -2147483648, 2147483647)], [], some (.inr (false, -2147483648, 2147483647)), false, [])
theorem at_c283_in : at_c283 ∈ at_CM ++ at_CA := List.mem_of_getElem? (i := 246) rfl
def at_c284 : at_C := (284, [.inl (76, some 277), .inr (false, -2147483648, 2147483647)], [], some (.inr (false, 0, 1000)), false, [])
theorem at_c284_in : at_c284 ∈ at_CM ++ at_CA := List.mem_of_getElem? (i := 247) rfl
def at_c285 : at_C := (285, [.inl (76, some 277), .inr (false, -2147483648, 2147483647)], [], some (.inr (false, -99999, 99999)), false, [])
theorem at_c285_in : at_c285 ∈ at_CM ++ at_CA := List.mem_of_getElem? (i := 248) rfl
def at_c286 : at_C := (286, [.inl (76, some 277), .inr (false, -2147483648, 2147483647)], [], some (.inr (false, -1, 15)), false, [])
theorem at_c286_in : at_c286 ∈ at_CM ++ at_CA := List.mem_of_getElem? (i := 249) rfl
def at_c287 : at_C := (287, [.inl (76, some 277)], [], some (.inr (false, -1000, 1000)), false, [])
theorem at_c287_in : at_c287 ∈ at_CM ++ at_CA := List.mem_of_getElem? (i := 250) rfl
def at_c288 : at_C := (288, [.inl (76, some 277), .inr (false, -2147483648, 2147483647)], [], some (.inr (false, -2147483648, 2147483647)), false, [])
theorem at_c288_in : at_c288 ∈ at_CM ++ at_CA := List.mem_of_getElem? (i := 251) rfl
def at_c289 : at_C := (289, [.inl (76, some 277), .inr (false, -2147483648, 2147483647), .inr (false, -2147483648, 2147483647)], [], some (.inr (false, -2147483648, 2147483647)), false, [])
theorem at_c289_in : at_c289 ∈ at_CM ++ at_CA := List.mem_of_getElem? (i := 252) rfl
def at_c290 : at_C := (290, [.inl (76, some 277), .inr (false, -2147483648, 2147483647), .inr (false, -2147483648, 2147483647)], [], some (.inr (false, -2147483648, 2147483647)), false, [])
theorem at_c290_in : at_c290 ∈ at_CM ++ at_CA := List.mem_of_getElem? (i := 253) rfl
def at_c291 : at_C := (291, [.inl (76, some 277), .inr (false, -2147483648, 2147483647)], [], some (.inr (false, -1000000000, 2000000000)), false, [])
theorem at_c291_in : at_c291 ∈ at_CM ++ at_CA := List.mem_of_getElem? (i := 254) rfl
def at_c292 : at_C := (292, [.inl (76, some 277)], [], some (.inr (true, -9223372036854775808, 9223372036854775807)), false, [])
theorem at_c292_in : at_c292 ∈ at_CM ++ at_CA := List.mem_of_getElem? (i := 6) rfl
def at_c293 : at_C := (293, [.inl (76, some 277)], [], some (.inr (false, -2147483648, 2147483647)), false, [])
theorem at_c293_in : at_c293 ∈ at_CM ++ at_CA := List.mem_of_getElem? (i := 7) rfl
def at_c294 : at_C := (294, [.inl (76, some 277), .inr (false, -2147483648, 2147483647), .inr (false, -2147483648, 2147483647), .inr (false, -2147483648, 2147483647)], [], some (.inr (false, -2147483648, 2147483647)), false, [])
theorem at_c294_in : at_c294 ∈ at_CM ++ at_CA := List.mem_of_getElem? (i := 255) rfl
def at_c295 : at_C := (295, [.inl (76, some 277), .inr (false, -2147483648, 2147483647)], [], some (.inr (false, -1, 15)), false, [])
theorem at_c295_in : at_c295 ∈ at_CM ++ at_CA := List.mem_of_getElem? (i := 256) rfl
def at_c296 : at_C := (296, [.inl (76, some 277)], [], some (.inr (false, -1, 1000)), false, [])
theorem at_c296_in : at_c296 ∈ at_CM ++ at_CA := List.mem_of_getElem? (i := 8) rfl
def at_c297 : at_C := (297, [.inl (76, some 277)], [], some (.inr (false, -2147483648, 2147483647)), false, [])
theorem at_c297_in : at_c297 ∈ at_CM ++ at_CA := List.mem_of_getElem? (i := 257) rfl
def at_c298 : at_C := (298, [.inl (76, some 277), .inr (false, -2147483648, 2147483647)], [], some (.inr (false, -2147483648, 2147483647)), false, [])
theorem at_c298_in : at_c298 ∈ at_CM ++ at_CA := List.mem_of_getElem? (i := 258) rfl
def at_c300 : at_C := (300, [.inl (76, some 277)], [], some (.inr (false, -2147483648, 2147483647)), false, [])
theorem at_c300_in : at_c300 ∈ at_CM ++ at_CA := List.mem_of_getElem? (i := 259) rfl
def at_c301 : at_C := (301, [.inl (76, some 277), .inr (false, -2147483648, 2147483647)], [], some (.inr (false, -2147483648, 2147483647)), false, [])
theorem at_c301_in : at_c301 ∈ at_CM ++ at_CA := List.mem_of_getElem? (i := 260) rfl
def at_c304 : at_C := (304, [.inl (76, some 277), .inr (false, -2147483648, 2147483647)], [], some (.inr (false, -2147483648, 2147483647)), false, [])
theorem at_c304_in : at_c304 ∈ at_CM ++ at_CA := List.mem_of_getElem? (i := 263) rfl
def at_c308 : at_C := (308, [.inl (76, some 277), .inr (false, -2147483648, 2147483647), .inr (false, -2147483648, 2147483647), .inr (false, -2147483648, 2147483647)], [], some (.inr (false, -2147483648, 2147483647)), false, [(83, false, 0, 16249)])
theorem at_c308_in : at_c308 ∈ at_CM ++ at_CA := List.mem_of_getElem? (i := 9) rfl
def at_c309 : at_C := (309, [.inl (76, some 277), .inr (false, -2147483648, 2147483647), .inr (false, -2147483648, 2147483647)], [], some (.inr (false, -277777, 277778)), false, [])
theorem at_c309_in : at_c309 ∈ at_CM ++ at_CA := List.mem_of_getElem? (i := 264) rfl
def at_c310 : at_C := (310, [.inl (76, some 277), .inr (false, -2147483648, 2147483647), .inr (false, -2147483648, 2147483647)], [], some (.inr (false, -2147483648, 2147483647)), false, [(76, false, 4, 4), (76, false, 6, 6), (79, false, 2, 1419), (79, true, 1, 1), (79, true, 3, 4), (79, true, 7, 8), (79, true, 10, 60), (81, false, 0, 15), (82, false, 0, 1417)])
theorem at_c310_in : at_c310 ∈ at_CM ++ at_CA := List.mem_of_getElem? (i := 265) rfl
def at_c311 : at_C := (311, [.inl (76, some 277), .inr (false, -2147483648, 2147483647), .inr (false, -2147483648, 2147483647), .inr (false, -2147483648, 2147483647)], [], some (.inr (false, -2147483648, 2147483647)), false, [(76, false, 4, 4), (76, false, 6, 6), (79, false, 2, 1419), (79, true, 1, 1), (79, true, 3, 4), (79, true, 7, 8), (79, true, 10, 60), (81, false, 0, 15), (82, false, 0, 1417)])
theorem at_c311_in : at_c311 ∈ at_CM ++ at_CA := List.mem_of_getElem? (i := 266) rfl
def at_c312 : at_C := (312, [.inl (76, some 277), .inr (false, -2147483648, 2147483647)], [], some (.inr (false, -2147483648, 2147483647)), false, [(76, false, 4, 4), (76, false, 6, 6), (79, false, 2, 1419), (79, true, 1, 1), (79, true, 3, 4), (79, true, 7, 8), (79, true, 10, 60), (81, false, 0, 15), (82, false, 0, 1417)])
theorem at_c312_in : at_c312 ∈ at_CM ++ at_CA := List.mem_of_getElem? (i := 267) rfl
def at_c313 : at_C := (313, [.inl (76, some 277)], [], some (.inr (false, -1, 2000)), false, [(76, false, 4, 4), (76, false, 6, 6), (79, false, 2, 1419), (79, true, 1, 1), (79, true, 3, 4), (79, true, 7, 8), (79, true, 10, 60), (81, false, 0, 15), (82, false, 0, 1417)])
theorem at_c313_in : at_c313 ∈ at_CM ++ at_CA := List.mem_of_getElem? (i := 268) rfl
def at_c314 : at_C := (314, [.inl (76, some 277), .inr (false, -2147483648, 2147483647)], [], some (.inr (false, -1, 10)), false, [(76, false, 4, 4), (76, false, 6, 6), (79, false, 2, 1419), (79, true, 1, 1), (79, true, 3, 4), (79, true, 7, 8), (79, true, 10, 60), (81, false, 0, 15), (82, false, 0, 1417)])
theorem at_c314_in : at_c314 ∈ at_CM ++ at_CA := List.mem_of_getElem? (i := 269) rfl
def at_c316 : at_C := (316, [.inl (76, some 277), .inr (false, -2147483648, 2147483647), .inr (false, -2147483648, 2147483647)], [], some (.inr (false, -99900, 99900)), false, [(76, false, 4, 4), (76, false, 6, 7), (79, false, 2, 1419), (79, true, 1, 1), (79, true, 3, 4), (79, true, 7, 8), (79, true, 10, 60), (81, false, 0, 15), (82, false, 0, 1417)])
theorem at_c316_in : at_c316 ∈ at_CM ++ at_CA := List.mem_of_getElem? (i := 271) rfl
def at_c317 : at_C := (317, [.inl (76, some 277), .inr (false, -2147483648, 2147483647)], [], some (.inr (false, -1, 2000)), false, [(76, false, 4, 4), (76, false, 6, 7), (79, false, 2, 1419), (79, true, 1, 1), (79, true, 3, 4), (79, true, 7, 8), (79, true, 10, 60), (81, false, 0, 15), (82, false, 0, 1417)])
theorem at_c317_in : at_c317 ∈ at_CM ++ at_CA := List.mem_of_getElem? (i := 272) rfl
def at_c319 : at_C := (319, [.inl (76, some 277), .inr (false, -2147483648, 2147483647), .inr (false, -2147483648, 2147483647)], [], some (.inr (false, -1, 99)), false, [(76, false, 4, 4), (76, false, 6, 6), (79, false, 2, 1419), (79, true, 1, 1), (79, true, 3, 4), (79, true, 7, 8), (79, true, 10, 60), (81, false, 0, 15), (82, false, 0, 1417)])
theorem at_c319_in : at_c319 ∈ at_CM ++ at_CA := List.mem_of_getElem? (i := 273) rfl
def at_c321 : at_C := (321, [.inl (76, some 277), .inr (false, -2147483648, 2147483647)], [], some (.inr (false, -1, 2000)), false, [(76, false, 4, 4), (76, false, 6, 6), (79, false, 2, 1419), (79, true, 1, 1), (79, true, 3, 4), (79, true, 7, 8), (79, true, 10, 60), (81, false, 0, 15), (82, false, 0, 1417)])
theorem at_c321_in : at_c321 ∈ at_CM ++ at_CA := List.mem_of_getElem? (i := 275) rfl
def at_c322 : at_C := (322, [.inl (76, some 277), .inr (false, -2147483648, 2147483647)], [], some (.inr (false, -1, 2)), false, [(76, false, 4, 4), (76, false, 6, 6), (79, false, 2, 1419), (79, true, 1, 1), (79, true, 3, 4), (79, true, 7, 8), (79, true, 10, 60), (81, false, 0, 15), (82, false, 0, 1417)])
theorem at_c322_in : at_c322 ∈ at_CM ++ at_CA := List.mem_of_getElem? (i := 276) rfl
def at_c323 : at_C := (323, [.inl (76, some 277)], [], some (.inr (false, -2147483648, 2147483647)), false, [(80, false, 0, 29779)])
theorem at_c323_in : at_c323 ∈ at_CM ++ at_CA := List.mem_of_getElem? (i := 12) rfl
def at_c324 : at_C := (324, [.inl (76, some 277)], [], some (.inr (false, -2147483648, 2147483647)), false, [(79, false, 0, 29779)])
theorem at_c324_in : at_c324 ∈ at_CM ++ at_CA := List.mem_of_getElem? (i := 13) rfl
def at_c325 : at_C := (325, [.inl (76, some 277)], [], some (.inr (false, 0, 20)), false, [])
theorem at_c325_in : at_c325 ∈ at_CM ++ at_CA := List.mem_of_getElem? (i := 277) rfl
theorem pw_cll {L : Nat} {xs : Nat → Int32} {mi : Nat} {ins : Instr} {q : Nat × Nat} (h : am_cl nw_P0 mi ins = some q) : am_cl (pw_P L xs) mi ins = some q := h
set_option maxRecDepth 1000000 in
theorem lx_k0 : pw_code 0 0 = some (.new 7) := by decide +kernel
set_option maxRecDepth 1000000 in
theorem lx_k3 : pw_code 0 3 = some (.dup) := by decide +kernel
set_option maxRecDepth 1000000 in
theorem lx_k4 : pw_code 0 4 = some (.invokespecial 9) := by decide +kernel
set_option maxRecDepth 1000000 in
theorem lx_k7 : pw_code 0 7 = some (.astore_n 1) := by decide +kernel
set_option maxRecDepth 1000000 in
theorem lx_k8 : pw_code 0 8 = some (.new 10) := by decide +kernel
set_option maxRecDepth 1000000 in
theorem lx_k11 : pw_code 0 11 = some (.dup) := by decide +kernel
set_option maxRecDepth 1000000 in
theorem lx_k12 : pw_code 0 12 = some (.invokespecial 12) := by decide +kernel
set_option maxRecDepth 1000000 in
theorem lx_k15 : pw_code 0 15 = some (.astore_n 2) := by decide +kernel
set_option maxRecDepth 1000000 in
theorem lx_k16 : pw_code 0 16 = some (.iconst 0) := by decide +kernel
set_option maxRecDepth 1000000 in
theorem lx_k17 : pw_code 0 17 = some (.istore_n 3) := by decide +kernel
set_option maxRecDepth 1000000 in
theorem lx_k18 : pw_code 0 18 = some (.iload_n 3) := by decide +kernel
set_option maxRecDepth 1000000 in
theorem lx_k19 : pw_code 0 19 = some (.aload_n 0) := by decide +kernel
set_option maxRecDepth 1000000 in
theorem lx_k20 : pw_code 0 20 = some (.arraylength) := by decide +kernel
set_option maxRecDepth 1000000 in
theorem lx_k21 : pw_code 0 21 = some (.bipush 6) := by decide +kernel
set_option maxRecDepth 1000000 in
theorem lx_k23 : pw_code 0 23 = some (.isub) := by decide +kernel
set_option maxRecDepth 1000000 in
theorem lx_k24 : pw_code 0 24 = some (.if_icmp .gt 2012) := by decide +kernel
set_option maxRecDepth 1000000 in
theorem lx_k27 : pw_code 0 27 = some (.aload_n 0) := by decide +kernel
set_option maxRecDepth 1000000 in
theorem lx_k28 : pw_code 0 28 = some (.iload_n 3) := by decide +kernel
set_option maxRecDepth 1000000 in
theorem lx_k29 : pw_code 0 29 = some (.iaload) := by decide +kernel
set_option maxRecDepth 1000000 in
theorem lx_k30 : pw_code 0 30 = some (.bipush 127) := by decide +kernel
set_option maxRecDepth 1000000 in
theorem lx_k32 : pw_code 0 32 = some (.iand) := by decide +kernel
set_option maxRecDepth 1000000 in
theorem lx_k33 : pw_code 0 33 = some (.tableswitch 1997 0 67 #[287, 330, 363, 396, 429, 452, 465, 478, 501, 534, 567, 580, 613, 636, 669, 748, 761, 774, 787, 800, 823, 846, 879, 912, 945, 978, 1011, 1044, 1067, 1080, 1103, 1136, 1159, 1202, 1225, 1238, 1251, 1264, 1287, 1310, 1353, 1386, 1399, 1422, 1445, 1468, 1491, 1514, 1527, 1550, 1573, 1606, 1639, 1662, 1675, 1688, 1721, 1764, 1787, 1800, 1823, 1856, 1889, 1912, 1935, 1958, 1971, 1984]) := by decide +kernel
set_option maxRecDepth 1000000 in
theorem lx_k320 : pw_code 0 320 = some (.aload_n 1) := by decide +kernel
set_option maxRecDepth 1000000 in
theorem lx_k321 : pw_code 0 321 = some (.aload_n 0) := by decide +kernel
set_option maxRecDepth 1000000 in
theorem lx_k322 : pw_code 0 322 = some (.iload_n 3) := by decide +kernel
set_option maxRecDepth 1000000 in
theorem lx_k323 : pw_code 0 323 = some (.iconst 1) := by decide +kernel
set_option maxRecDepth 1000000 in
theorem lx_k324 : pw_code 0 324 = some (.iadd) := by decide +kernel
set_option maxRecDepth 1000000 in
theorem lx_k325 : pw_code 0 325 = some (.iaload) := by decide +kernel
set_option maxRecDepth 1000000 in
theorem lx_k326 : pw_code 0 326 = some (.aload_n 0) := by decide +kernel
set_option maxRecDepth 1000000 in
theorem lx_k327 : pw_code 0 327 = some (.iload_n 3) := by decide +kernel
set_option maxRecDepth 1000000 in
theorem lx_k328 : pw_code 0 328 = some (.iconst 2) := by decide +kernel
set_option maxRecDepth 1000000 in
theorem lx_k329 : pw_code 0 329 = some (.iadd) := by decide +kernel
set_option maxRecDepth 1000000 in
theorem lx_k330 : pw_code 0 330 = some (.iaload) := by decide +kernel
set_option maxRecDepth 1000000 in
theorem lx_k331 : pw_code 0 331 = some (.aload_n 0) := by decide +kernel
set_option maxRecDepth 1000000 in
theorem lx_k332 : pw_code 0 332 = some (.iload_n 3) := by decide +kernel
set_option maxRecDepth 1000000 in
theorem lx_k333 : pw_code 0 333 = some (.iconst 3) := by decide +kernel
set_option maxRecDepth 1000000 in
theorem lx_k334 : pw_code 0 334 = some (.iadd) := by decide +kernel
set_option maxRecDepth 1000000 in
theorem lx_k335 : pw_code 0 335 = some (.iaload) := by decide +kernel
set_option maxRecDepth 1000000 in
theorem lx_k336 : pw_code 0 336 = some (.invokevirtual 13) := by decide +kernel
set_option maxRecDepth 1000000 in
theorem lx_k339 : pw_code 0 339 = some (.pop) := by decide +kernel
set_option maxRecDepth 1000000 in
theorem lx_k340 : pw_code 0 340 = some (.aload_n 2) := by decide +kernel
set_option maxRecDepth 1000000 in
theorem lx_k341 : pw_code 0 341 = some (.aload_n 0) := by decide +kernel
set_option maxRecDepth 1000000 in
theorem lx_k342 : pw_code 0 342 = some (.iload_n 3) := by decide +kernel
set_option maxRecDepth 1000000 in
theorem lx_k343 : pw_code 0 343 = some (.iconst 1) := by decide +kernel
set_option maxRecDepth 1000000 in
theorem lx_k344 : pw_code 0 344 = some (.iadd) := by decide +kernel
set_option maxRecDepth 1000000 in
theorem lx_k345 : pw_code 0 345 = some (.iaload) := by decide +kernel
set_option maxRecDepth 1000000 in
theorem lx_k346 : pw_code 0 346 = some (.aload_n 0) := by decide +kernel
set_option maxRecDepth 1000000 in
theorem lx_k347 : pw_code 0 347 = some (.iload_n 3) := by decide +kernel
set_option maxRecDepth 1000000 in
theorem lx_k348 : pw_code 0 348 = some (.iconst 2) := by decide +kernel
set_option maxRecDepth 1000000 in
theorem lx_k349 : pw_code 0 349 = some (.iadd) := by decide +kernel
set_option maxRecDepth 1000000 in
theorem lx_k350 : pw_code 0 350 = some (.iaload) := by decide +kernel
set_option maxRecDepth 1000000 in
theorem lx_k351 : pw_code 0 351 = some (.aload_n 0) := by decide +kernel
set_option maxRecDepth 1000000 in
theorem lx_k352 : pw_code 0 352 = some (.iload_n 3) := by decide +kernel
set_option maxRecDepth 1000000 in
theorem lx_k353 : pw_code 0 353 = some (.iconst 3) := by decide +kernel
set_option maxRecDepth 1000000 in
theorem lx_k354 : pw_code 0 354 = some (.iadd) := by decide +kernel
set_option maxRecDepth 1000000 in
theorem lx_k355 : pw_code 0 355 = some (.iaload) := by decide +kernel
set_option maxRecDepth 1000000 in
theorem lx_k356 : pw_code 0 356 = some (.invokevirtual 17) := by decide +kernel
set_option maxRecDepth 1000000 in
theorem lx_k359 : pw_code 0 359 = some (.pop) := by decide +kernel
set_option maxRecDepth 1000000 in
theorem lx_k360 : pw_code 0 360 = some (.goto 1670) := by decide +kernel
set_option maxRecDepth 1000000 in
theorem lx_k363 : pw_code 0 363 = some (.aload_n 1) := by decide +kernel
set_option maxRecDepth 1000000 in
theorem lx_k364 : pw_code 0 364 = some (.aload_n 0) := by decide +kernel
set_option maxRecDepth 1000000 in
theorem lx_k365 : pw_code 0 365 = some (.iload_n 3) := by decide +kernel
set_option maxRecDepth 1000000 in
theorem lx_k366 : pw_code 0 366 = some (.iconst 1) := by decide +kernel
set_option maxRecDepth 1000000 in
theorem lx_k367 : pw_code 0 367 = some (.iadd) := by decide +kernel
set_option maxRecDepth 1000000 in
theorem lx_k368 : pw_code 0 368 = some (.iaload) := by decide +kernel
set_option maxRecDepth 1000000 in
theorem lx_k369 : pw_code 0 369 = some (.aload_n 0) := by decide +kernel
set_option maxRecDepth 1000000 in
theorem lx_k370 : pw_code 0 370 = some (.iload_n 3) := by decide +kernel
set_option maxRecDepth 1000000 in
theorem lx_k371 : pw_code 0 371 = some (.iconst 2) := by decide +kernel
set_option maxRecDepth 1000000 in
theorem lx_k372 : pw_code 0 372 = some (.iadd) := by decide +kernel
set_option maxRecDepth 1000000 in
theorem lx_k373 : pw_code 0 373 = some (.iaload) := by decide +kernel
set_option maxRecDepth 1000000 in
theorem lx_k374 : pw_code 0 374 = some (.invokevirtual 18) := by decide +kernel
set_option maxRecDepth 1000000 in
theorem lx_k377 : pw_code 0 377 = some (.pop) := by decide +kernel
set_option maxRecDepth 1000000 in
theorem lx_k378 : pw_code 0 378 = some (.aload_n 2) := by decide +kernel
set_option maxRecDepth 1000000 in
theorem lx_k379 : pw_code 0 379 = some (.aload_n 0) := by decide +kernel
set_option maxRecDepth 1000000 in
theorem lx_k380 : pw_code 0 380 = some (.iload_n 3) := by decide +kernel
set_option maxRecDepth 1000000 in
theorem lx_k381 : pw_code 0 381 = some (.iconst 1) := by decide +kernel
set_option maxRecDepth 1000000 in
theorem lx_k382 : pw_code 0 382 = some (.iadd) := by decide +kernel
set_option maxRecDepth 1000000 in
theorem lx_k383 : pw_code 0 383 = some (.iaload) := by decide +kernel
set_option maxRecDepth 1000000 in
theorem lx_k384 : pw_code 0 384 = some (.aload_n 0) := by decide +kernel
set_option maxRecDepth 1000000 in
theorem lx_k385 : pw_code 0 385 = some (.iload_n 3) := by decide +kernel
set_option maxRecDepth 1000000 in
theorem lx_k386 : pw_code 0 386 = some (.iconst 2) := by decide +kernel
set_option maxRecDepth 1000000 in
theorem lx_k387 : pw_code 0 387 = some (.iadd) := by decide +kernel
set_option maxRecDepth 1000000 in
theorem lx_k388 : pw_code 0 388 = some (.iaload) := by decide +kernel
set_option maxRecDepth 1000000 in
theorem lx_k389 : pw_code 0 389 = some (.invokevirtual 22) := by decide +kernel
set_option maxRecDepth 1000000 in
theorem lx_k392 : pw_code 0 392 = some (.pop) := by decide +kernel
set_option maxRecDepth 1000000 in
theorem lx_k393 : pw_code 0 393 = some (.goto 1637) := by decide +kernel
set_option maxRecDepth 1000000 in
theorem lx_k396 : pw_code 0 396 = some (.aload_n 1) := by decide +kernel
set_option maxRecDepth 1000000 in
theorem lx_k397 : pw_code 0 397 = some (.aload_n 0) := by decide +kernel
set_option maxRecDepth 1000000 in
theorem lx_k398 : pw_code 0 398 = some (.iload_n 3) := by decide +kernel
set_option maxRecDepth 1000000 in
theorem lx_k399 : pw_code 0 399 = some (.iconst 1) := by decide +kernel
set_option maxRecDepth 1000000 in
theorem lx_k400 : pw_code 0 400 = some (.iadd) := by decide +kernel
set_option maxRecDepth 1000000 in
theorem lx_k401 : pw_code 0 401 = some (.iaload) := by decide +kernel
set_option maxRecDepth 1000000 in
theorem lx_k402 : pw_code 0 402 = some (.aload_n 0) := by decide +kernel
set_option maxRecDepth 1000000 in
theorem lx_k403 : pw_code 0 403 = some (.iload_n 3) := by decide +kernel
set_option maxRecDepth 1000000 in
theorem lx_k404 : pw_code 0 404 = some (.iconst 2) := by decide +kernel
set_option maxRecDepth 1000000 in
theorem lx_k405 : pw_code 0 405 = some (.iadd) := by decide +kernel
set_option maxRecDepth 1000000 in
theorem lx_k406 : pw_code 0 406 = some (.iaload) := by decide +kernel
set_option maxRecDepth 1000000 in
theorem lx_k407 : pw_code 0 407 = some (.invokevirtual 23) := by decide +kernel
set_option maxRecDepth 1000000 in
theorem lx_k410 : pw_code 0 410 = some (.pop) := by decide +kernel
set_option maxRecDepth 1000000 in
theorem lx_k411 : pw_code 0 411 = some (.aload_n 2) := by decide +kernel
set_option maxRecDepth 1000000 in
theorem lx_k412 : pw_code 0 412 = some (.aload_n 0) := by decide +kernel
set_option maxRecDepth 1000000 in
theorem lx_k413 : pw_code 0 413 = some (.iload_n 3) := by decide +kernel
set_option maxRecDepth 1000000 in
theorem lx_k414 : pw_code 0 414 = some (.iconst 1) := by decide +kernel
set_option maxRecDepth 1000000 in
theorem lx_k415 : pw_code 0 415 = some (.iadd) := by decide +kernel
set_option maxRecDepth 1000000 in
theorem lx_k416 : pw_code 0 416 = some (.iaload) := by decide +kernel
set_option maxRecDepth 1000000 in
theorem lx_k417 : pw_code 0 417 = some (.aload_n 0) := by decide +kernel
set_option maxRecDepth 1000000 in
theorem lx_k418 : pw_code 0 418 = some (.iload_n 3) := by decide +kernel
set_option maxRecDepth 1000000 in
theorem lx_k419 : pw_code 0 419 = some (.iconst 2) := by decide +kernel
set_option maxRecDepth 1000000 in
theorem lx_k420 : pw_code 0 420 = some (.iadd) := by decide +kernel
set_option maxRecDepth 1000000 in
theorem lx_k421 : pw_code 0 421 = some (.iaload) := by decide +kernel
set_option maxRecDepth 1000000 in
theorem lx_k422 : pw_code 0 422 = some (.invokevirtual 26) := by decide +kernel
set_option maxRecDepth 1000000 in
theorem lx_k425 : pw_code 0 425 = some (.pop) := by decide +kernel
set_option maxRecDepth 1000000 in
theorem lx_k426 : pw_code 0 426 = some (.goto 1604) := by decide +kernel
set_option maxRecDepth 1000000 in
theorem lx_k429 : pw_code 0 429 = some (.aload_n 1) := by decide +kernel
set_option maxRecDepth 1000000 in
theorem lx_k430 : pw_code 0 430 = some (.aload_n 0) := by decide +kernel
set_option maxRecDepth 1000000 in
theorem lx_k431 : pw_code 0 431 = some (.iload_n 3) := by decide +kernel
set_option maxRecDepth 1000000 in
theorem lx_k432 : pw_code 0 432 = some (.iconst 1) := by decide +kernel
set_option maxRecDepth 1000000 in
theorem lx_k433 : pw_code 0 433 = some (.iadd) := by decide +kernel
set_option maxRecDepth 1000000 in
theorem lx_k434 : pw_code 0 434 = some (.iaload) := by decide +kernel
set_option maxRecDepth 1000000 in
theorem lx_k435 : pw_code 0 435 = some (.aload_n 0) := by decide +kernel
set_option maxRecDepth 1000000 in
theorem lx_k436 : pw_code 0 436 = some (.iload_n 3) := by decide +kernel
set_option maxRecDepth 1000000 in
theorem lx_k437 : pw_code 0 437 = some (.iconst 2) := by decide +kernel
set_option maxRecDepth 1000000 in
theorem lx_k438 : pw_code 0 438 = some (.iadd) := by decide +kernel
set_option maxRecDepth 1000000 in
theorem lx_k439 : pw_code 0 439 = some (.iaload) := by decide +kernel
set_option maxRecDepth 1000000 in
theorem lx_k440 : pw_code 0 440 = some (.invokevirtual 27) := by decide +kernel
set_option maxRecDepth 1000000 in
theorem lx_k443 : pw_code 0 443 = some (.pop) := by decide +kernel
set_option maxRecDepth 1000000 in
theorem lx_k444 : pw_code 0 444 = some (.aload_n 2) := by decide +kernel
set_option maxRecDepth 1000000 in
theorem lx_k445 : pw_code 0 445 = some (.aload_n 0) := by decide +kernel
set_option maxRecDepth 1000000 in
theorem lx_k446 : pw_code 0 446 = some (.iload_n 3) := by decide +kernel
set_option maxRecDepth 1000000 in
theorem lx_k447 : pw_code 0 447 = some (.iconst 1) := by decide +kernel
set_option maxRecDepth 1000000 in
theorem lx_k448 : pw_code 0 448 = some (.iadd) := by decide +kernel
set_option maxRecDepth 1000000 in
theorem lx_k449 : pw_code 0 449 = some (.iaload) := by decide +kernel
set_option maxRecDepth 1000000 in
theorem lx_k450 : pw_code 0 450 = some (.aload_n 0) := by decide +kernel
set_option maxRecDepth 1000000 in
theorem lx_k451 : pw_code 0 451 = some (.iload_n 3) := by decide +kernel
set_option maxRecDepth 1000000 in
theorem lx_k452 : pw_code 0 452 = some (.iconst 2) := by decide +kernel
set_option maxRecDepth 1000000 in
theorem lx_k453 : pw_code 0 453 = some (.iadd) := by decide +kernel
set_option maxRecDepth 1000000 in
theorem lx_k454 : pw_code 0 454 = some (.iaload) := by decide +kernel
set_option maxRecDepth 1000000 in
theorem lx_k455 : pw_code 0 455 = some (.invokevirtual 30) := by decide +kernel
set_option maxRecDepth 1000000 in
theorem lx_k458 : pw_code 0 458 = some (.pop) := by decide +kernel
set_option maxRecDepth 1000000 in
theorem lx_k459 : pw_code 0 459 = some (.goto 1571) := by decide +kernel
set_option maxRecDepth 1000000 in
theorem lx_k462 : pw_code 0 462 = some (.aload_n 1) := by decide +kernel
set_option maxRecDepth 1000000 in
theorem lx_k463 : pw_code 0 463 = some (.aload_n 0) := by decide +kernel
set_option maxRecDepth 1000000 in
theorem lx_k464 : pw_code 0 464 = some (.iload_n 3) := by decide +kernel
set_option maxRecDepth 1000000 in
theorem lx_k465 : pw_code 0 465 = some (.iconst 1) := by decide +kernel
set_option maxRecDepth 1000000 in
theorem lx_k466 : pw_code 0 466 = some (.iadd) := by decide +kernel
set_option maxRecDepth 1000000 in
theorem lx_k467 : pw_code 0 467 = some (.iaload) := by decide +kernel
set_option maxRecDepth 1000000 in
theorem lx_k468 : pw_code 0 468 = some (.invokevirtual 31) := by decide +kernel
set_option maxRecDepth 1000000 in
theorem lx_k471 : pw_code 0 471 = some (.pop) := by decide +kernel
set_option maxRecDepth 1000000 in
theorem lx_k472 : pw_code 0 472 = some (.aload_n 2) := by decide +kernel
set_option maxRecDepth 1000000 in
theorem lx_k473 : pw_code 0 473 = some (.aload_n 0) := by decide +kernel
set_option maxRecDepth 1000000 in
theorem lx_k474 : pw_code 0 474 = some (.iload_n 3) := by decide +kernel
set_option maxRecDepth 1000000 in
theorem lx_k475 : pw_code 0 475 = some (.iconst 1) := by decide +kernel
set_option maxRecDepth 1000000 in
theorem lx_k476 : pw_code 0 476 = some (.iadd) := by decide +kernel
set_option maxRecDepth 1000000 in
theorem lx_k477 : pw_code 0 477 = some (.iaload) := by decide +kernel
set_option maxRecDepth 1000000 in
theorem lx_k478 : pw_code 0 478 = some (.invokevirtual 35) := by decide +kernel
set_option maxRecDepth 1000000 in
theorem lx_k481 : pw_code 0 481 = some (.pop) := by decide +kernel
set_option maxRecDepth 1000000 in
theorem lx_k482 : pw_code 0 482 = some (.goto 1548) := by decide +kernel
set_option maxRecDepth 1000000 in
theorem lx_k485 : pw_code 0 485 = some (.aload_n 1) := by decide +kernel
set_option maxRecDepth 1000000 in
theorem lx_k486 : pw_code 0 486 = some (.invokevirtual 36) := by decide +kernel
set_option maxRecDepth 1000000 in
theorem lx_k489 : pw_code 0 489 = some (.pop) := by decide +kernel
set_option maxRecDepth 1000000 in
theorem lx_k490 : pw_code 0 490 = some (.aload_n 2) := by decide +kernel
set_option maxRecDepth 1000000 in
theorem lx_k491 : pw_code 0 491 = some (.invokevirtual 40) := by decide +kernel
set_option maxRecDepth 1000000 in
theorem lx_k494 : pw_code 0 494 = some (.pop) := by decide +kernel
set_option maxRecDepth 1000000 in
theorem lx_k495 : pw_code 0 495 = some (.goto 1535) := by decide +kernel
set_option maxRecDepth 1000000 in
theorem lx_k498 : pw_code 0 498 = some (.aload_n 1) := by decide +kernel
set_option maxRecDepth 1000000 in
theorem lx_k499 : pw_code 0 499 = some (.invokevirtual 41) := by decide +kernel
set_option maxRecDepth 1000000 in
theorem lx_k502 : pw_code 0 502 = some (.pop) := by decide +kernel
set_option maxRecDepth 1000000 in
theorem lx_k503 : pw_code 0 503 = some (.aload_n 2) := by decide +kernel
set_option maxRecDepth 1000000 in
theorem lx_k504 : pw_code 0 504 = some (.invokevirtual 44) := by decide +kernel
set_option maxRecDepth 1000000 in
theorem lx_k507 : pw_code 0 507 = some (.pop) := by decide +kernel
set_option maxRecDepth 1000000 in
theorem lx_k508 : pw_code 0 508 = some (.goto 1522) := by decide +kernel
set_option maxRecDepth 1000000 in
theorem lx_k511 : pw_code 0 511 = some (.aload_n 1) := by decide +kernel
set_option maxRecDepth 1000000 in
theorem lx_k512 : pw_code 0 512 = some (.aload_n 0) := by decide +kernel
set_option maxRecDepth 1000000 in
theorem lx_k513 : pw_code 0 513 = some (.iload_n 3) := by decide +kernel
set_option maxRecDepth 1000000 in
theorem lx_k514 : pw_code 0 514 = some (.iconst 1) := by decide +kernel
set_option maxRecDepth 1000000 in
theorem lx_k515 : pw_code 0 515 = some (.iadd) := by decide +kernel
set_option maxRecDepth 1000000 in
theorem lx_k516 : pw_code 0 516 = some (.iaload) := by decide +kernel
set_option maxRecDepth 1000000 in
theorem lx_k517 : pw_code 0 517 = some (.invokevirtual 45) := by decide +kernel
set_option maxRecDepth 1000000 in
theorem lx_k520 : pw_code 0 520 = some (.pop) := by decide +kernel
set_option maxRecDepth 1000000 in
theorem lx_k521 : pw_code 0 521 = some (.aload_n 2) := by decide +kernel
set_option maxRecDepth 1000000 in
theorem lx_k522 : pw_code 0 522 = some (.aload_n 0) := by decide +kernel
set_option maxRecDepth 1000000 in
theorem lx_k523 : pw_code 0 523 = some (.iload_n 3) := by decide +kernel
set_option maxRecDepth 1000000 in
theorem lx_k524 : pw_code 0 524 = some (.iconst 1) := by decide +kernel
set_option maxRecDepth 1000000 in
theorem lx_k525 : pw_code 0 525 = some (.iadd) := by decide +kernel
set_option maxRecDepth 1000000 in
theorem lx_k526 : pw_code 0 526 = some (.iaload) := by decide +kernel
set_option maxRecDepth 1000000 in
theorem lx_k527 : pw_code 0 527 = some (.invokevirtual 49) := by decide +kernel
set_option maxRecDepth 1000000 in
theorem lx_k530 : pw_code 0 530 = some (.pop) := by decide +kernel
set_option maxRecDepth 1000000 in
theorem lx_k531 : pw_code 0 531 = some (.goto 1499) := by decide +kernel
set_option maxRecDepth 1000000 in
theorem lx_k534 : pw_code 0 534 = some (.aload_n 1) := by decide +kernel
set_option maxRecDepth 1000000 in
theorem lx_k535 : pw_code 0 535 = some (.aload_n 0) := by decide +kernel
set_option maxRecDepth 1000000 in
theorem lx_k536 : pw_code 0 536 = some (.iload_n 3) := by decide +kernel
set_option maxRecDepth 1000000 in
theorem lx_k537 : pw_code 0 537 = some (.iconst 1) := by decide +kernel
set_option maxRecDepth 1000000 in
theorem lx_k538 : pw_code 0 538 = some (.iadd) := by decide +kernel
set_option maxRecDepth 1000000 in
theorem lx_k539 : pw_code 0 539 = some (.iaload) := by decide +kernel
set_option maxRecDepth 1000000 in
theorem lx_k540 : pw_code 0 540 = some (.aload_n 0) := by decide +kernel
set_option maxRecDepth 1000000 in
theorem lx_k541 : pw_code 0 541 = some (.iload_n 3) := by decide +kernel
set_option maxRecDepth 1000000 in
theorem lx_k542 : pw_code 0 542 = some (.iconst 2) := by decide +kernel
set_option maxRecDepth 1000000 in
theorem lx_k543 : pw_code 0 543 = some (.iadd) := by decide +kernel
set_option maxRecDepth 1000000 in
theorem lx_k544 : pw_code 0 544 = some (.iaload) := by decide +kernel
set_option maxRecDepth 1000000 in
theorem lx_k545 : pw_code 0 545 = some (.invokevirtual 50) := by decide +kernel
set_option maxRecDepth 1000000 in
theorem lx_k548 : pw_code 0 548 = some (.pop) := by decide +kernel
set_option maxRecDepth 1000000 in
theorem lx_k549 : pw_code 0 549 = some (.aload_n 2) := by decide +kernel
set_option maxRecDepth 1000000 in
theorem lx_k550 : pw_code 0 550 = some (.aload_n 0) := by decide +kernel
set_option maxRecDepth 1000000 in
theorem lx_k551 : pw_code 0 551 = some (.iload_n 3) := by decide +kernel
set_option maxRecDepth 1000000 in
theorem lx_k552 : pw_code 0 552 = some (.iconst 1) := by decide +kernel
set_option maxRecDepth 1000000 in
theorem lx_k553 : pw_code 0 553 = some (.iadd) := by decide +kernel
set_option maxRecDepth 1000000 in
theorem lx_k554 : pw_code 0 554 = some (.iaload) := by decide +kernel
set_option maxRecDepth 1000000 in
theorem lx_k555 : pw_code 0 555 = some (.aload_n 0) := by decide +kernel
set_option maxRecDepth 1000000 in
theorem lx_k556 : pw_code 0 556 = some (.iload_n 3) := by decide +kernel
set_option maxRecDepth 1000000 in
theorem lx_k557 : pw_code 0 557 = some (.iconst 2) := by decide +kernel
set_option maxRecDepth 1000000 in
theorem lx_k558 : pw_code 0 558 = some (.iadd) := by decide +kernel
set_option maxRecDepth 1000000 in
theorem lx_k559 : pw_code 0 559 = some (.iaload) := by decide +kernel
set_option maxRecDepth 1000000 in
theorem lx_k560 : pw_code 0 560 = some (.invokevirtual 53) := by decide +kernel
set_option maxRecDepth 1000000 in
theorem lx_k563 : pw_code 0 563 = some (.pop) := by decide +kernel
set_option maxRecDepth 1000000 in
theorem lx_k564 : pw_code 0 564 = some (.goto 1466) := by decide +kernel
set_option maxRecDepth 1000000 in
theorem lx_k567 : pw_code 0 567 = some (.aload_n 1) := by decide +kernel
set_option maxRecDepth 1000000 in
theorem lx_k568 : pw_code 0 568 = some (.aload_n 0) := by decide +kernel
set_option maxRecDepth 1000000 in
theorem lx_k569 : pw_code 0 569 = some (.iload_n 3) := by decide +kernel
set_option maxRecDepth 1000000 in
theorem lx_k570 : pw_code 0 570 = some (.iconst 1) := by decide +kernel
set_option maxRecDepth 1000000 in
theorem lx_k571 : pw_code 0 571 = some (.iadd) := by decide +kernel
set_option maxRecDepth 1000000 in
theorem lx_k572 : pw_code 0 572 = some (.iaload) := by decide +kernel
set_option maxRecDepth 1000000 in
theorem lx_k573 : pw_code 0 573 = some (.aload_n 0) := by decide +kernel
set_option maxRecDepth 1000000 in
theorem lx_k574 : pw_code 0 574 = some (.iload_n 3) := by decide +kernel
set_option maxRecDepth 1000000 in
theorem lx_k575 : pw_code 0 575 = some (.iconst 2) := by decide +kernel
set_option maxRecDepth 1000000 in
theorem lx_k576 : pw_code 0 576 = some (.iadd) := by decide +kernel
set_option maxRecDepth 1000000 in
theorem lx_k577 : pw_code 0 577 = some (.iaload) := by decide +kernel
set_option maxRecDepth 1000000 in
theorem lx_k578 : pw_code 0 578 = some (.invokevirtual 54) := by decide +kernel
set_option maxRecDepth 1000000 in
theorem lx_k581 : pw_code 0 581 = some (.pop) := by decide +kernel
set_option maxRecDepth 1000000 in
theorem lx_k582 : pw_code 0 582 = some (.aload_n 2) := by decide +kernel
set_option maxRecDepth 1000000 in
theorem lx_k583 : pw_code 0 583 = some (.aload_n 0) := by decide +kernel
set_option maxRecDepth 1000000 in
theorem lx_k584 : pw_code 0 584 = some (.iload_n 3) := by decide +kernel
set_option maxRecDepth 1000000 in
theorem lx_k585 : pw_code 0 585 = some (.iconst 1) := by decide +kernel
set_option maxRecDepth 1000000 in
theorem lx_k586 : pw_code 0 586 = some (.iadd) := by decide +kernel
set_option maxRecDepth 1000000 in
theorem lx_k587 : pw_code 0 587 = some (.iaload) := by decide +kernel
set_option maxRecDepth 1000000 in
theorem lx_k588 : pw_code 0 588 = some (.aload_n 0) := by decide +kernel
set_option maxRecDepth 1000000 in
theorem lx_k589 : pw_code 0 589 = some (.iload_n 3) := by decide +kernel
set_option maxRecDepth 1000000 in
theorem lx_k590 : pw_code 0 590 = some (.iconst 2) := by decide +kernel
set_option maxRecDepth 1000000 in
theorem lx_k591 : pw_code 0 591 = some (.iadd) := by decide +kernel
set_option maxRecDepth 1000000 in
theorem lx_k592 : pw_code 0 592 = some (.iaload) := by decide +kernel
set_option maxRecDepth 1000000 in
theorem lx_k593 : pw_code 0 593 = some (.invokevirtual 58) := by decide +kernel
set_option maxRecDepth 1000000 in
theorem lx_k596 : pw_code 0 596 = some (.pop) := by decide +kernel
set_option maxRecDepth 1000000 in
theorem lx_k597 : pw_code 0 597 = some (.goto 1433) := by decide +kernel
set_option maxRecDepth 1000000 in
theorem lx_k600 : pw_code 0 600 = some (.aload_n 1) := by decide +kernel
set_option maxRecDepth 1000000 in
theorem lx_k601 : pw_code 0 601 = some (.invokevirtual 59) := by decide +kernel
set_option maxRecDepth 1000000 in
theorem lx_k604 : pw_code 0 604 = some (.pop) := by decide +kernel
set_option maxRecDepth 1000000 in
theorem lx_k605 : pw_code 0 605 = some (.aload_n 2) := by decide +kernel
set_option maxRecDepth 1000000 in
theorem lx_k606 : pw_code 0 606 = some (.invokevirtual 63) := by decide +kernel
set_option maxRecDepth 1000000 in
theorem lx_k609 : pw_code 0 609 = some (.pop) := by decide +kernel
set_option maxRecDepth 1000000 in
theorem lx_k610 : pw_code 0 610 = some (.goto 1420) := by decide +kernel
set_option maxRecDepth 1000000 in
theorem lx_k613 : pw_code 0 613 = some (.aload_n 1) := by decide +kernel
set_option maxRecDepth 1000000 in
theorem lx_k614 : pw_code 0 614 = some (.aload_n 0) := by decide +kernel
set_option maxRecDepth 1000000 in
theorem lx_k615 : pw_code 0 615 = some (.iload_n 3) := by decide +kernel
set_option maxRecDepth 1000000 in
theorem lx_k616 : pw_code 0 616 = some (.iconst 1) := by decide +kernel
set_option maxRecDepth 1000000 in
theorem lx_k617 : pw_code 0 617 = some (.iadd) := by decide +kernel
set_option maxRecDepth 1000000 in
theorem lx_k618 : pw_code 0 618 = some (.iaload) := by decide +kernel
set_option maxRecDepth 1000000 in
theorem lx_k619 : pw_code 0 619 = some (.aload_n 0) := by decide +kernel
set_option maxRecDepth 1000000 in
theorem lx_k620 : pw_code 0 620 = some (.iload_n 3) := by decide +kernel
set_option maxRecDepth 1000000 in
theorem lx_k621 : pw_code 0 621 = some (.iconst 2) := by decide +kernel
set_option maxRecDepth 1000000 in
theorem lx_k622 : pw_code 0 622 = some (.iadd) := by decide +kernel
set_option maxRecDepth 1000000 in
theorem lx_k623 : pw_code 0 623 = some (.iaload) := by decide +kernel
set_option maxRecDepth 1000000 in
theorem lx_k624 : pw_code 0 624 = some (.invokevirtual 64) := by decide +kernel
set_option maxRecDepth 1000000 in
theorem lx_k627 : pw_code 0 627 = some (.pop) := by decide +kernel
set_option maxRecDepth 1000000 in
theorem lx_k628 : pw_code 0 628 = some (.aload_n 2) := by decide +kernel
set_option maxRecDepth 1000000 in
theorem lx_k629 : pw_code 0 629 = some (.aload_n 0) := by decide +kernel
set_option maxRecDepth 1000000 in
theorem lx_k630 : pw_code 0 630 = some (.iload_n 3) := by decide +kernel
set_option maxRecDepth 1000000 in
theorem lx_k631 : pw_code 0 631 = some (.iconst 1) := by decide +kernel
set_option maxRecDepth 1000000 in
theorem lx_k632 : pw_code 0 632 = some (.iadd) := by decide +kernel
set_option maxRecDepth 1000000 in
theorem lx_k633 : pw_code 0 633 = some (.iaload) := by decide +kernel
set_option maxRecDepth 1000000 in
theorem lx_k634 : pw_code 0 634 = some (.aload_n 0) := by decide +kernel
set_option maxRecDepth 1000000 in
theorem lx_k635 : pw_code 0 635 = some (.iload_n 3) := by decide +kernel
set_option maxRecDepth 1000000 in
theorem lx_k636 : pw_code 0 636 = some (.iconst 2) := by decide +kernel
set_option maxRecDepth 1000000 in
theorem lx_k637 : pw_code 0 637 = some (.iadd) := by decide +kernel
set_option maxRecDepth 1000000 in
theorem lx_k638 : pw_code 0 638 = some (.iaload) := by decide +kernel
set_option maxRecDepth 1000000 in
theorem lx_k639 : pw_code 0 639 = some (.invokevirtual 67) := by decide +kernel
set_option maxRecDepth 1000000 in
theorem lx_k642 : pw_code 0 642 = some (.pop) := by decide +kernel
set_option maxRecDepth 1000000 in
theorem lx_k643 : pw_code 0 643 = some (.goto 1387) := by decide +kernel
set_option maxRecDepth 1000000 in
theorem lx_k646 : pw_code 0 646 = some (.aload_n 1) := by decide +kernel
set_option maxRecDepth 1000000 in
theorem lx_k647 : pw_code 0 647 = some (.aload_n 0) := by decide +kernel
set_option maxRecDepth 1000000 in
theorem lx_k648 : pw_code 0 648 = some (.iload_n 3) := by decide +kernel
set_option maxRecDepth 1000000 in
theorem lx_k649 : pw_code 0 649 = some (.iconst 1) := by decide +kernel
set_option maxRecDepth 1000000 in
theorem lx_k650 : pw_code 0 650 = some (.iadd) := by decide +kernel
set_option maxRecDepth 1000000 in
theorem lx_k651 : pw_code 0 651 = some (.iaload) := by decide +kernel
set_option maxRecDepth 1000000 in
theorem lx_k652 : pw_code 0 652 = some (.invokevirtual 68) := by decide +kernel
set_option maxRecDepth 1000000 in
theorem lx_k655 : pw_code 0 655 = some (.pop) := by decide +kernel
set_option maxRecDepth 1000000 in
theorem lx_k656 : pw_code 0 656 = some (.aload_n 2) := by decide +kernel
set_option maxRecDepth 1000000 in
theorem lx_k657 : pw_code 0 657 = some (.aload_n 0) := by decide +kernel
set_option maxRecDepth 1000000 in
theorem lx_k658 : pw_code 0 658 = some (.iload_n 3) := by decide +kernel
set_option maxRecDepth 1000000 in
theorem lx_k659 : pw_code 0 659 = some (.iconst 1) := by decide +kernel
set_option maxRecDepth 1000000 in
theorem lx_k660 : pw_code 0 660 = some (.iadd) := by decide +kernel
set_option maxRecDepth 1000000 in
theorem lx_k661 : pw_code 0 661 = some (.iaload) := by decide +kernel
set_option maxRecDepth 1000000 in
theorem lx_k662 : pw_code 0 662 = some (.invokevirtual 71) := by decide +kernel
set_option maxRecDepth 1000000 in
theorem lx_k665 : pw_code 0 665 = some (.pop) := by decide +kernel
set_option maxRecDepth 1000000 in
theorem lx_k666 : pw_code 0 666 = some (.goto 1364) := by decide +kernel
set_option maxRecDepth 1000000 in
theorem lx_k669 : pw_code 0 669 = some (.aload_n 1) := by decide +kernel
set_option maxRecDepth 1000000 in
theorem lx_k670 : pw_code 0 670 = some (.aload_n 0) := by decide +kernel
set_option maxRecDepth 1000000 in
theorem lx_k671 : pw_code 0 671 = some (.iload_n 3) := by decide +kernel
set_option maxRecDepth 1000000 in
theorem lx_k672 : pw_code 0 672 = some (.iconst 1) := by decide +kernel
set_option maxRecDepth 1000000 in
theorem lx_k673 : pw_code 0 673 = some (.iadd) := by decide +kernel
set_option maxRecDepth 1000000 in
theorem lx_k674 : pw_code 0 674 = some (.iaload) := by decide +kernel
set_option maxRecDepth 1000000 in
theorem lx_k675 : pw_code 0 675 = some (.aload_n 0) := by decide +kernel
set_option maxRecDepth 1000000 in
theorem lx_k676 : pw_code 0 676 = some (.iload_n 3) := by decide +kernel
set_option maxRecDepth 1000000 in
theorem lx_k677 : pw_code 0 677 = some (.iconst 2) := by decide +kernel
set_option maxRecDepth 1000000 in
theorem lx_k678 : pw_code 0 678 = some (.iadd) := by decide +kernel
set_option maxRecDepth 1000000 in
theorem lx_k679 : pw_code 0 679 = some (.iaload) := by decide +kernel
set_option maxRecDepth 1000000 in
theorem lx_k680 : pw_code 0 680 = some (.invokevirtual 72) := by decide +kernel
set_option maxRecDepth 1000000 in
theorem lx_k683 : pw_code 0 683 = some (.pop) := by decide +kernel
set_option maxRecDepth 1000000 in
theorem lx_k684 : pw_code 0 684 = some (.aload_n 2) := by decide +kernel
set_option maxRecDepth 1000000 in
theorem lx_k685 : pw_code 0 685 = some (.aload_n 0) := by decide +kernel
set_option maxRecDepth 1000000 in
theorem lx_k686 : pw_code 0 686 = some (.iload_n 3) := by decide +kernel
set_option maxRecDepth 1000000 in
theorem lx_k687 : pw_code 0 687 = some (.iconst 1) := by decide +kernel
set_option maxRecDepth 1000000 in
theorem lx_k688 : pw_code 0 688 = some (.iadd) := by decide +kernel
set_option maxRecDepth 1000000 in
theorem lx_k689 : pw_code 0 689 = some (.iaload) := by decide +kernel
set_option maxRecDepth 1000000 in
theorem lx_k690 : pw_code 0 690 = some (.aload_n 0) := by decide +kernel
set_option maxRecDepth 1000000 in
theorem lx_k691 : pw_code 0 691 = some (.iload_n 3) := by decide +kernel
set_option maxRecDepth 1000000 in
theorem lx_k692 : pw_code 0 692 = some (.iconst 2) := by decide +kernel
set_option maxRecDepth 1000000 in
theorem lx_k693 : pw_code 0 693 = some (.iadd) := by decide +kernel
set_option maxRecDepth 1000000 in
theorem lx_k694 : pw_code 0 694 = some (.iaload) := by decide +kernel
set_option maxRecDepth 1000000 in
theorem lx_k695 : pw_code 0 695 = some (.invokevirtual 75) := by decide +kernel
set_option maxRecDepth 1000000 in
theorem lx_k698 : pw_code 0 698 = some (.pop) := by decide +kernel
set_option maxRecDepth 1000000 in
theorem lx_k699 : pw_code 0 699 = some (.goto 1331) := by decide +kernel
set_option maxRecDepth 1000000 in
theorem lx_k702 : pw_code 0 702 = some (.aload_n 1) := by decide +kernel
set_option maxRecDepth 1000000 in
theorem lx_k703 : pw_code 0 703 = some (.aload_n 0) := by decide +kernel
set_option maxRecDepth 1000000 in
theorem lx_k704 : pw_code 0 704 = some (.iload_n 3) := by decide +kernel
set_option maxRecDepth 1000000 in
theorem lx_k705 : pw_code 0 705 = some (.iconst 1) := by decide +kernel
set_option maxRecDepth 1000000 in
theorem lx_k706 : pw_code 0 706 = some (.iadd) := by decide +kernel
set_option maxRecDepth 1000000 in
theorem lx_k707 : pw_code 0 707 = some (.iaload) := by decide +kernel
set_option maxRecDepth 1000000 in
theorem lx_k708 : pw_code 0 708 = some (.aload_n 0) := by decide +kernel
set_option maxRecDepth 1000000 in
theorem lx_k709 : pw_code 0 709 = some (.iload_n 3) := by decide +kernel
set_option maxRecDepth 1000000 in
theorem lx_k710 : pw_code 0 710 = some (.iconst 2) := by decide +kernel
set_option maxRecDepth 1000000 in
theorem lx_k711 : pw_code 0 711 = some (.iadd) := by decide +kernel
set_option maxRecDepth 1000000 in
theorem lx_k712 : pw_code 0 712 = some (.iaload) := by decide +kernel
set_option maxRecDepth 1000000 in
theorem lx_k713 : pw_code 0 713 = some (.ifCond .eq 7) := by decide +kernel
set_option maxRecDepth 1000000 in
theorem lx_k716 : pw_code 0 716 = some (.iconst 1) := by decide +kernel
set_option maxRecDepth 1000000 in
theorem lx_k717 : pw_code 0 717 = some (.goto 4) := by decide +kernel
set_option maxRecDepth 1000000 in
theorem lx_k720 : pw_code 0 720 = some (.iconst 0) := by decide +kernel
set_option maxRecDepth 1000000 in
theorem lx_k721 : pw_code 0 721 = some (.aload_n 0) := by decide +kernel
set_option maxRecDepth 1000000 in
theorem lx_k722 : pw_code 0 722 = some (.iload_n 3) := by decide +kernel
set_option maxRecDepth 1000000 in
theorem lx_k723 : pw_code 0 723 = some (.iconst 3) := by decide +kernel
set_option maxRecDepth 1000000 in
theorem lx_k724 : pw_code 0 724 = some (.iadd) := by decide +kernel
set_option maxRecDepth 1000000 in
theorem lx_k725 : pw_code 0 725 = some (.iaload) := by decide +kernel
set_option maxRecDepth 1000000 in
theorem lx_k726 : pw_code 0 726 = some (.aload_n 0) := by decide +kernel
set_option maxRecDepth 1000000 in
theorem lx_k727 : pw_code 0 727 = some (.iload_n 3) := by decide +kernel
set_option maxRecDepth 1000000 in
theorem lx_k728 : pw_code 0 728 = some (.iconst 4) := by decide +kernel
set_option maxRecDepth 1000000 in
theorem lx_k729 : pw_code 0 729 = some (.iadd) := by decide +kernel
set_option maxRecDepth 1000000 in
theorem lx_k730 : pw_code 0 730 = some (.iaload) := by decide +kernel
set_option maxRecDepth 1000000 in
theorem lx_k731 : pw_code 0 731 = some (.aload_n 0) := by decide +kernel
set_option maxRecDepth 1000000 in
theorem lx_k732 : pw_code 0 732 = some (.iload_n 3) := by decide +kernel
set_option maxRecDepth 1000000 in
theorem lx_k733 : pw_code 0 733 = some (.iconst 5) := by decide +kernel
set_option maxRecDepth 1000000 in
theorem lx_k734 : pw_code 0 734 = some (.iadd) := by decide +kernel
set_option maxRecDepth 1000000 in
theorem lx_k735 : pw_code 0 735 = some (.iaload) := by decide +kernel
set_option maxRecDepth 1000000 in
theorem lx_k736 : pw_code 0 736 = some (.invokevirtual 76) := by decide +kernel
set_option maxRecDepth 1000000 in
theorem lx_k739 : pw_code 0 739 = some (.pop) := by decide +kernel
set_option maxRecDepth 1000000 in
theorem lx_k740 : pw_code 0 740 = some (.aload_n 2) := by decide +kernel
set_option maxRecDepth 1000000 in
theorem lx_k741 : pw_code 0 741 = some (.aload_n 0) := by decide +kernel
set_option maxRecDepth 1000000 in
theorem lx_k742 : pw_code 0 742 = some (.iload_n 3) := by decide +kernel
set_option maxRecDepth 1000000 in
theorem lx_k743 : pw_code 0 743 = some (.iconst 1) := by decide +kernel
set_option maxRecDepth 1000000 in
theorem lx_k744 : pw_code 0 744 = some (.iadd) := by decide +kernel
set_option maxRecDepth 1000000 in
theorem lx_k745 : pw_code 0 745 = some (.iaload) := by decide +kernel
set_option maxRecDepth 1000000 in
theorem lx_k746 : pw_code 0 746 = some (.aload_n 0) := by decide +kernel
set_option maxRecDepth 1000000 in
theorem lx_k747 : pw_code 0 747 = some (.iload_n 3) := by decide +kernel
set_option maxRecDepth 1000000 in
theorem lx_k748 : pw_code 0 748 = some (.iconst 2) := by decide +kernel
set_option maxRecDepth 1000000 in
theorem lx_k749 : pw_code 0 749 = some (.iadd) := by decide +kernel
set_option maxRecDepth 1000000 in
theorem lx_k750 : pw_code 0 750 = some (.iaload) := by decide +kernel
set_option maxRecDepth 1000000 in
theorem lx_k751 : pw_code 0 751 = some (.ifCond .eq 7) := by decide +kernel
set_option maxRecDepth 1000000 in
theorem lx_k754 : pw_code 0 754 = some (.iconst 1) := by decide +kernel
set_option maxRecDepth 1000000 in
theorem lx_k755 : pw_code 0 755 = some (.goto 4) := by decide +kernel
set_option maxRecDepth 1000000 in
theorem lx_k758 : pw_code 0 758 = some (.iconst 0) := by decide +kernel
set_option maxRecDepth 1000000 in
theorem lx_k759 : pw_code 0 759 = some (.aload_n 0) := by decide +kernel
set_option maxRecDepth 1000000 in
theorem lx_k760 : pw_code 0 760 = some (.iload_n 3) := by decide +kernel
set_option maxRecDepth 1000000 in
theorem lx_k761 : pw_code 0 761 = some (.iconst 3) := by decide +kernel
set_option maxRecDepth 1000000 in
theorem lx_k762 : pw_code 0 762 = some (.iadd) := by decide +kernel
set_option maxRecDepth 1000000 in
theorem lx_k763 : pw_code 0 763 = some (.iaload) := by decide +kernel
set_option maxRecDepth 1000000 in
theorem lx_k764 : pw_code 0 764 = some (.aload_n 0) := by decide +kernel
set_option maxRecDepth 1000000 in
theorem lx_k765 : pw_code 0 765 = some (.iload_n 3) := by decide +kernel
set_option maxRecDepth 1000000 in
theorem lx_k766 : pw_code 0 766 = some (.iconst 4) := by decide +kernel
set_option maxRecDepth 1000000 in
theorem lx_k767 : pw_code 0 767 = some (.iadd) := by decide +kernel
set_option maxRecDepth 1000000 in
theorem lx_k768 : pw_code 0 768 = some (.iaload) := by decide +kernel
set_option maxRecDepth 1000000 in
theorem lx_k769 : pw_code 0 769 = some (.aload_n 0) := by decide +kernel
set_option maxRecDepth 1000000 in
theorem lx_k770 : pw_code 0 770 = some (.iload_n 3) := by decide +kernel
set_option maxRecDepth 1000000 in
theorem lx_k771 : pw_code 0 771 = some (.iconst 5) := by decide +kernel
set_option maxRecDepth 1000000 in
theorem lx_k772 : pw_code 0 772 = some (.iadd) := by decide +kernel
set_option maxRecDepth 1000000 in
theorem lx_k773 : pw_code 0 773 = some (.iaload) := by decide +kernel
set_option maxRecDepth 1000000 in
theorem lx_k774 : pw_code 0 774 = some (.invokevirtual 80) := by decide +kernel
set_option maxRecDepth 1000000 in
theorem lx_k777 : pw_code 0 777 = some (.pop) := by decide +kernel
set_option maxRecDepth 1000000 in
theorem lx_k778 : pw_code 0 778 = some (.goto 1252) := by decide +kernel
set_option maxRecDepth 1000000 in
theorem lx_k781 : pw_code 0 781 = some (.aload_n 1) := by decide +kernel
set_option maxRecDepth 1000000 in
theorem lx_k782 : pw_code 0 782 = some (.invokevirtual 81) := by decide +kernel
set_option maxRecDepth 1000000 in
theorem lx_k785 : pw_code 0 785 = some (.pop) := by decide +kernel
set_option maxRecDepth 1000000 in
theorem lx_k786 : pw_code 0 786 = some (.aload_n 2) := by decide +kernel
set_option maxRecDepth 1000000 in
theorem lx_k787 : pw_code 0 787 = some (.invokevirtual 84) := by decide +kernel
set_option maxRecDepth 1000000 in
theorem lx_k790 : pw_code 0 790 = some (.pop) := by decide +kernel
set_option maxRecDepth 1000000 in
theorem lx_k791 : pw_code 0 791 = some (.goto 1239) := by decide +kernel
set_option maxRecDepth 1000000 in
theorem lx_k794 : pw_code 0 794 = some (.aload_n 1) := by decide +kernel
set_option maxRecDepth 1000000 in
theorem lx_k795 : pw_code 0 795 = some (.invokevirtual 85) := by decide +kernel
set_option maxRecDepth 1000000 in
theorem lx_k798 : pw_code 0 798 = some (.pop) := by decide +kernel
set_option maxRecDepth 1000000 in
theorem lx_k799 : pw_code 0 799 = some (.aload_n 2) := by decide +kernel
set_option maxRecDepth 1000000 in
theorem lx_k800 : pw_code 0 800 = some (.invokevirtual 88) := by decide +kernel
set_option maxRecDepth 1000000 in
theorem lx_k803 : pw_code 0 803 = some (.pop) := by decide +kernel
set_option maxRecDepth 1000000 in
theorem lx_k804 : pw_code 0 804 = some (.goto 1226) := by decide +kernel
set_option maxRecDepth 1000000 in
theorem lx_k807 : pw_code 0 807 = some (.aload_n 1) := by decide +kernel
set_option maxRecDepth 1000000 in
theorem lx_k808 : pw_code 0 808 = some (.invokevirtual 89) := by decide +kernel
set_option maxRecDepth 1000000 in
theorem lx_k811 : pw_code 0 811 = some (.pop) := by decide +kernel
set_option maxRecDepth 1000000 in
theorem lx_k812 : pw_code 0 812 = some (.aload_n 2) := by decide +kernel
set_option maxRecDepth 1000000 in
theorem lx_k813 : pw_code 0 813 = some (.invokevirtual 92) := by decide +kernel
set_option maxRecDepth 1000000 in
theorem lx_k816 : pw_code 0 816 = some (.pop) := by decide +kernel
set_option maxRecDepth 1000000 in
theorem lx_k817 : pw_code 0 817 = some (.goto 1213) := by decide +kernel
set_option maxRecDepth 1000000 in
theorem lx_k820 : pw_code 0 820 = some (.aload_n 1) := by decide +kernel
set_option maxRecDepth 1000000 in
theorem lx_k821 : pw_code 0 821 = some (.invokevirtual 93) := by decide +kernel
set_option maxRecDepth 1000000 in
theorem lx_k824 : pw_code 0 824 = some (.pop) := by decide +kernel
set_option maxRecDepth 1000000 in
theorem lx_k825 : pw_code 0 825 = some (.aload_n 2) := by decide +kernel
set_option maxRecDepth 1000000 in
theorem lx_k826 : pw_code 0 826 = some (.invokevirtual 96) := by decide +kernel
set_option maxRecDepth 1000000 in
theorem lx_k829 : pw_code 0 829 = some (.pop) := by decide +kernel
set_option maxRecDepth 1000000 in
theorem lx_k830 : pw_code 0 830 = some (.goto 1200) := by decide +kernel
set_option maxRecDepth 1000000 in
theorem lx_k833 : pw_code 0 833 = some (.aload_n 1) := by decide +kernel
set_option maxRecDepth 1000000 in
theorem lx_k834 : pw_code 0 834 = some (.aload_n 0) := by decide +kernel
set_option maxRecDepth 1000000 in
theorem lx_k835 : pw_code 0 835 = some (.iload_n 3) := by decide +kernel
set_option maxRecDepth 1000000 in
theorem lx_k836 : pw_code 0 836 = some (.iconst 1) := by decide +kernel
set_option maxRecDepth 1000000 in
theorem lx_k837 : pw_code 0 837 = some (.iadd) := by decide +kernel
set_option maxRecDepth 1000000 in
theorem lx_k838 : pw_code 0 838 = some (.iaload) := by decide +kernel
set_option maxRecDepth 1000000 in
theorem lx_k839 : pw_code 0 839 = some (.invokevirtual 97) := by decide +kernel
set_option maxRecDepth 1000000 in
theorem lx_k842 : pw_code 0 842 = some (.pop) := by decide +kernel
set_option maxRecDepth 1000000 in
theorem lx_k843 : pw_code 0 843 = some (.aload_n 2) := by decide +kernel
set_option maxRecDepth 1000000 in
theorem lx_k844 : pw_code 0 844 = some (.aload_n 0) := by decide +kernel
set_option maxRecDepth 1000000 in
theorem lx_k845 : pw_code 0 845 = some (.iload_n 3) := by decide +kernel
set_option maxRecDepth 1000000 in
theorem lx_k846 : pw_code 0 846 = some (.iconst 1) := by decide +kernel
set_option maxRecDepth 1000000 in
theorem lx_k847 : pw_code 0 847 = some (.iadd) := by decide +kernel
set_option maxRecDepth 1000000 in
theorem lx_k848 : pw_code 0 848 = some (.iaload) := by decide +kernel
set_option maxRecDepth 1000000 in
theorem lx_k849 : pw_code 0 849 = some (.invokevirtual 100) := by decide +kernel
set_option maxRecDepth 1000000 in
theorem lx_k852 : pw_code 0 852 = some (.pop) := by decide +kernel
set_option maxRecDepth 1000000 in
theorem lx_k853 : pw_code 0 853 = some (.goto 1177) := by decide +kernel
set_option maxRecDepth 1000000 in
theorem lx_k856 : pw_code 0 856 = some (.aload_n 1) := by decide +kernel
set_option maxRecDepth 1000000 in
theorem lx_k857 : pw_code 0 857 = some (.aload_n 0) := by decide +kernel
set_option maxRecDepth 1000000 in
theorem lx_k858 : pw_code 0 858 = some (.iload_n 3) := by decide +kernel
set_option maxRecDepth 1000000 in
theorem lx_k859 : pw_code 0 859 = some (.iconst 1) := by decide +kernel
set_option maxRecDepth 1000000 in
theorem lx_k860 : pw_code 0 860 = some (.iadd) := by decide +kernel
set_option maxRecDepth 1000000 in
theorem lx_k861 : pw_code 0 861 = some (.iaload) := by decide +kernel
set_option maxRecDepth 1000000 in
theorem lx_k862 : pw_code 0 862 = some (.invokevirtual 101) := by decide +kernel
set_option maxRecDepth 1000000 in
theorem lx_k865 : pw_code 0 865 = some (.pop) := by decide +kernel
set_option maxRecDepth 1000000 in
theorem lx_k866 : pw_code 0 866 = some (.aload_n 2) := by decide +kernel
set_option maxRecDepth 1000000 in
theorem lx_k867 : pw_code 0 867 = some (.aload_n 0) := by decide +kernel
set_option maxRecDepth 1000000 in
theorem lx_k868 : pw_code 0 868 = some (.iload_n 3) := by decide +kernel
set_option maxRecDepth 1000000 in
theorem lx_k869 : pw_code 0 869 = some (.iconst 1) := by decide +kernel
set_option maxRecDepth 1000000 in
theorem lx_k870 : pw_code 0 870 = some (.iadd) := by decide +kernel
set_option maxRecDepth 1000000 in
theorem lx_k871 : pw_code 0 871 = some (.iaload) := by decide +kernel
set_option maxRecDepth 1000000 in
theorem lx_k872 : pw_code 0 872 = some (.invokevirtual 104) := by decide +kernel
set_option maxRecDepth 1000000 in
theorem lx_k875 : pw_code 0 875 = some (.pop) := by decide +kernel
set_option maxRecDepth 1000000 in
theorem lx_k876 : pw_code 0 876 = some (.goto 1154) := by decide +kernel
set_option maxRecDepth 1000000 in
theorem lx_k879 : pw_code 0 879 = some (.aload_n 1) := by decide +kernel
set_option maxRecDepth 1000000 in
theorem lx_k880 : pw_code 0 880 = some (.aload_n 0) := by decide +kernel
set_option maxRecDepth 1000000 in
theorem lx_k881 : pw_code 0 881 = some (.iload_n 3) := by decide +kernel
set_option maxRecDepth 1000000 in
theorem lx_k882 : pw_code 0 882 = some (.iconst 1) := by decide +kernel
set_option maxRecDepth 1000000 in
theorem lx_k883 : pw_code 0 883 = some (.iadd) := by decide +kernel
set_option maxRecDepth 1000000 in
theorem lx_k884 : pw_code 0 884 = some (.iaload) := by decide +kernel
set_option maxRecDepth 1000000 in
theorem lx_k885 : pw_code 0 885 = some (.aload_n 0) := by decide +kernel
set_option maxRecDepth 1000000 in
theorem lx_k886 : pw_code 0 886 = some (.iload_n 3) := by decide +kernel
set_option maxRecDepth 1000000 in
theorem lx_k887 : pw_code 0 887 = some (.iconst 2) := by decide +kernel
set_option maxRecDepth 1000000 in
theorem lx_k888 : pw_code 0 888 = some (.iadd) := by decide +kernel
set_option maxRecDepth 1000000 in
theorem lx_k889 : pw_code 0 889 = some (.iaload) := by decide +kernel
set_option maxRecDepth 1000000 in
theorem lx_k890 : pw_code 0 890 = some (.invokevirtual 105) := by decide +kernel
set_option maxRecDepth 1000000 in
theorem lx_k893 : pw_code 0 893 = some (.pop) := by decide +kernel
set_option maxRecDepth 1000000 in
theorem lx_k894 : pw_code 0 894 = some (.aload_n 2) := by decide +kernel
set_option maxRecDepth 1000000 in
theorem lx_k895 : pw_code 0 895 = some (.aload_n 0) := by decide +kernel
set_option maxRecDepth 1000000 in
theorem lx_k896 : pw_code 0 896 = some (.iload_n 3) := by decide +kernel
set_option maxRecDepth 1000000 in
theorem lx_k897 : pw_code 0 897 = some (.iconst 1) := by decide +kernel
set_option maxRecDepth 1000000 in
theorem lx_k898 : pw_code 0 898 = some (.iadd) := by decide +kernel
set_option maxRecDepth 1000000 in
theorem lx_k899 : pw_code 0 899 = some (.iaload) := by decide +kernel
set_option maxRecDepth 1000000 in
theorem lx_k900 : pw_code 0 900 = some (.aload_n 0) := by decide +kernel
set_option maxRecDepth 1000000 in
theorem lx_k901 : pw_code 0 901 = some (.iload_n 3) := by decide +kernel
set_option maxRecDepth 1000000 in
theorem lx_k902 : pw_code 0 902 = some (.iconst 2) := by decide +kernel
set_option maxRecDepth 1000000 in
theorem lx_k903 : pw_code 0 903 = some (.iadd) := by decide +kernel
set_option maxRecDepth 1000000 in
theorem lx_k904 : pw_code 0 904 = some (.iaload) := by decide +kernel
set_option maxRecDepth 1000000 in
theorem lx_k905 : pw_code 0 905 = some (.invokevirtual 108) := by decide +kernel
set_option maxRecDepth 1000000 in
theorem lx_k908 : pw_code 0 908 = some (.pop) := by decide +kernel
set_option maxRecDepth 1000000 in
theorem lx_k909 : pw_code 0 909 = some (.goto 1121) := by decide +kernel
set_option maxRecDepth 1000000 in
theorem lx_k912 : pw_code 0 912 = some (.aload_n 1) := by decide +kernel
set_option maxRecDepth 1000000 in
theorem lx_k913 : pw_code 0 913 = some (.aload_n 0) := by decide +kernel
set_option maxRecDepth 1000000 in
theorem lx_k914 : pw_code 0 914 = some (.iload_n 3) := by decide +kernel
set_option maxRecDepth 1000000 in
theorem lx_k915 : pw_code 0 915 = some (.iconst 1) := by decide +kernel
set_option maxRecDepth 1000000 in
theorem lx_k916 : pw_code 0 916 = some (.iadd) := by decide +kernel
set_option maxRecDepth 1000000 in
theorem lx_k917 : pw_code 0 917 = some (.iaload) := by decide +kernel
set_option maxRecDepth 1000000 in
theorem lx_k918 : pw_code 0 918 = some (.aload_n 0) := by decide +kernel
set_option maxRecDepth 1000000 in
theorem lx_k919 : pw_code 0 919 = some (.iload_n 3) := by decide +kernel
set_option maxRecDepth 1000000 in
theorem lx_k920 : pw_code 0 920 = some (.iconst 2) := by decide +kernel
set_option maxRecDepth 1000000 in
theorem lx_k921 : pw_code 0 921 = some (.iadd) := by decide +kernel
set_option maxRecDepth 1000000 in
theorem lx_k922 : pw_code 0 922 = some (.iaload) := by decide +kernel
set_option maxRecDepth 1000000 in
theorem lx_k923 : pw_code 0 923 = some (.invokevirtual 109) := by decide +kernel
set_option maxRecDepth 1000000 in
theorem lx_k926 : pw_code 0 926 = some (.pop) := by decide +kernel
set_option maxRecDepth 1000000 in
theorem lx_k927 : pw_code 0 927 = some (.aload_n 2) := by decide +kernel
set_option maxRecDepth 1000000 in
theorem lx_k928 : pw_code 0 928 = some (.aload_n 0) := by decide +kernel
set_option maxRecDepth 1000000 in
theorem lx_k929 : pw_code 0 929 = some (.iload_n 3) := by decide +kernel
set_option maxRecDepth 1000000 in
theorem lx_k930 : pw_code 0 930 = some (.iconst 1) := by decide +kernel
set_option maxRecDepth 1000000 in
theorem lx_k931 : pw_code 0 931 = some (.iadd) := by decide +kernel
set_option maxRecDepth 1000000 in
theorem lx_k932 : pw_code 0 932 = some (.iaload) := by decide +kernel
set_option maxRecDepth 1000000 in
theorem lx_k933 : pw_code 0 933 = some (.aload_n 0) := by decide +kernel
set_option maxRecDepth 1000000 in
theorem lx_k934 : pw_code 0 934 = some (.iload_n 3) := by decide +kernel
set_option maxRecDepth 1000000 in
theorem lx_k935 : pw_code 0 935 = some (.iconst 2) := by decide +kernel
set_option maxRecDepth 1000000 in
theorem lx_k936 : pw_code 0 936 = some (.iadd) := by decide +kernel
set_option maxRecDepth 1000000 in
theorem lx_k937 : pw_code 0 937 = some (.iaload) := by decide +kernel
set_option maxRecDepth 1000000 in
theorem lx_k938 : pw_code 0 938 = some (.invokevirtual 112) := by decide +kernel
set_option maxRecDepth 1000000 in
theorem lx_k941 : pw_code 0 941 = some (.pop) := by decide +kernel
set_option maxRecDepth 1000000 in
theorem lx_k942 : pw_code 0 942 = some (.goto 1088) := by decide +kernel
set_option maxRecDepth 1000000 in
theorem lx_k945 : pw_code 0 945 = some (.aload_n 1) := by decide +kernel
set_option maxRecDepth 1000000 in
theorem lx_k946 : pw_code 0 946 = some (.aload_n 0) := by decide +kernel
set_option maxRecDepth 1000000 in
theorem lx_k947 : pw_code 0 947 = some (.iload_n 3) := by decide +kernel
set_option maxRecDepth 1000000 in
theorem lx_k948 : pw_code 0 948 = some (.iconst 1) := by decide +kernel
set_option maxRecDepth 1000000 in
theorem lx_k949 : pw_code 0 949 = some (.iadd) := by decide +kernel
set_option maxRecDepth 1000000 in
theorem lx_k950 : pw_code 0 950 = some (.iaload) := by decide +kernel
set_option maxRecDepth 1000000 in
theorem lx_k951 : pw_code 0 951 = some (.aload_n 0) := by decide +kernel
set_option maxRecDepth 1000000 in
theorem lx_k952 : pw_code 0 952 = some (.iload_n 3) := by decide +kernel
set_option maxRecDepth 1000000 in
theorem lx_k953 : pw_code 0 953 = some (.iconst 2) := by decide +kernel
set_option maxRecDepth 1000000 in
theorem lx_k954 : pw_code 0 954 = some (.iadd) := by decide +kernel
set_option maxRecDepth 1000000 in
theorem lx_k955 : pw_code 0 955 = some (.iaload) := by decide +kernel
set_option maxRecDepth 1000000 in
theorem lx_k956 : pw_code 0 956 = some (.invokevirtual 113) := by decide +kernel
set_option maxRecDepth 1000000 in
theorem lx_k959 : pw_code 0 959 = some (.aload_n 2) := by decide +kernel
set_option maxRecDepth 1000000 in
theorem lx_k960 : pw_code 0 960 = some (.aload_n 0) := by decide +kernel
set_option maxRecDepth 1000000 in
theorem lx_k961 : pw_code 0 961 = some (.iload_n 3) := by decide +kernel
set_option maxRecDepth 1000000 in
theorem lx_k962 : pw_code 0 962 = some (.iconst 1) := by decide +kernel
set_option maxRecDepth 1000000 in
theorem lx_k963 : pw_code 0 963 = some (.iadd) := by decide +kernel
set_option maxRecDepth 1000000 in
theorem lx_k964 : pw_code 0 964 = some (.iaload) := by decide +kernel
set_option maxRecDepth 1000000 in
theorem lx_k965 : pw_code 0 965 = some (.aload_n 0) := by decide +kernel
set_option maxRecDepth 1000000 in
theorem lx_k966 : pw_code 0 966 = some (.iload_n 3) := by decide +kernel
set_option maxRecDepth 1000000 in
theorem lx_k967 : pw_code 0 967 = some (.iconst 2) := by decide +kernel
set_option maxRecDepth 1000000 in
theorem lx_k968 : pw_code 0 968 = some (.iadd) := by decide +kernel
set_option maxRecDepth 1000000 in
theorem lx_k969 : pw_code 0 969 = some (.iaload) := by decide +kernel
set_option maxRecDepth 1000000 in
theorem lx_k970 : pw_code 0 970 = some (.invokevirtual 116) := by decide +kernel
set_option maxRecDepth 1000000 in
theorem lx_k973 : pw_code 0 973 = some (.if_icmp .eq 1057) := by decide +kernel
set_option maxRecDepth 1000000 in
theorem lx_k976 : pw_code 0 976 = some (.iconst 0) := by decide +kernel
set_option maxRecDepth 1000000 in
theorem lx_k977 : pw_code 0 977 = some (.ireturn) := by decide +kernel
set_option maxRecDepth 1000000 in
theorem lx_k978 : pw_code 0 978 = some (.aload_n 1) := by decide +kernel
set_option maxRecDepth 1000000 in
theorem lx_k979 : pw_code 0 979 = some (.aload_n 0) := by decide +kernel
set_option maxRecDepth 1000000 in
theorem lx_k980 : pw_code 0 980 = some (.iload_n 3) := by decide +kernel
set_option maxRecDepth 1000000 in
theorem lx_k981 : pw_code 0 981 = some (.iconst 1) := by decide +kernel
set_option maxRecDepth 1000000 in
theorem lx_k982 : pw_code 0 982 = some (.iadd) := by decide +kernel
set_option maxRecDepth 1000000 in
theorem lx_k983 : pw_code 0 983 = some (.iaload) := by decide +kernel
set_option maxRecDepth 1000000 in
theorem lx_k984 : pw_code 0 984 = some (.aload_n 0) := by decide +kernel
set_option maxRecDepth 1000000 in
theorem lx_k985 : pw_code 0 985 = some (.iload_n 3) := by decide +kernel
set_option maxRecDepth 1000000 in
theorem lx_k986 : pw_code 0 986 = some (.iconst 2) := by decide +kernel
set_option maxRecDepth 1000000 in
theorem lx_k987 : pw_code 0 987 = some (.iadd) := by decide +kernel
set_option maxRecDepth 1000000 in
theorem lx_k988 : pw_code 0 988 = some (.iaload) := by decide +kernel
set_option maxRecDepth 1000000 in
theorem lx_k989 : pw_code 0 989 = some (.invokevirtual 117) := by decide +kernel
set_option maxRecDepth 1000000 in
theorem lx_k992 : pw_code 0 992 = some (.pop) := by decide +kernel
set_option maxRecDepth 1000000 in
theorem lx_k993 : pw_code 0 993 = some (.aload_n 2) := by decide +kernel
set_option maxRecDepth 1000000 in
theorem lx_k994 : pw_code 0 994 = some (.aload_n 0) := by decide +kernel
set_option maxRecDepth 1000000 in
theorem lx_k995 : pw_code 0 995 = some (.iload_n 3) := by decide +kernel
set_option maxRecDepth 1000000 in
theorem lx_k996 : pw_code 0 996 = some (.iconst 1) := by decide +kernel
set_option maxRecDepth 1000000 in
theorem lx_k997 : pw_code 0 997 = some (.iadd) := by decide +kernel
set_option maxRecDepth 1000000 in
theorem lx_k998 : pw_code 0 998 = some (.iaload) := by decide +kernel
set_option maxRecDepth 1000000 in
theorem lx_k999 : pw_code 0 999 = some (.aload_n 0) := by decide +kernel
set_option maxRecDepth 1000000 in
theorem lx_k1000 : pw_code 0 1000 = some (.iload_n 3) := by decide +kernel
set_option maxRecDepth 1000000 in
theorem lx_k1001 : pw_code 0 1001 = some (.iconst 2) := by decide +kernel
set_option maxRecDepth 1000000 in
theorem lx_k1002 : pw_code 0 1002 = some (.iadd) := by decide +kernel
set_option maxRecDepth 1000000 in
theorem lx_k1003 : pw_code 0 1003 = some (.iaload) := by decide +kernel
set_option maxRecDepth 1000000 in
theorem lx_k1004 : pw_code 0 1004 = some (.invokevirtual 120) := by decide +kernel
set_option maxRecDepth 1000000 in
theorem lx_k1007 : pw_code 0 1007 = some (.pop) := by decide +kernel
set_option maxRecDepth 1000000 in
theorem lx_k1008 : pw_code 0 1008 = some (.goto 1022) := by decide +kernel
set_option maxRecDepth 1000000 in
theorem lx_k1011 : pw_code 0 1011 = some (.aload_n 1) := by decide +kernel
set_option maxRecDepth 1000000 in
theorem lx_k1012 : pw_code 0 1012 = some (.aload_n 0) := by decide +kernel
set_option maxRecDepth 1000000 in
theorem lx_k1013 : pw_code 0 1013 = some (.iload_n 3) := by decide +kernel
set_option maxRecDepth 1000000 in
theorem lx_k1014 : pw_code 0 1014 = some (.iconst 1) := by decide +kernel
set_option maxRecDepth 1000000 in
theorem lx_k1015 : pw_code 0 1015 = some (.iadd) := by decide +kernel
set_option maxRecDepth 1000000 in
theorem lx_k1016 : pw_code 0 1016 = some (.iaload) := by decide +kernel
set_option maxRecDepth 1000000 in
theorem lx_k1017 : pw_code 0 1017 = some (.aload_n 0) := by decide +kernel
set_option maxRecDepth 1000000 in
theorem lx_k1018 : pw_code 0 1018 = some (.iload_n 3) := by decide +kernel
set_option maxRecDepth 1000000 in
theorem lx_k1019 : pw_code 0 1019 = some (.iconst 2) := by decide +kernel
set_option maxRecDepth 1000000 in
theorem lx_k1020 : pw_code 0 1020 = some (.iadd) := by decide +kernel
set_option maxRecDepth 1000000 in
theorem lx_k1021 : pw_code 0 1021 = some (.iaload) := by decide +kernel
set_option maxRecDepth 1000000 in
theorem lx_k1022 : pw_code 0 1022 = some (.invokevirtual 121) := by decide +kernel
set_option maxRecDepth 1000000 in
theorem lx_k1025 : pw_code 0 1025 = some (.pop) := by decide +kernel
set_option maxRecDepth 1000000 in
theorem lx_k1026 : pw_code 0 1026 = some (.aload_n 2) := by decide +kernel
set_option maxRecDepth 1000000 in
theorem lx_k1027 : pw_code 0 1027 = some (.aload_n 0) := by decide +kernel
set_option maxRecDepth 1000000 in
theorem lx_k1028 : pw_code 0 1028 = some (.iload_n 3) := by decide +kernel
set_option maxRecDepth 1000000 in
theorem lx_k1029 : pw_code 0 1029 = some (.iconst 1) := by decide +kernel
set_option maxRecDepth 1000000 in
theorem lx_k1030 : pw_code 0 1030 = some (.iadd) := by decide +kernel
set_option maxRecDepth 1000000 in
theorem lx_k1031 : pw_code 0 1031 = some (.iaload) := by decide +kernel
set_option maxRecDepth 1000000 in
theorem lx_k1032 : pw_code 0 1032 = some (.aload_n 0) := by decide +kernel
set_option maxRecDepth 1000000 in
theorem lx_k1033 : pw_code 0 1033 = some (.iload_n 3) := by decide +kernel
set_option maxRecDepth 1000000 in
theorem lx_k1034 : pw_code 0 1034 = some (.iconst 2) := by decide +kernel
set_option maxRecDepth 1000000 in
theorem lx_k1035 : pw_code 0 1035 = some (.iadd) := by decide +kernel
set_option maxRecDepth 1000000 in
theorem lx_k1036 : pw_code 0 1036 = some (.iaload) := by decide +kernel
set_option maxRecDepth 1000000 in
theorem lx_k1037 : pw_code 0 1037 = some (.invokevirtual 124) := by decide +kernel
set_option maxRecDepth 1000000 in
theorem lx_k1040 : pw_code 0 1040 = some (.pop) := by decide +kernel
set_option maxRecDepth 1000000 in
theorem lx_k1041 : pw_code 0 1041 = some (.goto 989) := by decide +kernel
set_option maxRecDepth 1000000 in
theorem lx_k1044 : pw_code 0 1044 = some (.aload_n 1) := by decide +kernel
set_option maxRecDepth 1000000 in
theorem lx_k1045 : pw_code 0 1045 = some (.aload_n 0) := by decide +kernel
set_option maxRecDepth 1000000 in
theorem lx_k1046 : pw_code 0 1046 = some (.iload_n 3) := by decide +kernel
set_option maxRecDepth 1000000 in
theorem lx_k1047 : pw_code 0 1047 = some (.iconst 1) := by decide +kernel
set_option maxRecDepth 1000000 in
theorem lx_k1048 : pw_code 0 1048 = some (.iadd) := by decide +kernel
set_option maxRecDepth 1000000 in
theorem lx_k1049 : pw_code 0 1049 = some (.iaload) := by decide +kernel
set_option maxRecDepth 1000000 in
theorem lx_k1050 : pw_code 0 1050 = some (.aload_n 0) := by decide +kernel
set_option maxRecDepth 1000000 in
theorem lx_k1051 : pw_code 0 1051 = some (.iload_n 3) := by decide +kernel
set_option maxRecDepth 1000000 in
theorem lx_k1052 : pw_code 0 1052 = some (.iconst 2) := by decide +kernel
set_option maxRecDepth 1000000 in
theorem lx_k1053 : pw_code 0 1053 = some (.iadd) := by decide +kernel
set_option maxRecDepth 1000000 in
theorem lx_k1054 : pw_code 0 1054 = some (.iaload) := by decide +kernel
set_option maxRecDepth 1000000 in
theorem lx_k1055 : pw_code 0 1055 = some (.invokevirtual 125) := by decide +kernel
set_option maxRecDepth 1000000 in
theorem lx_k1058 : pw_code 0 1058 = some (.pop) := by decide +kernel
set_option maxRecDepth 1000000 in
theorem lx_k1059 : pw_code 0 1059 = some (.aload_n 2) := by decide +kernel
set_option maxRecDepth 1000000 in
theorem lx_k1060 : pw_code 0 1060 = some (.aload_n 0) := by decide +kernel
set_option maxRecDepth 1000000 in
theorem lx_k1061 : pw_code 0 1061 = some (.iload_n 3) := by decide +kernel
set_option maxRecDepth 1000000 in
theorem lx_k1062 : pw_code 0 1062 = some (.iconst 1) := by decide +kernel
set_option maxRecDepth 1000000 in
theorem lx_k1063 : pw_code 0 1063 = some (.iadd) := by decide +kernel
set_option maxRecDepth 1000000 in
theorem lx_k1064 : pw_code 0 1064 = some (.iaload) := by decide +kernel
set_option maxRecDepth 1000000 in
theorem lx_k1065 : pw_code 0 1065 = some (.aload_n 0) := by decide +kernel
set_option maxRecDepth 1000000 in
theorem lx_k1066 : pw_code 0 1066 = some (.iload_n 3) := by decide +kernel
set_option maxRecDepth 1000000 in
theorem lx_k1067 : pw_code 0 1067 = some (.iconst 2) := by decide +kernel
set_option maxRecDepth 1000000 in
theorem lx_k1068 : pw_code 0 1068 = some (.iadd) := by decide +kernel
set_option maxRecDepth 1000000 in
theorem lx_k1069 : pw_code 0 1069 = some (.iaload) := by decide +kernel
set_option maxRecDepth 1000000 in
theorem lx_k1070 : pw_code 0 1070 = some (.invokevirtual 128) := by decide +kernel
set_option maxRecDepth 1000000 in
theorem lx_k1073 : pw_code 0 1073 = some (.pop) := by decide +kernel
set_option maxRecDepth 1000000 in
theorem lx_k1074 : pw_code 0 1074 = some (.goto 956) := by decide +kernel
set_option maxRecDepth 1000000 in
theorem lx_k1077 : pw_code 0 1077 = some (.aload_n 1) := by decide +kernel
set_option maxRecDepth 1000000 in
theorem lx_k1078 : pw_code 0 1078 = some (.aload_n 0) := by decide +kernel
set_option maxRecDepth 1000000 in
theorem lx_k1079 : pw_code 0 1079 = some (.iload_n 3) := by decide +kernel
set_option maxRecDepth 1000000 in
theorem lx_k1080 : pw_code 0 1080 = some (.iconst 1) := by decide +kernel
set_option maxRecDepth 1000000 in
theorem lx_k1081 : pw_code 0 1081 = some (.iadd) := by decide +kernel
set_option maxRecDepth 1000000 in
theorem lx_k1082 : pw_code 0 1082 = some (.iaload) := by decide +kernel
set_option maxRecDepth 1000000 in
theorem lx_k1083 : pw_code 0 1083 = some (.invokevirtual 129) := by decide +kernel
set_option maxRecDepth 1000000 in
theorem lx_k1086 : pw_code 0 1086 = some (.pop) := by decide +kernel
set_option maxRecDepth 1000000 in
theorem lx_k1087 : pw_code 0 1087 = some (.aload_n 2) := by decide +kernel
set_option maxRecDepth 1000000 in
theorem lx_k1088 : pw_code 0 1088 = some (.aload_n 0) := by decide +kernel
set_option maxRecDepth 1000000 in
theorem lx_k1089 : pw_code 0 1089 = some (.iload_n 3) := by decide +kernel
set_option maxRecDepth 1000000 in
theorem lx_k1090 : pw_code 0 1090 = some (.iconst 1) := by decide +kernel
set_option maxRecDepth 1000000 in
theorem lx_k1091 : pw_code 0 1091 = some (.iadd) := by decide +kernel
set_option maxRecDepth 1000000 in
theorem lx_k1092 : pw_code 0 1092 = some (.iaload) := by decide +kernel
set_option maxRecDepth 1000000 in
theorem lx_k1093 : pw_code 0 1093 = some (.invokevirtual 132) := by decide +kernel
set_option maxRecDepth 1000000 in
theorem lx_k1096 : pw_code 0 1096 = some (.pop) := by decide +kernel
set_option maxRecDepth 1000000 in
theorem lx_k1097 : pw_code 0 1097 = some (.goto 933) := by decide +kernel
set_option maxRecDepth 1000000 in
theorem lx_k1100 : pw_code 0 1100 = some (.aload_n 1) := by decide +kernel
set_option maxRecDepth 1000000 in
theorem lx_k1101 : pw_code 0 1101 = some (.invokevirtual 133) := by decide +kernel
set_option maxRecDepth 1000000 in
theorem lx_k1104 : pw_code 0 1104 = some (.pop) := by decide +kernel
set_option maxRecDepth 1000000 in
theorem lx_k1105 : pw_code 0 1105 = some (.aload_n 2) := by decide +kernel
set_option maxRecDepth 1000000 in
theorem lx_k1106 : pw_code 0 1106 = some (.invokevirtual 136) := by decide +kernel
set_option maxRecDepth 1000000 in
theorem lx_k1109 : pw_code 0 1109 = some (.pop) := by decide +kernel
set_option maxRecDepth 1000000 in
theorem lx_k1110 : pw_code 0 1110 = some (.goto 920) := by decide +kernel
set_option maxRecDepth 1000000 in
theorem lx_k1113 : pw_code 0 1113 = some (.aload_n 1) := by decide +kernel
set_option maxRecDepth 1000000 in
theorem lx_k1114 : pw_code 0 1114 = some (.aload_n 0) := by decide +kernel
set_option maxRecDepth 1000000 in
theorem lx_k1115 : pw_code 0 1115 = some (.iload_n 3) := by decide +kernel
set_option maxRecDepth 1000000 in
theorem lx_k1116 : pw_code 0 1116 = some (.iconst 1) := by decide +kernel
set_option maxRecDepth 1000000 in
theorem lx_k1117 : pw_code 0 1117 = some (.iadd) := by decide +kernel
set_option maxRecDepth 1000000 in
theorem lx_k1118 : pw_code 0 1118 = some (.iaload) := by decide +kernel
set_option maxRecDepth 1000000 in
theorem lx_k1119 : pw_code 0 1119 = some (.invokevirtual 137) := by decide +kernel
set_option maxRecDepth 1000000 in
theorem lx_k1122 : pw_code 0 1122 = some (.pop) := by decide +kernel
set_option maxRecDepth 1000000 in
theorem lx_k1123 : pw_code 0 1123 = some (.aload_n 2) := by decide +kernel
set_option maxRecDepth 1000000 in
theorem lx_k1124 : pw_code 0 1124 = some (.aload_n 0) := by decide +kernel
set_option maxRecDepth 1000000 in
theorem lx_k1125 : pw_code 0 1125 = some (.iload_n 3) := by decide +kernel
set_option maxRecDepth 1000000 in
theorem lx_k1126 : pw_code 0 1126 = some (.iconst 1) := by decide +kernel
set_option maxRecDepth 1000000 in
theorem lx_k1127 : pw_code 0 1127 = some (.iadd) := by decide +kernel
set_option maxRecDepth 1000000 in
theorem lx_k1128 : pw_code 0 1128 = some (.iaload) := by decide +kernel
set_option maxRecDepth 1000000 in
theorem lx_k1129 : pw_code 0 1129 = some (.invokevirtual 140) := by decide +kernel
set_option maxRecDepth 1000000 in
theorem lx_k1132 : pw_code 0 1132 = some (.pop) := by decide +kernel
set_option maxRecDepth 1000000 in
theorem lx_k1133 : pw_code 0 1133 = some (.goto 897) := by decide +kernel
set_option maxRecDepth 1000000 in
theorem lx_k1136 : pw_code 0 1136 = some (.aload_n 1) := by decide +kernel
set_option maxRecDepth 1000000 in
theorem lx_k1137 : pw_code 0 1137 = some (.aload_n 0) := by decide +kernel
set_option maxRecDepth 1000000 in
theorem lx_k1138 : pw_code 0 1138 = some (.iload_n 3) := by decide +kernel
set_option maxRecDepth 1000000 in
theorem lx_k1139 : pw_code 0 1139 = some (.iconst 1) := by decide +kernel
set_option maxRecDepth 1000000 in
theorem lx_k1140 : pw_code 0 1140 = some (.iadd) := by decide +kernel
set_option maxRecDepth 1000000 in
theorem lx_k1141 : pw_code 0 1141 = some (.iaload) := by decide +kernel
set_option maxRecDepth 1000000 in
theorem lx_k1142 : pw_code 0 1142 = some (.aload_n 0) := by decide +kernel
set_option maxRecDepth 1000000 in
theorem lx_k1143 : pw_code 0 1143 = some (.iload_n 3) := by decide +kernel
set_option maxRecDepth 1000000 in
theorem lx_k1144 : pw_code 0 1144 = some (.iconst 2) := by decide +kernel
set_option maxRecDepth 1000000 in
theorem lx_k1145 : pw_code 0 1145 = some (.iadd) := by decide +kernel
set_option maxRecDepth 1000000 in
theorem lx_k1146 : pw_code 0 1146 = some (.iaload) := by decide +kernel
set_option maxRecDepth 1000000 in
theorem lx_k1147 : pw_code 0 1147 = some (.invokevirtual 141) := by decide +kernel
set_option maxRecDepth 1000000 in
theorem lx_k1150 : pw_code 0 1150 = some (.pop) := by decide +kernel
set_option maxRecDepth 1000000 in
theorem lx_k1151 : pw_code 0 1151 = some (.aload_n 2) := by decide +kernel
set_option maxRecDepth 1000000 in
theorem lx_k1152 : pw_code 0 1152 = some (.aload_n 0) := by decide +kernel
set_option maxRecDepth 1000000 in
theorem lx_k1153 : pw_code 0 1153 = some (.iload_n 3) := by decide +kernel
set_option maxRecDepth 1000000 in
theorem lx_k1154 : pw_code 0 1154 = some (.iconst 1) := by decide +kernel
set_option maxRecDepth 1000000 in
theorem lx_k1155 : pw_code 0 1155 = some (.iadd) := by decide +kernel
set_option maxRecDepth 1000000 in
theorem lx_k1156 : pw_code 0 1156 = some (.iaload) := by decide +kernel
set_option maxRecDepth 1000000 in
theorem lx_k1157 : pw_code 0 1157 = some (.aload_n 0) := by decide +kernel
set_option maxRecDepth 1000000 in
theorem lx_k1158 : pw_code 0 1158 = some (.iload_n 3) := by decide +kernel
set_option maxRecDepth 1000000 in
theorem lx_k1159 : pw_code 0 1159 = some (.iconst 2) := by decide +kernel
set_option maxRecDepth 1000000 in
theorem lx_k1160 : pw_code 0 1160 = some (.iadd) := by decide +kernel
set_option maxRecDepth 1000000 in
theorem lx_k1161 : pw_code 0 1161 = some (.iaload) := by decide +kernel
set_option maxRecDepth 1000000 in
theorem lx_k1162 : pw_code 0 1162 = some (.invokevirtual 144) := by decide +kernel
set_option maxRecDepth 1000000 in
theorem lx_k1165 : pw_code 0 1165 = some (.pop) := by decide +kernel
set_option maxRecDepth 1000000 in
theorem lx_k1166 : pw_code 0 1166 = some (.goto 864) := by decide +kernel
set_option maxRecDepth 1000000 in
theorem lx_k1169 : pw_code 0 1169 = some (.aload_n 1) := by decide +kernel
set_option maxRecDepth 1000000 in
theorem lx_k1170 : pw_code 0 1170 = some (.aload_n 0) := by decide +kernel
set_option maxRecDepth 1000000 in
theorem lx_k1171 : pw_code 0 1171 = some (.iload_n 3) := by decide +kernel
set_option maxRecDepth 1000000 in
theorem lx_k1172 : pw_code 0 1172 = some (.iconst 1) := by decide +kernel
set_option maxRecDepth 1000000 in
theorem lx_k1173 : pw_code 0 1173 = some (.iadd) := by decide +kernel
set_option maxRecDepth 1000000 in
theorem lx_k1174 : pw_code 0 1174 = some (.iaload) := by decide +kernel
set_option maxRecDepth 1000000 in
theorem lx_k1175 : pw_code 0 1175 = some (.invokevirtual 145) := by decide +kernel
set_option maxRecDepth 1000000 in
theorem lx_k1178 : pw_code 0 1178 = some (.pop) := by decide +kernel
set_option maxRecDepth 1000000 in
theorem lx_k1179 : pw_code 0 1179 = some (.aload_n 2) := by decide +kernel
set_option maxRecDepth 1000000 in
theorem lx_k1180 : pw_code 0 1180 = some (.aload_n 0) := by decide +kernel
set_option maxRecDepth 1000000 in
theorem lx_k1181 : pw_code 0 1181 = some (.iload_n 3) := by decide +kernel
set_option maxRecDepth 1000000 in
theorem lx_k1182 : pw_code 0 1182 = some (.iconst 1) := by decide +kernel
set_option maxRecDepth 1000000 in
theorem lx_k1183 : pw_code 0 1183 = some (.iadd) := by decide +kernel
set_option maxRecDepth 1000000 in
theorem lx_k1184 : pw_code 0 1184 = some (.iaload) := by decide +kernel
set_option maxRecDepth 1000000 in
theorem lx_k1185 : pw_code 0 1185 = some (.invokevirtual 148) := by decide +kernel
set_option maxRecDepth 1000000 in
theorem lx_k1188 : pw_code 0 1188 = some (.pop) := by decide +kernel
set_option maxRecDepth 1000000 in
theorem lx_k1189 : pw_code 0 1189 = some (.goto 841) := by decide +kernel
set_option maxRecDepth 1000000 in
theorem lx_k1192 : pw_code 0 1192 = some (.aload_n 1) := by decide +kernel
set_option maxRecDepth 1000000 in
theorem lx_k1193 : pw_code 0 1193 = some (.aload_n 0) := by decide +kernel
set_option maxRecDepth 1000000 in
theorem lx_k1194 : pw_code 0 1194 = some (.iload_n 3) := by decide +kernel
set_option maxRecDepth 1000000 in
theorem lx_k1195 : pw_code 0 1195 = some (.iconst 1) := by decide +kernel
set_option maxRecDepth 1000000 in
theorem lx_k1196 : pw_code 0 1196 = some (.iadd) := by decide +kernel
set_option maxRecDepth 1000000 in
theorem lx_k1197 : pw_code 0 1197 = some (.iaload) := by decide +kernel
set_option maxRecDepth 1000000 in
theorem lx_k1198 : pw_code 0 1198 = some (.aload_n 0) := by decide +kernel
set_option maxRecDepth 1000000 in
theorem lx_k1199 : pw_code 0 1199 = some (.iload_n 3) := by decide +kernel
set_option maxRecDepth 1000000 in
theorem lx_k1200 : pw_code 0 1200 = some (.iconst 2) := by decide +kernel
set_option maxRecDepth 1000000 in
theorem lx_k1201 : pw_code 0 1201 = some (.iadd) := by decide +kernel
set_option maxRecDepth 1000000 in
theorem lx_k1202 : pw_code 0 1202 = some (.iaload) := by decide +kernel
set_option maxRecDepth 1000000 in
theorem lx_k1203 : pw_code 0 1203 = some (.aload_n 0) := by decide +kernel
set_option maxRecDepth 1000000 in
theorem lx_k1204 : pw_code 0 1204 = some (.iload_n 3) := by decide +kernel
set_option maxRecDepth 1000000 in
theorem lx_k1205 : pw_code 0 1205 = some (.iconst 3) := by decide +kernel
set_option maxRecDepth 1000000 in
theorem lx_k1206 : pw_code 0 1206 = some (.iadd) := by decide +kernel
set_option maxRecDepth 1000000 in
theorem lx_k1207 : pw_code 0 1207 = some (.iaload) := by decide +kernel
set_option maxRecDepth 1000000 in
theorem lx_k1208 : pw_code 0 1208 = some (.invokevirtual 149) := by decide +kernel
set_option maxRecDepth 1000000 in
theorem lx_k1211 : pw_code 0 1211 = some (.pop) := by decide +kernel
set_option maxRecDepth 1000000 in
theorem lx_k1212 : pw_code 0 1212 = some (.aload_n 2) := by decide +kernel
set_option maxRecDepth 1000000 in
theorem lx_k1213 : pw_code 0 1213 = some (.aload_n 0) := by decide +kernel
set_option maxRecDepth 1000000 in
theorem lx_k1214 : pw_code 0 1214 = some (.iload_n 3) := by decide +kernel
set_option maxRecDepth 1000000 in
theorem lx_k1215 : pw_code 0 1215 = some (.iconst 1) := by decide +kernel
set_option maxRecDepth 1000000 in
theorem lx_k1216 : pw_code 0 1216 = some (.iadd) := by decide +kernel
set_option maxRecDepth 1000000 in
theorem lx_k1217 : pw_code 0 1217 = some (.iaload) := by decide +kernel
set_option maxRecDepth 1000000 in
theorem lx_k1218 : pw_code 0 1218 = some (.aload_n 0) := by decide +kernel
set_option maxRecDepth 1000000 in
theorem lx_k1219 : pw_code 0 1219 = some (.iload_n 3) := by decide +kernel
set_option maxRecDepth 1000000 in
theorem lx_k1220 : pw_code 0 1220 = some (.iconst 2) := by decide +kernel
set_option maxRecDepth 1000000 in
theorem lx_k1221 : pw_code 0 1221 = some (.iadd) := by decide +kernel
set_option maxRecDepth 1000000 in
theorem lx_k1222 : pw_code 0 1222 = some (.iaload) := by decide +kernel
set_option maxRecDepth 1000000 in
theorem lx_k1223 : pw_code 0 1223 = some (.aload_n 0) := by decide +kernel
set_option maxRecDepth 1000000 in
theorem lx_k1224 : pw_code 0 1224 = some (.iload_n 3) := by decide +kernel
set_option maxRecDepth 1000000 in
theorem lx_k1225 : pw_code 0 1225 = some (.iconst 3) := by decide +kernel
set_option maxRecDepth 1000000 in
theorem lx_k1226 : pw_code 0 1226 = some (.iadd) := by decide +kernel
set_option maxRecDepth 1000000 in
theorem lx_k1227 : pw_code 0 1227 = some (.iaload) := by decide +kernel
set_option maxRecDepth 1000000 in
theorem lx_k1228 : pw_code 0 1228 = some (.invokevirtual 152) := by decide +kernel
set_option maxRecDepth 1000000 in
theorem lx_k1231 : pw_code 0 1231 = some (.pop) := by decide +kernel
set_option maxRecDepth 1000000 in
theorem lx_k1232 : pw_code 0 1232 = some (.goto 798) := by decide +kernel
set_option maxRecDepth 1000000 in
theorem lx_k1235 : pw_code 0 1235 = some (.aload_n 1) := by decide +kernel
set_option maxRecDepth 1000000 in
theorem lx_k1236 : pw_code 0 1236 = some (.aload_n 0) := by decide +kernel
set_option maxRecDepth 1000000 in
theorem lx_k1237 : pw_code 0 1237 = some (.iload_n 3) := by decide +kernel
set_option maxRecDepth 1000000 in
theorem lx_k1238 : pw_code 0 1238 = some (.iconst 1) := by decide +kernel
set_option maxRecDepth 1000000 in
theorem lx_k1239 : pw_code 0 1239 = some (.iadd) := by decide +kernel
set_option maxRecDepth 1000000 in
theorem lx_k1240 : pw_code 0 1240 = some (.iaload) := by decide +kernel
set_option maxRecDepth 1000000 in
theorem lx_k1241 : pw_code 0 1241 = some (.invokevirtual 153) := by decide +kernel
set_option maxRecDepth 1000000 in
theorem lx_k1244 : pw_code 0 1244 = some (.pop) := by decide +kernel
set_option maxRecDepth 1000000 in
theorem lx_k1245 : pw_code 0 1245 = some (.aload_n 2) := by decide +kernel
set_option maxRecDepth 1000000 in
theorem lx_k1246 : pw_code 0 1246 = some (.aload_n 0) := by decide +kernel
set_option maxRecDepth 1000000 in
theorem lx_k1247 : pw_code 0 1247 = some (.iload_n 3) := by decide +kernel
set_option maxRecDepth 1000000 in
theorem lx_k1248 : pw_code 0 1248 = some (.iconst 1) := by decide +kernel
set_option maxRecDepth 1000000 in
theorem lx_k1249 : pw_code 0 1249 = some (.iadd) := by decide +kernel
set_option maxRecDepth 1000000 in
theorem lx_k1250 : pw_code 0 1250 = some (.iaload) := by decide +kernel
set_option maxRecDepth 1000000 in
theorem lx_k1251 : pw_code 0 1251 = some (.invokevirtual 156) := by decide +kernel
set_option maxRecDepth 1000000 in
theorem lx_k1254 : pw_code 0 1254 = some (.pop) := by decide +kernel
set_option maxRecDepth 1000000 in
theorem lx_k1255 : pw_code 0 1255 = some (.goto 775) := by decide +kernel
set_option maxRecDepth 1000000 in
theorem lx_k1258 : pw_code 0 1258 = some (.aload_n 1) := by decide +kernel
set_option maxRecDepth 1000000 in
theorem lx_k1259 : pw_code 0 1259 = some (.invokevirtual 157) := by decide +kernel
set_option maxRecDepth 1000000 in
theorem lx_k1262 : pw_code 0 1262 = some (.pop) := by decide +kernel
set_option maxRecDepth 1000000 in
theorem lx_k1263 : pw_code 0 1263 = some (.aload_n 2) := by decide +kernel
set_option maxRecDepth 1000000 in
theorem lx_k1264 : pw_code 0 1264 = some (.invokevirtual 160) := by decide +kernel
set_option maxRecDepth 1000000 in
theorem lx_k1267 : pw_code 0 1267 = some (.pop) := by decide +kernel
set_option maxRecDepth 1000000 in
theorem lx_k1268 : pw_code 0 1268 = some (.goto 762) := by decide +kernel
set_option maxRecDepth 1000000 in
theorem lx_k1271 : pw_code 0 1271 = some (.aload_n 1) := by decide +kernel
set_option maxRecDepth 1000000 in
theorem lx_k1272 : pw_code 0 1272 = some (.invokevirtual 161) := by decide +kernel
set_option maxRecDepth 1000000 in
theorem lx_k1275 : pw_code 0 1275 = some (.pop) := by decide +kernel
set_option maxRecDepth 1000000 in
theorem lx_k1276 : pw_code 0 1276 = some (.aload_n 2) := by decide +kernel
set_option maxRecDepth 1000000 in
theorem lx_k1277 : pw_code 0 1277 = some (.invokevirtual 164) := by decide +kernel
set_option maxRecDepth 1000000 in
theorem lx_k1280 : pw_code 0 1280 = some (.pop) := by decide +kernel
set_option maxRecDepth 1000000 in
theorem lx_k1281 : pw_code 0 1281 = some (.goto 749) := by decide +kernel
set_option maxRecDepth 1000000 in
theorem lx_k1284 : pw_code 0 1284 = some (.aload_n 1) := by decide +kernel
set_option maxRecDepth 1000000 in
theorem lx_k1285 : pw_code 0 1285 = some (.invokevirtual 165) := by decide +kernel
set_option maxRecDepth 1000000 in
theorem lx_k1288 : pw_code 0 1288 = some (.pop) := by decide +kernel
set_option maxRecDepth 1000000 in
theorem lx_k1289 : pw_code 0 1289 = some (.aload_n 2) := by decide +kernel
set_option maxRecDepth 1000000 in
theorem lx_k1290 : pw_code 0 1290 = some (.invokevirtual 168) := by decide +kernel
set_option maxRecDepth 1000000 in
theorem lx_k1293 : pw_code 0 1293 = some (.pop) := by decide +kernel
set_option maxRecDepth 1000000 in
theorem lx_k1294 : pw_code 0 1294 = some (.goto 736) := by decide +kernel
set_option maxRecDepth 1000000 in
theorem lx_k1297 : pw_code 0 1297 = some (.aload_n 1) := by decide +kernel
set_option maxRecDepth 1000000 in
theorem lx_k1298 : pw_code 0 1298 = some (.aload_n 0) := by decide +kernel
set_option maxRecDepth 1000000 in
theorem lx_k1299 : pw_code 0 1299 = some (.iload_n 3) := by decide +kernel
set_option maxRecDepth 1000000 in
theorem lx_k1300 : pw_code 0 1300 = some (.iconst 1) := by decide +kernel
set_option maxRecDepth 1000000 in
theorem lx_k1301 : pw_code 0 1301 = some (.iadd) := by decide +kernel
set_option maxRecDepth 1000000 in
theorem lx_k1302 : pw_code 0 1302 = some (.iaload) := by decide +kernel
set_option maxRecDepth 1000000 in
theorem lx_k1303 : pw_code 0 1303 = some (.invokevirtual 169) := by decide +kernel
set_option maxRecDepth 1000000 in
theorem lx_k1306 : pw_code 0 1306 = some (.pop) := by decide +kernel
set_option maxRecDepth 1000000 in
theorem lx_k1307 : pw_code 0 1307 = some (.aload_n 2) := by decide +kernel
set_option maxRecDepth 1000000 in
theorem lx_k1308 : pw_code 0 1308 = some (.aload_n 0) := by decide +kernel
set_option maxRecDepth 1000000 in
theorem lx_k1309 : pw_code 0 1309 = some (.iload_n 3) := by decide +kernel
set_option maxRecDepth 1000000 in
theorem lx_k1310 : pw_code 0 1310 = some (.iconst 1) := by decide +kernel
set_option maxRecDepth 1000000 in
theorem lx_k1311 : pw_code 0 1311 = some (.iadd) := by decide +kernel
set_option maxRecDepth 1000000 in
theorem lx_k1312 : pw_code 0 1312 = some (.iaload) := by decide +kernel
set_option maxRecDepth 1000000 in
theorem lx_k1313 : pw_code 0 1313 = some (.invokevirtual 172) := by decide +kernel
set_option maxRecDepth 1000000 in
theorem lx_k1316 : pw_code 0 1316 = some (.pop) := by decide +kernel
set_option maxRecDepth 1000000 in
theorem lx_k1317 : pw_code 0 1317 = some (.goto 713) := by decide +kernel
set_option maxRecDepth 1000000 in
theorem lx_k1320 : pw_code 0 1320 = some (.aload_n 1) := by decide +kernel
set_option maxRecDepth 1000000 in
theorem lx_k1321 : pw_code 0 1321 = some (.aload_n 0) := by decide +kernel
set_option maxRecDepth 1000000 in
theorem lx_k1322 : pw_code 0 1322 = some (.iload_n 3) := by decide +kernel
set_option maxRecDepth 1000000 in
theorem lx_k1323 : pw_code 0 1323 = some (.iconst 1) := by decide +kernel
set_option maxRecDepth 1000000 in
theorem lx_k1324 : pw_code 0 1324 = some (.iadd) := by decide +kernel
set_option maxRecDepth 1000000 in
theorem lx_k1325 : pw_code 0 1325 = some (.iaload) := by decide +kernel
set_option maxRecDepth 1000000 in
theorem lx_k1326 : pw_code 0 1326 = some (.invokevirtual 173) := by decide +kernel
set_option maxRecDepth 1000000 in
theorem lx_k1329 : pw_code 0 1329 = some (.pop) := by decide +kernel
set_option maxRecDepth 1000000 in
theorem lx_k1330 : pw_code 0 1330 = some (.aload_n 2) := by decide +kernel
set_option maxRecDepth 1000000 in
theorem lx_k1331 : pw_code 0 1331 = some (.aload_n 0) := by decide +kernel
set_option maxRecDepth 1000000 in
theorem lx_k1332 : pw_code 0 1332 = some (.iload_n 3) := by decide +kernel
set_option maxRecDepth 1000000 in
theorem lx_k1333 : pw_code 0 1333 = some (.iconst 1) := by decide +kernel
set_option maxRecDepth 1000000 in
theorem lx_k1334 : pw_code 0 1334 = some (.iadd) := by decide +kernel
set_option maxRecDepth 1000000 in
theorem lx_k1335 : pw_code 0 1335 = some (.iaload) := by decide +kernel
set_option maxRecDepth 1000000 in
theorem lx_k1336 : pw_code 0 1336 = some (.invokevirtual 176) := by decide +kernel
set_option maxRecDepth 1000000 in
theorem lx_k1339 : pw_code 0 1339 = some (.pop) := by decide +kernel
set_option maxRecDepth 1000000 in
theorem lx_k1340 : pw_code 0 1340 = some (.goto 690) := by decide +kernel
set_option maxRecDepth 1000000 in
theorem lx_k1343 : pw_code 0 1343 = some (.aload_n 1) := by decide +kernel
set_option maxRecDepth 1000000 in
theorem lx_k1344 : pw_code 0 1344 = some (.aload_n 0) := by decide +kernel
set_option maxRecDepth 1000000 in
theorem lx_k1345 : pw_code 0 1345 = some (.iload_n 3) := by decide +kernel
set_option maxRecDepth 1000000 in
theorem lx_k1346 : pw_code 0 1346 = some (.iconst 1) := by decide +kernel
set_option maxRecDepth 1000000 in
theorem lx_k1347 : pw_code 0 1347 = some (.iadd) := by decide +kernel
set_option maxRecDepth 1000000 in
theorem lx_k1348 : pw_code 0 1348 = some (.iaload) := by decide +kernel
set_option maxRecDepth 1000000 in
theorem lx_k1349 : pw_code 0 1349 = some (.aload_n 0) := by decide +kernel
set_option maxRecDepth 1000000 in
theorem lx_k1350 : pw_code 0 1350 = some (.iload_n 3) := by decide +kernel
set_option maxRecDepth 1000000 in
theorem lx_k1351 : pw_code 0 1351 = some (.iconst 2) := by decide +kernel
set_option maxRecDepth 1000000 in
theorem lx_k1352 : pw_code 0 1352 = some (.iadd) := by decide +kernel
set_option maxRecDepth 1000000 in
theorem lx_k1353 : pw_code 0 1353 = some (.iaload) := by decide +kernel
set_option maxRecDepth 1000000 in
theorem lx_k1354 : pw_code 0 1354 = some (.aload_n 0) := by decide +kernel
set_option maxRecDepth 1000000 in
theorem lx_k1355 : pw_code 0 1355 = some (.iload_n 3) := by decide +kernel
set_option maxRecDepth 1000000 in
theorem lx_k1356 : pw_code 0 1356 = some (.iconst 3) := by decide +kernel
set_option maxRecDepth 1000000 in
theorem lx_k1357 : pw_code 0 1357 = some (.iadd) := by decide +kernel
set_option maxRecDepth 1000000 in
theorem lx_k1358 : pw_code 0 1358 = some (.iaload) := by decide +kernel
set_option maxRecDepth 1000000 in
theorem lx_k1359 : pw_code 0 1359 = some (.invokevirtual 177) := by decide +kernel
set_option maxRecDepth 1000000 in
theorem lx_k1362 : pw_code 0 1362 = some (.pop) := by decide +kernel
set_option maxRecDepth 1000000 in
theorem lx_k1363 : pw_code 0 1363 = some (.aload_n 2) := by decide +kernel
set_option maxRecDepth 1000000 in
theorem lx_k1364 : pw_code 0 1364 = some (.aload_n 0) := by decide +kernel
set_option maxRecDepth 1000000 in
theorem lx_k1365 : pw_code 0 1365 = some (.iload_n 3) := by decide +kernel
set_option maxRecDepth 1000000 in
theorem lx_k1366 : pw_code 0 1366 = some (.iconst 1) := by decide +kernel
set_option maxRecDepth 1000000 in
theorem lx_k1367 : pw_code 0 1367 = some (.iadd) := by decide +kernel
set_option maxRecDepth 1000000 in
theorem lx_k1368 : pw_code 0 1368 = some (.iaload) := by decide +kernel
set_option maxRecDepth 1000000 in
theorem lx_k1369 : pw_code 0 1369 = some (.aload_n 0) := by decide +kernel
set_option maxRecDepth 1000000 in
theorem lx_k1370 : pw_code 0 1370 = some (.iload_n 3) := by decide +kernel
set_option maxRecDepth 1000000 in
theorem lx_k1371 : pw_code 0 1371 = some (.iconst 2) := by decide +kernel
set_option maxRecDepth 1000000 in
theorem lx_k1372 : pw_code 0 1372 = some (.iadd) := by decide +kernel
set_option maxRecDepth 1000000 in
theorem lx_k1373 : pw_code 0 1373 = some (.iaload) := by decide +kernel
set_option maxRecDepth 1000000 in
theorem lx_k1374 : pw_code 0 1374 = some (.aload_n 0) := by decide +kernel
set_option maxRecDepth 1000000 in
theorem lx_k1375 : pw_code 0 1375 = some (.iload_n 3) := by decide +kernel
set_option maxRecDepth 1000000 in
theorem lx_k1376 : pw_code 0 1376 = some (.iconst 3) := by decide +kernel
set_option maxRecDepth 1000000 in
theorem lx_k1377 : pw_code 0 1377 = some (.iadd) := by decide +kernel
set_option maxRecDepth 1000000 in
theorem lx_k1378 : pw_code 0 1378 = some (.iaload) := by decide +kernel
set_option maxRecDepth 1000000 in
theorem lx_k1379 : pw_code 0 1379 = some (.invokevirtual 180) := by decide +kernel
set_option maxRecDepth 1000000 in
theorem lx_k1382 : pw_code 0 1382 = some (.pop) := by decide +kernel
set_option maxRecDepth 1000000 in
theorem lx_k1383 : pw_code 0 1383 = some (.goto 647) := by decide +kernel
set_option maxRecDepth 1000000 in
theorem lx_k1386 : pw_code 0 1386 = some (.aload_n 1) := by decide +kernel
set_option maxRecDepth 1000000 in
theorem lx_k1387 : pw_code 0 1387 = some (.aload_n 0) := by decide +kernel
set_option maxRecDepth 1000000 in
theorem lx_k1388 : pw_code 0 1388 = some (.iload_n 3) := by decide +kernel
set_option maxRecDepth 1000000 in
theorem lx_k1389 : pw_code 0 1389 = some (.iconst 1) := by decide +kernel
set_option maxRecDepth 1000000 in
theorem lx_k1390 : pw_code 0 1390 = some (.iadd) := by decide +kernel
set_option maxRecDepth 1000000 in
theorem lx_k1391 : pw_code 0 1391 = some (.iaload) := by decide +kernel
set_option maxRecDepth 1000000 in
theorem lx_k1392 : pw_code 0 1392 = some (.aload_n 0) := by decide +kernel
set_option maxRecDepth 1000000 in
theorem lx_k1393 : pw_code 0 1393 = some (.iload_n 3) := by decide +kernel
set_option maxRecDepth 1000000 in
theorem lx_k1394 : pw_code 0 1394 = some (.iconst 2) := by decide +kernel
set_option maxRecDepth 1000000 in
theorem lx_k1395 : pw_code 0 1395 = some (.iadd) := by decide +kernel
set_option maxRecDepth 1000000 in
theorem lx_k1396 : pw_code 0 1396 = some (.iaload) := by decide +kernel
set_option maxRecDepth 1000000 in
theorem lx_k1397 : pw_code 0 1397 = some (.invokevirtual 181) := by decide +kernel
set_option maxRecDepth 1000000 in
theorem lx_k1400 : pw_code 0 1400 = some (.pop) := by decide +kernel
set_option maxRecDepth 1000000 in
theorem lx_k1401 : pw_code 0 1401 = some (.aload_n 2) := by decide +kernel
set_option maxRecDepth 1000000 in
theorem lx_k1402 : pw_code 0 1402 = some (.aload_n 0) := by decide +kernel
set_option maxRecDepth 1000000 in
theorem lx_k1403 : pw_code 0 1403 = some (.iload_n 3) := by decide +kernel
set_option maxRecDepth 1000000 in
theorem lx_k1404 : pw_code 0 1404 = some (.iconst 1) := by decide +kernel
set_option maxRecDepth 1000000 in
theorem lx_k1405 : pw_code 0 1405 = some (.iadd) := by decide +kernel
set_option maxRecDepth 1000000 in
theorem lx_k1406 : pw_code 0 1406 = some (.iaload) := by decide +kernel
set_option maxRecDepth 1000000 in
theorem lx_k1407 : pw_code 0 1407 = some (.aload_n 0) := by decide +kernel
set_option maxRecDepth 1000000 in
theorem lx_k1408 : pw_code 0 1408 = some (.iload_n 3) := by decide +kernel
set_option maxRecDepth 1000000 in
theorem lx_k1409 : pw_code 0 1409 = some (.iconst 2) := by decide +kernel
set_option maxRecDepth 1000000 in
theorem lx_k1410 : pw_code 0 1410 = some (.iadd) := by decide +kernel
set_option maxRecDepth 1000000 in
theorem lx_k1411 : pw_code 0 1411 = some (.iaload) := by decide +kernel
set_option maxRecDepth 1000000 in
theorem lx_k1412 : pw_code 0 1412 = some (.invokevirtual 184) := by decide +kernel
set_option maxRecDepth 1000000 in
theorem lx_k1415 : pw_code 0 1415 = some (.pop) := by decide +kernel
set_option maxRecDepth 1000000 in
theorem lx_k1416 : pw_code 0 1416 = some (.goto 614) := by decide +kernel
set_option maxRecDepth 1000000 in
theorem lx_k1419 : pw_code 0 1419 = some (.aload_n 1) := by decide +kernel
set_option maxRecDepth 1000000 in
theorem lx_k1420 : pw_code 0 1420 = some (.invokevirtual 185) := by decide +kernel
set_option maxRecDepth 1000000 in
theorem lx_k1423 : pw_code 0 1423 = some (.pop) := by decide +kernel
set_option maxRecDepth 1000000 in
theorem lx_k1424 : pw_code 0 1424 = some (.aload_n 2) := by decide +kernel
set_option maxRecDepth 1000000 in
theorem lx_k1425 : pw_code 0 1425 = some (.invokevirtual 188) := by decide +kernel
set_option maxRecDepth 1000000 in
theorem lx_k1428 : pw_code 0 1428 = some (.pop) := by decide +kernel
set_option maxRecDepth 1000000 in
theorem lx_k1429 : pw_code 0 1429 = some (.goto 601) := by decide +kernel
set_option maxRecDepth 1000000 in
theorem lx_k1432 : pw_code 0 1432 = some (.aload_n 1) := by decide +kernel
set_option maxRecDepth 1000000 in
theorem lx_k1433 : pw_code 0 1433 = some (.aload_n 0) := by decide +kernel
set_option maxRecDepth 1000000 in
theorem lx_k1434 : pw_code 0 1434 = some (.iload_n 3) := by decide +kernel
set_option maxRecDepth 1000000 in
theorem lx_k1435 : pw_code 0 1435 = some (.iconst 1) := by decide +kernel
set_option maxRecDepth 1000000 in
theorem lx_k1436 : pw_code 0 1436 = some (.iadd) := by decide +kernel
set_option maxRecDepth 1000000 in
theorem lx_k1437 : pw_code 0 1437 = some (.iaload) := by decide +kernel
set_option maxRecDepth 1000000 in
theorem lx_k1438 : pw_code 0 1438 = some (.invokevirtual 189) := by decide +kernel
set_option maxRecDepth 1000000 in
theorem lx_k1441 : pw_code 0 1441 = some (.pop) := by decide +kernel
set_option maxRecDepth 1000000 in
theorem lx_k1442 : pw_code 0 1442 = some (.aload_n 2) := by decide +kernel
set_option maxRecDepth 1000000 in
theorem lx_k1443 : pw_code 0 1443 = some (.aload_n 0) := by decide +kernel
set_option maxRecDepth 1000000 in
theorem lx_k1444 : pw_code 0 1444 = some (.iload_n 3) := by decide +kernel
set_option maxRecDepth 1000000 in
theorem lx_k1445 : pw_code 0 1445 = some (.iconst 1) := by decide +kernel
set_option maxRecDepth 1000000 in
theorem lx_k1446 : pw_code 0 1446 = some (.iadd) := by decide +kernel
set_option maxRecDepth 1000000 in
theorem lx_k1447 : pw_code 0 1447 = some (.iaload) := by decide +kernel
set_option maxRecDepth 1000000 in
theorem lx_k1448 : pw_code 0 1448 = some (.invokevirtual 192) := by decide +kernel
set_option maxRecDepth 1000000 in
theorem lx_k1451 : pw_code 0 1451 = some (.pop) := by decide +kernel
set_option maxRecDepth 1000000 in
theorem lx_k1452 : pw_code 0 1452 = some (.goto 578) := by decide +kernel
set_option maxRecDepth 1000000 in
theorem lx_k1455 : pw_code 0 1455 = some (.aload_n 1) := by decide +kernel
set_option maxRecDepth 1000000 in
theorem lx_k1456 : pw_code 0 1456 = some (.aload_n 0) := by decide +kernel
set_option maxRecDepth 1000000 in
theorem lx_k1457 : pw_code 0 1457 = some (.iload_n 3) := by decide +kernel
set_option maxRecDepth 1000000 in
theorem lx_k1458 : pw_code 0 1458 = some (.iconst 1) := by decide +kernel
set_option maxRecDepth 1000000 in
theorem lx_k1459 : pw_code 0 1459 = some (.iadd) := by decide +kernel
set_option maxRecDepth 1000000 in
theorem lx_k1460 : pw_code 0 1460 = some (.iaload) := by decide +kernel
set_option maxRecDepth 1000000 in
theorem lx_k1461 : pw_code 0 1461 = some (.invokevirtual 193) := by decide +kernel
set_option maxRecDepth 1000000 in
theorem lx_k1464 : pw_code 0 1464 = some (.pop) := by decide +kernel
set_option maxRecDepth 1000000 in
theorem lx_k1465 : pw_code 0 1465 = some (.aload_n 2) := by decide +kernel
set_option maxRecDepth 1000000 in
theorem lx_k1466 : pw_code 0 1466 = some (.aload_n 0) := by decide +kernel
set_option maxRecDepth 1000000 in
theorem lx_k1467 : pw_code 0 1467 = some (.iload_n 3) := by decide +kernel
set_option maxRecDepth 1000000 in
theorem lx_k1468 : pw_code 0 1468 = some (.iconst 1) := by decide +kernel
set_option maxRecDepth 1000000 in
theorem lx_k1469 : pw_code 0 1469 = some (.iadd) := by decide +kernel
set_option maxRecDepth 1000000 in
theorem lx_k1470 : pw_code 0 1470 = some (.iaload) := by decide +kernel
set_option maxRecDepth 1000000 in
theorem lx_k1471 : pw_code 0 1471 = some (.invokevirtual 196) := by decide +kernel
set_option maxRecDepth 1000000 in
theorem lx_k1474 : pw_code 0 1474 = some (.pop) := by decide +kernel
set_option maxRecDepth 1000000 in
theorem lx_k1475 : pw_code 0 1475 = some (.goto 555) := by decide +kernel
set_option maxRecDepth 1000000 in
theorem lx_k1478 : pw_code 0 1478 = some (.aload_n 1) := by decide +kernel
set_option maxRecDepth 1000000 in
theorem lx_k1479 : pw_code 0 1479 = some (.aload_n 0) := by decide +kernel
set_option maxRecDepth 1000000 in
theorem lx_k1480 : pw_code 0 1480 = some (.iload_n 3) := by decide +kernel
set_option maxRecDepth 1000000 in
theorem lx_k1481 : pw_code 0 1481 = some (.iconst 1) := by decide +kernel
set_option maxRecDepth 1000000 in
theorem lx_k1482 : pw_code 0 1482 = some (.iadd) := by decide +kernel
set_option maxRecDepth 1000000 in
theorem lx_k1483 : pw_code 0 1483 = some (.iaload) := by decide +kernel
set_option maxRecDepth 1000000 in
theorem lx_k1484 : pw_code 0 1484 = some (.invokevirtual 197) := by decide +kernel
set_option maxRecDepth 1000000 in
theorem lx_k1487 : pw_code 0 1487 = some (.pop) := by decide +kernel
set_option maxRecDepth 1000000 in
theorem lx_k1488 : pw_code 0 1488 = some (.aload_n 2) := by decide +kernel
set_option maxRecDepth 1000000 in
theorem lx_k1489 : pw_code 0 1489 = some (.aload_n 0) := by decide +kernel
set_option maxRecDepth 1000000 in
theorem lx_k1490 : pw_code 0 1490 = some (.iload_n 3) := by decide +kernel
set_option maxRecDepth 1000000 in
theorem lx_k1491 : pw_code 0 1491 = some (.iconst 1) := by decide +kernel
set_option maxRecDepth 1000000 in
theorem lx_k1492 : pw_code 0 1492 = some (.iadd) := by decide +kernel
set_option maxRecDepth 1000000 in
theorem lx_k1493 : pw_code 0 1493 = some (.iaload) := by decide +kernel
set_option maxRecDepth 1000000 in
theorem lx_k1494 : pw_code 0 1494 = some (.invokevirtual 200) := by decide +kernel
set_option maxRecDepth 1000000 in
theorem lx_k1497 : pw_code 0 1497 = some (.pop) := by decide +kernel
set_option maxRecDepth 1000000 in
theorem lx_k1498 : pw_code 0 1498 = some (.goto 532) := by decide +kernel
set_option maxRecDepth 1000000 in
theorem lx_k1501 : pw_code 0 1501 = some (.aload_n 1) := by decide +kernel
set_option maxRecDepth 1000000 in
theorem lx_k1502 : pw_code 0 1502 = some (.aload_n 0) := by decide +kernel
set_option maxRecDepth 1000000 in
theorem lx_k1503 : pw_code 0 1503 = some (.iload_n 3) := by decide +kernel
set_option maxRecDepth 1000000 in
theorem lx_k1504 : pw_code 0 1504 = some (.iconst 1) := by decide +kernel
set_option maxRecDepth 1000000 in
theorem lx_k1505 : pw_code 0 1505 = some (.iadd) := by decide +kernel
set_option maxRecDepth 1000000 in
theorem lx_k1506 : pw_code 0 1506 = some (.iaload) := by decide +kernel
set_option maxRecDepth 1000000 in
theorem lx_k1507 : pw_code 0 1507 = some (.invokevirtual 201) := by decide +kernel
set_option maxRecDepth 1000000 in
theorem lx_k1510 : pw_code 0 1510 = some (.pop) := by decide +kernel
set_option maxRecDepth 1000000 in
theorem lx_k1511 : pw_code 0 1511 = some (.aload_n 2) := by decide +kernel
set_option maxRecDepth 1000000 in
theorem lx_k1512 : pw_code 0 1512 = some (.aload_n 0) := by decide +kernel
set_option maxRecDepth 1000000 in
theorem lx_k1513 : pw_code 0 1513 = some (.iload_n 3) := by decide +kernel
set_option maxRecDepth 1000000 in
theorem lx_k1514 : pw_code 0 1514 = some (.iconst 1) := by decide +kernel
set_option maxRecDepth 1000000 in
theorem lx_k1515 : pw_code 0 1515 = some (.iadd) := by decide +kernel
set_option maxRecDepth 1000000 in
theorem lx_k1516 : pw_code 0 1516 = some (.iaload) := by decide +kernel
set_option maxRecDepth 1000000 in
theorem lx_k1517 : pw_code 0 1517 = some (.invokevirtual 204) := by decide +kernel
set_option maxRecDepth 1000000 in
theorem lx_k1520 : pw_code 0 1520 = some (.pop) := by decide +kernel
set_option maxRecDepth 1000000 in
theorem lx_k1521 : pw_code 0 1521 = some (.goto 509) := by decide +kernel
set_option maxRecDepth 1000000 in
theorem lx_k1524 : pw_code 0 1524 = some (.aload_n 1) := by decide +kernel
set_option maxRecDepth 1000000 in
theorem lx_k1525 : pw_code 0 1525 = some (.aload_n 0) := by decide +kernel
set_option maxRecDepth 1000000 in
theorem lx_k1526 : pw_code 0 1526 = some (.iload_n 3) := by decide +kernel
set_option maxRecDepth 1000000 in
theorem lx_k1527 : pw_code 0 1527 = some (.iconst 1) := by decide +kernel
set_option maxRecDepth 1000000 in
theorem lx_k1528 : pw_code 0 1528 = some (.iadd) := by decide +kernel
set_option maxRecDepth 1000000 in
theorem lx_k1529 : pw_code 0 1529 = some (.iaload) := by decide +kernel
set_option maxRecDepth 1000000 in
theorem lx_k1530 : pw_code 0 1530 = some (.invokevirtual 205) := by decide +kernel
set_option maxRecDepth 1000000 in
theorem lx_k1533 : pw_code 0 1533 = some (.pop) := by decide +kernel
set_option maxRecDepth 1000000 in
theorem lx_k1534 : pw_code 0 1534 = some (.aload_n 2) := by decide +kernel
set_option maxRecDepth 1000000 in
theorem lx_k1535 : pw_code 0 1535 = some (.aload_n 0) := by decide +kernel
set_option maxRecDepth 1000000 in
theorem lx_k1536 : pw_code 0 1536 = some (.iload_n 3) := by decide +kernel
set_option maxRecDepth 1000000 in
theorem lx_k1537 : pw_code 0 1537 = some (.iconst 1) := by decide +kernel
set_option maxRecDepth 1000000 in
theorem lx_k1538 : pw_code 0 1538 = some (.iadd) := by decide +kernel
set_option maxRecDepth 1000000 in
theorem lx_k1539 : pw_code 0 1539 = some (.iaload) := by decide +kernel
set_option maxRecDepth 1000000 in
theorem lx_k1540 : pw_code 0 1540 = some (.invokevirtual 208) := by decide +kernel
set_option maxRecDepth 1000000 in
theorem lx_k1543 : pw_code 0 1543 = some (.pop) := by decide +kernel
set_option maxRecDepth 1000000 in
theorem lx_k1544 : pw_code 0 1544 = some (.goto 486) := by decide +kernel
set_option maxRecDepth 1000000 in
theorem lx_k1547 : pw_code 0 1547 = some (.aload_n 1) := by decide +kernel
set_option maxRecDepth 1000000 in
theorem lx_k1548 : pw_code 0 1548 = some (.invokevirtual 209) := by decide +kernel
set_option maxRecDepth 1000000 in
theorem lx_k1551 : pw_code 0 1551 = some (.pop) := by decide +kernel
set_option maxRecDepth 1000000 in
theorem lx_k1552 : pw_code 0 1552 = some (.aload_n 2) := by decide +kernel
set_option maxRecDepth 1000000 in
theorem lx_k1553 : pw_code 0 1553 = some (.invokevirtual 212) := by decide +kernel
set_option maxRecDepth 1000000 in
theorem lx_k1556 : pw_code 0 1556 = some (.pop) := by decide +kernel
set_option maxRecDepth 1000000 in
theorem lx_k1557 : pw_code 0 1557 = some (.goto 473) := by decide +kernel
set_option maxRecDepth 1000000 in
theorem lx_k1560 : pw_code 0 1560 = some (.aload_n 1) := by decide +kernel
set_option maxRecDepth 1000000 in
theorem lx_k1561 : pw_code 0 1561 = some (.aload_n 0) := by decide +kernel
set_option maxRecDepth 1000000 in
theorem lx_k1562 : pw_code 0 1562 = some (.iload_n 3) := by decide +kernel
set_option maxRecDepth 1000000 in
theorem lx_k1563 : pw_code 0 1563 = some (.iconst 1) := by decide +kernel
set_option maxRecDepth 1000000 in
theorem lx_k1564 : pw_code 0 1564 = some (.iadd) := by decide +kernel
set_option maxRecDepth 1000000 in
theorem lx_k1565 : pw_code 0 1565 = some (.iaload) := by decide +kernel
set_option maxRecDepth 1000000 in
theorem lx_k1566 : pw_code 0 1566 = some (.invokevirtual 213) := by decide +kernel
set_option maxRecDepth 1000000 in
theorem lx_k1569 : pw_code 0 1569 = some (.pop) := by decide +kernel
set_option maxRecDepth 1000000 in
theorem lx_k1570 : pw_code 0 1570 = some (.aload_n 2) := by decide +kernel
set_option maxRecDepth 1000000 in
theorem lx_k1571 : pw_code 0 1571 = some (.aload_n 0) := by decide +kernel
set_option maxRecDepth 1000000 in
theorem lx_k1572 : pw_code 0 1572 = some (.iload_n 3) := by decide +kernel
set_option maxRecDepth 1000000 in
theorem lx_k1573 : pw_code 0 1573 = some (.iconst 1) := by decide +kernel
set_option maxRecDepth 1000000 in
theorem lx_k1574 : pw_code 0 1574 = some (.iadd) := by decide +kernel
set_option maxRecDepth 1000000 in
theorem lx_k1575 : pw_code 0 1575 = some (.iaload) := by decide +kernel
set_option maxRecDepth 1000000 in
theorem lx_k1576 : pw_code 0 1576 = some (.invokevirtual 216) := by decide +kernel
set_option maxRecDepth 1000000 in
theorem lx_k1579 : pw_code 0 1579 = some (.pop) := by decide +kernel
set_option maxRecDepth 1000000 in
theorem lx_k1580 : pw_code 0 1580 = some (.goto 450) := by decide +kernel
set_option maxRecDepth 1000000 in
theorem lx_k1583 : pw_code 0 1583 = some (.aload_n 1) := by decide +kernel
set_option maxRecDepth 1000000 in
theorem lx_k1584 : pw_code 0 1584 = some (.aload_n 0) := by decide +kernel
set_option maxRecDepth 1000000 in
theorem lx_k1585 : pw_code 0 1585 = some (.iload_n 3) := by decide +kernel
set_option maxRecDepth 1000000 in
theorem lx_k1586 : pw_code 0 1586 = some (.iconst 1) := by decide +kernel
set_option maxRecDepth 1000000 in
theorem lx_k1587 : pw_code 0 1587 = some (.iadd) := by decide +kernel
set_option maxRecDepth 1000000 in
theorem lx_k1588 : pw_code 0 1588 = some (.iaload) := by decide +kernel
set_option maxRecDepth 1000000 in
theorem lx_k1589 : pw_code 0 1589 = some (.invokevirtual 217) := by decide +kernel
set_option maxRecDepth 1000000 in
theorem lx_k1592 : pw_code 0 1592 = some (.pop) := by decide +kernel
set_option maxRecDepth 1000000 in
theorem lx_k1593 : pw_code 0 1593 = some (.aload_n 2) := by decide +kernel
set_option maxRecDepth 1000000 in
theorem lx_k1594 : pw_code 0 1594 = some (.aload_n 0) := by decide +kernel
set_option maxRecDepth 1000000 in
theorem lx_k1595 : pw_code 0 1595 = some (.iload_n 3) := by decide +kernel
set_option maxRecDepth 1000000 in
theorem lx_k1596 : pw_code 0 1596 = some (.iconst 1) := by decide +kernel
set_option maxRecDepth 1000000 in
theorem lx_k1597 : pw_code 0 1597 = some (.iadd) := by decide +kernel
set_option maxRecDepth 1000000 in
theorem lx_k1598 : pw_code 0 1598 = some (.iaload) := by decide +kernel
set_option maxRecDepth 1000000 in
theorem lx_k1599 : pw_code 0 1599 = some (.invokevirtual 220) := by decide +kernel
set_option maxRecDepth 1000000 in
theorem lx_k1602 : pw_code 0 1602 = some (.pop) := by decide +kernel
set_option maxRecDepth 1000000 in
theorem lx_k1603 : pw_code 0 1603 = some (.goto 427) := by decide +kernel
set_option maxRecDepth 1000000 in
theorem lx_k1606 : pw_code 0 1606 = some (.aload_n 1) := by decide +kernel
set_option maxRecDepth 1000000 in
theorem lx_k1607 : pw_code 0 1607 = some (.aload_n 0) := by decide +kernel
set_option maxRecDepth 1000000 in
theorem lx_k1608 : pw_code 0 1608 = some (.iload_n 3) := by decide +kernel
set_option maxRecDepth 1000000 in
theorem lx_k1609 : pw_code 0 1609 = some (.iconst 1) := by decide +kernel
set_option maxRecDepth 1000000 in
theorem lx_k1610 : pw_code 0 1610 = some (.iadd) := by decide +kernel
set_option maxRecDepth 1000000 in
theorem lx_k1611 : pw_code 0 1611 = some (.iaload) := by decide +kernel
set_option maxRecDepth 1000000 in
theorem lx_k1612 : pw_code 0 1612 = some (.aload_n 0) := by decide +kernel
set_option maxRecDepth 1000000 in
theorem lx_k1613 : pw_code 0 1613 = some (.iload_n 3) := by decide +kernel
set_option maxRecDepth 1000000 in
theorem lx_k1614 : pw_code 0 1614 = some (.iconst 2) := by decide +kernel
set_option maxRecDepth 1000000 in
theorem lx_k1615 : pw_code 0 1615 = some (.iadd) := by decide +kernel
set_option maxRecDepth 1000000 in
theorem lx_k1616 : pw_code 0 1616 = some (.iaload) := by decide +kernel
set_option maxRecDepth 1000000 in
theorem lx_k1617 : pw_code 0 1617 = some (.invokevirtual 221) := by decide +kernel
set_option maxRecDepth 1000000 in
theorem lx_k1620 : pw_code 0 1620 = some (.pop) := by decide +kernel
set_option maxRecDepth 1000000 in
theorem lx_k1621 : pw_code 0 1621 = some (.aload_n 2) := by decide +kernel
set_option maxRecDepth 1000000 in
theorem lx_k1622 : pw_code 0 1622 = some (.aload_n 0) := by decide +kernel
set_option maxRecDepth 1000000 in
theorem lx_k1623 : pw_code 0 1623 = some (.iload_n 3) := by decide +kernel
set_option maxRecDepth 1000000 in
theorem lx_k1624 : pw_code 0 1624 = some (.iconst 1) := by decide +kernel
set_option maxRecDepth 1000000 in
theorem lx_k1625 : pw_code 0 1625 = some (.iadd) := by decide +kernel
set_option maxRecDepth 1000000 in
theorem lx_k1626 : pw_code 0 1626 = some (.iaload) := by decide +kernel
set_option maxRecDepth 1000000 in
theorem lx_k1627 : pw_code 0 1627 = some (.aload_n 0) := by decide +kernel
set_option maxRecDepth 1000000 in
theorem lx_k1628 : pw_code 0 1628 = some (.iload_n 3) := by decide +kernel
set_option maxRecDepth 1000000 in
theorem lx_k1629 : pw_code 0 1629 = some (.iconst 2) := by decide +kernel
set_option maxRecDepth 1000000 in
theorem lx_k1630 : pw_code 0 1630 = some (.iadd) := by decide +kernel
set_option maxRecDepth 1000000 in
theorem lx_k1631 : pw_code 0 1631 = some (.iaload) := by decide +kernel
set_option maxRecDepth 1000000 in
theorem lx_k1632 : pw_code 0 1632 = some (.invokevirtual 224) := by decide +kernel
set_option maxRecDepth 1000000 in
theorem lx_k1635 : pw_code 0 1635 = some (.pop) := by decide +kernel
set_option maxRecDepth 1000000 in
theorem lx_k1636 : pw_code 0 1636 = some (.goto 394) := by decide +kernel
set_option maxRecDepth 1000000 in
theorem lx_k1639 : pw_code 0 1639 = some (.aload_n 1) := by decide +kernel
set_option maxRecDepth 1000000 in
theorem lx_k1640 : pw_code 0 1640 = some (.aload_n 0) := by decide +kernel
set_option maxRecDepth 1000000 in
theorem lx_k1641 : pw_code 0 1641 = some (.iload_n 3) := by decide +kernel
set_option maxRecDepth 1000000 in
theorem lx_k1642 : pw_code 0 1642 = some (.iconst 1) := by decide +kernel
set_option maxRecDepth 1000000 in
theorem lx_k1643 : pw_code 0 1643 = some (.iadd) := by decide +kernel
set_option maxRecDepth 1000000 in
theorem lx_k1644 : pw_code 0 1644 = some (.iaload) := by decide +kernel
set_option maxRecDepth 1000000 in
theorem lx_k1645 : pw_code 0 1645 = some (.aload_n 0) := by decide +kernel
set_option maxRecDepth 1000000 in
theorem lx_k1646 : pw_code 0 1646 = some (.iload_n 3) := by decide +kernel
set_option maxRecDepth 1000000 in
theorem lx_k1647 : pw_code 0 1647 = some (.iconst 2) := by decide +kernel
set_option maxRecDepth 1000000 in
theorem lx_k1648 : pw_code 0 1648 = some (.iadd) := by decide +kernel
set_option maxRecDepth 1000000 in
theorem lx_k1649 : pw_code 0 1649 = some (.iaload) := by decide +kernel
set_option maxRecDepth 1000000 in
theorem lx_k1650 : pw_code 0 1650 = some (.invokevirtual 225) := by decide +kernel
set_option maxRecDepth 1000000 in
theorem lx_k1653 : pw_code 0 1653 = some (.pop) := by decide +kernel
set_option maxRecDepth 1000000 in
theorem lx_k1654 : pw_code 0 1654 = some (.aload_n 2) := by decide +kernel
set_option maxRecDepth 1000000 in
theorem lx_k1655 : pw_code 0 1655 = some (.aload_n 0) := by decide +kernel
set_option maxRecDepth 1000000 in
theorem lx_k1656 : pw_code 0 1656 = some (.iload_n 3) := by decide +kernel
set_option maxRecDepth 1000000 in
theorem lx_k1657 : pw_code 0 1657 = some (.iconst 1) := by decide +kernel
set_option maxRecDepth 1000000 in
theorem lx_k1658 : pw_code 0 1658 = some (.iadd) := by decide +kernel
set_option maxRecDepth 1000000 in
theorem lx_k1659 : pw_code 0 1659 = some (.iaload) := by decide +kernel
set_option maxRecDepth 1000000 in
theorem lx_k1660 : pw_code 0 1660 = some (.aload_n 0) := by decide +kernel
set_option maxRecDepth 1000000 in
theorem lx_k1661 : pw_code 0 1661 = some (.iload_n 3) := by decide +kernel
set_option maxRecDepth 1000000 in
theorem lx_k1662 : pw_code 0 1662 = some (.iconst 2) := by decide +kernel
set_option maxRecDepth 1000000 in
theorem lx_k1663 : pw_code 0 1663 = some (.iadd) := by decide +kernel
set_option maxRecDepth 1000000 in
theorem lx_k1664 : pw_code 0 1664 = some (.iaload) := by decide +kernel
set_option maxRecDepth 1000000 in
theorem lx_k1665 : pw_code 0 1665 = some (.invokevirtual 228) := by decide +kernel
set_option maxRecDepth 1000000 in
theorem lx_k1668 : pw_code 0 1668 = some (.pop) := by decide +kernel
set_option maxRecDepth 1000000 in
theorem lx_k1669 : pw_code 0 1669 = some (.goto 361) := by decide +kernel
set_option maxRecDepth 1000000 in
theorem lx_k1672 : pw_code 0 1672 = some (.aload_n 1) := by decide +kernel
set_option maxRecDepth 1000000 in
theorem lx_k1673 : pw_code 0 1673 = some (.aload_n 0) := by decide +kernel
set_option maxRecDepth 1000000 in
theorem lx_k1674 : pw_code 0 1674 = some (.iload_n 3) := by decide +kernel
set_option maxRecDepth 1000000 in
theorem lx_k1675 : pw_code 0 1675 = some (.iconst 1) := by decide +kernel
set_option maxRecDepth 1000000 in
theorem lx_k1676 : pw_code 0 1676 = some (.iadd) := by decide +kernel
set_option maxRecDepth 1000000 in
theorem lx_k1677 : pw_code 0 1677 = some (.iaload) := by decide +kernel
set_option maxRecDepth 1000000 in
theorem lx_k1678 : pw_code 0 1678 = some (.invokevirtual 229) := by decide +kernel
set_option maxRecDepth 1000000 in
theorem lx_k1681 : pw_code 0 1681 = some (.pop) := by decide +kernel
set_option maxRecDepth 1000000 in
theorem lx_k1682 : pw_code 0 1682 = some (.aload_n 2) := by decide +kernel
set_option maxRecDepth 1000000 in
theorem lx_k1683 : pw_code 0 1683 = some (.aload_n 0) := by decide +kernel
set_option maxRecDepth 1000000 in
theorem lx_k1684 : pw_code 0 1684 = some (.iload_n 3) := by decide +kernel
set_option maxRecDepth 1000000 in
theorem lx_k1685 : pw_code 0 1685 = some (.iconst 1) := by decide +kernel
set_option maxRecDepth 1000000 in
theorem lx_k1686 : pw_code 0 1686 = some (.iadd) := by decide +kernel
set_option maxRecDepth 1000000 in
theorem lx_k1687 : pw_code 0 1687 = some (.iaload) := by decide +kernel
set_option maxRecDepth 1000000 in
theorem lx_k1688 : pw_code 0 1688 = some (.invokevirtual 232) := by decide +kernel
set_option maxRecDepth 1000000 in
theorem lx_k1691 : pw_code 0 1691 = some (.pop) := by decide +kernel
set_option maxRecDepth 1000000 in
theorem lx_k1692 : pw_code 0 1692 = some (.goto 338) := by decide +kernel
set_option maxRecDepth 1000000 in
theorem lx_k1695 : pw_code 0 1695 = some (.aload_n 1) := by decide +kernel
set_option maxRecDepth 1000000 in
theorem lx_k1696 : pw_code 0 1696 = some (.invokevirtual 233) := by decide +kernel
set_option maxRecDepth 1000000 in
theorem lx_k1699 : pw_code 0 1699 = some (.pop2) := by decide +kernel
set_option maxRecDepth 1000000 in
theorem lx_k1700 : pw_code 0 1700 = some (.aload_n 2) := by decide +kernel
set_option maxRecDepth 1000000 in
theorem lx_k1701 : pw_code 0 1701 = some (.invokevirtual 237) := by decide +kernel
set_option maxRecDepth 1000000 in
theorem lx_k1704 : pw_code 0 1704 = some (.pop2) := by decide +kernel
set_option maxRecDepth 1000000 in
theorem lx_k1705 : pw_code 0 1705 = some (.goto 325) := by decide +kernel
set_option maxRecDepth 1000000 in
theorem lx_k1708 : pw_code 0 1708 = some (.aload_n 1) := by decide +kernel
set_option maxRecDepth 1000000 in
theorem lx_k1709 : pw_code 0 1709 = some (.invokevirtual 238) := by decide +kernel
set_option maxRecDepth 1000000 in
theorem lx_k1712 : pw_code 0 1712 = some (.pop) := by decide +kernel
set_option maxRecDepth 1000000 in
theorem lx_k1713 : pw_code 0 1713 = some (.aload_n 2) := by decide +kernel
set_option maxRecDepth 1000000 in
theorem lx_k1714 : pw_code 0 1714 = some (.invokevirtual 241) := by decide +kernel
set_option maxRecDepth 1000000 in
theorem lx_k1717 : pw_code 0 1717 = some (.pop) := by decide +kernel
set_option maxRecDepth 1000000 in
theorem lx_k1718 : pw_code 0 1718 = some (.goto 312) := by decide +kernel
set_option maxRecDepth 1000000 in
theorem lx_k1721 : pw_code 0 1721 = some (.aload_n 1) := by decide +kernel
set_option maxRecDepth 1000000 in
theorem lx_k1722 : pw_code 0 1722 = some (.aload_n 0) := by decide +kernel
set_option maxRecDepth 1000000 in
theorem lx_k1723 : pw_code 0 1723 = some (.iload_n 3) := by decide +kernel
set_option maxRecDepth 1000000 in
theorem lx_k1724 : pw_code 0 1724 = some (.iconst 1) := by decide +kernel
set_option maxRecDepth 1000000 in
theorem lx_k1725 : pw_code 0 1725 = some (.iadd) := by decide +kernel
set_option maxRecDepth 1000000 in
theorem lx_k1726 : pw_code 0 1726 = some (.iaload) := by decide +kernel
set_option maxRecDepth 1000000 in
theorem lx_k1727 : pw_code 0 1727 = some (.aload_n 0) := by decide +kernel
set_option maxRecDepth 1000000 in
theorem lx_k1728 : pw_code 0 1728 = some (.iload_n 3) := by decide +kernel
set_option maxRecDepth 1000000 in
theorem lx_k1729 : pw_code 0 1729 = some (.iconst 2) := by decide +kernel
set_option maxRecDepth 1000000 in
theorem lx_k1730 : pw_code 0 1730 = some (.iadd) := by decide +kernel
set_option maxRecDepth 1000000 in
theorem lx_k1731 : pw_code 0 1731 = some (.iaload) := by decide +kernel
set_option maxRecDepth 1000000 in
theorem lx_k1732 : pw_code 0 1732 = some (.invokevirtual 242) := by decide +kernel
set_option maxRecDepth 1000000 in
theorem lx_k1735 : pw_code 0 1735 = some (.pop) := by decide +kernel
set_option maxRecDepth 1000000 in
theorem lx_k1736 : pw_code 0 1736 = some (.aload_n 2) := by decide +kernel
set_option maxRecDepth 1000000 in
theorem lx_k1737 : pw_code 0 1737 = some (.aload_n 0) := by decide +kernel
set_option maxRecDepth 1000000 in
theorem lx_k1738 : pw_code 0 1738 = some (.iload_n 3) := by decide +kernel
set_option maxRecDepth 1000000 in
theorem lx_k1739 : pw_code 0 1739 = some (.iconst 1) := by decide +kernel
set_option maxRecDepth 1000000 in
theorem lx_k1740 : pw_code 0 1740 = some (.iadd) := by decide +kernel
set_option maxRecDepth 1000000 in
theorem lx_k1741 : pw_code 0 1741 = some (.iaload) := by decide +kernel
set_option maxRecDepth 1000000 in
theorem lx_k1742 : pw_code 0 1742 = some (.aload_n 0) := by decide +kernel
set_option maxRecDepth 1000000 in
theorem lx_k1743 : pw_code 0 1743 = some (.iload_n 3) := by decide +kernel
set_option maxRecDepth 1000000 in
theorem lx_k1744 : pw_code 0 1744 = some (.iconst 2) := by decide +kernel
set_option maxRecDepth 1000000 in
theorem lx_k1745 : pw_code 0 1745 = some (.iadd) := by decide +kernel
set_option maxRecDepth 1000000 in
theorem lx_k1746 : pw_code 0 1746 = some (.iaload) := by decide +kernel
set_option maxRecDepth 1000000 in
theorem lx_k1747 : pw_code 0 1747 = some (.invokevirtual 245) := by decide +kernel
set_option maxRecDepth 1000000 in
theorem lx_k1750 : pw_code 0 1750 = some (.pop) := by decide +kernel
set_option maxRecDepth 1000000 in
theorem lx_k1751 : pw_code 0 1751 = some (.goto 279) := by decide +kernel
set_option maxRecDepth 1000000 in
theorem lx_k1754 : pw_code 0 1754 = some (.aload_n 1) := by decide +kernel
set_option maxRecDepth 1000000 in
theorem lx_k1755 : pw_code 0 1755 = some (.aload_n 0) := by decide +kernel
set_option maxRecDepth 1000000 in
theorem lx_k1756 : pw_code 0 1756 = some (.iload_n 3) := by decide +kernel
set_option maxRecDepth 1000000 in
theorem lx_k1757 : pw_code 0 1757 = some (.iconst 1) := by decide +kernel
set_option maxRecDepth 1000000 in
theorem lx_k1758 : pw_code 0 1758 = some (.iadd) := by decide +kernel
set_option maxRecDepth 1000000 in
theorem lx_k1759 : pw_code 0 1759 = some (.iaload) := by decide +kernel
set_option maxRecDepth 1000000 in
theorem lx_k1760 : pw_code 0 1760 = some (.aload_n 0) := by decide +kernel
set_option maxRecDepth 1000000 in
theorem lx_k1761 : pw_code 0 1761 = some (.iload_n 3) := by decide +kernel
set_option maxRecDepth 1000000 in
theorem lx_k1762 : pw_code 0 1762 = some (.iconst 2) := by decide +kernel
set_option maxRecDepth 1000000 in
theorem lx_k1763 : pw_code 0 1763 = some (.iadd) := by decide +kernel
set_option maxRecDepth 1000000 in
theorem lx_k1764 : pw_code 0 1764 = some (.iaload) := by decide +kernel
set_option maxRecDepth 1000000 in
theorem lx_k1765 : pw_code 0 1765 = some (.aload_n 0) := by decide +kernel
set_option maxRecDepth 1000000 in
theorem lx_k1766 : pw_code 0 1766 = some (.iload_n 3) := by decide +kernel
set_option maxRecDepth 1000000 in
theorem lx_k1767 : pw_code 0 1767 = some (.iconst 3) := by decide +kernel
set_option maxRecDepth 1000000 in
theorem lx_k1768 : pw_code 0 1768 = some (.iadd) := by decide +kernel
set_option maxRecDepth 1000000 in
theorem lx_k1769 : pw_code 0 1769 = some (.iaload) := by decide +kernel
set_option maxRecDepth 1000000 in
theorem lx_k1770 : pw_code 0 1770 = some (.invokevirtual 246) := by decide +kernel
set_option maxRecDepth 1000000 in
theorem lx_k1773 : pw_code 0 1773 = some (.pop) := by decide +kernel
set_option maxRecDepth 1000000 in
theorem lx_k1774 : pw_code 0 1774 = some (.aload_n 2) := by decide +kernel
set_option maxRecDepth 1000000 in
theorem lx_k1775 : pw_code 0 1775 = some (.aload_n 0) := by decide +kernel
set_option maxRecDepth 1000000 in
theorem lx_k1776 : pw_code 0 1776 = some (.iload_n 3) := by decide +kernel
set_option maxRecDepth 1000000 in
theorem lx_k1777 : pw_code 0 1777 = some (.iconst 1) := by decide +kernel
set_option maxRecDepth 1000000 in
theorem lx_k1778 : pw_code 0 1778 = some (.iadd) := by decide +kernel
set_option maxRecDepth 1000000 in
theorem lx_k1779 : pw_code 0 1779 = some (.iaload) := by decide +kernel
set_option maxRecDepth 1000000 in
theorem lx_k1780 : pw_code 0 1780 = some (.aload_n 0) := by decide +kernel
set_option maxRecDepth 1000000 in
theorem lx_k1781 : pw_code 0 1781 = some (.iload_n 3) := by decide +kernel
set_option maxRecDepth 1000000 in
theorem lx_k1782 : pw_code 0 1782 = some (.iconst 2) := by decide +kernel
set_option maxRecDepth 1000000 in
theorem lx_k1783 : pw_code 0 1783 = some (.iadd) := by decide +kernel
set_option maxRecDepth 1000000 in
theorem lx_k1784 : pw_code 0 1784 = some (.iaload) := by decide +kernel
set_option maxRecDepth 1000000 in
theorem lx_k1785 : pw_code 0 1785 = some (.aload_n 0) := by decide +kernel
set_option maxRecDepth 1000000 in
theorem lx_k1786 : pw_code 0 1786 = some (.iload_n 3) := by decide +kernel
set_option maxRecDepth 1000000 in
theorem lx_k1787 : pw_code 0 1787 = some (.iconst 3) := by decide +kernel
set_option maxRecDepth 1000000 in
theorem lx_k1788 : pw_code 0 1788 = some (.iadd) := by decide +kernel
set_option maxRecDepth 1000000 in
theorem lx_k1789 : pw_code 0 1789 = some (.iaload) := by decide +kernel
set_option maxRecDepth 1000000 in
theorem lx_k1790 : pw_code 0 1790 = some (.invokevirtual 249) := by decide +kernel
set_option maxRecDepth 1000000 in
theorem lx_k1793 : pw_code 0 1793 = some (.pop) := by decide +kernel
set_option maxRecDepth 1000000 in
theorem lx_k1794 : pw_code 0 1794 = some (.goto 236) := by decide +kernel
set_option maxRecDepth 1000000 in
theorem lx_k1797 : pw_code 0 1797 = some (.aload_n 1) := by decide +kernel
set_option maxRecDepth 1000000 in
theorem lx_k1798 : pw_code 0 1798 = some (.aload_n 0) := by decide +kernel
set_option maxRecDepth 1000000 in
theorem lx_k1799 : pw_code 0 1799 = some (.iload_n 3) := by decide +kernel
set_option maxRecDepth 1000000 in
theorem lx_k1800 : pw_code 0 1800 = some (.iconst 1) := by decide +kernel
set_option maxRecDepth 1000000 in
theorem lx_k1801 : pw_code 0 1801 = some (.iadd) := by decide +kernel
set_option maxRecDepth 1000000 in
theorem lx_k1802 : pw_code 0 1802 = some (.iaload) := by decide +kernel
set_option maxRecDepth 1000000 in
theorem lx_k1803 : pw_code 0 1803 = some (.invokevirtual 250) := by decide +kernel
set_option maxRecDepth 1000000 in
theorem lx_k1806 : pw_code 0 1806 = some (.pop) := by decide +kernel
set_option maxRecDepth 1000000 in
theorem lx_k1807 : pw_code 0 1807 = some (.aload_n 2) := by decide +kernel
set_option maxRecDepth 1000000 in
theorem lx_k1808 : pw_code 0 1808 = some (.aload_n 0) := by decide +kernel
set_option maxRecDepth 1000000 in
theorem lx_k1809 : pw_code 0 1809 = some (.iload_n 3) := by decide +kernel
set_option maxRecDepth 1000000 in
theorem lx_k1810 : pw_code 0 1810 = some (.iconst 1) := by decide +kernel
set_option maxRecDepth 1000000 in
theorem lx_k1811 : pw_code 0 1811 = some (.iadd) := by decide +kernel
set_option maxRecDepth 1000000 in
theorem lx_k1812 : pw_code 0 1812 = some (.iaload) := by decide +kernel
set_option maxRecDepth 1000000 in
theorem lx_k1813 : pw_code 0 1813 = some (.invokevirtual 253) := by decide +kernel
set_option maxRecDepth 1000000 in
theorem lx_k1816 : pw_code 0 1816 = some (.pop) := by decide +kernel
set_option maxRecDepth 1000000 in
theorem lx_k1817 : pw_code 0 1817 = some (.goto 213) := by decide +kernel
set_option maxRecDepth 1000000 in
theorem lx_k1820 : pw_code 0 1820 = some (.aload_n 1) := by decide +kernel
set_option maxRecDepth 1000000 in
theorem lx_k1821 : pw_code 0 1821 = some (.invokevirtual 254) := by decide +kernel
set_option maxRecDepth 1000000 in
theorem lx_k1824 : pw_code 0 1824 = some (.pop) := by decide +kernel
set_option maxRecDepth 1000000 in
theorem lx_k1825 : pw_code 0 1825 = some (.aload_n 2) := by decide +kernel
set_option maxRecDepth 1000000 in
theorem lx_k1826 : pw_code 0 1826 = some (.invokevirtual 257) := by decide +kernel
set_option maxRecDepth 1000000 in
theorem lx_k1829 : pw_code 0 1829 = some (.pop) := by decide +kernel
set_option maxRecDepth 1000000 in
theorem lx_k1830 : pw_code 0 1830 = some (.goto 200) := by decide +kernel
set_option maxRecDepth 1000000 in
theorem lx_k1833 : pw_code 0 1833 = some (.aload_n 1) := by decide +kernel
set_option maxRecDepth 1000000 in
theorem lx_k1834 : pw_code 0 1834 = some (.aload_n 0) := by decide +kernel
set_option maxRecDepth 1000000 in
theorem lx_k1835 : pw_code 0 1835 = some (.iload_n 3) := by decide +kernel
set_option maxRecDepth 1000000 in
theorem lx_k1836 : pw_code 0 1836 = some (.iconst 1) := by decide +kernel
set_option maxRecDepth 1000000 in
theorem lx_k1837 : pw_code 0 1837 = some (.iadd) := by decide +kernel
set_option maxRecDepth 1000000 in
theorem lx_k1838 : pw_code 0 1838 = some (.iaload) := by decide +kernel
set_option maxRecDepth 1000000 in
theorem lx_k1839 : pw_code 0 1839 = some (.invokevirtual 258) := by decide +kernel
set_option maxRecDepth 1000000 in
theorem lx_k1842 : pw_code 0 1842 = some (.pop) := by decide +kernel
set_option maxRecDepth 1000000 in
theorem lx_k1843 : pw_code 0 1843 = some (.aload_n 2) := by decide +kernel
set_option maxRecDepth 1000000 in
theorem lx_k1844 : pw_code 0 1844 = some (.aload_n 0) := by decide +kernel
set_option maxRecDepth 1000000 in
theorem lx_k1845 : pw_code 0 1845 = some (.iload_n 3) := by decide +kernel
set_option maxRecDepth 1000000 in
theorem lx_k1846 : pw_code 0 1846 = some (.iconst 1) := by decide +kernel
set_option maxRecDepth 1000000 in
theorem lx_k1847 : pw_code 0 1847 = some (.iadd) := by decide +kernel
set_option maxRecDepth 1000000 in
theorem lx_k1848 : pw_code 0 1848 = some (.iaload) := by decide +kernel
set_option maxRecDepth 1000000 in
theorem lx_k1849 : pw_code 0 1849 = some (.invokevirtual 261) := by decide +kernel
set_option maxRecDepth 1000000 in
theorem lx_k1852 : pw_code 0 1852 = some (.pop) := by decide +kernel
set_option maxRecDepth 1000000 in
theorem lx_k1853 : pw_code 0 1853 = some (.goto 177) := by decide +kernel
set_option maxRecDepth 1000000 in
theorem lx_k1856 : pw_code 0 1856 = some (.aload_n 1) := by decide +kernel
set_option maxRecDepth 1000000 in
theorem lx_k1857 : pw_code 0 1857 = some (.aload_n 0) := by decide +kernel
set_option maxRecDepth 1000000 in
theorem lx_k1858 : pw_code 0 1858 = some (.iload_n 3) := by decide +kernel
set_option maxRecDepth 1000000 in
theorem lx_k1859 : pw_code 0 1859 = some (.iconst 1) := by decide +kernel
set_option maxRecDepth 1000000 in
theorem lx_k1860 : pw_code 0 1860 = some (.iadd) := by decide +kernel
set_option maxRecDepth 1000000 in
theorem lx_k1861 : pw_code 0 1861 = some (.iaload) := by decide +kernel
set_option maxRecDepth 1000000 in
theorem lx_k1862 : pw_code 0 1862 = some (.aload_n 0) := by decide +kernel
set_option maxRecDepth 1000000 in
theorem lx_k1863 : pw_code 0 1863 = some (.iload_n 3) := by decide +kernel
set_option maxRecDepth 1000000 in
theorem lx_k1864 : pw_code 0 1864 = some (.iconst 2) := by decide +kernel
set_option maxRecDepth 1000000 in
theorem lx_k1865 : pw_code 0 1865 = some (.iadd) := by decide +kernel
set_option maxRecDepth 1000000 in
theorem lx_k1866 : pw_code 0 1866 = some (.iaload) := by decide +kernel
set_option maxRecDepth 1000000 in
theorem lx_k1867 : pw_code 0 1867 = some (.invokevirtual 262) := by decide +kernel
set_option maxRecDepth 1000000 in
theorem lx_k1870 : pw_code 0 1870 = some (.pop) := by decide +kernel
set_option maxRecDepth 1000000 in
theorem lx_k1871 : pw_code 0 1871 = some (.aload_n 2) := by decide +kernel
set_option maxRecDepth 1000000 in
theorem lx_k1872 : pw_code 0 1872 = some (.aload_n 0) := by decide +kernel
set_option maxRecDepth 1000000 in
theorem lx_k1873 : pw_code 0 1873 = some (.iload_n 3) := by decide +kernel
set_option maxRecDepth 1000000 in
theorem lx_k1874 : pw_code 0 1874 = some (.iconst 1) := by decide +kernel
set_option maxRecDepth 1000000 in
theorem lx_k1875 : pw_code 0 1875 = some (.iadd) := by decide +kernel
set_option maxRecDepth 1000000 in
theorem lx_k1876 : pw_code 0 1876 = some (.iaload) := by decide +kernel
set_option maxRecDepth 1000000 in
theorem lx_k1877 : pw_code 0 1877 = some (.aload_n 0) := by decide +kernel
set_option maxRecDepth 1000000 in
theorem lx_k1878 : pw_code 0 1878 = some (.iload_n 3) := by decide +kernel
set_option maxRecDepth 1000000 in
theorem lx_k1879 : pw_code 0 1879 = some (.iconst 2) := by decide +kernel
set_option maxRecDepth 1000000 in
theorem lx_k1880 : pw_code 0 1880 = some (.iadd) := by decide +kernel
set_option maxRecDepth 1000000 in
theorem lx_k1881 : pw_code 0 1881 = some (.iaload) := by decide +kernel
set_option maxRecDepth 1000000 in
theorem lx_k1882 : pw_code 0 1882 = some (.invokevirtual 265) := by decide +kernel
set_option maxRecDepth 1000000 in
theorem lx_k1885 : pw_code 0 1885 = some (.pop) := by decide +kernel
set_option maxRecDepth 1000000 in
theorem lx_k1886 : pw_code 0 1886 = some (.goto 144) := by decide +kernel
set_option maxRecDepth 1000000 in
theorem lx_k1889 : pw_code 0 1889 = some (.aload_n 1) := by decide +kernel
set_option maxRecDepth 1000000 in
theorem lx_k1890 : pw_code 0 1890 = some (.aload_n 0) := by decide +kernel
set_option maxRecDepth 1000000 in
theorem lx_k1891 : pw_code 0 1891 = some (.iload_n 3) := by decide +kernel
set_option maxRecDepth 1000000 in
theorem lx_k1892 : pw_code 0 1892 = some (.iconst 1) := by decide +kernel
set_option maxRecDepth 1000000 in
theorem lx_k1893 : pw_code 0 1893 = some (.iadd) := by decide +kernel
set_option maxRecDepth 1000000 in
theorem lx_k1894 : pw_code 0 1894 = some (.iaload) := by decide +kernel
set_option maxRecDepth 1000000 in
theorem lx_k1895 : pw_code 0 1895 = some (.aload_n 0) := by decide +kernel
set_option maxRecDepth 1000000 in
theorem lx_k1896 : pw_code 0 1896 = some (.iload_n 3) := by decide +kernel
set_option maxRecDepth 1000000 in
theorem lx_k1897 : pw_code 0 1897 = some (.iconst 2) := by decide +kernel
set_option maxRecDepth 1000000 in
theorem lx_k1898 : pw_code 0 1898 = some (.iadd) := by decide +kernel
set_option maxRecDepth 1000000 in
theorem lx_k1899 : pw_code 0 1899 = some (.iaload) := by decide +kernel
set_option maxRecDepth 1000000 in
theorem lx_k1900 : pw_code 0 1900 = some (.invokevirtual 266) := by decide +kernel
set_option maxRecDepth 1000000 in
theorem lx_k1903 : pw_code 0 1903 = some (.pop) := by decide +kernel
set_option maxRecDepth 1000000 in
theorem lx_k1904 : pw_code 0 1904 = some (.aload_n 2) := by decide +kernel
set_option maxRecDepth 1000000 in
theorem lx_k1905 : pw_code 0 1905 = some (.aload_n 0) := by decide +kernel
set_option maxRecDepth 1000000 in
theorem lx_k1906 : pw_code 0 1906 = some (.iload_n 3) := by decide +kernel
set_option maxRecDepth 1000000 in
theorem lx_k1907 : pw_code 0 1907 = some (.iconst 1) := by decide +kernel
set_option maxRecDepth 1000000 in
theorem lx_k1908 : pw_code 0 1908 = some (.iadd) := by decide +kernel
set_option maxRecDepth 1000000 in
theorem lx_k1909 : pw_code 0 1909 = some (.iaload) := by decide +kernel
set_option maxRecDepth 1000000 in
theorem lx_k1910 : pw_code 0 1910 = some (.aload_n 0) := by decide +kernel
set_option maxRecDepth 1000000 in
theorem lx_k1911 : pw_code 0 1911 = some (.iload_n 3) := by decide +kernel
set_option maxRecDepth 1000000 in
theorem lx_k1912 : pw_code 0 1912 = some (.iconst 2) := by decide +kernel
set_option maxRecDepth 1000000 in
theorem lx_k1913 : pw_code 0 1913 = some (.iadd) := by decide +kernel
set_option maxRecDepth 1000000 in
theorem lx_k1914 : pw_code 0 1914 = some (.iaload) := by decide +kernel
set_option maxRecDepth 1000000 in
theorem lx_k1915 : pw_code 0 1915 = some (.invokevirtual 269) := by decide +kernel
set_option maxRecDepth 1000000 in
theorem lx_k1918 : pw_code 0 1918 = some (.pop) := by decide +kernel
set_option maxRecDepth 1000000 in
theorem lx_k1919 : pw_code 0 1919 = some (.goto 111) := by decide +kernel
set_option maxRecDepth 1000000 in
theorem lx_k1922 : pw_code 0 1922 = some (.aload_n 1) := by decide +kernel
set_option maxRecDepth 1000000 in
theorem lx_k1923 : pw_code 0 1923 = some (.aload_n 0) := by decide +kernel
set_option maxRecDepth 1000000 in
theorem lx_k1924 : pw_code 0 1924 = some (.iload_n 3) := by decide +kernel
set_option maxRecDepth 1000000 in
theorem lx_k1925 : pw_code 0 1925 = some (.iconst 1) := by decide +kernel
set_option maxRecDepth 1000000 in
theorem lx_k1926 : pw_code 0 1926 = some (.iadd) := by decide +kernel
set_option maxRecDepth 1000000 in
theorem lx_k1927 : pw_code 0 1927 = some (.iaload) := by decide +kernel
set_option maxRecDepth 1000000 in
theorem lx_k1928 : pw_code 0 1928 = some (.invokevirtual 270) := by decide +kernel
set_option maxRecDepth 1000000 in
theorem lx_k1931 : pw_code 0 1931 = some (.pop) := by decide +kernel
set_option maxRecDepth 1000000 in
theorem lx_k1932 : pw_code 0 1932 = some (.aload_n 2) := by decide +kernel
set_option maxRecDepth 1000000 in
theorem lx_k1933 : pw_code 0 1933 = some (.aload_n 0) := by decide +kernel
set_option maxRecDepth 1000000 in
theorem lx_k1934 : pw_code 0 1934 = some (.iload_n 3) := by decide +kernel
set_option maxRecDepth 1000000 in
theorem lx_k1935 : pw_code 0 1935 = some (.iconst 1) := by decide +kernel
set_option maxRecDepth 1000000 in
theorem lx_k1936 : pw_code 0 1936 = some (.iadd) := by decide +kernel
set_option maxRecDepth 1000000 in
theorem lx_k1937 : pw_code 0 1937 = some (.iaload) := by decide +kernel
set_option maxRecDepth 1000000 in
theorem lx_k1938 : pw_code 0 1938 = some (.invokevirtual 273) := by decide +kernel
set_option maxRecDepth 1000000 in
theorem lx_k1941 : pw_code 0 1941 = some (.pop) := by decide +kernel
set_option maxRecDepth 1000000 in
theorem lx_k1942 : pw_code 0 1942 = some (.goto 88) := by decide +kernel
set_option maxRecDepth 1000000 in
theorem lx_k1945 : pw_code 0 1945 = some (.aload_n 1) := by decide +kernel
set_option maxRecDepth 1000000 in
theorem lx_k1946 : pw_code 0 1946 = some (.aload_n 0) := by decide +kernel
set_option maxRecDepth 1000000 in
theorem lx_k1947 : pw_code 0 1947 = some (.iload_n 3) := by decide +kernel
set_option maxRecDepth 1000000 in
theorem lx_k1948 : pw_code 0 1948 = some (.iconst 1) := by decide +kernel
set_option maxRecDepth 1000000 in
theorem lx_k1949 : pw_code 0 1949 = some (.iadd) := by decide +kernel
set_option maxRecDepth 1000000 in
theorem lx_k1950 : pw_code 0 1950 = some (.iaload) := by decide +kernel
set_option maxRecDepth 1000000 in
theorem lx_k1951 : pw_code 0 1951 = some (.invokevirtual 274) := by decide +kernel
set_option maxRecDepth 1000000 in
theorem lx_k1954 : pw_code 0 1954 = some (.pop) := by decide +kernel
set_option maxRecDepth 1000000 in
theorem lx_k1955 : pw_code 0 1955 = some (.aload_n 2) := by decide +kernel
set_option maxRecDepth 1000000 in
theorem lx_k1956 : pw_code 0 1956 = some (.aload_n 0) := by decide +kernel
set_option maxRecDepth 1000000 in
theorem lx_k1957 : pw_code 0 1957 = some (.iload_n 3) := by decide +kernel
set_option maxRecDepth 1000000 in
theorem lx_k1958 : pw_code 0 1958 = some (.iconst 1) := by decide +kernel
set_option maxRecDepth 1000000 in
theorem lx_k1959 : pw_code 0 1959 = some (.iadd) := by decide +kernel
set_option maxRecDepth 1000000 in
theorem lx_k1960 : pw_code 0 1960 = some (.iaload) := by decide +kernel
set_option maxRecDepth 1000000 in
theorem lx_k1961 : pw_code 0 1961 = some (.invokevirtual 277) := by decide +kernel
set_option maxRecDepth 1000000 in
theorem lx_k1964 : pw_code 0 1964 = some (.pop) := by decide +kernel
set_option maxRecDepth 1000000 in
theorem lx_k1965 : pw_code 0 1965 = some (.goto 65) := by decide +kernel
set_option maxRecDepth 1000000 in
theorem lx_k1968 : pw_code 0 1968 = some (.aload_n 1) := by decide +kernel
set_option maxRecDepth 1000000 in
theorem lx_k1969 : pw_code 0 1969 = some (.aload_n 0) := by decide +kernel
set_option maxRecDepth 1000000 in
theorem lx_k1970 : pw_code 0 1970 = some (.iload_n 3) := by decide +kernel
set_option maxRecDepth 1000000 in
theorem lx_k1971 : pw_code 0 1971 = some (.iconst 1) := by decide +kernel
set_option maxRecDepth 1000000 in
theorem lx_k1972 : pw_code 0 1972 = some (.iadd) := by decide +kernel
set_option maxRecDepth 1000000 in
theorem lx_k1973 : pw_code 0 1973 = some (.iaload) := by decide +kernel
set_option maxRecDepth 1000000 in
theorem lx_k1974 : pw_code 0 1974 = some (.invokevirtual 278) := by decide +kernel
set_option maxRecDepth 1000000 in
theorem lx_k1977 : pw_code 0 1977 = some (.pop) := by decide +kernel
set_option maxRecDepth 1000000 in
theorem lx_k1978 : pw_code 0 1978 = some (.aload_n 2) := by decide +kernel
set_option maxRecDepth 1000000 in
theorem lx_k1979 : pw_code 0 1979 = some (.aload_n 0) := by decide +kernel
set_option maxRecDepth 1000000 in
theorem lx_k1980 : pw_code 0 1980 = some (.iload_n 3) := by decide +kernel
set_option maxRecDepth 1000000 in
theorem lx_k1981 : pw_code 0 1981 = some (.iconst 1) := by decide +kernel
set_option maxRecDepth 1000000 in
theorem lx_k1982 : pw_code 0 1982 = some (.iadd) := by decide +kernel
set_option maxRecDepth 1000000 in
theorem lx_k1983 : pw_code 0 1983 = some (.iaload) := by decide +kernel
set_option maxRecDepth 1000000 in
theorem lx_k1984 : pw_code 0 1984 = some (.invokevirtual 281) := by decide +kernel
set_option maxRecDepth 1000000 in
theorem lx_k1987 : pw_code 0 1987 = some (.pop) := by decide +kernel
set_option maxRecDepth 1000000 in
theorem lx_k1988 : pw_code 0 1988 = some (.goto 42) := by decide +kernel
set_option maxRecDepth 1000000 in
theorem lx_k1991 : pw_code 0 1991 = some (.aload_n 1) := by decide +kernel
set_option maxRecDepth 1000000 in
theorem lx_k1992 : pw_code 0 1992 = some (.invokevirtual 282) := by decide +kernel
set_option maxRecDepth 1000000 in
theorem lx_k1995 : pw_code 0 1995 = some (.pop) := by decide +kernel
set_option maxRecDepth 1000000 in
theorem lx_k1996 : pw_code 0 1996 = some (.aload_n 2) := by decide +kernel
set_option maxRecDepth 1000000 in
theorem lx_k1997 : pw_code 0 1997 = some (.invokevirtual 285) := by decide +kernel
set_option maxRecDepth 1000000 in
theorem lx_k2000 : pw_code 0 2000 = some (.pop) := by decide +kernel
set_option maxRecDepth 1000000 in
theorem lx_k2001 : pw_code 0 2001 = some (.goto 29) := by decide +kernel
set_option maxRecDepth 1000000 in
theorem lx_k2004 : pw_code 0 2004 = some (.aload_n 1) := by decide +kernel
set_option maxRecDepth 1000000 in
theorem lx_k2005 : pw_code 0 2005 = some (.invokevirtual 286) := by decide +kernel
set_option maxRecDepth 1000000 in
theorem lx_k2008 : pw_code 0 2008 = some (.pop) := by decide +kernel
set_option maxRecDepth 1000000 in
theorem lx_k2009 : pw_code 0 2009 = some (.aload_n 2) := by decide +kernel
set_option maxRecDepth 1000000 in
theorem lx_k2010 : pw_code 0 2010 = some (.invokevirtual 289) := by decide +kernel
set_option maxRecDepth 1000000 in
theorem lx_k2013 : pw_code 0 2013 = some (.pop) := by decide +kernel
set_option maxRecDepth 1000000 in
theorem lx_k2014 : pw_code 0 2014 = some (.goto 16) := by decide +kernel
set_option maxRecDepth 1000000 in
theorem lx_k2017 : pw_code 0 2017 = some (.aload_n 1) := by decide +kernel
set_option maxRecDepth 1000000 in
theorem lx_k2018 : pw_code 0 2018 = some (.invokevirtual 290) := by decide +kernel
set_option maxRecDepth 1000000 in
theorem lx_k2021 : pw_code 0 2021 = some (.pop) := by decide +kernel
set_option maxRecDepth 1000000 in
theorem lx_k2022 : pw_code 0 2022 = some (.aload_n 2) := by decide +kernel
set_option maxRecDepth 1000000 in
theorem lx_k2023 : pw_code 0 2023 = some (.invokevirtual 293) := by decide +kernel
set_option maxRecDepth 1000000 in
theorem lx_k2026 : pw_code 0 2026 = some (.pop) := by decide +kernel
set_option maxRecDepth 1000000 in
theorem lx_k2027 : pw_code 0 2027 = some (.goto 3) := by decide +kernel
set_option maxRecDepth 1000000 in
theorem lx_k2030 : pw_code 0 2030 = some (.iinc 3 6) := by decide +kernel
set_option maxRecDepth 1000000 in
theorem lx_k2033 : pw_code 0 2033 = some (.goto (-2015)) := by decide +kernel
set_option maxRecDepth 1000000 in
theorem lx_k2036 : pw_code 0 2036 = some (.iconst 1) := by decide +kernel
set_option maxRecDepth 1000000 in
theorem lx_k2037 : pw_code 0 2037 = some (.ireturn) := by decide +kernel
set_option maxRecDepth 1000000 in
theorem lx_l13 : am_cl nw_P0 0 (.invokevirtual 13) = some (101, 4) := by decide +kernel
set_option maxRecDepth 1000000 in
theorem lx_l17 : am_cl nw_P0 0 (.invokevirtual 17) = some (243, 4) := by decide +kernel
set_option maxRecDepth 1000000 in
theorem lx_l18 : am_cl nw_P0 0 (.invokevirtual 18) = some (102, 3) := by decide +kernel
set_option maxRecDepth 1000000 in
theorem lx_l22 : am_cl nw_P0 0 (.invokevirtual 22) = some (244, 3) := by decide +kernel
set_option maxRecDepth 1000000 in
theorem lx_l23 : am_cl nw_P0 0 (.invokevirtual 23) = some (103, 3) := by decide +kernel
set_option maxRecDepth 1000000 in
theorem lx_l26 : am_cl nw_P0 0 (.invokevirtual 26) = some (245, 3) := by decide +kernel
set_option maxRecDepth 1000000 in
theorem lx_l27 : am_cl nw_P0 0 (.invokevirtual 27) = some (104, 3) := by decide +kernel
set_option maxRecDepth 1000000 in
theorem lx_l30 : am_cl nw_P0 0 (.invokevirtual 30) = some (247, 3) := by decide +kernel
set_option maxRecDepth 1000000 in
theorem lx_l31 : am_cl nw_P0 0 (.invokevirtual 31) = some (105, 2) := by decide +kernel
set_option maxRecDepth 1000000 in
theorem lx_l35 : am_cl nw_P0 0 (.invokevirtual 35) = some (250, 2) := by decide +kernel
set_option maxRecDepth 1000000 in
theorem lx_l36 : am_cl nw_P0 0 (.invokevirtual 36) = some (106, 1) := by decide +kernel
set_option maxRecDepth 1000000 in
theorem lx_l40 : am_cl nw_P0 0 (.invokevirtual 40) = some (251, 1) := by decide +kernel
set_option maxRecDepth 1000000 in
theorem lx_l41 : am_cl nw_P0 0 (.invokevirtual 41) = some (107, 1) := by decide +kernel
set_option maxRecDepth 1000000 in
theorem lx_l44 : am_cl nw_P0 0 (.invokevirtual 44) = some (252, 1) := by decide +kernel
set_option maxRecDepth 1000000 in
theorem lx_l45 : am_cl nw_P0 0 (.invokevirtual 45) = some (108, 2) := by decide +kernel
set_option maxRecDepth 1000000 in
theorem lx_l49 : am_cl nw_P0 0 (.invokevirtual 49) = some (254, 2) := by decide +kernel
set_option maxRecDepth 1000000 in
theorem lx_l50 : am_cl nw_P0 0 (.invokevirtual 50) = some (109, 3) := by decide +kernel
set_option maxRecDepth 1000000 in
theorem lx_l53 : am_cl nw_P0 0 (.invokevirtual 53) = some (258, 3) := by decide +kernel
set_option maxRecDepth 1000000 in
theorem lx_l54 : am_cl nw_P0 0 (.invokevirtual 54) = some (110, 3) := by decide +kernel
set_option maxRecDepth 1000000 in
theorem lx_l58 : am_cl nw_P0 0 (.invokevirtual 58) = some (259, 3) := by decide +kernel
set_option maxRecDepth 1000000 in
theorem lx_l59 : am_cl nw_P0 0 (.invokevirtual 59) = some (111, 1) := by decide +kernel
set_option maxRecDepth 1000000 in
theorem lx_l63 : am_cl nw_P0 0 (.invokevirtual 63) = some (255, 1) := by decide +kernel
set_option maxRecDepth 1000000 in
theorem lx_l64 : am_cl nw_P0 0 (.invokevirtual 64) = some (112, 3) := by decide +kernel
set_option maxRecDepth 1000000 in
theorem lx_l67 : am_cl nw_P0 0 (.invokevirtual 67) = some (256, 3) := by decide +kernel
set_option maxRecDepth 1000000 in
theorem lx_l68 : am_cl nw_P0 0 (.invokevirtual 68) = some (113, 2) := by decide +kernel
set_option maxRecDepth 1000000 in
theorem lx_l71 : am_cl nw_P0 0 (.invokevirtual 71) = some (257, 2) := by decide +kernel
set_option maxRecDepth 1000000 in
theorem lx_l72 : am_cl nw_P0 0 (.invokevirtual 72) = some (114, 3) := by decide +kernel
set_option maxRecDepth 1000000 in
theorem lx_l75 : am_cl nw_P0 0 (.invokevirtual 75) = some (260, 3) := by decide +kernel
set_option maxRecDepth 1000000 in
theorem lx_l76 : am_cl nw_P0 0 (.invokevirtual 76) = some (115, 6) := by decide +kernel
set_option maxRecDepth 1000000 in
theorem lx_l80 : am_cl nw_P0 0 (.invokevirtual 80) = some (261, 6) := by decide +kernel
set_option maxRecDepth 1000000 in
theorem lx_l81 : am_cl nw_P0 0 (.invokevirtual 81) = some (116, 1) := by decide +kernel
set_option maxRecDepth 1000000 in
theorem lx_l84 : am_cl nw_P0 0 (.invokevirtual 84) = some (263, 1) := by decide +kernel
set_option maxRecDepth 1000000 in
theorem lx_l85 : am_cl nw_P0 0 (.invokevirtual 85) = some (117, 1) := by decide +kernel
set_option maxRecDepth 1000000 in
theorem lx_l88 : am_cl nw_P0 0 (.invokevirtual 88) = some (264, 1) := by decide +kernel
set_option maxRecDepth 1000000 in
theorem lx_l89 : am_cl nw_P0 0 (.invokevirtual 89) = some (118, 1) := by decide +kernel
set_option maxRecDepth 1000000 in
theorem lx_l92 : am_cl nw_P0 0 (.invokevirtual 92) = some (267, 1) := by decide +kernel
set_option maxRecDepth 1000000 in
theorem lx_l93 : am_cl nw_P0 0 (.invokevirtual 93) = some (119, 1) := by decide +kernel
set_option maxRecDepth 1000000 in
theorem lx_l96 : am_cl nw_P0 0 (.invokevirtual 96) = some (242, 1) := by decide +kernel
set_option maxRecDepth 1000000 in
theorem lx_l97 : am_cl nw_P0 0 (.invokevirtual 97) = some (122, 2) := by decide +kernel
set_option maxRecDepth 1000000 in
theorem lx_l100 : am_cl nw_P0 0 (.invokevirtual 100) = some (268, 2) := by decide +kernel
set_option maxRecDepth 1000000 in
theorem lx_l101 : am_cl nw_P0 0 (.invokevirtual 101) = some (123, 2) := by decide +kernel
set_option maxRecDepth 1000000 in
theorem lx_l104 : am_cl nw_P0 0 (.invokevirtual 104) = some (269, 2) := by decide +kernel
set_option maxRecDepth 1000000 in
theorem lx_l105 : am_cl nw_P0 0 (.invokevirtual 105) = some (124, 3) := by decide +kernel
set_option maxRecDepth 1000000 in
theorem lx_l108 : am_cl nw_P0 0 (.invokevirtual 108) = some (271, 3) := by decide +kernel
set_option maxRecDepth 1000000 in
theorem lx_l109 : am_cl nw_P0 0 (.invokevirtual 109) = some (125, 3) := by decide +kernel
set_option maxRecDepth 1000000 in
theorem lx_l112 : am_cl nw_P0 0 (.invokevirtual 112) = some (272, 3) := by decide +kernel
set_option maxRecDepth 1000000 in
theorem lx_l113 : am_cl nw_P0 0 (.invokevirtual 113) = some (126, 3) := by decide +kernel
set_option maxRecDepth 1000000 in
theorem lx_l117 : am_cl nw_P0 0 (.invokevirtual 117) = some (127, 3) := by decide +kernel
set_option maxRecDepth 1000000 in
theorem lx_l120 : am_cl nw_P0 0 (.invokevirtual 120) = some (274, 3) := by decide +kernel
set_option maxRecDepth 1000000 in
theorem lx_l121 : am_cl nw_P0 0 (.invokevirtual 121) = some (128, 3) := by decide +kernel
set_option maxRecDepth 1000000 in
theorem lx_l124 : am_cl nw_P0 0 (.invokevirtual 124) = some (275, 3) := by decide +kernel
set_option maxRecDepth 1000000 in
theorem lx_l125 : am_cl nw_P0 0 (.invokevirtual 125) = some (129, 3) := by decide +kernel
set_option maxRecDepth 1000000 in
theorem lx_l128 : am_cl nw_P0 0 (.invokevirtual 128) = some (276, 3) := by decide +kernel
set_option maxRecDepth 1000000 in
theorem lx_l129 : am_cl nw_P0 0 (.invokevirtual 129) = some (130, 2) := by decide +kernel
set_option maxRecDepth 1000000 in
theorem lx_l132 : am_cl nw_P0 0 (.invokevirtual 132) = some (277, 2) := by decide +kernel
set_option maxRecDepth 1000000 in
theorem lx_l133 : am_cl nw_P0 0 (.invokevirtual 133) = some (131, 1) := by decide +kernel
set_option maxRecDepth 1000000 in
theorem lx_l136 : am_cl nw_P0 0 (.invokevirtual 136) = some (278, 1) := by decide +kernel
set_option maxRecDepth 1000000 in
theorem lx_l137 : am_cl nw_P0 0 (.invokevirtual 137) = some (132, 2) := by decide +kernel
set_option maxRecDepth 1000000 in
theorem lx_l140 : am_cl nw_P0 0 (.invokevirtual 140) = some (279, 2) := by decide +kernel
set_option maxRecDepth 1000000 in
theorem lx_l141 : am_cl nw_P0 0 (.invokevirtual 141) = some (133, 3) := by decide +kernel
set_option maxRecDepth 1000000 in
theorem lx_l144 : am_cl nw_P0 0 (.invokevirtual 144) = some (280, 3) := by decide +kernel
set_option maxRecDepth 1000000 in
theorem lx_l145 : am_cl nw_P0 0 (.invokevirtual 145) = some (134, 2) := by decide +kernel
set_option maxRecDepth 1000000 in
theorem lx_l148 : am_cl nw_P0 0 (.invokevirtual 148) = some (298, 2) := by decide +kernel
set_option maxRecDepth 1000000 in
theorem lx_l149 : am_cl nw_P0 0 (.invokevirtual 149) = some (135, 4) := by decide +kernel
set_option maxRecDepth 1000000 in
theorem lx_l152 : am_cl nw_P0 0 (.invokevirtual 152) = some (294, 4) := by decide +kernel
set_option maxRecDepth 1000000 in
theorem lx_l153 : am_cl nw_P0 0 (.invokevirtual 153) = some (136, 2) := by decide +kernel
set_option maxRecDepth 1000000 in
theorem lx_l156 : am_cl nw_P0 0 (.invokevirtual 156) = some (295, 2) := by decide +kernel
set_option maxRecDepth 1000000 in
theorem lx_l157 : am_cl nw_P0 0 (.invokevirtual 157) = some (137, 1) := by decide +kernel
set_option maxRecDepth 1000000 in
theorem lx_l160 : am_cl nw_P0 0 (.invokevirtual 160) = some (296, 1) := by decide +kernel
set_option maxRecDepth 1000000 in
theorem lx_l161 : am_cl nw_P0 0 (.invokevirtual 161) = some (138, 1) := by decide +kernel
set_option maxRecDepth 1000000 in
theorem lx_l164 : am_cl nw_P0 0 (.invokevirtual 164) = some (297, 1) := by decide +kernel
set_option maxRecDepth 1000000 in
theorem lx_l165 : am_cl nw_P0 0 (.invokevirtual 165) = some (139, 1) := by decide +kernel
set_option maxRecDepth 1000000 in
theorem lx_l168 : am_cl nw_P0 0 (.invokevirtual 168) = some (300, 1) := by decide +kernel
set_option maxRecDepth 1000000 in
theorem lx_l169 : am_cl nw_P0 0 (.invokevirtual 169) = some (140, 2) := by decide +kernel
set_option maxRecDepth 1000000 in
theorem lx_l172 : am_cl nw_P0 0 (.invokevirtual 172) = some (301, 2) := by decide +kernel
set_option maxRecDepth 1000000 in
theorem lx_l173 : am_cl nw_P0 0 (.invokevirtual 173) = some (141, 2) := by decide +kernel
set_option maxRecDepth 1000000 in
theorem lx_l176 : am_cl nw_P0 0 (.invokevirtual 176) = some (304, 2) := by decide +kernel
set_option maxRecDepth 1000000 in
theorem lx_l177 : am_cl nw_P0 0 (.invokevirtual 177) = some (142, 4) := by decide +kernel
set_option maxRecDepth 1000000 in
theorem lx_l180 : am_cl nw_P0 0 (.invokevirtual 180) = some (308, 4) := by decide +kernel
set_option maxRecDepth 1000000 in
theorem lx_l181 : am_cl nw_P0 0 (.invokevirtual 181) = some (143, 3) := by decide +kernel
set_option maxRecDepth 1000000 in
theorem lx_l184 : am_cl nw_P0 0 (.invokevirtual 184) = some (309, 3) := by decide +kernel
set_option maxRecDepth 1000000 in
theorem lx_l185 : am_cl nw_P0 0 (.invokevirtual 185) = some (144, 1) := by decide +kernel
set_option maxRecDepth 1000000 in
theorem lx_l188 : am_cl nw_P0 0 (.invokevirtual 188) = some (281, 1) := by decide +kernel
set_option maxRecDepth 1000000 in
theorem lx_l189 : am_cl nw_P0 0 (.invokevirtual 189) = some (145, 2) := by decide +kernel
set_option maxRecDepth 1000000 in
theorem lx_l192 : am_cl nw_P0 0 (.invokevirtual 192) = some (282, 2) := by decide +kernel
set_option maxRecDepth 1000000 in
theorem lx_l193 : am_cl nw_P0 0 (.invokevirtual 193) = some (146, 2) := by decide +kernel
set_option maxRecDepth 1000000 in
theorem lx_l196 : am_cl nw_P0 0 (.invokevirtual 196) = some (283, 2) := by decide +kernel
set_option maxRecDepth 1000000 in
theorem lx_l197 : am_cl nw_P0 0 (.invokevirtual 197) = some (147, 2) := by decide +kernel
set_option maxRecDepth 1000000 in
theorem lx_l200 : am_cl nw_P0 0 (.invokevirtual 200) = some (284, 2) := by decide +kernel
set_option maxRecDepth 1000000 in
theorem lx_l201 : am_cl nw_P0 0 (.invokevirtual 201) = some (148, 2) := by decide +kernel
set_option maxRecDepth 1000000 in
theorem lx_l204 : am_cl nw_P0 0 (.invokevirtual 204) = some (285, 2) := by decide +kernel
set_option maxRecDepth 1000000 in
theorem lx_l205 : am_cl nw_P0 0 (.invokevirtual 205) = some (149, 2) := by decide +kernel
set_option maxRecDepth 1000000 in
theorem lx_l208 : am_cl nw_P0 0 (.invokevirtual 208) = some (286, 2) := by decide +kernel
set_option maxRecDepth 1000000 in
theorem lx_l209 : am_cl nw_P0 0 (.invokevirtual 209) = some (150, 1) := by decide +kernel
set_option maxRecDepth 1000000 in
theorem lx_l212 : am_cl nw_P0 0 (.invokevirtual 212) = some (287, 1) := by decide +kernel
set_option maxRecDepth 1000000 in
theorem lx_l213 : am_cl nw_P0 0 (.invokevirtual 213) = some (151, 2) := by decide +kernel
set_option maxRecDepth 1000000 in
theorem lx_l216 : am_cl nw_P0 0 (.invokevirtual 216) = some (253, 2) := by decide +kernel
set_option maxRecDepth 1000000 in
theorem lx_l217 : am_cl nw_P0 0 (.invokevirtual 217) = some (152, 2) := by decide +kernel
set_option maxRecDepth 1000000 in
theorem lx_l220 : am_cl nw_P0 0 (.invokevirtual 220) = some (288, 2) := by decide +kernel
set_option maxRecDepth 1000000 in
theorem lx_l221 : am_cl nw_P0 0 (.invokevirtual 221) = some (153, 3) := by decide +kernel
set_option maxRecDepth 1000000 in
theorem lx_l224 : am_cl nw_P0 0 (.invokevirtual 224) = some (289, 3) := by decide +kernel
set_option maxRecDepth 1000000 in
theorem lx_l225 : am_cl nw_P0 0 (.invokevirtual 225) = some (154, 3) := by decide +kernel
set_option maxRecDepth 1000000 in
theorem lx_l228 : am_cl nw_P0 0 (.invokevirtual 228) = some (290, 3) := by decide +kernel
set_option maxRecDepth 1000000 in
theorem lx_l229 : am_cl nw_P0 0 (.invokevirtual 229) = some (155, 2) := by decide +kernel
set_option maxRecDepth 1000000 in
theorem lx_l232 : am_cl nw_P0 0 (.invokevirtual 232) = some (291, 2) := by decide +kernel
set_option maxRecDepth 1000000 in
theorem lx_l233 : am_cl nw_P0 0 (.invokevirtual 233) = some (156, 1) := by decide +kernel
set_option maxRecDepth 1000000 in
theorem lx_l237 : am_cl nw_P0 0 (.invokevirtual 237) = some (292, 1) := by decide +kernel
set_option maxRecDepth 1000000 in
theorem lx_l238 : am_cl nw_P0 0 (.invokevirtual 238) = some (157, 1) := by decide +kernel
set_option maxRecDepth 1000000 in
theorem lx_l241 : am_cl nw_P0 0 (.invokevirtual 241) = some (293, 1) := by decide +kernel
set_option maxRecDepth 1000000 in
theorem lx_l242 : am_cl nw_P0 0 (.invokevirtual 242) = some (159, 3) := by decide +kernel
set_option maxRecDepth 1000000 in
theorem lx_l245 : am_cl nw_P0 0 (.invokevirtual 245) = some (310, 3) := by decide +kernel
set_option maxRecDepth 1000000 in
theorem lx_l246 : am_cl nw_P0 0 (.invokevirtual 246) = some (160, 4) := by decide +kernel
set_option maxRecDepth 1000000 in
theorem lx_l249 : am_cl nw_P0 0 (.invokevirtual 249) = some (311, 4) := by decide +kernel
set_option maxRecDepth 1000000 in
theorem lx_l250 : am_cl nw_P0 0 (.invokevirtual 250) = some (161, 2) := by decide +kernel
set_option maxRecDepth 1000000 in
theorem lx_l253 : am_cl nw_P0 0 (.invokevirtual 253) = some (312, 2) := by decide +kernel
set_option maxRecDepth 1000000 in
theorem lx_l254 : am_cl nw_P0 0 (.invokevirtual 254) = some (162, 1) := by decide +kernel
set_option maxRecDepth 1000000 in
theorem lx_l257 : am_cl nw_P0 0 (.invokevirtual 257) = some (313, 1) := by decide +kernel
set_option maxRecDepth 1000000 in
theorem lx_l258 : am_cl nw_P0 0 (.invokevirtual 258) = some (163, 2) := by decide +kernel
set_option maxRecDepth 1000000 in
theorem lx_l261 : am_cl nw_P0 0 (.invokevirtual 261) = some (314, 2) := by decide +kernel
set_option maxRecDepth 1000000 in
theorem lx_l262 : am_cl nw_P0 0 (.invokevirtual 262) = some (164, 3) := by decide +kernel
set_option maxRecDepth 1000000 in
theorem lx_l265 : am_cl nw_P0 0 (.invokevirtual 265) = some (316, 3) := by decide +kernel
set_option maxRecDepth 1000000 in
theorem lx_l266 : am_cl nw_P0 0 (.invokevirtual 266) = some (165, 3) := by decide +kernel
set_option maxRecDepth 1000000 in
theorem lx_l269 : am_cl nw_P0 0 (.invokevirtual 269) = some (319, 3) := by decide +kernel
set_option maxRecDepth 1000000 in
theorem lx_l270 : am_cl nw_P0 0 (.invokevirtual 270) = some (166, 2) := by decide +kernel
set_option maxRecDepth 1000000 in
theorem lx_l273 : am_cl nw_P0 0 (.invokevirtual 273) = some (317, 2) := by decide +kernel
set_option maxRecDepth 1000000 in
theorem lx_l274 : am_cl nw_P0 0 (.invokevirtual 274) = some (167, 2) := by decide +kernel
set_option maxRecDepth 1000000 in
theorem lx_l277 : am_cl nw_P0 0 (.invokevirtual 277) = some (321, 2) := by decide +kernel
set_option maxRecDepth 1000000 in
theorem lx_l278 : am_cl nw_P0 0 (.invokevirtual 278) = some (168, 2) := by decide +kernel
set_option maxRecDepth 1000000 in
theorem lx_l281 : am_cl nw_P0 0 (.invokevirtual 281) = some (322, 2) := by decide +kernel
set_option maxRecDepth 1000000 in
theorem lx_l282 : am_cl nw_P0 0 (.invokevirtual 282) = some (120, 1) := by decide +kernel
set_option maxRecDepth 1000000 in
theorem lx_l285 : am_cl nw_P0 0 (.invokevirtual 285) = some (323, 1) := by decide +kernel
set_option maxRecDepth 1000000 in
theorem lx_l286 : am_cl nw_P0 0 (.invokevirtual 286) = some (121, 1) := by decide +kernel
set_option maxRecDepth 1000000 in
theorem lx_l289 : am_cl nw_P0 0 (.invokevirtual 289) = some (324, 1) := by decide +kernel
set_option maxRecDepth 1000000 in
theorem lx_l290 : am_cl nw_P0 0 (.invokevirtual 290) = some (158, 1) := by decide +kernel
set_option maxRecDepth 1000000 in
theorem lx_l293 : am_cl nw_P0 0 (.invokevirtual 293) = some (325, 1) := by decide +kernel
