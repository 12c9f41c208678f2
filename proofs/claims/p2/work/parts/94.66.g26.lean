/-! ===== contracts by name ===== -/
def t2_c248 : at_C := (248, [.inl (76, some 277), .inr (false, -2147483648, 2147483647)], [], some (.inr (false, -2147483648, 2147483647)), false, [(76, false, 4, 4), (76, false, 6, 6), (79, false, 3, 16), (79, false, 20, 63), (79, false, 167, 314), (79, false, 444, 1419), (79, true, 1, 1), (79, true, 3, 4), (79, true, 7, 8), (79, true, 10, 60), (81, false, 0, 15)])
set_option maxRecDepth 100000 in
theorem t2_c248_in : t2_c248 ∈ at_CM ++ at_CA := List.mem_of_getElem? (i := 214) rfl
def t2_c266 : at_C := (266, [.inl (76, some 277)], [], some (.inr (false, -2147483648, 2147483647)), false, [(76, false, 4, 4), (76, false, 6, 6), (79, false, 3, 16), (79, false, 20, 63), (79, false, 167, 314), (79, false, 444, 1419), (79, true, 1, 1), (79, true, 3, 4), (79, true, 7, 8), (79, true, 10, 60), (81, false, 0, 15)])
set_option maxRecDepth 100000 in
theorem t2_c266_in : t2_c266 ∈ at_CM ++ at_CA := List.mem_of_getElem? (i := 230) rfl
def t2_c237 : at_C := (237, [.inl (76, some 277)], [], some (.inr (false, -2147483648, 2147483647)), false, [(76, false, 4, 4), (76, false, 6, 6), (79, false, 3, 16), (79, false, 20, 63), (79, false, 167, 314), (79, false, 444, 1419), (79, true, 1, 1), (79, true, 3, 4), (79, true, 7, 8), (79, true, 10, 60), (81, false, 0, 15)])
set_option maxRecDepth 100000 in
theorem t2_c237_in : t2_c237 ∈ at_CM ++ at_CA := List.mem_of_getElem? (i := 213) rfl
def t2_c268 : at_C := (268, [.inl (76, some 277), .inr (false, -2147483648, 2147483647)], [], some (.inr (false, -2147483648, 2147483647)), false, [])
set_option maxRecDepth 100000 in
theorem t2_c268_in : t2_c268 ∈ at_CM ++ at_CA := List.mem_of_getElem? (i := 211) rfl
def t2_c271 : at_C := (271, [.inl (76, some 277), .inr (false, -2147483648, 2147483647), .inr (false, -2147483648, 2147483647)], [], some (.inr (false, -2147483648, 2147483647)), false, [])
set_option maxRecDepth 100000 in
theorem t2_c271_in : t2_c271 ∈ at_CM ++ at_CA := List.mem_of_getElem? (i := 234) rfl
def t2_c205 : at_C := (205, [.inl (76, some 277)], [], some (.inr (false, -1000, 1000)), false, [])
set_option maxRecDepth 100000 in
theorem t2_c205_in : t2_c205 ∈ at_CM ++ at_CA := List.mem_of_getElem? (i := 204) rfl
def t2_c320 : at_C := (320, [.inl (76, some 277), .inr (false, -2147483648, 2147483647)], [], some (.inr (false, 0, 1)), false, [])
set_option maxRecDepth 100000 in
theorem t2_c320_in : t2_c320 ∈ at_CM ++ at_CA := List.mem_of_getElem? (i := 274) rfl
