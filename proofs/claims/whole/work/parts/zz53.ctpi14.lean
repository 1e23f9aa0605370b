/-! THE CONSTRUCTORS' RUN (written by program: wip/whole/gen/ctor2.py), the pieces, file 14 -/
set_option maxRecDepth 1000000 in
theorem cr53 : c_rn 7 cs53 = some cs54 := c_same_of (by decide +kernel)
set_option maxRecDepth 1000000 in
theorem cr54 : c_rn 7 cs54 = some cs55 := c_same_of (by decide +kernel)
set_option maxRecDepth 1000000 in
theorem cr55 : c_rn 9 cs55 = some cs56 := c_same_of (by decide +kernel)
