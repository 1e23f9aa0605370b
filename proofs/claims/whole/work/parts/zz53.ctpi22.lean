/-! THE CONSTRUCTORS' RUN (written by program: wip/whole/gen/ctor2.py), the pieces, file 22 -/
set_option maxRecDepth 1000000 in
theorem cr91 : c_rn 9 cs91 = some cs92 := c_same_of (by decide +kernel)
set_option maxRecDepth 1000000 in
theorem cr92 : c_rn 9 cs92 = some cs93 := c_same_of (by decide +kernel)
set_option maxRecDepth 1000000 in
theorem cr93 : c_rn 9 cs93 = some cs94 := c_same_of (by decide +kernel)
set_option maxRecDepth 1000000 in
theorem cr94 : c_rn 9 cs94 = some cs95 := c_same_of (by decide +kernel)
set_option maxRecDepth 1000000 in
theorem cr95 : c_rn 9 cs95 = some cs96 := c_same_of (by decide +kernel)
