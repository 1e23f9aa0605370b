/-! THE CONSTRUCTORS' RUN (written by program: wip/whole/gen/ctor2.py), the pieces, file 16 -/
set_option maxRecDepth 1000000 in
theorem cr61 : c_rn 9 cs61 = some cs62 := c_same_of (by decide +kernel)
set_option maxRecDepth 1000000 in
theorem cr62 : c_rn 9 cs62 = some cs63 := c_same_of (by decide +kernel)
set_option maxRecDepth 1000000 in
theorem cr63 : c_rn 9 cs63 = some cs64 := c_same_of (by decide +kernel)
set_option maxRecDepth 1000000 in
theorem cr64 : c_rn 9 cs64 = some cs65 := c_same_of (by decide +kernel)
set_option maxRecDepth 1000000 in
theorem cr65 : c_rn 9 cs65 = some cs66 := c_same_of (by decide +kernel)
