/-! THE CONSTRUCTORS' RUN (written by program: wip/whole/gen/ctor2.py), the pieces, file 0 -/
set_option maxRecDepth 1000000 in
theorem cr0 : c_rn 9 cs0 = some cs1 := c_same_of (by decide +kernel)
set_option maxRecDepth 1000000 in
theorem cr1 : c_rn 9 cs1 = some cs2 := c_same_of (by decide +kernel)
set_option maxRecDepth 1000000 in
theorem cr2 : c_rn 9 cs2 = some cs3 := c_same_of (by decide +kernel)
set_option maxRecDepth 1000000 in
theorem cr3 : c_rn 9 cs3 = some cs4 := c_same_of (by decide +kernel)
set_option maxRecDepth 1000000 in
theorem cr4 : c_rn 9 cs4 = some cs5 := c_same_of (by decide +kernel)
