/-! THE CONSTRUCTORS' RUN (written by program: wip/whole/gen/ctor2.py), the pieces, file 3 -/
set_option maxRecDepth 1000000 in
theorem cr15 : c_rn 9 cs15 = some cs16 := c_same_of (by decide +kernel)
set_option maxRecDepth 1000000 in
theorem cr16 : c_rn 9 cs16 = some cs17 := c_same_of (by decide +kernel)
set_option maxRecDepth 1000000 in
theorem cr17 : c_rn 9 cs17 = some cs18 := c_same_of (by decide +kernel)
set_option maxRecDepth 1000000 in
theorem cr18 : c_rn 9 cs18 = some cs19 := c_same_of (by decide +kernel)
set_option maxRecDepth 1000000 in
theorem cr19 : c_rn 9 cs19 = some cs20 := c_same_of (by decide +kernel)
