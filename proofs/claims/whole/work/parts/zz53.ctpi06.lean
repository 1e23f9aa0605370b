/-! THE CONSTRUCTORS' RUN (written by program: wip/whole/gen/ctor2.py), the pieces, file 6 -/
set_option maxRecDepth 1000000 in
theorem cr30 : c_rn 9 cs30 = some cs31 := c_same_of (by decide +kernel)
set_option maxRecDepth 1000000 in
theorem cr31 : c_rn 9 cs31 = some cs32 := c_same_of (by decide +kernel)
set_option maxRecDepth 1000000 in
theorem cr32 : c_rn 9 cs32 = some cs33 := c_same_of (by decide +kernel)
set_option maxRecDepth 1000000 in
theorem cr33 : c_rn 9 cs33 = some cs34 := c_same_of (by decide +kernel)
set_option maxRecDepth 1000000 in
theorem cr34 : c_rn 9 cs34 = some cs35 := c_same_of (by decide +kernel)
