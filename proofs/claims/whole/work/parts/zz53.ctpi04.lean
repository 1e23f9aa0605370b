/-! THE CONSTRUCTORS' RUN (written by program: wip/whole/gen/ctor2.py), the pieces, file 4 -/
set_option maxRecDepth 1000000 in
theorem cr20 : c_rn 9 cs20 = some cs21 := c_same_of (by decide +kernel)
set_option maxRecDepth 1000000 in
theorem cr21 : c_rn 9 cs21 = some cs22 := c_same_of (by decide +kernel)
set_option maxRecDepth 1000000 in
theorem cr22 : c_rn 9 cs22 = some cs23 := c_same_of (by decide +kernel)
set_option maxRecDepth 1000000 in
theorem cr23 : c_rn 9 cs23 = some cs24 := c_same_of (by decide +kernel)
set_option maxRecDepth 1000000 in
theorem cr24 : c_rn 9 cs24 = some cs25 := c_same_of (by decide +kernel)
