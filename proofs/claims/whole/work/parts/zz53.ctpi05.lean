/-! THE CONSTRUCTORS' RUN (written by program: wip/whole/gen/ctor2.py), the pieces, file 5 -/
set_option maxRecDepth 1000000 in
theorem cr25 : c_rn 9 cs25 = some cs26 := c_same_of (by decide +kernel)
set_option maxRecDepth 1000000 in
theorem cr26 : c_rn 9 cs26 = some cs27 := c_same_of (by decide +kernel)
set_option maxRecDepth 1000000 in
theorem cr27 : c_rn 9 cs27 = some cs28 := c_same_of (by decide +kernel)
set_option maxRecDepth 1000000 in
theorem cr28 : c_rn 9 cs28 = some cs29 := c_same_of (by decide +kernel)
set_option maxRecDepth 1000000 in
theorem cr29 : c_rn 9 cs29 = some cs30 := c_same_of (by decide +kernel)
