/-! THE CONSTRUCTORS' RUN (written by program: wip/whole/gen/ctor2.py), the pieces, file 23 -/
set_option maxRecDepth 1000000 in
theorem cr96 : c_rn 9 cs96 = some cs97 := c_same_of (by decide +kernel)
set_option maxRecDepth 1000000 in
theorem cr97 : c_rn 8 cs97 = some cs98 := c_same_of (by decide +kernel)
set_option maxRecDepth 1000000 in
theorem cr98 : c_rn 6 cs98 = some cs99 := c_same_of (by decide +kernel)
set_option maxRecDepth 1000000 in
theorem cr99 : c_rn 5 cs99 = some cs100 := c_same_of (by decide +kernel)
