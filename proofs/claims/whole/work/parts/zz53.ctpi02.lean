/-! THE CONSTRUCTORS' RUN (written by program: wip/whole/gen/ctor2.py), the pieces, file 2 -/
set_option maxRecDepth 1000000 in
theorem cr10 : c_rn 9 cs10 = some cs11 := c_same_of (by decide +kernel)
set_option maxRecDepth 1000000 in
theorem cr11 : c_rn 9 cs11 = some cs12 := c_same_of (by decide +kernel)
set_option maxRecDepth 1000000 in
theorem cr12 : c_rn 9 cs12 = some cs13 := c_same_of (by decide +kernel)
set_option maxRecDepth 1000000 in
theorem cr13 : c_rn 9 cs13 = some cs14 := c_same_of (by decide +kernel)
set_option maxRecDepth 1000000 in
theorem cr14 : c_rn 9 cs14 = some cs15 := c_same_of (by decide +kernel)
