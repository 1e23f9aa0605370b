/-! THE CONSTRUCTORS' RUN (written by program: wip/whole/gen/ctor2.py), the pieces, file 18 -/
set_option maxRecDepth 1000000 in
theorem cr71 : c_rn 9 cs71 = some cs72 := c_same_of (by decide +kernel)
set_option maxRecDepth 1000000 in
theorem cr72 : c_rn 9 cs72 = some cs73 := c_same_of (by decide +kernel)
set_option maxRecDepth 1000000 in
theorem cr73 : c_rn 9 cs73 = some cs74 := c_same_of (by decide +kernel)
set_option maxRecDepth 1000000 in
theorem cr74 : c_rn 9 cs74 = some cs75 := c_same_of (by decide +kernel)
set_option maxRecDepth 1000000 in
theorem cr75 : c_rn 9 cs75 = some cs76 := c_same_of (by decide +kernel)
