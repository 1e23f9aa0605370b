/-! THE CONSTRUCTORS' RUN (written by program: wip/whole/gen/ctor2.py), the pieces, file 1 -/
set_option maxRecDepth 1000000 in
theorem cr5 : c_rn 9 cs5 = some cs6 := c_same_of (by decide +kernel)
set_option maxRecDepth 1000000 in
theorem cr6 : c_rn 9 cs6 = some cs7 := c_same_of (by decide +kernel)
set_option maxRecDepth 1000000 in
theorem cr7 : c_rn 9 cs7 = some cs8 := c_same_of (by decide +kernel)
set_option maxRecDepth 1000000 in
theorem cr8 : c_rn 9 cs8 = some cs9 := c_same_of (by decide +kernel)
set_option maxRecDepth 1000000 in
theorem cr9 : c_rn 9 cs9 = some cs10 := c_same_of (by decide +kernel)
