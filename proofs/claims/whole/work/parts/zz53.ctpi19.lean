/-! THE CONSTRUCTORS' RUN (written by program: wip/whole/gen/ctor2.py), the pieces, file 19 -/
set_option maxRecDepth 1000000 in
theorem cr76 : c_rn 9 cs76 = some cs77 := c_same_of (by decide +kernel)
set_option maxRecDepth 1000000 in
theorem cr77 : c_rn 9 cs77 = some cs78 := c_same_of (by decide +kernel)
set_option maxRecDepth 1000000 in
theorem cr78 : c_rn 9 cs78 = some cs79 := c_same_of (by decide +kernel)
set_option maxRecDepth 1000000 in
theorem cr79 : c_rn 9 cs79 = some cs80 := c_same_of (by decide +kernel)
set_option maxRecDepth 1000000 in
theorem cr80 : c_rn 9 cs80 = some cs81 := c_same_of (by decide +kernel)
