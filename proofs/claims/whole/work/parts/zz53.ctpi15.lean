/-! THE CONSTRUCTORS' RUN (written by program: wip/whole/gen/ctor2.py), the pieces, file 15 -/
set_option maxRecDepth 1000000 in
theorem cr56 : c_rn 9 cs56 = some cs57 := c_same_of (by decide +kernel)
set_option maxRecDepth 1000000 in
theorem cr57 : c_rn 9 cs57 = some cs58 := c_same_of (by decide +kernel)
set_option maxRecDepth 1000000 in
theorem cr58 : c_rn 9 cs58 = some cs59 := c_same_of (by decide +kernel)
set_option maxRecDepth 1000000 in
theorem cr59 : c_rn 9 cs59 = some cs60 := c_same_of (by decide +kernel)
set_option maxRecDepth 1000000 in
theorem cr60 : c_rn 9 cs60 = some cs61 := c_same_of (by decide +kernel)
