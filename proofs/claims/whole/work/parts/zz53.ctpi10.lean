/-! THE CONSTRUCTORS' RUN (written by program: wip/whole/gen/ctor2.py), the pieces, file 10 -/
set_option maxRecDepth 1000000 in
theorem cr45 : c_rn 7 cs45 = some cs46 := c_same_of (by decide +kernel)
set_option maxRecDepth 1000000 in
theorem cr46 : c_rn 7 cs46 = some cs47 := c_same_of (by decide +kernel)
