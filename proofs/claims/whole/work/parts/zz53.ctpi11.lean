/-! THE CONSTRUCTORS' RUN (written by program: wip/whole/gen/ctor2.py), the pieces, file 11 -/
set_option maxRecDepth 1000000 in
theorem cr47 : c_rn 7 cs47 = some cs48 := c_same_of (by decide +kernel)
set_option maxRecDepth 1000000 in
theorem cr48 : c_rn 7 cs48 = some cs49 := c_same_of (by decide +kernel)
