/-! THE CONSTRUCTORS' RUN (written by program: wip/whole/gen/ctor2.py), the pieces, file 9 -/
set_option maxRecDepth 1000000 in
theorem cr43 : c_rn 7 cs43 = some cs44 := c_same_of (by decide +kernel)
set_option maxRecDepth 1000000 in
theorem cr44 : c_rn 7 cs44 = some cs45 := c_same_of (by decide +kernel)
