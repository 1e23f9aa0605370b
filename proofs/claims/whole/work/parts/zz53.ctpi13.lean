/-! THE CONSTRUCTORS' RUN (written by program: wip/whole/gen/ctor2.py), the pieces, file 13 -/
set_option maxRecDepth 1000000 in
theorem cr51 : c_rn 7 cs51 = some cs52 := c_same_of (by decide +kernel)
set_option maxRecDepth 1000000 in
theorem cr52 : c_rn 7 cs52 = some cs53 := c_same_of (by decide +kernel)
