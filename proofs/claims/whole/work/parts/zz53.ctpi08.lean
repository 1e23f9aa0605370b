/-! THE CONSTRUCTORS' RUN (written by program: wip/whole/gen/ctor2.py), the pieces, file 8 -/
set_option maxRecDepth 1000000 in
theorem cr40 : c_rn 9 cs40 = some cs41 := c_same_of (by decide +kernel)
set_option maxRecDepth 1000000 in
theorem cr41 : c_rn 9 cs41 = some cs42 := c_same_of (by decide +kernel)
set_option maxRecDepth 1000000 in
theorem cr42 : c_rn 9 cs42 = some cs43 := c_same_of (by decide +kernel)
