/-! THE CONSTRUCTORS' RUN (written by program: wip/whole/gen/ctor2.py), the pieces, file 12 -/
set_option maxRecDepth 1000000 in
theorem cr49 : c_rn 7 cs49 = some cs50 := c_same_of (by decide +kernel)
set_option maxRecDepth 1000000 in
theorem cr50 : c_rn 7 cs50 = some cs51 := c_same_of (by decide +kernel)
