/-! THE CONSTRUCTORS' RUN (written by program: wip/whole/gen/ctor2.py), the pieces, file 21 -/
set_option maxRecDepth 1000000 in
theorem cr86 : c_rn 9 cs86 = some cs87 := c_same_of (by decide +kernel)
set_option maxRecDepth 1000000 in
theorem cr87 : c_rn 9 cs87 = some cs88 := c_same_of (by decide +kernel)
set_option maxRecDepth 1000000 in
theorem cr88 : c_rn 9 cs88 = some cs89 := c_same_of (by decide +kernel)
set_option maxRecDepth 1000000 in
theorem cr89 : c_rn 9 cs89 = some cs90 := c_same_of (by decide +kernel)
set_option maxRecDepth 1000000 in
theorem cr90 : c_rn 9 cs90 = some cs91 := c_same_of (by decide +kernel)
