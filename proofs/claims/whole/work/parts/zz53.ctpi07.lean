/-! THE CONSTRUCTORS' RUN (written by program: wip/whole/gen/ctor2.py), the pieces, file 7 -/
set_option maxRecDepth 1000000 in
theorem cr35 : c_rn 9 cs35 = some cs36 := c_same_of (by decide +kernel)
set_option maxRecDepth 1000000 in
theorem cr36 : c_rn 9 cs36 = some cs37 := c_same_of (by decide +kernel)
set_option maxRecDepth 1000000 in
theorem cr37 : c_rn 9 cs37 = some cs38 := c_same_of (by decide +kernel)
set_option maxRecDepth 1000000 in
theorem cr38 : c_rn 9 cs38 = some cs39 := c_same_of (by decide +kernel)
set_option maxRecDepth 1000000 in
theorem cr39 : c_rn 9 cs39 = some cs40 := c_same_of (by decide +kernel)
