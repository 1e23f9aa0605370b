/-! THE CONSTRUCTORS' RUN (written by program: wip/whole/gen/ctor2.py), the pieces, file 17 -/
set_option maxRecDepth 1000000 in
theorem cr66 : c_rn 9 cs66 = some cs67 := c_same_of (by decide +kernel)
set_option maxRecDepth 1000000 in
theorem cr67 : c_rn 9 cs67 = some cs68 := c_same_of (by decide +kernel)
set_option maxRecDepth 1000000 in
theorem cr68 : c_rn 9 cs68 = some cs69 := c_same_of (by decide +kernel)
set_option maxRecDepth 1000000 in
theorem cr69 : c_rn 9 cs69 = some cs70 := c_same_of (by decide +kernel)
set_option maxRecDepth 1000000 in
theorem cr70 : c_rn 9 cs70 = some cs71 := c_same_of (by decide +kernel)
