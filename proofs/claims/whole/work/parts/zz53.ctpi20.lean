/-! THE CONSTRUCTORS' RUN (written by program: wip/whole/gen/ctor2.py), the pieces, file 20 -/
set_option maxRecDepth 1000000 in
theorem cr81 : c_rn 9 cs81 = some cs82 := c_same_of (by decide +kernel)
set_option maxRecDepth 1000000 in
theorem cr82 : c_rn 9 cs82 = some cs83 := c_same_of (by decide +kernel)
set_option maxRecDepth 1000000 in
theorem cr83 : c_rn 9 cs83 = some cs84 := c_same_of (by decide +kernel)
set_option maxRecDepth 1000000 in
theorem cr84 : c_rn 9 cs84 = some cs85 := c_same_of (by decide +kernel)
set_option maxRecDepth 1000000 in
theorem cr85 : c_rn 9 cs85 = some cs86 := c_same_of (by decide +kernel)
