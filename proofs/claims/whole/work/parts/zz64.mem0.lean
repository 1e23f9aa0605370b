/-! THE CONSTRUCTORS' MEMORY IS THAT LAND -/
set_option maxRecDepth 1000000 in
theorem c_mem0 : allR (mk A00 B00).1 cs100.2.2.2 0 = true := by decide +kernel
set_option maxRecDepth 1000000 in
theorem c_len0 : cs100.2.2.2.length = 318 := by decide +kernel
set_option maxRecDepth 1000000 in
theorem c_shp0 : cs100.2.2.1 = SH := by decide +kernel
theorem c_h0 : c_h cs100.2.2 = (SH, mk A00 B00) := by
  show (cs100.2.2.1, ((c_M cs100.2.2.2, fun _ => 0) : mM)) = _
  rw [c_mem cs100.2.2.2 c_len0 c_mem0, c_shp0]
