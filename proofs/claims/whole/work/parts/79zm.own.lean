/-! the pure part: the own words at first -/
set_option maxRecDepth 100000 in
theorem initX_own : okB (f_X11_init NN z1 1) (fun q => (List.range 34).all fun j => q.1.2.1 3 (j : Int) == wA (j : Int)) = true := by decide +kernel
