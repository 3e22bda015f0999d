set_option maxRecDepth 100000 in
theorem tt_a : (ev 2000 (some [0]) (ev_law 600000 7302250) 0 [(0, .retAddr 0)] [] [] 0 0).map (·.1) = some (some (.int 1)) := by decide +kernel
set_option maxRecDepth 100000 in
theorem tt_b : (ev 20000 (some [11, 3, 0, 0, 0]) (ev_law 600000 7302250) 0 [(0, .retAddr 0)] [] [] 0 0).map (·.1) = some (some (.int 1)) := by decide +kernel
set_option maxRecDepth 100000 in
theorem tt_c : (ev 20000 (some [14, 3, 0, 0, 0]) (ev_law 600000 7302250) 0 [(0, .retAddr 0)] [] [] 0 0).map (·.1) = some (some (.int 1)) := by decide +kernel
