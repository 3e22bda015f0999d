/-! each road -/
set_option maxRecDepth 100000 in
theorem xp_B5_14 : xp_B 5 14 = true := by decide +kernel
set_option maxRecDepth 100000 in
theorem xp_B5_15 : xp_B 5 15 = true := by decide +kernel
set_option maxRecDepth 100000 in
theorem xp_B5_16 : xp_B 5 16 = true := by decide +kernel
set_option maxRecDepth 100000 in
theorem xp_B5_25 : xp_B 5 25 = true := by decide +kernel
