/-! waiting, by its first number -/
set_option maxRecDepth 100000 in
theorem xp_Z13_m : xp_at 5 13 (xp_Z 5 (Int.negSucc 2147483647) (Int.negSucc 0)) = true := by decide +kernel
set_option maxRecDepth 100000 in
theorem xp_Z13_0 : xp_at 5 13 (xp_Z 5 (Int.ofNat 0) (Int.ofNat 0)) = true := by decide +kernel
set_option maxRecDepth 100000 in
theorem xp_Z13_1 : xp_at 5 13 (xp_Z 5 (Int.ofNat 1) (Int.ofNat 1)) = true := by decide +kernel
set_option maxRecDepth 100000 in
theorem xp_Z13_2 : xp_at 5 13 (xp_Z 5 (Int.ofNat 2) (Int.ofNat 2)) = true := by decide +kernel
