/-! waiting, by its first number -/
set_option maxRecDepth 100000 in
theorem xp_Z13_3 : xp_at 5 13 (xp_Z 5 (Int.ofNat 3) (Int.ofNat 3)) = true := by decide +kernel
set_option maxRecDepth 100000 in
theorem xp_Z13_4 : xp_at 5 13 (xp_Z 5 (Int.ofNat 4) (Int.ofNat 4)) = true := by decide +kernel
set_option maxRecDepth 100000 in
theorem xp_Z13_5 : xp_at 5 13 (xp_Z 5 (Int.ofNat 5) (Int.ofNat 5)) = true := by decide +kernel
set_option maxRecDepth 100000 in
theorem xp_Z13_6 : xp_at 5 13 (xp_Z 5 (Int.ofNat 6) (Int.ofNat 6)) = true := by decide +kernel
set_option maxRecDepth 100000 in
theorem xp_Z13_7 : xp_at 5 13 (xp_Z 5 (Int.ofNat 7) (Int.ofNat 7)) = true := by decide +kernel
set_option maxRecDepth 100000 in
theorem xp_Z13_8 : xp_at 5 13 (xp_Z 5 (Int.ofNat 8) (Int.ofNat 8)) = true := by decide +kernel
set_option maxRecDepth 100000 in
theorem xp_Z13_9 : xp_at 5 13 (xp_Z 5 (Int.ofNat 9) (Int.ofNat 9)) = true := by decide +kernel
set_option maxRecDepth 100000 in
theorem xp_Z13_10 : xp_at 5 13 (xp_Z 5 (Int.ofNat 10) (Int.ofNat 2147483647)) = true := by decide +kernel
