/-! each road -/
set_option maxRecDepth 100000 in
theorem xp_B5_0 : xp_B 5 0 = true := by decide +kernel
set_option maxRecDepth 100000 in
theorem xp_B5_1 : xp_B 5 1 = true := by decide +kernel
set_option maxRecDepth 100000 in
theorem xp_B5_2 : xp_B 5 2 = true := by decide +kernel
set_option maxRecDepth 100000 in
theorem xp_B5_3 : xp_B 5 3 = true := by decide +kernel
set_option maxRecDepth 100000 in
theorem xp_B5_4 : xp_B 5 4 = true := by decide +kernel
set_option maxRecDepth 100000 in
theorem xp_B5_5 : xp_B 5 5 = true := by decide +kernel
set_option maxRecDepth 100000 in
theorem xp_B5_6 : xp_B 5 6 = true := by decide +kernel
set_option maxRecDepth 100000 in
theorem xp_B5_7 : xp_B 5 7 = true := by decide +kernel
set_option maxRecDepth 100000 in
theorem xp_B5_8 : xp_B 5 8 = true := by decide +kernel
set_option maxRecDepth 100000 in
theorem xp_B5_9 : xp_B 5 9 = true := by decide +kernel
set_option maxRecDepth 100000 in
theorem xp_B5_10 : xp_B 5 10 = true := by decide +kernel
set_option maxRecDepth 100000 in
theorem xp_B5_11 : xp_B 5 11 = true := by decide +kernel
set_option maxRecDepth 100000 in
theorem xp_B5_12 : xp_B 5 12 = true := by decide +kernel
set_option maxRecDepth 100000 in
theorem xp_B5_17 : xp_B 5 17 = true := by decide +kernel
set_option maxRecDepth 100000 in
theorem xp_B5_18 : xp_B 5 18 = true := by decide +kernel
set_option maxRecDepth 100000 in
theorem xp_B5_19 : xp_B 5 19 = true := by decide +kernel
set_option maxRecDepth 100000 in
theorem xp_B5_20 : xp_B 5 20 = true := by decide +kernel
set_option maxRecDepth 100000 in
theorem xp_B5_21 : xp_B 5 21 = true := by decide +kernel
set_option maxRecDepth 100000 in
theorem xp_B5_22 : xp_B 5 22 = true := by decide +kernel
set_option maxRecDepth 100000 in
theorem xp_B5_23 : xp_B 5 23 = true := by decide +kernel
set_option maxRecDepth 100000 in
theorem xp_B5_24 : xp_B 5 24 = true := by decide +kernel
set_option maxRecDepth 100000 in
theorem xp_B5_26 : xp_B 5 26 = true := by decide +kernel
set_option maxRecDepth 100000 in
theorem xp_B5_27 : xp_B 5 27 = true := by decide +kernel
set_option maxRecDepth 100000 in
theorem xp_B5_28 : xp_B 5 28 = true := by decide +kernel
set_option maxRecDepth 100000 in
theorem xp_L0 : (match xp_A 0 with
  | some outs => Nat.ble outs.length 1
  | none => false) = true := by decide +kernel
set_option maxRecDepth 100000 in
theorem xp_B0_0 : xp_B 0 0 = true := by decide +kernel
set_option maxRecDepth 100000 in
theorem xp_L1 : (match xp_A 1 with
  | some outs => Nat.ble outs.length 1
  | none => false) = true := by decide +kernel
set_option maxRecDepth 100000 in
theorem xp_B1_0 : xp_B 1 0 = true := by decide +kernel
set_option maxRecDepth 100000 in
theorem xp_L2 : (match xp_A 2 with
  | some outs => Nat.ble outs.length 1
  | none => false) = true := by decide +kernel
set_option maxRecDepth 100000 in
theorem xp_B2_0 : xp_B 2 0 = true := by decide +kernel
set_option maxRecDepth 100000 in
theorem xp_L3 : (match xp_A 3 with
  | some outs => Nat.ble outs.length 1
  | none => false) = true := by decide +kernel
set_option maxRecDepth 100000 in
theorem xp_B3_0 : xp_B 3 0 = true := by decide +kernel
set_option maxRecDepth 100000 in
theorem xp_L4 : (match xp_A 4 with
  | some outs => Nat.ble outs.length 1
  | none => false) = true := by decide +kernel
set_option maxRecDepth 100000 in
theorem xp_B4_0 : xp_B 4 0 = true := by decide +kernel
