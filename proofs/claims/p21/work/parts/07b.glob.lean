set_option maxRecDepth 20000 in
theorem ev_gNat : ((.native arraycopyName) : Cond) ∈ ev_tb := ev_in_ok (p := 493) (by decide +kernel)
set_option maxRecDepth 20000 in
theorem ev_gSta : ((.static arraycopyName) : Cond) ∈ ev_tb := ev_in_ok (p := 492) (by decide +kernel)
set_option maxRecDepth 20000 in
theorem ev_gSys : ((.initialized "java/lang/System") : Cond) ∈ ev_tb := ev_in_ok (p := 68) (by decide +kernel)
set_option maxRecDepth 20000 in
theorem ev_gOi : ((.instanceMethod objectInit) : Cond) ∈ ev_tb := ev_in_ok (p := 75) (by decide +kernel)
set_option maxRecDepth 20000 in
theorem ev_gAi : ((.arrayClass .int) : Cond) ∈ ev_tb := ev_in_ok (p := 119) (by decide +kernel)
set_option maxRecDepth 20000 in
theorem ev_gAc : ((.arrayClass .char) : Cond) ∈ ev_tb := ev_in_ok (p := 90) (by decide +kernel)
set_option maxRecDepth 20000 in
theorem ev_gAz : ((.arrayClass .boolean) : Cond) ∈ ev_tb := ev_in_ok (p := 183) (by decide +kernel)
set_option maxRecDepth 20000 in
theorem ev_gOc : ((.code objectInit ⟨#[0xb1]⟩ 1 none) : Cond) ∈ ev_tb := ev_in_ok (p := 76) (by decide +kernel)
