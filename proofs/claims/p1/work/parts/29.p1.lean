/-! the law at scripts of at most five ints: to the switch, then each road -/
noncomputable def xp_scx (n : Nat) : Option (List xv) := some (((List.range 5).take n).map (fun k => ((0, k + 1, 0) : xv)))
def xp_env : xE := [x_fi, x_fi, x_fi, x_fi, x_fi]
noncomputable def xp_A (n : Nat) : xR := x_lb (xt202 (xp_scx n)) 0 (x_run (fun pc => Nat.ble 33 pc) (xt202 (xp_scx n)) 1000) [(3, 0, 0), (9, 0, 0), (9, 0, 0), (9, 0, 0)] [] (0, []) xp_env 0 0
noncomputable def x_g1s (os : List xo) : Bool := List.rec (motive := fun _ => Bool) true (fun o _ ih => match Nat.beq o.1 0 with
  | true => match o.2.2.1 with
    | v :: _ => match Nat.beq (v.1 + v.2.1) 0 && x_eq v.2.2 1 with
      | true => ih
      | false => false
    | [] => false
  | false => false) os
noncomputable def xp_C (n : Nat) (o : xo) : Bool := match x_lb (xt202 (xp_scx n)) (o.1 - 1) (x_run (fun _ => false) (xt202 (xp_scx n)) 100000) o.2.1 o.2.2.1 o.2.2.2.1 o.2.2.2.2.1 o.2.2.2.2.2.1 o.2.2.2.2.2.2 with
  | some os => x_g1s os
  | none => false
noncomputable def xp_B (n j : Nat) : Bool := match xp_A n with
  | some outs => match x_n outs j with
    | some o => xp_C n o
    | none => true
  | none => false
noncomputable def xp_L (n : Nat) : Bool := match xp_A n with
  | some outs => Nat.ble outs.length 29
  | none => false
set_option maxRecDepth 100000 in
theorem xp_L5 : xp_L 5 = true := by decide +kernel
