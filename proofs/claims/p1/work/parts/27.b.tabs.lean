/-! methods as blocks, by program -/
/-- NameHall$ActRow.remember(LNameHall$Scene;)V -/
noncomputable def xt70 : List (Nat × xB) := [(0, fun ih => xo_lda 1 (xo_lda 0 (xo_gf 0 0 (xo_lda 0 (xo_gf 0 1 (xo_lda 0 (xo_gf 0 2 (xo_bin 0 0 xg_add (xo_push (0, 0, Int.ofNat 14) (xo_cl xm68 0 2 3 0 0 0 0 (xo_aa (xo_cl xm69 7 1 2 0 0 0 0 (xo_lda 0 (xo_gf 0 2 (xo_push (0, 0, Int.ofNat 14) (xo_ic .ge (ih 45) (xo_lda 0 (xo_dup (xo_gf 0 2 (xo_push (0, 0, Int.ofNat 1) (xo_bin 0 0 xg_add (xo_pf 0 2 0 (ih 60))))))))))))))))))))))),
  (45, fun ih => xo_lda 0 (xo_lda 0 (xo_gf 0 1 (xo_push (0, 0, Int.ofNat 1) (xo_bin 0 0 xg_add (xo_push (0, 0, Int.ofNat 14) (xo_cl xm68 0 2 3 0 0 0 0 (xo_pf 0 1 0 (ih 60))))))))),
  (60, fun ih => xo_rv 0)]
noncomputable def xm70 : xM := x_mth 0 xt70 100000
set_option maxRecDepth 100000 in
theorem xM70 : x_Ma 70 xm70 := x_Ma_of (r := ev_r70) rfl (xs_mth (hint := (fun _ => [])) (cal := (x_ca 68 xm68 (x_ca 69 xm69 (fun _ => x_no)))) (x_Ma_ca xM68 (x_Ma_ca xM69 x_Ma_no)) (x_T_cons 23 rfl (x_T_cons 8 rfl (x_T_cons 1 rfl x_T_nil))))
/-- NameHall$Scene.putOn(II)V -/
noncomputable def xt71 : List (Nat × xB) := [(0, fun ih => xo_lda 0 (xo_gf 6 0 (xo_ld 0 1 (xo_cl xm49 5 1 2 0 0 0 0 (xo_if .eq (ih 25) (xo_lda 0 (xo_gf 6 1 (xo_ld 0 1 (xo_ld 0 2 (xo_as 0 (xo_lda 0 (xo_gf 6 2 (xo_ld 0 1 (xo_push (0, 0, Int.ofNat 0) (xo_as 0 (ih 25)))))))))))))))),
  (25, fun ih => xo_rv 0)]
noncomputable def xm71 : xM := x_mth 0 xt71 100000
set_option maxRecDepth 100000 in
theorem xM71 : x_Ma 71 xm71 := x_Ma_of (r := ev_r71) rfl (xs_mth (hint := (fun _ => [])) (cal := (x_ca 49 xm49 (fun _ => x_no))) (x_Ma_ca xM49 x_Ma_no) (x_T_cons 15 rfl (x_T_cons 1 rfl x_T_nil)))
/-- NameHall.take(II)I -/
noncomputable def xt72 : List (Nat × xB) := [(0, fun ih => xo_lda 0 (xo_gf 9 1 (xo_ld 0 1 (xo_cl xm49 5 1 2 0 0 0 0 (xo_if .eq (ih 22) (xo_lda 0 (xo_gf 9 1 (xo_ld 0 2 (xo_cl xm40 5 1 2 0 0 0 0 (xo_if .ne (ih 24) (ih 22))))))))))),
  (22, fun ih => xo_push (0, 0, Int.negSucc 0) (xo_ri 1)),
  (24, fun ih => xo_lda 0 (xo_gf 9 2 (xo_ld 0 1 (xo_ld 0 2 (xo_cl xm67 7 2 3 0 0 0 0 (xo_if .ne (ih 39) (xo_push (0, 0, Int.negSucc 2) (xo_ri 1)))))))),
  (39, fun ih => xo_lda 0 (xo_gf 9 4 (xo_lda 0 (xo_gf 9 2 (xo_cl xm70 1 1 2 0 0 0 0 (xo_lda 0 (xo_gf 9 2 (xo_ld 0 1 (xo_ld 0 2 (xo_cl xm71 7 2 3 0 0 0 0 (xo_lda 0 (xo_gf 9 2 (xo_ld 0 2 (xo_cl xm43 7 1 4 0 0 0 0 (xo_cl xm65 0 1 1 0 0 0 0 (xo_ri 1))))))))))))))))]
noncomputable def xm72 : xM := x_mth 0 xt72 100000
set_option maxRecDepth 100000 in
theorem xM72 : x_Ma 72 xm72 := x_Ma_of (r := ev_r72) rfl (xs_mth (hint := (fun _ => [])) (cal := (x_ca 49 xm49 (x_ca 40 xm40 (x_ca 67 xm67 (x_ca 70 xm70 (x_ca 71 xm71 (x_ca 43 xm43 (x_ca 65 xm65 (fun _ => x_no))))))))) (x_Ma_ca xM49 (x_Ma_ca xM40 (x_Ma_ca xM67 (x_Ma_ca xM70 (x_Ma_ca xM71 (x_Ma_ca xM43 (x_Ma_ca xM65 x_Ma_no))))))) (x_T_cons 10 rfl (x_T_cons 2 rfl (x_T_cons 8 rfl (x_T_cons 16 rfl x_T_nil)))))
/-- NameHallModel.has(II)Z -/
noncomputable def xt73 : List (Nat × xB) := [(0, fun ih => xo_ld 0 0 (xo_ld 0 1 (xo_bin 0 0 (xg_i x_ishr xg_ti) (xo_push (0, 0, Int.ofNat 1) (xo_bin 0 0 (xg_i (· &&& ·) xg_and) (xo_push (0, 0, Int.ofNat 1) (xo_ic .ne (ih 13) (xo_push (0, 0, Int.ofNat 1) (ih 14))))))))),
  (13, fun ih => xo_push (0, 0, Int.ofNat 0) (ih 14)),
  (14, fun ih => xo_ri 2)]
noncomputable def xm73 : xM := x_mth 0 xt73 100000
set_option maxRecDepth 100000 in
theorem xM73 : x_Ma 73 xm73 := x_Ma_of (r := ev_r73) rfl (xs_mth (hint := (fun _ => [])) (cal := (fun _ => x_no)) x_Ma_no (x_T_cons 9 rfl (x_T_cons 1 rfl (x_T_cons 1 rfl x_T_nil))))
/-- NameHallModel.isGone(II)Z -/
noncomputable def xt74 : List (Nat × xB) := [(0, fun ih => xo_lda 0 (xo_gf 10 7 (xo_push (0, 0, Int.ofNat 18) (xo_ld 0 1 (xo_bin 0 0 (xg_i (· * ·) xg_mul) (xo_push (0, 0, Int.ofNat 16) (xo_bin 0 0 xg_add (xo_al none 0 (xo_ld 0 2 (xo_cl xm73 0 2 2 0 0 0 0 (xo_ri 2)))))))))))]
noncomputable def xm74 : xM := x_mth 0 xt74 100000
set_option maxRecDepth 100000 in
theorem xM74 : x_Ma 74 xm74 := x_Ma_of (r := ev_r74) rfl (xs_mth (hint := (fun _ => [])) (cal := (x_ca 73 xm73 (fun _ => x_no))) (x_Ma_ca xM73 x_Ma_no) (x_T_cons 11 rfl x_T_nil))
/-- NameHallModel.ones(I)I -/
noncomputable def xt75 : List (Nat × xB) := [(0, fun ih => xo_push (0, 0, Int.ofNat 0) (xo_st 0 1 3 (xo_push (0, 0, Int.ofNat 0) (xo_st 0 2 3 (ih 4))))),
  (4, fun ih => xo_ld 0 2 (xo_push (0, 0, Int.ofNat 5) (xo_ic .ge (ih 23) (xo_ld 0 1 (xo_ld 0 0 (xo_ld 0 2 (xo_bin 0 0 (xg_i x_ishr xg_ti) (xo_push (0, 0, Int.ofNat 1) (xo_bin 0 0 (xg_i (· &&& ·) xg_and) (xo_bin 0 0 xg_add (xo_st 0 1 3 (xo_inc 2 3 (Int.ofNat 1) (ih 4))))))))))))),
  (23, fun ih => xo_ld 0 1 (xo_ri 1))]
noncomputable def xm75 : xM := x_mth 2 xt75 100000
set_option maxRecDepth 100000 in
theorem xM75 : x_Ma 75 xm75 := x_Ma_of (r := ev_r75) rfl (xs_mth (hint := (fun _ => [])) (cal := (fun _ => x_no)) x_Ma_no (x_T_cons 4 rfl (x_T_cons 13 rfl (x_T_cons 2 rfl x_T_nil))))
/-- NameHallModel.room(I)I -/
noncomputable def xt76 : List (Nat × xB) := [(0, fun ih => xo_lda 0 (xo_gf 10 2 (xo_ld 0 1 (xo_al none 0 (xo_push (0, 0, Int.ofNat 2) (xo_ic .ne (ih 14) (xo_push (0, 0, Int.ofNat 2) (ih 15)))))))),
  (14, fun ih => xo_push (0, 0, Int.ofNat 1) (ih 15)),
  (15, fun ih => xo_ri 1)]
noncomputable def xm76 : xM := x_mth 0 xt76 100000
set_option maxRecDepth 100000 in
theorem xM76 : x_Ma 76 xm76 := x_Ma_of (r := ev_r76) rfl (xs_mth (hint := (fun _ => [])) (cal := (fun _ => x_no)) x_Ma_no (x_T_cons 8 rfl (x_T_cons 1 rfl (x_T_cons 1 rfl x_T_nil))))
/-- NameHallModel.canTake(III)Z -/
noncomputable def xt77 : List (Nat × xB) := [(0, fun ih => xo_push (0, 0, Int.ofNat 18) (xo_ld 0 1 (xo_bin 0 0 (xg_i (· * ·) xg_mul) (xo_st 0 4 5 (xo_lda 0 (xo_ld 0 1 (xo_ld 0 2 (xo_cl xm74 11 2 3 0 0 0 0 (xo_if .ne (ih 80) (xo_lda 0 (xo_gf 10 7 (xo_ld 0 4 (xo_ld 0 2 (xo_bin 0 0 xg_add (xo_al none 0 (xo_push (0, 0, Int.negSucc 8) (xo_ic .ne (ih 80) (xo_lda 0 (xo_gf 10 7 (xo_ld 0 4 (xo_push (0, 0, Int.ofNat 15) (xo_bin 0 0 xg_add (xo_al none 0 (xo_ld 0 3 (xo_cl xm73 0 2 2 0 0 0 0 (xo_if .ne (ih 80) (xo_lda 0 (xo_gf 10 6 (xo_ld 0 2 (xo_al none 0 (xo_ld 0 3 (xo_cl xm73 0 2 2 0 0 0 0 (xo_if .eq (ih 80) (xo_lda 0 (xo_ld 0 1 (xo_ld 0 3 (xo_cl xm47 11 2 5 0 0 0 0 (xo_cl xm75 0 1 3 0 0 0 0 (xo_lda 0 (xo_ld 0 3 (xo_cl xm76 11 1 2 0 0 0 0 (xo_ic .ge (ih 80) (xo_push (0, 0, Int.ofNat 1) (ih 81)))))))))))))))))))))))))))))))))))))))))))),
  (80, fun ih => xo_push (0, 0, Int.ofNat 0) (ih 81)),
  (81, fun ih => xo_ri 2)]
noncomputable def xm77 : xM := x_mth 1 xt77 100000
set_option maxRecDepth 100000 in
theorem xM77 : x_Ma 77 xm77 := x_Ma_of (r := ev_r77) rfl (xs_mth (hint := (fun _ => [])) (cal := (x_ca 74 xm74 (x_ca 73 xm73 (x_ca 47 xm47 (x_ca 75 xm75 (x_ca 76 xm76 (fun _ => x_no))))))) (x_Ma_ca xM74 (x_Ma_ca xM73 (x_Ma_ca xM47 (x_Ma_ca xM75 (x_Ma_ca xM76 x_Ma_no))))) (x_T_cons 44 rfl (x_T_cons 1 rfl (x_T_cons 1 rfl x_T_nil))))
/-- NameHallModel.keepAct()V -/
noncomputable def xt78 : List (Nat × xB) := [(0, fun ih => xo_push (0, 0, Int.ofNat 0) (xo_st 0 1 2 (ih 2))),
  (2, fun ih => xo_ld 0 1 (xo_push (0, 0, Int.ofNat 18) (xo_ic .ge (ih 34) (xo_lda 0 (xo_gf 10 18 (xo_push (0, 0, Int.ofNat 18) (xo_lda 0 (xo_gf 10 17 (xo_bin 0 0 (xg_i (· * ·) xg_mul) (xo_ld 0 1 (xo_bin 0 0 xg_add (xo_lda 0 (xo_gf 10 7 (xo_ld 0 1 (xo_al none 0 (xo_as 0 (xo_inc 1 2 (Int.ofNat 1) (ih 2)))))))))))))))))),
  (34, fun ih => xo_lda 0 (xo_lda 0 (xo_gf 10 17 (xo_push (0, 0, Int.ofNat 1) (xo_bin 0 0 xg_add (xo_push (0, 0, Int.ofNat 14) (xo_bin 0 0 xg_rem (xo_pf 10 17 0 (xo_lda 0 (xo_lda 0 (xo_gf 10 16 (xo_push (0, 0, Int.ofNat 14) (xo_ic .ge (ih 66) (xo_lda 0 (xo_gf 10 16 (xo_push (0, 0, Int.ofNat 1) (xo_bin 0 0 xg_add (ih 68)))))))))))))))))),
  (66, fun ih => xo_push (0, 0, Int.ofNat 14) (ih 68)),
  (68, fun ih => xo_pf 10 16 0 (xo_rv 0))]
noncomputable def xm78 : xM := x_mth 1 xt78 100000
set_option maxRecDepth 100000 in
theorem xM78 : x_Ma 78 xm78 := x_Ma_of (r := ev_r78) rfl (xs_mth (hint := (fun _ => [])) (cal := (fun _ => x_no)) x_Ma_no (x_T_cons 2 rfl (x_T_cons 18 rfl (x_T_cons 18 rfl (x_T_cons 1 rfl (x_T_cons 2 rfl x_T_nil))))))
/-- NameHallModel.takeOn(III)V -/
noncomputable def xt79 : List (Nat × xB) := [(0, fun ih => xo_lda 0 (xo_gf 10 7 (xo_push (0, 0, Int.ofNat 18) (xo_ld 0 1 (xo_bin 0 0 (xg_i (· * ·) xg_mul) (xo_ld 0 2 (xo_bin 0 0 xg_add (xo_ld 0 3 (xo_as 0 (xo_lda 0 (xo_gf 10 7 (xo_push (0, 0, Int.ofNat 18) (xo_ld 0 1 (xo_bin 0 0 (xg_i (· * ·) xg_mul) (xo_push (0, 0, Int.ofNat 5) (xo_bin 0 0 xg_add (xo_ld 0 2 (xo_bin 0 0 xg_add (xo_push (0, 0, Int.ofNat 0) (xo_as 0 (xo_rv 0)))))))))))))))))))))]
noncomputable def xm79 : xM := x_mth 0 xt79 100000
set_option maxRecDepth 100000 in
theorem xM79 : x_Ma 79 xm79 := x_Ma_of (r := ev_r79) rfl (xs_mth (hint := (fun _ => [])) (cal := (fun _ => x_no)) x_Ma_no (x_T_cons 21 rfl x_T_nil))
/-- NameHallModel.take(II)I -/
noncomputable def xt80 : List (Nat × xB) := [(0, fun ih => xo_lda 0 (xo_ld 0 1 (xo_cl xm61 11 1 2 0 0 0 0 (xo_if .eq (ih 16) (xo_lda 0 (xo_ld 0 2 (xo_cl xm46 11 1 2 0 0 0 0 (xo_if .ne (ih 18) (ih 16))))))))),
  (16, fun ih => xo_push (0, 0, Int.negSucc 0) (xo_ri 1)),
  (18, fun ih => xo_lda 0 (xo_push (0, 0, Int.ofNat 0) (xo_ld 0 1 (xo_ld 0 2 (xo_cl xm77 11 3 5 0 0 0 0 (xo_if .ne (ih 31) (xo_push (0, 0, Int.negSucc 2) (xo_ri 1)))))))),
  (31, fun ih => xo_lda 0 (xo_cl xm78 11 0 2 0 0 0 0 (xo_lda 0 (xo_push (0, 0, Int.ofNat 0) (xo_ld 0 1 (xo_ld 0 2 (xo_cl xm79 11 3 4 0 0 0 0 (xo_lda 0 (xo_push (0, 0, Int.ofNat 0) (xo_ld 0 2 (xo_cl xm47 11 2 5 0 0 0 0 (xo_cl xm75 0 1 3 0 0 0 0 (xo_ri 1)))))))))))))]
noncomputable def xm80 : xM := x_mth 0 xt80 100000
set_option maxRecDepth 100000 in
theorem xM80 : x_Ma 80 xm80 := x_Ma_of (r := ev_r80) rfl (xs_mth (hint := (fun _ => [])) (cal := (x_ca 61 xm61 (x_ca 46 xm46 (x_ca 77 xm77 (x_ca 78 xm78 (x_ca 79 xm79 (x_ca 47 xm47 (x_ca 75 xm75 (fun _ => x_no))))))))) (x_Ma_ca xM61 (x_Ma_ca xM46 (x_Ma_ca xM77 (x_Ma_ca xM78 (x_Ma_ca xM79 (x_Ma_ca xM47 (x_Ma_ca xM75 x_Ma_no))))))) (x_T_cons 8 rfl (x_T_cons 2 rfl (x_T_cons 8 rfl (x_T_cons 13 rfl x_T_nil)))))
/-- NameHall$Scene.takeOff(I)V -/
noncomputable def xt81 : List (Nat × xB) := [(0, fun ih => xo_lda 0 (xo_ld 0 1 (xo_push (0, 0, Int.negSucc 8) (xo_cl xm71 7 2 3 0 0 0 0 (xo_rv 0)))))]
noncomputable def xm81 : xM := x_mth 0 xt81 100000
set_option maxRecDepth 100000 in
theorem xM81 : x_Ma 81 xm81 := x_Ma_of (r := ev_r81) rfl (xs_mth (hint := (fun _ => [])) (cal := (x_ca 71 xm71 (fun _ => x_no))) (x_Ma_ca xM71 x_Ma_no) (x_T_cons 5 rfl x_T_nil))
/-- NameHall.hang(I)I -/
noncomputable def xt82 : List (Nat × xB) := [(0, fun ih => xo_lda 0 (xo_gf 9 1 (xo_ld 0 1 (xo_cl xm49 5 1 2 0 0 0 0 (xo_if .ne (ih 13) (xo_push (0, 0, Int.negSucc 0) (xo_ri 1))))))),
  (13, fun ih => xo_lda 0 (xo_gf 9 2 (xo_ld 0 1 (xo_cl xm53 7 1 2 0 0 0 0 (xo_st 0 2 3 (xo_ld 0 2 (xo_push (0, 0, Int.negSucc 8) (xo_ic .ne (ih 31) (xo_push (0, 0, Int.negSucc 2) (xo_ri 1)))))))))),
  (31, fun ih => xo_lda 0 (xo_gf 9 4 (xo_lda 0 (xo_gf 9 2 (xo_cl xm70 1 1 2 0 0 0 0 (xo_lda 0 (xo_gf 9 2 (xo_ld 0 1 (xo_cl xm81 7 1 2 0 0 0 0 (xo_ld 0 2 (xo_ri 1)))))))))))]
noncomputable def xm82 : xM := x_mth 1 xt82 100000
set_option maxRecDepth 100000 in
theorem xM82 : x_Ma 82 xm82 := x_Ma_of (r := ev_r82) rfl (xs_mth (hint := (fun _ => [])) (cal := (x_ca 49 xm49 (x_ca 53 xm53 (x_ca 70 xm70 (x_ca 81 xm81 (fun _ => x_no)))))) (x_Ma_ca xM49 (x_Ma_ca xM53 (x_Ma_ca xM70 (x_Ma_ca xM81 x_Ma_no)))) (x_T_cons 7 rfl (x_T_cons 10 rfl (x_T_cons 11 rfl x_T_nil))))
/-- NameHallModel.hang(I)I -/
noncomputable def xt83 : List (Nat × xB) := [(0, fun ih => xo_lda 0 (xo_ld 0 1 (xo_cl xm61 11 1 2 0 0 0 0 (xo_if .ne (ih 10) (xo_push (0, 0, Int.negSucc 0) (xo_ri 1)))))),
  (10, fun ih => xo_lda 0 (xo_gf 10 7 (xo_ld 0 1 (xo_al none 0 (xo_push (0, 0, Int.negSucc 8) (xo_ic .ne (ih 24) (xo_push (0, 0, Int.negSucc 2) (xo_ri 1)))))))),
  (24, fun ih => xo_lda 0 (xo_cl xm78 11 0 2 0 0 0 0 (xo_lda 0 (xo_gf 10 7 (xo_ld 0 1 (xo_al none 0 (xo_st 0 2 3 (xo_lda 0 (xo_push (0, 0, Int.ofNat 0) (xo_ld 0 1 (xo_push (0, 0, Int.negSucc 8) (xo_cl xm79 11 3 4 0 0 0 0 (xo_ld 0 2 (xo_ri 1))))))))))))))]
noncomputable def xm83 : xM := x_mth 1 xt83 100000
set_option maxRecDepth 100000 in
theorem xM83 : x_Ma 83 xm83 := x_Ma_of (r := ev_r83) rfl (xs_mth (hint := (fun _ => [])) (cal := (x_ca 61 xm61 (x_ca 78 xm78 (x_ca 79 xm79 (fun _ => x_no))))) (x_Ma_ca xM61 (x_Ma_ca xM78 (x_Ma_ca xM79 x_Ma_no))) (x_T_cons 6 rfl (x_T_cons 8 rfl (x_T_cons 14 rfl x_T_nil))))
/-- NameHall$Plan.needsAt(II)Z -/
noncomputable def xt84 : List (Nat × xB) := [(0, fun ih => xo_lda 0 (xo_ld 0 1 (xo_cl xm49 5 1 2 0 0 0 0 (xo_if .eq (ih 32) (xo_ld 0 2 (xo_lda 0 (xo_gf 4 2 (xo_ld 0 1 (xo_al none 0 (xo_ic .lt (ih 32) (xo_ld 0 2 (xo_lda 0 (xo_gf 4 3 (xo_ld 0 1 (xo_al none 0 (xo_ic .gt (ih 32) (xo_push (0, 0, Int.ofNat 1) (ih 33)))))))))))))))))),
  (32, fun ih => xo_push (0, 0, Int.ofNat 0) (ih 33)),
  (33, fun ih => xo_ri 2)]
noncomputable def xm84 : xM := x_mth 0 xt84 100000
set_option maxRecDepth 100000 in
theorem xM84 : x_Ma 84 xm84 := x_Ma_of (r := ev_r84) rfl (xs_mth (hint := (fun _ => [])) (cal := (x_ca 49 xm49 (fun _ => x_no))) (x_Ma_ca xM49 x_Ma_no) (x_T_cons 18 rfl (x_T_cons 1 rfl (x_T_cons 1 rfl x_T_nil))))
/-- NameHall$Scene.needsAt(II)Z -/
noncomputable def xt85 : List (Nat × xB) := [(0, fun ih => xo_lda 0 (xo_gf 6 0 (xo_ld 0 1 (xo_ld 0 2 (xo_cl xm84 5 2 3 0 0 0 0 (xo_if .eq (ih 24) (xo_lda 0 (xo_ld 0 1 (xo_cl xm59 7 1 2 0 0 0 0 (xo_if .ne (ih 24) (xo_push (0, 0, Int.ofNat 1) (ih 25)))))))))))),
  (24, fun ih => xo_push (0, 0, Int.ofNat 0) (ih 25)),
  (25, fun ih => xo_ri 2)]
noncomputable def xm85 : xM := x_mth 0 xt85 100000
set_option maxRecDepth 100000 in
theorem xM85 : x_Ma 85 xm85 := x_Ma_of (r := ev_r85) rfl (xs_mth (hint := (fun _ => [])) (cal := (x_ca 84 xm84 (x_ca 59 xm59 (fun _ => x_no)))) (x_Ma_ca xM84 (x_Ma_ca xM59 x_Ma_no)) (x_T_cons 12 rfl (x_T_cons 1 rfl (x_T_cons 1 rfl x_T_nil))))
/-- NameHall$Scene.needingAt(I)I -/
noncomputable def xt86 : List (Nat × xB) := [(0, fun ih => xo_push (0, 0, Int.ofNat 0) (xo_st 0 2 4 (xo_push (0, 0, Int.ofNat 0) (xo_st 0 3 4 (ih 4))))),
  (4, fun ih => xo_ld 0 3 (xo_push (0, 0, Int.ofNat 5) (xo_ic .ge (ih 30) (xo_lda 0 (xo_ld 0 3 (xo_ld 0 1 (xo_cl xm85 7 2 3 0 0 0 0 (xo_if .eq (ih 24) (xo_ld 0 2 (xo_push (0, 0, Int.ofNat 1) (xo_ld 0 3 (xo_bin 0 0 (xg_i x_ishl xg_ti) (xo_bin 0 0 (xg_i (· ||| ·) xg_ti) (xo_st 0 2 4 (ih 24))))))))))))))),
  (24, fun ih => xo_inc 3 4 (Int.ofNat 1) (ih 4)),
  (30, fun ih => xo_ld 0 2 (xo_ri 1))]
noncomputable def xm86 : xM := x_mth 2 xt86 100000
set_option maxRecDepth 100000 in
theorem xM86 : x_Ma 86 xm86 := x_Ma_of (r := ev_r86) rfl (xs_mth (hint := (fun _ => [])) (cal := (x_ca 85 xm85 (fun _ => x_no))) (x_Ma_ca xM85 x_Ma_no) (x_T_cons 4 rfl (x_T_cons 14 rfl (x_T_cons 2 rfl (x_T_cons 2 rfl x_T_nil)))))
/-- NameHall$Scene.wearOn(I)V -/
noncomputable def xt87 : List (Nat × xB) := [(0, fun ih => xo_lda 0 (xo_ld 0 1 (xo_cl xm53 7 1 2 0 0 0 0 (xo_st 0 2 3 (xo_ld 0 2 (xo_push (0, 0, Int.negSucc 8) (xo_ic .ne (ih 13) (xo_rv 0)))))))),
  (13, fun ih => xo_lda 0 (xo_gf 6 2 (xo_ld 0 1 (xo_dup2 (xo_al none 0 (xo_push (0, 0, Int.ofNat 1) (xo_bin 0 0 xg_add (xo_as 0 (xo_lda 0 (xo_gf 6 0 (xo_ld 0 2 (xo_cl xm41 5 1 2 0 0 0 0 (xo_push (0, 0, Int.ofNat 3) (xo_ic .ne (ih 50) (xo_lda 0 (xo_gf 6 2 (xo_ld 0 1 (xo_al none 0 (xo_push (0, 0, Int.ofNat 3) (xo_ic .lt (ih 50) (xo_lda 0 (xo_ld 0 1 (xo_cl xm81 7 1 2 0 0 0 0 (ih 50)))))))))))))))))))))))),
  (50, fun ih => xo_rv 0)]
noncomputable def xm87 : xM := x_mth 1 xt87 100000
set_option maxRecDepth 100000 in
theorem xM87 : x_Ma 87 xm87 := x_Ma_of (r := ev_r87) rfl (xs_mth (hint := (fun _ => [])) (cal := (x_ca 53 xm53 (x_ca 41 xm41 (x_ca 81 xm81 (fun _ => x_no))))) (x_Ma_ca xM53 (x_Ma_ca xM41 (x_Ma_ca xM81 x_Ma_no))) (x_T_cons 8 rfl (x_T_cons 23 rfl (x_T_cons 1 rfl x_T_nil))))
/-- NameHall$Scene.passHour()I -/
noncomputable def xt88 : List (Nat × xB) := [(0, fun ih => xo_lda 0 (xo_lda 0 (xo_gf 6 6 (xo_cl xm86 7 1 4 0 0 0 0 (xo_lda 0 (xo_cl xm57 7 0 5 0 0 0 0 (xo_push (0, 0, Int.negSucc 0) (xo_bin 0 0 (xg_i (· ^^^ ·) xg_ti) (xo_bin 0 0 (xg_i (· &&& ·) xg_and) (xo_st 0 1 3 (xo_push (0, 0, Int.ofNat 0) (xo_st 0 2 3 (ih 18))))))))))))),
  (18, fun ih => xo_ld 0 2 (xo_push (0, 0, Int.ofNat 5) (xo_ic .ge (ih 48) (xo_lda 0 (xo_gf 6 3 (xo_ld 0 2 (xo_dup2 (xo_al none 0 (xo_ld 0 1 (xo_ld 0 2 (xo_bin 0 0 (xg_i x_ishr xg_ti) (xo_push (0, 0, Int.ofNat 1) (xo_bin 0 0 (xg_i (· &&& ·) xg_and) (xo_bin 0 0 xg_add (xo_as 0 (xo_lda 0 (xo_ld 0 2 (xo_cl xm87 7 1 3 0 0 0 0 (xo_inc 2 3 (Int.ofNat 1) (ih 18)))))))))))))))))))),
  (48, fun ih => xo_lda 0 (xo_dup (xo_gf 6 6 (xo_push (0, 0, Int.ofNat 1) (xo_bin 0 0 xg_add (xo_pf 6 6 0 (xo_ld 0 1 (xo_cl xm65 0 1 1 0 0 0 0 (xo_ri 1)))))))))]
noncomputable def xm88 : xM := x_mth 2 xt88 100000
set_option maxRecDepth 100000 in
theorem xM88 : x_Ma 88 xm88 := x_Ma_of (r := ev_r88) rfl (xs_mth (hint := (fun _ => [])) (cal := (x_ca 86 xm86 (x_ca 57 xm57 (x_ca 87 xm87 (x_ca 65 xm65 (fun _ => x_no)))))) (x_Ma_ca xM86 (x_Ma_ca xM57 (x_Ma_ca xM87 (x_Ma_ca xM65 x_Ma_no)))) (x_T_cons 12 rfl (x_T_cons 20 rfl (x_T_cons 9 rfl x_T_nil))))
/-- NameHall.hour()I -/
noncomputable def xt89 : List (Nat × xB) := [(0, fun ih => xo_lda 0 (xo_gf 9 4 (xo_lda 0 (xo_gf 9 2 (xo_cl xm70 1 1 2 0 0 0 0 (xo_lda 0 (xo_gf 9 2 (xo_cl xm88 7 0 3 0 0 0 0 (xo_ri 1)))))))))]
noncomputable def xm89 : xM := x_mth 0 xt89 100000
set_option maxRecDepth 100000 in
theorem xM89 : x_Ma 89 xm89 := x_Ma_of (r := ev_r89) rfl (xs_mth (hint := (fun _ => [])) (cal := (x_ca 70 xm70 (x_ca 88 xm88 (fun _ => x_no)))) (x_Ma_ca xM70 (x_Ma_ca xM88 x_Ma_no)) (x_T_cons 9 rfl x_T_nil))
/-- NameHallModel.needs(III)Z -/
noncomputable def xt90 : List (Nat × xB) := [(0, fun ih => xo_lda 0 (xo_ld 0 1 (xo_ld 0 2 (xo_cl xm74 11 2 3 0 0 0 0 (xo_if .ne (ih 35) (xo_ld 0 3 (xo_un 0 xg_i2l (xo_lda 0 (xo_gf 10 4 (xo_ld 0 2 (xo_al none 0 (xo_un 0 xg_i2l (xo_lda 0 (xo_gf 10 5 (xo_ld 0 2 (xo_al none 0 (xo_un 0 xg_i2l (xo_cl xm15 0 3 6 0 0 0 0 (xo_if .eq (ih 35) (xo_push (0, 0, Int.ofNat 1) (ih 36))))))))))))))))))))),
  (35, fun ih => xo_push (0, 0, Int.ofNat 0) (ih 36)),
  (36, fun ih => xo_ri 2)]
noncomputable def xm90 : xM := x_mth 0 xt90 100000
set_option maxRecDepth 100000 in
theorem xM90 : x_Ma 90 xm90 := x_Ma_of (r := ev_r90) rfl (xs_mth (hint := (fun _ => [])) (cal := (x_ca 74 xm74 (x_ca 15 xm15 (fun _ => x_no)))) (x_Ma_ca xM74 (x_Ma_ca xM15 x_Ma_no)) (x_T_cons 21 rfl (x_T_cons 1 rfl (x_T_cons 1 rfl x_T_nil))))
/-- NameHallModel.passOn(I)I -/
noncomputable def xt91 : List (Nat × xB) := [(0, fun ih => xo_push (0, 0, Int.ofNat 18) (xo_ld 0 1 (xo_bin 0 0 (xg_i (· * ·) xg_mul) (xo_st 0 2 6 (xo_push (0, 0, Int.ofNat 0) (xo_st 0 3 6 (xo_push (0, 0, Int.ofNat 0) (xo_st 0 4 6 (ih 10))))))))),
  (10, fun ih => xo_ld 0 4 (xo_lda 0 (xo_gf 10 1 (xo_ic .ge (ih 99) (xo_lda 0 (xo_ld 0 1 (xo_ld 0 4 (xo_lda 0 (xo_gf 10 7 (xo_ld 0 2 (xo_push (0, 0, Int.ofNat 17) (xo_bin 0 0 xg_add (xo_al none 0 (xo_cl xm90 11 3 4 0 0 0 0 (xo_if .eq (ih 52) (xo_lda 0 (xo_ld 0 1 (xo_ld 0 4 (xo_cl xm62 11 2 6 0 0 0 0 (xo_if .ne (ih 52) (xo_push (0, 0, Int.ofNat 1) (ih 53)))))))))))))))))))))),
  (52, fun ih => xo_push (0, 0, Int.ofNat 0) (ih 53)),
  (53, fun ih => xo_st 0 5 6 (xo_lda 0 (xo_gf 10 7 (xo_ld 0 2 (xo_push (0, 0, Int.ofNat 10) (xo_bin 0 0 xg_add (xo_ld 0 4 (xo_bin 0 0 xg_add (xo_dup2 (xo_al none 0 (xo_ld 0 5 (xo_if .eq (ih 77) (xo_push (0, 0, Int.ofNat 1) (ih 78)))))))))))))),
  (77, fun ih => xo_push (0, 0, Int.ofNat 0) (ih 78)),
  (78, fun ih => xo_bin 0 0 xg_add (xo_as 0 (xo_ld 0 3 (xo_ld 0 5 (xo_if .eq (ih 90) (xo_push (0, 0, Int.ofNat 1) (ih 91))))))),
  (90, fun ih => xo_push (0, 0, Int.ofNat 0) (ih 91)),
  (91, fun ih => xo_bin 0 0 xg_add (xo_st 0 3 6 (xo_inc 4 6 (Int.ofNat 1) (ih 10)))),
  (99, fun ih => xo_push (0, 0, Int.ofNat 0) (xo_st 0 4 6 (ih 102))),
  (102, fun ih => xo_ld 0 4 (xo_lda 0 (xo_gf 10 1 (xo_ic .ge (ih 188) (xo_lda 0 (xo_gf 10 7 (xo_ld 0 2 (xo_ld 0 4 (xo_bin 0 0 xg_add (xo_al none 0 (xo_push (0, 0, Int.negSucc 8) (xo_ic .eq (ih 182) (xo_lda 0 (xo_gf 10 7 (xo_ld 0 2 (xo_push (0, 0, Int.ofNat 5) (xo_bin 0 0 xg_add (xo_ld 0 4 (xo_bin 0 0 xg_add (xo_dup2 (xo_al none 0 (xo_push (0, 0, Int.ofNat 1) (xo_bin 0 0 xg_add (xo_as 0 (xo_lda 0 (xo_gf 10 2 (xo_lda 0 (xo_gf 10 7 (xo_ld 0 2 (xo_ld 0 4 (xo_bin 0 0 xg_add (xo_al none 0 (xo_al none 0 (xo_push (0, 0, Int.ofNat 3) (xo_ic .ne (ih 182) (xo_lda 0 (xo_gf 10 7 (xo_ld 0 2 (xo_push (0, 0, Int.ofNat 5) (xo_bin 0 0 xg_add (xo_ld 0 4 (xo_bin 0 0 xg_add (xo_al none 0 (xo_push (0, 0, Int.ofNat 2) (xo_ic .le (ih 182) (xo_lda 0 (xo_ld 0 1 (xo_ld 0 4 (xo_push (0, 0, Int.negSucc 8) (xo_cl xm79 11 3 4 0 0 0 0 (ih 182))))))))))))))))))))))))))))))))))))))))))))))))))),
  (182, fun ih => xo_inc 4 6 (Int.ofNat 1) (ih 102)),
  (188, fun ih => xo_lda 0 (xo_gf 10 7 (xo_ld 0 2 (xo_push (0, 0, Int.ofNat 17) (xo_bin 0 0 xg_add (xo_dup2 (xo_al none 0 (xo_push (0, 0, Int.ofNat 1) (xo_bin 0 0 xg_add (xo_as 0 (xo_ld 0 3 (xo_ri 1))))))))))))]
noncomputable def xm91 : xM := x_mth 4 xt91 100000
set_option maxRecDepth 100000 in
theorem xM91 : x_Ma 91 xm91 := x_Ma_of (r := ev_r91) rfl (xs_mth (hint := (fun _ => [])) (cal := (x_ca 90 xm90 (x_ca 62 xm62 (x_ca 79 xm79 (fun _ => x_no))))) (x_Ma_ca xM90 (x_Ma_ca xM62 (x_Ma_ca xM79 x_Ma_no))) (x_T_cons 8 rfl (x_T_cons 22 rfl (x_T_cons 1 rfl (x_T_cons 14 rfl (x_T_cons 1 rfl (x_T_cons 7 rfl (x_T_cons 1 rfl (x_T_cons 4 rfl (x_T_cons 2 rfl (x_T_cons 50 rfl (x_T_cons 2 rfl (x_T_cons 12 rfl x_T_nil)))))))))))))
/-- NameHallModel.hour()I -/
noncomputable def xt92 : List (Nat × xB) := [(0, fun ih => xo_lda 0 (xo_cl xm78 11 0 2 0 0 0 0 (xo_lda 0 (xo_push (0, 0, Int.ofNat 0) (xo_cl xm91 11 1 6 0 0 0 0 (xo_ri 1))))))]
noncomputable def xm92 : xM := x_mth 0 xt92 100000
set_option maxRecDepth 100000 in
theorem xM92 : x_Ma 92 xm92 := x_Ma_of (r := ev_r92) rfl (xs_mth (hint := (fun _ => [])) (cal := (x_ca 78 xm78 (x_ca 91 xm91 (fun _ => x_no)))) (x_Ma_ca xM78 (x_Ma_ca xM91 x_Ma_no)) (x_T_cons 6 rfl x_T_nil))
/-- NameHall$Scene.runOff(I)V -/
noncomputable def xt93 : List (Nat × xB) := [(0, fun ih => xo_lda 0 (xo_ld 0 1 (xo_cl xm53 7 1 2 0 0 0 0 (xo_st 0 2 3 (xo_ld 0 2 (xo_push (0, 0, Int.negSucc 8) (xo_ic .ne (ih 13) (xo_rv 0)))))))),
  (13, fun ih => xo_lda 0 (xo_dup (xo_gf 6 4 (xo_push (0, 0, Int.ofNat 1) (xo_ld 0 2 (xo_bin 0 0 (xg_i x_ishl xg_ti) (xo_bin 0 0 (xg_i (· ||| ·) xg_ti) (xo_pf 6 4 0 (xo_lda 0 (xo_dup (xo_gf 6 5 (xo_push (0, 0, Int.ofNat 1) (xo_ld 0 1 (xo_bin 0 0 (xg_i x_ishl xg_ti) (xo_bin 0 0 (xg_i (· ||| ·) xg_ti) (xo_pf 6 5 0 (xo_lda 0 (xo_ld 0 1 (xo_cl xm81 7 1 2 0 0 0 0 (xo_rv 0))))))))))))))))))))]
noncomputable def xm93 : xM := x_mth 1 xt93 100000
set_option maxRecDepth 100000 in
theorem xM93 : x_Ma 93 xm93 := x_Ma_of (r := ev_r93) rfl (xs_mth (hint := (fun _ => [])) (cal := (x_ca 53 xm53 (x_ca 81 xm81 (fun _ => x_no)))) (x_Ma_ca xM53 (x_Ma_ca xM81 x_Ma_no)) (x_T_cons 8 rfl (x_T_cons 20 rfl x_T_nil)))
/-- NameHall.run(I)I -/
noncomputable def xt94 : List (Nat × xB) := [(0, fun ih => xo_lda 0 (xo_gf 9 1 (xo_ld 0 1 (xo_cl xm49 5 1 2 0 0 0 0 (xo_if .ne (ih 13) (xo_push (0, 0, Int.negSucc 0) (xo_ri 1))))))),
  (13, fun ih => xo_lda 0 (xo_gf 9 2 (xo_ld 0 1 (xo_cl xm53 7 1 2 0 0 0 0 (xo_st 0 2 3 (xo_ld 0 2 (xo_push (0, 0, Int.negSucc 8) (xo_ic .ne (ih 31) (xo_push (0, 0, Int.negSucc 2) (xo_ri 1)))))))))),
  (31, fun ih => xo_lda 0 (xo_gf 9 4 (xo_lda 0 (xo_gf 9 2 (xo_cl xm70 1 1 2 0 0 0 0 (xo_lda 0 (xo_gf 9 2 (xo_ld 0 1 (xo_cl xm93 7 1 3 0 0 0 0 (xo_ld 0 2 (xo_ri 1)))))))))))]
noncomputable def xm94 : xM := x_mth 1 xt94 100000
set_option maxRecDepth 100000 in
theorem xM94 : x_Ma 94 xm94 := x_Ma_of (r := ev_r94) rfl (xs_mth (hint := (fun _ => [])) (cal := (x_ca 49 xm49 (x_ca 53 xm53 (x_ca 70 xm70 (x_ca 93 xm93 (fun _ => x_no)))))) (x_Ma_ca xM49 (x_Ma_ca xM53 (x_Ma_ca xM70 (x_Ma_ca xM93 x_Ma_no)))) (x_T_cons 7 rfl (x_T_cons 10 rfl (x_T_cons 11 rfl x_T_nil))))
/-- NameHallModel.run(I)I -/
noncomputable def xt95 : List (Nat × xB) := [(0, fun ih => xo_lda 0 (xo_ld 0 1 (xo_cl xm61 11 1 2 0 0 0 0 (xo_if .ne (ih 10) (xo_push (0, 0, Int.negSucc 0) (xo_ri 1)))))),
  (10, fun ih => xo_lda 0 (xo_gf 10 7 (xo_ld 0 1 (xo_al none 0 (xo_push (0, 0, Int.negSucc 8) (xo_ic .ne (ih 24) (xo_push (0, 0, Int.negSucc 2) (xo_ri 1)))))))),
  (24, fun ih => xo_lda 0 (xo_cl xm78 11 0 2 0 0 0 0 (xo_lda 0 (xo_gf 10 7 (xo_ld 0 1 (xo_al none 0 (xo_st 0 2 3 (xo_lda 0 (xo_push (0, 0, Int.ofNat 0) (xo_ld 0 1 (xo_push (0, 0, Int.negSucc 8) (xo_cl xm79 11 3 4 0 0 0 0 (xo_lda 0 (xo_gf 10 7 (xo_push (0, 0, Int.ofNat 15) (xo_dup2 (xo_al none 0 (xo_push (0, 0, Int.ofNat 1) (xo_ld 0 2 (xo_bin 0 0 (xg_i x_ishl xg_ti) (xo_bin 0 0 (xg_i (· ||| ·) xg_ti) (xo_as 0 (xo_lda 0 (xo_gf 10 7 (xo_push (0, 0, Int.ofNat 16) (xo_dup2 (xo_al none 0 (xo_push (0, 0, Int.ofNat 1) (xo_ld 0 1 (xo_bin 0 0 (xg_i x_ishl xg_ti) (xo_bin 0 0 (xg_i (· ||| ·) xg_ti) (xo_as 0 (xo_ld 0 2 (xo_ri 1))))))))))))))))))))))))))))))))))]
noncomputable def xm95 : xM := x_mth 1 xt95 100000
set_option maxRecDepth 100000 in
theorem xM95 : x_Ma 95 xm95 := x_Ma_of (r := ev_r95) rfl (xs_mth (hint := (fun _ => [])) (cal := (x_ca 61 xm61 (x_ca 78 xm78 (x_ca 79 xm79 (fun _ => x_no))))) (x_Ma_ca xM61 (x_Ma_ca xM78 (x_Ma_ca xM79 x_Ma_no))) (x_T_cons 6 rfl (x_T_cons 8 rfl (x_T_cons 34 rfl x_T_nil))))
/-- NameHall$Scene.load([I)V -/
noncomputable def xt96 : List (Nat × xB) := [(0, fun ih => xo_lda 1 (xo_len none (xo_push (0, 0, Int.ofNat 18) (xo_ic .ge (ih 8) (xo_rv 0))))),
  (8, fun ih => xo_lda 1 (xo_push (0, 0, Int.ofNat 0) (xo_lda 0 (xo_gf 6 1 (xo_push (0, 0, Int.ofNat 0) (xo_push (0, 0, Int.ofNat 5) (xo_cp 1 26 (xo_lda 1 (xo_push (0, 0, Int.ofNat 5) (xo_lda 0 (xo_gf 6 2 (xo_push (0, 0, Int.ofNat 0) (xo_push (0, 0, Int.ofNat 5) (xo_cp 1 26 (xo_lda 1 (xo_push (0, 0, Int.ofNat 10) (xo_lda 0 (xo_gf 6 3 (xo_push (0, 0, Int.ofNat 0) (xo_push (0, 0, Int.ofNat 5) (xo_cp 1 26 (xo_lda 0 (xo_lda 1 (xo_push (0, 0, Int.ofNat 15) (xo_al none 0 (xo_pf 6 4 0 (xo_lda 0 (xo_lda 1 (xo_push (0, 0, Int.ofNat 16) (xo_al none 0 (xo_pf 6 5 0 (xo_lda 0 (xo_lda 1 (xo_push (0, 0, Int.ofNat 17) (xo_al none 0 (xo_pf 6 6 0 (xo_rv 0)))))))))))))))))))))))))))))))))))))]
noncomputable def xm96 : xM := x_mth 0 xt96 100000
set_option maxRecDepth 100000 in
theorem xM96 : x_Ma 96 xm96 := x_Ma_of (r := ev_r96) rfl (xs_mth (hint := (fun _ => [])) (cal := (fun _ => x_no)) x_Ma_no (x_T_cons 5 rfl (x_T_cons 37 rfl x_T_nil)))
/-- NameHall$ActRow.takeBack(LNameHall$Scene;)Z -/
noncomputable def xt97 : List (Nat × xB) := [(0, fun ih => xo_lda 0 (xo_gf 0 2 (xo_push (0, 0, Int.ofNat 1) (xo_ic .ge (ih 10) (xo_push (0, 0, Int.ofNat 0) (xo_ri 2)))))),
  (10, fun ih => xo_lda 0 (xo_dup (xo_gf 0 2 (xo_push (0, 0, Int.ofNat 1) (xo_bin 0 0 xg_sub (xo_pf 0 2 0 (xo_lda 1 (xo_lda 0 (xo_gf 0 0 (xo_lda 0 (xo_gf 0 1 (xo_lda 0 (xo_gf 0 2 (xo_bin 0 0 xg_add (xo_push (0, 0, Int.ofNat 14) (xo_cl xm68 0 2 3 0 0 0 0 (xo_aa (xo_cl xm96 7 1 2 0 0 0 0 (xo_push (0, 0, Int.ofNat 1) (xo_ri 2))))))))))))))))))))]
noncomputable def xm97 : xM := x_mth 0 xt97 100000
set_option maxRecDepth 100000 in
theorem xM97 : x_Ma 97 xm97 := x_Ma_of (r := ev_r97) rfl (xs_mth (hint := (fun _ => [])) (cal := (x_ca 68 xm68 (x_ca 96 xm96 (fun _ => x_no)))) (x_Ma_ca xM68 (x_Ma_ca xM96 x_Ma_no)) (x_T_cons 6 rfl (x_T_cons 20 rfl x_T_nil)))
/-- NameHall$ActRow.size()I -/
noncomputable def xt98 : List (Nat × xB) := [(0, fun ih => xo_lda 0 (xo_gf 0 2 (xo_ri 1)))]
noncomputable def xm98 : xM := x_mth 0 xt98 100000
set_option maxRecDepth 100000 in
theorem xM98 : x_Ma 98 xm98 := x_Ma_of (r := ev_r98) rfl (xs_mth (hint := (fun _ => [])) (cal := (fun _ => x_no)) x_Ma_no (x_T_cons 3 rfl x_T_nil))
/-- NameHall.undo()I -/
noncomputable def xt99 : List (Nat × xB) := [(0, fun ih => xo_lda 0 (xo_gf 9 4 (xo_lda 0 (xo_gf 9 2 (xo_cl xm97 1 1 2 0 0 0 0 (xo_if .eq (ih 24) (xo_lda 0 (xo_gf 9 4 (xo_cl xm98 1 0 1 0 0 0 0 (ih 26)))))))))),
  (24, fun ih => xo_push (0, 0, Int.negSucc 2) (ih 26)),
  (26, fun ih => xo_ri 1)]
noncomputable def xm99 : xM := x_mth 0 xt99 100000
set_option maxRecDepth 100000 in
theorem xM99 : x_Ma 99 xm99 := x_Ma_of (r := ev_r99) rfl (xs_mth (hint := (fun _ => [])) (cal := (x_ca 97 xm97 (x_ca 98 xm98 (fun _ => x_no)))) (x_Ma_ca xM97 (x_Ma_ca xM98 x_Ma_no)) (x_T_cons 10 rfl (x_T_cons 1 rfl (x_T_cons 1 rfl x_T_nil))))
/-- NameHallModel.undo()I -/
noncomputable def xt100 : List (Nat × xB) := [(0, fun ih => xo_lda 0 (xo_gf 10 16 (xo_if .ne (ih 10) (xo_push (0, 0, Int.negSucc 2) (xo_ri 1))))),
  (10, fun ih => xo_lda 0 (xo_dup (xo_gf 10 16 (xo_push (0, 0, Int.ofNat 1) (xo_bin 0 0 xg_sub (xo_pf 10 16 0 (xo_lda 0 (xo_lda 0 (xo_gf 10 17 (xo_push (0, 0, Int.ofNat 13) (xo_bin 0 0 xg_add (xo_push (0, 0, Int.ofNat 14) (xo_bin 0 0 xg_rem (xo_pf 10 17 0 (xo_push (0, 0, Int.ofNat 0) (xo_st 0 1 2 (ih 36))))))))))))))))),
  (36, fun ih => xo_ld 0 1 (xo_push (0, 0, Int.ofNat 18) (xo_ic .ge (ih 68) (xo_lda 0 (xo_gf 10 7 (xo_ld 0 1 (xo_lda 0 (xo_gf 10 18 (xo_push (0, 0, Int.ofNat 18) (xo_lda 0 (xo_gf 10 17 (xo_bin 0 0 (xg_i (· * ·) xg_mul) (xo_ld 0 1 (xo_bin 0 0 xg_add (xo_al none 0 (xo_as 0 (xo_inc 1 2 (Int.ofNat 1) (ih 36)))))))))))))))))),
  (68, fun ih => xo_lda 0 (xo_gf 10 16 (xo_ri 1)))]
noncomputable def xm100 : xM := x_mth 1 xt100 100000
set_option maxRecDepth 100000 in
theorem xM100 : x_Ma 100 xm100 := x_Ma_of (r := ev_r100) rfl (xs_mth (hint := (fun _ => [])) (cal := (fun _ => x_no)) x_Ma_no (x_T_cons 5 rfl (x_T_cons 16 rfl (x_T_cons 18 rfl (x_T_cons 3 rfl x_T_nil)))))
/-- NameHall.isHour(I)Z -/
noncomputable def xt101 : List (Nat × xB) := [(0, fun ih => xo_ld 0 0 (xo_if .lt (ih 14) (xo_ld 0 0 (xo_push (0, 0, Int.ofNat 10) (xo_ic .ge (ih 14) (xo_push (0, 0, Int.ofNat 1) (ih 15))))))),
  (14, fun ih => xo_push (0, 0, Int.ofNat 0) (ih 15)),
  (15, fun ih => xo_ri 2)]
noncomputable def xm101 : xM := x_mth 0 xt101 100000
set_option maxRecDepth 100000 in
theorem xM101 : x_Ma 101 xm101 := x_Ma_of (r := ev_r101) rfl (xs_mth (hint := (fun _ => [])) (cal := (fun _ => x_no)) x_Ma_no (x_T_cons 7 rfl (x_T_cons 1 rfl (x_T_cons 1 rfl x_T_nil))))
/-- NameHall$Scene.goneNames()I -/
noncomputable def xt102 : List (Nat × xB) := [(0, fun ih => xo_lda 0 (xo_gf 6 4 (xo_ri 1)))]
noncomputable def xm102 : xM := x_mth 0 xt102 100000
set_option maxRecDepth 100000 in
theorem xM102 : x_Ma 102 xm102 := x_Ma_of (r := ev_r102) rfl (xs_mth (hint := (fun _ => [])) (cal := (fun _ => x_no)) x_Ma_no (x_T_cons 3 rfl x_T_nil))
/-- NameHall$Scene.fits(I)I -/
noncomputable def xt103 : List (Nat × xB) := [(0, fun ih => xo_lda 0 (xo_ld 0 1 (xo_cl xm59 7 1 2 0 0 0 0 (xo_if .eq (ih 12) (xo_push (0, 0, Int.ofNat 0) (ih 20)))))),
  (12, fun ih => xo_lda 0 (xo_gf 6 0 (xo_ld 0 1 (xo_cl xm52 5 1 2 0 0 0 0 (ih 20))))),
  (20, fun ih => xo_ri 1)]
noncomputable def xm103 : xM := x_mth 0 xt103 100000
set_option maxRecDepth 100000 in
theorem xM103 : x_Ma 103 xm103 := x_Ma_of (r := ev_r103) rfl (xs_mth (hint := (fun _ => [])) (cal := (x_ca 59 xm59 (x_ca 52 xm52 (fun _ => x_no)))) (x_Ma_ca xM59 (x_Ma_ca xM52 x_Ma_no)) (x_T_cons 6 rfl (x_T_cons 4 rfl (x_T_cons 1 rfl x_T_nil))))
/-- NameHall$Giving.prepare(LNameHall$Scene;II)V -/
noncomputable def xt104 : List (Nat × xB) := [(0, fun ih => xo_ld 0 3 (xo_lda 1 (xo_cl xm102 7 0 1 0 0 0 0 (xo_push (0, 0, Int.negSucc 0) (xo_bin 0 0 (xg_i (· ^^^ ·) xg_ti) (xo_bin 0 0 (xg_i (· &&& ·) xg_and) (xo_st 0 4 6 (xo_push (0, 0, Int.ofNat 0) (xo_st 0 5 6 (ih 13)))))))))),
  (13, fun ih => xo_ld 0 5 (xo_push (0, 0, Int.ofNat 5) (xo_ic .ge (ih 55) (xo_lda 0 (xo_gf 3 1 (xo_ld 0 5 (xo_lda 1 (xo_ld 0 5 (xo_ld 0 2 (xo_cl xm85 7 2 3 0 0 0 0 (xo_if .eq (ih 47) (xo_lda 1 (xo_ld 0 5 (xo_cl xm103 7 1 2 0 0 0 0 (xo_ld 0 4 (xo_bin 0 0 (xg_i (· &&& ·) xg_and) (ih 48))))))))))))))))),
  (47, fun ih => xo_push (0, 0, Int.ofNat 0) (ih 48)),
  (48, fun ih => xo_as 0 (xo_inc 5 6 (Int.ofNat 1) (ih 13))),
  (55, fun ih => xo_push (0, 0, Int.ofNat 0) (xo_st 0 5 6 (ih 58))),
  (58, fun ih => xo_ld 0 5 (xo_push (0, 0, Int.ofNat 4) (xo_ic .ge (ih 86) (xo_lda 0 (xo_gf 3 2 (xo_ld 0 5 (xo_lda 0 (xo_gf 3 0 (xo_ld 0 5 (xo_cl xm66 5 1 2 0 0 0 0 (xo_as 0 (xo_inc 5 6 (Int.ofNat 1) (ih 58))))))))))))),
  (86, fun ih => xo_rv 0)]
noncomputable def xm104 : xM := x_mth 2 xt104 100000
set_option maxRecDepth 100000 in
theorem xM104 : x_Ma 104 xm104 := x_Ma_of (r := ev_r104) rfl (xs_mth (hint := (fun _ => [])) (cal := (x_ca 102 xm102 (x_ca 85 xm85 (x_ca 103 xm103 (x_ca 66 xm66 (fun _ => x_no)))))) (x_Ma_ca xM102 (x_Ma_ca xM85 (x_Ma_ca xM103 (x_Ma_ca xM66 x_Ma_no)))) (x_T_cons 9 rfl (x_T_cons 17 rfl (x_T_cons 1 rfl (x_T_cons 3 rfl (x_T_cons 2 rfl (x_T_cons 13 rfl (x_T_cons 1 rfl x_T_nil))))))))
/-- NameHall$Giving.roomOf(I)I -/
noncomputable def xt105 : List (Nat × xB) := [(0, fun ih => xo_push (0, 0, Int.ofNat 0) (xo_st 0 2 4 (xo_push (0, 0, Int.ofNat 0) (xo_st 0 3 4 (ih 4))))),
  (4, fun ih => xo_ld 0 3 (xo_push (0, 0, Int.ofNat 4) (xo_ic .ge (ih 30) (xo_ld 0 2 (xo_ld 0 1 (xo_ld 0 3 (xo_bin 0 0 (xg_i x_ishr xg_ti) (xo_push (0, 0, Int.ofNat 1) (xo_bin 0 0 (xg_i (· &&& ·) xg_and) (xo_lda 0 (xo_gf 3 2 (xo_ld 0 3 (xo_al none 0 (xo_bin 0 0 (xg_i (· * ·) xg_mul) (xo_bin 0 0 xg_add (xo_st 0 2 4 (xo_inc 3 4 (Int.ofNat 1) (ih 4)))))))))))))))))),
  (30, fun ih => xo_ld 0 2 (xo_ri 1))]
noncomputable def xm105 : xM := x_mth 2 xt105 100000
set_option maxRecDepth 100000 in
theorem xM105 : x_Ma 105 xm105 := x_Ma_of (r := ev_r105) rfl (xs_mth (hint := (fun _ => [])) (cal := (fun _ => x_no)) x_Ma_no (x_T_cons 4 rfl (x_T_cons 18 rfl (x_T_cons 2 rfl x_T_nil))))
/-- java/lang/Math.max(II)I -/
noncomputable def xt106 : List (Nat × xB) := [(0, fun ih => xo_ld 0 0 (xo_ld 0 1 (xo_ic .lt (ih 9) (xo_ld 0 0 (ih 10))))),
  (9, fun ih => xo_ld 0 1 (ih 10)),
  (10, fun ih => xo_ri 1)]
noncomputable def xm106 : xM := x_mth 0 xt106 100000
set_option maxRecDepth 100000 in
theorem xM106 : x_Ma 106 xm106 := x_Ma_of (r := ev_r106) rfl (xs_mth (hint := (fun _ => [])) (cal := (fun _ => x_no)) x_Ma_no (x_T_cons 5 rfl (x_T_cons 1 rfl (x_T_cons 1 rfl x_T_nil))))
/-- NameHall$Giving.wantingBeyond(II)I -/
noncomputable def xt107 : List (Nat × xB) := [(0, fun ih => xo_push (0, 0, Int.ofNat 0) (xo_st 0 3 5 (xo_push (0, 0, Int.ofNat 0) (xo_ld 0 2 (xo_cl xm106 0 2 2 0 0 0 0 (xo_st 0 4 5 (ih 9))))))),
  (9, fun ih => xo_ld 0 4 (xo_push (0, 0, Int.ofNat 5) (xo_ic .ge (ih 43) (xo_ld 0 3 (xo_lda 0 (xo_gf 3 1 (xo_ld 0 4 (xo_al none 0 (xo_ld 0 1 (xo_push (0, 0, Int.negSucc 0) (xo_bin 0 0 (xg_i (· ^^^ ·) xg_ti) (xo_bin 0 0 (xg_i (· &&& ·) xg_and) (xo_if .eq (ih 34) (xo_push (0, 0, Int.ofNat 1) (ih 35))))))))))))))),
  (34, fun ih => xo_push (0, 0, Int.ofNat 0) (ih 35)),
  (35, fun ih => xo_bin 0 0 xg_add (xo_st 0 3 5 (xo_inc 4 5 (Int.ofNat 1) (ih 9)))),
  (43, fun ih => xo_ld 0 3 (xo_ri 1))]
noncomputable def xm107 : xM := x_mth 2 xt107 100000
set_option maxRecDepth 100000 in
theorem xM107 : x_Ma 107 xm107 := x_Ma_of (r := ev_r107) rfl (xs_mth (hint := (fun _ => [])) (cal := (x_ca 106 xm106 (fun _ => x_no))) (x_Ma_ca xM106 x_Ma_no) (x_T_cons 6 rfl (x_T_cons 15 rfl (x_T_cons 1 rfl (x_T_cons 4 rfl (x_T_cons 2 rfl x_T_nil))))))
/-- java/lang/Math.min(II)I -/
noncomputable def xt108 : List (Nat × xB) := [(0, fun ih => xo_ld 0 0 (xo_ld 0 1 (xo_ic .gt (ih 9) (xo_ld 0 0 (ih 10))))),
  (9, fun ih => xo_ld 0 1 (ih 10)),
  (10, fun ih => xo_ri 1)]
noncomputable def xm108 : xM := x_mth 0 xt108 100000
set_option maxRecDepth 100000 in
theorem xM108 : x_Ma 108 xm108 := x_Ma_of (r := ev_r108) rfl (xs_mth (hint := (fun _ => [])) (cal := (fun _ => x_no)) x_Ma_no (x_T_cons 5 rfl (x_T_cons 1 rfl (x_T_cons 1 rfl x_T_nil))))
/-- NameHall$Giving.greatestFrom(I)I -/
noncomputable def xt109 : List (Nat × xB) := [(0, fun ih => xo_push (0, 0, Int.ofNat 5) (xo_st 0 2 4 (xo_push (0, 0, Int.ofNat 0) (xo_st 0 3 4 (ih 4))))),
  (4, fun ih => xo_ld 0 3 (xo_push (0, 0, Int.ofNat 16) (xo_ic .ge (ih 33) (xo_ld 0 2 (xo_lda 0 (xo_ld 0 3 (xo_cl xm105 4 1 4 0 0 0 0 (xo_lda 0 (xo_ld 0 3 (xo_ld 0 1 (xo_cl xm107 4 2 5 0 0 0 0 (xo_bin 0 0 xg_add (xo_cl xm108 0 2 2 0 0 0 0 (xo_st 0 2 4 (xo_inc 3 4 (Int.ofNat 1) (ih 4)))))))))))))))),
  (33, fun ih => xo_ld 0 2 (xo_ri 1))]
noncomputable def xm109 : xM := x_mth 2 xt109 100000
set_option maxRecDepth 100000 in
theorem xM109 : x_Ma 109 xm109 := x_Ma_of (r := ev_r109) rfl (xs_mth (hint := (fun _ => [])) (cal := (x_ca 105 xm105 (x_ca 107 xm107 (x_ca 108 xm108 (fun _ => x_no))))) (x_Ma_ca xM105 (x_Ma_ca xM107 (x_Ma_ca xM108 x_Ma_no))) (x_T_cons 4 rfl (x_T_cons 16 rfl (x_T_cons 2 rfl x_T_nil))))
/-- NameHall$Giving.greatest()I -/
noncomputable def xt110 : List (Nat × xB) := [(0, fun ih => xo_lda 0 (xo_push (0, 0, Int.ofNat 0) (xo_cl xm109 4 1 4 0 0 0 0 (xo_ri 1))))]
noncomputable def xm110 : xM := x_mth 0 xt110 100000
set_option maxRecDepth 100000 in
theorem xM110 : x_Ma 110 xm110 := x_Ma_of (r := ev_r110) rfl (xs_mth (hint := (fun _ => [])) (cal := (x_ca 109 xm109 (fun _ => x_no))) (x_Ma_ca xM109 x_Ma_no) (x_T_cons 4 rfl x_T_nil))
/-- NameHall$Giving.giveTo(II)I -/
noncomputable def xt111 : List (Nat × xB) := [(0, fun ih => xo_ld 0 1 (xo_if .lt (ih 20) (xo_ld 0 1 (xo_push (0, 0, Int.ofNat 5) (xo_ic .ge (ih 20) (xo_lda 0 (xo_ld 0 1 (xo_push (0, 0, Int.ofNat 1) (xo_bin 0 0 xg_add (xo_cl xm109 4 1 4 0 0 0 0 (xo_ld 0 2 (xo_ic .lt (ih 22) (ih 20))))))))))))),
  (20, fun ih => xo_push (0, 0, Int.ofNat 0) (xo_ri 1)),
  (22, fun ih => xo_push (0, 0, Int.ofNat 0) (xo_st 0 3 4 (ih 24))),
  (24, fun ih => xo_ld 0 3 (xo_push (0, 0, Int.ofNat 4) (xo_ic .ge (ih 95) (xo_lda 0 (xo_gf 3 1 (xo_ld 0 1 (xo_al none 0 (xo_ld 0 3 (xo_bin 0 0 (xg_i x_ishr xg_ti) (xo_push (0, 0, Int.ofNat 1) (xo_bin 0 0 (xg_i (· &&& ·) xg_and) (xo_push (0, 0, Int.ofNat 1) (xo_ic .ne (ih 89) (xo_lda 0 (xo_gf 3 2 (xo_ld 0 3 (xo_al none 0 (xo_if .le (ih 89) (xo_lda 0 (xo_gf 3 2 (xo_ld 0 3 (xo_dup2 (xo_al none 0 (xo_push (0, 0, Int.ofNat 1) (xo_bin 0 0 xg_sub (xo_as 0 (xo_lda 0 (xo_ld 0 1 (xo_push (0, 0, Int.ofNat 1) (xo_bin 0 0 xg_add (xo_cl xm109 4 1 4 0 0 0 0 (xo_ld 0 2 (xo_push (0, 0, Int.ofNat 1) (xo_bin 0 0 xg_sub (xo_ic .lt (ih 79) (xo_ld 0 3 (xo_push (0, 0, Int.ofNat 1) (xo_bin 0 0 xg_add (xo_ri 1))))))))))))))))))))))))))))))))))))))),
  (79, fun ih => xo_lda 0 (xo_gf 3 2 (xo_ld 0 3 (xo_dup2 (xo_al none 0 (xo_push (0, 0, Int.ofNat 1) (xo_bin 0 0 xg_add (xo_as 0 (ih 89))))))))),
  (89, fun ih => xo_inc 3 4 (Int.ofNat 1) (ih 24)),
  (95, fun ih => xo_push (0, 0, Int.ofNat 0) (xo_ri 1))]
noncomputable def xm111 : xM := x_mth 1 xt111 100000
set_option maxRecDepth 100000 in
theorem xM111 : x_Ma 111 xm111 := x_Ma_of (r := ev_r111) rfl (xs_mth (hint := (fun _ => [])) (cal := (x_ca 109 xm109 (fun _ => x_no))) (x_Ma_ca xM109 x_Ma_no) (x_T_cons 12 rfl (x_T_cons 2 rfl (x_T_cons 2 rfl (x_T_cons 39 rfl (x_T_cons 8 rfl (x_T_cons 2 rfl (x_T_cons 2 rfl x_T_nil))))))))
/-- NameHall$Giving.firstWay()I -/
noncomputable def xt112 : List (Nat × xB) := [(0, fun ih => xo_push (0, 0, Int.ofNat 0) (xo_st 0 1 5 (xo_lda 0 (xo_cl xm110 4 0 1 0 0 0 0 (xo_st 0 2 5 (xo_push (0, 0, Int.ofNat 0) (xo_st 0 3 5 (ih 9)))))))),
  (9, fun ih => xo_ld 0 3 (xo_lda 0 (xo_gf 3 0 (xo_cl xm37 5 0 1 0 0 0 0 (xo_ic .ge (ih 55) (xo_lda 0 (xo_ld 0 3 (xo_ld 0 2 (xo_cl xm111 4 2 4 0 0 0 0 (xo_st 0 4 5 (xo_ld 0 2 (xo_ld 0 4 (xo_if .le (ih 38) (xo_push (0, 0, Int.ofNat 1) (ih 39))))))))))))))),
  (38, fun ih => xo_push (0, 0, Int.ofNat 0) (ih 39)),
  (39, fun ih => xo_bin 0 0 xg_sub (xo_st 0 2 5 (xo_push (0, 0, Int.ofNat 10) (xo_ld 0 1 (xo_bin 0 0 (xg_i (· * ·) xg_mul) (xo_ld 0 4 (xo_bin 0 0 xg_add (xo_st 0 1 5 (xo_inc 3 5 (Int.ofNat 1) (ih 9)))))))))),
  (55, fun ih => xo_ld 0 1 (xo_ri 1))]
noncomputable def xm112 : xM := x_mth 4 xt112 100000
set_option maxRecDepth 100000 in
theorem xM112 : x_Ma 112 xm112 := x_Ma_of (r := ev_r112) rfl (xs_mth (hint := (fun _ => [])) (cal := (x_ca 110 xm110 (x_ca 37 xm37 (x_ca 111 xm111 (fun _ => x_no))))) (x_Ma_ca xM110 (x_Ma_ca xM37 (x_Ma_ca xM111 x_Ma_no))) (x_T_cons 7 rfl (x_T_cons 15 rfl (x_T_cons 1 rfl (x_T_cons 10 rfl (x_T_cons 2 rfl x_T_nil))))))
/-- NameHall.most(IZ)I -/
noncomputable def xt113 : List (Nat × xB) := [(0, fun ih => xo_ld 0 1 (xo_cl xm101 0 1 1 0 0 0 0 (xo_if .ne (ih 10) (xo_push (0, 0, Int.negSucc 1) (xo_ri 1))))),
  (10, fun ih => xo_lda 0 (xo_gf 9 7 (xo_lda 0 (xo_gf 9 2 (xo_ld 0 1 (xo_push (0, 0, Int.ofNat 15) (xo_cl xm104 4 3 6 0 0 0 0 (xo_ld 0 2 (xo_if .eq (ih 38) (xo_lda 0 (xo_gf 9 7 (xo_cl xm112 4 0 5 0 0 0 0 (ih 45))))))))))))),
  (38, fun ih => xo_lda 0 (xo_gf 9 7 (xo_cl xm110 4 0 1 0 0 0 0 (ih 45)))),
  (45, fun ih => xo_ri 1)]
noncomputable def xm113 : xM := x_mth 0 xt113 100000
set_option maxRecDepth 100000 in
theorem xM113 : x_Ma 113 xm113 := x_Ma_of (r := ev_r113) rfl (xs_mth (hint := (fun _ => [])) (cal := (x_ca 101 xm101 (x_ca 104 xm104 (x_ca 112 xm112 (x_ca 110 xm110 (fun _ => x_no)))))) (x_Ma_ca xM101 (x_Ma_ca xM104 (x_Ma_ca xM112 (x_Ma_ca xM110 x_Ma_no)))) (x_T_cons 5 rfl (x_T_cons 13 rfl (x_T_cons 3 rfl (x_T_cons 1 rfl x_T_nil)))))
/-- NameHallModel.there()I -/
noncomputable def xt114 : List (Nat × xB) := [(0, fun ih => xo_push (0, 0, Int.ofNat 1) (xo_lda 0 (xo_gf 10 0 (xo_bin 0 0 (xg_i x_ishl xg_ti) (xo_push (0, 0, Int.ofNat 1) (xo_bin 0 0 xg_sub (xo_lda 0 (xo_gf 10 7 (xo_push (0, 0, Int.ofNat 15) (xo_al none 0 (xo_push (0, 0, Int.negSucc 0) (xo_bin 0 0 (xg_i (· ^^^ ·) xg_ti) (xo_bin 0 0 (xg_i (· &&& ·) xg_and) (xo_ri 1))))))))))))))]
noncomputable def xm114 : xM := x_mth 0 xt114 100000
set_option maxRecDepth 100000 in
theorem xM114 : x_Ma 114 xm114 := x_Ma_of (r := ev_r114) rfl (xs_mth (hint := (fun _ => [])) (cal := (fun _ => x_no)) x_Ma_no (x_T_cons 14 rfl x_T_nil))
/-- NameHallModel.power(II)I -/
noncomputable def xt115 : List (Nat × xB) := [(0, fun ih => xo_push (0, 0, Int.ofNat 1) (xo_st 0 2 4 (xo_push (0, 0, Int.ofNat 0) (xo_st 0 3 4 (ih 4))))),
  (4, fun ih => xo_ld 0 3 (xo_ld 0 1 (xo_ic .ge (ih 19) (xo_ld 0 2 (xo_ld 0 0 (xo_bin 0 0 (xg_i (· * ·) xg_mul) (xo_st 0 2 4 (xo_inc 3 4 (Int.ofNat 1) (ih 4))))))))),
  (19, fun ih => xo_ld 0 2 (xo_ri 1))]
noncomputable def xm115 : xM := x_mth 2 xt115 100000
set_option maxRecDepth 100000 in
theorem xM115 : x_Ma 115 xm115 := x_Ma_of (r := ev_r115) rfl (xs_mth (hint := (fun _ => [])) (cal := (fun _ => x_no)) x_Ma_no (x_T_cons 4 rfl (x_T_cons 9 rfl (x_T_cons 2 rfl x_T_nil))))
/-- NameHallModel.nameIn(II)I -/
noncomputable def xt116 : List (Nat × xB) := [(0, fun ih => xo_ld 0 1 (xo_lda 0 (xo_gf 10 0 (xo_push (0, 0, Int.ofNat 1) (xo_bin 0 0 xg_add (xo_lda 0 (xo_gf 10 1 (xo_push (0, 0, Int.ofNat 1) (xo_bin 0 0 xg_sub (xo_ld 0 2 (xo_bin 0 0 xg_sub (xo_cl xm115 0 2 4 0 0 0 0 (xo_bin 0 0 xg_div (xo_lda 0 (xo_gf 10 0 (xo_push (0, 0, Int.ofNat 1) (xo_bin 0 0 xg_add (xo_bin 0 0 xg_rem (xo_push (0, 0, Int.ofNat 1) (xo_bin 0 0 xg_sub (xo_ri 1)))))))))))))))))))))]
noncomputable def xm116 : xM := x_mth 0 xt116 100000
set_option maxRecDepth 100000 in
theorem xM116 : x_Ma 116 xm116 := x_Ma_of (r := ev_r116) rfl (xs_mth (hint := (fun _ => [])) (cal := (x_ca 115 xm115 (fun _ => x_no))) (x_Ma_ca xM115 x_Ma_no) (x_T_cons 21 rfl x_T_nil))
/-- NameHallModel.isWay(III)Z -/
noncomputable def xt117 : List (Nat × xB) := [(0, fun ih => xo_push (0, 0, Int.ofNat 0) (xo_st 0 4 7 (ih 3))),
  (3, fun ih => xo_ld 0 4 (xo_push (0, 0, Int.ofNat 4) (xo_ic .ge (ih 23) (xo_lda 0 (xo_gf 10 19 (xo_ld 0 4 (xo_push (0, 0, Int.ofNat 0) (xo_as 0 (xo_inc 4 7 (Int.ofNat 1) (ih 3)))))))))),
  (23, fun ih => xo_push (0, 0, Int.ofNat 0) (xo_st 0 4 7 (ih 26))),
  (26, fun ih => xo_ld 0 4 (xo_lda 0 (xo_gf 10 1 (xo_ic .ge (ih 153) (xo_lda 0 (xo_ld 0 1 (xo_ld 0 4 (xo_cl xm116 11 2 3 0 0 0 0 (xo_st 0 5 7 (xo_ld 0 5 (xo_if .lt (ih 147) (xo_lda 0 (xo_gf 10 19 (xo_ld 0 5 (xo_dup2 (xo_al none 0 (xo_push (0, 0, Int.ofNat 1) (xo_bin 0 0 xg_add (xo_as 0 (xo_ld 0 3 (xo_if .ge (ih 82) (xo_lda 0 (xo_push (0, 0, Int.ofNat 0) (xo_ld 0 4 (xo_cl xm74 11 2 3 0 0 0 0 (xo_if .ne (ih 78) (xo_push (0, 0, Int.ofNat 1) (ih 90)))))))))))))))))))))))))))),
  (78, fun ih => xo_push (0, 0, Int.ofNat 0) (ih 90)),
  (82, fun ih => xo_lda 0 (xo_push (0, 0, Int.ofNat 0) (xo_ld 0 4 (xo_ld 0 3 (xo_cl xm90 11 3 4 0 0 0 0 (ih 90)))))),
  (90, fun ih => xo_st 0 6 7 (xo_ld 0 6 (xo_if .eq (ih 145) (xo_ld 0 2 (xo_ld 0 5 (xo_cl xm73 0 2 2 0 0 0 0 (xo_if .eq (ih 145) (xo_lda 0 (xo_gf 10 6 (xo_ld 0 4 (xo_al none 0 (xo_ld 0 5 (xo_cl xm73 0 2 2 0 0 0 0 (xo_if .eq (ih 145) (xo_lda 0 (xo_gf 10 19 (xo_ld 0 5 (xo_al none 0 (xo_ld 0 3 (xo_if .ge (ih 136) (xo_push (0, 0, Int.ofNat 1) (ih 142)))))))))))))))))))))),
  (136, fun ih => xo_lda 0 (xo_ld 0 5 (xo_cl xm76 11 1 2 0 0 0 0 (ih 142)))),
  (142, fun ih => xo_ic .le (ih 147) (ih 145)),
  (145, fun ih => xo_push (0, 0, Int.ofNat 0) (xo_ri 2)),
  (147, fun ih => xo_inc 4 7 (Int.ofNat 1) (ih 26)),
  (153, fun ih => xo_push (0, 0, Int.ofNat 1) (xo_ri 2))]
noncomputable def xm117 : xM := x_mth 3 xt117 100000
set_option maxRecDepth 100000 in
theorem xM117 : x_Ma 117 xm117 := x_Ma_of (r := ev_r117) rfl (xs_mth (hint := (fun _ => [])) (cal := (x_ca 116 xm116 (x_ca 74 xm74 (x_ca 90 xm90 (x_ca 73 xm73 (x_ca 76 xm76 (fun _ => x_no))))))) (x_Ma_ca xM116 (x_Ma_ca xM74 (x_Ma_ca xM90 (x_Ma_ca xM73 (x_Ma_ca xM76 x_Ma_no))))) (x_T_cons 2 rfl (x_T_cons 10 rfl (x_T_cons 2 rfl (x_T_cons 28 rfl (x_T_cons 2 rfl (x_T_cons 5 rfl (x_T_cons 22 rfl (x_T_cons 3 rfl (x_T_cons 1 rfl (x_T_cons 2 rfl (x_T_cons 2 rfl (x_T_cons 2 rfl x_T_nil)))))))))))))
/-- NameHallModel.mostAt(II)I -/
noncomputable def xt118 : List (Nat × xB) := [(0, fun ih => xo_push (0, 0, Int.negSucc 8) (xo_st 0 3 7 (xo_push (0, 0, Int.ofNat 0) (xo_st 0 4 7 (ih 6))))),
  (6, fun ih => xo_ld 0 4 (xo_lda 0 (xo_gf 10 0 (xo_push (0, 0, Int.ofNat 1) (xo_bin 0 0 xg_add (xo_lda 0 (xo_gf 10 1 (xo_cl xm115 0 2 4 0 0 0 0 (xo_ic .ge (ih 115) (xo_lda 0 (xo_ld 0 4 (xo_ld 0 2 (xo_ld 0 1 (xo_cl xm117 11 3 7 0 0 0 0 (xo_if .eq (ih 109) (xo_push (0, 0, Int.ofNat 0) (xo_st 0 5 7 (xo_push (0, 0, Int.ofNat 0) (xo_st 0 6 7 (ih 41)))))))))))))))))))),
  (41, fun ih => xo_ld 0 6 (xo_lda 0 (xo_gf 10 1 (xo_ic .ge (ih 77) (xo_ld 0 5 (xo_lda 0 (xo_ld 0 4 (xo_ld 0 6 (xo_cl xm116 11 2 3 0 0 0 0 (xo_if .lt (ih 67) (xo_push (0, 0, Int.ofNat 1) (ih 68)))))))))))),
  (67, fun ih => xo_push (0, 0, Int.ofNat 0) (ih 68)),
  (68, fun ih => xo_bin 0 0 xg_add (xo_st 0 5 7 (xo_inc 6 7 (Int.ofNat 1) (ih 41)))),
  (77, fun ih => xo_lda 0 (xo_ld 0 5 (xo_ld 0 3 (xo_ic .le (ih 89) (xo_ld 0 4 (ih 93)))))),
  (89, fun ih => xo_lda 0 (xo_gf 10 20 (ih 93))),
  (93, fun ih => xo_pf 10 20 0 (xo_ld 0 5 (xo_ld 0 3 (xo_ic .le (ih 107) (xo_ld 0 5 (ih 108)))))),
  (107, fun ih => xo_ld 0 3 (ih 108)),
  (108, fun ih => xo_st 0 3 7 (ih 109)),
  (109, fun ih => xo_inc 4 7 (Int.ofNat 1) (ih 6)),
  (115, fun ih => xo_ld 0 3 (xo_ri 1))]
noncomputable def xm118 : xM := x_mth 4 xt118 100000
set_option maxRecDepth 100000 in
theorem xM118 : x_Ma 118 xm118 := x_Ma_of (r := ev_r118) rfl (xs_mth (hint := (fun _ => [])) (cal := (x_ca 115 xm115 (x_ca 117 xm117 (x_ca 116 xm116 (fun _ => x_no))))) (x_Ma_ca xM115 (x_Ma_ca xM117 (x_Ma_ca xM116 x_Ma_no))) (x_T_cons 4 rfl (x_T_cons 19 rfl (x_T_cons 12 rfl (x_T_cons 1 rfl (x_T_cons 4 rfl (x_T_cons 6 rfl (x_T_cons 2 rfl (x_T_cons 6 rfl (x_T_cons 1 rfl (x_T_cons 1 rfl (x_T_cons 2 rfl (x_T_cons 2 rfl x_T_nil)))))))))))))
/-- NameHallModel.figuresOf(I)I -/
noncomputable def xt119 : List (Nat × xB) := [(0, fun ih => xo_push (0, 0, Int.ofNat 0) (xo_st 0 2 4 (xo_push (0, 0, Int.ofNat 0) (xo_st 0 3 4 (ih 4))))),
  (4, fun ih => xo_ld 0 3 (xo_lda 0 (xo_gf 10 1 (xo_ic .ge (ih 32) (xo_push (0, 0, Int.ofNat 10) (xo_ld 0 2 (xo_bin 0 0 (xg_i (· * ·) xg_mul) (xo_lda 0 (xo_ld 0 1 (xo_ld 0 3 (xo_cl xm116 11 2 3 0 0 0 0 (xo_bin 0 0 xg_add (xo_push (0, 0, Int.ofNat 1) (xo_bin 0 0 xg_add (xo_st 0 2 4 (xo_inc 3 4 (Int.ofNat 1) (ih 4))))))))))))))))),
  (32, fun ih => xo_ld 0 2 (xo_ri 1))]
noncomputable def xm119 : xM := x_mth 2 xt119 100000
set_option maxRecDepth 100000 in
theorem xM119 : x_Ma 119 xm119 := x_Ma_of (r := ev_r119) rfl (xs_mth (hint := (fun _ => [])) (cal := (x_ca 116 xm116 (fun _ => x_no))) (x_Ma_ca xM116 x_Ma_no) (x_T_cons 4 rfl (x_T_cons 17 rfl (x_T_cons 2 rfl x_T_nil))))
/-- NameHallModel.most(IZ)I -/
noncomputable def xt120 : List (Nat × xB) := [(0, fun ih => xo_ld 0 1 (xo_un 0 xg_i2l (xo_push (1, 0, Int.ofNat 0) (xo_push (1, 0, Int.ofNat 9) (xo_cl xm15 0 3 6 0 0 0 0 (xo_if .ne (ih 15) (xo_push (0, 0, Int.negSucc 1) (xo_ri 1)))))))),
  (15, fun ih => xo_lda 0 (xo_ld 0 1 (xo_lda 0 (xo_cl xm114 11 0 1 0 0 0 0 (xo_cl xm118 11 2 7 0 0 0 0 (xo_st 0 3 4 (xo_ld 0 2 (xo_if .eq (ih 40) (xo_lda 0 (xo_lda 0 (xo_gf 10 20 (xo_cl xm119 11 1 4 0 0 0 0 (ih 41))))))))))))),
  (40, fun ih => xo_ld 0 3 (ih 41)),
  (41, fun ih => xo_ri 1)]
noncomputable def xm120 : xM := x_mth 1 xt120 100000
set_option maxRecDepth 100000 in
theorem xM120 : x_Ma 120 xm120 := x_Ma_of (r := ev_r120) rfl (xs_mth (hint := (fun _ => [])) (cal := (x_ca 15 xm15 (x_ca 114 xm114 (x_ca 118 xm118 (x_ca 119 xm119 (fun _ => x_no)))))) (x_Ma_ca xM15 (x_Ma_ca xM114 (x_Ma_ca xM118 (x_Ma_ca xM119 x_Ma_no)))) (x_T_cons 8 rfl (x_T_cons 13 rfl (x_T_cons 1 rfl (x_T_cons 1 rfl x_T_nil)))))
/-- NameHall.leftWithout(I)I -/
noncomputable def xt121 : List (Nat × xB) := [(0, fun ih => xo_lda 0 (xo_gf 9 7 (xo_lda 0 (xo_gf 9 2 (xo_ld 0 1 (xo_push (0, 0, Int.ofNat 15) (xo_cl xm104 4 3 6 0 0 0 0 (xo_lda 0 (xo_gf 9 2 (xo_ld 0 1 (xo_cl xm86 7 1 4 0 0 0 0 (xo_cl xm65 0 1 1 0 0 0 0 (xo_lda 0 (xo_gf 9 7 (xo_cl xm110 4 0 1 0 0 0 0 (xo_bin 0 0 xg_sub (xo_ri 1)))))))))))))))))]
noncomputable def xm121 : xM := x_mth 0 xt121 100000
set_option maxRecDepth 100000 in
theorem xM121 : x_Ma 121 xm121 := x_Ma_of (r := ev_r121) rfl (xs_mth (hint := (fun _ => [])) (cal := (x_ca 104 xm104 (x_ca 86 xm86 (x_ca 65 xm65 (x_ca 110 xm110 (fun _ => x_no)))))) (x_Ma_ca xM104 (x_Ma_ca xM86 (x_Ma_ca xM65 (x_Ma_ca xM110 x_Ma_no)))) (x_T_cons 17 rfl x_T_nil))
/-- NameHall.waiting(II)I -/
noncomputable def xt122 : List (Nat × xB) := [(0, fun ih => xo_ld 0 1 (xo_cl xm101 0 1 1 0 0 0 0 (xo_if .eq (ih 19) (xo_ld 0 2 (xo_cl xm101 0 1 1 0 0 0 0 (xo_if .eq (ih 19) (xo_ld 0 2 (xo_ld 0 1 (xo_ic .ge (ih 22) (ih 19)))))))))),
  (19, fun ih => xo_push (0, 0, Int.negSucc 1) (xo_ri 1)),
  (22, fun ih => xo_push (0, 0, Int.ofNat 0) (xo_st 0 3 5 (xo_ld 0 1 (xo_st 0 4 5 (ih 27))))),
  (27, fun ih => xo_ld 0 4 (xo_ld 0 2 (xo_ic .gt (ih 48) (xo_ld 0 3 (xo_lda 0 (xo_ld 0 4 (xo_cl xm121 10 1 2 0 0 0 0 (xo_bin 0 0 xg_add (xo_st 0 3 5 (xo_inc 4 5 (Int.ofNat 1) (ih 27))))))))))),
  (48, fun ih => xo_ld 0 3 (xo_ri 1))]
noncomputable def xm122 : xM := x_mth 2 xt122 100000
set_option maxRecDepth 100000 in
theorem xM122 : x_Ma 122 xm122 := x_Ma_of (r := ev_r122) rfl (xs_mth (hint := (fun _ => [])) (cal := (x_ca 101 xm101 (x_ca 121 xm121 (fun _ => x_no)))) (x_Ma_ca xM101 (x_Ma_ca xM121 x_Ma_no)) (x_T_cons 9 rfl (x_T_cons 2 rfl (x_T_cons 4 rfl (x_T_cons 11 rfl (x_T_cons 2 rfl x_T_nil))))))
/-- NameHallModel.leftAt(I)I -/
noncomputable def xt123 : List (Nat × xB) := [(0, fun ih => xo_push (0, 0, Int.ofNat 0) (xo_st 0 2 4 (xo_push (0, 0, Int.ofNat 0) (xo_st 0 3 4 (ih 4))))),
  (4, fun ih => xo_ld 0 3 (xo_lda 0 (xo_gf 10 1 (xo_ic .ge (ih 36) (xo_ld 0 2 (xo_lda 0 (xo_push (0, 0, Int.ofNat 0) (xo_ld 0 3 (xo_ld 0 1 (xo_cl xm90 11 3 4 0 0 0 0 (xo_if .eq (ih 27) (xo_push (0, 0, Int.ofNat 1) (ih 28))))))))))))),
  (27, fun ih => xo_push (0, 0, Int.ofNat 0) (ih 28)),
  (28, fun ih => xo_bin 0 0 xg_add (xo_st 0 2 4 (xo_inc 3 4 (Int.ofNat 1) (ih 4)))),
  (36, fun ih => xo_ld 0 2 (xo_lda 0 (xo_ld 0 1 (xo_lda 0 (xo_cl xm114 11 0 1 0 0 0 0 (xo_cl xm118 11 2 7 0 0 0 0 (xo_bin 0 0 xg_sub (xo_ri 1))))))))]
noncomputable def xm123 : xM := x_mth 2 xt123 100000
set_option maxRecDepth 100000 in
theorem xM123 : x_Ma 123 xm123 := x_Ma_of (r := ev_r123) rfl (xs_mth (hint := (fun _ => [])) (cal := (x_ca 90 xm90 (x_ca 114 xm114 (x_ca 118 xm118 (fun _ => x_no))))) (x_Ma_ca xM90 (x_Ma_ca xM114 (x_Ma_ca xM118 x_Ma_no))) (x_T_cons 4 rfl (x_T_cons 13 rfl (x_T_cons 1 rfl (x_T_cons 4 rfl (x_T_cons 8 rfl x_T_nil))))))
/-- NameHallModel.waiting(II)I -/
noncomputable def xt124 : List (Nat × xB) := [(0, fun ih => xo_ld 0 1 (xo_un 0 xg_i2l (xo_push (1, 0, Int.ofNat 0) (xo_push (1, 0, Int.ofNat 9) (xo_cl xm15 0 3 6 0 0 0 0 (xo_if .eq (ih 25) (xo_ld 0 2 (xo_un 0 xg_i2l (xo_ld 0 1 (xo_un 0 xg_i2l (xo_push (1, 0, Int.ofNat 9) (xo_cl xm15 0 3 6 0 0 0 0 (xo_if .ne (ih 28) (ih 25)))))))))))))),
  (25, fun ih => xo_push (0, 0, Int.negSucc 1) (xo_ri 1)),
  (28, fun ih => xo_push (0, 0, Int.ofNat 0) (xo_st 0 3 5 (xo_ld 0 1 (xo_st 0 4 5 (ih 33))))),
  (33, fun ih => xo_ld 0 4 (xo_ld 0 2 (xo_ic .gt (ih 54) (xo_ld 0 3 (xo_lda 0 (xo_ld 0 4 (xo_cl xm123 11 1 4 0 0 0 0 (xo_bin 0 0 xg_add (xo_st 0 3 5 (xo_inc 4 5 (Int.ofNat 1) (ih 33))))))))))),
  (54, fun ih => xo_ld 0 3 (xo_ri 1))]
noncomputable def xm124 : xM := x_mth 2 xt124 100000
set_option maxRecDepth 100000 in
theorem xM124 : x_Ma 124 xm124 := x_Ma_of (r := ev_r124) rfl (xs_mth (hint := (fun _ => [])) (cal := (x_ca 15 xm15 (x_ca 123 xm123 (fun _ => x_no)))) (x_Ma_ca xM15 (x_Ma_ca xM123 x_Ma_no)) (x_T_cons 13 rfl (x_T_cons 2 rfl (x_T_cons 4 rfl (x_T_cons 11 rfl (x_T_cons 2 rfl x_T_nil))))))
/-- NameHall.first()I -/
noncomputable def xt125 : List (Nat × xB) := [(0, fun ih => xo_push (0, 0, Int.ofNat 0) (xo_st 0 1 2 (ih 2))),
  (2, fun ih => xo_ld 0 1 (xo_push (0, 0, Int.ofNat 10) (xo_ic .ge (ih 24) (xo_lda 0 (xo_ld 0 1 (xo_cl xm121 10 1 2 0 0 0 0 (xo_if .le (ih 18) (xo_ld 0 1 (xo_ri 1))))))))),
  (18, fun ih => xo_inc 1 2 (Int.ofNat 1) (ih 2)),
  (24, fun ih => xo_push (0, 0, Int.negSucc 8) (xo_ri 1))]
noncomputable def xm125 : xM := x_mth 1 xt125 100000
set_option maxRecDepth 100000 in
theorem xM125 : x_Ma 125 xm125 := x_Ma_of (r := ev_r125) rfl (xs_mth (hint := (fun _ => [])) (cal := (x_ca 121 xm121 (fun _ => x_no))) (x_Ma_ca xM121 x_Ma_no) (x_T_cons 2 rfl (x_T_cons 9 rfl (x_T_cons 2 rfl (x_T_cons 2 rfl x_T_nil)))))
/-- NameHallModel.first()I -/
noncomputable def xt126 : List (Nat × xB) := [(0, fun ih => xo_push (0, 0, Int.ofNat 0) (xo_st 0 1 2 (ih 2))),
  (2, fun ih => xo_ld 0 1 (xo_push (0, 0, Int.ofNat 10) (xo_ic .ge (ih 24) (xo_lda 0 (xo_ld 0 1 (xo_cl xm123 11 1 4 0 0 0 0 (xo_if .le (ih 18) (xo_ld 0 1 (xo_ri 1))))))))),
  (18, fun ih => xo_inc 1 2 (Int.ofNat 1) (ih 2)),
  (24, fun ih => xo_push (0, 0, Int.negSucc 8) (xo_ri 1))]
noncomputable def xm126 : xM := x_mth 1 xt126 100000
set_option maxRecDepth 100000 in
theorem xM126 : x_Ma 126 xm126 := x_Ma_of (r := ev_r126) rfl (xs_mth (hint := (fun _ => [])) (cal := (x_ca 123 xm123 (fun _ => x_no))) (x_Ma_ca xM123 x_Ma_no) (x_T_cons 2 rfl (x_T_cons 9 rfl (x_T_cons 2 rfl (x_T_cons 2 rfl x_T_nil)))))
/-- NameHall$Rescue.worthBy(III)I -/
noncomputable def xt127 : List (Nat × xB) := [(0, fun ih => xo_ld 0 1 (xo_if .lt (ih 19) (xo_ld 0 1 (xo_push (0, 0, Int.ofNat 5) (xo_ic .ge (ih 19) (xo_ld 0 2 (xo_if .lt (ih 19) (xo_ld 0 2 (xo_push (0, 0, Int.ofNat 16) (xo_ic .lt (ih 22) (ih 19))))))))))),
  (19, fun ih => xo_push (0, 0, Int.negSucc 8) (xo_ri 1)),
  (22, fun ih => xo_ld 0 3 (xo_if .ne (ih 37) (xo_lda 0 (xo_gf 5 1 (xo_ld 0 1 (xo_push (0, 0, Int.ofNat 1) (xo_bin 0 0 xg_add (xo_aa (xo_ld 0 2 (xo_al none 0 (xo_ri 1))))))))))),
  (37, fun ih => xo_push (0, 0, Int.ofNat 1) (xo_ld 0 3 (xo_push (0, 0, Int.ofNat 1) (xo_bin 0 0 xg_sub (xo_bin 0 0 (xg_i x_ishl xg_ti) (xo_st 0 4 5 (xo_ld 0 2 (xo_lda 0 (xo_gf 5 2 (xo_ld 0 1 (xo_al none 0 (xo_bin 0 0 (xg_i (· &&& ·) xg_and) (xo_ld 0 4 (xo_bin 0 0 (xg_i (· &&& ·) xg_and) (xo_if .ne (ih 61) (xo_push (0, 0, Int.negSucc 8) (xo_ri 1))))))))))))))))),
  (61, fun ih => xo_lda 0 (xo_gf 5 0 (xo_ld 0 3 (xo_push (0, 0, Int.ofNat 1) (xo_bin 0 0 xg_sub (xo_cl xm42 5 1 2 0 0 0 0 (xo_lda 0 (xo_gf 5 1 (xo_ld 0 1 (xo_push (0, 0, Int.ofNat 1) (xo_bin 0 0 xg_add (xo_aa (xo_ld 0 2 (xo_ld 0 4 (xo_push (0, 0, Int.negSucc 0) (xo_bin 0 0 (xg_i (· ^^^ ·) xg_ti) (xo_bin 0 0 (xg_i (· &&& ·) xg_and) (xo_al none 0 (xo_bin 0 0 xg_add (xo_ri 1))))))))))))))))))))]
noncomputable def xm127 : xM := x_mth 1 xt127 100000
set_option maxRecDepth 100000 in
theorem xM127 : x_Ma 127 xm127 := x_Ma_of (r := ev_r127) rfl (xs_mth (hint := (fun _ => [])) (cal := (x_ca 42 xm42 (fun _ => x_no))) (x_Ma_ca xM42 x_Ma_no) (x_T_cons 10 rfl (x_T_cons 2 rfl (x_T_cons 11 rfl (x_T_cons 17 rfl (x_T_cons 20 rfl x_T_nil))))))
/-- NameHall$Rescue.bestOf(II)I -/
noncomputable def xt128 : List (Nat × xB) := [(0, fun ih => xo_push (0, 0, Int.ofNat 0) (xo_st 0 3 5 (xo_push (0, 0, Int.ofNat 0) (xo_st 0 4 5 (ih 5))))),
  (5, fun ih => xo_ld 0 4 (xo_push (0, 0, Int.ofNat 4) (xo_ic .gt (ih 30) (xo_ld 0 3 (xo_lda 0 (xo_ld 0 1 (xo_ld 0 2 (xo_ld 0 4 (xo_cl xm127 6 3 5 0 0 0 0 (xo_cl xm106 0 2 2 0 0 0 0 (xo_st 0 3 5 (xo_inc 4 5 (Int.ofNat 1) (ih 5))))))))))))),
  (30, fun ih => xo_ld 0 3 (xo_ri 1))]
noncomputable def xm128 : xM := x_mth 2 xt128 100000
set_option maxRecDepth 100000 in
theorem xM128 : x_Ma 128 xm128 := x_Ma_of (r := ev_r128) rfl (xs_mth (hint := (fun _ => [])) (cal := (x_ca 127 xm127 (x_ca 106 xm106 (fun _ => x_no)))) (x_Ma_ca xM127 (x_Ma_ca xM106 x_Ma_no)) (x_T_cons 4 rfl (x_T_cons 13 rfl (x_T_cons 2 rfl x_T_nil))))
/-- NameHall$Rescue.prepare(LNameHall$Scene;)V -/
noncomputable def xt129 : List (Nat × xB) := [(0, fun ih => xo_lda 0 (xo_push (0, 0, Int.ofNat 1) (xo_lda 0 (xo_gf 5 0 (xo_cl xm36 5 0 1 0 0 0 0 (xo_bin 0 0 (xg_i x_ishl xg_ti) (xo_push (0, 0, Int.ofNat 1) (xo_bin 0 0 xg_sub (xo_lda 1 (xo_cl xm102 7 0 1 0 0 0 0 (xo_push (0, 0, Int.negSucc 0) (xo_bin 0 0 (xg_i (· ^^^ ·) xg_ti) (xo_bin 0 0 (xg_i (· &&& ·) xg_and) (xo_push (0, 0, Int.ofNat 15) (xo_bin 0 0 (xg_i (· &&& ·) xg_and) (xo_pf 5 3 0 (xo_push (0, 0, Int.ofNat 4) (xo_st 0 2 4 (ih 27))))))))))))))))))),
  (27, fun ih => xo_ld 0 2 (xo_if .lt (ih 76) (xo_lda 0 (xo_gf 5 2 (xo_ld 0 2 (xo_lda 1 (xo_ld 0 2 (xo_cl xm103 7 1 2 0 0 0 0 (xo_as 0 (xo_push (0, 0, Int.ofNat 0) (xo_st 0 3 4 (ih 44)))))))))))),
  (44, fun ih => xo_ld 0 3 (xo_push (0, 0, Int.ofNat 16) (xo_ic .ge (ih 70) (xo_lda 0 (xo_gf 5 1 (xo_ld 0 2 (xo_aa (xo_ld 0 3 (xo_lda 0 (xo_ld 0 2 (xo_ld 0 3 (xo_cl xm128 6 2 5 0 0 0 0 (xo_as 0 (xo_inc 3 4 (Int.ofNat 1) (ih 44))))))))))))))),
  (70, fun ih => xo_inc 2 4 (Int.negSucc 0) (ih 27)),
  (76, fun ih => xo_rv 0)]
noncomputable def xm129 : xM := x_mth 2 xt129 100000
set_option maxRecDepth 100000 in
theorem xM129 : x_Ma 129 xm129 := x_Ma_of (r := ev_r129) rfl (xs_mth (hint := (fun _ => [])) (cal := (x_ca 36 xm36 (x_ca 102 xm102 (x_ca 103 xm103 (x_ca 128 xm128 (fun _ => x_no)))))) (x_Ma_ca xM36 (x_Ma_ca xM102 (x_Ma_ca xM103 (x_Ma_ca xM128 x_Ma_no)))) (x_T_cons 18 rfl (x_T_cons 11 rfl (x_T_cons 15 rfl (x_T_cons 2 rfl (x_T_cons 1 rfl x_T_nil))))))
/-- NameHall$Rescue.firstFigure(II)I -/
noncomputable def xt130 : List (Nat × xB) := [(0, fun ih => xo_lda 0 (xo_ld 0 1 (xo_ld 0 2 (xo_cl xm128 6 2 5 0 0 0 0 (xo_st 0 3 5 (xo_push (0, 0, Int.ofNat 0) (xo_st 0 4 5 (ih 10)))))))),
  (10, fun ih => xo_ld 0 4 (xo_push (0, 0, Int.ofNat 4) (xo_ic .gt (ih 37) (xo_lda 0 (xo_ld 0 1 (xo_ld 0 2 (xo_ld 0 4 (xo_cl xm127 6 3 5 0 0 0 0 (xo_ld 0 3 (xo_ic .ne (ih 31) (xo_ld 0 4 (xo_ri 1)))))))))))),
  (31, fun ih => xo_inc 4 5 (Int.ofNat 1) (ih 10)),
  (37, fun ih => xo_push (0, 0, Int.ofNat 0) (xo_ri 1))]
noncomputable def xm130 : xM := x_mth 2 xt130 100000
set_option maxRecDepth 100000 in
theorem xM130 : x_Ma 130 xm130 := x_Ma_of (r := ev_r130) rfl (xs_mth (hint := (fun _ => [])) (cal := (x_ca 128 xm128 (x_ca 127 xm127 (fun _ => x_no)))) (x_Ma_ca xM128 (x_Ma_ca xM127 x_Ma_no)) (x_T_cons 7 rfl (x_T_cons 12 rfl (x_T_cons 2 rfl (x_T_cons 2 rfl x_T_nil)))))
/-- NameHall$Rescue.firstWay()I -/
noncomputable def xt131 : List (Nat × xB) := [(0, fun ih => xo_push (0, 0, Int.ofNat 0) (xo_st 0 1 5 (xo_lda 0 (xo_gf 5 3 (xo_st 0 2 5 (xo_push (0, 0, Int.ofNat 0) (xo_st 0 3 5 (ih 9)))))))),
  (9, fun ih => xo_ld 0 3 (xo_lda 0 (xo_gf 5 0 (xo_cl xm37 5 0 1 0 0 0 0 (xo_ic .ge (ih 58) (xo_lda 0 (xo_ld 0 3 (xo_ld 0 2 (xo_cl xm130 6 2 5 0 0 0 0 (xo_st 0 4 5 (xo_ld 0 4 (xo_if .le (ih 44) (xo_ld 0 2 (xo_push (0, 0, Int.ofNat 1) (xo_ld 0 4 (xo_push (0, 0, Int.ofNat 1) (xo_bin 0 0 xg_sub (xo_bin 0 0 (xg_i x_ishl xg_ti) (xo_push (0, 0, Int.negSucc 0) (xo_bin 0 0 (xg_i (· ^^^ ·) xg_ti) (xo_bin 0 0 (xg_i (· &&& ·) xg_and) (xo_st 0 2 5 (ih 44))))))))))))))))))))))),
  (44, fun ih => xo_push (0, 0, Int.ofNat 10) (xo_ld 0 1 (xo_bin 0 0 (xg_i (· * ·) xg_mul) (xo_ld 0 4 (xo_bin 0 0 xg_add (xo_st 0 1 5 (xo_inc 3 5 (Int.ofNat 1) (ih 9)))))))),
  (58, fun ih => xo_ld 0 1 (xo_ri 1))]
noncomputable def xm131 : xM := x_mth 4 xt131 100000
set_option maxRecDepth 100000 in
theorem xM131 : x_Ma 131 xm131 := x_Ma_of (r := ev_r131) rfl (xs_mth (hint := (fun _ => [])) (cal := (x_ca 37 xm37 (x_ca 130 xm130 (fun _ => x_no)))) (x_Ma_ca xM37 (x_Ma_ca xM130 x_Ma_no)) (x_T_cons 7 rfl (x_T_cons 22 rfl (x_T_cons 8 rfl (x_T_cons 2 rfl x_T_nil)))))
/-- NameHall$Rescue.greatest()I -/
noncomputable def xt132 : List (Nat × xB) := [(0, fun ih => xo_lda 0 (xo_gf 5 1 (xo_push (0, 0, Int.ofNat 0) (xo_aa (xo_lda 0 (xo_gf 5 3 (xo_al none 0 (xo_ri 1))))))))]
noncomputable def xm132 : xM := x_mth 0 xt132 100000
set_option maxRecDepth 100000 in
theorem xM132 : x_Ma 132 xm132 := x_Ma_of (r := ev_r132) rfl (xs_mth (hint := (fun _ => [])) (cal := (fun _ => x_no)) x_Ma_no (x_T_cons 8 rfl x_T_nil))
/-- NameHall.fire(Z)I -/
noncomputable def xt133 : List (Nat × xB) := [(0, fun ih => xo_lda 0 (xo_gf 9 8 (xo_lda 0 (xo_gf 9 2 (xo_cl xm129 6 1 4 0 0 0 0 (xo_ld 0 1 (xo_if .eq (ih 25) (xo_lda 0 (xo_gf 9 8 (xo_cl xm131 6 0 5 0 0 0 0 (ih 32))))))))))),
  (25, fun ih => xo_lda 0 (xo_gf 9 8 (xo_cl xm132 6 0 1 0 0 0 0 (ih 32)))),
  (32, fun ih => xo_ri 1)]
noncomputable def xm133 : xM := x_mth 0 xt133 100000
set_option maxRecDepth 100000 in
theorem xM133 : x_Ma 133 xm133 := x_Ma_of (r := ev_r133) rfl (xs_mth (hint := (fun _ => [])) (cal := (x_ca 129 xm129 (x_ca 131 xm131 (x_ca 132 xm132 (fun _ => x_no))))) (x_Ma_ca xM129 (x_Ma_ca xM131 (x_Ma_ca xM132 x_Ma_no))) (x_T_cons 11 rfl (x_T_cons 3 rfl (x_T_cons 1 rfl x_T_nil))))
/-- NameHallModel.fire(Z)I -/
noncomputable def xt134 : List (Nat × xB) := [(0, fun ih => xo_push (0, 0, Int.negSucc 8) (xo_st 0 2 7 (xo_push (0, 0, Int.ofNat 0) (xo_st 0 3 7 (xo_push (0, 0, Int.ofNat 0) (xo_st 0 4 7 (ih 8))))))),
  (8, fun ih => xo_ld 0 4 (xo_lda 0 (xo_gf 10 0 (xo_push (0, 0, Int.ofNat 1) (xo_bin 0 0 xg_add (xo_lda 0 (xo_gf 10 1 (xo_cl xm115 0 2 4 0 0 0 0 (xo_ic .ge (ih 127) (xo_lda 0 (xo_ld 0 4 (xo_lda 0 (xo_cl xm114 11 0 1 0 0 0 0 (xo_push (0, 0, Int.negSucc 8) (xo_cl xm117 11 3 7 0 0 0 0 (xo_if .eq (ih 121) (xo_push (0, 0, Int.ofNat 0) (xo_st 0 5 7 (xo_push (0, 0, Int.ofNat 0) (xo_st 0 6 7 (ih 47))))))))))))))))))))),
  (47, fun ih => xo_ld 0 6 (xo_lda 0 (xo_gf 10 1 (xo_ic .ge (ih 95) (xo_ld 0 5 (xo_lda 0 (xo_ld 0 4 (xo_ld 0 6 (xo_cl xm116 11 2 3 0 0 0 0 (xo_if .ge (ih 73) (xo_push (0, 0, Int.ofNat 0) (ih 86)))))))))))),
  (73, fun ih => xo_lda 0 (xo_gf 10 3 (xo_lda 0 (xo_ld 0 4 (xo_ld 0 6 (xo_cl xm116 11 2 3 0 0 0 0 (xo_al none 0 (ih 86)))))))),
  (86, fun ih => xo_bin 0 0 xg_add (xo_st 0 5 7 (xo_inc 6 7 (Int.ofNat 1) (ih 47)))),
  (95, fun ih => xo_ld 0 5 (xo_ld 0 2 (xo_ic .le (ih 106) (xo_ld 0 4 (ih 107))))),
  (106, fun ih => xo_ld 0 3 (ih 107)),
  (107, fun ih => xo_st 0 3 7 (xo_ld 0 5 (xo_ld 0 2 (xo_ic .le (ih 119) (xo_ld 0 5 (ih 120)))))),
  (119, fun ih => xo_ld 0 2 (ih 120)),
  (120, fun ih => xo_st 0 2 7 (ih 121)),
  (121, fun ih => xo_inc 4 7 (Int.ofNat 1) (ih 8)),
  (127, fun ih => xo_ld 0 1 (xo_if .eq (ih 139) (xo_lda 0 (xo_ld 0 3 (xo_cl xm119 11 1 4 0 0 0 0 (ih 140)))))),
  (139, fun ih => xo_ld 0 2 (ih 140)),
  (140, fun ih => xo_ri 1)]
noncomputable def xm134 : xM := x_mth 5 xt134 100000
set_option maxRecDepth 100000 in
theorem xM134 : x_Ma 134 xm134 := x_Ma_of (r := ev_r134) rfl (xs_mth (hint := (fun _ => [])) (cal := (x_ca 115 xm115 (x_ca 114 xm114 (x_ca 117 xm117 (x_ca 116 xm116 (x_ca 119 xm119 (fun _ => x_no))))))) (x_Ma_ca xM115 (x_Ma_ca xM114 (x_Ma_ca xM117 (x_Ma_ca xM116 (x_Ma_ca xM119 x_Ma_no))))) (x_T_cons 6 rfl (x_T_cons 20 rfl (x_T_cons 12 rfl (x_T_cons 7 rfl (x_T_cons 4 rfl (x_T_cons 5 rfl (x_T_cons 1 rfl (x_T_cons 6 rfl (x_T_cons 1 rfl (x_T_cons 1 rfl (x_T_cons 2 rfl (x_T_cons 6 rfl (x_T_cons 1 rfl (x_T_cons 1 rfl x_T_nil)))))))))))))))
/-- NameHall.readThings(II)Z -/
noncomputable def xt135 : List (Nat × xB) := [(0, fun ih => xo_ld 0 2 (xo_st 0 3 5 (xo_ld 0 1 (xo_push (0, 0, Int.ofNat 4) (xo_cl xm108 0 2 2 0 0 0 0 (xo_push (0, 0, Int.ofNat 1) (xo_bin 0 0 xg_sub (xo_st 0 4 5 (ih 11))))))))),
  (11, fun ih => xo_ld 0 4 (xo_if .lt (ih 38) (xo_lda 0 (xo_gf 9 10 (xo_ld 0 4 (xo_ld 0 3 (xo_push (0, 0, Int.ofNat 100) (xo_bin 0 0 xg_rem (xo_as 0 (xo_ld 0 3 (xo_push (0, 0, Int.ofNat 100) (xo_bin 0 0 xg_div (xo_st 0 3 5 (xo_inc 4 5 (Int.negSucc 0) (ih 11))))))))))))))),
  (38, fun ih => xo_ld 0 3 (xo_if .ne (ih 46) (xo_push (0, 0, Int.ofNat 1) (ih 47)))),
  (46, fun ih => xo_push (0, 0, Int.ofNat 0) (ih 47)),
  (47, fun ih => xo_ri 2)]
noncomputable def xm135 : xM := x_mth 2 xt135 100000
set_option maxRecDepth 100000 in
theorem xM135 : x_Ma 135 xm135 := x_Ma_of (r := ev_r135) rfl (xs_mth (hint := (fun _ => [])) (cal := (x_ca 108 xm108 (fun _ => x_no))) (x_Ma_ca xM108 x_Ma_no) (x_T_cons 8 rfl (x_T_cons 15 rfl (x_T_cons 4 rfl (x_T_cons 1 rfl (x_T_cons 1 rfl x_T_nil))))))
/-- NameHall$Scene.copy(LNameHall$Scene;)V -/
noncomputable def xt136 : List (Nat × xB) := [(0, fun ih => xo_lda 1 (xo_gf 6 1 (xo_push (0, 0, Int.ofNat 0) (xo_lda 0 (xo_gf 6 1 (xo_push (0, 0, Int.ofNat 0) (xo_push (0, 0, Int.ofNat 5) (xo_cp 1 26 (xo_lda 1 (xo_gf 6 2 (xo_push (0, 0, Int.ofNat 0) (xo_lda 0 (xo_gf 6 2 (xo_push (0, 0, Int.ofNat 0) (xo_push (0, 0, Int.ofNat 5) (xo_cp 1 26 (xo_lda 1 (xo_gf 6 3 (xo_push (0, 0, Int.ofNat 0) (xo_lda 0 (xo_gf 6 3 (xo_push (0, 0, Int.ofNat 0) (xo_push (0, 0, Int.ofNat 5) (xo_cp 1 26 (xo_lda 0 (xo_lda 1 (xo_gf 6 4 (xo_pf 6 4 0 (xo_lda 0 (xo_lda 1 (xo_gf 6 5 (xo_pf 6 5 0 (xo_lda 0 (xo_lda 1 (xo_gf 6 6 (xo_pf 6 6 0 (xo_rv 0)))))))))))))))))))))))))))))))))))))]
noncomputable def xm136 : xM := x_mth 0 xt136 100000
set_option maxRecDepth 100000 in
theorem xM136 : x_Ma 136 xm136 := x_Ma_of (r := ev_r136) rfl (xs_mth (hint := (fun _ => [])) (cal := (fun _ => x_no)) x_Ma_no (x_T_cons 37 rfl x_T_nil))
/-- NameHall$Scene.hangs(I)Z -/
noncomputable def xt137 : List (Nat × xB) := [(0, fun ih => xo_lda 0 (xo_ld 0 1 (xo_cl xm53 7 1 2 0 0 0 0 (xo_push (0, 0, Int.negSucc 8) (xo_ic .eq (ih 14) (xo_push (0, 0, Int.ofNat 1) (ih 15))))))),
  (14, fun ih => xo_push (0, 0, Int.ofNat 0) (ih 15)),
  (15, fun ih => xo_st 0 2 3 (xo_ld 0 2 (xo_if .eq (ih 25) (xo_lda 0 (xo_ld 0 1 (xo_cl xm81 7 1 2 0 0 0 0 (ih 25))))))),
  (25, fun ih => xo_ld 0 2 (xo_ri 2))]
noncomputable def xm137 : xM := x_mth 1 xt137 100000
set_option maxRecDepth 100000 in
theorem xM137 : x_Ma 137 xm137 := x_Ma_of (r := ev_r137) rfl (xs_mth (hint := (fun _ => [])) (cal := (x_ca 53 xm53 (x_ca 81 xm81 (fun _ => x_no)))) (x_Ma_ca xM53 (x_Ma_ca xM81 x_Ma_no)) (x_T_cons 7 rfl (x_T_cons 1 rfl (x_T_cons 6 rfl (x_T_cons 2 rfl x_T_nil)))))
/-- NameHall$Scene.takes(II)Z -/
noncomputable def xt138 : List (Nat × xB) := [(0, fun ih => xo_lda 0 (xo_ld 0 1 (xo_ld 0 2 (xo_cl xm67 7 2 3 0 0 0 0 (xo_st 0 3 4 (xo_ld 0 3 (xo_if .eq (ih 17) (xo_lda 0 (xo_ld 0 1 (xo_ld 0 2 (xo_cl xm71 7 2 3 0 0 0 0 (ih 17)))))))))))),
  (17, fun ih => xo_ld 0 3 (xo_ri 2))]
noncomputable def xm138 : xM := x_mth 1 xt138 100000
set_option maxRecDepth 100000 in
theorem xM138 : x_Ma 138 xm138 := x_Ma_of (r := ev_r138) rfl (xs_mth (hint := (fun _ => [])) (cal := (x_ca 67 xm67 (x_ca 71 xm71 (fun _ => x_no)))) (x_Ma_ca xM67 (x_Ma_ca xM71 x_Ma_no)) (x_T_cons 11 rfl (x_T_cons 2 rfl x_T_nil)))
/-- NameHall.happens(I)Z -/
noncomputable def xt139 : List (Nat × xB) := [(0, fun ih => xo_ld 0 1 (xo_push (0, 0, Int.ofNat 10) (xo_bin 0 0 xg_div (xo_push (0, 0, Int.ofNat 1) (xo_bin 0 0 xg_sub (xo_st 0 2 4 (xo_ld 0 1 (xo_push (0, 0, Int.ofNat 10) (xo_bin 0 0 xg_rem (xo_push (0, 0, Int.ofNat 1) (xo_bin 0 0 xg_sub (xo_st 0 3 4 (xo_ld 0 2 (xo_if .ge (ih 32) (xo_ld 0 3 (xo_if .ge (ih 32) (xo_lda 0 (xo_gf 9 3 (xo_cl xm88 7 0 3 0 0 0 0 (xo_pop (xo_push (0, 0, Int.ofNat 1) (xo_ri 2)))))))))))))))))))))),
  (32, fun ih => xo_ld 0 3 (xo_if .ge (ih 47) (xo_lda 0 (xo_gf 9 3 (xo_ld 0 2 (xo_cl xm137 7 1 3 0 0 0 0 (ih 56))))))),
  (47, fun ih => xo_lda 0 (xo_gf 9 3 (xo_ld 0 2 (xo_ld 0 3 (xo_cl xm138 7 2 4 0 0 0 0 (ih 56)))))),
  (56, fun ih => xo_ri 2)]
noncomputable def xm139 : xM := x_mth 2 xt139 100000
set_option maxRecDepth 100000 in
theorem xM139 : x_Ma 139 xm139 := x_Ma_of (r := ev_r139) rfl (xs_mth (hint := (fun _ => [])) (cal := (x_ca 88 xm88 (x_ca 137 xm137 (x_ca 138 xm138 (fun _ => x_no))))) (x_Ma_ca xM88 (x_Ma_ca xM137 (x_Ma_ca xM138 x_Ma_no))) (x_T_cons 22 rfl (x_T_cons 7 rfl (x_T_cons 5 rfl (x_T_cons 1 rfl x_T_nil)))))
