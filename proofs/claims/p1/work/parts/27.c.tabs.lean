/-! methods as blocks, by program -/
/-- NameHall.judge(II)I -/
noncomputable def xt140 : List (Nat × xB) := [(0, fun ih => xo_ld 0 1 (xo_push (0, 0, Int.ofNat 1) (xo_ic .lt (ih 23) (xo_ld 0 1 (xo_push (0, 0, Int.ofNat 4) (xo_ic .gt (ih 23) (xo_ld 0 2 (xo_if .lt (ih 23) (xo_lda 0 (xo_ld 0 1 (xo_ld 0 2 (xo_cl xm135 10 2 5 0 0 0 0 (xo_if .ne (ih 26) (ih 23)))))))))))))),
  (23, fun ih => xo_push (0, 0, Int.negSucc 1) (xo_ri 1)),
  (26, fun ih => xo_lda 0 (xo_gf 9 3 (xo_lda 0 (xo_gf 9 2 (xo_cl xm136 7 1 2 0 0 0 0 (xo_lda 0 (xo_gf 9 3 (xo_cl xm32 7 0 1 0 0 0 0 (xo_push (0, 0, Int.ofNat 0) (xo_st 0 3 4 (ih 46))))))))))),
  (46, fun ih => xo_ld 0 3 (xo_ld 0 1 (xo_ic .ge (ih 72) (xo_lda 0 (xo_lda 0 (xo_gf 9 10 (xo_ld 0 3 (xo_al none 0 (xo_cl xm139 10 1 4 0 0 0 0 (xo_if .ne (ih 66) (xo_ld 0 3 (xo_ri 1)))))))))))),
  (66, fun ih => xo_inc 3 4 (Int.ofNat 1) (ih 46)),
  (72, fun ih => xo_push (0, 0, Int.negSucc 8) (xo_ri 1))]
noncomputable def xm140 : xM := x_mth 1 xt140 100000
set_option maxRecDepth 100000 in
theorem xM140 : x_Ma 140 xm140 := x_Ma_of (r := ev_r140) rfl (xs_mth (hint := (fun _ => [])) (cal := (x_ca 135 xm135 (x_ca 136 xm136 (x_ca 32 xm32 (x_ca 139 xm139 (fun _ => x_no)))))) (x_Ma_ca xM135 (x_Ma_ca xM136 (x_Ma_ca xM32 (x_Ma_ca xM139 x_Ma_no)))) (x_T_cons 13 rfl (x_T_cons 2 rfl (x_T_cons 10 rfl (x_T_cons 12 rfl (x_T_cons 2 rfl (x_T_cons 2 rfl x_T_nil)))))))
/-- NameHallModel.layTrial()V -/
noncomputable def xt141 : List (Nat × xB) := [(0, fun ih => xo_push (0, 0, Int.ofNat 0) (xo_st 0 1 2 (ih 2))),
  (2, fun ih => xo_ld 0 1 (xo_push (0, 0, Int.ofNat 18) (xo_ic .ge (ih 29) (xo_lda 0 (xo_gf 10 7 (xo_push (0, 0, Int.ofNat 18) (xo_ld 0 1 (xo_bin 0 0 xg_add (xo_lda 0 (xo_gf 10 7 (xo_ld 0 1 (xo_al none 0 (xo_as 0 (xo_inc 1 2 (Int.ofNat 1) (ih 2))))))))))))))),
  (29, fun ih => xo_rv 0)]
noncomputable def xm141 : xM := x_mth 1 xt141 100000
set_option maxRecDepth 100000 in
theorem xM141 : x_Ma 141 xm141 := x_Ma_of (r := ev_r141) rfl (xs_mth (hint := (fun _ => [])) (cal := (fun _ => x_no)) x_Ma_no (x_T_cons 2 rfl (x_T_cons 15 rfl (x_T_cons 1 rfl x_T_nil))))
/-- NameHallModel.tryThing(I)Z -/
noncomputable def xt142 : List (Nat × xB) := [(0, fun ih => xo_ld 0 1 (xo_push (0, 0, Int.ofNat 10) (xo_bin 0 0 xg_div (xo_push (0, 0, Int.ofNat 1) (xo_bin 0 0 xg_sub (xo_st 0 2 5 (xo_ld 0 1 (xo_push (0, 0, Int.ofNat 10) (xo_bin 0 0 xg_rem (xo_push (0, 0, Int.ofNat 1) (xo_bin 0 0 xg_sub (xo_st 0 3 5 (xo_ld 0 1 (xo_if .ne (ih 26) (xo_lda 0 (xo_push (0, 0, Int.ofNat 1) (xo_cl xm91 11 1 6 0 0 0 0 (xo_pop (xo_push (0, 0, Int.ofNat 1) (xo_ri 2)))))))))))))))))))),
  (26, fun ih => xo_lda 0 (xo_ld 0 2 (xo_cl xm61 11 1 2 0 0 0 0 (xo_if .ne (ih 36) (xo_push (0, 0, Int.ofNat 0) (xo_ri 2)))))),
  (36, fun ih => xo_ld 0 3 (xo_if .ge (ih 72) (xo_lda 0 (xo_gf 10 7 (xo_push (0, 0, Int.ofNat 18) (xo_ld 0 2 (xo_bin 0 0 xg_add (xo_al none 0 (xo_push (0, 0, Int.negSucc 8) (xo_ic .eq (ih 58) (xo_push (0, 0, Int.ofNat 1) (ih 59)))))))))))),
  (58, fun ih => xo_push (0, 0, Int.ofNat 0) (ih 59)),
  (59, fun ih => xo_st 0 4 5 (xo_lda 0 (xo_push (0, 0, Int.ofNat 1) (xo_ld 0 2 (xo_push (0, 0, Int.negSucc 8) (xo_cl xm79 11 3 4 0 0 0 0 (xo_ld 0 4 (xo_ri 2)))))))),
  (72, fun ih => xo_lda 0 (xo_ld 0 3 (xo_cl xm46 11 1 2 0 0 0 0 (xo_if .eq (ih 94) (xo_lda 0 (xo_push (0, 0, Int.ofNat 1) (xo_ld 0 2 (xo_ld 0 3 (xo_cl xm77 11 3 5 0 0 0 0 (xo_if .eq (ih 94) (xo_push (0, 0, Int.ofNat 1) (ih 95)))))))))))),
  (94, fun ih => xo_push (0, 0, Int.ofNat 0) (ih 95)),
  (95, fun ih => xo_st 0 4 5 (xo_ld 0 4 (xo_if .eq (ih 109) (xo_lda 0 (xo_push (0, 0, Int.ofNat 1) (xo_ld 0 2 (xo_ld 0 3 (xo_cl xm79 11 3 4 0 0 0 0 (ih 109))))))))),
  (109, fun ih => xo_ld 0 4 (xo_ri 2))]
noncomputable def xm142 : xM := x_mth 3 xt142 100000
set_option maxRecDepth 100000 in
theorem xM142 : x_Ma 142 xm142 := x_Ma_of (r := ev_r142) rfl (xs_mth (hint := (fun _ => [])) (cal := (x_ca 91 xm91 (x_ca 61 xm61 (x_ca 79 xm79 (x_ca 46 xm46 (x_ca 77 xm77 (fun _ => x_no))))))) (x_Ma_ca xM91 (x_Ma_ca xM61 (x_Ma_ca xM79 (x_Ma_ca xM46 (x_Ma_ca xM77 x_Ma_no))))) (x_T_cons 20 rfl (x_T_cons 6 rfl (x_T_cons 12 rfl (x_T_cons 1 rfl (x_T_cons 8 rfl (x_T_cons 12 rfl (x_T_cons 1 rfl (x_T_cons 8 rfl (x_T_cons 2 rfl x_T_nil))))))))))
/-- NameHallModel.judge(II)I -/
noncomputable def xt143 : List (Nat × xB) := [(0, fun ih => xo_ld 0 1 (xo_un 0 xg_i2l (xo_push (1, 0, Int.ofNat 1) (xo_push (1, 0, Int.ofNat 4) (xo_cl xm15 0 3 6 0 0 0 0 (xo_if .eq (ih 30) (xo_ld 0 2 (xo_un 0 xg_i2l (xo_push (1, 0, Int.ofNat 0) (xo_push (0, 0, Int.ofNat 100) (xo_ld 0 1 (xo_cl xm115 0 2 4 0 0 0 0 (xo_push (0, 0, Int.ofNat 1) (xo_bin 0 0 xg_sub (xo_un 0 xg_i2l (xo_cl xm15 0 3 6 0 0 0 0 (xo_if .ne (ih 33) (ih 30)))))))))))))))))),
  (30, fun ih => xo_push (0, 0, Int.negSucc 1) (xo_ri 1)),
  (33, fun ih => xo_lda 0 (xo_cl xm141 11 0 2 0 0 0 0 (xo_push (0, 0, Int.ofNat 0) (xo_st 0 3 4 (ih 39))))),
  (39, fun ih => xo_ld 0 3 (xo_ld 0 1 (xo_ic .ge (ih 74) (xo_lda 0 (xo_ld 0 2 (xo_push (0, 0, Int.ofNat 100) (xo_ld 0 1 (xo_push (0, 0, Int.ofNat 1) (xo_bin 0 0 xg_sub (xo_ld 0 3 (xo_bin 0 0 xg_sub (xo_cl xm115 0 2 4 0 0 0 0 (xo_bin 0 0 xg_div (xo_push (0, 0, Int.ofNat 100) (xo_bin 0 0 xg_rem (xo_cl xm142 11 1 5 0 0 0 0 (xo_if .ne (ih 68) (xo_ld 0 3 (xo_ri 1))))))))))))))))))),
  (68, fun ih => xo_inc 3 4 (Int.ofNat 1) (ih 39)),
  (74, fun ih => xo_push (0, 0, Int.negSucc 8) (xo_ri 1))]
noncomputable def xm143 : xM := x_mth 1 xt143 100000
set_option maxRecDepth 100000 in
theorem xM143 : x_Ma 143 xm143 := x_Ma_of (r := ev_r143) rfl (xs_mth (hint := (fun _ => [])) (cal := (x_ca 15 xm15 (x_ca 115 xm115 (x_ca 141 xm141 (x_ca 142 xm142 (fun _ => x_no)))))) (x_Ma_ca xM15 (x_Ma_ca xM115 (x_Ma_ca xM141 (x_Ma_ca xM142 x_Ma_no)))) (x_T_cons 17 rfl (x_T_cons 2 rfl (x_T_cons 4 rfl (x_T_cons 19 rfl (x_T_cons 2 rfl (x_T_cons 2 rfl x_T_nil)))))))
/-- NameHall$Clues.add([III)Z -/
noncomputable def xt144 : List (Nat × xB) := [(0, fun ih => xo_lda 0 (xo_gf 2 2 (xo_push (0, 0, Int.ofNat 6) (xo_ic .ge (ih 19) (xo_ld 0 2 (xo_if .lt (ih 19) (xo_ld 0 2 (xo_lda 1 (xo_len none (xo_ic .lt (ih 21) (ih 19))))))))))),
  (19, fun ih => xo_push (0, 0, Int.ofNat 0) (xo_ri 2)),
  (21, fun ih => xo_lda 1 (xo_ld 0 2 (xo_dup2 (xo_al none 0 (xo_push (0, 0, Int.ofNat 1) (xo_ld 0 3 (xo_bin 0 0 (xg_i x_ishl xg_ti) (xo_bin 0 0 (xg_i (· ||| ·) xg_ti) (xo_as 0 (xo_lda 0 (xo_dup (xo_gf 2 2 (xo_push (0, 0, Int.ofNat 1) (xo_bin 0 0 xg_add (xo_pf 2 2 0 (xo_push (0, 0, Int.ofNat 1) (xo_ri 2)))))))))))))))))]
noncomputable def xm144 : xM := x_mth 0 xt144 100000
set_option maxRecDepth 100000 in
theorem xM144 : x_Ma 144 xm144 := x_Ma_of (r := ev_r144) rfl (xs_mth (hint := (fun _ => [])) (cal := (fun _ => x_no)) x_Ma_no (x_T_cons 10 rfl (x_T_cons 2 rfl (x_T_cons 17 rfl x_T_nil))))
/-- NameHall$Clues.addSeen(II)Z -/
noncomputable def xt145 : List (Nat × xB) := [(0, fun ih => xo_lda 0 (xo_lda 0 (xo_gf 2 0 (xo_ld 0 1 (xo_ld 0 2 (xo_cl xm144 3 3 4 0 0 0 0 (xo_ri 2)))))))]
noncomputable def xm145 : xM := x_mth 0 xt145 100000
set_option maxRecDepth 100000 in
theorem xM145 : x_Ma 145 xm145 := x_Ma_of (r := ev_r145) rfl (xs_mth (hint := (fun _ => [])) (cal := (x_ca 144 xm144 (fun _ => x_no))) (x_Ma_ca xM144 x_Ma_no) (x_T_cons 7 rfl x_T_nil))
/-- NameHall$Clues.size()I -/
noncomputable def xt146 : List (Nat × xB) := [(0, fun ih => xo_lda 0 (xo_gf 2 2 (xo_ri 1)))]
noncomputable def xm146 : xM := x_mth 0 xt146 100000
set_option maxRecDepth 100000 in
theorem xM146 : x_Ma 146 xm146 := x_Ma_of (r := ev_r146) rfl (xs_mth (hint := (fun _ => [])) (cal := (fun _ => x_no)) x_Ma_no (x_T_cons 3 rfl x_T_nil))
/-- NameHall.see(II)I -/
noncomputable def xt147 : List (Nat × xB) := [(0, fun ih => xo_lda 0 (xo_gf 9 1 (xo_ld 0 1 (xo_cl xm49 5 1 2 0 0 0 0 (xo_if .ne (ih 13) (xo_push (0, 0, Int.negSucc 0) (xo_ri 1))))))),
  (13, fun ih => xo_ld 0 2 (xo_cl xm101 0 1 1 0 0 0 0 (xo_if .ne (ih 23) (xo_push (0, 0, Int.negSucc 1) (xo_ri 1))))),
  (23, fun ih => xo_lda 0 (xo_gf 9 6 (xo_ld 0 1 (xo_ld 0 2 (xo_cl xm145 3 2 3 0 0 0 0 (xo_if .eq (ih 45) (xo_lda 0 (xo_gf 9 6 (xo_cl xm146 3 0 1 0 0 0 0 (ih 47)))))))))),
  (45, fun ih => xo_push (0, 0, Int.negSucc 3) (ih 47)),
  (47, fun ih => xo_ri 1)]
noncomputable def xm147 : xM := x_mth 0 xt147 100000
set_option maxRecDepth 100000 in
theorem xM147 : x_Ma 147 xm147 := x_Ma_of (r := ev_r147) rfl (xs_mth (hint := (fun _ => [])) (cal := (x_ca 49 xm49 (x_ca 101 xm101 (x_ca 145 xm145 (x_ca 146 xm146 (fun _ => x_no)))))) (x_Ma_ca xM49 (x_Ma_ca xM101 (x_Ma_ca xM145 (x_Ma_ca xM146 x_Ma_no)))) (x_T_cons 7 rfl (x_T_cons 5 rfl (x_T_cons 10 rfl (x_T_cons 1 rfl (x_T_cons 1 rfl x_T_nil))))))
/-- NameHallModel.tell(II)I -/
noncomputable def xt148 : List (Nat × xB) := [(0, fun ih => xo_lda 0 (xo_gf 10 21 (xo_push (0, 0, Int.ofNat 6) (xo_ic .ne (ih 12) (xo_push (0, 0, Int.negSucc 3) (xo_ri 1)))))),
  (12, fun ih => xo_lda 0 (xo_gf 10 22 (xo_lda 0 (xo_gf 10 21 (xo_ld 0 1 (xo_as 0 (xo_lda 0 (xo_gf 10 23 (xo_lda 0 (xo_gf 10 21 (xo_ld 0 2 (xo_as 0 (xo_lda 0 (xo_dup (xo_gf 10 21 (xo_push (0, 0, Int.ofNat 1) (xo_bin 0 0 xg_add (xo_pf 10 21 0 (xo_lda 0 (xo_gf 10 21 (xo_ri 1)))))))))))))))))))))]
noncomputable def xm148 : xM := x_mth 0 xt148 100000
set_option maxRecDepth 100000 in
theorem xM148 : x_Ma 148 xm148 := x_Ma_of (r := ev_r148) rfl (xs_mth (hint := (fun _ => [])) (cal := (fun _ => x_no)) x_Ma_no (x_T_cons 6 rfl (x_T_cons 21 rfl x_T_nil)))
/-- NameHallModel.see(II)I -/
noncomputable def xt149 : List (Nat × xB) := [(0, fun ih => xo_lda 0 (xo_ld 0 1 (xo_cl xm61 11 1 2 0 0 0 0 (xo_if .ne (ih 10) (xo_push (0, 0, Int.negSucc 0) (xo_ri 1)))))),
  (10, fun ih => xo_ld 0 2 (xo_un 0 xg_i2l (xo_push (1, 0, Int.ofNat 0) (xo_push (1, 0, Int.ofNat 9) (xo_cl xm15 0 3 6 0 0 0 0 (xo_if .eq (ih 31) (xo_lda 0 (xo_ld 0 1 (xo_ld 0 2 (xo_cl xm148 11 2 3 0 0 0 0 (ih 33))))))))))),
  (31, fun ih => xo_push (0, 0, Int.negSucc 1) (ih 33)),
  (33, fun ih => xo_ri 1)]
noncomputable def xm149 : xM := x_mth 0 xt149 100000
set_option maxRecDepth 100000 in
theorem xM149 : x_Ma 149 xm149 := x_Ma_of (r := ev_r149) rfl (xs_mth (hint := (fun _ => [])) (cal := (x_ca 61 xm61 (x_ca 15 xm15 (x_ca 148 xm148 (fun _ => x_no))))) (x_Ma_ca xM61 (x_Ma_ca xM15 (x_Ma_ca xM148 x_Ma_no))) (x_T_cons 6 rfl (x_T_cons 11 rfl (x_T_cons 1 rfl (x_T_cons 1 rfl x_T_nil)))))
/-- NameHall$Clues.addDeed(II)Z -/
noncomputable def xt150 : List (Nat × xB) := [(0, fun ih => xo_lda 0 (xo_lda 0 (xo_gf 2 1 (xo_ld 0 1 (xo_ld 0 2 (xo_cl xm144 3 3 4 0 0 0 0 (xo_ri 2)))))))]
noncomputable def xm150 : xM := x_mth 0 xt150 100000
set_option maxRecDepth 100000 in
theorem xM150 : x_Ma 150 xm150 := x_Ma_of (r := ev_r150) rfl (xs_mth (hint := (fun _ => [])) (cal := (x_ca 144 xm144 (fun _ => x_no))) (x_Ma_ca xM144 x_Ma_no) (x_T_cons 7 rfl x_T_nil))
/-- NameHall.deed(II)I -/
noncomputable def xt151 : List (Nat × xB) := [(0, fun ih => xo_lda 0 (xo_gf 9 1 (xo_ld 0 1 (xo_cl xm40 5 1 2 0 0 0 0 (xo_if .ne (ih 13) (xo_push (0, 0, Int.negSucc 0) (xo_ri 1))))))),
  (13, fun ih => xo_ld 0 2 (xo_cl xm101 0 1 1 0 0 0 0 (xo_if .ne (ih 23) (xo_push (0, 0, Int.negSucc 1) (xo_ri 1))))),
  (23, fun ih => xo_lda 0 (xo_gf 9 6 (xo_ld 0 1 (xo_ld 0 2 (xo_cl xm150 3 2 3 0 0 0 0 (xo_if .eq (ih 45) (xo_lda 0 (xo_gf 9 6 (xo_cl xm146 3 0 1 0 0 0 0 (ih 47)))))))))),
  (45, fun ih => xo_push (0, 0, Int.negSucc 3) (ih 47)),
  (47, fun ih => xo_ri 1)]
noncomputable def xm151 : xM := x_mth 0 xt151 100000
set_option maxRecDepth 100000 in
theorem xM151 : x_Ma 151 xm151 := x_Ma_of (r := ev_r151) rfl (xs_mth (hint := (fun _ => [])) (cal := (x_ca 40 xm40 (x_ca 101 xm101 (x_ca 150 xm150 (x_ca 146 xm146 (fun _ => x_no)))))) (x_Ma_ca xM40 (x_Ma_ca xM101 (x_Ma_ca xM150 (x_Ma_ca xM146 x_Ma_no)))) (x_T_cons 7 rfl (x_T_cons 5 rfl (x_T_cons 10 rfl (x_T_cons 1 rfl (x_T_cons 1 rfl x_T_nil))))))
/-- NameHallModel.deed(II)I -/
noncomputable def xt152 : List (Nat × xB) := [(0, fun ih => xo_lda 0 (xo_ld 0 1 (xo_cl xm46 11 1 2 0 0 0 0 (xo_if .ne (ih 10) (xo_push (0, 0, Int.negSucc 0) (xo_ri 1)))))),
  (10, fun ih => xo_ld 0 2 (xo_un 0 xg_i2l (xo_push (1, 0, Int.ofNat 0) (xo_push (1, 0, Int.ofNat 9) (xo_cl xm15 0 3 6 0 0 0 0 (xo_if .eq (ih 33) (xo_lda 0 (xo_push (0, 0, Int.ofNat 5) (xo_ld 0 1 (xo_bin 0 0 xg_add (xo_ld 0 2 (xo_cl xm148 11 2 3 0 0 0 0 (ih 35))))))))))))),
  (33, fun ih => xo_push (0, 0, Int.negSucc 1) (ih 35)),
  (35, fun ih => xo_ri 1)]
noncomputable def xm152 : xM := x_mth 0 xt152 100000
set_option maxRecDepth 100000 in
theorem xM152 : x_Ma 152 xm152 := x_Ma_of (r := ev_r152) rfl (xs_mth (hint := (fun _ => [])) (cal := (x_ca 46 xm46 (x_ca 15 xm15 (x_ca 148 xm148 (fun _ => x_no))))) (x_Ma_ca xM46 (x_Ma_ca xM15 (x_Ma_ca xM148 x_Ma_no))) (x_T_cons 6 rfl (x_T_cons 13 rfl (x_T_cons 1 rfl (x_T_cons 1 rfl x_T_nil)))))
/-- NameHall$Clues.clear()I -/
noncomputable def xt153 : List (Nat × xB) := [(0, fun ih => xo_lda 0 (xo_gf 2 2 (xo_st 0 1 2 (xo_lda 0 (xo_gf 2 0 (xo_push (0, 0, Int.ofNat 0) (xo_cl xm2 0 2 4 0 0 0 0 (xo_lda 0 (xo_gf 2 1 (xo_push (0, 0, Int.ofNat 0) (xo_cl xm2 0 2 4 0 0 0 0 (xo_lda 0 (xo_push (0, 0, Int.ofNat 0) (xo_pf 2 2 0 (xo_ld 0 1 (xo_ri 1))))))))))))))))]
noncomputable def xm153 : xM := x_mth 1 xt153 100000
set_option maxRecDepth 100000 in
theorem xM153 : x_Ma 153 xm153 := x_Ma_of (r := ev_r153) rfl (xs_mth (hint := (fun _ => [])) (cal := (x_ca 2 xm2 (fun _ => x_no))) (x_Ma_ca xM2 x_Ma_no) (x_T_cons 16 rfl x_T_nil))
/-- NameHall.forget()I -/
noncomputable def xt154 : List (Nat × xB) := [(0, fun ih => xo_lda 0 (xo_gf 9 6 (xo_cl xm153 3 0 2 0 0 0 0 (xo_ri 1))))]
noncomputable def xm154 : xM := x_mth 0 xt154 100000
set_option maxRecDepth 100000 in
theorem xM154 : x_Ma 154 xm154 := x_Ma_of (r := ev_r154) rfl (xs_mth (hint := (fun _ => [])) (cal := (x_ca 153 xm153 (fun _ => x_no))) (x_Ma_ca xM153 x_Ma_no) (x_T_cons 4 rfl x_T_nil))
/-- NameHallModel.forget()I -/
noncomputable def xt155 : List (Nat × xB) := [(0, fun ih => xo_lda 0 (xo_gf 10 21 (xo_st 0 1 2 (xo_lda 0 (xo_push (0, 0, Int.ofNat 0) (xo_pf 10 21 0 (xo_ld 0 1 (xo_ri 1))))))))]
noncomputable def xm155 : xM := x_mth 1 xt155 100000
set_option maxRecDepth 100000 in
theorem xM155 : x_Ma 155 xm155 := x_Ma_of (r := ev_r155) rfl (xs_mth (hint := (fun _ => [])) (cal := (fun _ => x_no)) x_Ma_no (x_T_cons 8 rfl x_T_nil))
/-- NameHall$Clues.couldDoAll(LNameHall$Plan;II)Z -/
noncomputable def xt156 : List (Nat × xB) := [(0, fun ih => xo_ld 0 3 (xo_if .lt (ih 18) (xo_ld 0 3 (xo_push (0, 0, Int.ofNat 4) (xo_ic .ge (ih 18) (xo_ld 0 2 (xo_if .lt (ih 18) (xo_ld 0 2 (xo_push (0, 0, Int.ofNat 5) (xo_ic .lt (ih 20) (ih 18))))))))))),
  (18, fun ih => xo_push (0, 0, Int.ofNat 0) (xo_ri 2)),
  (20, fun ih => xo_push (0, 0, Int.ofNat 0) (xo_st 0 4 7 (ih 23))),
  (23, fun ih => xo_ld 0 4 (xo_push (0, 0, Int.ofNat 10) (xo_ic .ge (ih 102) (xo_lda 0 (xo_gf 2 1 (xo_ld 0 3 (xo_al none 0 (xo_ld 0 4 (xo_bin 0 0 (xg_i x_ishr xg_ti) (xo_push (0, 0, Int.ofNat 1) (xo_bin 0 0 (xg_i (· &&& ·) xg_and) (xo_push (0, 0, Int.ofNat 1) (xo_ic .ne (ih 49) (xo_push (0, 0, Int.ofNat 1) (ih 50))))))))))))))),
  (49, fun ih => xo_push (0, 0, Int.ofNat 0) (ih 50)),
  (50, fun ih => xo_st 0 5 7 (xo_lda 0 (xo_gf 2 0 (xo_ld 0 2 (xo_al none 0 (xo_ld 0 4 (xo_bin 0 0 (xg_i x_ishr xg_ti) (xo_push (0, 0, Int.ofNat 1) (xo_bin 0 0 (xg_i (· &&& ·) xg_and) (xo_push (0, 0, Int.ofNat 1) (xo_ic .ne (ih 71) (xo_push (0, 0, Int.ofNat 1) (ih 72))))))))))))),
  (71, fun ih => xo_push (0, 0, Int.ofNat 0) (ih 72)),
  (72, fun ih => xo_st 0 6 7 (xo_ld 0 5 (xo_if .eq (ih 96) (xo_ld 0 6 (xo_if .ne (ih 94) (xo_lda 1 (xo_ld 0 2 (xo_ld 0 4 (xo_cl xm84 5 2 3 0 0 0 0 (xo_if .ne (ih 96) (ih 94))))))))))),
  (94, fun ih => xo_push (0, 0, Int.ofNat 0) (xo_ri 2)),
  (96, fun ih => xo_inc 4 7 (Int.ofNat 1) (ih 23)),
  (102, fun ih => xo_push (0, 0, Int.ofNat 1) (xo_ri 2))]
noncomputable def xm156 : xM := x_mth 3 xt156 100000
set_option maxRecDepth 100000 in
theorem xM156 : x_Ma 156 xm156 := x_Ma_of (r := ev_r156) rfl (xs_mth (hint := (fun _ => [])) (cal := (x_ca 84 xm84 (fun _ => x_no))) (x_Ma_ca xM84 x_Ma_no) (x_T_cons 10 rfl (x_T_cons 2 rfl (x_T_cons 2 rfl (x_T_cons 15 rfl (x_T_cons 1 rfl (x_T_cons 13 rfl (x_T_cons 1 rfl (x_T_cons 10 rfl (x_T_cons 2 rfl (x_T_cons 2 rfl (x_T_cons 2 rfl x_T_nil))))))))))))
/-- NameHall$Clues.suspects(LNameHall$Scene;LNameHall$Plan;I)I -/
noncomputable def xt157 : List (Nat × xB) := [(0, fun ih => xo_push (0, 0, Int.ofNat 0) (xo_st 0 4 6 (xo_push (0, 0, Int.ofNat 0) (xo_st 0 5 6 (ih 6))))),
  (6, fun ih => xo_ld 0 5 (xo_push (0, 0, Int.ofNat 5) (xo_ic .ge (ih 48) (xo_lda 1 (xo_ld 0 5 (xo_ld 0 3 (xo_cl xm64 7 2 3 0 0 0 0 (xo_if .eq (ih 42) (xo_lda 0 (xo_lda 2 (xo_ld 0 5 (xo_ld 0 3 (xo_cl xm156 3 3 7 0 0 0 0 (xo_if .eq (ih 42) (xo_ld 0 4 (xo_push (0, 0, Int.ofNat 1) (xo_ld 0 5 (xo_bin 0 0 (xg_i x_ishl xg_ti) (xo_bin 0 0 (xg_i (· ||| ·) xg_ti) (xo_st 0 4 6 (ih 42))))))))))))))))))))),
  (42, fun ih => xo_inc 5 6 (Int.ofNat 1) (ih 6)),
  (48, fun ih => xo_ld 0 4 (xo_ri 1))]
noncomputable def xm157 : xM := x_mth 2 xt157 100000
set_option maxRecDepth 100000 in
theorem xM157 : x_Ma 157 xm157 := x_Ma_of (r := ev_r157) rfl (xs_mth (hint := (fun _ => [])) (cal := (x_ca 64 xm64 (x_ca 156 xm156 (fun _ => x_no)))) (x_Ma_ca xM64 (x_Ma_ca xM156 x_Ma_no)) (x_T_cons 4 rfl (x_T_cons 20 rfl (x_T_cons 2 rfl (x_T_cons 2 rfl x_T_nil)))))
/-- NameHall.who(I)I -/
noncomputable def xt158 : List (Nat × xB) := [(0, fun ih => xo_lda 0 (xo_gf 9 1 (xo_ld 0 1 (xo_cl xm40 5 1 2 0 0 0 0 (xo_if .eq (ih 30) (xo_lda 0 (xo_gf 9 6 (xo_lda 0 (xo_gf 9 2 (xo_lda 0 (xo_gf 9 1 (xo_ld 0 1 (xo_cl xm157 3 3 6 0 0 0 0 (ih 31)))))))))))))),
  (30, fun ih => xo_push (0, 0, Int.negSucc 0) (ih 31)),
  (31, fun ih => xo_ri 1)]
noncomputable def xm158 : xM := x_mth 0 xt158 100000
set_option maxRecDepth 100000 in
theorem xM158 : x_Ma 158 xm158 := x_Ma_of (r := ev_r158) rfl (xs_mth (hint := (fun _ => [])) (cal := (x_ca 40 xm40 (x_ca 157 xm157 (fun _ => x_no)))) (x_Ma_ca xM40 (x_Ma_ca xM157 x_Ma_no)) (x_T_cons 14 rfl (x_T_cons 1 rfl (x_T_cons 1 rfl x_T_nil))))
/-- NameHallModel.wasSeen(II)Z -/
noncomputable def xt159 : List (Nat × xB) := [(0, fun ih => xo_push (0, 0, Int.ofNat 0) (xo_st 0 3 5 (xo_push (0, 0, Int.ofNat 0) (xo_st 0 4 5 (ih 5))))),
  (5, fun ih => xo_ld 0 4 (xo_lda 0 (xo_gf 10 21 (xo_ic .ge (ih 52) (xo_ld 0 3 (xo_if .ne (ih 40) (xo_lda 0 (xo_gf 10 22 (xo_ld 0 4 (xo_al none 0 (xo_ld 0 1 (xo_ic .ne (ih 44) (xo_lda 0 (xo_gf 10 23 (xo_ld 0 4 (xo_al none 0 (xo_ld 0 2 (xo_ic .ne (ih 44) (ih 40))))))))))))))))))),
  (40, fun ih => xo_push (0, 0, Int.ofNat 1) (ih 45)),
  (44, fun ih => xo_push (0, 0, Int.ofNat 0) (ih 45)),
  (45, fun ih => xo_st 0 3 5 (xo_inc 4 5 (Int.ofNat 1) (ih 5))),
  (52, fun ih => xo_ld 0 3 (xo_ri 2))]
noncomputable def xm159 : xM := x_mth 2 xt159 100000
set_option maxRecDepth 100000 in
theorem xM159 : x_Ma 159 xm159 := x_Ma_of (r := ev_r159) rfl (xs_mth (hint := (fun _ => [])) (cal := (fun _ => x_no)) x_Ma_no (x_T_cons 4 rfl (x_T_cons 18 rfl (x_T_cons 2 rfl (x_T_cons 1 rfl (x_T_cons 3 rfl (x_T_cons 2 rfl x_T_nil)))))))
/-- NameHallModel.who(I)I -/
noncomputable def xt160 : List (Nat × xB) := [(0, fun ih => xo_lda 0 (xo_ld 0 1 (xo_cl xm46 11 1 2 0 0 0 0 (xo_if .ne (ih 10) (xo_push (0, 0, Int.negSucc 0) (xo_ri 1)))))),
  (10, fun ih => xo_push (0, 0, Int.ofNat 0) (xo_st 0 2 6 (xo_push (0, 0, Int.ofNat 0) (xo_st 0 3 6 (ih 14))))),
  (14, fun ih => xo_ld 0 3 (xo_lda 0 (xo_gf 10 1 (xo_ic .ge (ih 146) (xo_lda 0 (xo_push (0, 0, Int.ofNat 0) (xo_ld 0 3 (xo_cl xm74 11 2 3 0 0 0 0 (xo_if .ne (ih 48) (xo_lda 0 (xo_gf 10 6 (xo_ld 0 3 (xo_al none 0 (xo_ld 0 1 (xo_cl xm73 0 2 2 0 0 0 0 (xo_if .eq (ih 48) (xo_push (0, 0, Int.ofNat 1) (ih 49)))))))))))))))))),
  (48, fun ih => xo_push (0, 0, Int.ofNat 0) (ih 49)),
  (49, fun ih => xo_st 0 4 6 (xo_push (0, 0, Int.ofNat 0) (xo_st 0 5 6 (ih 54)))),
  (54, fun ih => xo_ld 0 5 (xo_lda 0 (xo_gf 10 21 (xo_ic .ge (ih 125) (xo_ld 0 4 (xo_if .eq (ih 116) (xo_lda 0 (xo_gf 10 22 (xo_ld 0 5 (xo_al none 0 (xo_push (0, 0, Int.ofNat 5) (xo_ld 0 1 (xo_bin 0 0 xg_add (xo_ic .ne (ih 112) (xo_lda 0 (xo_push (0, 0, Int.ofNat 0) (xo_ld 0 3 (xo_lda 0 (xo_gf 10 23 (xo_ld 0 5 (xo_al none 0 (xo_cl xm90 11 3 4 0 0 0 0 (xo_if .eq (ih 116) (xo_lda 0 (xo_ld 0 3 (xo_lda 0 (xo_gf 10 23 (xo_ld 0 5 (xo_al none 0 (xo_cl xm159 11 2 5 0 0 0 0 (xo_if .ne (ih 116) (ih 112)))))))))))))))))))))))))))))))),
  (112, fun ih => xo_push (0, 0, Int.ofNat 1) (ih 117)),
  (116, fun ih => xo_push (0, 0, Int.ofNat 0) (ih 117)),
  (117, fun ih => xo_st 0 4 6 (xo_inc 5 6 (Int.ofNat 1) (ih 54))),
  (125, fun ih => xo_ld 0 2 (xo_ld 0 4 (xo_if .eq (ih 137) (xo_push (0, 0, Int.ofNat 1) (xo_ld 0 3 (xo_bin 0 0 (xg_i x_ishl xg_ti) (ih 138))))))),
  (137, fun ih => xo_push (0, 0, Int.ofNat 0) (ih 138)),
  (138, fun ih => xo_bin 0 0 (xg_i (· ||| ·) xg_ti) (xo_st 0 2 6 (xo_inc 3 6 (Int.ofNat 1) (ih 14)))),
  (146, fun ih => xo_ld 0 2 (xo_ri 1))]
noncomputable def xm160 : xM := x_mth 4 xt160 100000
set_option maxRecDepth 100000 in
theorem xM160 : x_Ma 160 xm160 := x_Ma_of (r := ev_r160) rfl (xs_mth (hint := (fun _ => [])) (cal := (x_ca 46 xm46 (x_ca 74 xm74 (x_ca 73 xm73 (x_ca 90 xm90 (x_ca 159 xm159 (fun _ => x_no))))))) (x_Ma_ca xM46 (x_Ma_ca xM74 (x_Ma_ca xM73 (x_Ma_ca xM90 (x_Ma_ca xM159 x_Ma_no))))) (x_T_cons 6 rfl (x_T_cons 4 rfl (x_T_cons 18 rfl (x_T_cons 1 rfl (x_T_cons 3 rfl (x_T_cons 31 rfl (x_T_cons 2 rfl (x_T_cons 1 rfl (x_T_cons 3 rfl (x_T_cons 7 rfl (x_T_cons 1 rfl (x_T_cons 4 rfl (x_T_cons 2 rfl x_T_nil))))))))))))))
/-- NameHall.gain(III)I -/
noncomputable def xt161 : List (Nat × xB) := [(0, fun ih => xo_lda 0 (xo_gf 9 7 (xo_lda 0 (xo_gf 9 2 (xo_ld 0 3 (xo_ld 0 2 (xo_cl xm104 4 3 6 0 0 0 0 (xo_lda 0 (xo_gf 9 7 (xo_cl xm110 4 0 1 0 0 0 0 (xo_st 0 4 5 (xo_lda 0 (xo_gf 9 7 (xo_lda 0 (xo_gf 9 2 (xo_ld 0 3 (xo_ld 0 2 (xo_push (0, 0, Int.ofNat 1) (xo_ld 0 1 (xo_bin 0 0 (xg_i x_ishl xg_ti) (xo_bin 0 0 (xg_i (· ||| ·) xg_ti) (xo_cl xm104 4 3 6 0 0 0 0 (xo_lda 0 (xo_gf 9 7 (xo_cl xm110 4 0 1 0 0 0 0 (xo_ld 0 4 (xo_bin 0 0 xg_sub (xo_ri 1))))))))))))))))))))))))))))]
noncomputable def xm161 : xM := x_mth 1 xt161 100000
set_option maxRecDepth 100000 in
theorem xM161 : x_Ma 161 xm161 := x_Ma_of (r := ev_r161) rfl (xs_mth (hint := (fun _ => [])) (cal := (x_ca 104 xm104 (x_ca 110 xm110 (fun _ => x_no)))) (x_Ma_ca xM104 (x_Ma_ca xM110 x_Ma_no)) (x_T_cons 28 rfl x_T_nil))
/-- NameHall.factorial(I)I -/
noncomputable def xt162 : List (Nat × xB) := [(0, fun ih => xo_push (0, 0, Int.ofNat 1) (xo_st 0 1 3 (xo_push (0, 0, Int.ofNat 2) (xo_st 0 2 3 (ih 4))))),
  (4, fun ih => xo_ld 0 2 (xo_ld 0 0 (xo_ic .gt (ih 24) (xo_ld 0 2 (xo_push (0, 0, Int.ofNat 4) (xo_ic .gt (ih 24) (xo_ld 0 1 (xo_ld 0 2 (xo_bin 0 0 (xg_i (· * ·) xg_mul) (xo_st 0 1 3 (xo_inc 2 3 (Int.ofNat 1) (ih 4)))))))))))),
  (24, fun ih => xo_ld 0 1 (xo_ri 1))]
noncomputable def xm162 : xM := x_mth 2 xt162 100000
set_option maxRecDepth 100000 in
theorem xM162 : x_Ma 162 xm162 := x_Ma_of (r := ev_r162) rfl (xs_mth (hint := (fun _ => [])) (cal := (fun _ => x_no)) x_Ma_no (x_T_cons 4 rfl (x_T_cons 12 rfl (x_T_cons 2 rfl x_T_nil))))
/-- NameHall.ordersWith(I)I -/
noncomputable def xt163 : List (Nat × xB) := [(0, fun ih => xo_ld 0 1 (xo_cl xm162 0 1 3 0 0 0 0 (xo_lda 0 (xo_gf 9 1 (xo_cl xm36 5 0 1 0 0 0 0 (xo_push (0, 0, Int.ofNat 1) (xo_bin 0 0 xg_sub (xo_ld 0 1 (xo_bin 0 0 xg_sub (xo_cl xm162 0 1 3 0 0 0 0 (xo_bin 0 0 (xg_i (· * ·) xg_mul) (xo_ri 1))))))))))))]
noncomputable def xm163 : xM := x_mth 0 xt163 100000
set_option maxRecDepth 100000 in
theorem xM163 : x_Ma 163 xm163 := x_Ma_of (r := ev_r163) rfl (xs_mth (hint := (fun _ => [])) (cal := (x_ca 162 xm162 (x_ca 36 xm36 (fun _ => x_no)))) (x_Ma_ca xM162 (x_Ma_ca xM36 x_Ma_no)) (x_T_cons 12 rfl x_T_nil))
/-- NameHall.commonDivisor(II)I -/
noncomputable def xt164 : List (Nat × xB) := [(0, fun ih => xo_ld 0 0 (xo_st 0 2 6 (xo_ld 0 1 (xo_st 0 3 6 (xo_push (0, 0, Int.ofNat 0) (xo_st 0 4 6 (ih 7))))))),
  (7, fun ih => xo_ld 0 4 (xo_push (0, 0, Int.ofNat 50) (xo_ic .ge (ih 34) (xo_ld 0 3 (xo_if .eq (ih 34) (xo_ld 0 2 (xo_ld 0 3 (xo_bin 0 0 xg_rem (xo_st 0 5 6 (xo_ld 0 3 (xo_st 0 2 6 (xo_ld 0 5 (xo_st 0 3 6 (xo_inc 4 6 (Int.ofNat 1) (ih 7))))))))))))))),
  (34, fun ih => xo_ld 0 2 (xo_ri 1))]
noncomputable def xm164 : xM := x_mth 4 xt164 100000
set_option maxRecDepth 100000 in
theorem xM164 : x_Ma 164 xm164 := x_Ma_of (r := ev_r164) rfl (xs_mth (hint := (fun _ => [])) (cal := (fun _ => x_no)) x_Ma_no (x_T_cons 6 rfl (x_T_cons 15 rfl (x_T_cons 2 rfl x_T_nil))))
/-- NameHall.partOfFraction(IIZ)I -/
noncomputable def xt165 : List (Nat × xB) := [(0, fun ih => xo_ld 0 0 (xo_ld 0 1 (xo_cl xm164 0 2 6 0 0 0 0 (xo_st 0 3 5 (xo_ld 0 2 (xo_if .eq (ih 14) (xo_ld 0 0 (ih 15)))))))),
  (14, fun ih => xo_ld 0 1 (ih 15)),
  (15, fun ih => xo_st 0 4 5 (xo_ld 0 3 (xo_push (0, 0, Int.ofNat 1) (xo_ic .le (ih 29) (xo_ld 0 4 (xo_ld 0 3 (xo_bin 0 0 xg_div (ih 31)))))))),
  (29, fun ih => xo_ld 0 4 (ih 31)),
  (31, fun ih => xo_ri 1)]
noncomputable def xm165 : xM := x_mth 2 xt165 100000
set_option maxRecDepth 100000 in
theorem xM165 : x_Ma 165 xm165 := x_Ma_of (r := ev_r165) rfl (xs_mth (hint := (fun _ => [])) (cal := (x_ca 164 xm164 (fun _ => x_no))) (x_Ma_ca xM164 x_Ma_no) (x_T_cons 8 rfl (x_T_cons 1 rfl (x_T_cons 8 rfl (x_T_cons 1 rfl (x_T_cons 1 rfl x_T_nil))))))
/-- NameHall.share(IIZ)I -/
noncomputable def xt166 : List (Nat × xB) := [(0, fun ih => xo_lda 0 (xo_gf 9 1 (xo_ld 0 1 (xo_cl xm40 5 1 2 0 0 0 0 (xo_if .ne (ih 13) (xo_push (0, 0, Int.negSucc 0) (xo_ri 1))))))),
  (13, fun ih => xo_ld 0 2 (xo_cl xm101 0 1 1 0 0 0 0 (xo_if .ne (ih 23) (xo_push (0, 0, Int.negSucc 1) (xo_ri 1))))),
  (23, fun ih => xo_push (0, 0, Int.ofNat 1) (xo_lda 0 (xo_gf 9 1 (xo_cl xm36 5 0 1 0 0 0 0 (xo_bin 0 0 (xg_i x_ishl xg_ti) (xo_push (0, 0, Int.ofNat 1) (xo_bin 0 0 xg_sub (xo_push (0, 0, Int.ofNat 1) (xo_ld 0 1 (xo_bin 0 0 (xg_i x_ishl xg_ti) (xo_push (0, 0, Int.negSucc 0) (xo_bin 0 0 (xg_i (· ^^^ ·) xg_ti) (xo_bin 0 0 (xg_i (· &&& ·) xg_and) (xo_st 0 4 7 (xo_push (0, 0, Int.ofNat 0) (xo_st 0 5 7 (xo_push (0, 0, Int.ofNat 0) (xo_st 0 6 7 (ih 48))))))))))))))))))),
  (48, fun ih => xo_ld 0 6 (xo_push (0, 0, Int.ofNat 16) (xo_ic .ge (ih 94) (xo_ld 0 6 (xo_ld 0 4 (xo_push (0, 0, Int.negSucc 0) (xo_bin 0 0 (xg_i (· ^^^ ·) xg_ti) (xo_bin 0 0 (xg_i (· &&& ·) xg_and) (xo_if .ne (ih 88) (xo_ld 0 5 (xo_lda 0 (xo_ld 0 1 (xo_ld 0 6 (xo_ld 0 2 (xo_cl xm161 10 3 5 0 0 0 0 (xo_lda 0 (xo_ld 0 6 (xo_cl xm65 0 1 1 0 0 0 0 (xo_cl xm163 10 1 2 0 0 0 0 (xo_bin 0 0 (xg_i (· * ·) xg_mul) (xo_bin 0 0 xg_add (xo_st 0 5 7 (ih 88))))))))))))))))))))))),
  (88, fun ih => xo_inc 6 7 (Int.ofNat 1) (ih 48)),
  (94, fun ih => xo_ld 0 5 (xo_lda 0 (xo_gf 9 1 (xo_cl xm36 5 0 1 0 0 0 0 (xo_cl xm162 0 1 3 0 0 0 0 (xo_ld 0 3 (xo_cl xm165 0 3 5 0 0 0 0 (xo_ri 1))))))))]
noncomputable def xm166 : xM := x_mth 3 xt166 100000
set_option maxRecDepth 100000 in
theorem xM166 : x_Ma 166 xm166 := x_Ma_of (r := ev_r166) rfl (xs_mth (hint := (fun _ => [])) (cal := (x_ca 40 xm40 (x_ca 101 xm101 (x_ca 36 xm36 (x_ca 161 xm161 (x_ca 65 xm65 (x_ca 163 xm163 (x_ca 162 xm162 (x_ca 165 xm165 (fun _ => x_no)))))))))) (x_Ma_ca xM40 (x_Ma_ca xM101 (x_Ma_ca xM36 (x_Ma_ca xM161 (x_Ma_ca xM65 (x_Ma_ca xM163 (x_Ma_ca xM162 (x_Ma_ca xM165 x_Ma_no)))))))) (x_T_cons 7 rfl (x_T_cons 5 rfl (x_T_cons 18 rfl (x_T_cons 22 rfl (x_T_cons 2 rfl (x_T_cons 8 rfl x_T_nil)))))))
/-- NameHallModel.factorial(I)I -/
noncomputable def xt167 : List (Nat × xB) := [(0, fun ih => xo_push (0, 0, Int.ofNat 1) (xo_st 0 1 3 (xo_push (0, 0, Int.ofNat 2) (xo_st 0 2 3 (ih 4))))),
  (4, fun ih => xo_ld 0 2 (xo_ld 0 0 (xo_ic .gt (ih 19) (xo_ld 0 1 (xo_ld 0 2 (xo_bin 0 0 (xg_i (· * ·) xg_mul) (xo_st 0 1 3 (xo_inc 2 3 (Int.ofNat 1) (ih 4))))))))),
  (19, fun ih => xo_ld 0 1 (xo_ri 1))]
noncomputable def xm167 : xM := x_mth 2 xt167 100000
set_option maxRecDepth 100000 in
theorem xM167 : x_Ma 167 xm167 := x_Ma_of (r := ev_r167) rfl (xs_mth (hint := (fun _ => [])) (cal := (fun _ => x_no)) x_Ma_no (x_T_cons 4 rfl (x_T_cons 9 rfl (x_T_cons 2 rfl x_T_nil))))
/-- NameHallModel.common(II)I -/
noncomputable def xt168 : List (Nat × xB) := [(0, fun ih => xo_ld 0 0 (xo_if .ge (ih 9) (xo_ld 0 0 (xo_un 0 xg_neg (ih 10))))),
  (9, fun ih => xo_ld 0 0 (ih 10)),
  (10, fun ih => xo_st 0 2 5 (xo_ld 0 1 (xo_st 0 3 5 (ih 13)))),
  (13, fun ih => xo_ld 0 3 (xo_if .eq (ih 30) (xo_ld 0 2 (xo_ld 0 3 (xo_bin 0 0 xg_rem (xo_st 0 4 5 (xo_ld 0 3 (xo_st 0 2 5 (xo_ld 0 4 (xo_st 0 3 5 (ih 13))))))))))),
  (30, fun ih => xo_ld 0 2 (xo_ri 1))]
noncomputable def xm168 : xM := x_mth 3 xt168 100000
set_option maxRecDepth 100000 in
theorem xM168 : x_Ma 168 xm168 := x_Ma_of (r := ev_r168) rfl (xs_mth (hint := (fun _ => [])) (cal := (fun _ => x_no)) x_Ma_no (x_T_cons 5 rfl (x_T_cons 1 rfl (x_T_cons 3 rfl (x_T_cons 11 rfl (x_T_cons 2 rfl x_T_nil))))))
/-- NameHallModel.share(IIZ)I -/
noncomputable def xt169 : List (Nat × xB) := [(0, fun ih => xo_lda 0 (xo_ld 0 1 (xo_cl xm46 11 1 2 0 0 0 0 (xo_if .ne (ih 10) (xo_push (0, 0, Int.negSucc 0) (xo_ri 1)))))),
  (10, fun ih => xo_ld 0 2 (xo_un 0 xg_i2l (xo_push (1, 0, Int.ofNat 0) (xo_push (1, 0, Int.ofNat 9) (xo_cl xm15 0 3 6 0 0 0 0 (xo_if .ne (ih 25) (xo_push (0, 0, Int.negSucc 1) (xo_ri 1)))))))),
  (25, fun ih => xo_push (0, 0, Int.ofNat 0) (xo_st 0 4 7 (ih 28))),
  (28, fun ih => xo_ld 0 4 (xo_push (0, 0, Int.ofNat 1) (xo_lda 0 (xo_gf 10 0 (xo_bin 0 0 (xg_i x_ishl xg_ti) (xo_ic .ge (ih 64) (xo_lda 0 (xo_gf 10 24 (xo_ld 0 4 (xo_lda 0 (xo_ld 0 2 (xo_ld 0 4 (xo_lda 0 (xo_cl xm114 11 0 1 0 0 0 0 (xo_bin 0 0 (xg_i (· &&& ·) xg_and) (xo_cl xm118 11 2 7 0 0 0 0 (xo_as 0 (xo_inc 4 7 (Int.ofNat 1) (ih 28))))))))))))))))))),
  (64, fun ih => xo_push (0, 0, Int.ofNat 0) (xo_st 0 4 7 (xo_push (0, 0, Int.ofNat 0) (xo_st 0 5 7 (ih 70))))),
  (70, fun ih => xo_ld 0 5 (xo_push (0, 0, Int.ofNat 1) (xo_lda 0 (xo_gf 10 0 (xo_bin 0 0 (xg_i x_ishl xg_ti) (xo_ic .ge (ih 149) (xo_ld 0 5 (xo_ld 0 1 (xo_cl xm73 0 2 2 0 0 0 0 (xo_if .ne (ih 143) (xo_ld 0 5 (xo_cl xm75 0 1 3 0 0 0 0 (xo_cl xm167 0 1 3 0 0 0 0 (xo_lda 0 (xo_gf 10 0 (xo_push (0, 0, Int.ofNat 1) (xo_bin 0 0 xg_sub (xo_ld 0 5 (xo_cl xm75 0 1 3 0 0 0 0 (xo_bin 0 0 xg_sub (xo_cl xm167 0 1 3 0 0 0 0 (xo_bin 0 0 (xg_i (· * ·) xg_mul) (xo_st 0 6 7 (xo_ld 0 4 (xo_ld 0 6 (xo_lda 0 (xo_gf 10 24 (xo_ld 0 5 (xo_push (0, 0, Int.ofNat 1) (xo_ld 0 1 (xo_bin 0 0 (xg_i x_ishl xg_ti) (xo_bin 0 0 (xg_i (· ||| ·) xg_ti) (xo_al none 0 (xo_lda 0 (xo_gf 10 24 (xo_ld 0 5 (xo_al none 0 (xo_bin 0 0 xg_sub (xo_bin 0 0 (xg_i (· * ·) xg_mul) (xo_bin 0 0 xg_add (xo_st 0 4 7 (ih 143)))))))))))))))))))))))))))))))))))))))))),
  (143, fun ih => xo_inc 5 7 (Int.ofNat 1) (ih 70)),
  (149, fun ih => xo_ld 0 4 (xo_lda 0 (xo_gf 10 0 (xo_cl xm167 0 1 3 0 0 0 0 (xo_cl xm168 0 2 5 0 0 0 0 (xo_st 0 5 7 (xo_ld 0 3 (xo_if .eq (ih 175) (xo_ld 0 4 (xo_ld 0 5 (xo_bin 0 0 xg_div (ih 185)))))))))))),
  (175, fun ih => xo_lda 0 (xo_gf 10 0 (xo_cl xm167 0 1 3 0 0 0 0 (xo_ld 0 5 (xo_bin 0 0 xg_div (ih 185)))))),
  (185, fun ih => xo_ri 1)]
noncomputable def xm169 : xM := x_mth 3 xt169 100000
set_option maxRecDepth 100000 in
theorem xM169 : x_Ma 169 xm169 := x_Ma_of (r := ev_r169) rfl (xs_mth (hint := (fun _ => [])) (cal := (x_ca 46 xm46 (x_ca 15 xm15 (x_ca 114 xm114 (x_ca 118 xm118 (x_ca 73 xm73 (x_ca 75 xm75 (x_ca 167 xm167 (x_ca 168 xm168 (fun _ => x_no)))))))))) (x_Ma_ca xM46 (x_Ma_ca xM15 (x_Ma_ca xM114 (x_Ma_ca xM118 (x_Ma_ca xM73 (x_Ma_ca xM75 (x_Ma_ca xM167 (x_Ma_ca xM168 x_Ma_no)))))))) (x_T_cons 6 rfl (x_T_cons 8 rfl (x_T_cons 2 rfl (x_T_cons 19 rfl (x_T_cons 4 rfl (x_T_cons 41 rfl (x_T_cons 2 rfl (x_T_cons 12 rfl (x_T_cons 5 rfl (x_T_cons 1 rfl x_T_nil)))))))))))
/-- NameHall$Bidding.prepare(IZZ)V -/
noncomputable def xt170 : List (Nat × xB) := [(0, fun ih => xo_lda 0 (xo_ld 0 1 (xo_pf 1 0 0 (xo_lda 0 (xo_ld 0 2 (xo_pf 1 1 2 (xo_lda 0 (xo_ld 0 3 (xo_pf 1 2 2 (xo_rv 0))))))))))]
noncomputable def xm170 : xM := x_mth 0 xt170 100000
set_option maxRecDepth 100000 in
theorem xM170 : x_Ma 170 xm170 := x_Ma_of (r := ev_r170) rfl (xs_mth (hint := (fun _ => [])) (cal := (fun _ => x_no)) x_Ma_no (x_T_cons 10 rfl x_T_nil))
/-- NameHall$Bidding.gainBy(IZ)I -/
noncomputable def xt171 : List (Nat × xB) := [(0, fun ih => xo_ld 0 2 (xo_if .eq (ih 11) (xo_lda 0 (xo_gf 1 0 (xo_ld 0 1 (xo_bin 0 0 xg_sub (xo_ri 1))))))),
  (11, fun ih => xo_ld 0 1 (xo_if .le (ih 19) (xo_push (0, 0, Int.negSucc 0) (ih 20)))),
  (19, fun ih => xo_push (0, 0, Int.ofNat 0) (ih 20)),
  (20, fun ih => xo_ri 1)]
noncomputable def xm171 : xM := x_mth 0 xt171 100000
set_option maxRecDepth 100000 in
theorem xM171 : x_Ma 171 xm171 := x_Ma_of (r := ev_r171) rfl (xs_mth (hint := (fun _ => [])) (cal := (fun _ => x_no)) x_Ma_no (x_T_cons 7 rfl (x_T_cons 4 rfl (x_T_cons 1 rfl (x_T_cons 1 rfl x_T_nil)))))
/-- NameHall$Bidding.gainOfOne(II)I -/
noncomputable def xt172 : List (Nat × xB) := [(0, fun ih => xo_lda 0 (xo_ld 0 1 (xo_lda 0 (xo_gf 1 1 (xo_if .eq (ih 25) (xo_ld 0 1 (xo_ld 0 2 (xo_ic .ge (ih 21) (xo_lda 0 (xo_gf 1 2 (xo_if .ne (ih 25) (ih 21)))))))))))),
  (21, fun ih => xo_push (0, 0, Int.ofNat 1) (ih 26)),
  (25, fun ih => xo_push (0, 0, Int.ofNat 0) (ih 26)),
  (26, fun ih => xo_cl xm171 2 2 3 0 0 0 0 (xo_ri 1))]
noncomputable def xm172 : xM := x_mth 0 xt172 100000
set_option maxRecDepth 100000 in
theorem xM172 : x_Ma 172 xm172 := x_Ma_of (r := ev_r172) rfl (xs_mth (hint := (fun _ => [])) (cal := (x_ca 171 xm171 (fun _ => x_no))) (x_Ma_ca xM171 x_Ma_no) (x_T_cons 11 rfl (x_T_cons 2 rfl (x_T_cons 1 rfl (x_T_cons 2 rfl x_T_nil)))))
/-- NameHall$Bidding.gainOfOther(II)I -/
noncomputable def xt173 : List (Nat × xB) := [(0, fun ih => xo_lda 0 (xo_ld 0 2 (xo_lda 0 (xo_gf 1 2 (xo_if .eq (ih 25) (xo_ld 0 2 (xo_ld 0 1 (xo_ic .gt (ih 21) (xo_lda 0 (xo_gf 1 1 (xo_if .ne (ih 25) (ih 21)))))))))))),
  (21, fun ih => xo_push (0, 0, Int.ofNat 1) (ih 26)),
  (25, fun ih => xo_push (0, 0, Int.ofNat 0) (ih 26)),
  (26, fun ih => xo_cl xm171 2 2 3 0 0 0 0 (xo_ri 1))]
noncomputable def xm173 : xM := x_mth 0 xt173 100000
set_option maxRecDepth 100000 in
theorem xM173 : x_Ma 173 xm173 := x_Ma_of (r := ev_r173) rfl (xs_mth (hint := (fun _ => [])) (cal := (x_ca 171 xm171 (fun _ => x_no))) (x_Ma_ca xM171 x_Ma_no) (x_T_cons 11 rfl (x_T_cons 2 rfl (x_T_cons 1 rfl (x_T_cons 2 rfl x_T_nil)))))
/-- NameHall$Bidding.isRest(II)Z -/
noncomputable def xt174 : List (Nat × xB) := [(0, fun ih => xo_push (0, 0, Int.ofNat 0) (xo_st 0 3 4 (ih 2))),
  (2, fun ih => xo_ld 0 3 (xo_push (0, 0, Int.ofNat 5) (xo_ic .ge (ih 45) (xo_lda 0 (xo_ld 0 3 (xo_ld 0 2 (xo_cl xm172 2 2 3 0 0 0 0 (xo_lda 0 (xo_ld 0 1 (xo_ld 0 2 (xo_cl xm172 2 2 3 0 0 0 0 (xo_ic .gt (ih 37) (xo_lda 0 (xo_ld 0 1 (xo_ld 0 3 (xo_cl xm173 2 2 3 0 0 0 0 (xo_lda 0 (xo_ld 0 1 (xo_ld 0 2 (xo_cl xm173 2 2 3 0 0 0 0 (xo_ic .le (ih 39) (ih 37)))))))))))))))))))))),
  (37, fun ih => xo_push (0, 0, Int.ofNat 0) (xo_ri 2)),
  (39, fun ih => xo_inc 3 4 (Int.ofNat 1) (ih 2)),
  (45, fun ih => xo_push (0, 0, Int.ofNat 1) (xo_ri 2))]
noncomputable def xm174 : xM := x_mth 1 xt174 100000
set_option maxRecDepth 100000 in
theorem xM174 : x_Ma 174 xm174 := x_Ma_of (r := ev_r174) rfl (xs_mth (hint := (fun _ => [])) (cal := (x_ca 172 xm172 (x_ca 173 xm173 (fun _ => x_no)))) (x_Ma_ca xM172 (x_Ma_ca xM173 x_Ma_no)) (x_T_cons 2 rfl (x_T_cons 21 rfl (x_T_cons 2 rfl (x_T_cons 2 rfl (x_T_cons 2 rfl x_T_nil))))))
/-- NameHall$Bidding.countRests()I -/
noncomputable def xt175 : List (Nat × xB) := [(0, fun ih => xo_push (0, 0, Int.ofNat 0) (xo_st 0 1 4 (xo_push (0, 0, Int.ofNat 0) (xo_st 0 2 4 (ih 4))))),
  (4, fun ih => xo_ld 0 2 (xo_push (0, 0, Int.ofNat 5) (xo_ic .ge (ih 45) (xo_push (0, 0, Int.ofNat 0) (xo_st 0 3 4 (ih 11)))))),
  (11, fun ih => xo_ld 0 3 (xo_push (0, 0, Int.ofNat 5) (xo_ic .ge (ih 39) (xo_ld 0 1 (xo_lda 0 (xo_ld 0 2 (xo_ld 0 3 (xo_cl xm174 2 2 4 0 0 0 0 (xo_if .eq (ih 30) (xo_push (0, 0, Int.ofNat 1) (ih 31))))))))))),
  (30, fun ih => xo_push (0, 0, Int.ofNat 0) (ih 31)),
  (31, fun ih => xo_bin 0 0 xg_add (xo_st 0 1 4 (xo_inc 3 4 (Int.ofNat 1) (ih 11)))),
  (39, fun ih => xo_inc 2 4 (Int.ofNat 1) (ih 4)),
  (45, fun ih => xo_ld 0 1 (xo_ri 1))]
noncomputable def xm175 : xM := x_mth 3 xt175 100000
set_option maxRecDepth 100000 in
theorem xM175 : x_Ma 175 xm175 := x_Ma_of (r := ev_r175) rfl (xs_mth (hint := (fun _ => [])) (cal := (x_ca 174 xm174 (fun _ => x_no))) (x_Ma_ca xM174 x_Ma_no) (x_T_cons 4 rfl (x_T_cons 5 rfl (x_T_cons 11 rfl (x_T_cons 1 rfl (x_T_cons 4 rfl (x_T_cons 2 rfl (x_T_cons 2 rfl x_T_nil))))))))
/-- NameHall$Bidding.firstRest()I -/
noncomputable def xt176 : List (Nat × xB) := [(0, fun ih => xo_push (0, 0, Int.ofNat 0) (xo_st 0 1 3 (ih 2))),
  (2, fun ih => xo_ld 0 1 (xo_push (0, 0, Int.ofNat 5) (xo_ic .ge (ih 42) (xo_push (0, 0, Int.ofNat 0) (xo_st 0 2 3 (ih 9)))))),
  (9, fun ih => xo_ld 0 2 (xo_push (0, 0, Int.ofNat 5) (xo_ic .ge (ih 36) (xo_lda 0 (xo_ld 0 1 (xo_ld 0 2 (xo_cl xm174 2 2 4 0 0 0 0 (xo_if .eq (ih 30) (xo_push (0, 0, Int.ofNat 10) (xo_ld 0 1 (xo_bin 0 0 (xg_i (· * ·) xg_mul) (xo_ld 0 2 (xo_bin 0 0 xg_add (xo_ri 1)))))))))))))),
  (30, fun ih => xo_inc 2 3 (Int.ofNat 1) (ih 9)),
  (36, fun ih => xo_inc 1 3 (Int.ofNat 1) (ih 2)),
  (42, fun ih => xo_push (0, 0, Int.negSucc 8) (xo_ri 1))]
noncomputable def xm176 : xM := x_mth 2 xt176 100000
set_option maxRecDepth 100000 in
theorem xM176 : x_Ma 176 xm176 := x_Ma_of (r := ev_r176) rfl (xs_mth (hint := (fun _ => [])) (cal := (x_ca 174 xm174 (fun _ => x_no))) (x_Ma_ca xM174 x_Ma_no) (x_T_cons 2 rfl (x_T_cons 5 rfl (x_T_cons 14 rfl (x_T_cons 2 rfl (x_T_cons 2 rfl (x_T_cons 2 rfl x_T_nil)))))))
/-- NameHall.rests(IIII)I -/
noncomputable def xt177 : List (Nat × xB) := [(0, fun ih => xo_lda 0 (xo_gf 9 1 (xo_ld 0 1 (xo_cl xm49 5 1 2 0 0 0 0 (xo_if .eq (ih 33) (xo_lda 0 (xo_gf 9 1 (xo_ld 0 2 (xo_cl xm49 5 1 2 0 0 0 0 (xo_if .eq (ih 33) (xo_lda 0 (xo_gf 9 1 (xo_ld 0 3 (xo_cl xm40 5 1 2 0 0 0 0 (xo_if .ne (ih 35) (ih 33)))))))))))))))),
  (33, fun ih => xo_push (0, 0, Int.negSucc 0) (xo_ri 1)),
  (35, fun ih => xo_ld 0 1 (xo_ld 0 2 (xo_ic .eq (ih 51) (xo_ld 0 4 (xo_if .lt (ih 51) (xo_ld 0 4 (xo_push (0, 0, Int.ofNat 1) (xo_ic .le (ih 54) (ih 51))))))))),
  (51, fun ih => xo_push (0, 0, Int.negSucc 1) (xo_ri 1)),
  (54, fun ih => xo_lda 0 (xo_gf 9 9 (xo_lda 0 (xo_gf 9 1 (xo_ld 0 3 (xo_cl xm42 5 1 2 0 0 0 0 (xo_lda 0 (xo_gf 9 2 (xo_ld 0 1 (xo_ld 0 3 (xo_cl xm64 7 2 3 0 0 0 0 (xo_lda 0 (xo_gf 9 2 (xo_ld 0 2 (xo_ld 0 3 (xo_cl xm64 7 2 3 0 0 0 0 (xo_cl xm170 2 3 4 0 0 0 0 (xo_ld 0 4 (xo_if .ne (ih 102) (xo_lda 0 (xo_gf 9 9 (xo_cl xm175 2 0 4 0 0 0 0 (ih 109))))))))))))))))))))))),
  (102, fun ih => xo_lda 0 (xo_gf 9 9 (xo_cl xm176 2 0 3 0 0 0 0 (ih 109)))),
  (109, fun ih => xo_ri 1)]
noncomputable def xm177 : xM := x_mth 0 xt177 100000
set_option maxRecDepth 100000 in
theorem xM177 : x_Ma 177 xm177 := x_Ma_of (r := ev_r177) rfl (xs_mth (hint := (fun _ => [])) (cal := (x_ca 49 xm49 (x_ca 40 xm40 (x_ca 42 xm42 (x_ca 64 xm64 (x_ca 170 xm170 (x_ca 175 xm175 (x_ca 176 xm176 (fun _ => x_no))))))))) (x_Ma_ca xM49 (x_Ma_ca xM40 (x_Ma_ca xM42 (x_Ma_ca xM64 (x_Ma_ca xM170 (x_Ma_ca xM175 (x_Ma_ca xM176 x_Ma_no))))))) (x_T_cons 15 rfl (x_T_cons 2 rfl (x_T_cons 8 rfl (x_T_cons 2 rfl (x_T_cons 23 rfl (x_T_cons 3 rfl (x_T_cons 1 rfl x_T_nil))))))))
/-- NameHallModel.mayHave(II)Z -/
noncomputable def xt178 : List (Nat × xB) := [(0, fun ih => xo_lda 0 (xo_push (0, 0, Int.ofNat 0) (xo_ld 0 1 (xo_cl xm74 11 2 3 0 0 0 0 (xo_if .ne (ih 26) (xo_lda 0 (xo_gf 10 6 (xo_ld 0 1 (xo_al none 0 (xo_ld 0 2 (xo_cl xm73 0 2 2 0 0 0 0 (xo_if .eq (ih 26) (xo_push (0, 0, Int.ofNat 1) (ih 27)))))))))))))),
  (26, fun ih => xo_push (0, 0, Int.ofNat 0) (ih 27)),
  (27, fun ih => xo_ri 2)]
noncomputable def xm178 : xM := x_mth 0 xt178 100000
set_option maxRecDepth 100000 in
theorem xM178 : x_Ma 178 xm178 := x_Ma_of (r := ev_r178) rfl (xs_mth (hint := (fun _ => [])) (cal := (x_ca 74 xm74 (x_ca 73 xm73 (fun _ => x_no)))) (x_Ma_ca xM74 (x_Ma_ca xM73 x_Ma_no)) (x_T_cons 14 rfl (x_T_cons 1 rfl (x_T_cons 1 rfl x_T_nil))))
/-- NameHallModel.gain(IIIIIZ)I -/
noncomputable def xt179 : List (Nat × xB) := [(0, fun ih => xo_ld 0 4 (xo_ld 0 5 (xo_ic .lt (ih 16) (xo_lda 0 (xo_ld 0 1 (xo_ld 0 3 (xo_cl xm178 11 2 3 0 0 0 0 (ih 39)))))))),
  (16, fun ih => xo_lda 0 (xo_ld 0 1 (xo_ld 0 3 (xo_cl xm178 11 2 3 0 0 0 0 (xo_if .eq (ih 38) (xo_lda 0 (xo_ld 0 2 (xo_ld 0 3 (xo_cl xm178 11 2 3 0 0 0 0 (xo_if .ne (ih 38) (xo_push (0, 0, Int.ofNat 1) (ih 39)))))))))))),
  (38, fun ih => xo_push (0, 0, Int.ofNat 0) (ih 39)),
  (39, fun ih => xo_st 0 7 11 (xo_ld 0 7 (xo_if .ne (ih 59) (xo_lda 0 (xo_ld 0 2 (xo_ld 0 3 (xo_cl xm178 11 2 3 0 0 0 0 (xo_if .eq (ih 59) (xo_push (0, 0, Int.ofNat 1) (ih 60)))))))))),
  (59, fun ih => xo_push (0, 0, Int.ofNat 0) (ih 60)),
  (60, fun ih => xo_st 0 8 11 (xo_ld 0 6 (xo_if .eq (ih 72) (xo_ld 0 7 (ih 74))))),
  (72, fun ih => xo_ld 0 8 (ih 74)),
  (74, fun ih => xo_st 0 9 11 (xo_ld 0 6 (xo_if .eq (ih 86) (xo_ld 0 4 (ih 88))))),
  (86, fun ih => xo_ld 0 5 (ih 88)),
  (88, fun ih => xo_st 0 10 11 (xo_ld 0 9 (xo_if .eq (ih 107) (xo_lda 0 (xo_gf 10 3 (xo_ld 0 3 (xo_al none 0 (xo_ld 0 10 (xo_bin 0 0 xg_sub (ih 117)))))))))),
  (107, fun ih => xo_ld 0 10 (xo_if .le (ih 116) (xo_push (0, 0, Int.negSucc 0) (ih 117)))),
  (116, fun ih => xo_push (0, 0, Int.ofNat 0) (ih 117)),
  (117, fun ih => xo_ri 1)]
noncomputable def xm179 : xM := x_mth 4 xt179 100000
set_option maxRecDepth 100000 in
theorem xM179 : x_Ma 179 xm179 := x_Ma_of (r := ev_r179) rfl (xs_mth (hint := (fun _ => [])) (cal := (x_ca 178 xm178 (fun _ => x_no))) (x_Ma_ca xM178 x_Ma_no) (x_T_cons 8 rfl (x_T_cons 12 rfl (x_T_cons 1 rfl (x_T_cons 10 rfl (x_T_cons 1 rfl (x_T_cons 5 rfl (x_T_cons 1 rfl (x_T_cons 5 rfl (x_T_cons 1 rfl (x_T_cons 10 rfl (x_T_cons 4 rfl (x_T_cons 1 rfl (x_T_cons 1 rfl x_T_nil))))))))))))))
/-- NameHallModel.isRest(IIIII)Z -/
noncomputable def xt180 : List (Nat × xB) := [(0, fun ih => xo_push (0, 0, Int.ofNat 1) (xo_st 0 6 8 (xo_push (0, 0, Int.ofNat 0) (xo_st 0 7 8 (ih 6))))),
  (6, fun ih => xo_ld 0 7 (xo_push (0, 0, Int.ofNat 5) (xo_ic .ge (ih 96) (xo_ld 0 6 (xo_if .eq (ih 48) (xo_lda 0 (xo_ld 0 1 (xo_ld 0 2 (xo_ld 0 3 (xo_ld 0 7 (xo_ld 0 5 (xo_push (0, 0, Int.ofNat 1) (xo_cl xm179 11 6 11 0 0 0 0 (xo_lda 0 (xo_ld 0 1 (xo_ld 0 2 (xo_ld 0 3 (xo_ld 0 4 (xo_ld 0 5 (xo_push (0, 0, Int.ofNat 1) (xo_cl xm179 11 6 11 0 0 0 0 (xo_ic .gt (ih 48) (xo_push (0, 0, Int.ofNat 1) (ih 49)))))))))))))))))))))))),
  (48, fun ih => xo_push (0, 0, Int.ofNat 0) (ih 49)),
  (49, fun ih => xo_st 0 6 8 (xo_ld 0 6 (xo_if .eq (ih 87) (xo_lda 0 (xo_ld 0 1 (xo_ld 0 2 (xo_ld 0 3 (xo_ld 0 4 (xo_ld 0 7 (xo_push (0, 0, Int.ofNat 0) (xo_cl xm179 11 6 11 0 0 0 0 (xo_lda 0 (xo_ld 0 1 (xo_ld 0 2 (xo_ld 0 3 (xo_ld 0 4 (xo_ld 0 5 (xo_push (0, 0, Int.ofNat 0) (xo_cl xm179 11 6 11 0 0 0 0 (xo_ic .gt (ih 87) (xo_push (0, 0, Int.ofNat 1) (ih 88)))))))))))))))))))))),
  (87, fun ih => xo_push (0, 0, Int.ofNat 0) (ih 88)),
  (88, fun ih => xo_st 0 6 8 (xo_inc 7 8 (Int.ofNat 1) (ih 6))),
  (96, fun ih => xo_ld 0 6 (xo_ri 2))]
noncomputable def xm180 : xM := x_mth 2 xt180 100000
set_option maxRecDepth 100000 in
theorem xM180 : x_Ma 180 xm180 := x_Ma_of (r := ev_r180) rfl (xs_mth (hint := (fun _ => [])) (cal := (x_ca 179 xm179 (fun _ => x_no))) (x_Ma_ca xM179 x_Ma_no) (x_T_cons 4 rfl (x_T_cons 24 rfl (x_T_cons 1 rfl (x_T_cons 22 rfl (x_T_cons 1 rfl (x_T_cons 3 rfl (x_T_cons 2 rfl x_T_nil))))))))
/-- NameHallModel.rests(IIII)I -/
noncomputable def xt181 : List (Nat × xB) := [(0, fun ih => xo_lda 0 (xo_ld 0 1 (xo_cl xm61 11 1 2 0 0 0 0 (xo_if .eq (ih 24) (xo_lda 0 (xo_ld 0 2 (xo_cl xm61 11 1 2 0 0 0 0 (xo_if .eq (ih 24) (xo_lda 0 (xo_ld 0 3 (xo_cl xm46 11 1 2 0 0 0 0 (xo_if .ne (ih 26) (ih 24))))))))))))),
  (24, fun ih => xo_push (0, 0, Int.negSucc 0) (xo_ri 1)),
  (26, fun ih => xo_ld 0 1 (xo_ld 0 2 (xo_ic .eq (ih 42) (xo_ld 0 4 (xo_un 0 xg_i2l (xo_push (1, 0, Int.ofNat 0) (xo_push (1, 0, Int.ofNat 1) (xo_cl xm15 0 3 6 0 0 0 0 (xo_if .ne (ih 45) (ih 42)))))))))),
  (42, fun ih => xo_push (0, 0, Int.negSucc 1) (xo_ri 1)),
  (45, fun ih => xo_push (0, 0, Int.ofNat 0) (xo_st 0 5 8 (xo_push (0, 0, Int.negSucc 8) (xo_st 0 6 8 (xo_push (0, 0, Int.ofNat 0) (xo_st 0 7 8 (ih 55))))))),
  (55, fun ih => xo_ld 0 7 (xo_push (0, 0, Int.ofNat 25) (xo_ic .ge (ih 113) (xo_lda 0 (xo_ld 0 1 (xo_ld 0 2 (xo_ld 0 3 (xo_ld 0 7 (xo_push (0, 0, Int.ofNat 5) (xo_bin 0 0 xg_div (xo_ld 0 7 (xo_push (0, 0, Int.ofNat 5) (xo_bin 0 0 xg_rem (xo_cl xm180 11 5 8 0 0 0 0 (xo_if .eq (ih 107) (xo_ld 0 5 (xo_if .ne (ih 100) (xo_push (0, 0, Int.ofNat 10) (xo_ld 0 7 (xo_push (0, 0, Int.ofNat 5) (xo_bin 0 0 xg_div (xo_bin 0 0 (xg_i (· * ·) xg_mul) (xo_ld 0 7 (xo_push (0, 0, Int.ofNat 5) (xo_bin 0 0 xg_rem (xo_bin 0 0 xg_add (ih 102))))))))))))))))))))))))))),
  (100, fun ih => xo_ld 0 6 (ih 102)),
  (102, fun ih => xo_st 0 6 8 (xo_inc 5 8 (Int.ofNat 1) (ih 107))),
  (107, fun ih => xo_inc 7 8 (Int.ofNat 1) (ih 55)),
  (113, fun ih => xo_ld 0 4 (xo_if .ne (ih 123) (xo_ld 0 5 (ih 125)))),
  (123, fun ih => xo_ld 0 6 (ih 125)),
  (125, fun ih => xo_ri 1)]
noncomputable def xm181 : xM := x_mth 3 xt181 100000
set_option maxRecDepth 100000 in
theorem xM181 : x_Ma 181 xm181 := x_Ma_of (r := ev_r181) rfl (xs_mth (hint := (fun _ => [])) (cal := (x_ca 61 xm61 (x_ca 46 xm46 (x_ca 15 xm15 (x_ca 180 xm180 (fun _ => x_no)))))) (x_Ma_ca xM61 (x_Ma_ca xM46 (x_Ma_ca xM15 (x_Ma_ca xM180 x_Ma_no)))) (x_T_cons 12 rfl (x_T_cons 2 rfl (x_T_cons 9 rfl (x_T_cons 2 rfl (x_T_cons 6 rfl (x_T_cons 27 rfl (x_T_cons 1 rfl (x_T_cons 2 rfl (x_T_cons 2 rfl (x_T_cons 4 rfl (x_T_cons 1 rfl (x_T_cons 1 rfl x_T_nil)))))))))))))
/-- NameHall$Scene.takersAt(II)I -/
noncomputable def xt182 : List (Nat × xB) := [(0, fun ih => xo_push (0, 0, Int.ofNat 0) (xo_st 0 3 5 (xo_push (0, 0, Int.ofNat 0) (xo_st 0 4 5 (ih 5))))),
  (5, fun ih => xo_ld 0 4 (xo_push (0, 0, Int.ofNat 5) (xo_ic .ge (ih 52) (xo_lda 0 (xo_ld 0 1 (xo_cl xm44 7 1 2 0 0 0 0 (xo_if .ne (ih 46) (xo_lda 0 (xo_ld 0 4 (xo_ld 0 2 (xo_cl xm85 7 2 3 0 0 0 0 (xo_if .eq (ih 46) (xo_lda 0 (xo_ld 0 4 (xo_ld 0 1 (xo_cl xm64 7 2 3 0 0 0 0 (xo_if .eq (ih 46) (xo_ld 0 3 (xo_push (0, 0, Int.ofNat 1) (xo_ld 0 4 (xo_bin 0 0 (xg_i x_ishl xg_ti) (xo_bin 0 0 (xg_i (· ||| ·) xg_ti) (xo_st 0 3 5 (ih 46)))))))))))))))))))))))),
  (46, fun ih => xo_inc 4 5 (Int.ofNat 1) (ih 5)),
  (52, fun ih => xo_ld 0 3 (xo_ri 1))]
noncomputable def xm182 : xM := x_mth 2 xt182 100000
set_option maxRecDepth 100000 in
theorem xM182 : x_Ma 182 xm182 := x_Ma_of (r := ev_r182) rfl (xs_mth (hint := (fun _ => [])) (cal := (x_ca 44 xm44 (x_ca 85 xm85 (x_ca 64 xm64 (fun _ => x_no))))) (x_Ma_ca xM44 (x_Ma_ca xM85 (x_Ma_ca xM64 x_Ma_no))) (x_T_cons 4 rfl (x_T_cons 23 rfl (x_T_cons 2 rfl (x_T_cons 2 rfl x_T_nil)))))
/-- NameHall.letter(IIZ)I -/
noncomputable def xt183 : List (Nat × xB) := [(0, fun ih => xo_lda 0 (xo_gf 9 1 (xo_ld 0 1 (xo_cl xm49 5 1 2 0 0 0 0 (xo_if .ne (ih 13) (xo_push (0, 0, Int.negSucc 0) (xo_ri 1))))))),
  (13, fun ih => xo_ld 0 2 (xo_cl xm101 0 1 1 0 0 0 0 (xo_if .ne (ih 23) (xo_push (0, 0, Int.negSucc 1) (xo_ri 1))))),
  (23, fun ih => xo_push (0, 0, Int.ofNat 1) (xo_st 0 4 8 (xo_push (0, 0, Int.ofNat 1) (xo_st 0 5 8 (xo_push (0, 0, Int.ofNat 0) (xo_st 0 6 8 (ih 32))))))),
  (32, fun ih => xo_ld 0 6 (xo_lda 0 (xo_gf 9 1 (xo_cl xm36 5 0 1 0 0 0 0 (xo_ic .ge (ih 94) (xo_lda 0 (xo_gf 9 2 (xo_ld 0 6 (xo_ld 0 2 (xo_cl xm182 7 2 5 0 0 0 0 (xo_st 0 7 8 (xo_ld 0 7 (xo_ld 0 1 (xo_bin 0 0 (xg_i x_ishr xg_ti) (xo_push (0, 0, Int.ofNat 1) (xo_bin 0 0 (xg_i (· &&& ·) xg_and) (xo_push (0, 0, Int.ofNat 1) (xo_ic .ne (ih 88) (xo_ld 0 4 (xo_ld 0 7 (xo_cl xm65 0 1 1 0 0 0 0 (xo_bin 0 0 (xg_i (· * ·) xg_mul) (xo_st 0 4 8 (xo_ld 0 5 (xo_ld 0 7 (xo_cl xm65 0 1 1 0 0 0 0 (xo_push (0, 0, Int.ofNat 1) (xo_bin 0 0 xg_sub (xo_bin 0 0 (xg_i (· * ·) xg_mul) (xo_st 0 5 8 (ih 88))))))))))))))))))))))))))))))),
  (88, fun ih => xo_inc 6 8 (Int.ofNat 1) (ih 32)),
  (94, fun ih => xo_ld 0 4 (xo_ld 0 5 (xo_bin 0 0 xg_sub (xo_ld 0 4 (xo_ld 0 3 (xo_cl xm165 0 3 5 0 0 0 0 (xo_ri 1)))))))]
noncomputable def xm183 : xM := x_mth 4 xt183 100000
set_option maxRecDepth 100000 in
theorem xM183 : x_Ma 183 xm183 := x_Ma_of (r := ev_r183) rfl (xs_mth (hint := (fun _ => [])) (cal := (x_ca 49 xm49 (x_ca 101 xm101 (x_ca 36 xm36 (x_ca 182 xm182 (x_ca 65 xm65 (x_ca 165 xm165 (fun _ => x_no)))))))) (x_Ma_ca xM49 (x_Ma_ca xM101 (x_Ma_ca xM36 (x_Ma_ca xM182 (x_Ma_ca xM65 (x_Ma_ca xM165 x_Ma_no)))))) (x_T_cons 7 rfl (x_T_cons 5 rfl (x_T_cons 6 rfl (x_T_cons 30 rfl (x_T_cons 2 rfl (x_T_cons 7 rfl x_T_nil)))))))
/-- NameHallModel.letter(IIZ)I -/
noncomputable def xt184 : List (Nat × xB) := [(0, fun ih => xo_lda 0 (xo_ld 0 1 (xo_cl xm61 11 1 2 0 0 0 0 (xo_if .ne (ih 10) (xo_push (0, 0, Int.negSucc 0) (xo_ri 1)))))),
  (10, fun ih => xo_ld 0 2 (xo_un 0 xg_i2l (xo_push (1, 0, Int.ofNat 0) (xo_push (1, 0, Int.ofNat 9) (xo_cl xm15 0 3 6 0 0 0 0 (xo_if .ne (ih 25) (xo_push (0, 0, Int.negSucc 1) (xo_ri 1)))))))),
  (25, fun ih => xo_push (0, 0, Int.ofNat 1) (xo_st 0 4 9 (xo_push (0, 0, Int.ofNat 1) (xo_st 0 5 9 (xo_push (0, 0, Int.ofNat 0) (xo_st 0 6 9 (ih 34))))))),
  (34, fun ih => xo_ld 0 6 (xo_lda 0 (xo_gf 10 0 (xo_ic .ge (ih 186) (xo_push (0, 0, Int.ofNat 0) (xo_st 0 7 9 (xo_push (0, 0, Int.ofNat 0) (xo_st 0 8 9 (ih 49))))))))),
  (49, fun ih => xo_ld 0 8 (xo_lda 0 (xo_gf 10 1 (xo_ic .ge (ih 100) (xo_ld 0 7 (xo_lda 0 (xo_push (0, 0, Int.ofNat 0) (xo_ld 0 8 (xo_ld 0 2 (xo_cl xm90 11 3 4 0 0 0 0 (xo_if .eq (ih 90) (xo_lda 0 (xo_gf 10 6 (xo_ld 0 8 (xo_al none 0 (xo_ld 0 6 (xo_cl xm73 0 2 2 0 0 0 0 (xo_if .eq (ih 90) (xo_push (0, 0, Int.ofNat 1) (ih 91)))))))))))))))))))),
  (90, fun ih => xo_push (0, 0, Int.ofNat 0) (ih 91)),
  (91, fun ih => xo_bin 0 0 xg_add (xo_st 0 7 9 (xo_inc 8 9 (Int.ofNat 1) (ih 49)))),
  (100, fun ih => xo_lda 0 (xo_push (0, 0, Int.ofNat 0) (xo_ld 0 1 (xo_ld 0 2 (xo_cl xm90 11 3 4 0 0 0 0 (xo_if .eq (ih 143) (xo_lda 0 (xo_gf 10 6 (xo_ld 0 1 (xo_al none 0 (xo_ld 0 6 (xo_cl xm73 0 2 2 0 0 0 0 (xo_if .eq (ih 143) (xo_lda 0 (xo_gf 10 7 (xo_push (0, 0, Int.ofNat 15) (xo_al none 0 (xo_ld 0 6 (xo_cl xm73 0 2 2 0 0 0 0 (xo_if .ne (ih 143) (xo_push (0, 0, Int.ofNat 1) (ih 144)))))))))))))))))))))),
  (143, fun ih => xo_push (0, 0, Int.ofNat 0) (ih 144)),
  (144, fun ih => xo_st 0 8 9 (xo_ld 0 4 (xo_ld 0 8 (xo_if .eq (ih 160) (xo_ld 0 7 (xo_push (0, 0, Int.ofNat 1) (xo_bin 0 0 xg_sub (ih 161)))))))),
  (160, fun ih => xo_push (0, 0, Int.ofNat 1) (ih 161)),
  (161, fun ih => xo_bin 0 0 (xg_i (· * ·) xg_mul) (xo_st 0 4 9 (xo_ld 0 5 (xo_ld 0 8 (xo_if .eq (ih 176) (xo_ld 0 7 (ih 177))))))),
  (176, fun ih => xo_push (0, 0, Int.ofNat 1) (ih 177)),
  (177, fun ih => xo_bin 0 0 (xg_i (· * ·) xg_mul) (xo_st 0 5 9 (xo_inc 6 9 (Int.ofNat 1) (ih 34)))),
  (186, fun ih => xo_ld 0 5 (xo_ld 0 4 (xo_bin 0 0 xg_sub (xo_ld 0 5 (xo_cl xm168 0 2 5 0 0 0 0 (xo_st 0 6 9 (xo_ld 0 3 (xo_if .eq (ih 213) (xo_ld 0 5 (xo_ld 0 4 (xo_bin 0 0 xg_sub (xo_ld 0 6 (xo_bin 0 0 xg_div (ih 218)))))))))))))),
  (213, fun ih => xo_ld 0 5 (xo_ld 0 6 (xo_bin 0 0 xg_div (ih 218)))),
  (218, fun ih => xo_ri 1)]
noncomputable def xm184 : xM := x_mth 5 xt184 100000
set_option maxRecDepth 100000 in
theorem xM184 : x_Ma 184 xm184 := x_Ma_of (r := ev_r184) rfl (xs_mth (hint := (fun _ => [])) (cal := (x_ca 61 xm61 (x_ca 15 xm15 (x_ca 90 xm90 (x_ca 73 xm73 (x_ca 168 xm168 (fun _ => x_no))))))) (x_Ma_ca xM61 (x_Ma_ca xM15 (x_Ma_ca xM90 (x_Ma_ca xM73 (x_Ma_ca xM168 x_Ma_no))))) (x_T_cons 6 rfl (x_T_cons 8 rfl (x_T_cons 6 rfl (x_T_cons 8 rfl (x_T_cons 20 rfl (x_T_cons 1 rfl (x_T_cons 4 rfl (x_T_cons 22 rfl (x_T_cons 1 rfl (x_T_cons 8 rfl (x_T_cons 1 rfl (x_T_cons 7 rfl (x_T_cons 1 rfl (x_T_cons 4 rfl (x_T_cons 14 rfl (x_T_cons 3 rfl (x_T_cons 1 rfl x_T_nil))))))))))))))))))
/-- NameHall.seed(J)J -/
noncomputable def xt185 : List (Nat × xB) := [(0, fun ih => xo_lda 0 (xo_gf 9 11 (xo_stL 3 5 (xo_lda 0 (xo_ld 1 1 (xo_pf 9 11 1 (xo_ld 1 3 (xo_rl 4))))))))]
noncomputable def xm185 : xM := x_mth 2 xt185 100000
set_option maxRecDepth 100000 in
theorem xM185 : x_Ma 185 xm185 := x_Ma_of (r := ev_r185) rfl (xs_mth (hint := (fun _ => [])) (cal := (fun _ => x_no)) x_Ma_no (x_T_cons 8 rfl x_T_nil))
/-- NameHallModel.seed(J)J -/
noncomputable def xt186 : List (Nat × xB) := [(0, fun ih => xo_lda 0 (xo_gf 10 25 (xo_stL 3 5 (xo_lda 0 (xo_ld 1 1 (xo_pf 10 25 1 (xo_ld 1 3 (xo_rl 4))))))))]
noncomputable def xm186 : xM := x_mth 2 xt186 100000
set_option maxRecDepth 100000 in
theorem xM186 : x_Ma 186 xm186 := x_Ma_of (r := ev_r186) rfl (xs_mth (hint := (fun _ => [])) (cal := (fun _ => x_no)) x_Ma_no (x_T_cons 8 rfl x_T_nil))
/-- NameHall.actByChance(I)V -/
noncomputable def xt187 : List (Nat × xB) := [(0, fun ih => xo_ld 0 1 (xo_push (0, 0, Int.ofNat 5) (xo_bin 0 0 xg_rem (xo_st 0 2 4 (xo_ld 0 1 (xo_push (0, 0, Int.ofNat 5) (xo_bin 0 0 xg_div (xo_st 0 3 4 (xo_ld 0 3 (xo_push (0, 0, Int.ofNat 4) (xo_ic .ge (ih 26) (xo_lda 0 (xo_gf 9 3 (xo_ld 0 2 (xo_ld 0 3 (xo_cl xm138 7 2 4 0 0 0 0 (xo_pop (ih 40)))))))))))))))))),
  (26, fun ih => xo_ld 0 3 (xo_push (0, 0, Int.ofNat 5) (xo_ic .ne (ih 40) (xo_lda 0 (xo_gf 9 3 (xo_ld 0 2 (xo_cl xm137 7 1 3 0 0 0 0 (xo_pop (ih 40))))))))),
  (40, fun ih => xo_rv 0)]
noncomputable def xm187 : xM := x_mth 2 xt187 100000
set_option maxRecDepth 100000 in
theorem xM187 : x_Ma 187 xm187 := x_Ma_of (r := ev_r187) rfl (xs_mth (hint := (fun _ => [])) (cal := (x_ca 138 xm138 (x_ca 137 xm137 (fun _ => x_no)))) (x_Ma_ca xM138 (x_Ma_ca xM137 x_Ma_no)) (x_T_cons 18 rfl (x_T_cons 8 rfl (x_T_cons 1 rfl x_T_nil))))
/-- NameHall.days(I)I -/
noncomputable def xt188 : List (Nat × xB) := [(0, fun ih => xo_ld 0 1 (xo_push (0, 0, Int.ofNat 1) (xo_ic .lt (ih 11) (xo_ld 0 1 (xo_push (0, 0, Int.ofNat 30) (xo_ic .le (ih 14) (ih 11))))))),
  (11, fun ih => xo_push (0, 0, Int.negSucc 1) (xo_ri 1)),
  (14, fun ih => xo_lda 0 (xo_gf 9 3 (xo_lda 0 (xo_gf 9 2 (xo_cl xm136 7 1 2 0 0 0 0 (xo_push (0, 0, Int.ofNat 0) (xo_st 0 2 4 (xo_push (0, 0, Int.ofNat 0) (xo_st 0 3 4 (ih 29)))))))))),
  (29, fun ih => xo_ld 0 3 (xo_ld 0 1 (xo_ic .ge (ih 82) (xo_lda 0 (xo_lda 0 (xo_gf 9 11 (xo_push (1, 0, Int.ofNat 6364136223846793005) (xo_bin 1 1 (xg_l (· * ·)) (xo_push (1, 0, Int.ofNat 1442695040888963407) (xo_bin 1 1 (xg_l (· + ·)) (xo_pf 9 11 1 (xo_lda 0 (xo_lda 0 (xo_gf 9 11 (xo_push (0, 0, Int.ofNat 33) (xo_bin 1 0 (xg_ls x_lushr) (xo_push (1, 0, Int.ofNat 30) (xo_bin 1 1 xg_lrem (xo_un 1 xg_l2i (xo_cl xm187 10 1 4 0 0 0 0 (xo_ld 0 2 (xo_lda 0 (xo_gf 9 3 (xo_cl xm88 7 0 3 0 0 0 0 (xo_bin 0 0 xg_add (xo_st 0 2 4 (xo_inc 3 4 (Int.ofNat 1) (ih 29)))))))))))))))))))))))))))),
  (82, fun ih => xo_ld 0 2 (xo_ri 1))]
noncomputable def xm188 : xM := x_mth 2 xt188 100000
set_option maxRecDepth 100000 in
theorem xM188 : x_Ma 188 xm188 := x_Ma_of (r := ev_r188) rfl (xs_mth (hint := (fun _ => [])) (cal := (x_ca 136 xm136 (x_ca 187 xm187 (x_ca 88 xm88 (fun _ => x_no))))) (x_Ma_ca xM136 (x_Ma_ca xM187 (x_Ma_ca xM88 x_Ma_no))) (x_T_cons 6 rfl (x_T_cons 2 rfl (x_T_cons 9 rfl (x_T_cons 28 rfl (x_T_cons 2 rfl x_T_nil))))))
/-- NameHallModel.allWaited(I)I -/
noncomputable def xt189 : List (Nat × xB) := [(0, fun ih => xo_push (0, 0, Int.ofNat 0) (xo_st 0 2 4 (xo_push (0, 0, Int.ofNat 0) (xo_st 0 3 4 (ih 4))))),
  (4, fun ih => xo_ld 0 3 (xo_lda 0 (xo_gf 10 1 (xo_ic .ge (ih 35) (xo_ld 0 2 (xo_lda 0 (xo_gf 10 7 (xo_push (0, 0, Int.ofNat 18) (xo_ld 0 1 (xo_bin 0 0 (xg_i (· * ·) xg_mul) (xo_push (0, 0, Int.ofNat 10) (xo_bin 0 0 xg_add (xo_ld 0 3 (xo_bin 0 0 xg_add (xo_al none 0 (xo_bin 0 0 xg_add (xo_st 0 2 4 (xo_inc 3 4 (Int.ofNat 1) (ih 4))))))))))))))))))),
  (35, fun ih => xo_ld 0 2 (xo_ri 1))]
noncomputable def xm189 : xM := x_mth 2 xt189 100000
set_option maxRecDepth 100000 in
theorem xM189 : x_Ma 189 xm189 := x_Ma_of (r := ev_r189) rfl (xs_mth (hint := (fun _ => [])) (cal := (fun _ => x_no)) x_Ma_no (x_T_cons 4 rfl (x_T_cons 19 rfl (x_T_cons 2 rfl x_T_nil))))
/-- NameHallModel.days(I)I -/
noncomputable def xt190 : List (Nat × xB) := [(0, fun ih => xo_ld 0 1 (xo_un 0 xg_i2l (xo_push (1, 0, Int.ofNat 1) (xo_push (1, 0, Int.ofNat 30) (xo_cl xm15 0 3 6 0 0 0 0 (xo_if .ne (ih 15) (xo_push (0, 0, Int.negSucc 1) (xo_ri 1)))))))),
  (15, fun ih => xo_lda 0 (xo_cl xm141 11 0 2 0 0 0 0 (xo_push (0, 0, Int.ofNat 0) (xo_st 0 2 5 (ih 21))))),
  (21, fun ih => xo_ld 0 2 (xo_ld 0 1 (xo_ic .ge (ih 149) (xo_lda 0 (xo_lda 0 (xo_gf 10 25 (xo_push (1, 0, Int.ofNat 6364136223846793005) (xo_bin 1 1 (xg_l (· * ·)) (xo_push (1, 0, Int.ofNat 1442695040888963407) (xo_bin 1 1 (xg_l (· + ·)) (xo_pf 10 25 1 (xo_lda 0 (xo_gf 10 25 (xo_push (0, 0, Int.ofNat 33) (xo_bin 1 0 (xg_ls x_lushr) (xo_push (1, 0, Int.ofNat 30) (xo_bin 1 1 xg_lrem (xo_un 1 xg_l2i (xo_st 0 3 5 (xo_ld 0 3 (xo_push (0, 0, Int.ofNat 5) (xo_bin 0 0 xg_rem (xo_st 0 4 5 (xo_lda 0 (xo_ld 0 4 (xo_cl xm61 11 1 2 0 0 0 0 (xo_if .eq (ih 88) (xo_ld 0 3 (xo_push (0, 0, Int.ofNat 5) (xo_bin 0 0 xg_div (xo_push (0, 0, Int.ofNat 5) (xo_ic .ne (ih 88) (xo_lda 0 (xo_push (0, 0, Int.ofNat 1) (xo_ld 0 4 (xo_push (0, 0, Int.negSucc 8) (xo_cl xm79 11 3 4 0 0 0 0 (ih 137)))))))))))))))))))))))))))))))))))))),
  (88, fun ih => xo_lda 0 (xo_ld 0 4 (xo_cl xm61 11 1 2 0 0 0 0 (xo_if .eq (ih 137) (xo_ld 0 3 (xo_push (0, 0, Int.ofNat 5) (xo_bin 0 0 xg_div (xo_push (0, 0, Int.ofNat 4) (xo_ic .ge (ih 137) (xo_lda 0 (xo_ld 0 3 (xo_push (0, 0, Int.ofNat 5) (xo_bin 0 0 xg_div (xo_cl xm46 11 1 2 0 0 0 0 (xo_if .eq (ih 137) (xo_lda 0 (xo_push (0, 0, Int.ofNat 1) (xo_ld 0 4 (xo_ld 0 3 (xo_push (0, 0, Int.ofNat 5) (xo_bin 0 0 xg_div (xo_cl xm77 11 3 5 0 0 0 0 (xo_if .eq (ih 137) (xo_lda 0 (xo_push (0, 0, Int.ofNat 1) (xo_ld 0 4 (xo_ld 0 3 (xo_push (0, 0, Int.ofNat 5) (xo_bin 0 0 xg_div (xo_cl xm79 11 3 4 0 0 0 0 (ih 137))))))))))))))))))))))))))))))),
  (137, fun ih => xo_lda 0 (xo_push (0, 0, Int.ofNat 1) (xo_cl xm91 11 1 6 0 0 0 0 (xo_pop (xo_inc 2 5 (Int.ofNat 1) (ih 21)))))),
  (149, fun ih => xo_lda 0 (xo_push (0, 0, Int.ofNat 1) (xo_cl xm189 11 1 4 0 0 0 0 (xo_lda 0 (xo_push (0, 0, Int.ofNat 0) (xo_cl xm189 11 1 4 0 0 0 0 (xo_bin 0 0 xg_sub (xo_ri 1))))))))]
noncomputable def xm190 : xM := x_mth 3 xt190 100000
set_option maxRecDepth 100000 in
theorem xM190 : x_Ma 190 xm190 := x_Ma_of (r := ev_r190) rfl (xs_mth (hint := (fun _ => [])) (cal := (x_ca 15 xm15 (x_ca 141 xm141 (x_ca 61 xm61 (x_ca 79 xm79 (x_ca 46 xm46 (x_ca 77 xm77 (x_ca 91 xm91 (x_ca 189 xm189 (fun _ => x_no)))))))))) (x_Ma_ca xM15 (x_Ma_ca xM141 (x_Ma_ca xM61 (x_Ma_ca xM79 (x_Ma_ca xM46 (x_Ma_ca xM77 (x_Ma_ca xM91 (x_Ma_ca xM189 x_Ma_no)))))))) (x_T_cons 8 rfl (x_T_cons 4 rfl (x_T_cons 38 rfl (x_T_cons 30 rfl (x_T_cons 6 rfl (x_T_cons 8 rfl x_T_nil)))))))
/-- NameHall$Slots.has(I)Z -/
noncomputable def xt191 : List (Nat × xB) := [(0, fun ih => xo_ld 0 1 (xo_if .lt (ih 13) (xo_ld 0 1 (xo_push (0, 0, Int.ofNat 2) (xo_ic .ge (ih 13) (xo_push (0, 0, Int.ofNat 1) (ih 14))))))),
  (13, fun ih => xo_push (0, 0, Int.ofNat 0) (ih 14)),
  (14, fun ih => xo_ri 2)]
noncomputable def xm191 : xM := x_mth 0 xt191 100000
set_option maxRecDepth 100000 in
theorem xM191 : x_Ma 191 xm191 := x_Ma_of (r := ev_r191) rfl (xs_mth (hint := (fun _ => [])) (cal := (fun _ => x_no)) x_Ma_no (x_T_cons 7 rfl (x_T_cons 1 rfl (x_T_cons 1 rfl x_T_nil))))
/-- NameHall$Slots.store(ILNameHall$Scene;)Z -/
noncomputable def xt192 : List (Nat × xB) := [(0, fun ih => xo_lda 0 (xo_ld 0 1 (xo_cl xm191 8 1 2 0 0 0 0 (xo_if .ne (ih 10) (xo_push (0, 0, Int.ofNat 0) (xo_ri 2)))))),
  (10, fun ih => xo_lda 2 (xo_lda 0 (xo_gf 7 0 (xo_ld 0 1 (xo_aa (xo_cl xm69 7 1 2 0 0 0 0 (xo_lda 0 (xo_gf 7 1 (xo_ld 0 1 (xo_push (0, 0, Int.ofNat 1) (xo_as 2 (xo_push (0, 0, Int.ofNat 1) (xo_ri 2)))))))))))))]
noncomputable def xm192 : xM := x_mth 0 xt192 100000
set_option maxRecDepth 100000 in
theorem xM192 : x_Ma 192 xm192 := x_Ma_of (r := ev_r192) rfl (xs_mth (hint := (fun _ => [])) (cal := (x_ca 191 xm191 (x_ca 69 xm69 (fun _ => x_no)))) (x_Ma_ca xM191 (x_Ma_ca xM69 x_Ma_no)) (x_T_cons 6 rfl (x_T_cons 13 rfl x_T_nil)))
/-- NameHall$Scene.hourNow()I -/
noncomputable def xt193 : List (Nat × xB) := [(0, fun ih => xo_lda 0 (xo_gf 6 6 (xo_ri 1)))]
noncomputable def xm193 : xM := x_mth 0 xt193 100000
set_option maxRecDepth 100000 in
theorem xM193 : x_Ma 193 xm193 := x_Ma_of (r := ev_r193) rfl (xs_mth (hint := (fun _ => [])) (cal := (fun _ => x_no)) x_Ma_no (x_T_cons 3 rfl x_T_nil))
/-- NameHall.keep(I)I -/
noncomputable def xt194 : List (Nat × xB) := [(0, fun ih => xo_lda 0 (xo_gf 9 5 (xo_ld 0 1 (xo_lda 0 (xo_gf 9 2 (xo_cl xm192 8 2 3 0 0 0 0 (xo_if .eq (ih 25) (xo_lda 0 (xo_gf 9 2 (xo_cl xm193 7 0 1 0 0 0 0 (ih 26))))))))))),
  (25, fun ih => xo_push (0, 0, Int.negSucc 0) (ih 26)),
  (26, fun ih => xo_ri 1)]
noncomputable def xm194 : xM := x_mth 0 xt194 100000
set_option maxRecDepth 100000 in
theorem xM194 : x_Ma 194 xm194 := x_Ma_of (r := ev_r194) rfl (xs_mth (hint := (fun _ => [])) (cal := (x_ca 192 xm192 (x_ca 193 xm193 (fun _ => x_no)))) (x_Ma_ca xM192 (x_Ma_ca xM193 x_Ma_no)) (x_T_cons 11 rfl (x_T_cons 1 rfl (x_T_cons 1 rfl x_T_nil))))
/-- NameHallModel.keep(I)I -/
noncomputable def xt195 : List (Nat × xB) := [(0, fun ih => xo_ld 0 1 (xo_un 0 xg_i2l (xo_push (1, 0, Int.ofNat 0) (xo_push (1, 0, Int.ofNat 1) (xo_cl xm15 0 3 6 0 0 0 0 (xo_if .ne (ih 12) (xo_push (0, 0, Int.negSucc 0) (xo_ri 1)))))))),
  (12, fun ih => xo_lda 0 (xo_gf 10 26 (xo_ld 0 1 (xo_push (0, 0, Int.ofNat 1) (xo_as 2 (xo_push (0, 0, Int.ofNat 0) (xo_st 0 2 3 (ih 21)))))))),
  (21, fun ih => xo_ld 0 2 (xo_push (0, 0, Int.ofNat 18) (xo_ic .ge (ih 50) (xo_lda 0 (xo_gf 10 27 (xo_push (0, 0, Int.ofNat 18) (xo_ld 0 1 (xo_bin 0 0 (xg_i (· * ·) xg_mul) (xo_ld 0 2 (xo_bin 0 0 xg_add (xo_lda 0 (xo_gf 10 7 (xo_ld 0 2 (xo_al none 0 (xo_as 0 (xo_inc 2 3 (Int.ofNat 1) (ih 21))))))))))))))))),
  (50, fun ih => xo_lda 0 (xo_gf 10 7 (xo_push (0, 0, Int.ofNat 17) (xo_al none 0 (xo_ri 1)))))]
noncomputable def xm195 : xM := x_mth 1 xt195 100000
set_option maxRecDepth 100000 in
theorem xM195 : x_Ma 195 xm195 := x_Ma_of (r := ev_r195) rfl (xs_mth (hint := (fun _ => [])) (cal := (x_ca 15 xm15 (fun _ => x_no))) (x_Ma_ca xM15 x_Ma_no) (x_T_cons 8 rfl (x_T_cons 7 rfl (x_T_cons 17 rfl (x_T_cons 5 rfl x_T_nil)))))
/-- NameHall$Slots.load(ILNameHall$Scene;)Z -/
noncomputable def xt196 : List (Nat × xB) := [(0, fun ih => xo_lda 0 (xo_ld 0 1 (xo_cl xm191 8 1 2 0 0 0 0 (xo_if .eq (ih 17) (xo_lda 0 (xo_gf 7 1 (xo_ld 0 1 (xo_al none 2 (xo_if .ne (ih 19) (ih 17)))))))))),
  (17, fun ih => xo_push (0, 0, Int.ofNat 0) (xo_ri 2)),
  (19, fun ih => xo_lda 2 (xo_lda 0 (xo_gf 7 0 (xo_ld 0 1 (xo_aa (xo_cl xm96 7 1 2 0 0 0 0 (xo_push (0, 0, Int.ofNat 1) (xo_ri 2))))))))]
noncomputable def xm196 : xM := x_mth 0 xt196 100000
set_option maxRecDepth 100000 in
theorem xM196 : x_Ma 196 xm196 := x_Ma_of (r := ev_r196) rfl (xs_mth (hint := (fun _ => [])) (cal := (x_ca 191 xm191 (x_ca 96 xm96 (fun _ => x_no)))) (x_Ma_ca xM191 (x_Ma_ca xM96 x_Ma_no)) (x_T_cons 9 rfl (x_T_cons 2 rfl (x_T_cons 8 rfl x_T_nil))))
/-- NameHall.again(I)I -/
noncomputable def xt197 : List (Nat × xB) := [(0, fun ih => xo_lda 0 (xo_gf 9 5 (xo_ld 0 1 (xo_cl xm191 8 1 2 0 0 0 0 (xo_if .ne (ih 13) (xo_push (0, 0, Int.negSucc 0) (xo_ri 1))))))),
  (13, fun ih => xo_lda 0 (xo_gf 9 5 (xo_ld 0 1 (xo_lda 0 (xo_gf 9 2 (xo_cl xm196 8 2 3 0 0 0 0 (xo_if .ne (ih 31) (xo_push (0, 0, Int.negSucc 2) (xo_ri 1))))))))),
  (31, fun ih => xo_lda 0 (xo_gf 9 4 (xo_cl xm34 1 0 1 0 0 0 0 (xo_lda 0 (xo_gf 9 2 (xo_cl xm193 7 0 1 0 0 0 0 (xo_ri 1)))))))]
noncomputable def xm197 : xM := x_mth 0 xt197 100000
set_option maxRecDepth 100000 in
theorem xM197 : x_Ma 197 xm197 := x_Ma_of (r := ev_r197) rfl (xs_mth (hint := (fun _ => [])) (cal := (x_ca 191 xm191 (x_ca 196 xm196 (x_ca 34 xm34 (x_ca 193 xm193 (fun _ => x_no)))))) (x_Ma_ca xM191 (x_Ma_ca xM196 (x_Ma_ca xM34 (x_Ma_ca xM193 x_Ma_no)))) (x_T_cons 7 rfl (x_T_cons 9 rfl (x_T_cons 7 rfl x_T_nil))))
/-- NameHallModel.again(I)I -/
noncomputable def xt198 : List (Nat × xB) := [(0, fun ih => xo_ld 0 1 (xo_un 0 xg_i2l (xo_push (1, 0, Int.ofNat 0) (xo_push (1, 0, Int.ofNat 1) (xo_cl xm15 0 3 6 0 0 0 0 (xo_if .ne (ih 12) (xo_push (0, 0, Int.negSucc 0) (xo_ri 1)))))))),
  (12, fun ih => xo_lda 0 (xo_gf 10 26 (xo_ld 0 1 (xo_al none 2 (xo_if .ne (ih 24) (xo_push (0, 0, Int.negSucc 2) (xo_ri 1))))))),
  (24, fun ih => xo_push (0, 0, Int.ofNat 0) (xo_st 0 2 3 (ih 26))),
  (26, fun ih => xo_ld 0 2 (xo_push (0, 0, Int.ofNat 18) (xo_ic .ge (ih 55) (xo_lda 0 (xo_gf 10 7 (xo_ld 0 2 (xo_lda 0 (xo_gf 10 27 (xo_push (0, 0, Int.ofNat 18) (xo_ld 0 1 (xo_bin 0 0 (xg_i (· * ·) xg_mul) (xo_ld 0 2 (xo_bin 0 0 xg_add (xo_al none 0 (xo_as 0 (xo_inc 2 3 (Int.ofNat 1) (ih 26))))))))))))))))),
  (55, fun ih => xo_lda 0 (xo_push (0, 0, Int.ofNat 0) (xo_pf 10 16 0 (xo_lda 0 (xo_gf 10 7 (xo_push (0, 0, Int.ofNat 17) (xo_al none 0 (xo_ri 1))))))))]
noncomputable def xm198 : xM := x_mth 1 xt198 100000
set_option maxRecDepth 100000 in
theorem xM198 : x_Ma 198 xm198 := x_Ma_of (r := ev_r198) rfl (xs_mth (hint := (fun _ => [])) (cal := (x_ca 15 xm15 (fun _ => x_no))) (x_Ma_ca xM15 x_Ma_no) (x_T_cons 8 rfl (x_T_cons 7 rfl (x_T_cons 2 rfl (x_T_cons 17 rfl (x_T_cons 8 rfl x_T_nil))))))
/-- NameHall$Scene.allWaited()I -/
noncomputable def xt199 : List (Nat × xB) := [(0, fun ih => xo_push (0, 0, Int.ofNat 0) (xo_st 0 1 3 (xo_push (0, 0, Int.ofNat 0) (xo_st 0 2 3 (ih 4))))),
  (4, fun ih => xo_ld 0 2 (xo_push (0, 0, Int.ofNat 5) (xo_ic .ge (ih 24) (xo_ld 0 1 (xo_lda 0 (xo_gf 6 3 (xo_ld 0 2 (xo_al none 0 (xo_bin 0 0 xg_add (xo_st 0 1 3 (xo_inc 2 3 (Int.ofNat 1) (ih 4)))))))))))),
  (24, fun ih => xo_ld 0 1 (xo_ri 1))]
noncomputable def xm199 : xM := x_mth 2 xt199 100000
set_option maxRecDepth 100000 in
theorem xM199 : x_Ma 199 xm199 := x_Ma_of (r := ev_r199) rfl (xs_mth (hint := (fun _ => [])) (cal := (fun _ => x_no)) x_Ma_no (x_T_cons 4 rfl (x_T_cons 12 rfl (x_T_cons 2 rfl x_T_nil))))
/-- NameHall.count(I)I -/
noncomputable def xt200 : List (Nat × xB) := [(0, fun ih => xo_ld 0 1 (xo_sw (Int.ofNat 0) (Int.ofNat 8) 131 [52, 60, 68, 76, 84, 99, 107, 115, 123] ih)),
  (52, fun ih => xo_lda 0 (xo_gf 9 0 (xo_cl xm13 9 0 1 0 0 0 0 (xo_ri 1)))),
  (60, fun ih => xo_lda 0 (xo_gf 9 1 (xo_cl xm36 5 0 1 0 0 0 0 (xo_ri 1)))),
  (68, fun ih => xo_lda 0 (xo_gf 9 1 (xo_cl xm37 5 0 1 0 0 0 0 (xo_ri 1)))),
  (76, fun ih => xo_lda 0 (xo_gf 9 2 (xo_cl xm193 7 0 1 0 0 0 0 (xo_ri 1)))),
  (84, fun ih => xo_lda 0 (xo_gf 9 2 (xo_lda 0 (xo_gf 9 2 (xo_cl xm193 7 0 1 0 0 0 0 (xo_cl xm86 7 1 4 0 0 0 0 (xo_ri 1))))))),
  (99, fun ih => xo_lda 0 (xo_gf 9 2 (xo_cl xm57 7 0 5 0 0 0 0 (xo_ri 1)))),
  (107, fun ih => xo_lda 0 (xo_gf 9 2 (xo_cl xm199 7 0 3 0 0 0 0 (xo_ri 1)))),
  (115, fun ih => xo_lda 0 (xo_gf 9 4 (xo_cl xm98 1 0 1 0 0 0 0 (xo_ri 1)))),
  (123, fun ih => xo_lda 0 (xo_gf 9 6 (xo_cl xm146 3 0 1 0 0 0 0 (xo_ri 1)))),
  (131, fun ih => xo_push (0, 0, Int.negSucc 1) (xo_ri 1))]
noncomputable def xm200 : xM := x_mth 0 xt200 100000
set_option maxRecDepth 100000 in
theorem xM200 : x_Ma 200 xm200 := x_Ma_of (r := ev_r200) rfl (xs_mth (hint := (fun _ => [])) (cal := (x_ca 13 xm13 (x_ca 36 xm36 (x_ca 37 xm37 (x_ca 193 xm193 (x_ca 86 xm86 (x_ca 57 xm57 (x_ca 199 xm199 (x_ca 98 xm98 (x_ca 146 xm146 (fun _ => x_no))))))))))) (x_Ma_ca xM13 (x_Ma_ca xM36 (x_Ma_ca xM37 (x_Ma_ca xM193 (x_Ma_ca xM86 (x_Ma_ca xM57 (x_Ma_ca xM199 (x_Ma_ca xM98 (x_Ma_ca xM146 x_Ma_no))))))))) (x_T_cons 2 rfl (x_T_cons 4 rfl (x_T_cons 4 rfl (x_T_cons 4 rfl (x_T_cons 4 rfl (x_T_cons 7 rfl (x_T_cons 4 rfl (x_T_cons 4 rfl (x_T_cons 4 rfl (x_T_cons 4 rfl (x_T_cons 2 rfl x_T_nil))))))))))))
/-- NameHallModel.count(I)I -/
noncomputable def xt201 : List (Nat × xB) := [(0, fun ih => xo_push (0, 0, Int.ofNat 0) (xo_st 0 2 5 (xo_push (0, 0, Int.ofNat 0) (xo_st 0 3 5 (xo_push (0, 0, Int.ofNat 0) (xo_st 0 4 5 (ih 7))))))),
  (7, fun ih => xo_ld 0 4 (xo_lda 0 (xo_gf 10 1 (xo_ic .ge (ih 71) (xo_ld 0 2 (xo_lda 0 (xo_push (0, 0, Int.ofNat 0) (xo_ld 0 4 (xo_lda 0 (xo_gf 10 7 (xo_push (0, 0, Int.ofNat 17) (xo_al none 0 (xo_cl xm90 11 3 4 0 0 0 0 (xo_if .eq (ih 41) (xo_push (0, 0, Int.ofNat 1) (xo_ld 0 4 (xo_bin 0 0 (xg_i x_ishl xg_ti) (ih 42)))))))))))))))))),
  (41, fun ih => xo_push (0, 0, Int.ofNat 0) (ih 42)),
  (42, fun ih => xo_bin 0 0 (xg_i (· ||| ·) xg_ti) (xo_st 0 2 5 (xo_ld 0 3 (xo_lda 0 (xo_push (0, 0, Int.ofNat 0) (xo_ld 0 4 (xo_cl xm62 11 2 6 0 0 0 0 (xo_if .eq (ih 62) (xo_push (0, 0, Int.ofNat 1) (xo_ld 0 4 (xo_bin 0 0 (xg_i x_ishl xg_ti) (ih 63)))))))))))),
  (62, fun ih => xo_push (0, 0, Int.ofNat 0) (ih 63)),
  (63, fun ih => xo_bin 0 0 (xg_i (· ||| ·) xg_ti) (xo_st 0 3 5 (xo_inc 4 5 (Int.ofNat 1) (ih 7)))),
  (71, fun ih => xo_ld 0 1 (xo_sw (Int.ofNat 0) (Int.ofNat 8) 167 [124, 129, 134, 139, 147, 149, 151, 157, 162] ih)),
  (124, fun ih => xo_lda 0 (xo_gf 10 13 (xo_ri 1))),
  (129, fun ih => xo_lda 0 (xo_gf 10 0 (xo_ri 1))),
  (134, fun ih => xo_lda 0 (xo_gf 10 1 (xo_ri 1))),
  (139, fun ih => xo_lda 0 (xo_gf 10 7 (xo_push (0, 0, Int.ofNat 17) (xo_al none 0 (xo_ri 1))))),
  (147, fun ih => xo_ld 0 2 (xo_ri 1)),
  (149, fun ih => xo_ld 0 3 (xo_ri 1)),
  (151, fun ih => xo_lda 0 (xo_push (0, 0, Int.ofNat 0) (xo_cl xm189 11 1 4 0 0 0 0 (xo_ri 1)))),
  (157, fun ih => xo_lda 0 (xo_gf 10 16 (xo_ri 1))),
  (162, fun ih => xo_lda 0 (xo_gf 10 21 (xo_ri 1))),
  (167, fun ih => xo_push (0, 0, Int.negSucc 1) (xo_ri 1))]
noncomputable def xm201 : xM := x_mth 3 xt201 100000
set_option maxRecDepth 100000 in
theorem xM201 : x_Ma 201 xm201 := x_Ma_of (r := ev_r201) rfl (xs_mth (hint := (fun _ => [])) (cal := (x_ca 90 xm90 (x_ca 62 xm62 (x_ca 189 xm189 (fun _ => x_no))))) (x_Ma_ca xM90 (x_Ma_ca xM62 (x_Ma_ca xM189 x_Ma_no))) (x_T_cons 6 rfl (x_T_cons 18 rfl (x_T_cons 1 rfl (x_T_cons 12 rfl (x_T_cons 1 rfl (x_T_cons 4 rfl (x_T_cons 2 rfl (x_T_cons 3 rfl (x_T_cons 3 rfl (x_T_cons 3 rfl (x_T_cons 5 rfl (x_T_cons 2 rfl (x_T_cons 2 rfl (x_T_cons 4 rfl (x_T_cons 3 rfl (x_T_cons 3 rfl (x_T_cons 2 rfl x_T_nil))))))))))))))))))
