/-! methods as blocks, by program -/
/-- NameHall$Text.<init>()V -/
noncomputable def xt0 : List (Nat × xB) := [(0, fun ih => xo_lda 0 (xo_oi 1 20 (xo_lda 0 (xo_push (0, 0, Int.ofNat 40) (xo_na 1 1 40 (xo_pf 8 0 3 (xo_rv 0)))))))]
noncomputable def xm0 : xM := x_mth 0 xt0 100000
set_option maxRecDepth 100000 in
theorem xM0 : x_Ma 0 xm0 := x_Ma_of (r := ev_r0) rfl (xs_mth (hint := (fun _ => [])) (cal := (fun _ => x_no)) x_Ma_no (x_T_cons 7 rfl x_T_nil))
/-- NameHall$Plan.<init>()V -/
noncomputable def xt1 : List (Nat × xB) := [(0, fun ih => xo_lda 0 (xo_oi 1 20 (xo_lda 0 (xo_push (0, 0, Int.ofNat 4) (xo_na 0 5 23 (xo_pf 4 0 3 (xo_lda 0 (xo_push (0, 0, Int.ofNat 4) (xo_na 0 5 23 (xo_pf 4 1 3 (xo_lda 0 (xo_push (0, 0, Int.ofNat 5) (xo_na 0 5 23 (xo_pf 4 2 3 (xo_lda 0 (xo_push (0, 0, Int.ofNat 5) (xo_na 0 5 23 (xo_pf 4 3 3 (xo_lda 0 (xo_push (0, 0, Int.ofNat 5) (xo_na 0 5 23 (xo_pf 4 4 3 (xo_rv 0)))))))))))))))))))))))]
noncomputable def xm1 : xM := x_mth 0 xt1 100000
set_option maxRecDepth 100000 in
theorem xM1 : x_Ma 1 xm1 := x_Ma_of (r := ev_r1) rfl (xs_mth (hint := (fun _ => [])) (cal := (fun _ => x_no)) x_Ma_no (x_T_cons 23 rfl x_T_nil))
/-- java/util/Arrays.fill([II)V -/
noncomputable def xt2 : List (Nat × xB) := [(0, fun ih => xo_push (0, 0, Int.ofNat 0) (xo_st 0 2 4 (xo_lda 0 (xo_len none (xo_st 0 3 4 (ih 5)))))),
  (5, fun ih => xo_ld 0 2 (xo_ld 0 3 (xo_ic .ge (ih 20) (xo_lda 0 (xo_ld 0 2 (xo_ld 0 1 (xo_as 0 (xo_inc 2 4 (Int.ofNat 1) (ih 5))))))))),
  (20, fun ih => xo_rv 0)]
noncomputable def xm2 : xM := x_mth 2 xt2 100000
set_option maxRecDepth 100000 in
theorem xM2 : x_Ma 2 xm2 := x_Ma_of (r := ev_r2) rfl (xs_mth (hint := (fun _ => [])) (cal := (fun _ => x_no)) x_Ma_no (x_T_cons 5 rfl (x_T_cons 9 rfl (x_T_cons 1 rfl x_T_nil))))
/-- NameHall$Scene.<init>(LNameHall$Plan;)V -/
noncomputable def xt3 : List (Nat × xB) := [(0, fun ih => xo_lda 0 (xo_oi 1 23 (xo_lda 0 (xo_push (0, 0, Int.ofNat 5) (xo_na 0 3 15 (xo_pf 6 1 3 (xo_lda 0 (xo_push (0, 0, Int.ofNat 5) (xo_na 0 3 15 (xo_pf 6 2 3 (xo_lda 0 (xo_push (0, 0, Int.ofNat 5) (xo_na 0 3 15 (xo_pf 6 3 3 (xo_lda 0 (xo_lda 1 (xo_pf 6 0 3 (xo_lda 0 (xo_gf 6 1 (xo_push (0, 0, Int.negSucc 8) (xo_cl xm2 0 2 4 0 0 3 15 (xo_rv 0))))))))))))))))))))))]
noncomputable def xm3 : xM := x_mth 0 xt3 100000
set_option maxRecDepth 100000 in
theorem xM3 : x_Ma 3 xm3 := x_Ma_of (r := ev_r3) rfl (xs_mth (hint := (fun _ => [])) (cal := (x_ca 2 xm2 (fun _ => x_no))) (x_Ma_ca xM2 x_Ma_no) (x_T_cons 22 rfl x_T_nil))
/-- NameHall$ActRow.<init>()V -/
noncomputable def xt4 : List (Nat × xB) := [(0, fun ih => xo_lda 0 (xo_oi 1 20 (xo_lda 0 (xo_push (0, 0, Int.ofNat 14) (xo_push (0, 0, Int.ofNat 18) (xo_mna 15 266 (xo_pf 0 0 3 (xo_rv 0))))))))]
noncomputable def xm4 : xM := x_mth 0 xt4 100000
set_option maxRecDepth 100000 in
theorem xM4 : x_Ma 4 xm4 := x_Ma_of (r := ev_r4) rfl (xs_mth (hint := (fun _ => [])) (cal := (fun _ => x_no)) x_Ma_no (x_T_cons 8 rfl x_T_nil))
/-- NameHall$Slots.<init>()V -/
noncomputable def xt5 : List (Nat × xB) := [(0, fun ih => xo_lda 0 (xo_oi 1 20 (xo_lda 0 (xo_push (0, 0, Int.ofNat 2) (xo_push (0, 0, Int.ofNat 18) (xo_mna 4 40 (xo_pf 7 0 3 (xo_lda 0 (xo_push (0, 0, Int.ofNat 2) (xo_na 2 4 40 (xo_pf 7 1 3 (xo_rv 0))))))))))))]
noncomputable def xm5 : xM := x_mth 0 xt5 100000
set_option maxRecDepth 100000 in
theorem xM5 : x_Ma 5 xm5 := x_Ma_of (r := ev_r5) rfl (xs_mth (hint := (fun _ => [])) (cal := (fun _ => x_no)) x_Ma_no (x_T_cons 12 rfl x_T_nil))
/-- NameHall$Clues.<init>()V -/
noncomputable def xt6 : List (Nat × xB) := [(0, fun ih => xo_lda 0 (xo_oi 1 20 (xo_lda 0 (xo_push (0, 0, Int.ofNat 5) (xo_na 0 2 9 (xo_pf 2 0 3 (xo_lda 0 (xo_push (0, 0, Int.ofNat 4) (xo_na 0 2 9 (xo_pf 2 1 3 (xo_rv 0)))))))))))]
noncomputable def xm6 : xM := x_mth 0 xt6 100000
set_option maxRecDepth 100000 in
theorem xM6 : x_Ma 6 xm6 := x_Ma_of (r := ev_r6) rfl (xs_mth (hint := (fun _ => [])) (cal := (fun _ => x_no)) x_Ma_no (x_T_cons 11 rfl x_T_nil))
/-- NameHall$Giving.<init>(LNameHall$Plan;)V -/
noncomputable def xt7 : List (Nat × xB) := [(0, fun ih => xo_lda 0 (xo_oi 1 20 (xo_lda 0 (xo_push (0, 0, Int.ofNat 5) (xo_na 0 2 9 (xo_pf 3 1 3 (xo_lda 0 (xo_push (0, 0, Int.ofNat 4) (xo_na 0 2 9 (xo_pf 3 2 3 (xo_lda 0 (xo_lda 1 (xo_pf 3 0 3 (xo_rv 0))))))))))))))]
noncomputable def xm7 : xM := x_mth 0 xt7 100000
set_option maxRecDepth 100000 in
theorem xM7 : x_Ma 7 xm7 := x_Ma_of (r := ev_r7) rfl (xs_mth (hint := (fun _ => [])) (cal := (fun _ => x_no)) x_Ma_no (x_T_cons 14 rfl x_T_nil))
/-- NameHall$Rescue.<init>(LNameHall$Plan;)V -/
noncomputable def xt8 : List (Nat × xB) := [(0, fun ih => xo_lda 0 (xo_oi 1 20 (xo_lda 0 (xo_push (0, 0, Int.ofNat 6) (xo_push (0, 0, Int.ofNat 16) (xo_mna 8 107 (xo_pf 5 1 3 (xo_lda 0 (xo_push (0, 0, Int.ofNat 5) (xo_na 0 8 107 (xo_pf 5 2 3 (xo_lda 0 (xo_lda 1 (xo_pf 5 0 3 (xo_rv 0)))))))))))))))]
noncomputable def xm8 : xM := x_mth 0 xt8 100000
set_option maxRecDepth 100000 in
theorem xM8 : x_Ma 8 xm8 := x_Ma_of (r := ev_r8) rfl (xs_mth (hint := (fun _ => [])) (cal := (fun _ => x_no)) x_Ma_no (x_T_cons 15 rfl x_T_nil))
/-- NameHall$Bidding.<init>()V -/
noncomputable def xt9 : List (Nat × xB) := [(0, fun ih => xo_lda 0 (xo_oi 1 20 (xo_rv 0)))]
noncomputable def xm9 : xM := x_mth 0 xt9 100000
set_option maxRecDepth 100000 in
theorem xM9 : x_Ma 9 xm9 := x_Ma_of (r := ev_r9) rfl (xs_mth (hint := (fun _ => [])) (cal := (fun _ => x_no)) x_Ma_no (x_T_cons 3 rfl x_T_nil))
/-- NameHall.<init>()V -/
noncomputable def xt10 : List (Nat × xB) := [(0, fun ih => xo_lda 0 (xo_oi 2 44 (xo_lda 0 (xo_new 8 2 [(4, 0, 0), (0, 0, 0)] 54 569 (xo_dup (xo_cl xm0 9 0 1 1 40 54 569 (xo_pf 9 0 3 (xo_lda 0 (xo_new 4 7 [(4, 0, 0), (4, 0, 0), (4, 0, 0), (4, 0, 0), (4, 0, 0), (0, 0, 0), (0, 0, 0)] 54 569 (xo_dup (xo_cl xm1 5 0 1 5 23 54 569 (xo_pf 9 1 3 (xo_lda 0 (xo_new 6 7 [(4, 0, 0), (4, 0, 0), (4, 0, 0), (4, 0, 0), (0, 0, 0), (0, 0, 0), (0, 0, 0)] 54 569 (xo_dup (xo_lda 0 (xo_gf 9 1 (xo_cl xm3 7 1 2 3 15 54 569 (xo_pf 9 2 3 (xo_lda 0 (xo_new 6 7 [(4, 0, 0), (4, 0, 0), (4, 0, 0), (4, 0, 0), (0, 0, 0), (0, 0, 0), (0, 0, 0)] 54 569 (xo_dup (xo_lda 0 (xo_gf 9 1 (xo_cl xm3 7 1 2 3 15 54 569 (xo_pf 9 3 3 (xo_lda 0 (xo_new 0 3 [(4, 0, 0), (0, 0, 0), (0, 0, 0)] 54 569 (xo_dup (xo_cl xm4 1 0 1 15 266 54 569 (xo_pf 9 4 3 (xo_lda 0 (xo_new 7 2 [(4, 0, 0), (4, 0, 0)] 54 569 (xo_dup (xo_cl xm5 8 0 1 4 40 54 569 (xo_pf 9 5 3 (xo_lda 0 (xo_new 2 3 [(4, 0, 0), (4, 0, 0), (0, 0, 0)] 54 569 (xo_dup (xo_cl xm6 3 0 1 2 9 54 569 (xo_pf 9 6 3 (xo_lda 0 (xo_new 3 3 [(4, 0, 0), (4, 0, 0), (4, 0, 0)] 54 569 (xo_dup (xo_lda 0 (xo_gf 9 1 (xo_cl xm7 4 1 2 2 9 54 569 (xo_pf 9 7 3 (xo_lda 0 (xo_new 5 4 [(4, 0, 0), (4, 0, 0), (4, 0, 0), (0, 0, 0)] 54 569 (xo_dup (xo_lda 0 (xo_gf 9 1 (xo_cl xm8 6 1 2 8 107 54 569 (xo_pf 9 8 3 (xo_lda 0 (xo_new 1 3 [(0, 0, 0), (0, 0, 0), (0, 0, 0)] 54 569 (xo_dup (xo_cl xm9 2 0 1 0 0 54 569 (xo_pf 9 9 3 (xo_lda 0 (xo_push (0, 0, Int.ofNat 4) (xo_na 0 54 569 (xo_pf 9 10 3 (xo_lda 0 (xo_push (1, 0, Int.ofNat 0) (xo_pf 9 11 1 (xo_rv 0))))))))))))))))))))))))))))))))))))))))))))))))))))))))))))))))))))]
noncomputable def xm10 : xM := x_mth 0 xt10 100000
set_option maxRecDepth 100000 in
theorem xM10 : x_Ma 10 xm10 := x_Ma_of (r := ev_r10) rfl (xs_mth (hint := (fun _ => [])) (cal := (x_ca 0 xm0 (x_ca 1 xm1 (x_ca 3 xm3 (x_ca 4 xm4 (x_ca 5 xm5 (x_ca 6 xm6 (x_ca 7 xm7 (x_ca 8 xm8 (x_ca 9 xm9 (fun _ => x_no))))))))))) (x_Ma_ca xM0 (x_Ma_ca xM1 (x_Ma_ca xM3 (x_Ma_ca xM4 (x_Ma_ca xM5 (x_Ma_ca xM6 (x_Ma_ca xM7 (x_Ma_ca xM8 (x_Ma_ca xM9 x_Ma_no))))))))) (x_T_cons 68 rfl x_T_nil))
/-- NameHallModel.<init>()V -/
noncomputable def xt11 : List (Nat × xB) := [(0, fun ih => xo_lda 0 (xo_oi 1 20 (xo_lda 0 (xo_push (0, 0, Int.ofNat 4) (xo_na 0 16 444 (xo_pf 10 2 3 (xo_lda 0 (xo_push (0, 0, Int.ofNat 4) (xo_na 0 16 444 (xo_pf 10 3 3 (xo_lda 0 (xo_push (0, 0, Int.ofNat 5) (xo_na 0 16 444 (xo_pf 10 4 3 (xo_lda 0 (xo_push (0, 0, Int.ofNat 5) (xo_na 0 16 444 (xo_pf 10 5 3 (xo_lda 0 (xo_push (0, 0, Int.ofNat 5) (xo_na 0 16 444 (xo_pf 10 6 3 (xo_lda 0 (xo_push (0, 0, Int.ofNat 36) (xo_na 0 16 444 (xo_pf 10 7 3 (xo_lda 0 (xo_push (0, 0, Int.ofNat 8) (xo_na 0 16 444 (xo_pf 10 8 3 (xo_lda 0 (xo_push (0, 0, Int.ofNat 15) (xo_na 0 16 444 (xo_pf 10 9 3 (xo_lda 0 (xo_push (0, 0, Int.ofNat 40) (xo_na 0 16 444 (xo_pf 10 12 3 (xo_lda 0 (xo_push (0, 0, Int.ofNat 252) (xo_na 0 16 444 (xo_pf 10 18 3 (xo_lda 0 (xo_push (0, 0, Int.ofNat 4) (xo_na 0 16 444 (xo_pf 10 19 3 (xo_lda 0 (xo_push (0, 0, Int.ofNat 6) (xo_na 0 16 444 (xo_pf 10 22 3 (xo_lda 0 (xo_push (0, 0, Int.ofNat 6) (xo_na 0 16 444 (xo_pf 10 23 3 (xo_lda 0 (xo_push (0, 0, Int.ofNat 16) (xo_na 0 16 444 (xo_pf 10 24 3 (xo_lda 0 (xo_push (0, 0, Int.ofNat 2) (xo_na 2 16 444 (xo_pf 10 26 3 (xo_lda 0 (xo_push (0, 0, Int.ofNat 36) (xo_na 0 16 444 (xo_pf 10 27 3 (xo_lda 0 (xo_push (0, 0, Int.ofNat 0) (xo_pf 10 0 0 (xo_rv 0))))))))))))))))))))))))))))))))))))))))))))))))))))))))))))))))))))))]
noncomputable def xm11 : xM := x_mth 0 xt11 100000
set_option maxRecDepth 100000 in
theorem xM11 : x_Ma 11 xm11 := x_Ma_of (r := ev_r11) rfl (xs_mth (hint := (fun _ => [])) (cal := (fun _ => x_no)) x_Ma_no (x_T_cons 70 rfl x_T_nil))
/-- NameHall$Text.append(C)Z -/
noncomputable def xt12 : List (Nat × xB) := [(0, fun ih => xo_lda 0 (xo_gf 8 1 (xo_if .lt (ih 19) (xo_lda 0 (xo_gf 8 1 (xo_lda 0 (xo_gf 8 0 (xo_len none (xo_ic .lt (ih 21) (ih 19)))))))))),
  (19, fun ih => xo_push (0, 0, Int.ofNat 0) (xo_ri 2)),
  (21, fun ih => xo_lda 0 (xo_gf 8 0 (xo_lda 0 (xo_gf 8 1 (xo_ld 0 1 (xo_as 1 (xo_lda 0 (xo_dup (xo_gf 8 1 (xo_push (0, 0, Int.ofNat 1) (xo_bin 0 0 xg_add (xo_pf 8 1 0 (xo_push (0, 0, Int.ofNat 1) (xo_ri 2))))))))))))))]
noncomputable def xm12 : xM := x_mth 0 xt12 100000
set_option maxRecDepth 100000 in
theorem xM12 : x_Ma 12 xm12 := x_Ma_of (r := ev_r12) rfl (xs_mth (hint := (fun _ => [])) (cal := (fun _ => x_no)) x_Ma_no (x_T_cons 9 rfl (x_T_cons 2 rfl (x_T_cons 14 rfl x_T_nil))))
/-- NameHall$Text.size()I -/
noncomputable def xt13 : List (Nat × xB) := [(0, fun ih => xo_lda 0 (xo_gf 8 1 (xo_ri 1)))]
noncomputable def xm13 : xM := x_mth 0 xt13 100000
set_option maxRecDepth 100000 in
theorem xM13 : x_Ma 13 xm13 := x_Ma_of (r := ev_r13) rfl (xs_mth (hint := (fun _ => [])) (cal := (fun _ => x_no)) x_Ma_no (x_T_cons 3 rfl x_T_nil))
/-- NameHall.write(I)I -/
noncomputable def xt14 : List (Nat × xB) := [(0, fun ih => xo_ld 0 1 (xo_if .lt (ih 11) (xo_ld 0 1 (xo_push (0, 0, Int.ofNat 255) (xo_ic .le (ih 14) (ih 11)))))),
  (11, fun ih => xo_push (0, 0, Int.negSucc 1) (xo_ri 1)),
  (14, fun ih => xo_lda 0 (xo_gf 9 0 (xo_ld 0 1 (xo_un 0 xg_i2c (xo_cl xm12 9 1 2 0 0 0 0 (xo_if .eq (ih 36) (xo_lda 0 (xo_gf 9 0 (xo_cl xm13 9 0 1 0 0 0 0 (ih 38)))))))))),
  (36, fun ih => xo_push (0, 0, Int.negSucc 3) (ih 38)),
  (38, fun ih => xo_ri 1)]
noncomputable def xm14 : xM := x_mth 0 xt14 100000
set_option maxRecDepth 100000 in
theorem xM14 : x_Ma 14 xm14 := x_Ma_of (r := ev_r14) rfl (xs_mth (hint := (fun _ => [])) (cal := (x_ca 12 xm12 (x_ca 13 xm13 (fun _ => x_no)))) (x_Ma_ca xM12 (x_Ma_ca xM13 x_Ma_no)) (x_T_cons 5 rfl (x_T_cons 2 rfl (x_T_cons 10 rfl (x_T_cons 1 rfl (x_T_cons 1 rfl x_T_nil))))))
/-- NameHallModel.in(JJJ)Z -/
noncomputable def xt15 : List (Nat × xB) := [(0, fun ih => xo_ld 1 0 (xo_ld 1 2 (xo_lcmp (xo_if .lt (ih 17) (xo_ld 1 0 (xo_ld 1 4 (xo_lcmp (xo_if .gt (ih 17) (xo_push (0, 0, Int.ofNat 1) (ih 18)))))))))),
  (17, fun ih => xo_push (0, 0, Int.ofNat 0) (ih 18)),
  (18, fun ih => xo_ri 2)]
noncomputable def xm15 : xM := x_mth 0 xt15 100000
set_option maxRecDepth 100000 in
theorem xM15 : x_Ma 15 xm15 := x_Ma_of (r := ev_r15) rfl (xs_mth (hint := (fun _ => [])) (cal := (fun _ => x_no)) x_Ma_no (x_T_cons 10 rfl (x_T_cons 1 rfl (x_T_cons 1 rfl x_T_nil))))
/-- NameHallModel.write(I)I -/
noncomputable def xt16 : List (Nat × xB) := [(0, fun ih => xo_ld 0 1 (xo_un 0 xg_i2l (xo_push (1, 0, Int.ofNat 0) (xo_push (1, 0, Int.ofNat 255) (xo_cl xm15 0 3 6 0 0 0 0 (xo_if .ne (ih 15) (xo_push (0, 0, Int.negSucc 1) (xo_ri 1)))))))),
  (15, fun ih => xo_lda 0 (xo_gf 10 13 (xo_push (0, 0, Int.ofNat 40) (xo_ic .ne (ih 27) (xo_push (0, 0, Int.negSucc 3) (xo_ri 1)))))),
  (27, fun ih => xo_lda 0 (xo_gf 10 12 (xo_lda 0 (xo_gf 10 13 (xo_ld 0 1 (xo_as 0 (xo_lda 0 (xo_dup (xo_gf 10 13 (xo_push (0, 0, Int.ofNat 1) (xo_bin 0 0 xg_add (xo_pf 10 13 0 (xo_lda 0 (xo_gf 10 13 (xo_ri 1)))))))))))))))]
noncomputable def xm16 : xM := x_mth 0 xt16 100000
set_option maxRecDepth 100000 in
theorem xM16 : x_Ma 16 xm16 := x_Ma_of (r := ev_r16) rfl (xs_mth (hint := (fun _ => [])) (cal := (x_ca 15 xm15 (fun _ => x_no))) (x_Ma_ca xM15 x_Ma_no) (x_T_cons 8 rfl (x_T_cons 6 rfl (x_T_cons 15 rfl x_T_nil))))
/-- NameHall$Text.clear()I -/
noncomputable def xt17 : List (Nat × xB) := [(0, fun ih => xo_lda 0 (xo_gf 8 1 (xo_st 0 1 2 (xo_lda 0 (xo_push (0, 0, Int.ofNat 0) (xo_pf 8 1 0 (xo_ld 0 1 (xo_ri 1))))))))]
noncomputable def xm17 : xM := x_mth 1 xt17 100000
set_option maxRecDepth 100000 in
theorem xM17 : x_Ma 17 xm17 := x_Ma_of (r := ev_r17) rfl (xs_mth (hint := (fun _ => [])) (cal := (fun _ => x_no)) x_Ma_no (x_T_cons 8 rfl x_T_nil))
/-- NameHall.wipe()I -/
noncomputable def xt18 : List (Nat × xB) := [(0, fun ih => xo_lda 0 (xo_gf 9 0 (xo_cl xm17 9 0 2 0 0 0 0 (xo_ri 1))))]
noncomputable def xm18 : xM := x_mth 0 xt18 100000
set_option maxRecDepth 100000 in
theorem xM18 : x_Ma 18 xm18 := x_Ma_of (r := ev_r18) rfl (xs_mth (hint := (fun _ => [])) (cal := (x_ca 17 xm17 (fun _ => x_no))) (x_Ma_ca xM17 x_Ma_no) (x_T_cons 4 rfl x_T_nil))
/-- NameHallModel.wipe()I -/
noncomputable def xt19 : List (Nat × xB) := [(0, fun ih => xo_lda 0 (xo_gf 10 13 (xo_st 0 1 2 (xo_lda 0 (xo_push (0, 0, Int.ofNat 0) (xo_pf 10 13 0 (xo_ld 0 1 (xo_ri 1))))))))]
noncomputable def xm19 : xM := x_mth 1 xt19 100000
set_option maxRecDepth 100000 in
theorem xM19 : x_Ma 19 xm19 := x_Ma_of (r := ev_r19) rfl (xs_mth (hint := (fun _ => [])) (cal := (fun _ => x_no)) x_Ma_no (x_T_cons 8 rfl x_T_nil))
/-- NameHall$Text.letterAt(I)C -/
noncomputable def xt20 : List (Nat × xB) := [(0, fun ih => xo_ld 0 1 (xo_if .lt (ih 30) (xo_ld 0 1 (xo_lda 0 (xo_gf 8 1 (xo_ic .ge (ih 30) (xo_ld 0 1 (xo_lda 0 (xo_gf 8 0 (xo_len none (xo_ic .ge (ih 30) (xo_lda 0 (xo_gf 8 0 (xo_ld 0 1 (xo_al none 1 (ih 31)))))))))))))))),
  (30, fun ih => xo_push (0, 0, Int.ofNat 0) (ih 31)),
  (31, fun ih => xo_ri 3)]
noncomputable def xm20 : xM := x_mth 0 xt20 100000
set_option maxRecDepth 100000 in
theorem xM20 : x_Ma 20 xm20 := x_Ma_of (r := ev_r20) rfl (xs_mth (hint := (fun _ => [])) (cal := (fun _ => x_no)) x_Ma_no (x_T_cons 16 rfl (x_T_cons 1 rfl (x_T_cons 1 rfl x_T_nil))))
/-- NameHall$Text.isWrong(ICC)Z -/
noncomputable def xt21 : List (Nat × xB) := [(0, fun ih => xo_ld 0 1 (xo_lda 0 (xo_gf 8 1 (xo_ic .ge (ih 30) (xo_lda 0 (xo_ld 0 1 (xo_cl xm20 9 1 2 0 0 0 0 (xo_ld 0 2 (xo_ic .lt (ih 26) (xo_lda 0 (xo_ld 0 1 (xo_cl xm20 9 1 2 0 0 0 0 (xo_ld 0 3 (xo_ic .le (ih 30) (ih 26))))))))))))))),
  (26, fun ih => xo_push (0, 0, Int.ofNat 1) (ih 31)),
  (30, fun ih => xo_push (0, 0, Int.ofNat 0) (ih 31)),
  (31, fun ih => xo_ri 2)]
noncomputable def xm21 : xM := x_mth 0 xt21 100000
set_option maxRecDepth 100000 in
theorem xM21 : x_Ma 21 xm21 := x_Ma_of (r := ev_r21) rfl (xs_mth (hint := (fun _ => [])) (cal := (x_ca 20 xm20 (fun _ => x_no))) (x_Ma_ca xM20 x_Ma_no) (x_T_cons 14 rfl (x_T_cons 2 rfl (x_T_cons 1 rfl (x_T_cons 1 rfl x_T_nil)))))
/-- NameHall$Text.nameFault(I)I -/
noncomputable def xt22 : List (Nat × xB) := [(0, fun ih => xo_lda 0 (xo_ld 0 1 (xo_push (0, 0, Int.ofNat 1) (xo_bin 0 0 xg_add (xo_push (0, 0, Int.ofNat 48) (xo_push (0, 0, Int.ofNat 51) (xo_cl xm21 9 3 4 0 0 0 0 (xo_if .eq (ih 18) (xo_ld 0 1 (xo_push (0, 0, Int.ofNat 1) (xo_bin 0 0 xg_add (xo_ri 1)))))))))))),
  (18, fun ih => xo_lda 0 (xo_ld 0 1 (xo_push (0, 0, Int.ofNat 2) (xo_bin 0 0 xg_add (xo_push (0, 0, Int.ofNat 49) (xo_push (0, 0, Int.ofNat 57) (xo_cl xm21 9 3 4 0 0 0 0 (xo_if .eq (ih 36) (xo_ld 0 1 (xo_push (0, 0, Int.ofNat 2) (xo_bin 0 0 xg_add (xo_ri 1)))))))))))),
  (36, fun ih => xo_ld 0 1 (xo_push (0, 0, Int.ofNat 3) (xo_bin 0 0 xg_add (xo_lda 0 (xo_gf 8 1 (xo_ic .le (ih 53) (xo_lda 0 (xo_gf 8 1 (ih 55))))))))),
  (53, fun ih => xo_push (0, 0, Int.negSucc 8) (ih 55)),
  (55, fun ih => xo_ri 1)]
noncomputable def xm22 : xM := x_mth 0 xt22 100000
set_option maxRecDepth 100000 in
theorem xM22 : x_Ma 22 xm22 := x_Ma_of (r := ev_r22) rfl (xs_mth (hint := (fun _ => [])) (cal := (x_ca 21 xm21 (fun _ => x_no))) (x_Ma_ca xM21 x_Ma_no) (x_T_cons 12 rfl (x_T_cons 12 rfl (x_T_cons 9 rfl (x_T_cons 1 rfl (x_T_cons 1 rfl x_T_nil))))))
/-- NameHall$Text.personFault(I)I -/
noncomputable def xt23 : List (Nat × xB) := [(0, fun ih => xo_lda 0 (xo_ld 0 1 (xo_push (0, 0, Int.ofNat 1) (xo_bin 0 0 xg_add (xo_push (0, 0, Int.ofNat 48) (xo_push (0, 0, Int.ofNat 57) (xo_cl xm21 9 3 4 0 0 0 0 (xo_if .eq (ih 18) (xo_ld 0 1 (xo_push (0, 0, Int.ofNat 1) (xo_bin 0 0 xg_add (xo_ri 1)))))))))))),
  (18, fun ih => xo_lda 0 (xo_ld 0 1 (xo_push (0, 0, Int.ofNat 2) (xo_bin 0 0 xg_add (xo_lda 0 (xo_ld 0 1 (xo_push (0, 0, Int.ofNat 1) (xo_bin 0 0 xg_add (xo_cl xm20 9 1 2 0 0 0 0 (xo_push (0, 0, Int.ofNat 57) (xo_cl xm21 9 3 4 0 0 0 0 (xo_if .eq (ih 41) (xo_ld 0 1 (xo_push (0, 0, Int.ofNat 2) (xo_bin 0 0 xg_add (xo_ri 1)))))))))))))))),
  (41, fun ih => xo_lda 0 (xo_ld 0 1 (xo_push (0, 0, Int.ofNat 3) (xo_bin 0 0 xg_add (xo_push (0, 0, Int.ofNat 97) (xo_push (0, 0, Int.ofNat 112) (xo_cl xm21 9 3 4 0 0 0 0 (xo_if .eq (ih 59) (xo_ld 0 1 (xo_push (0, 0, Int.ofNat 3) (xo_bin 0 0 xg_add (xo_ri 1)))))))))))),
  (59, fun ih => xo_ld 0 1 (xo_push (0, 0, Int.ofNat 4) (xo_bin 0 0 xg_add (xo_lda 0 (xo_gf 8 1 (xo_ic .le (ih 76) (xo_lda 0 (xo_gf 8 1 (ih 78))))))))),
  (76, fun ih => xo_push (0, 0, Int.negSucc 8) (ih 78)),
  (78, fun ih => xo_ri 1)]
noncomputable def xm23 : xM := x_mth 0 xt23 100000
set_option maxRecDepth 100000 in
theorem xM23 : x_Ma 23 xm23 := x_Ma_of (r := ev_r23) rfl (xs_mth (hint := (fun _ => [])) (cal := (x_ca 21 xm21 (x_ca 20 xm20 (fun _ => x_no)))) (x_Ma_ca xM21 (x_Ma_ca xM20 x_Ma_no)) (x_T_cons 12 rfl (x_T_cons 16 rfl (x_T_cons 12 rfl (x_T_cons 9 rfl (x_T_cons 1 rfl (x_T_cons 1 rfl x_T_nil)))))))
/-- NameHall$Text.firstFault()I -/
noncomputable def xt24 : List (Nat × xB) := [(0, fun ih => xo_lda 0 (xo_push (0, 0, Int.ofNat 0) (xo_cl xm20 9 1 2 0 0 0 0 (xo_push (0, 0, Int.ofNat 72) (xo_ic .eq (ih 12) (xo_push (0, 0, Int.ofNat 0) (xo_ri 1))))))),
  (12, fun ih => xo_push (0, 0, Int.ofNat 0) (xo_st 0 1 7 (xo_push (0, 0, Int.ofNat 0) (xo_st 0 2 7 (xo_push (0, 0, Int.ofNat 1) (xo_st 0 3 7 (ih 18))))))),
  (18, fun ih => xo_ld 0 3 (xo_lda 0 (xo_gf 8 1 (xo_ic .ge (ih 159) (xo_lda 0 (xo_ld 0 3 (xo_cl xm20 9 1 2 0 0 0 0 (xo_push (0, 0, Int.ofNat 78) (xo_ic .ne (ih 40) (xo_push (0, 0, Int.ofNat 1) (ih 41))))))))))),
  (40, fun ih => xo_push (0, 0, Int.ofNat 0) (ih 41)),
  (41, fun ih => xo_st 0 4 7 (xo_lda 0 (xo_ld 0 3 (xo_cl xm20 9 1 2 0 0 0 0 (xo_push (0, 0, Int.ofNat 80) (xo_ic .ne (ih 57) (xo_push (0, 0, Int.ofNat 1) (ih 58)))))))),
  (57, fun ih => xo_push (0, 0, Int.ofNat 0) (ih 58)),
  (58, fun ih => xo_st 0 5 7 (xo_ld 0 1 (xo_ld 0 4 (xo_if .eq (ih 70) (xo_push (0, 0, Int.ofNat 1) (ih 71)))))),
  (70, fun ih => xo_push (0, 0, Int.ofNat 0) (ih 71)),
  (71, fun ih => xo_bin 0 0 xg_add (xo_st 0 1 7 (xo_ld 0 2 (xo_ld 0 5 (xo_if .eq (ih 83) (xo_push (0, 0, Int.ofNat 1) (ih 84))))))),
  (83, fun ih => xo_push (0, 0, Int.ofNat 0) (ih 84)),
  (84, fun ih => xo_bin 0 0 xg_add (xo_st 0 2 7 (xo_ld 0 4 (xo_if .ne (ih 96) (xo_ld 0 5 (xo_if .eq (ih 106) (ih 96))))))),
  (96, fun ih => xo_ld 0 1 (xo_push (0, 0, Int.ofNat 4) (xo_ic .gt (ih 106) (xo_ld 0 2 (xo_push (0, 0, Int.ofNat 5) (xo_ic .le (ih 108) (ih 106))))))),
  (106, fun ih => xo_ld 0 3 (xo_ri 1)),
  (108, fun ih => xo_ld 0 4 (xo_if .eq (ih 121) (xo_lda 0 (xo_ld 0 3 (xo_cl xm22 9 1 2 0 0 0 0 (ih 126)))))),
  (121, fun ih => xo_lda 0 (xo_ld 0 3 (xo_cl xm23 9 1 2 0 0 0 0 (ih 126)))),
  (126, fun ih => xo_st 0 6 7 (xo_ld 0 6 (xo_push (0, 0, Int.negSucc 8) (xo_ic .eq (ih 138) (xo_ld 0 6 (xo_ri 1)))))),
  (138, fun ih => xo_ld 0 3 (xo_lda 0 (xo_ld 0 3 (xo_cl xm20 9 1 2 0 0 0 0 (xo_push (0, 0, Int.ofNat 78) (xo_ic .ne (ih 153) (xo_push (0, 0, Int.ofNat 3) (ih 154)))))))),
  (153, fun ih => xo_push (0, 0, Int.ofNat 4) (ih 154)),
  (154, fun ih => xo_bin 0 0 xg_add (xo_st 0 3 7 (ih 18))),
  (159, fun ih => xo_push (0, 0, Int.negSucc 8) (xo_ri 1))]
noncomputable def xm24 : xM := x_mth 6 xt24 100000
set_option maxRecDepth 100000 in
theorem xM24 : x_Ma 24 xm24 := x_Ma_of (r := ev_r24) rfl (xs_mth (hint := (fun _ => [])) (cal := (x_ca 20 xm20 (x_ca 22 xm22 (x_ca 23 xm23 (fun _ => x_no))))) (x_Ma_ca xM20 (x_Ma_ca xM22 (x_Ma_ca xM23 x_Ma_no))) (x_T_cons 7 rfl (x_T_cons 6 rfl (x_T_cons 11 rfl (x_T_cons 1 rfl (x_T_cons 8 rfl (x_T_cons 1 rfl (x_T_cons 6 rfl (x_T_cons 1 rfl (x_T_cons 7 rfl (x_T_cons 1 rfl (x_T_cons 6 rfl (x_T_cons 6 rfl (x_T_cons 2 rfl (x_T_cons 6 rfl (x_T_cons 3 rfl (x_T_cons 6 rfl (x_T_cons 8 rfl (x_T_cons 1 rfl (x_T_cons 3 rfl (x_T_cons 2 rfl x_T_nil)))))))))))))))))))))
/-- NameHall.fault()I -/
noncomputable def xt25 : List (Nat × xB) := [(0, fun ih => xo_lda 0 (xo_gf 9 0 (xo_cl xm24 9 0 7 0 0 0 0 (xo_ri 1))))]
noncomputable def xm25 : xM := x_mth 0 xt25 100000
set_option maxRecDepth 100000 in
theorem xM25 : x_Ma 25 xm25 := x_Ma_of (r := ev_r25) rfl (xs_mth (hint := (fun _ => [])) (cal := (x_ca 24 xm24 (fun _ => x_no))) (x_Ma_ca xM24 x_Ma_no) (x_T_cons 4 rfl x_T_nil))
/-- NameHallModel.letterOf(III)I -/
noncomputable def xt26 : List (Nat × xB) := [(0, fun ih => xo_lda 0 (xo_gf 10 15 (xo_push (0, 0, Int.negSucc 8) (xo_ic .ne (ih 32) (xo_lda 0 (xo_gf 10 14 (xo_lda 0 (xo_gf 10 13 (xo_ic .ge (ih 32) (xo_lda 0 (xo_gf 10 12 (xo_lda 0 (xo_gf 10 14 (xo_al none 0 (ih 34))))))))))))))),
  (32, fun ih => xo_push (0, 0, Int.negSucc 8) (ih 34)),
  (34, fun ih => xo_st 0 4 5 (xo_ld 0 4 (xo_un 0 xg_i2l (xo_ld 0 1 (xo_un 0 xg_i2l (xo_ld 0 2 (xo_un 0 xg_i2l (xo_cl xm15 0 3 6 0 0 0 0 (xo_if .ne (ih 75) (xo_lda 0 (xo_lda 0 (xo_gf 10 15 (xo_push (0, 0, Int.negSucc 8) (xo_ic .ne (ih 66) (xo_lda 0 (xo_gf 10 14 (ih 70))))))))))))))))),
  (66, fun ih => xo_lda 0 (xo_gf 10 15 (ih 70))),
  (70, fun ih => xo_pf 10 15 0 (xo_push (0, 0, Int.ofNat 0) (xo_ri 1))),
  (75, fun ih => xo_lda 0 (xo_dup (xo_gf 10 14 (xo_push (0, 0, Int.ofNat 1) (xo_bin 0 0 xg_add (xo_pf 10 14 0 (xo_ld 0 4 (xo_ld 0 3 (xo_bin 0 0 xg_sub (xo_ri 1))))))))))]
noncomputable def xm26 : xM := x_mth 1 xt26 100000
set_option maxRecDepth 100000 in
theorem xM26 : x_Ma 26 xm26 := x_Ma_of (r := ev_r26) rfl (xs_mth (hint := (fun _ => [])) (cal := (x_ca 15 xm15 (fun _ => x_no))) (x_Ma_ca xM15 x_Ma_no) (x_T_cons 15 rfl (x_T_cons 1 rfl (x_T_cons 17 rfl (x_T_cons 2 rfl (x_T_cons 3 rfl (x_T_cons 10 rfl x_T_nil)))))))
/-- NameHallModel.readText()I -/
noncomputable def xt27 : List (Nat × xB) := [(0, fun ih => xo_lda 0 (xo_push (0, 0, Int.ofNat 0) (xo_pf 10 14 0 (xo_lda 0 (xo_push (0, 0, Int.negSucc 8) (xo_pf 10 15 0 (xo_lda 0 (xo_push (0, 0, Int.ofNat 0) (xo_pf 10 10 0 (xo_lda 0 (xo_push (0, 0, Int.ofNat 0) (xo_pf 10 11 0 (xo_lda 0 (xo_gf 10 13 (xo_if .eq (ih 39) (xo_lda 0 (xo_gf 10 12 (xo_push (0, 0, Int.ofNat 0) (xo_al none 0 (xo_push (0, 0, Int.ofNat 72) (xo_ic .eq (ih 41) (ih 39)))))))))))))))))))))),
  (39, fun ih => xo_push (0, 0, Int.ofNat 0) (xo_ri 1)),
  (41, fun ih => xo_lda 0 (xo_push (0, 0, Int.ofNat 1) (xo_pf 10 14 0 (ih 46)))),
  (46, fun ih => xo_lda 0 (xo_gf 10 15 (xo_push (0, 0, Int.negSucc 8) (xo_ic .ne (ih 282) (xo_lda 0 (xo_gf 10 14 (xo_lda 0 (xo_gf 10 13 (xo_ic .ge (ih 282) (xo_lda 0 (xo_gf 10 12 (xo_lda 0 (xo_gf 10 14 (xo_al none 0 (xo_push (0, 0, Int.ofNat 78) (xo_ic .ne (ih 155) (xo_lda 0 (xo_gf 10 10 (xo_push (0, 0, Int.ofNat 4) (xo_ic .ge (ih 155) (xo_lda 0 (xo_dup (xo_gf 10 14 (xo_push (0, 0, Int.ofNat 1) (xo_bin 0 0 xg_add (xo_pf 10 14 0 (xo_lda 0 (xo_gf 10 8 (xo_push (0, 0, Int.ofNat 2) (xo_lda 0 (xo_gf 10 10 (xo_bin 0 0 (xg_i (· * ·) xg_mul) (xo_lda 0 (xo_push (0, 0, Int.ofNat 48) (xo_push (0, 0, Int.ofNat 51) (xo_push (0, 0, Int.ofNat 48) (xo_cl xm26 11 3 5 0 0 0 0 (xo_as 0 (xo_lda 0 (xo_gf 10 8 (xo_push (0, 0, Int.ofNat 2) (xo_lda 0 (xo_gf 10 10 (xo_bin 0 0 (xg_i (· * ·) xg_mul) (xo_push (0, 0, Int.ofNat 1) (xo_bin 0 0 xg_add (xo_lda 0 (xo_push (0, 0, Int.ofNat 49) (xo_push (0, 0, Int.ofNat 57) (xo_push (0, 0, Int.ofNat 48) (xo_cl xm26 11 3 5 0 0 0 0 (xo_as 0 (xo_lda 0 (xo_dup (xo_gf 10 10 (xo_push (0, 0, Int.ofNat 1) (xo_bin 0 0 xg_add (xo_pf 10 10 0 (ih 46))))))))))))))))))))))))))))))))))))))))))))))))))))))))))),
  (155, fun ih => xo_lda 0 (xo_gf 10 12 (xo_lda 0 (xo_gf 10 14 (xo_al none 0 (xo_push (0, 0, Int.ofNat 80) (xo_ic .ne (ih 271) (xo_lda 0 (xo_gf 10 11 (xo_push (0, 0, Int.ofNat 5) (xo_ic .ge (ih 271) (xo_lda 0 (xo_dup (xo_gf 10 14 (xo_push (0, 0, Int.ofNat 1) (xo_bin 0 0 xg_add (xo_pf 10 14 0 (xo_lda 0 (xo_push (0, 0, Int.ofNat 48) (xo_push (0, 0, Int.ofNat 57) (xo_push (0, 0, Int.ofNat 48) (xo_cl xm26 11 3 5 0 0 0 0 (xo_st 0 1 2 (xo_lda 0 (xo_gf 10 9 (xo_push (0, 0, Int.ofNat 3) (xo_lda 0 (xo_gf 10 11 (xo_bin 0 0 (xg_i (· * ·) xg_mul) (xo_ld 0 1 (xo_as 0 (xo_lda 0 (xo_gf 10 9 (xo_push (0, 0, Int.ofNat 3) (xo_lda 0 (xo_gf 10 11 (xo_bin 0 0 (xg_i (· * ·) xg_mul) (xo_push (0, 0, Int.ofNat 1) (xo_bin 0 0 xg_add (xo_lda 0 (xo_push (0, 0, Int.ofNat 48) (xo_ld 0 1 (xo_bin 0 0 xg_add (xo_push (0, 0, Int.ofNat 57) (xo_push (0, 0, Int.ofNat 48) (xo_cl xm26 11 3 5 0 0 0 0 (xo_as 0 (xo_lda 0 (xo_gf 10 9 (xo_push (0, 0, Int.ofNat 3) (xo_lda 0 (xo_gf 10 11 (xo_bin 0 0 (xg_i (· * ·) xg_mul) (xo_push (0, 0, Int.ofNat 2) (xo_bin 0 0 xg_add (xo_lda 0 (xo_push (0, 0, Int.ofNat 97) (xo_push (0, 0, Int.ofNat 112) (xo_push (0, 0, Int.ofNat 97) (xo_cl xm26 11 3 5 0 0 0 0 (xo_as 0 (xo_lda 0 (xo_dup (xo_gf 10 11 (xo_push (0, 0, Int.ofNat 1) (xo_bin 0 0 xg_add (xo_pf 10 11 0 (ih 46)))))))))))))))))))))))))))))))))))))))))))))))))))))))))))))))))))),
  (271, fun ih => xo_lda 0 (xo_lda 0 (xo_gf 10 14 (xo_pf 10 15 0 (ih 46))))),
  (282, fun ih => xo_lda 0 (xo_gf 10 15 (xo_ri 1)))]
noncomputable def xm27 : xM := x_mth 1 xt27 100000
set_option maxRecDepth 100000 in
theorem xM27 : x_Ma 27 xm27 := x_Ma_of (r := ev_r27) rfl (xs_mth (hint := (fun _ => [])) (cal := (x_ca 26 xm26 (fun _ => x_no))) (x_Ma_ca xM26 x_Ma_no) (x_T_cons 21 rfl (x_T_cons 2 rfl (x_T_cons 3 rfl (x_T_cons 59 rfl (x_T_cons 68 rfl (x_T_cons 5 rfl (x_T_cons 3 rfl x_T_nil))))))))
/-- NameHallModel.fault()I -/
noncomputable def xt28 : List (Nat × xB) := [(0, fun ih => xo_lda 0 (xo_cl xm27 11 0 2 0 0 0 0 (xo_ri 1)))]
noncomputable def xm28 : xM := x_mth 0 xt28 100000
set_option maxRecDepth 100000 in
theorem xM28 : x_Ma 28 xm28 := x_Ma_of (r := ev_r28) rfl (xs_mth (hint := (fun _ => [])) (cal := (x_ca 27 xm27 (fun _ => x_no))) (x_Ma_ca xM27 x_Ma_no) (x_T_cons 3 rfl x_T_nil))
/-- NameHall$Plan.addName(II)V -/
noncomputable def xt29 : List (Nat × xB) := [(0, fun ih => xo_lda 0 (xo_gf 4 5 (xo_if .lt (ih 15) (xo_lda 0 (xo_gf 4 5 (xo_push (0, 0, Int.ofNat 4) (xo_ic .lt (ih 16) (ih 15)))))))),
  (15, fun ih => xo_rv 0),
  (16, fun ih => xo_lda 0 (xo_gf 4 0 (xo_lda 0 (xo_gf 4 5 (xo_ld 0 1 (xo_as 0 (xo_lda 0 (xo_gf 4 1 (xo_lda 0 (xo_gf 4 5 (xo_ld 0 2 (xo_as 0 (xo_lda 0 (xo_dup (xo_gf 4 5 (xo_push (0, 0, Int.ofNat 1) (xo_bin 0 0 xg_add (xo_pf 4 5 0 (xo_rv 0)))))))))))))))))))]
noncomputable def xm29 : xM := x_mth 0 xt29 100000
set_option maxRecDepth 100000 in
theorem xM29 : x_Ma 29 xm29 := x_Ma_of (r := ev_r29) rfl (xs_mth (hint := (fun _ => [])) (cal := (fun _ => x_no)) x_Ma_no (x_T_cons 7 rfl (x_T_cons 1 rfl (x_T_cons 19 rfl x_T_nil))))
/-- NameHall$Plan.addPerson(III)V -/
noncomputable def xt30 : List (Nat × xB) := [(0, fun ih => xo_lda 0 (xo_gf 4 6 (xo_if .lt (ih 15) (xo_lda 0 (xo_gf 4 6 (xo_push (0, 0, Int.ofNat 5) (xo_ic .lt (ih 16) (ih 15)))))))),
  (15, fun ih => xo_rv 0),
  (16, fun ih => xo_lda 0 (xo_gf 4 2 (xo_lda 0 (xo_gf 4 6 (xo_ld 0 1 (xo_as 0 (xo_lda 0 (xo_gf 4 3 (xo_lda 0 (xo_gf 4 6 (xo_ld 0 2 (xo_as 0 (xo_lda 0 (xo_gf 4 4 (xo_lda 0 (xo_gf 4 6 (xo_ld 0 3 (xo_as 0 (xo_lda 0 (xo_dup (xo_gf 4 6 (xo_push (0, 0, Int.ofNat 1) (xo_bin 0 0 xg_add (xo_pf 4 6 0 (xo_rv 0)))))))))))))))))))))))))]
noncomputable def xm30 : xM := x_mth 0 xt30 100000
set_option maxRecDepth 100000 in
theorem xM30 : x_Ma 30 xm30 := x_Ma_of (r := ev_r30) rfl (xs_mth (hint := (fun _ => [])) (cal := (fun _ => x_no)) x_Ma_no (x_T_cons 7 rfl (x_T_cons 1 rfl (x_T_cons 25 rfl x_T_nil))))
/-- NameHall$Plan.read(LNameHall$Text;)V -/
noncomputable def xt31 : List (Nat × xB) := [(0, fun ih => xo_lda 0 (xo_push (0, 0, Int.ofNat 0) (xo_pf 4 5 0 (xo_lda 0 (xo_push (0, 0, Int.ofNat 0) (xo_pf 4 6 0 (xo_push (0, 0, Int.ofNat 1) (xo_st 0 2 3 (ih 12))))))))),
  (12, fun ih => xo_ld 0 2 (xo_lda 1 (xo_cl xm13 9 0 1 0 0 0 0 (xo_ic .ge (ih 112) (xo_lda 1 (xo_ld 0 2 (xo_cl xm20 9 1 2 0 0 0 0 (xo_push (0, 0, Int.ofNat 78) (xo_ic .ne (ih 57) (xo_lda 0 (xo_lda 1 (xo_ld 0 2 (xo_push (0, 0, Int.ofNat 1) (xo_bin 0 0 xg_add (xo_cl xm20 9 1 2 0 0 0 0 (xo_push (0, 0, Int.ofNat 48) (xo_bin 0 0 xg_sub (xo_lda 1 (xo_ld 0 2 (xo_push (0, 0, Int.ofNat 2) (xo_bin 0 0 xg_add (xo_cl xm20 9 1 2 0 0 0 0 (xo_push (0, 0, Int.ofNat 48) (xo_bin 0 0 xg_sub (xo_cl xm29 5 2 3 0 0 0 0 (ih 91)))))))))))))))))))))))))),
  (57, fun ih => xo_lda 0 (xo_lda 1 (xo_ld 0 2 (xo_push (0, 0, Int.ofNat 1) (xo_bin 0 0 xg_add (xo_cl xm20 9 1 2 0 0 0 0 (xo_push (0, 0, Int.ofNat 48) (xo_bin 0 0 xg_sub (xo_lda 1 (xo_ld 0 2 (xo_push (0, 0, Int.ofNat 2) (xo_bin 0 0 xg_add (xo_cl xm20 9 1 2 0 0 0 0 (xo_push (0, 0, Int.ofNat 48) (xo_bin 0 0 xg_sub (xo_lda 1 (xo_ld 0 2 (xo_push (0, 0, Int.ofNat 3) (xo_bin 0 0 xg_add (xo_cl xm20 9 1 2 0 0 0 0 (xo_push (0, 0, Int.ofNat 97) (xo_bin 0 0 xg_sub (xo_cl xm30 5 3 4 0 0 0 0 (ih 91)))))))))))))))))))))))),
  (91, fun ih => xo_ld 0 2 (xo_lda 1 (xo_ld 0 2 (xo_cl xm20 9 1 2 0 0 0 0 (xo_push (0, 0, Int.ofNat 78) (xo_ic .ne (ih 106) (xo_push (0, 0, Int.ofNat 3) (ih 107)))))))),
  (106, fun ih => xo_push (0, 0, Int.ofNat 4) (ih 107)),
  (107, fun ih => xo_bin 0 0 xg_add (xo_st 0 2 3 (ih 12))),
  (112, fun ih => xo_rv 0)]
noncomputable def xm31 : xM := x_mth 1 xt31 100000
set_option maxRecDepth 100000 in
theorem xM31 : x_Ma 31 xm31 := x_Ma_of (r := ev_r31) rfl (xs_mth (hint := (fun _ => [])) (cal := (x_ca 13 xm13 (x_ca 20 xm20 (x_ca 29 xm29 (x_ca 30 xm30 (fun _ => x_no)))))) (x_Ma_ca xM13 (x_Ma_ca xM20 (x_Ma_ca xM29 (x_Ma_ca xM30 x_Ma_no)))) (x_T_cons 8 rfl (x_T_cons 26 rfl (x_T_cons 23 rfl (x_T_cons 8 rfl (x_T_cons 1 rfl (x_T_cons 3 rfl (x_T_cons 1 rfl x_T_nil))))))))
/-- NameHall$Scene.hangAll()V -/
noncomputable def xt32 : List (Nat × xB) := [(0, fun ih => xo_lda 0 (xo_gf 6 1 (xo_push (0, 0, Int.negSucc 8) (xo_cl xm2 0 2 4 0 0 0 0 (xo_lda 0 (xo_gf 6 2 (xo_push (0, 0, Int.ofNat 0) (xo_cl xm2 0 2 4 0 0 0 0 (xo_rv 0)))))))))]
noncomputable def xm32 : xM := x_mth 0 xt32 100000
set_option maxRecDepth 100000 in
theorem xM32 : x_Ma 32 xm32 := x_Ma_of (r := ev_r32) rfl (xs_mth (hint := (fun _ => [])) (cal := (x_ca 2 xm2 (fun _ => x_no))) (x_Ma_ca xM2 x_Ma_no) (x_T_cons 9 rfl x_T_nil))
/-- NameHall$Scene.startAnew()V -/
noncomputable def xt33 : List (Nat × xB) := [(0, fun ih => xo_lda 0 (xo_cl xm32 7 0 1 0 0 0 0 (xo_lda 0 (xo_gf 6 3 (xo_push (0, 0, Int.ofNat 0) (xo_cl xm2 0 2 4 0 0 0 0 (xo_lda 0 (xo_push (0, 0, Int.ofNat 0) (xo_pf 6 4 0 (xo_lda 0 (xo_push (0, 0, Int.ofNat 0) (xo_pf 6 5 0 (xo_lda 0 (xo_push (0, 0, Int.ofNat 0) (xo_pf 6 6 0 (xo_rv 0))))))))))))))))]
noncomputable def xm33 : xM := x_mth 0 xt33 100000
set_option maxRecDepth 100000 in
theorem xM33 : x_Ma 33 xm33 := x_Ma_of (r := ev_r33) rfl (xs_mth (hint := (fun _ => [])) (cal := (x_ca 32 xm32 (x_ca 2 xm2 (fun _ => x_no)))) (x_Ma_ca xM32 (x_Ma_ca xM2 x_Ma_no)) (x_T_cons 16 rfl x_T_nil))
/-- NameHall$ActRow.clear()V -/
noncomputable def xt34 : List (Nat × xB) := [(0, fun ih => xo_lda 0 (xo_push (0, 0, Int.ofNat 0) (xo_pf 0 1 0 (xo_lda 0 (xo_push (0, 0, Int.ofNat 0) (xo_pf 0 2 0 (xo_rv 0)))))))]
noncomputable def xm34 : xM := x_mth 0 xt34 100000
set_option maxRecDepth 100000 in
theorem xM34 : x_Ma 34 xm34 := x_Ma_of (r := ev_r34) rfl (xs_mth (hint := (fun _ => [])) (cal := (fun _ => x_no)) x_Ma_no (x_T_cons 7 rfl x_T_nil))
/-- NameHall$Slots.clear()V -/
noncomputable def xt35 : List (Nat × xB) := [(0, fun ih => xo_push (0, 0, Int.ofNat 0) (xo_st 0 1 2 (ih 2))),
  (2, fun ih => xo_ld 0 1 (xo_push (0, 0, Int.ofNat 2) (xo_ic .ge (ih 20) (xo_lda 0 (xo_gf 7 1 (xo_ld 0 1 (xo_push (0, 0, Int.ofNat 0) (xo_as 2 (xo_inc 1 2 (Int.ofNat 1) (ih 2)))))))))),
  (20, fun ih => xo_rv 0)]
noncomputable def xm35 : xM := x_mth 1 xt35 100000
set_option maxRecDepth 100000 in
theorem xM35 : x_Ma 35 xm35 := x_Ma_of (r := ev_r35) rfl (xs_mth (hint := (fun _ => [])) (cal := (fun _ => x_no)) x_Ma_no (x_T_cons 2 rfl (x_T_cons 10 rfl (x_T_cons 1 rfl x_T_nil))))
/-- NameHall$Plan.names()I -/
noncomputable def xt36 : List (Nat × xB) := [(0, fun ih => xo_lda 0 (xo_gf 4 5 (xo_ri 1)))]
noncomputable def xm36 : xM := x_mth 0 xt36 100000
set_option maxRecDepth 100000 in
theorem xM36 : x_Ma 36 xm36 := x_Ma_of (r := ev_r36) rfl (xs_mth (hint := (fun _ => [])) (cal := (fun _ => x_no)) x_Ma_no (x_T_cons 3 rfl x_T_nil))
/-- NameHall$Plan.people()I -/
noncomputable def xt37 : List (Nat × xB) := [(0, fun ih => xo_lda 0 (xo_gf 4 6 (xo_ri 1)))]
noncomputable def xm37 : xM := x_mth 0 xt37 100000
set_option maxRecDepth 100000 in
theorem xM37 : x_Ma 37 xm37 := x_Ma_of (r := ev_r37) rfl (xs_mth (hint := (fun _ => [])) (cal := (fun _ => x_no)) x_Ma_no (x_T_cons 3 rfl x_T_nil))
/-- NameHall.hall()I -/
noncomputable def xt38 : List (Nat × xB) := [(0, fun ih => xo_lda 0 (xo_gf 9 0 (xo_cl xm24 9 0 7 0 0 0 0 (xo_push (0, 0, Int.negSucc 8) (xo_ic .eq (ih 15) (xo_push (0, 0, Int.negSucc 2) (xo_ri 1))))))),
  (15, fun ih => xo_lda 0 (xo_gf 9 1 (xo_lda 0 (xo_gf 9 0 (xo_cl xm31 5 1 3 0 0 0 0 (xo_lda 0 (xo_gf 9 2 (xo_cl xm33 7 0 1 0 0 0 0 (xo_lda 0 (xo_gf 9 4 (xo_cl xm34 1 0 1 0 0 0 0 (xo_lda 0 (xo_gf 9 5 (xo_cl xm35 8 0 2 0 0 0 0 (xo_push (0, 0, Int.ofNat 10) (xo_lda 0 (xo_gf 9 1 (xo_cl xm36 5 0 1 0 0 0 0 (xo_bin 0 0 (xg_i (· * ·) xg_mul) (xo_lda 0 (xo_gf 9 1 (xo_cl xm37 5 0 1 0 0 0 0 (xo_bin 0 0 xg_add (xo_ri 1))))))))))))))))))))))))]
noncomputable def xm38 : xM := x_mth 0 xt38 100000
set_option maxRecDepth 100000 in
theorem xM38 : x_Ma 38 xm38 := x_Ma_of (r := ev_r38) rfl (xs_mth (hint := (fun _ => [])) (cal := (x_ca 24 xm24 (x_ca 31 xm31 (x_ca 33 xm33 (x_ca 34 xm34 (x_ca 35 xm35 (x_ca 36 xm36 (x_ca 37 xm37 (fun _ => x_no))))))))) (x_Ma_ca xM24 (x_Ma_ca xM31 (x_Ma_ca xM33 (x_Ma_ca xM34 (x_Ma_ca xM35 (x_Ma_ca xM36 (x_Ma_ca xM37 x_Ma_no))))))) (x_T_cons 7 rfl (x_T_cons 24 rfl x_T_nil)))
/-- NameHallModel.hall()I -/
noncomputable def xt39 : List (Nat × xB) := [(0, fun ih => xo_lda 0 (xo_cl xm27 11 0 2 0 0 0 0 (xo_push (0, 0, Int.negSucc 8) (xo_ic .eq (ih 12) (xo_push (0, 0, Int.negSucc 2) (xo_ri 1)))))),
  (12, fun ih => xo_lda 0 (xo_lda 0 (xo_gf 10 10 (xo_pf 10 0 0 (xo_lda 0 (xo_lda 0 (xo_gf 10 11 (xo_pf 10 1 0 (xo_push (0, 0, Int.ofNat 0) (xo_st 0 1 2 (ih 30))))))))))),
  (30, fun ih => xo_ld 0 1 (xo_push (0, 0, Int.ofNat 18) (xo_ic .ge (ih 59) (xo_lda 0 (xo_gf 10 7 (xo_ld 0 1 (xo_ld 0 1 (xo_push (0, 0, Int.ofNat 5) (xo_ic .ge (ih 51) (xo_push (0, 0, Int.negSucc 8) (ih 52))))))))))),
  (51, fun ih => xo_push (0, 0, Int.ofNat 0) (ih 52)),
  (52, fun ih => xo_as 0 (xo_inc 1 2 (Int.ofNat 1) (ih 30))),
  (59, fun ih => xo_push (0, 0, Int.ofNat 0) (xo_st 0 1 2 (ih 61))),
  (61, fun ih => xo_ld 0 1 (xo_push (0, 0, Int.ofNat 4) (xo_ic .ge (ih 102) (xo_lda 0 (xo_gf 10 2 (xo_ld 0 1 (xo_lda 0 (xo_gf 10 8 (xo_push (0, 0, Int.ofNat 2) (xo_ld 0 1 (xo_bin 0 0 (xg_i (· * ·) xg_mul) (xo_al none 0 (xo_as 0 (xo_lda 0 (xo_gf 10 3 (xo_ld 0 1 (xo_lda 0 (xo_gf 10 8 (xo_push (0, 0, Int.ofNat 2) (xo_ld 0 1 (xo_bin 0 0 (xg_i (· * ·) xg_mul) (xo_push (0, 0, Int.ofNat 1) (xo_bin 0 0 xg_add (xo_al none 0 (xo_as 0 (xo_inc 1 2 (Int.ofNat 1) (ih 61))))))))))))))))))))))))))),
  (102, fun ih => xo_push (0, 0, Int.ofNat 0) (xo_st 0 1 2 (ih 104))),
  (104, fun ih => xo_ld 0 1 (xo_push (0, 0, Int.ofNat 5) (xo_ic .ge (ih 170) (xo_lda 0 (xo_gf 10 4 (xo_ld 0 1 (xo_lda 0 (xo_gf 10 9 (xo_push (0, 0, Int.ofNat 3) (xo_ld 0 1 (xo_bin 0 0 (xg_i (· * ·) xg_mul) (xo_al none 0 (xo_as 0 (xo_lda 0 (xo_gf 10 5 (xo_ld 0 1 (xo_lda 0 (xo_gf 10 9 (xo_push (0, 0, Int.ofNat 3) (xo_ld 0 1 (xo_bin 0 0 (xg_i (· * ·) xg_mul) (xo_push (0, 0, Int.ofNat 1) (xo_bin 0 0 xg_add (xo_al none 0 (xo_as 0 (xo_lda 0 (xo_gf 10 6 (xo_ld 0 1 (xo_lda 0 (xo_gf 10 9 (xo_push (0, 0, Int.ofNat 3) (xo_ld 0 1 (xo_bin 0 0 (xg_i (· * ·) xg_mul) (xo_push (0, 0, Int.ofNat 2) (xo_bin 0 0 xg_add (xo_al none 0 (xo_push (0, 0, Int.ofNat 1) (xo_lda 0 (xo_gf 10 0 (xo_bin 0 0 (xg_i x_ishl xg_ti) (xo_push (0, 0, Int.ofNat 1) (xo_bin 0 0 xg_sub (xo_bin 0 0 (xg_i (· &&& ·) xg_and) (xo_as 0 (xo_inc 1 2 (Int.ofNat 1) (ih 104)))))))))))))))))))))))))))))))))))))))))))))),
  (170, fun ih => xo_lda 0 (xo_push (0, 0, Int.ofNat 0) (xo_pf 10 16 0 (xo_lda 0 (xo_gf 10 26 (xo_push (0, 0, Int.ofNat 0) (xo_push (0, 0, Int.ofNat 0) (xo_as 2 (xo_lda 0 (xo_gf 10 26 (xo_push (0, 0, Int.ofNat 1) (xo_push (0, 0, Int.ofNat 0) (xo_as 2 (xo_push (0, 0, Int.ofNat 10) (xo_lda 0 (xo_gf 10 0 (xo_bin 0 0 (xg_i (· * ·) xg_mul) (xo_lda 0 (xo_gf 10 1 (xo_bin 0 0 xg_add (xo_ri 1)))))))))))))))))))))]
noncomputable def xm39 : xM := x_mth 1 xt39 100000
set_option maxRecDepth 100000 in
theorem xM39 : x_Ma 39 xm39 := x_Ma_of (r := ev_r39) rfl (xs_mth (hint := (fun _ => [])) (cal := (x_ca 27 xm27 (fun _ => x_no))) (x_Ma_ca xM27 x_Ma_no) (x_T_cons 6 rfl (x_T_cons 10 rfl (x_T_cons 11 rfl (x_T_cons 1 rfl (x_T_cons 3 rfl (x_T_cons 2 rfl (x_T_cons 27 rfl (x_T_cons 2 rfl (x_T_cons 46 rfl (x_T_cons 21 rfl x_T_nil)))))))))))
/-- NameHall$Plan.hasName(I)Z -/
noncomputable def xt40 : List (Nat × xB) := [(0, fun ih => xo_ld 0 1 (xo_if .lt (ih 21) (xo_ld 0 1 (xo_lda 0 (xo_gf 4 5 (xo_ic .ge (ih 21) (xo_ld 0 1 (xo_push (0, 0, Int.ofNat 4) (xo_ic .ge (ih 21) (xo_push (0, 0, Int.ofNat 1) (ih 22))))))))))),
  (21, fun ih => xo_push (0, 0, Int.ofNat 0) (ih 22)),
  (22, fun ih => xo_ri 2)]
noncomputable def xm40 : xM := x_mth 0 xt40 100000
set_option maxRecDepth 100000 in
theorem xM40 : x_Ma 40 xm40 := x_Ma_of (r := ev_r40) rfl (xs_mth (hint := (fun _ => [])) (cal := (fun _ => x_no)) x_Ma_no (x_T_cons 11 rfl (x_T_cons 1 rfl (x_T_cons 1 rfl x_T_nil))))
/-- NameHall$Plan.kind(I)I -/
noncomputable def xt41 : List (Nat × xB) := [(0, fun ih => xo_lda 0 (xo_ld 0 1 (xo_cl xm40 5 1 2 0 0 0 0 (xo_if .eq (ih 17) (xo_lda 0 (xo_gf 4 0 (xo_ld 0 1 (xo_al none 0 (ih 18))))))))),
  (17, fun ih => xo_push (0, 0, Int.ofNat 0) (ih 18)),
  (18, fun ih => xo_ri 1)]
noncomputable def xm41 : xM := x_mth 0 xt41 100000
set_option maxRecDepth 100000 in
theorem xM41 : x_Ma 41 xm41 := x_Ma_of (r := ev_r41) rfl (xs_mth (hint := (fun _ => [])) (cal := (x_ca 40 xm40 (fun _ => x_no))) (x_Ma_ca xM40 x_Ma_no) (x_T_cons 9 rfl (x_T_cons 1 rfl (x_T_cons 1 rfl x_T_nil))))
/-- NameHall$Plan.worth(I)I -/
noncomputable def xt42 : List (Nat × xB) := [(0, fun ih => xo_lda 0 (xo_ld 0 1 (xo_cl xm40 5 1 2 0 0 0 0 (xo_if .eq (ih 17) (xo_lda 0 (xo_gf 4 1 (xo_ld 0 1 (xo_al none 0 (ih 18))))))))),
  (17, fun ih => xo_push (0, 0, Int.ofNat 0) (ih 18)),
  (18, fun ih => xo_ri 1)]
noncomputable def xm42 : xM := x_mth 0 xt42 100000
set_option maxRecDepth 100000 in
theorem xM42 : x_Ma 42 xm42 := x_Ma_of (r := ev_r42) rfl (xs_mth (hint := (fun _ => [])) (cal := (x_ca 40 xm40 (fun _ => x_no))) (x_Ma_ca xM40 x_Ma_no) (x_T_cons 9 rfl (x_T_cons 1 rfl (x_T_cons 1 rfl x_T_nil))))
/-- NameHall$Scene.wearers(I)I -/
noncomputable def xt43 : List (Nat × xB) := [(0, fun ih => xo_push (0, 0, Int.ofNat 0) (xo_st 0 2 4 (xo_push (0, 0, Int.ofNat 0) (xo_st 0 3 4 (ih 4))))),
  (4, fun ih => xo_ld 0 3 (xo_push (0, 0, Int.ofNat 5) (xo_ic .ge (ih 31) (xo_lda 0 (xo_gf 6 1 (xo_ld 0 3 (xo_al none 0 (xo_ld 0 1 (xo_ic .ne (ih 25) (xo_ld 0 2 (xo_push (0, 0, Int.ofNat 1) (xo_ld 0 3 (xo_bin 0 0 (xg_i x_ishl xg_ti) (xo_bin 0 0 (xg_i (· ||| ·) xg_ti) (xo_st 0 2 4 (ih 25)))))))))))))))),
  (25, fun ih => xo_inc 3 4 (Int.ofNat 1) (ih 4)),
  (31, fun ih => xo_ld 0 2 (xo_ri 1))]
noncomputable def xm43 : xM := x_mth 2 xt43 100000
set_option maxRecDepth 100000 in
theorem xM43 : x_Ma 43 xm43 := x_Ma_of (r := ev_r43) rfl (xs_mth (hint := (fun _ => [])) (cal := (fun _ => x_no)) x_Ma_no (x_T_cons 4 rfl (x_T_cons 15 rfl (x_T_cons 2 rfl (x_T_cons 2 rfl x_T_nil)))))
/-- NameHall$Scene.isNameGone(I)Z -/
noncomputable def xt44 : List (Nat × xB) := [(0, fun ih => xo_lda 0 (xo_gf 6 0 (xo_ld 0 1 (xo_cl xm40 5 1 2 0 0 0 0 (xo_if .eq (ih 27) (xo_lda 0 (xo_gf 6 4 (xo_ld 0 1 (xo_bin 0 0 (xg_i x_ishr xg_ti) (xo_push (0, 0, Int.ofNat 1) (xo_bin 0 0 (xg_i (· &&& ·) xg_and) (xo_push (0, 0, Int.ofNat 1) (xo_ic .ne (ih 27) (xo_push (0, 0, Int.ofNat 1) (ih 28))))))))))))))),
  (27, fun ih => xo_push (0, 0, Int.ofNat 0) (ih 28)),
  (28, fun ih => xo_ri 2)]
noncomputable def xm44 : xM := x_mth 0 xt44 100000
set_option maxRecDepth 100000 in
theorem xM44 : x_Ma 44 xm44 := x_Ma_of (r := ev_r44) rfl (xs_mth (hint := (fun _ => [])) (cal := (x_ca 40 xm40 (fun _ => x_no))) (x_Ma_ca xM40 x_Ma_no) (x_T_cons 15 rfl (x_T_cons 1 rfl (x_T_cons 1 rfl x_T_nil))))
/-- NameHall.name(II)I -/
noncomputable def xt45 : List (Nat × xB) := [(0, fun ih => xo_lda 0 (xo_gf 9 1 (xo_ld 0 1 (xo_cl xm40 5 1 2 0 0 0 0 (xo_if .ne (ih 13) (xo_push (0, 0, Int.negSucc 0) (xo_ri 1))))))),
  (13, fun ih => xo_ld 0 2 (xo_sw (Int.ofNat 0) (Int.ofNat 3) 88 [44, 53, 62, 71] ih)),
  (44, fun ih => xo_lda 0 (xo_gf 9 1 (xo_ld 0 1 (xo_cl xm41 5 1 2 0 0 0 0 (xo_ri 1))))),
  (53, fun ih => xo_lda 0 (xo_gf 9 1 (xo_ld 0 1 (xo_cl xm42 5 1 2 0 0 0 0 (xo_ri 1))))),
  (62, fun ih => xo_lda 0 (xo_gf 9 2 (xo_ld 0 1 (xo_cl xm43 7 1 4 0 0 0 0 (xo_ri 1))))),
  (71, fun ih => xo_lda 0 (xo_gf 9 2 (xo_ld 0 1 (xo_cl xm44 7 1 2 0 0 0 0 (xo_if .eq (ih 86) (xo_push (0, 0, Int.ofNat 1) (ih 87))))))),
  (86, fun ih => xo_push (0, 0, Int.ofNat 0) (ih 87)),
  (87, fun ih => xo_ri 1),
  (88, fun ih => xo_push (0, 0, Int.negSucc 1) (xo_ri 1))]
noncomputable def xm45 : xM := x_mth 0 xt45 100000
set_option maxRecDepth 100000 in
theorem xM45 : x_Ma 45 xm45 := x_Ma_of (r := ev_r45) rfl (xs_mth (hint := (fun _ => [])) (cal := (x_ca 40 xm40 (x_ca 41 xm41 (x_ca 42 xm42 (x_ca 43 xm43 (x_ca 44 xm44 (fun _ => x_no))))))) (x_Ma_ca xM40 (x_Ma_ca xM41 (x_Ma_ca xM42 (x_Ma_ca xM43 (x_Ma_ca xM44 x_Ma_no))))) (x_T_cons 7 rfl (x_T_cons 2 rfl (x_T_cons 5 rfl (x_T_cons 5 rfl (x_T_cons 5 rfl (x_T_cons 7 rfl (x_T_cons 1 rfl (x_T_cons 1 rfl (x_T_cons 2 rfl x_T_nil))))))))))
/-- NameHallModel.isName(I)Z -/
noncomputable def xt46 : List (Nat × xB) := [(0, fun ih => xo_ld 0 1 (xo_un 0 xg_i2l (xo_push (1, 0, Int.ofNat 0) (xo_lda 0 (xo_gf 10 0 (xo_push (0, 0, Int.ofNat 1) (xo_bin 0 0 xg_sub (xo_un 0 xg_i2l (xo_cl xm15 0 3 6 0 0 0 0 (xo_ri 2))))))))))]
noncomputable def xm46 : xM := x_mth 0 xt46 100000
set_option maxRecDepth 100000 in
theorem xM46 : x_Ma 46 xm46 := x_Ma_of (r := ev_r46) rfl (xs_mth (hint := (fun _ => [])) (cal := (x_ca 15 xm15 (fun _ => x_no))) (x_Ma_ca xM15 x_Ma_no) (x_T_cons 10 rfl x_T_nil))
/-- NameHallModel.wearers(II)I -/
noncomputable def xt47 : List (Nat × xB) := [(0, fun ih => xo_push (0, 0, Int.ofNat 0) (xo_st 0 3 5 (xo_push (0, 0, Int.ofNat 0) (xo_st 0 4 5 (ih 5))))),
  (5, fun ih => xo_ld 0 4 (xo_lda 0 (xo_gf 10 1 (xo_ic .ge (ih 47) (xo_ld 0 3 (xo_lda 0 (xo_gf 10 7 (xo_push (0, 0, Int.ofNat 18) (xo_ld 0 1 (xo_bin 0 0 (xg_i (· * ·) xg_mul) (xo_ld 0 4 (xo_bin 0 0 xg_add (xo_al none 0 (xo_ld 0 2 (xo_ic .ne (ih 38) (xo_push (0, 0, Int.ofNat 1) (xo_ld 0 4 (xo_bin 0 0 (xg_i x_ishl xg_ti) (ih 39))))))))))))))))))),
  (38, fun ih => xo_push (0, 0, Int.ofNat 0) (ih 39)),
  (39, fun ih => xo_bin 0 0 (xg_i (· ||| ·) xg_ti) (xo_st 0 3 5 (xo_inc 4 5 (Int.ofNat 1) (ih 5)))),
  (47, fun ih => xo_ld 0 3 (xo_ri 1))]
noncomputable def xm47 : xM := x_mth 2 xt47 100000
set_option maxRecDepth 100000 in
theorem xM47 : x_Ma 47 xm47 := x_Ma_of (r := ev_r47) rfl (xs_mth (hint := (fun _ => [])) (cal := (fun _ => x_no)) x_Ma_no (x_T_cons 4 rfl (x_T_cons 19 rfl (x_T_cons 1 rfl (x_T_cons 4 rfl (x_T_cons 2 rfl x_T_nil))))))
/-- NameHallModel.name(II)I -/
noncomputable def xt48 : List (Nat × xB) := [(0, fun ih => xo_lda 0 (xo_ld 0 1 (xo_cl xm46 11 1 2 0 0 0 0 (xo_if .ne (ih 10) (xo_push (0, 0, Int.negSucc 0) (xo_ri 1)))))),
  (10, fun ih => xo_ld 0 2 (xo_sw (Int.ofNat 0) (Int.ofNat 3) 73 [40, 47, 54, 61] ih)),
  (40, fun ih => xo_lda 0 (xo_gf 10 2 (xo_ld 0 1 (xo_al none 0 (xo_ri 1))))),
  (47, fun ih => xo_lda 0 (xo_gf 10 3 (xo_ld 0 1 (xo_al none 0 (xo_ri 1))))),
  (54, fun ih => xo_lda 0 (xo_push (0, 0, Int.ofNat 0) (xo_ld 0 1 (xo_cl xm47 11 2 5 0 0 0 0 (xo_ri 1))))),
  (61, fun ih => xo_lda 0 (xo_gf 10 7 (xo_push (0, 0, Int.ofNat 15) (xo_al none 0 (xo_ld 0 1 (xo_bin 0 0 (xg_i x_ishr xg_ti) (xo_push (0, 0, Int.ofNat 1) (xo_bin 0 0 (xg_i (· &&& ·) xg_and) (xo_ri 1))))))))),
  (73, fun ih => xo_push (0, 0, Int.negSucc 1) (xo_ri 1))]
noncomputable def xm48 : xM := x_mth 0 xt48 100000
set_option maxRecDepth 100000 in
theorem xM48 : x_Ma 48 xm48 := x_Ma_of (r := ev_r48) rfl (xs_mth (hint := (fun _ => [])) (cal := (x_ca 46 xm46 (x_ca 47 xm47 (fun _ => x_no)))) (x_Ma_ca xM46 (x_Ma_ca xM47 x_Ma_no)) (x_T_cons 6 rfl (x_T_cons 2 rfl (x_T_cons 5 rfl (x_T_cons 5 rfl (x_T_cons 5 rfl (x_T_cons 9 rfl (x_T_cons 2 rfl x_T_nil))))))))
/-- NameHall$Plan.hasPerson(I)Z -/
noncomputable def xt49 : List (Nat × xB) := [(0, fun ih => xo_ld 0 1 (xo_if .lt (ih 21) (xo_ld 0 1 (xo_lda 0 (xo_gf 4 6 (xo_ic .ge (ih 21) (xo_ld 0 1 (xo_push (0, 0, Int.ofNat 5) (xo_ic .ge (ih 21) (xo_push (0, 0, Int.ofNat 1) (ih 22))))))))))),
  (21, fun ih => xo_push (0, 0, Int.ofNat 0) (ih 22)),
  (22, fun ih => xo_ri 2)]
noncomputable def xm49 : xM := x_mth 0 xt49 100000
set_option maxRecDepth 100000 in
theorem xM49 : x_Ma 49 xm49 := x_Ma_of (r := ev_r49) rfl (xs_mth (hint := (fun _ => [])) (cal := (fun _ => x_no)) x_Ma_no (x_T_cons 11 rfl (x_T_cons 1 rfl (x_T_cons 1 rfl x_T_nil))))
/-- NameHall$Plan.firstHour(I)I -/
noncomputable def xt50 : List (Nat × xB) := [(0, fun ih => xo_lda 0 (xo_ld 0 1 (xo_cl xm49 5 1 2 0 0 0 0 (xo_if .eq (ih 17) (xo_lda 0 (xo_gf 4 2 (xo_ld 0 1 (xo_al none 0 (ih 18))))))))),
  (17, fun ih => xo_push (0, 0, Int.ofNat 0) (ih 18)),
  (18, fun ih => xo_ri 1)]
noncomputable def xm50 : xM := x_mth 0 xt50 100000
set_option maxRecDepth 100000 in
theorem xM50 : x_Ma 50 xm50 := x_Ma_of (r := ev_r50) rfl (xs_mth (hint := (fun _ => [])) (cal := (x_ca 49 xm49 (fun _ => x_no))) (x_Ma_ca xM49 x_Ma_no) (x_T_cons 9 rfl (x_T_cons 1 rfl (x_T_cons 1 rfl x_T_nil))))
/-- NameHall$Plan.lastHour(I)I -/
noncomputable def xt51 : List (Nat × xB) := [(0, fun ih => xo_lda 0 (xo_ld 0 1 (xo_cl xm49 5 1 2 0 0 0 0 (xo_if .eq (ih 17) (xo_lda 0 (xo_gf 4 3 (xo_ld 0 1 (xo_al none 0 (ih 18))))))))),
  (17, fun ih => xo_push (0, 0, Int.ofNat 0) (ih 18)),
  (18, fun ih => xo_ri 1)]
noncomputable def xm51 : xM := x_mth 0 xt51 100000
set_option maxRecDepth 100000 in
theorem xM51 : x_Ma 51 xm51 := x_Ma_of (r := ev_r51) rfl (xs_mth (hint := (fun _ => [])) (cal := (x_ca 49 xm49 (fun _ => x_no))) (x_Ma_ca xM49 x_Ma_no) (x_T_cons 9 rfl (x_T_cons 1 rfl (x_T_cons 1 rfl x_T_nil))))
/-- NameHall$Plan.fits(I)I -/
noncomputable def xt52 : List (Nat × xB) := [(0, fun ih => xo_lda 0 (xo_ld 0 1 (xo_cl xm49 5 1 2 0 0 0 0 (xo_if .eq (ih 26) (xo_lda 0 (xo_gf 4 4 (xo_ld 0 1 (xo_al none 0 (xo_push (0, 0, Int.ofNat 1) (xo_lda 0 (xo_gf 4 5 (xo_bin 0 0 (xg_i x_ishl xg_ti) (xo_push (0, 0, Int.ofNat 1) (xo_bin 0 0 xg_sub (xo_bin 0 0 (xg_i (· &&& ·) xg_and) (ih 27)))))))))))))))),
  (26, fun ih => xo_push (0, 0, Int.ofNat 0) (ih 27)),
  (27, fun ih => xo_ri 1)]
noncomputable def xm52 : xM := x_mth 0 xt52 100000
set_option maxRecDepth 100000 in
theorem xM52 : x_Ma 52 xm52 := x_Ma_of (r := ev_r52) rfl (xs_mth (hint := (fun _ => [])) (cal := (x_ca 49 xm49 (fun _ => x_no))) (x_Ma_ca xM49 x_Ma_no) (x_T_cons 16 rfl (x_T_cons 1 rfl (x_T_cons 1 rfl x_T_nil))))
/-- NameHall$Scene.nameOf(I)I -/
noncomputable def xt53 : List (Nat × xB) := [(0, fun ih => xo_lda 0 (xo_gf 6 0 (xo_ld 0 1 (xo_cl xm49 5 1 2 0 0 0 0 (xo_if .eq (ih 20) (xo_lda 0 (xo_gf 6 1 (xo_ld 0 1 (xo_al none 0 (ih 22)))))))))),
  (20, fun ih => xo_push (0, 0, Int.negSucc 8) (ih 22)),
  (22, fun ih => xo_ri 1)]
noncomputable def xm53 : xM := x_mth 0 xt53 100000
set_option maxRecDepth 100000 in
theorem xM53 : x_Ma 53 xm53 := x_Ma_of (r := ev_r53) rfl (xs_mth (hint := (fun _ => [])) (cal := (x_ca 49 xm49 (fun _ => x_no))) (x_Ma_ca xM49 x_Ma_no) (x_T_cons 10 rfl (x_T_cons 1 rfl (x_T_cons 1 rfl x_T_nil))))
/-- NameHall$Scene.hoursWorn(I)I -/
noncomputable def xt54 : List (Nat × xB) := [(0, fun ih => xo_lda 0 (xo_gf 6 0 (xo_ld 0 1 (xo_cl xm49 5 1 2 0 0 0 0 (xo_if .eq (ih 20) (xo_lda 0 (xo_gf 6 2 (xo_ld 0 1 (xo_al none 0 (ih 21)))))))))),
  (20, fun ih => xo_push (0, 0, Int.ofNat 0) (ih 21)),
  (21, fun ih => xo_ri 1)]
noncomputable def xm54 : xM := x_mth 0 xt54 100000
set_option maxRecDepth 100000 in
theorem xM54 : x_Ma 54 xm54 := x_Ma_of (r := ev_r54) rfl (xs_mth (hint := (fun _ => [])) (cal := (x_ca 49 xm49 (fun _ => x_no))) (x_Ma_ca xM49 x_Ma_no) (x_T_cons 10 rfl (x_T_cons 1 rfl (x_T_cons 1 rfl x_T_nil))))
/-- NameHall$Scene.hoursWaited(I)I -/
noncomputable def xt55 : List (Nat × xB) := [(0, fun ih => xo_lda 0 (xo_gf 6 0 (xo_ld 0 1 (xo_cl xm49 5 1 2 0 0 0 0 (xo_if .eq (ih 20) (xo_lda 0 (xo_gf 6 3 (xo_ld 0 1 (xo_al none 0 (ih 21)))))))))),
  (20, fun ih => xo_push (0, 0, Int.ofNat 0) (ih 21)),
  (21, fun ih => xo_ri 1)]
noncomputable def xm55 : xM := x_mth 0 xt55 100000
set_option maxRecDepth 100000 in
theorem xM55 : x_Ma 55 xm55 := x_Ma_of (r := ev_r55) rfl (xs_mth (hint := (fun _ => [])) (cal := (x_ca 49 xm49 (fun _ => x_no))) (x_Ma_ca xM49 x_Ma_no) (x_T_cons 10 rfl (x_T_cons 1 rfl (x_T_cons 1 rfl x_T_nil))))
/-- NameHall$Scene.halvesWorn()I -/
noncomputable def xt56 : List (Nat × xB) := [(0, fun ih => xo_push (0, 0, Int.ofNat 0) (xo_st 0 1 4 (xo_push (0, 0, Int.ofNat 0) (xo_st 0 2 4 (ih 4))))),
  (4, fun ih => xo_ld 0 2 (xo_push (0, 0, Int.ofNat 5) (xo_ic .ge (ih 46) (xo_lda 0 (xo_gf 6 1 (xo_ld 0 2 (xo_al none 0 (xo_st 0 3 4 (xo_ld 0 3 (xo_push (0, 0, Int.negSucc 8) (xo_ic .eq (ih 40) (xo_lda 0 (xo_gf 6 0 (xo_ld 0 3 (xo_cl xm41 5 1 2 0 0 0 0 (xo_push (0, 0, Int.ofNat 1) (xo_ic .ne (ih 40) (xo_ld 0 1 (xo_push (0, 0, Int.ofNat 1) (xo_ld 0 3 (xo_bin 0 0 (xg_i x_ishl xg_ti) (xo_bin 0 0 (xg_i (· ||| ·) xg_ti) (xo_st 0 1 4 (ih 40)))))))))))))))))))))))),
  (40, fun ih => xo_inc 2 4 (Int.ofNat 1) (ih 4)),
  (46, fun ih => xo_ld 0 1 (xo_ri 1))]
noncomputable def xm56 : xM := x_mth 3 xt56 100000
set_option maxRecDepth 100000 in
theorem xM56 : x_Ma 56 xm56 := x_Ma_of (r := ev_r56) rfl (xs_mth (hint := (fun _ => [])) (cal := (x_ca 41 xm41 (fun _ => x_no))) (x_Ma_ca xM41 x_Ma_no) (x_T_cons 4 rfl (x_T_cons 23 rfl (x_T_cons 2 rfl (x_T_cons 2 rfl x_T_nil)))))
/-- NameHall$Scene.somebodies()I -/
noncomputable def xt57 : List (Nat × xB) := [(0, fun ih => xo_lda 0 (xo_cl xm56 7 0 4 0 0 0 0 (xo_st 0 1 5 (xo_push (0, 0, Int.ofNat 0) (xo_st 0 2 5 (xo_push (0, 0, Int.ofNat 0) (xo_st 0 3 5 (ih 9)))))))),
  (9, fun ih => xo_ld 0 3 (xo_push (0, 0, Int.ofNat 5) (xo_ic .ge (ih 65) (xo_lda 0 (xo_gf 6 1 (xo_ld 0 3 (xo_al none 0 (xo_st 0 4 5 (xo_ld 0 4 (xo_push (0, 0, Int.negSucc 8) (xo_ic .eq (ih 59) (xo_lda 0 (xo_gf 6 0 (xo_ld 0 4 (xo_cl xm41 5 1 2 0 0 0 0 (xo_push (0, 0, Int.ofNat 1) (xo_ic .ne (ih 53) (xo_ld 0 1 (xo_push (0, 0, Int.ofNat 1) (xo_ld 0 4 (xo_bin 0 0 (xg_i x_ishl xg_ti) (xo_push (0, 0, Int.negSucc 0) (xo_bin 0 0 (xg_i (· ^^^ ·) xg_ti) (xo_bin 0 0 (xg_i (· &&& ·) xg_and) (xo_if .eq (ih 59) (ih 53)))))))))))))))))))))))))),
  (53, fun ih => xo_ld 0 2 (xo_push (0, 0, Int.ofNat 1) (xo_ld 0 3 (xo_bin 0 0 (xg_i x_ishl xg_ti) (xo_bin 0 0 (xg_i (· ||| ·) xg_ti) (xo_st 0 2 5 (ih 59))))))),
  (59, fun ih => xo_inc 3 5 (Int.ofNat 1) (ih 9)),
  (65, fun ih => xo_ld 0 2 (xo_ri 1))]
noncomputable def xm57 : xM := x_mth 4 xt57 100000
set_option maxRecDepth 100000 in
theorem xM57 : x_Ma 57 xm57 := x_Ma_of (r := ev_r57) rfl (xs_mth (hint := (fun _ => [])) (cal := (x_ca 56 xm56 (x_ca 41 xm41 (fun _ => x_no)))) (x_Ma_ca xM56 (x_Ma_ca xM41 x_Ma_no)) (x_T_cons 7 rfl (x_T_cons 25 rfl (x_T_cons 6 rfl (x_T_cons 2 rfl (x_T_cons 2 rfl x_T_nil))))))
/-- NameHall$Scene.isSomebody(I)Z -/
noncomputable def xt58 : List (Nat × xB) := [(0, fun ih => xo_lda 0 (xo_gf 6 0 (xo_ld 0 1 (xo_cl xm49 5 1 2 0 0 0 0 (xo_if .eq (ih 27) (xo_lda 0 (xo_cl xm57 7 0 5 0 0 0 0 (xo_ld 0 1 (xo_bin 0 0 (xg_i x_ishr xg_ti) (xo_push (0, 0, Int.ofNat 1) (xo_bin 0 0 (xg_i (· &&& ·) xg_and) (xo_push (0, 0, Int.ofNat 1) (xo_ic .ne (ih 27) (xo_push (0, 0, Int.ofNat 1) (ih 28))))))))))))))),
  (27, fun ih => xo_push (0, 0, Int.ofNat 0) (ih 28)),
  (28, fun ih => xo_ri 2)]
noncomputable def xm58 : xM := x_mth 0 xt58 100000
set_option maxRecDepth 100000 in
theorem xM58 : x_Ma 58 xm58 := x_Ma_of (r := ev_r58) rfl (xs_mth (hint := (fun _ => [])) (cal := (x_ca 49 xm49 (x_ca 57 xm57 (fun _ => x_no)))) (x_Ma_ca xM49 (x_Ma_ca xM57 x_Ma_no)) (x_T_cons 15 rfl (x_T_cons 1 rfl (x_T_cons 1 rfl x_T_nil))))
/-- NameHall$Scene.isPersonGone(I)Z -/
noncomputable def xt59 : List (Nat × xB) := [(0, fun ih => xo_lda 0 (xo_gf 6 0 (xo_ld 0 1 (xo_cl xm49 5 1 2 0 0 0 0 (xo_if .eq (ih 27) (xo_lda 0 (xo_gf 6 5 (xo_ld 0 1 (xo_bin 0 0 (xg_i x_ishr xg_ti) (xo_push (0, 0, Int.ofNat 1) (xo_bin 0 0 (xg_i (· &&& ·) xg_and) (xo_push (0, 0, Int.ofNat 1) (xo_ic .ne (ih 27) (xo_push (0, 0, Int.ofNat 1) (ih 28))))))))))))))),
  (27, fun ih => xo_push (0, 0, Int.ofNat 0) (ih 28)),
  (28, fun ih => xo_ri 2)]
noncomputable def xm59 : xM := x_mth 0 xt59 100000
set_option maxRecDepth 100000 in
theorem xM59 : x_Ma 59 xm59 := x_Ma_of (r := ev_r59) rfl (xs_mth (hint := (fun _ => [])) (cal := (x_ca 49 xm49 (fun _ => x_no))) (x_Ma_ca xM49 x_Ma_no) (x_T_cons 15 rfl (x_T_cons 1 rfl (x_T_cons 1 rfl x_T_nil))))
/-- NameHall.person(II)I -/
noncomputable def xt60 : List (Nat × xB) := [(0, fun ih => xo_lda 0 (xo_gf 9 1 (xo_ld 0 1 (xo_cl xm49 5 1 2 0 0 0 0 (xo_if .ne (ih 13) (xo_push (0, 0, Int.negSucc 0) (xo_ri 1))))))),
  (13, fun ih => xo_ld 0 2 (xo_sw (Int.ofNat 0) (Int.ofNat 7) 148 [60, 69, 78, 87, 96, 105, 114, 131] ih)),
  (60, fun ih => xo_lda 0 (xo_gf 9 1 (xo_ld 0 1 (xo_cl xm50 5 1 2 0 0 0 0 (xo_ri 1))))),
  (69, fun ih => xo_lda 0 (xo_gf 9 1 (xo_ld 0 1 (xo_cl xm51 5 1 2 0 0 0 0 (xo_ri 1))))),
  (78, fun ih => xo_lda 0 (xo_gf 9 1 (xo_ld 0 1 (xo_cl xm52 5 1 2 0 0 0 0 (xo_ri 1))))),
  (87, fun ih => xo_lda 0 (xo_gf 9 2 (xo_ld 0 1 (xo_cl xm53 7 1 2 0 0 0 0 (xo_ri 1))))),
  (96, fun ih => xo_lda 0 (xo_gf 9 2 (xo_ld 0 1 (xo_cl xm54 7 1 2 0 0 0 0 (xo_ri 1))))),
  (105, fun ih => xo_lda 0 (xo_gf 9 2 (xo_ld 0 1 (xo_cl xm55 7 1 2 0 0 0 0 (xo_ri 1))))),
  (114, fun ih => xo_lda 0 (xo_gf 9 2 (xo_ld 0 1 (xo_cl xm58 7 1 2 0 0 0 0 (xo_if .eq (ih 129) (xo_push (0, 0, Int.ofNat 1) (ih 130))))))),
  (129, fun ih => xo_push (0, 0, Int.ofNat 0) (ih 130)),
  (130, fun ih => xo_ri 1),
  (131, fun ih => xo_lda 0 (xo_gf 9 2 (xo_ld 0 1 (xo_cl xm59 7 1 2 0 0 0 0 (xo_if .eq (ih 146) (xo_push (0, 0, Int.ofNat 1) (ih 147))))))),
  (146, fun ih => xo_push (0, 0, Int.ofNat 0) (ih 147)),
  (147, fun ih => xo_ri 1),
  (148, fun ih => xo_push (0, 0, Int.negSucc 1) (xo_ri 1))]
noncomputable def xm60 : xM := x_mth 0 xt60 100000
set_option maxRecDepth 100000 in
theorem xM60 : x_Ma 60 xm60 := x_Ma_of (r := ev_r60) rfl (xs_mth (hint := (fun _ => [])) (cal := (x_ca 49 xm49 (x_ca 50 xm50 (x_ca 51 xm51 (x_ca 52 xm52 (x_ca 53 xm53 (x_ca 54 xm54 (x_ca 55 xm55 (x_ca 58 xm58 (x_ca 59 xm59 (fun _ => x_no))))))))))) (x_Ma_ca xM49 (x_Ma_ca xM50 (x_Ma_ca xM51 (x_Ma_ca xM52 (x_Ma_ca xM53 (x_Ma_ca xM54 (x_Ma_ca xM55 (x_Ma_ca xM58 (x_Ma_ca xM59 x_Ma_no))))))))) (x_T_cons 7 rfl (x_T_cons 2 rfl (x_T_cons 5 rfl (x_T_cons 5 rfl (x_T_cons 5 rfl (x_T_cons 5 rfl (x_T_cons 5 rfl (x_T_cons 5 rfl (x_T_cons 7 rfl (x_T_cons 1 rfl (x_T_cons 1 rfl (x_T_cons 7 rfl (x_T_cons 1 rfl (x_T_cons 1 rfl (x_T_cons 2 rfl x_T_nil))))))))))))))))
/-- NameHallModel.isPerson(I)Z -/
noncomputable def xt61 : List (Nat × xB) := [(0, fun ih => xo_ld 0 1 (xo_un 0 xg_i2l (xo_push (1, 0, Int.ofNat 0) (xo_lda 0 (xo_gf 10 1 (xo_push (0, 0, Int.ofNat 1) (xo_bin 0 0 xg_sub (xo_un 0 xg_i2l (xo_cl xm15 0 3 6 0 0 0 0 (xo_ri 2))))))))))]
noncomputable def xm61 : xM := x_mth 0 xt61 100000
set_option maxRecDepth 100000 in
theorem xM61 : x_Ma 61 xm61 := x_Ma_of (r := ev_r61) rfl (xs_mth (hint := (fun _ => [])) (cal := (x_ca 15 xm15 (fun _ => x_no))) (x_Ma_ca xM15 x_Ma_no) (x_T_cons 10 rfl x_T_nil))
/-- NameHallModel.isSomebody(II)Z -/
noncomputable def xt62 : List (Nat × xB) := [(0, fun ih => xo_lda 0 (xo_gf 10 7 (xo_push (0, 0, Int.ofNat 18) (xo_ld 0 1 (xo_bin 0 0 (xg_i (· * ·) xg_mul) (xo_ld 0 2 (xo_bin 0 0 xg_add (xo_al none 0 (xo_st 0 3 6 (xo_ld 0 3 (xo_push (0, 0, Int.negSucc 8) (xo_ic .eq (ih 28) (xo_lda 0 (xo_gf 10 2 (xo_ld 0 3 (xo_al none 0 (xo_push (0, 0, Int.ofNat 1) (xo_ic .eq (ih 40) (ih 28))))))))))))))))))),
  (28, fun ih => xo_ld 0 3 (xo_push (0, 0, Int.negSucc 8) (xo_ic .eq (ih 38) (xo_push (0, 0, Int.ofNat 1) (ih 39))))),
  (38, fun ih => xo_push (0, 0, Int.ofNat 0) (ih 39)),
  (39, fun ih => xo_ri 2),
  (40, fun ih => xo_push (0, 0, Int.ofNat 0) (xo_st 0 4 6 (xo_push (0, 0, Int.ofNat 0) (xo_st 0 5 6 (ih 46))))),
  (46, fun ih => xo_ld 0 5 (xo_lda 0 (xo_gf 10 0 (xo_ic .ge (ih 100) (xo_ld 0 4 (xo_if .ne (ih 87) (xo_ld 0 5 (xo_ld 0 3 (xo_ic .eq (ih 91) (xo_lda 0 (xo_gf 10 2 (xo_ld 0 5 (xo_al none 0 (xo_push (0, 0, Int.ofNat 1) (xo_ic .ne (ih 91) (xo_lda 0 (xo_ld 0 1 (xo_ld 0 5 (xo_cl xm47 11 2 5 0 0 0 0 (xo_if .eq (ih 91) (ih 87))))))))))))))))))))),
  (87, fun ih => xo_push (0, 0, Int.ofNat 1) (ih 92)),
  (91, fun ih => xo_push (0, 0, Int.ofNat 0) (ih 92)),
  (92, fun ih => xo_st 0 4 6 (xo_inc 5 6 (Int.ofNat 1) (ih 46))),
  (100, fun ih => xo_ld 0 4 (xo_ri 2))]
noncomputable def xm62 : xM := x_mth 3 xt62 100000
set_option maxRecDepth 100000 in
theorem xM62 : x_Ma 62 xm62 := x_Ma_of (r := ev_r62) rfl (xs_mth (hint := (fun _ => [])) (cal := (x_ca 47 xm47 (fun _ => x_no))) (x_Ma_ca xM47 x_Ma_no) (x_T_cons 18 rfl (x_T_cons 5 rfl (x_T_cons 1 rfl (x_T_cons 1 rfl (x_T_cons 4 rfl (x_T_cons 20 rfl (x_T_cons 2 rfl (x_T_cons 1 rfl (x_T_cons 3 rfl (x_T_cons 2 rfl x_T_nil)))))))))))
/-- NameHallModel.person(II)I -/
noncomputable def xt63 : List (Nat × xB) := [(0, fun ih => xo_lda 0 (xo_ld 0 1 (xo_cl xm61 11 1 2 0 0 0 0 (xo_if .ne (ih 10) (xo_push (0, 0, Int.negSucc 0) (xo_ri 1)))))),
  (10, fun ih => xo_ld 0 2 (xo_sw (Int.ofNat 0) (Int.ofNat 7) 130 [56, 63, 70, 77, 84, 93, 103, 118] ih)),
  (56, fun ih => xo_lda 0 (xo_gf 10 4 (xo_ld 0 1 (xo_al none 0 (xo_ri 1))))),
  (63, fun ih => xo_lda 0 (xo_gf 10 5 (xo_ld 0 1 (xo_al none 0 (xo_ri 1))))),
  (70, fun ih => xo_lda 0 (xo_gf 10 6 (xo_ld 0 1 (xo_al none 0 (xo_ri 1))))),
  (77, fun ih => xo_lda 0 (xo_gf 10 7 (xo_ld 0 1 (xo_al none 0 (xo_ri 1))))),
  (84, fun ih => xo_lda 0 (xo_gf 10 7 (xo_push (0, 0, Int.ofNat 5) (xo_ld 0 1 (xo_bin 0 0 xg_add (xo_al none 0 (xo_ri 1))))))),
  (93, fun ih => xo_lda 0 (xo_gf 10 7 (xo_push (0, 0, Int.ofNat 10) (xo_ld 0 1 (xo_bin 0 0 xg_add (xo_al none 0 (xo_ri 1))))))),
  (103, fun ih => xo_lda 0 (xo_push (0, 0, Int.ofNat 0) (xo_ld 0 1 (xo_cl xm62 11 2 6 0 0 0 0 (xo_if .eq (ih 116) (xo_push (0, 0, Int.ofNat 1) (ih 117))))))),
  (116, fun ih => xo_push (0, 0, Int.ofNat 0) (ih 117)),
  (117, fun ih => xo_ri 1),
  (118, fun ih => xo_lda 0 (xo_gf 10 7 (xo_push (0, 0, Int.ofNat 16) (xo_al none 0 (xo_ld 0 1 (xo_bin 0 0 (xg_i x_ishr xg_ti) (xo_push (0, 0, Int.ofNat 1) (xo_bin 0 0 (xg_i (· &&& ·) xg_and) (xo_ri 1))))))))),
  (130, fun ih => xo_push (0, 0, Int.negSucc 1) (xo_ri 1))]
noncomputable def xm63 : xM := x_mth 0 xt63 100000
set_option maxRecDepth 100000 in
theorem xM63 : x_Ma 63 xm63 := x_Ma_of (r := ev_r63) rfl (xs_mth (hint := (fun _ => [])) (cal := (x_ca 61 xm61 (x_ca 62 xm62 (fun _ => x_no)))) (x_Ma_ca xM61 (x_Ma_ca xM62 x_Ma_no)) (x_T_cons 6 rfl (x_T_cons 2 rfl (x_T_cons 5 rfl (x_T_cons 5 rfl (x_T_cons 5 rfl (x_T_cons 5 rfl (x_T_cons 7 rfl (x_T_cons 7 rfl (x_T_cons 7 rfl (x_T_cons 1 rfl (x_T_cons 1 rfl (x_T_cons 9 rfl (x_T_cons 2 rfl x_T_nil))))))))))))))
/-- NameHall$Scene.isFitting(II)Z -/
noncomputable def xt64 : List (Nat × xB) := [(0, fun ih => xo_lda 0 (xo_gf 6 0 (xo_ld 0 2 (xo_cl xm40 5 1 2 0 0 0 0 (xo_if .eq (ih 39) (xo_lda 0 (xo_ld 0 1 (xo_cl xm59 7 1 2 0 0 0 0 (xo_if .ne (ih 39) (xo_lda 0 (xo_gf 6 0 (xo_ld 0 1 (xo_cl xm52 5 1 2 0 0 0 0 (xo_ld 0 2 (xo_bin 0 0 (xg_i x_ishr xg_ti) (xo_push (0, 0, Int.ofNat 1) (xo_bin 0 0 (xg_i (· &&& ·) xg_and) (xo_push (0, 0, Int.ofNat 1) (xo_ic .ne (ih 39) (xo_push (0, 0, Int.ofNat 1) (ih 40))))))))))))))))))))),
  (39, fun ih => xo_push (0, 0, Int.ofNat 0) (ih 40)),
  (40, fun ih => xo_ri 2)]
noncomputable def xm64 : xM := x_mth 0 xt64 100000
set_option maxRecDepth 100000 in
theorem xM64 : x_Ma 64 xm64 := x_Ma_of (r := ev_r64) rfl (xs_mth (hint := (fun _ => [])) (cal := (x_ca 40 xm40 (x_ca 59 xm59 (x_ca 52 xm52 (fun _ => x_no))))) (x_Ma_ca xM40 (x_Ma_ca xM59 (x_Ma_ca xM52 x_Ma_no))) (x_T_cons 21 rfl (x_T_cons 1 rfl (x_T_cons 1 rfl x_T_nil))))
/-- java/lang/Integer.bitCount(I)I -/
noncomputable def xt65 : List (Nat × xB) := [(0, fun ih => xo_ld 0 0 (xo_ld 0 0 (xo_push (0, 0, Int.ofNat 1) (xo_bin 0 0 (xg_i x_iushr xg_ti) (xo_push (0, 0, Int.ofNat 1431655765) (xo_bin 0 0 (xg_i (· &&& ·) xg_and) (xo_bin 0 0 xg_sub (xo_st 0 0 1 (xo_ld 0 0 (xo_push (0, 0, Int.ofNat 858993459) (xo_bin 0 0 (xg_i (· &&& ·) xg_and) (xo_ld 0 0 (xo_push (0, 0, Int.ofNat 2) (xo_bin 0 0 (xg_i x_iushr xg_ti) (xo_push (0, 0, Int.ofNat 858993459) (xo_bin 0 0 (xg_i (· &&& ·) xg_and) (xo_bin 0 0 xg_add (xo_st 0 0 1 (xo_ld 0 0 (xo_ld 0 0 (xo_push (0, 0, Int.ofNat 4) (xo_bin 0 0 (xg_i x_iushr xg_ti) (xo_bin 0 0 xg_add (xo_push (0, 0, Int.ofNat 252645135) (xo_bin 0 0 (xg_i (· &&& ·) xg_and) (xo_st 0 0 1 (xo_ld 0 0 (xo_ld 0 0 (xo_push (0, 0, Int.ofNat 8) (xo_bin 0 0 (xg_i x_iushr xg_ti) (xo_bin 0 0 xg_add (xo_st 0 0 1 (xo_ld 0 0 (xo_ld 0 0 (xo_push (0, 0, Int.ofNat 16) (xo_bin 0 0 (xg_i x_iushr xg_ti) (xo_bin 0 0 xg_add (xo_st 0 0 1 (xo_ld 0 0 (xo_push (0, 0, Int.ofNat 63) (xo_bin 0 0 (xg_i (· &&& ·) xg_and) (xo_ri 1))))))))))))))))))))))))))))))))))))))))))]
noncomputable def xm65 : xM := x_mth 0 xt65 100000
set_option maxRecDepth 100000 in
theorem xM65 : x_Ma 65 xm65 := x_Ma_of (r := ev_r65) rfl (xs_mth (hint := (fun _ => [])) (cal := (fun _ => x_no)) x_Ma_no (x_T_cons 42 rfl x_T_nil))
/-- NameHall$Plan.room(I)I -/
noncomputable def xt66 : List (Nat × xB) := [(0, fun ih => xo_lda 0 (xo_ld 0 1 (xo_cl xm41 5 1 2 0 0 0 0 (xo_push (0, 0, Int.ofNat 2) (xo_ic .ne (ih 13) (xo_push (0, 0, Int.ofNat 2) (ih 14))))))),
  (13, fun ih => xo_push (0, 0, Int.ofNat 1) (ih 14)),
  (14, fun ih => xo_ri 1)]
noncomputable def xm66 : xM := x_mth 0 xt66 100000
set_option maxRecDepth 100000 in
theorem xM66 : x_Ma 66 xm66 := x_Ma_of (r := ev_r66) rfl (xs_mth (hint := (fun _ => [])) (cal := (x_ca 41 xm41 (fun _ => x_no))) (x_Ma_ca xM41 x_Ma_no) (x_T_cons 7 rfl (x_T_cons 1 rfl (x_T_cons 1 rfl x_T_nil))))
/-- NameHall$Scene.canTake(II)Z -/
noncomputable def xt67 : List (Nat × xB) := [(0, fun ih => xo_lda 0 (xo_ld 0 1 (xo_cl xm53 7 1 2 0 0 0 0 (xo_push (0, 0, Int.negSucc 8) (xo_ic .ne (ih 50) (xo_lda 0 (xo_ld 0 1 (xo_ld 0 2 (xo_cl xm64 7 2 3 0 0 0 0 (xo_if .eq (ih 50) (xo_lda 0 (xo_ld 0 2 (xo_cl xm44 7 1 2 0 0 0 0 (xo_if .ne (ih 50) (xo_lda 0 (xo_ld 0 2 (xo_cl xm43 7 1 4 0 0 0 0 (xo_cl xm65 0 1 1 0 0 0 0 (xo_lda 0 (xo_gf 6 0 (xo_ld 0 2 (xo_cl xm66 5 1 2 0 0 0 0 (xo_ic .ge (ih 50) (xo_push (0, 0, Int.ofNat 1) (ih 51))))))))))))))))))))))))),
  (50, fun ih => xo_push (0, 0, Int.ofNat 0) (ih 51)),
  (51, fun ih => xo_ri 2)]
noncomputable def xm67 : xM := x_mth 0 xt67 100000
set_option maxRecDepth 100000 in
theorem xM67 : x_Ma 67 xm67 := x_Ma_of (r := ev_r67) rfl (xs_mth (hint := (fun _ => [])) (cal := (x_ca 53 xm53 (x_ca 64 xm64 (x_ca 44 xm44 (x_ca 43 xm43 (x_ca 65 xm65 (x_ca 66 xm66 (fun _ => x_no)))))))) (x_Ma_ca xM53 (x_Ma_ca xM64 (x_Ma_ca xM44 (x_Ma_ca xM43 (x_Ma_ca xM65 (x_Ma_ca xM66 x_Ma_no)))))) (x_T_cons 25 rfl (x_T_cons 1 rfl (x_T_cons 1 rfl x_T_nil))))
/-- java/lang/Math.floorMod(II)I -/
noncomputable def xt68 : List (Nat × xB) := [(0, fun ih => xo_ld 0 0 (xo_ld 0 1 (xo_bin 0 0 xg_rem (xo_st 0 2 3 (xo_ld 0 0 (xo_ld 0 1 (xo_bin 0 0 (xg_i (· ^^^ ·) xg_ti) (xo_if .ge (ih 18) (xo_ld 0 2 (xo_if .eq (ih 18) (xo_ld 0 2 (xo_ld 0 1 (xo_bin 0 0 xg_add (xo_ri 1)))))))))))))),
  (18, fun ih => xo_ld 0 2 (xo_ri 1))]
noncomputable def xm68 : xM := x_mth 1 xt68 100000
set_option maxRecDepth 100000 in
theorem xM68 : x_Ma 68 xm68 := x_Ma_of (r := ev_r68) rfl (xs_mth (hint := (fun _ => [])) (cal := (fun _ => x_no)) x_Ma_no (x_T_cons 14 rfl (x_T_cons 2 rfl x_T_nil)))
/-- NameHall$Scene.save([I)V -/
noncomputable def xt69 : List (Nat × xB) := [(0, fun ih => xo_lda 1 (xo_len none (xo_push (0, 0, Int.ofNat 18) (xo_ic .ge (ih 8) (xo_rv 0))))),
  (8, fun ih => xo_lda 0 (xo_gf 6 1 (xo_push (0, 0, Int.ofNat 0) (xo_lda 1 (xo_push (0, 0, Int.ofNat 0) (xo_push (0, 0, Int.ofNat 5) (xo_cp 1 26 (xo_lda 0 (xo_gf 6 2 (xo_push (0, 0, Int.ofNat 0) (xo_lda 1 (xo_push (0, 0, Int.ofNat 5) (xo_push (0, 0, Int.ofNat 5) (xo_cp 1 26 (xo_lda 0 (xo_gf 6 3 (xo_push (0, 0, Int.ofNat 0) (xo_lda 1 (xo_push (0, 0, Int.ofNat 10) (xo_push (0, 0, Int.ofNat 5) (xo_cp 1 26 (xo_lda 1 (xo_push (0, 0, Int.ofNat 15) (xo_lda 0 (xo_gf 6 4 (xo_as 0 (xo_lda 1 (xo_push (0, 0, Int.ofNat 16) (xo_lda 0 (xo_gf 6 5 (xo_as 0 (xo_lda 1 (xo_push (0, 0, Int.ofNat 17) (xo_lda 0 (xo_gf 6 6 (xo_as 0 (xo_rv 0)))))))))))))))))))))))))))))))))))))]
noncomputable def xm69 : xM := x_mth 0 xt69 100000
set_option maxRecDepth 100000 in
theorem xM69 : x_Ma 69 xm69 := x_Ma_of (r := ev_r69) rfl (xs_mth (hint := (fun _ => [])) (cal := (fun _ => x_no)) x_Ma_no (x_T_cons 5 rfl (x_T_cons 37 rfl x_T_nil)))
