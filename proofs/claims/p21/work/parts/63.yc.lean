/-! contracts, by program -/
/-- NameHallModel.undo()I -/
noncomputable def yt100 : List (Nat × yB) := [(0, fun ih => yo_lda 0 (yo_gf yG 10 16 (yo_if .ne (ih 10) (yo_push (0, 0, Int.negSucc 2) (yo_ri 1))))),
  (10, fun ih => yo_lda 0 (yo_dup (yo_gf yG 10 16 (yo_push (0, 0, Int.ofNat 1) (yo_bin 0 0 yg_sub (yo_pf yG 10 16 0 (yo_lda 0 (yo_lda 0 (yo_gf yG 10 17 (yo_push (0, 0, Int.ofNat 13) (yo_bin 0 0 yg_add (yo_push (0, 0, Int.ofNat 14) (yo_dv 1 yg_rem (yo_pf yG 10 17 0 (yo_push (0, 0, Int.ofNat 0) (yo_st 0 1 2 (ih 36))))))))))))))))),
  (36, fun ih => yo_ld 0 1 (yo_push (0, 0, Int.ofNat 18) (yo_ic .ge (ih 68) (yo_lda 0 (yo_gf yG 10 7 (yo_ld 0 1 (yo_lda 0 (yo_gf yG 10 18 (yo_push (0, 0, Int.ofNat 18) (yo_lda 0 (yo_gf yG 10 17 (yo_bin 0 0 (xg_i (· * ·) yg_mul) (yo_ld 0 1 (yo_bin 0 0 yg_add (yo_al yG none 0 (yo_as yG 0 (yo_inc 1 2 (Int.ofNat 1) (ih 36)))))))))))))))))),
  (68, fun ih => yo_lda 0 (yo_gf yG 10 16 (yo_ri 1)))]
set_option maxRecDepth 100000 in
theorem yT100 : y_T yG none y_i0 y_c0 ev_r100.1 (fun _ => none) yt100 := (y_T_cons 5 rfl (y_T_cons 16 rfl (y_T_cons 18 rfl (y_T_cons 3 rfl y_T_nil))))
def yct100_0 : yCt := ([(2, Int.ofNat 55, Int.ofNat 55, false)], (some (0, Int.negSucc 2, Int.ofNat 13, false)), [(55, 16, 17), (61, 0, 17)])
set_option maxRecDepth 100000 in
theorem yd100_0 : y_all (fun x1 => y_drv yt100 (y_st [36]) none (y_po yct100_0) [0, 36] 100000 5000 [x1]) (y_spl 55 17 0 (y_start 1 yct100_0) (Int.ofNat 0) 13) = true := by decide +kernel
theorem yc100_0 : y_Mca yG 100 yct100_0 := y_Mca_of (r := ev_r100) rfl (y_con (k := 1) (by decide) (fun hc0 _ => y_spl_ok rfl rfl rfl rfl (fun x1 m1 => have H1 := yd100_0; y_drv_ok (h0 := (yG, hc0)) y_i0_ok y_c0_ok yT100 (fun _ h1 h2 => y_po_ok h1 h2) (y_all_ok H1 x1 m1) _ (List.mem_singleton.mpr rfl))))
noncomputable def ycs100 : List yCt := [yct100_0]
theorem yCs100 : ∀ ct ∈ ycs100, y_Mca yG 100 ct := (y_l1 yc100_0 y_l0)
/-- NameHall.isHour(I)Z -/
noncomputable def yt101 : List (Nat × yB) := [(0, fun ih => yo_ld 0 0 (yo_if .lt (ih 14) (yo_ld 0 0 (yo_push (0, 0, Int.ofNat 10) (yo_ic .ge (ih 14) (yo_push (0, 0, Int.ofNat 1) (ih 15))))))),
  (14, fun ih => yo_push (0, 0, Int.ofNat 0) (ih 15)),
  (15, fun ih => yo_ri 2)]
set_option maxRecDepth 100000 in
theorem yT101 : y_T yG none y_i0 y_c0 ev_r101.1 (fun _ => none) yt101 := (y_T_cons 7 rfl (y_T_cons 1 rfl (y_T_cons 1 rfl y_T_nil)))
noncomputable def ym101 : List xv → yH → xE → yR := y_mth 0 yt101 100000
theorem yM101 (hc0 : ev_H) : y_Ma (yG, hc0) 101 ym101 := y_Ma_of (r := ev_r101) rfl (ys_mth (h0 := (yG, hc0)) y_i0_ok y_c0_ok yT101)
/-- NameHall$Scene.goneNames()I -/
noncomputable def yt102 : List (Nat × yB) := [(0, fun ih => yo_lda 0 (yo_gf yG 6 4 (yo_ri 1)))]
set_option maxRecDepth 100000 in
theorem yT102 : y_T yG none y_i0 y_c0 ev_r102.1 (fun _ => none) yt102 := (y_T_cons 3 rfl y_T_nil)
def yct102_0 : yCt := ([(2, Int.ofNat 9, Int.ofNat 9, false)], (some (0, Int.negSucc 2147483647, Int.ofNat 2147483647, false)), [])
set_option maxRecDepth 100000 in
theorem yd102_0 : y_drv yt102 (y_st []) none (y_po yct102_0) [0] 100000 5000 [y_start 0 yct102_0] = true := by decide +kernel
theorem yc102_0 : y_Mca yG 102 yct102_0 := y_Mca_of (r := ev_r102) rfl (y_con (k := 0) (by decide) (fun hc0 _ => y_drv_ok (h0 := (yG, hc0)) y_i0_ok y_c0_ok yT102 (fun _ h1 h2 => y_po_ok h1 h2) yd102_0 _ (List.mem_singleton.mpr rfl)))
noncomputable def ycs102 : List yCt := [yct102_0]
theorem yCs102 : ∀ ct ∈ ycs102, y_Mca yG 102 ct := (y_l1 yc102_0 y_l0)
/-- NameHall$Scene.fits(I)I -/
noncomputable def yt103 : List (Nat × yB) := [(0, fun ih => yo_lda 0 (yo_ld 0 1 (yo_cl yG ym59 7 1 2 0 0 0 0 (yo_if .eq (ih 12) (yo_push (0, 0, Int.ofNat 0) (ih 20)))))),
  (12, fun ih => yo_lda 0 (yo_gf yG 6 0 (yo_ld 0 1 (yo_cts yG ycs52 5 1 2 0 0 0 0 (ih 20))))),
  (20, fun ih => yo_ri 1)]
set_option maxRecDepth 100000 in
theorem yT103 : y_T yG none (y_ic 59 ym59 y_i0) (y_cc 52 ycs52 y_c0) ev_r103.1 (fun _ => none) yt103 := (y_T_cons 6 rfl (y_T_cons 4 rfl (y_T_cons 1 rfl y_T_nil)))
def yct103_0 : yCt := ([(2, Int.ofNat 9, Int.ofNat 9, false), (0, Int.negSucc 2147483647, Int.ofNat 2147483647, false)], (some (0, Int.ofNat 0, Int.ofNat 15, false)), [])
set_option maxRecDepth 100000 in
theorem yd103_0 : y_drv yt103 (y_st []) none (y_po yct103_0) [0] 100000 5000 [y_start 0 yct103_0] = true := by decide +kernel
theorem yc103_0 : y_Mca yG 103 yct103_0 := y_Mca_of (r := ev_r103) rfl (y_con (k := 0) (by decide) (fun hc0 _ => y_drv_ok (h0 := (yG, hc0)) (y_ic_ok (yM59 hc0) y_i0_ok) (y_cc_ok yCs52 y_c0_ok) yT103 (fun _ h1 h2 => y_po_ok h1 h2) yd103_0 _ (List.mem_singleton.mpr rfl)))
noncomputable def ycs103 : List yCt := [yct103_0]
theorem yCs103 : ∀ ct ∈ ycs103, y_Mca yG 103 ct := (y_l1 yc103_0 y_l0)
/-- NameHall$Giving.prepare(LNameHall$Scene;II)V -/
noncomputable def yt104 : List (Nat × yB) := [(0, fun ih => yo_ld 0 3 (yo_lda 1 (yo_cts yG ycs102 7 0 1 0 0 0 0 (yo_push (0, 0, Int.negSucc 0) (yo_bin 0 0 (xg_i (· ^^^ ·) yg_bit) (yo_bin 0 0 (xg_i (· &&& ·) xg_and) (yo_st 0 4 6 (yo_push (0, 0, Int.ofNat 0) (yo_st 0 5 6 (ih 13)))))))))),
  (13, fun ih => yo_ld 0 5 (yo_push (0, 0, Int.ofNat 5) (yo_ic .ge (ih 55) (yo_lda 0 (yo_gf yG 3 1 (yo_ld 0 5 (yo_lda 1 (yo_ld 0 5 (yo_ld 0 2 (yo_cl yG ym85 7 2 3 0 0 0 0 (yo_if .eq (ih 47) (yo_lda 1 (yo_ld 0 5 (yo_cts yG ycs103 7 1 2 0 0 0 0 (yo_ld 0 4 (yo_bin 0 0 (xg_i (· &&& ·) xg_and) (ih 48))))))))))))))))),
  (47, fun ih => yo_push (0, 0, Int.ofNat 0) (ih 48)),
  (48, fun ih => yo_as yG 0 (yo_inc 5 6 (Int.ofNat 1) (ih 13))),
  (55, fun ih => yo_push (0, 0, Int.ofNat 0) (yo_st 0 5 6 (ih 58))),
  (58, fun ih => yo_ld 0 5 (yo_push (0, 0, Int.ofNat 4) (yo_ic .ge (ih 86) (yo_lda 0 (yo_gf yG 3 2 (yo_ld 0 5 (yo_lda 0 (yo_gf yG 3 0 (yo_ld 0 5 (yo_cts yG ycs66 5 1 2 0 0 0 0 (yo_as yG 0 (yo_inc 5 6 (Int.ofNat 1) (ih 58))))))))))))),
  (86, fun ih => yo_rv 0)]
set_option maxRecDepth 100000 in
theorem yT104 : y_T yG none (y_ic 85 ym85 y_i0) (y_cc 102 ycs102 (y_cc 103 ycs103 (y_cc 66 ycs66 y_c0))) ev_r104.1 (fun _ => none) yt104 := (y_T_cons 9 rfl (y_T_cons 17 rfl (y_T_cons 1 rfl (y_T_cons 3 rfl (y_T_cons 2 rfl (y_T_cons 13 rfl (y_T_cons 1 rfl y_T_nil)))))))
def yct104_0 : yCt := ([(2, Int.ofNat 41, Int.ofNat 41, false), (2, Int.ofNat 9, Int.ofNat 9, false), (0, Int.negSucc 2147483647, Int.ofNat 2147483647, false), (0, Int.negSucc 2147483647, Int.ofNat 2147483647, false)], none, [(42, 0, 4), (43, 0, 3)])
set_option maxRecDepth 100000 in
theorem yd104_0 : y_drv yt104 (y_st [13, 58]) none (y_po yct104_0) [0, 13, 58] 100000 5000 [y_start 2 yct104_0] = true := by decide +kernel
theorem yc104_0 : y_Mca yG 104 yct104_0 := y_Mca_of (r := ev_r104) rfl (y_con (k := 2) (by decide) (fun hc0 _ => y_drv_ok (h0 := (yG, hc0)) (y_ic_ok (yM85 hc0) y_i0_ok) (y_cc_ok yCs102 (y_cc_ok yCs103 (y_cc_ok yCs66 y_c0_ok))) yT104 (fun _ h1 h2 => y_po_ok h1 h2) yd104_0 _ (List.mem_singleton.mpr rfl)))
noncomputable def ycs104 : List yCt := [yct104_0]
theorem yCs104 : ∀ ct ∈ ycs104, y_Mca yG 104 ct := (y_l1 yc104_0 y_l0)
/-- NameHall$Giving.roomOf(I)I -/
noncomputable def yt105 : List (Nat × yB) := [(0, fun ih => yo_push (0, 0, Int.ofNat 0) (yo_st 0 2 4 (yo_push (0, 0, Int.ofNat 0) (yo_st 0 3 4 (ih 4))))),
  (4, fun ih => yo_ld 0 3 (yo_push (0, 0, Int.ofNat 4) (yo_ic .ge (ih 30) (yo_ld 0 2 (yo_ld 0 1 (yo_ld 0 3 (yo_bin 0 0 (xg_i x_ishr xg_ti) (yo_push (0, 0, Int.ofNat 1) (yo_bin 0 0 (xg_i (· &&& ·) xg_and) (yo_lda 0 (yo_gf yG 3 2 (yo_ld 0 3 (yo_al yG none 0 (yo_bin 0 0 (xg_i (· * ·) yg_mul) (yo_bin 0 0 yg_add (yo_st 0 2 4 (yo_inc 3 4 (Int.ofNat 1) (ih 4)))))))))))))))))),
  (30, fun ih => yo_ld 0 2 (yo_ri 1))]
set_option maxRecDepth 100000 in
theorem yT105 : y_T yG none y_i0 y_c0 ev_r105.1 (fun _ => none) yt105 := (y_T_cons 4 rfl (y_T_cons 18 rfl (y_T_cons 2 rfl y_T_nil)))
def yct105_0 : yCt := ([(2, Int.ofNat 41, Int.ofNat 41, false), (0, Int.negSucc 2147483647, Int.ofNat 2147483647, false)], (some (0, Int.negSucc 2147483647, Int.ofNat 2147483647, false)), [])
set_option maxRecDepth 100000 in
theorem yd105_0 : y_drv yt105 (y_st [4]) none (y_po yct105_0) [0, 4] 100000 5000 [y_start 2 yct105_0] = true := by decide +kernel
theorem yc105_0 : y_Mca yG 105 yct105_0 := y_Mca_of (r := ev_r105) rfl (y_con (k := 2) (by decide) (fun hc0 _ => y_drv_ok (h0 := (yG, hc0)) y_i0_ok y_c0_ok yT105 (fun _ h1 h2 => y_po_ok h1 h2) yd105_0 _ (List.mem_singleton.mpr rfl)))
noncomputable def ycs105 : List yCt := [yct105_0]
theorem yCs105 : ∀ ct ∈ ycs105, y_Mca yG 105 ct := (y_l1 yc105_0 y_l0)
/-- java/lang/Math.max(II)I -/
noncomputable def yt106 : List (Nat × yB) := [(0, fun ih => yo_ld 0 0 (yo_ld 0 1 (yo_ic .lt (ih 9) (yo_ld 0 0 (ih 10))))),
  (9, fun ih => yo_ld 0 1 (ih 10)),
  (10, fun ih => yo_ri 1)]
set_option maxRecDepth 100000 in
theorem yT106 : y_T yG none y_i0 y_c0 ev_r106.1 (fun _ => none) yt106 := (y_T_cons 5 rfl (y_T_cons 1 rfl (y_T_cons 1 rfl y_T_nil)))
noncomputable def ym106 : List xv → yH → xE → yR := y_mth 0 yt106 100000
theorem yM106 (hc0 : ev_H) : y_Ma (yG, hc0) 106 ym106 := y_Ma_of (r := ev_r106) rfl (ys_mth (h0 := (yG, hc0)) y_i0_ok y_c0_ok yT106)
/-- NameHall$Giving.wantingBeyond(II)I -/
noncomputable def yt107 : List (Nat × yB) := [(0, fun ih => yo_push (0, 0, Int.ofNat 0) (yo_st 0 3 5 (yo_push (0, 0, Int.ofNat 0) (yo_ld 0 2 (yo_cl yG ym106 0 2 2 0 0 0 0 (yo_st 0 4 5 (ih 9))))))),
  (9, fun ih => yo_ld 0 4 (yo_push (0, 0, Int.ofNat 5) (yo_ic .ge (ih 43) (yo_ld 0 3 (yo_lda 0 (yo_gf yG 3 1 (yo_ld 0 4 (yo_al yG none 0 (yo_ld 0 1 (yo_push (0, 0, Int.negSucc 0) (yo_bin 0 0 (xg_i (· ^^^ ·) yg_bit) (yo_bin 0 0 (xg_i (· &&& ·) xg_and) (yo_if .eq (ih 34) (yo_push (0, 0, Int.ofNat 1) (ih 35))))))))))))))),
  (34, fun ih => yo_push (0, 0, Int.ofNat 0) (ih 35)),
  (35, fun ih => yo_bin 0 0 yg_add (yo_st 0 3 5 (yo_inc 4 5 (Int.ofNat 1) (ih 9)))),
  (43, fun ih => yo_ld 0 3 (yo_ri 1))]
set_option maxRecDepth 100000 in
theorem yT107 : y_T yG none (y_ic 106 ym106 y_i0) y_c0 ev_r107.1 (fun _ => none) yt107 := (y_T_cons 6 rfl (y_T_cons 15 rfl (y_T_cons 1 rfl (y_T_cons 4 rfl (y_T_cons 2 rfl y_T_nil)))))
def yct107_0 : yCt := ([(2, Int.ofNat 41, Int.ofNat 41, false), (0, Int.negSucc 2147483647, Int.ofNat 2147483647, false), (0, Int.negSucc 2147483647, Int.ofNat 2147483647, false)], (some (0, Int.ofNat 0, Int.ofNat 5, false)), [])
set_option maxRecDepth 100000 in
theorem yd107_0 : y_drv yt107 (y_st [9]) none (y_po yct107_0) [0, 9] 100000 5000 [y_start 2 yct107_0] = true := by decide +kernel
theorem yc107_0 : y_Mca yG 107 yct107_0 := y_Mca_of (r := ev_r107) rfl (y_con (k := 2) (by decide) (fun hc0 _ => y_drv_ok (h0 := (yG, hc0)) (y_ic_ok (yM106 hc0) y_i0_ok) y_c0_ok yT107 (fun _ h1 h2 => y_po_ok h1 h2) yd107_0 _ (List.mem_singleton.mpr rfl)))
noncomputable def ycs107 : List yCt := [yct107_0]
theorem yCs107 : ∀ ct ∈ ycs107, y_Mca yG 107 ct := (y_l1 yc107_0 y_l0)
/-- java/lang/Math.min(II)I -/
noncomputable def yt108 : List (Nat × yB) := [(0, fun ih => yo_ld 0 0 (yo_ld 0 1 (yo_ic .gt (ih 9) (yo_ld 0 0 (ih 10))))),
  (9, fun ih => yo_ld 0 1 (ih 10)),
  (10, fun ih => yo_ri 1)]
set_option maxRecDepth 100000 in
theorem yT108 : y_T yG none y_i0 y_c0 ev_r108.1 (fun _ => none) yt108 := (y_T_cons 5 rfl (y_T_cons 1 rfl (y_T_cons 1 rfl y_T_nil)))
noncomputable def ym108 : List xv → yH → xE → yR := y_mth 0 yt108 100000
theorem yM108 (hc0 : ev_H) : y_Ma (yG, hc0) 108 ym108 := y_Ma_of (r := ev_r108) rfl (ys_mth (h0 := (yG, hc0)) y_i0_ok y_c0_ok yT108)
/-- NameHall$Giving.greatestFrom(I)I -/
noncomputable def yt109 : List (Nat × yB) := [(0, fun ih => yo_push (0, 0, Int.ofNat 5) (yo_st 0 2 4 (yo_push (0, 0, Int.ofNat 0) (yo_st 0 3 4 (ih 4))))),
  (4, fun ih => yo_ld 0 3 (yo_push (0, 0, Int.ofNat 16) (yo_ic .ge (ih 33) (yo_ld 0 2 (yo_lda 0 (yo_ld 0 3 (yo_cts yG ycs105 4 1 4 0 0 0 0 (yo_lda 0 (yo_ld 0 3 (yo_ld 0 1 (yo_cts yG ycs107 4 2 5 0 0 0 0 (yo_bin 0 0 yg_add (yo_cl yG ym108 0 2 2 0 0 0 0 (yo_st 0 2 4 (yo_inc 3 4 (Int.ofNat 1) (ih 4)))))))))))))))),
  (33, fun ih => yo_ld 0 2 (yo_ri 1))]
set_option maxRecDepth 100000 in
theorem yT109 : y_T yG none (y_ic 108 ym108 y_i0) (y_cc 105 ycs105 (y_cc 107 ycs107 y_c0)) ev_r109.1 (fun _ => none) yt109 := (y_T_cons 4 rfl (y_T_cons 16 rfl (y_T_cons 2 rfl y_T_nil)))
def yct109_0 : yCt := ([(2, Int.ofNat 41, Int.ofNat 41, false), (0, Int.negSucc 2147483647, Int.ofNat 2147483647, false)], (some (0, Int.negSucc 2147483647, Int.ofNat 5, false)), [])
set_option maxRecDepth 100000 in
theorem yd109_0 : y_drv yt109 (y_st [4]) none (y_po yct109_0) [0, 4] 100000 5000 [y_start 2 yct109_0] = true := by decide +kernel
theorem yc109_0 : y_Mca yG 109 yct109_0 := y_Mca_of (r := ev_r109) rfl (y_con (k := 2) (by decide) (fun hc0 _ => y_drv_ok (h0 := (yG, hc0)) (y_ic_ok (yM108 hc0) y_i0_ok) (y_cc_ok yCs105 (y_cc_ok yCs107 y_c0_ok)) yT109 (fun _ h1 h2 => y_po_ok h1 h2) yd109_0 _ (List.mem_singleton.mpr rfl)))
noncomputable def ycs109 : List yCt := [yct109_0]
theorem yCs109 : ∀ ct ∈ ycs109, y_Mca yG 109 ct := (y_l1 yc109_0 y_l0)
/-- NameHall$Giving.greatest()I -/
noncomputable def yt110 : List (Nat × yB) := [(0, fun ih => yo_lda 0 (yo_push (0, 0, Int.ofNat 0) (yo_cts yG ycs109 4 1 4 0 0 0 0 (yo_ri 1))))]
set_option maxRecDepth 100000 in
theorem yT110 : y_T yG none y_i0 (y_cc 109 ycs109 y_c0) ev_r110.1 (fun _ => none) yt110 := (y_T_cons 4 rfl y_T_nil)
def yct110_0 : yCt := ([(2, Int.ofNat 41, Int.ofNat 41, false)], (some (0, Int.negSucc 2147483647, Int.ofNat 5, false)), [])
set_option maxRecDepth 100000 in
theorem yd110_0 : y_drv yt110 (y_st []) none (y_po yct110_0) [0] 100000 5000 [y_start 0 yct110_0] = true := by decide +kernel
theorem yc110_0 : y_Mca yG 110 yct110_0 := y_Mca_of (r := ev_r110) rfl (y_con (k := 0) (by decide) (fun hc0 _ => y_drv_ok (h0 := (yG, hc0)) y_i0_ok (y_cc_ok yCs109 y_c0_ok) yT110 (fun _ h1 h2 => y_po_ok h1 h2) yd110_0 _ (List.mem_singleton.mpr rfl)))
noncomputable def ycs110 : List yCt := [yct110_0]
theorem yCs110 : ∀ ct ∈ ycs110, y_Mca yG 110 ct := (y_l1 yc110_0 y_l0)
/-- NameHall$Giving.giveTo(II)I -/
noncomputable def yt111 : List (Nat × yB) := [(0, fun ih => yo_ld 0 1 (yo_if .lt (ih 20) (yo_ld 0 1 (yo_push (0, 0, Int.ofNat 5) (yo_ic .ge (ih 20) (yo_lda 0 (yo_ld 0 1 (yo_push (0, 0, Int.ofNat 1) (yo_bin 0 0 yg_add (yo_cts yG ycs109 4 1 4 0 0 0 0 (yo_ld 0 2 (yo_ic .lt (ih 22) (ih 20))))))))))))),
  (20, fun ih => yo_push (0, 0, Int.ofNat 0) (yo_ri 1)),
  (22, fun ih => yo_push (0, 0, Int.ofNat 0) (yo_st 0 3 4 (ih 24))),
  (24, fun ih => yo_ld 0 3 (yo_push (0, 0, Int.ofNat 4) (yo_ic .ge (ih 95) (yo_lda 0 (yo_gf yG 3 1 (yo_ld 0 1 (yo_al yG none 0 (yo_ld 0 3 (yo_bin 0 0 (xg_i x_ishr xg_ti) (yo_push (0, 0, Int.ofNat 1) (yo_bin 0 0 (xg_i (· &&& ·) xg_and) (yo_push (0, 0, Int.ofNat 1) (yo_ic .ne (ih 89) (yo_lda 0 (yo_gf yG 3 2 (yo_ld 0 3 (yo_al yG none 0 (yo_if .le (ih 89) (yo_lda 0 (yo_gf yG 3 2 (yo_ld 0 3 (yo_dup2 (yo_al yG none 0 (yo_push (0, 0, Int.ofNat 1) (yo_bin 0 0 yg_sub (yo_as yG 0 (yo_lda 0 (yo_ld 0 1 (yo_push (0, 0, Int.ofNat 1) (yo_bin 0 0 yg_add (yo_cts yG ycs109 4 1 4 0 0 0 0 (yo_ld 0 2 (yo_push (0, 0, Int.ofNat 1) (yo_bin 0 0 yg_sub (yo_ic .lt (ih 79) (yo_ld 0 3 (yo_push (0, 0, Int.ofNat 1) (yo_bin 0 0 yg_add (yo_ri 1))))))))))))))))))))))))))))))))))))))),
  (79, fun ih => yo_lda 0 (yo_gf yG 3 2 (yo_ld 0 3 (yo_dup2 (yo_al yG none 0 (yo_push (0, 0, Int.ofNat 1) (yo_bin 0 0 yg_add (yo_as yG 0 (ih 89))))))))),
  (89, fun ih => yo_inc 3 4 (Int.ofNat 1) (ih 24)),
  (95, fun ih => yo_push (0, 0, Int.ofNat 0) (yo_ri 1))]
set_option maxRecDepth 100000 in
theorem yT111 : y_T yG none y_i0 (y_cc 109 ycs109 y_c0) ev_r111.1 (fun _ => none) yt111 := (y_T_cons 12 rfl (y_T_cons 2 rfl (y_T_cons 2 rfl (y_T_cons 39 rfl (y_T_cons 8 rfl (y_T_cons 2 rfl (y_T_cons 2 rfl y_T_nil)))))))
def yct111_0 : yCt := ([(2, Int.ofNat 41, Int.ofNat 41, false), (0, Int.negSucc 2147483647, Int.ofNat 2147483647, false), (0, Int.negSucc 2147483647, Int.ofNat 2147483647, false)], (some (0, Int.ofNat 0, Int.ofNat 4, false)), [(43, 0, 3)])
set_option maxRecDepth 100000 in
theorem yd111_0 : y_drv yt111 (y_st [24]) none (y_po yct111_0) [0, 24] 100000 5000 [y_start 1 yct111_0] = true := by decide +kernel
theorem yc111_0 : y_Mca yG 111 yct111_0 := y_Mca_of (r := ev_r111) rfl (y_con (k := 1) (by decide) (fun hc0 _ => y_drv_ok (h0 := (yG, hc0)) y_i0_ok (y_cc_ok yCs109 y_c0_ok) yT111 (fun _ h1 h2 => y_po_ok h1 h2) yd111_0 _ (List.mem_singleton.mpr rfl)))
noncomputable def ycs111 : List yCt := [yct111_0]
theorem yCs111 : ∀ ct ∈ ycs111, y_Mca yG 111 ct := (y_l1 yc111_0 y_l0)
/-- NameHall$Giving.firstWay()I -/
noncomputable def yt112 : List (Nat × yB) := [(0, fun ih => yo_push (0, 0, Int.ofNat 0) (yo_st 0 1 5 (yo_lda 0 (yo_cts yG ycs110 4 0 1 0 0 0 0 (yo_st 0 2 5 (yo_push (0, 0, Int.ofNat 0) (yo_st 0 3 5 (ih 9)))))))),
  (9, fun ih => yo_ld 0 3 (yo_lda 0 (yo_gf yG 3 0 (yo_cts yG ycs37 5 0 1 0 0 0 0 (yo_ic .ge (ih 55) (yo_lda 0 (yo_ld 0 3 (yo_ld 0 2 (yo_cts yG ycs111 4 2 4 0 0 0 0 (yo_st 0 4 5 (yo_ld 0 2 (yo_ld 0 4 (yo_if .le (ih 38) (yo_push (0, 0, Int.ofNat 1) (ih 39))))))))))))))),
  (38, fun ih => yo_push (0, 0, Int.ofNat 0) (ih 39)),
  (39, fun ih => yo_bin 0 0 yg_sub (yo_st 0 2 5 (yo_push (0, 0, Int.ofNat 10) (yo_ld 0 1 (yo_bin 0 0 (xg_i (· * ·) yg_mul) (yo_ld 0 4 (yo_bin 0 0 yg_add (yo_st 0 1 5 (yo_inc 3 5 (Int.ofNat 1) (ih 9)))))))))),
  (55, fun ih => yo_ld 0 1 (yo_ri 1))]
set_option maxRecDepth 100000 in
theorem yT112 : y_T yG none y_i0 (y_cc 110 ycs110 (y_cc 37 ycs37 (y_cc 111 ycs111 y_c0))) ev_r112.1 (fun _ => none) yt112 := (y_T_cons 7 rfl (y_T_cons 15 rfl (y_T_cons 1 rfl (y_T_cons 10 rfl (y_T_cons 2 rfl y_T_nil)))))
def yct112_0 : yCt := ([(2, Int.ofNat 41, Int.ofNat 41, false)], (some (0, Int.ofNat 0, Int.ofNat 44444, false)), [(43, 0, 3)])
set_option maxRecDepth 100000 in
theorem yd112_0 : y_drv yt112 (y_st [9]) none (y_po yct112_0) [0, 9] 100000 5000 [y_start 4 yct112_0] = true := by decide +kernel
theorem yc112_0 : y_Mca yG 112 yct112_0 := y_Mca_of (r := ev_r112) rfl (y_con (k := 4) (by decide) (fun hc0 _ => y_drv_ok (h0 := (yG, hc0)) y_i0_ok (y_cc_ok yCs110 (y_cc_ok yCs37 (y_cc_ok yCs111 y_c0_ok))) yT112 (fun _ h1 h2 => y_po_ok h1 h2) yd112_0 _ (List.mem_singleton.mpr rfl)))
noncomputable def ycs112 : List yCt := [yct112_0]
theorem yCs112 : ∀ ct ∈ ycs112, y_Mca yG 112 ct := (y_l1 yc112_0 y_l0)
/-- NameHall.most(IZ)I -/
noncomputable def yt113 : List (Nat × yB) := [(0, fun ih => yo_ld 0 1 (yo_cl yG ym101 0 1 1 0 0 0 0 (yo_if .ne (ih 10) (yo_push (0, 0, Int.negSucc 1) (yo_ri 1))))),
  (10, fun ih => yo_lda 0 (yo_gf yG 9 7 (yo_lda 0 (yo_gf yG 9 2 (yo_ld 0 1 (yo_push (0, 0, Int.ofNat 15) (yo_cts yG ycs104 4 3 6 0 0 0 0 (yo_ld 0 2 (yo_if .eq (ih 38) (yo_lda 0 (yo_gf yG 9 7 (yo_cts yG ycs112 4 0 5 0 0 0 0 (ih 45))))))))))))),
  (38, fun ih => yo_lda 0 (yo_gf yG 9 7 (yo_cts yG ycs110 4 0 1 0 0 0 0 (ih 45)))),
  (45, fun ih => yo_ri 1)]
set_option maxRecDepth 100000 in
theorem yT113 : y_T yG none (y_ic 101 ym101 y_i0) (y_cc 104 ycs104 (y_cc 112 ycs112 (y_cc 110 ycs110 y_c0))) ev_r113.1 (fun _ => none) yt113 := (y_T_cons 5 rfl (y_T_cons 13 rfl (y_T_cons 3 rfl (y_T_cons 1 rfl y_T_nil))))
def yct113_0 : yCt := ([(2, Int.ofNat 0, Int.ofNat 0, false), (0, Int.negSucc 2147483647, Int.ofNat 2147483647, false), (0, Int.ofNat 0, Int.ofNat 1, false)], (some (0, Int.negSucc 2147483647, Int.ofNat 44444, false)), [(42, 0, 4), (43, 0, 3)])
set_option maxRecDepth 100000 in
theorem yd113_0 : y_drv yt113 (y_st []) none (y_po yct113_0) [0] 100000 5000 [y_start 0 yct113_0] = true := by decide +kernel
theorem yc113_0 : y_Mca yG 113 yct113_0 := y_Mca_of (r := ev_r113) rfl (y_con (k := 0) (by decide) (fun hc0 _ => y_drv_ok (h0 := (yG, hc0)) (y_ic_ok (yM101 hc0) y_i0_ok) (y_cc_ok yCs104 (y_cc_ok yCs112 (y_cc_ok yCs110 y_c0_ok))) yT113 (fun _ h1 h2 => y_po_ok h1 h2) yd113_0 _ (List.mem_singleton.mpr rfl)))
noncomputable def ycs113 : List yCt := [yct113_0]
theorem yCs113 : ∀ ct ∈ ycs113, y_Mca yG 113 ct := (y_l1 yc113_0 y_l0)
/-- NameHallModel.there()I -/
noncomputable def yt114 : List (Nat × yB) := [(0, fun ih => yo_push (0, 0, Int.ofNat 1) (yo_lda 0 (yo_gf yG 10 0 (yo_bin 0 0 (xg_i x_ishl (yg_en x_ishl)) (yo_push (0, 0, Int.ofNat 1) (yo_bin 0 0 yg_sub (yo_lda 0 (yo_gf yG 10 7 (yo_push (0, 0, Int.ofNat 15) (yo_al yG none 0 (yo_push (0, 0, Int.negSucc 0) (yo_bin 0 0 (xg_i (· ^^^ ·) yg_bit) (yo_bin 0 0 (xg_i (· &&& ·) xg_and) (yo_ri 1))))))))))))))]
set_option maxRecDepth 100000 in
theorem yT114 : y_T yG none y_i0 y_c0 ev_r114.1 (fun _ => none) yt114 := (y_T_cons 14 rfl y_T_nil)
def yct114_0 : yCt := ([(2, Int.ofNat 55, Int.ofNat 55, false)], (some (0, Int.ofNat 0, Int.ofNat 15, false)), [])
set_option maxRecDepth 100000 in
theorem yd114_0 : y_drv yt114 (y_st []) none (y_po yct114_0) [0] 100000 5000 [y_start 0 yct114_0] = true := by decide +kernel
theorem yc114_0 : y_Mca yG 114 yct114_0 := y_Mca_of (r := ev_r114) rfl (y_con (k := 0) (by decide) (fun hc0 _ => y_drv_ok (h0 := (yG, hc0)) y_i0_ok y_c0_ok yT114 (fun _ h1 h2 => y_po_ok h1 h2) yd114_0 _ (List.mem_singleton.mpr rfl)))
noncomputable def ycs114 : List yCt := [yct114_0]
theorem yCs114 : ∀ ct ∈ ycs114, y_Mca yG 114 ct := (y_l1 yc114_0 y_l0)
/-- NameHallModel.power(II)I -/
noncomputable def yt115 : List (Nat × yB) := [(0, fun ih => yo_push (0, 0, Int.ofNat 1) (yo_st 0 2 4 (yo_push (0, 0, Int.ofNat 0) (yo_st 0 3 4 (ih 4))))),
  (4, fun ih => yo_ld 0 3 (yo_ld 0 1 (yo_ic .ge (ih 19) (yo_ld 0 2 (yo_ld 0 0 (yo_bin 0 0 (xg_i (· * ·) yg_mul) (yo_st 0 2 4 (yo_inc 3 4 (Int.ofNat 1) (ih 4))))))))),
  (19, fun ih => yo_ld 0 2 (yo_ri 1))]
set_option maxRecDepth 100000 in
theorem yT115 : y_T yG none y_i0 y_c0 ev_r115.1 (fun _ => none) yt115 := (y_T_cons 4 rfl (y_T_cons 9 rfl (y_T_cons 2 rfl y_T_nil)))
def yct115_0 : yCt := ([(0, Int.ofNat 1, Int.ofNat 1, false), (0, Int.ofNat 0, Int.ofNat 0, false)], (some (0, Int.ofNat 1, Int.ofNat 1, false)), [])
set_option maxRecDepth 100000 in
theorem yd115_0 : y_drv yt115 (y_st [4]) none (y_po yct115_0) [0, 4] 100000 5000 [y_start 2 yct115_0] = true := by decide +kernel
theorem yc115_0 : y_Mca yG 115 yct115_0 := y_Mca_of (r := ev_r115) rfl (y_con (k := 2) (by decide) (fun hc0 _ => y_drv_ok (h0 := (yG, hc0)) y_i0_ok y_c0_ok yT115 (fun _ h1 h2 => y_po_ok h1 h2) yd115_0 _ (List.mem_singleton.mpr rfl)))
def yct115_1 : yCt := ([(0, Int.ofNat 1, Int.ofNat 1, false), (0, Int.ofNat 1, Int.ofNat 1, false)], (some (0, Int.ofNat 1, Int.ofNat 1, false)), [])
set_option maxRecDepth 100000 in
theorem yd115_1 : y_drv yt115 (y_st [4]) none (y_po yct115_1) [0, 4] 100000 5000 [y_start 2 yct115_1] = true := by decide +kernel
theorem yc115_1 : y_Mca yG 115 yct115_1 := y_Mca_of (r := ev_r115) rfl (y_con (k := 2) (by decide) (fun hc0 _ => y_drv_ok (h0 := (yG, hc0)) y_i0_ok y_c0_ok yT115 (fun _ h1 h2 => y_po_ok h1 h2) yd115_1 _ (List.mem_singleton.mpr rfl)))
def yct115_2 : yCt := ([(0, Int.ofNat 1, Int.ofNat 1, false), (0, Int.ofNat 2, Int.ofNat 2, false)], (some (0, Int.ofNat 1, Int.ofNat 1, false)), [])
set_option maxRecDepth 100000 in
theorem yd115_2 : y_drv yt115 (y_st [4]) none (y_po yct115_2) [0, 4] 100000 5000 [y_start 2 yct115_2] = true := by decide +kernel
theorem yc115_2 : y_Mca yG 115 yct115_2 := y_Mca_of (r := ev_r115) rfl (y_con (k := 2) (by decide) (fun hc0 _ => y_drv_ok (h0 := (yG, hc0)) y_i0_ok y_c0_ok yT115 (fun _ h1 h2 => y_po_ok h1 h2) yd115_2 _ (List.mem_singleton.mpr rfl)))
def yct115_3 : yCt := ([(0, Int.ofNat 1, Int.ofNat 1, false), (0, Int.ofNat 3, Int.ofNat 3, false)], (some (0, Int.ofNat 1, Int.ofNat 1, false)), [])
set_option maxRecDepth 100000 in
theorem yd115_3 : y_drv yt115 (y_st [4]) none (y_po yct115_3) [0, 4] 100000 5000 [y_start 2 yct115_3] = true := by decide +kernel
theorem yc115_3 : y_Mca yG 115 yct115_3 := y_Mca_of (r := ev_r115) rfl (y_con (k := 2) (by decide) (fun hc0 _ => y_drv_ok (h0 := (yG, hc0)) y_i0_ok y_c0_ok yT115 (fun _ h1 h2 => y_po_ok h1 h2) yd115_3 _ (List.mem_singleton.mpr rfl)))
def yct115_4 : yCt := ([(0, Int.ofNat 1, Int.ofNat 1, false), (0, Int.ofNat 4, Int.ofNat 4, false)], (some (0, Int.ofNat 1, Int.ofNat 1, false)), [])
set_option maxRecDepth 100000 in
theorem yd115_4 : y_drv yt115 (y_st [4]) none (y_po yct115_4) [0, 4] 100000 5000 [y_start 2 yct115_4] = true := by decide +kernel
theorem yc115_4 : y_Mca yG 115 yct115_4 := y_Mca_of (r := ev_r115) rfl (y_con (k := 2) (by decide) (fun hc0 _ => y_drv_ok (h0 := (yG, hc0)) y_i0_ok y_c0_ok yT115 (fun _ h1 h2 => y_po_ok h1 h2) yd115_4 _ (List.mem_singleton.mpr rfl)))
def yct115_5 : yCt := ([(0, Int.ofNat 1, Int.ofNat 1, false), (0, Int.ofNat 5, Int.ofNat 5, false)], (some (0, Int.ofNat 1, Int.ofNat 1, false)), [])
set_option maxRecDepth 100000 in
theorem yd115_5 : y_drv yt115 (y_st [4]) none (y_po yct115_5) [0, 4] 100000 5000 [y_start 2 yct115_5] = true := by decide +kernel
theorem yc115_5 : y_Mca yG 115 yct115_5 := y_Mca_of (r := ev_r115) rfl (y_con (k := 2) (by decide) (fun hc0 _ => y_drv_ok (h0 := (yG, hc0)) y_i0_ok y_c0_ok yT115 (fun _ h1 h2 => y_po_ok h1 h2) yd115_5 _ (List.mem_singleton.mpr rfl)))
def yct115_6 : yCt := ([(0, Int.ofNat 2, Int.ofNat 2, false), (0, Int.ofNat 0, Int.ofNat 0, false)], (some (0, Int.ofNat 1, Int.ofNat 1, false)), [])
set_option maxRecDepth 100000 in
theorem yd115_6 : y_drv yt115 (y_st [4]) none (y_po yct115_6) [0, 4] 100000 5000 [y_start 2 yct115_6] = true := by decide +kernel
theorem yc115_6 : y_Mca yG 115 yct115_6 := y_Mca_of (r := ev_r115) rfl (y_con (k := 2) (by decide) (fun hc0 _ => y_drv_ok (h0 := (yG, hc0)) y_i0_ok y_c0_ok yT115 (fun _ h1 h2 => y_po_ok h1 h2) yd115_6 _ (List.mem_singleton.mpr rfl)))
def yct115_7 : yCt := ([(0, Int.ofNat 2, Int.ofNat 2, false), (0, Int.ofNat 1, Int.ofNat 1, false)], (some (0, Int.ofNat 2, Int.ofNat 2, false)), [])
set_option maxRecDepth 100000 in
theorem yd115_7 : y_drv yt115 (y_st [4]) none (y_po yct115_7) [0, 4] 100000 5000 [y_start 2 yct115_7] = true := by decide +kernel
theorem yc115_7 : y_Mca yG 115 yct115_7 := y_Mca_of (r := ev_r115) rfl (y_con (k := 2) (by decide) (fun hc0 _ => y_drv_ok (h0 := (yG, hc0)) y_i0_ok y_c0_ok yT115 (fun _ h1 h2 => y_po_ok h1 h2) yd115_7 _ (List.mem_singleton.mpr rfl)))
def yct115_8 : yCt := ([(0, Int.ofNat 2, Int.ofNat 2, false), (0, Int.ofNat 2, Int.ofNat 2, false)], (some (0, Int.ofNat 4, Int.ofNat 4, false)), [])
set_option maxRecDepth 100000 in
theorem yd115_8 : y_drv yt115 (y_st [4]) none (y_po yct115_8) [0, 4] 100000 5000 [y_start 2 yct115_8] = true := by decide +kernel
theorem yc115_8 : y_Mca yG 115 yct115_8 := y_Mca_of (r := ev_r115) rfl (y_con (k := 2) (by decide) (fun hc0 _ => y_drv_ok (h0 := (yG, hc0)) y_i0_ok y_c0_ok yT115 (fun _ h1 h2 => y_po_ok h1 h2) yd115_8 _ (List.mem_singleton.mpr rfl)))
def yct115_9 : yCt := ([(0, Int.ofNat 2, Int.ofNat 2, false), (0, Int.ofNat 3, Int.ofNat 3, false)], (some (0, Int.ofNat 8, Int.ofNat 8, false)), [])
set_option maxRecDepth 100000 in
theorem yd115_9 : y_drv yt115 (y_st [4]) none (y_po yct115_9) [0, 4] 100000 5000 [y_start 2 yct115_9] = true := by decide +kernel
theorem yc115_9 : y_Mca yG 115 yct115_9 := y_Mca_of (r := ev_r115) rfl (y_con (k := 2) (by decide) (fun hc0 _ => y_drv_ok (h0 := (yG, hc0)) y_i0_ok y_c0_ok yT115 (fun _ h1 h2 => y_po_ok h1 h2) yd115_9 _ (List.mem_singleton.mpr rfl)))
def yct115_10 : yCt := ([(0, Int.ofNat 2, Int.ofNat 2, false), (0, Int.ofNat 4, Int.ofNat 4, false)], (some (0, Int.ofNat 16, Int.ofNat 16, false)), [])
set_option maxRecDepth 100000 in
theorem yd115_10 : y_drv yt115 (y_st [4]) none (y_po yct115_10) [0, 4] 100000 5000 [y_start 2 yct115_10] = true := by decide +kernel
theorem yc115_10 : y_Mca yG 115 yct115_10 := y_Mca_of (r := ev_r115) rfl (y_con (k := 2) (by decide) (fun hc0 _ => y_drv_ok (h0 := (yG, hc0)) y_i0_ok y_c0_ok yT115 (fun _ h1 h2 => y_po_ok h1 h2) yd115_10 _ (List.mem_singleton.mpr rfl)))
def yct115_11 : yCt := ([(0, Int.ofNat 2, Int.ofNat 2, false), (0, Int.ofNat 5, Int.ofNat 5, false)], (some (0, Int.ofNat 32, Int.ofNat 32, false)), [])
set_option maxRecDepth 100000 in
theorem yd115_11 : y_drv yt115 (y_st [4]) none (y_po yct115_11) [0, 4] 100000 5000 [y_start 2 yct115_11] = true := by decide +kernel
theorem yc115_11 : y_Mca yG 115 yct115_11 := y_Mca_of (r := ev_r115) rfl (y_con (k := 2) (by decide) (fun hc0 _ => y_drv_ok (h0 := (yG, hc0)) y_i0_ok y_c0_ok yT115 (fun _ h1 h2 => y_po_ok h1 h2) yd115_11 _ (List.mem_singleton.mpr rfl)))
def yct115_12 : yCt := ([(0, Int.ofNat 3, Int.ofNat 3, false), (0, Int.ofNat 0, Int.ofNat 0, false)], (some (0, Int.ofNat 1, Int.ofNat 1, false)), [])
set_option maxRecDepth 100000 in
theorem yd115_12 : y_drv yt115 (y_st [4]) none (y_po yct115_12) [0, 4] 100000 5000 [y_start 2 yct115_12] = true := by decide +kernel
theorem yc115_12 : y_Mca yG 115 yct115_12 := y_Mca_of (r := ev_r115) rfl (y_con (k := 2) (by decide) (fun hc0 _ => y_drv_ok (h0 := (yG, hc0)) y_i0_ok y_c0_ok yT115 (fun _ h1 h2 => y_po_ok h1 h2) yd115_12 _ (List.mem_singleton.mpr rfl)))
def yct115_13 : yCt := ([(0, Int.ofNat 3, Int.ofNat 3, false), (0, Int.ofNat 1, Int.ofNat 1, false)], (some (0, Int.ofNat 3, Int.ofNat 3, false)), [])
set_option maxRecDepth 100000 in
theorem yd115_13 : y_drv yt115 (y_st [4]) none (y_po yct115_13) [0, 4] 100000 5000 [y_start 2 yct115_13] = true := by decide +kernel
theorem yc115_13 : y_Mca yG 115 yct115_13 := y_Mca_of (r := ev_r115) rfl (y_con (k := 2) (by decide) (fun hc0 _ => y_drv_ok (h0 := (yG, hc0)) y_i0_ok y_c0_ok yT115 (fun _ h1 h2 => y_po_ok h1 h2) yd115_13 _ (List.mem_singleton.mpr rfl)))
def yct115_14 : yCt := ([(0, Int.ofNat 3, Int.ofNat 3, false), (0, Int.ofNat 2, Int.ofNat 2, false)], (some (0, Int.ofNat 9, Int.ofNat 9, false)), [])
set_option maxRecDepth 100000 in
theorem yd115_14 : y_drv yt115 (y_st [4]) none (y_po yct115_14) [0, 4] 100000 5000 [y_start 2 yct115_14] = true := by decide +kernel
theorem yc115_14 : y_Mca yG 115 yct115_14 := y_Mca_of (r := ev_r115) rfl (y_con (k := 2) (by decide) (fun hc0 _ => y_drv_ok (h0 := (yG, hc0)) y_i0_ok y_c0_ok yT115 (fun _ h1 h2 => y_po_ok h1 h2) yd115_14 _ (List.mem_singleton.mpr rfl)))
def yct115_15 : yCt := ([(0, Int.ofNat 3, Int.ofNat 3, false), (0, Int.ofNat 3, Int.ofNat 3, false)], (some (0, Int.ofNat 27, Int.ofNat 27, false)), [])
set_option maxRecDepth 100000 in
theorem yd115_15 : y_drv yt115 (y_st [4]) none (y_po yct115_15) [0, 4] 100000 5000 [y_start 2 yct115_15] = true := by decide +kernel
theorem yc115_15 : y_Mca yG 115 yct115_15 := y_Mca_of (r := ev_r115) rfl (y_con (k := 2) (by decide) (fun hc0 _ => y_drv_ok (h0 := (yG, hc0)) y_i0_ok y_c0_ok yT115 (fun _ h1 h2 => y_po_ok h1 h2) yd115_15 _ (List.mem_singleton.mpr rfl)))
def yct115_16 : yCt := ([(0, Int.ofNat 3, Int.ofNat 3, false), (0, Int.ofNat 4, Int.ofNat 4, false)], (some (0, Int.ofNat 81, Int.ofNat 81, false)), [])
set_option maxRecDepth 100000 in
theorem yd115_16 : y_drv yt115 (y_st [4]) none (y_po yct115_16) [0, 4] 100000 5000 [y_start 2 yct115_16] = true := by decide +kernel
theorem yc115_16 : y_Mca yG 115 yct115_16 := y_Mca_of (r := ev_r115) rfl (y_con (k := 2) (by decide) (fun hc0 _ => y_drv_ok (h0 := (yG, hc0)) y_i0_ok y_c0_ok yT115 (fun _ h1 h2 => y_po_ok h1 h2) yd115_16 _ (List.mem_singleton.mpr rfl)))
def yct115_17 : yCt := ([(0, Int.ofNat 3, Int.ofNat 3, false), (0, Int.ofNat 5, Int.ofNat 5, false)], (some (0, Int.ofNat 243, Int.ofNat 243, false)), [])
set_option maxRecDepth 100000 in
theorem yd115_17 : y_drv yt115 (y_st [4]) none (y_po yct115_17) [0, 4] 100000 5000 [y_start 2 yct115_17] = true := by decide +kernel
theorem yc115_17 : y_Mca yG 115 yct115_17 := y_Mca_of (r := ev_r115) rfl (y_con (k := 2) (by decide) (fun hc0 _ => y_drv_ok (h0 := (yG, hc0)) y_i0_ok y_c0_ok yT115 (fun _ h1 h2 => y_po_ok h1 h2) yd115_17 _ (List.mem_singleton.mpr rfl)))
def yct115_18 : yCt := ([(0, Int.ofNat 4, Int.ofNat 4, false), (0, Int.ofNat 0, Int.ofNat 0, false)], (some (0, Int.ofNat 1, Int.ofNat 1, false)), [])
set_option maxRecDepth 100000 in
theorem yd115_18 : y_drv yt115 (y_st [4]) none (y_po yct115_18) [0, 4] 100000 5000 [y_start 2 yct115_18] = true := by decide +kernel
theorem yc115_18 : y_Mca yG 115 yct115_18 := y_Mca_of (r := ev_r115) rfl (y_con (k := 2) (by decide) (fun hc0 _ => y_drv_ok (h0 := (yG, hc0)) y_i0_ok y_c0_ok yT115 (fun _ h1 h2 => y_po_ok h1 h2) yd115_18 _ (List.mem_singleton.mpr rfl)))
def yct115_19 : yCt := ([(0, Int.ofNat 4, Int.ofNat 4, false), (0, Int.ofNat 1, Int.ofNat 1, false)], (some (0, Int.ofNat 4, Int.ofNat 4, false)), [])
set_option maxRecDepth 100000 in
theorem yd115_19 : y_drv yt115 (y_st [4]) none (y_po yct115_19) [0, 4] 100000 5000 [y_start 2 yct115_19] = true := by decide +kernel
theorem yc115_19 : y_Mca yG 115 yct115_19 := y_Mca_of (r := ev_r115) rfl (y_con (k := 2) (by decide) (fun hc0 _ => y_drv_ok (h0 := (yG, hc0)) y_i0_ok y_c0_ok yT115 (fun _ h1 h2 => y_po_ok h1 h2) yd115_19 _ (List.mem_singleton.mpr rfl)))
def yct115_20 : yCt := ([(0, Int.ofNat 4, Int.ofNat 4, false), (0, Int.ofNat 2, Int.ofNat 2, false)], (some (0, Int.ofNat 16, Int.ofNat 16, false)), [])
set_option maxRecDepth 100000 in
theorem yd115_20 : y_drv yt115 (y_st [4]) none (y_po yct115_20) [0, 4] 100000 5000 [y_start 2 yct115_20] = true := by decide +kernel
theorem yc115_20 : y_Mca yG 115 yct115_20 := y_Mca_of (r := ev_r115) rfl (y_con (k := 2) (by decide) (fun hc0 _ => y_drv_ok (h0 := (yG, hc0)) y_i0_ok y_c0_ok yT115 (fun _ h1 h2 => y_po_ok h1 h2) yd115_20 _ (List.mem_singleton.mpr rfl)))
def yct115_21 : yCt := ([(0, Int.ofNat 4, Int.ofNat 4, false), (0, Int.ofNat 3, Int.ofNat 3, false)], (some (0, Int.ofNat 64, Int.ofNat 64, false)), [])
set_option maxRecDepth 100000 in
theorem yd115_21 : y_drv yt115 (y_st [4]) none (y_po yct115_21) [0, 4] 100000 5000 [y_start 2 yct115_21] = true := by decide +kernel
theorem yc115_21 : y_Mca yG 115 yct115_21 := y_Mca_of (r := ev_r115) rfl (y_con (k := 2) (by decide) (fun hc0 _ => y_drv_ok (h0 := (yG, hc0)) y_i0_ok y_c0_ok yT115 (fun _ h1 h2 => y_po_ok h1 h2) yd115_21 _ (List.mem_singleton.mpr rfl)))
def yct115_22 : yCt := ([(0, Int.ofNat 4, Int.ofNat 4, false), (0, Int.ofNat 4, Int.ofNat 4, false)], (some (0, Int.ofNat 256, Int.ofNat 256, false)), [])
set_option maxRecDepth 100000 in
theorem yd115_22 : y_drv yt115 (y_st [4]) none (y_po yct115_22) [0, 4] 100000 5000 [y_start 2 yct115_22] = true := by decide +kernel
theorem yc115_22 : y_Mca yG 115 yct115_22 := y_Mca_of (r := ev_r115) rfl (y_con (k := 2) (by decide) (fun hc0 _ => y_drv_ok (h0 := (yG, hc0)) y_i0_ok y_c0_ok yT115 (fun _ h1 h2 => y_po_ok h1 h2) yd115_22 _ (List.mem_singleton.mpr rfl)))
def yct115_23 : yCt := ([(0, Int.ofNat 4, Int.ofNat 4, false), (0, Int.ofNat 5, Int.ofNat 5, false)], (some (0, Int.ofNat 1024, Int.ofNat 1024, false)), [])
set_option maxRecDepth 100000 in
theorem yd115_23 : y_drv yt115 (y_st [4]) none (y_po yct115_23) [0, 4] 100000 5000 [y_start 2 yct115_23] = true := by decide +kernel
theorem yc115_23 : y_Mca yG 115 yct115_23 := y_Mca_of (r := ev_r115) rfl (y_con (k := 2) (by decide) (fun hc0 _ => y_drv_ok (h0 := (yG, hc0)) y_i0_ok y_c0_ok yT115 (fun _ h1 h2 => y_po_ok h1 h2) yd115_23 _ (List.mem_singleton.mpr rfl)))
def yct115_24 : yCt := ([(0, Int.ofNat 5, Int.ofNat 5, false), (0, Int.ofNat 0, Int.ofNat 0, false)], (some (0, Int.ofNat 1, Int.ofNat 1, false)), [])
set_option maxRecDepth 100000 in
theorem yd115_24 : y_drv yt115 (y_st [4]) none (y_po yct115_24) [0, 4] 100000 5000 [y_start 2 yct115_24] = true := by decide +kernel
theorem yc115_24 : y_Mca yG 115 yct115_24 := y_Mca_of (r := ev_r115) rfl (y_con (k := 2) (by decide) (fun hc0 _ => y_drv_ok (h0 := (yG, hc0)) y_i0_ok y_c0_ok yT115 (fun _ h1 h2 => y_po_ok h1 h2) yd115_24 _ (List.mem_singleton.mpr rfl)))
def yct115_25 : yCt := ([(0, Int.ofNat 5, Int.ofNat 5, false), (0, Int.ofNat 1, Int.ofNat 1, false)], (some (0, Int.ofNat 5, Int.ofNat 5, false)), [])
set_option maxRecDepth 100000 in
theorem yd115_25 : y_drv yt115 (y_st [4]) none (y_po yct115_25) [0, 4] 100000 5000 [y_start 2 yct115_25] = true := by decide +kernel
theorem yc115_25 : y_Mca yG 115 yct115_25 := y_Mca_of (r := ev_r115) rfl (y_con (k := 2) (by decide) (fun hc0 _ => y_drv_ok (h0 := (yG, hc0)) y_i0_ok y_c0_ok yT115 (fun _ h1 h2 => y_po_ok h1 h2) yd115_25 _ (List.mem_singleton.mpr rfl)))
def yct115_26 : yCt := ([(0, Int.ofNat 5, Int.ofNat 5, false), (0, Int.ofNat 2, Int.ofNat 2, false)], (some (0, Int.ofNat 25, Int.ofNat 25, false)), [])
set_option maxRecDepth 100000 in
theorem yd115_26 : y_drv yt115 (y_st [4]) none (y_po yct115_26) [0, 4] 100000 5000 [y_start 2 yct115_26] = true := by decide +kernel
theorem yc115_26 : y_Mca yG 115 yct115_26 := y_Mca_of (r := ev_r115) rfl (y_con (k := 2) (by decide) (fun hc0 _ => y_drv_ok (h0 := (yG, hc0)) y_i0_ok y_c0_ok yT115 (fun _ h1 h2 => y_po_ok h1 h2) yd115_26 _ (List.mem_singleton.mpr rfl)))
def yct115_27 : yCt := ([(0, Int.ofNat 5, Int.ofNat 5, false), (0, Int.ofNat 3, Int.ofNat 3, false)], (some (0, Int.ofNat 125, Int.ofNat 125, false)), [])
set_option maxRecDepth 100000 in
theorem yd115_27 : y_drv yt115 (y_st [4]) none (y_po yct115_27) [0, 4] 100000 5000 [y_start 2 yct115_27] = true := by decide +kernel
theorem yc115_27 : y_Mca yG 115 yct115_27 := y_Mca_of (r := ev_r115) rfl (y_con (k := 2) (by decide) (fun hc0 _ => y_drv_ok (h0 := (yG, hc0)) y_i0_ok y_c0_ok yT115 (fun _ h1 h2 => y_po_ok h1 h2) yd115_27 _ (List.mem_singleton.mpr rfl)))
def yct115_28 : yCt := ([(0, Int.ofNat 5, Int.ofNat 5, false), (0, Int.ofNat 4, Int.ofNat 4, false)], (some (0, Int.ofNat 625, Int.ofNat 625, false)), [])
set_option maxRecDepth 100000 in
theorem yd115_28 : y_drv yt115 (y_st [4]) none (y_po yct115_28) [0, 4] 100000 5000 [y_start 2 yct115_28] = true := by decide +kernel
theorem yc115_28 : y_Mca yG 115 yct115_28 := y_Mca_of (r := ev_r115) rfl (y_con (k := 2) (by decide) (fun hc0 _ => y_drv_ok (h0 := (yG, hc0)) y_i0_ok y_c0_ok yT115 (fun _ h1 h2 => y_po_ok h1 h2) yd115_28 _ (List.mem_singleton.mpr rfl)))
def yct115_29 : yCt := ([(0, Int.ofNat 5, Int.ofNat 5, false), (0, Int.ofNat 5, Int.ofNat 5, false)], (some (0, Int.ofNat 3125, Int.ofNat 3125, false)), [])
set_option maxRecDepth 100000 in
theorem yd115_29 : y_drv yt115 (y_st [4]) none (y_po yct115_29) [0, 4] 100000 5000 [y_start 2 yct115_29] = true := by decide +kernel
theorem yc115_29 : y_Mca yG 115 yct115_29 := y_Mca_of (r := ev_r115) rfl (y_con (k := 2) (by decide) (fun hc0 _ => y_drv_ok (h0 := (yG, hc0)) y_i0_ok y_c0_ok yT115 (fun _ h1 h2 => y_po_ok h1 h2) yd115_29 _ (List.mem_singleton.mpr rfl)))
def yct115_30 : yCt := ([(0, Int.ofNat 100, Int.ofNat 100, false), (0, Int.ofNat 1, Int.ofNat 1, false)], (some (0, Int.ofNat 100, Int.ofNat 100, false)), [])
set_option maxRecDepth 100000 in
theorem yd115_30 : y_drv yt115 (y_st [4]) none (y_po yct115_30) [0, 4] 100000 5000 [y_start 2 yct115_30] = true := by decide +kernel
theorem yc115_30 : y_Mca yG 115 yct115_30 := y_Mca_of (r := ev_r115) rfl (y_con (k := 2) (by decide) (fun hc0 _ => y_drv_ok (h0 := (yG, hc0)) y_i0_ok y_c0_ok yT115 (fun _ h1 h2 => y_po_ok h1 h2) yd115_30 _ (List.mem_singleton.mpr rfl)))
def yct115_31 : yCt := ([(0, Int.ofNat 100, Int.ofNat 100, false), (0, Int.ofNat 0, Int.ofNat 0, false)], (some (0, Int.ofNat 1, Int.ofNat 1, false)), [])
set_option maxRecDepth 100000 in
theorem yd115_31 : y_drv yt115 (y_st [4]) none (y_po yct115_31) [0, 4] 100000 5000 [y_start 2 yct115_31] = true := by decide +kernel
theorem yc115_31 : y_Mca yG 115 yct115_31 := y_Mca_of (r := ev_r115) rfl (y_con (k := 2) (by decide) (fun hc0 _ => y_drv_ok (h0 := (yG, hc0)) y_i0_ok y_c0_ok yT115 (fun _ h1 h2 => y_po_ok h1 h2) yd115_31 _ (List.mem_singleton.mpr rfl)))
def yct115_32 : yCt := ([(0, Int.ofNat 100, Int.ofNat 100, false), (0, Int.ofNat 2, Int.ofNat 2, false)], (some (0, Int.ofNat 10000, Int.ofNat 10000, false)), [])
set_option maxRecDepth 100000 in
theorem yd115_32 : y_drv yt115 (y_st [4]) none (y_po yct115_32) [0, 4] 100000 5000 [y_start 2 yct115_32] = true := by decide +kernel
theorem yc115_32 : y_Mca yG 115 yct115_32 := y_Mca_of (r := ev_r115) rfl (y_con (k := 2) (by decide) (fun hc0 _ => y_drv_ok (h0 := (yG, hc0)) y_i0_ok y_c0_ok yT115 (fun _ h1 h2 => y_po_ok h1 h2) yd115_32 _ (List.mem_singleton.mpr rfl)))
def yct115_33 : yCt := ([(0, Int.ofNat 100, Int.ofNat 100, false), (0, Int.ofNat 3, Int.ofNat 3, false)], (some (0, Int.ofNat 1000000, Int.ofNat 1000000, false)), [])
set_option maxRecDepth 100000 in
theorem yd115_33 : y_drv yt115 (y_st [4]) none (y_po yct115_33) [0, 4] 100000 5000 [y_start 2 yct115_33] = true := by decide +kernel
theorem yc115_33 : y_Mca yG 115 yct115_33 := y_Mca_of (r := ev_r115) rfl (y_con (k := 2) (by decide) (fun hc0 _ => y_drv_ok (h0 := (yG, hc0)) y_i0_ok y_c0_ok yT115 (fun _ h1 h2 => y_po_ok h1 h2) yd115_33 _ (List.mem_singleton.mpr rfl)))
def yct115_34 : yCt := ([(0, Int.ofNat 100, Int.ofNat 100, false), (0, Int.ofNat 4, Int.ofNat 4, false)], (some (0, Int.ofNat 100000000, Int.ofNat 100000000, false)), [])
set_option maxRecDepth 100000 in
theorem yd115_34 : y_drv yt115 (y_st [4]) none (y_po yct115_34) [0, 4] 100000 5000 [y_start 2 yct115_34] = true := by decide +kernel
theorem yc115_34 : y_Mca yG 115 yct115_34 := y_Mca_of (r := ev_r115) rfl (y_con (k := 2) (by decide) (fun hc0 _ => y_drv_ok (h0 := (yG, hc0)) y_i0_ok y_c0_ok yT115 (fun _ h1 h2 => y_po_ok h1 h2) yd115_34 _ (List.mem_singleton.mpr rfl)))
def yct115_35 : yCt := ([(0, Int.ofNat 1, Int.ofNat 5, false), (0, Int.ofNat 0, Int.ofNat 0, false)], (some (0, Int.ofNat 1, Int.ofNat 1, false)), [])
set_option maxRecDepth 100000 in
theorem yd115_35 : y_drv yt115 (y_st [4]) none (y_po yct115_35) [0, 4] 100000 5000 [y_start 2 yct115_35] = true := by decide +kernel
theorem yc115_35 : y_Mca yG 115 yct115_35 := y_Mca_of (r := ev_r115) rfl (y_con (k := 2) (by decide) (fun hc0 _ => y_drv_ok (h0 := (yG, hc0)) y_i0_ok y_c0_ok yT115 (fun _ h1 h2 => y_po_ok h1 h2) yd115_35 _ (List.mem_singleton.mpr rfl)))
def yct115_36 : yCt := ([(0, Int.ofNat 1, Int.ofNat 5, false), (0, Int.negSucc 4, Int.ofNat 5, false)], (some (0, Int.ofNat 1, Int.ofNat 3125, false)), [])
set_option maxRecDepth 100000 in
theorem yd115_36 : y_drv yt115 (y_st [4]) none (y_po yct115_36) [0, 4] 100000 5000 [y_start 2 yct115_36] = true := by decide +kernel
theorem yc115_36 : y_Mca yG 115 yct115_36 := y_Mca_of (r := ev_r115) rfl (y_con (k := 2) (by decide) (fun hc0 _ => y_drv_ok (h0 := (yG, hc0)) y_i0_ok y_c0_ok yT115 (fun _ h1 h2 => y_po_ok h1 h2) yd115_36 _ (List.mem_singleton.mpr rfl)))
noncomputable def ycs115 : List yCt := [yct115_0, yct115_1, yct115_2, yct115_3, yct115_4, yct115_5, yct115_6, yct115_7, yct115_8, yct115_9, yct115_10, yct115_11, yct115_12, yct115_13, yct115_14, yct115_15, yct115_16, yct115_17, yct115_18, yct115_19, yct115_20, yct115_21, yct115_22, yct115_23, yct115_24, yct115_25, yct115_26, yct115_27, yct115_28, yct115_29, yct115_30, yct115_31, yct115_32, yct115_33, yct115_34, yct115_35, yct115_36]
theorem yCs115 : ∀ ct ∈ ycs115, y_Mca yG 115 ct := (y_l1 yc115_0 (y_l1 yc115_1 (y_l1 yc115_2 (y_l1 yc115_3 (y_l1 yc115_4 (y_l1 yc115_5 (y_l1 yc115_6 (y_l1 yc115_7 (y_l1 yc115_8 (y_l1 yc115_9 (y_l1 yc115_10 (y_l1 yc115_11 (y_l1 yc115_12 (y_l1 yc115_13 (y_l1 yc115_14 (y_l1 yc115_15 (y_l1 yc115_16 (y_l1 yc115_17 (y_l1 yc115_18 (y_l1 yc115_19 (y_l1 yc115_20 (y_l1 yc115_21 (y_l1 yc115_22 (y_l1 yc115_23 (y_l1 yc115_24 (y_l1 yc115_25 (y_l1 yc115_26 (y_l1 yc115_27 (y_l1 yc115_28 (y_l1 yc115_29 (y_l1 yc115_30 (y_l1 yc115_31 (y_l1 yc115_32 (y_l1 yc115_33 (y_l1 yc115_34 (y_l1 yc115_35 (y_l1 yc115_36 y_l0)))))))))))))))))))))))))))))))))))))
/-- NameHallModel.nameIn(II)I -/
noncomputable def yt116 : List (Nat × yB) := [(0, fun ih => yo_ld 0 1 (yo_lda 0 (yo_gf yG 10 0 (yo_push (0, 0, Int.ofNat 1) (yo_bin 0 0 yg_add (yo_lda 0 (yo_gf yG 10 1 (yo_push (0, 0, Int.ofNat 1) (yo_bin 0 0 yg_sub (yo_ld 0 2 (yo_bin 0 0 yg_sub (yo_cts yG ycs115 0 2 4 0 0 0 0 (yo_dv 0 xg_div (yo_lda 0 (yo_gf yG 10 0 (yo_push (0, 0, Int.ofNat 1) (yo_bin 0 0 yg_add (yo_dv 1 yg_rem (yo_push (0, 0, Int.ofNat 1) (yo_bin 0 0 yg_sub (yo_ri 1)))))))))))))))))))))]
set_option maxRecDepth 100000 in
theorem yT116 : y_T yG none y_i0 (y_cc 115 ycs115 y_c0) ev_r116.1 (fun _ => none) yt116 := (y_T_cons 21 rfl y_T_nil)
noncomputable def ym116 : List xv → yH → xE → yR := y_mth 0 yt116 100000
theorem yM116 (hc0 : ev_H) : y_Ma (yG, hc0) 116 ym116 := y_Ma_of (r := ev_r116) rfl (ys_mth (h0 := (yG, hc0)) y_i0_ok (y_cc_ok yCs115 y_c0_ok) yT116)
/-- NameHallModel.isWay(III)Z -/
noncomputable def yt117 : List (Nat × yB) := [(0, fun ih => yo_push (0, 0, Int.ofNat 0) (yo_st 0 4 7 (ih 3))),
  (3, fun ih => yo_ld 0 4 (yo_push (0, 0, Int.ofNat 4) (yo_ic .ge (ih 23) (yo_lda 0 (yo_gf yG 10 19 (yo_ld 0 4 (yo_push (0, 0, Int.ofNat 0) (yo_as yG 0 (yo_inc 4 7 (Int.ofNat 1) (ih 3)))))))))),
  (23, fun ih => yo_push (0, 0, Int.ofNat 0) (yo_st 0 4 7 (ih 26))),
  (26, fun ih => yo_ld 0 4 (yo_lda 0 (yo_gf yG 10 1 (yo_ic .ge (ih 153) (yo_lda 0 (yo_ld 0 1 (yo_ld 0 4 (yo_cl yG ym116 11 2 3 0 0 0 0 (yo_st 0 5 7 (yo_ld 0 5 (yo_if .lt (ih 147) (yo_lda 0 (yo_gf yG 10 19 (yo_ld 0 5 (yo_dup2 (yo_al yG none 0 (yo_push (0, 0, Int.ofNat 1) (yo_bin 0 0 yg_add (yo_as yG 0 (yo_ld 0 3 (yo_if .ge (ih 82) (yo_lda 0 (yo_push (0, 0, Int.ofNat 0) (yo_ld 0 4 (yo_cts yG ycs74 11 2 3 0 0 0 0 (yo_if .ne (ih 78) (yo_push (0, 0, Int.ofNat 1) (ih 90)))))))))))))))))))))))))))),
  (78, fun ih => yo_push (0, 0, Int.ofNat 0) (ih 90)),
  (82, fun ih => yo_lda 0 (yo_push (0, 0, Int.ofNat 0) (yo_ld 0 4 (yo_ld 0 3 (yo_cts yG ycs90 11 3 4 0 0 0 0 (ih 90)))))),
  (90, fun ih => yo_st 0 6 7 (yo_ld 0 6 (yo_if .eq (ih 145) (yo_ld 0 2 (yo_ld 0 5 (yo_cts yG ycs73 0 2 2 0 0 0 0 (yo_if .eq (ih 145) (yo_lda 0 (yo_gf yG 10 6 (yo_ld 0 4 (yo_al yG none 0 (yo_ld 0 5 (yo_cts yG ycs73 0 2 2 0 0 0 0 (yo_if .eq (ih 145) (yo_lda 0 (yo_gf yG 10 19 (yo_ld 0 5 (yo_al yG none 0 (yo_ld 0 3 (yo_if .ge (ih 136) (yo_push (0, 0, Int.ofNat 1) (ih 142)))))))))))))))))))))),
  (136, fun ih => yo_lda 0 (yo_ld 0 5 (yo_cts yG ycs76 11 1 2 0 0 0 0 (ih 142)))),
  (142, fun ih => yo_ic .le (ih 147) (ih 145)),
  (145, fun ih => yo_push (0, 0, Int.ofNat 0) (yo_ri 2)),
  (147, fun ih => yo_inc 4 7 (Int.ofNat 1) (ih 26)),
  (153, fun ih => yo_push (0, 0, Int.ofNat 1) (yo_ri 2))]
set_option maxRecDepth 100000 in
theorem yT117 : y_T yG none (y_ic 116 ym116 y_i0) (y_cc 74 ycs74 (y_cc 90 ycs90 (y_cc 73 ycs73 (y_cc 76 ycs76 y_c0)))) ev_r117.1 (fun _ => none) yt117 := (y_T_cons 2 rfl (y_T_cons 10 rfl (y_T_cons 2 rfl (y_T_cons 28 rfl (y_T_cons 2 rfl (y_T_cons 5 rfl (y_T_cons 22 rfl (y_T_cons 3 rfl (y_T_cons 1 rfl (y_T_cons 2 rfl (y_T_cons 2 rfl (y_T_cons 2 rfl y_T_nil))))))))))))
def yct117_0 : yCt := ([(2, Int.ofNat 55, Int.ofNat 55, false), (0, Int.ofNat 0, Int.ofNat 3124, false), (0, Int.negSucc 2147483647, Int.ofNat 2147483647, false), (0, Int.negSucc 2147483647, Int.ofNat 2147483647, false)], (some (0, Int.ofNat 0, Int.ofNat 1, false)), [(66, 0, 3)])
set_option maxRecDepth 100000 in
theorem yd117_0 : y_drv yt117 (y_st [3, 26]) none (y_po yct117_0) [0, 3, 26] 100000 5000 [y_start 3 yct117_0] = true := by decide +kernel
theorem yc117_0 : y_Mca yG 117 yct117_0 := y_Mca_of (r := ev_r117) rfl (y_con (k := 3) (by decide) (fun hc0 _ => y_drv_ok (h0 := (yG, hc0)) (y_ic_ok (yM116 hc0) y_i0_ok) (y_cc_ok yCs74 (y_cc_ok yCs90 (y_cc_ok yCs73 (y_cc_ok yCs76 y_c0_ok)))) yT117 (fun _ h1 h2 => y_po_ok h1 h2) yd117_0 _ (List.mem_singleton.mpr rfl)))
noncomputable def ycs117 : List yCt := [yct117_0]
theorem yCs117 : ∀ ct ∈ ycs117, y_Mca yG 117 ct := (y_l1 yc117_0 y_l0)
/-- NameHallModel.mostAt(II)I -/
noncomputable def yt118 : List (Nat × yB) := [(0, fun ih => yo_push (0, 0, Int.negSucc 8) (yo_st 0 3 7 (yo_push (0, 0, Int.ofNat 0) (yo_st 0 4 7 (ih 6))))),
  (6, fun ih => yo_ld 0 4 (yo_lda 0 (yo_gf yG 10 0 (yo_push (0, 0, Int.ofNat 1) (yo_bin 0 0 yg_add (yo_lda 0 (yo_gf yG 10 1 (yo_cts yG ycs115 0 2 4 0 0 0 0 (yo_ic .ge (ih 115) (yo_lda 0 (yo_ld 0 4 (yo_ld 0 2 (yo_ld 0 1 (yo_cts yG ycs117 11 3 7 0 0 0 0 (yo_if .eq (ih 109) (yo_push (0, 0, Int.ofNat 0) (yo_st 0 5 7 (yo_push (0, 0, Int.ofNat 0) (yo_st 0 6 7 (ih 41)))))))))))))))))))),
  (41, fun ih => yo_ld 0 6 (yo_lda 0 (yo_gf yG 10 1 (yo_ic .ge (ih 77) (yo_ld 0 5 (yo_lda 0 (yo_ld 0 4 (yo_ld 0 6 (yo_cl yG ym116 11 2 3 0 0 0 0 (yo_if .lt (ih 67) (yo_push (0, 0, Int.ofNat 1) (ih 68)))))))))))),
  (67, fun ih => yo_push (0, 0, Int.ofNat 0) (ih 68)),
  (68, fun ih => yo_bin 0 0 yg_add (yo_st 0 5 7 (yo_inc 6 7 (Int.ofNat 1) (ih 41)))),
  (77, fun ih => yo_lda 0 (yo_ld 0 5 (yo_ld 0 3 (yo_ic .le (ih 89) (yo_ld 0 4 (ih 93)))))),
  (89, fun ih => yo_lda 0 (yo_gf yG 10 20 (ih 93))),
  (93, fun ih => yo_pf yG 10 20 0 (yo_ld 0 5 (yo_ld 0 3 (yo_ic .le (ih 107) (yo_ld 0 5 (ih 108)))))),
  (107, fun ih => yo_ld 0 3 (ih 108)),
  (108, fun ih => yo_st 0 3 7 (ih 109)),
  (109, fun ih => yo_inc 4 7 (Int.ofNat 1) (ih 6)),
  (115, fun ih => yo_ld 0 3 (yo_ri 1))]
set_option maxRecDepth 100000 in
theorem yT118 : y_T yG none (y_ic 116 ym116 y_i0) (y_cc 115 ycs115 (y_cc 117 ycs117 y_c0)) ev_r118.1 (fun _ => none) yt118 := (y_T_cons 4 rfl (y_T_cons 19 rfl (y_T_cons 12 rfl (y_T_cons 1 rfl (y_T_cons 4 rfl (y_T_cons 6 rfl (y_T_cons 2 rfl (y_T_cons 6 rfl (y_T_cons 1 rfl (y_T_cons 1 rfl (y_T_cons 2 rfl (y_T_cons 2 rfl y_T_nil))))))))))))
def yct118_0 : yCt := ([(2, Int.ofNat 55, Int.ofNat 55, false), (0, Int.negSucc 2147483647, Int.ofNat 2147483647, false), (0, Int.negSucc 2147483647, Int.ofNat 2147483647, false)], (some (0, Int.negSucc 8, Int.ofNat 5, false)), [(55, 20, 20), (66, 0, 3)])
set_option maxRecDepth 100000 in
def zf118_0 : List yF := [(2, Int.ofNat 55, Int.ofNat 55, false), (0, Int.negSucc 2147483647, Int.ofNat 2147483647, false), (0, Int.negSucc 2147483647, Int.ofNat 2147483647, false), (0, Int.negSucc 8, Int.ofNat 5, false), (0, Int.ofNat 0, Int.ofNat 3125, false)]
set_option maxRecDepth 100000 in
theorem zdA118_0 : z_drv 0 yt118 (y_st [6, 41]) none (z_pA 6 zf118_0 yct118_0) [0, 41, 6] 100000 5000 [y_start 4 yct118_0] = true := by decide +kernel
set_option maxRecDepth 100000 in
theorem zdB118_0 : z_drv 4 yt118 (y_st [6, 41]) none (z_pB 6 zf118_0 yct118_0 4 3) [0, 41, 6] 100000 5000 [(z_start 6 2 zf118_0 yct118_0.2.2)] = true := by decide +kernel
set_option maxRecDepth 100000 in
theorem yc118_0 : y_Mca yG 118 yct118_0 := y_Mca_of (r := ev_r118) rfl (z_loop (pad := 4) (hd := 6) (k := 2) (N := 3125) (c := 4) (cs := 3) (pr := 4) (fs := zf118_0) (by decide +kernel) (by decide) (by decide) (by decide +kernel) (by decide) (by decide +kernel) (by decide +kernel)
  (fun hc0 _ σ hp => z_drv_ok (h0 := (yG, hc0)) (y_ic_ok (yM116 hc0) y_i0_ok) (y_cc_ok yCs115 (y_cc_ok yCs117 y_c0_ok)) yT118 hp zdA118_0 _ (List.mem_singleton.mpr rfl))
  (fun hc0 _ σ hp => z_drv_ok (h0 := (yG, hc0)) (y_ic_ok (yM116 hc0) y_i0_ok) (y_cc_ok yCs115 (y_cc_ok yCs117 y_c0_ok)) yT118 hp zdB118_0 _ (List.mem_singleton.mpr rfl)))
noncomputable def ycs118 : List yCt := [yct118_0]
theorem yCs118 : ∀ ct ∈ ycs118, y_Mca yG 118 ct := (y_l1 yc118_0 y_l0)
/-- NameHallModel.figuresOf(I)I -/
noncomputable def yt119 : List (Nat × yB) := [(0, fun ih => yo_push (0, 0, Int.ofNat 0) (yo_st 0 2 4 (yo_push (0, 0, Int.ofNat 0) (yo_st 0 3 4 (ih 4))))),
  (4, fun ih => yo_ld 0 3 (yo_lda 0 (yo_gf yG 10 1 (yo_ic .ge (ih 32) (yo_push (0, 0, Int.ofNat 10) (yo_ld 0 2 (yo_bin 0 0 (xg_i (· * ·) yg_mul) (yo_lda 0 (yo_ld 0 1 (yo_ld 0 3 (yo_cl yG ym116 11 2 3 0 0 0 0 (yo_bin 0 0 yg_add (yo_push (0, 0, Int.ofNat 1) (yo_bin 0 0 yg_add (yo_st 0 2 4 (yo_inc 3 4 (Int.ofNat 1) (ih 4))))))))))))))))),
  (32, fun ih => yo_ld 0 2 (yo_ri 1))]
set_option maxRecDepth 100000 in
theorem yT119 : y_T yG none (y_ic 116 ym116 y_i0) y_c0 ev_r119.1 (fun _ => none) yt119 := (y_T_cons 4 rfl (y_T_cons 17 rfl (y_T_cons 2 rfl y_T_nil)))
def yct119_0 : yCt := ([(2, Int.ofNat 55, Int.ofNat 55, false), (0, Int.ofNat 0, Int.ofNat 3124, false)], (some (0, Int.ofNat 0, Int.ofNat 44444, false)), [])
set_option maxRecDepth 100000 in
theorem yd119_0 : y_drv yt119 (y_st [4]) none (y_po yct119_0) [0, 4] 100000 5000 [y_start 2 yct119_0] = true := by decide +kernel
theorem yc119_0 : y_Mca yG 119 yct119_0 := y_Mca_of (r := ev_r119) rfl (y_con (k := 2) (by decide) (fun hc0 _ => y_drv_ok (h0 := (yG, hc0)) (y_ic_ok (yM116 hc0) y_i0_ok) y_c0_ok yT119 (fun _ h1 h2 => y_po_ok h1 h2) yd119_0 _ (List.mem_singleton.mpr rfl)))
noncomputable def ycs119 : List yCt := [yct119_0]
theorem yCs119 : ∀ ct ∈ ycs119, y_Mca yG 119 ct := (y_l1 yc119_0 y_l0)
/-- NameHallModel.most(IZ)I -/
noncomputable def yt120 : List (Nat × yB) := [(0, fun ih => yo_ld 0 1 (yo_un 0 xg_i2l (yo_push (1, 0, Int.ofNat 0) (yo_push (1, 0, Int.ofNat 9) (yo_cl yG ym15 0 3 6 0 0 0 0 (yo_if .ne (ih 15) (yo_push (0, 0, Int.negSucc 1) (yo_ri 1)))))))),
  (15, fun ih => yo_lda 0 (yo_ld 0 1 (yo_lda 0 (yo_cts yG ycs114 11 0 1 0 0 0 0 (yo_cts yG ycs118 11 2 7 0 0 0 0 (yo_st 0 3 4 (yo_ld 0 2 (yo_if .eq (ih 40) (yo_lda 0 (yo_lda 0 (yo_gf yG 10 20 (yo_cts yG ycs119 11 1 4 0 0 0 0 (ih 41))))))))))))),
  (40, fun ih => yo_ld 0 3 (ih 41)),
  (41, fun ih => yo_ri 1)]
set_option maxRecDepth 100000 in
theorem yT120 : y_T yG none (y_ic 15 ym15 y_i0) (y_cc 114 ycs114 (y_cc 118 ycs118 (y_cc 119 ycs119 y_c0))) ev_r120.1 (fun _ => none) yt120 := (y_T_cons 8 rfl (y_T_cons 13 rfl (y_T_cons 1 rfl (y_T_cons 1 rfl y_T_nil))))
def yct120_0 : yCt := ([(2, Int.ofNat 55, Int.ofNat 55, false), (0, Int.negSucc 2147483647, Int.ofNat 2147483647, false), (0, Int.ofNat 0, Int.ofNat 1, false)], (some (0, Int.negSucc 8, Int.ofNat 44444, false)), [(55, 20, 20), (66, 0, 3)])
set_option maxRecDepth 100000 in
theorem yd120_0 : y_drv yt120 (y_st []) none (y_po yct120_0) [0] 100000 5000 [y_start 1 yct120_0] = true := by decide +kernel
theorem yc120_0 : y_Mca yG 120 yct120_0 := y_Mca_of (r := ev_r120) rfl (y_con (k := 1) (by decide) (fun hc0 _ => y_drv_ok (h0 := (yG, hc0)) (y_ic_ok (yM15 hc0) y_i0_ok) (y_cc_ok yCs114 (y_cc_ok yCs118 (y_cc_ok yCs119 y_c0_ok))) yT120 (fun _ h1 h2 => y_po_ok h1 h2) yd120_0 _ (List.mem_singleton.mpr rfl)))
noncomputable def ycs120 : List yCt := [yct120_0]
theorem yCs120 : ∀ ct ∈ ycs120, y_Mca yG 120 ct := (y_l1 yc120_0 y_l0)
/-- NameHall.leftWithout(I)I -/
noncomputable def yt121 : List (Nat × yB) := [(0, fun ih => yo_lda 0 (yo_gf yG 9 7 (yo_lda 0 (yo_gf yG 9 2 (yo_ld 0 1 (yo_push (0, 0, Int.ofNat 15) (yo_cts yG ycs104 4 3 6 0 0 0 0 (yo_lda 0 (yo_gf yG 9 2 (yo_ld 0 1 (yo_cts yG ycs86 7 1 4 0 0 0 0 (yo_cts yG ycs65 0 1 1 0 0 0 0 (yo_lda 0 (yo_gf yG 9 7 (yo_cts yG ycs110 4 0 1 0 0 0 0 (yo_bin 0 0 yg_sub (yo_ri 1)))))))))))))))))]
set_option maxRecDepth 100000 in
theorem yT121 : y_T yG none y_i0 (y_cc 104 ycs104 (y_cc 86 ycs86 (y_cc 65 ycs65 (y_cc 110 ycs110 y_c0)))) ev_r121.1 (fun _ => none) yt121 := (y_T_cons 17 rfl y_T_nil)
def yct121_0 : yCt := ([(2, Int.ofNat 0, Int.ofNat 0, false), (0, Int.negSucc 2147483647, Int.ofNat 2147483647, false)], (some (0, Int.negSucc 2147483647, Int.ofNat 2147483647, false)), [(42, 0, 4), (43, 0, 3)])
set_option maxRecDepth 100000 in
theorem yd121_0 : y_drv yt121 (y_st []) none (y_po yct121_0) [0] 100000 5000 [y_start 0 yct121_0] = true := by decide +kernel
theorem yc121_0 : y_Mca yG 121 yct121_0 := y_Mca_of (r := ev_r121) rfl (y_con (k := 0) (by decide) (fun hc0 _ => y_drv_ok (h0 := (yG, hc0)) y_i0_ok (y_cc_ok yCs104 (y_cc_ok yCs86 (y_cc_ok yCs65 (y_cc_ok yCs110 y_c0_ok)))) yT121 (fun _ h1 h2 => y_po_ok h1 h2) yd121_0 _ (List.mem_singleton.mpr rfl)))
noncomputable def ycs121 : List yCt := [yct121_0]
theorem yCs121 : ∀ ct ∈ ycs121, y_Mca yG 121 ct := (y_l1 yc121_0 y_l0)
/-- NameHall.waiting(II)I -/
noncomputable def yt122 : List (Nat × yB) := [(0, fun ih => yo_ld 0 1 (yo_cl yG ym101 0 1 1 0 0 0 0 (yo_if .eq (ih 19) (yo_ld 0 2 (yo_cl yG ym101 0 1 1 0 0 0 0 (yo_if .eq (ih 19) (yo_ld 0 2 (yo_ld 0 1 (yo_ic .ge (ih 22) (ih 19)))))))))),
  (19, fun ih => yo_push (0, 0, Int.negSucc 1) (yo_ri 1)),
  (22, fun ih => yo_push (0, 0, Int.ofNat 0) (yo_st 0 3 5 (yo_ld 0 1 (yo_st 0 4 5 (ih 27))))),
  (27, fun ih => yo_ld 0 4 (yo_ld 0 2 (yo_ic .gt (ih 48) (yo_ld 0 3 (yo_lda 0 (yo_ld 0 4 (yo_cts yG ycs121 10 1 2 0 0 0 0 (yo_bin 0 0 yg_add (yo_st 0 3 5 (yo_inc 4 5 (Int.ofNat 1) (ih 27))))))))))),
  (48, fun ih => yo_ld 0 3 (yo_ri 1))]
set_option maxRecDepth 100000 in
theorem yT122 : y_T yG none (y_ic 101 ym101 y_i0) (y_cc 121 ycs121 y_c0) ev_r122.1 (fun _ => none) yt122 := (y_T_cons 9 rfl (y_T_cons 2 rfl (y_T_cons 4 rfl (y_T_cons 11 rfl (y_T_cons 2 rfl y_T_nil)))))
def yct122_0 : yCt := ([(2, Int.ofNat 0, Int.ofNat 0, false), (0, Int.negSucc 2147483647, Int.ofNat 2147483647, false), (0, Int.negSucc 2147483647, Int.ofNat 2147483647, false)], (some (0, Int.negSucc 2147483647, Int.ofNat 2147483647, false)), [(42, 0, 4), (43, 0, 3)])
set_option maxRecDepth 100000 in
theorem yd122_0 : y_drv yt122 (y_st [27]) none (y_po yct122_0) [0, 27] 100000 5000 [y_start 2 yct122_0] = true := by decide +kernel
theorem yc122_0 : y_Mca yG 122 yct122_0 := y_Mca_of (r := ev_r122) rfl (y_con (k := 2) (by decide) (fun hc0 _ => y_drv_ok (h0 := (yG, hc0)) (y_ic_ok (yM101 hc0) y_i0_ok) (y_cc_ok yCs121 y_c0_ok) yT122 (fun _ h1 h2 => y_po_ok h1 h2) yd122_0 _ (List.mem_singleton.mpr rfl)))
noncomputable def ycs122 : List yCt := [yct122_0]
theorem yCs122 : ∀ ct ∈ ycs122, y_Mca yG 122 ct := (y_l1 yc122_0 y_l0)
/-- NameHallModel.leftAt(I)I -/
noncomputable def yt123 : List (Nat × yB) := [(0, fun ih => yo_push (0, 0, Int.ofNat 0) (yo_st 0 2 4 (yo_push (0, 0, Int.ofNat 0) (yo_st 0 3 4 (ih 4))))),
  (4, fun ih => yo_ld 0 3 (yo_lda 0 (yo_gf yG 10 1 (yo_ic .ge (ih 36) (yo_ld 0 2 (yo_lda 0 (yo_push (0, 0, Int.ofNat 0) (yo_ld 0 3 (yo_ld 0 1 (yo_cts yG ycs90 11 3 4 0 0 0 0 (yo_if .eq (ih 27) (yo_push (0, 0, Int.ofNat 1) (ih 28))))))))))))),
  (27, fun ih => yo_push (0, 0, Int.ofNat 0) (ih 28)),
  (28, fun ih => yo_bin 0 0 yg_add (yo_st 0 2 4 (yo_inc 3 4 (Int.ofNat 1) (ih 4)))),
  (36, fun ih => yo_ld 0 2 (yo_lda 0 (yo_ld 0 1 (yo_lda 0 (yo_cts yG ycs114 11 0 1 0 0 0 0 (yo_cts yG ycs118 11 2 7 0 0 0 0 (yo_bin 0 0 yg_sub (yo_ri 1))))))))]
set_option maxRecDepth 100000 in
theorem yT123 : y_T yG none y_i0 (y_cc 90 ycs90 (y_cc 114 ycs114 (y_cc 118 ycs118 y_c0))) ev_r123.1 (fun _ => none) yt123 := (y_T_cons 4 rfl (y_T_cons 13 rfl (y_T_cons 1 rfl (y_T_cons 4 rfl (y_T_cons 8 rfl y_T_nil)))))
def yct123_0 : yCt := ([(2, Int.ofNat 55, Int.ofNat 55, false), (0, Int.negSucc 2147483647, Int.ofNat 2147483647, false)], (some (0, Int.negSucc 4, Int.ofNat 14, false)), [(55, 20, 20), (66, 0, 3)])
set_option maxRecDepth 100000 in
theorem yd123_0 : y_drv yt123 (y_st [4]) none (y_po yct123_0) [0, 4] 100000 5000 [y_start 2 yct123_0] = true := by decide +kernel
theorem yc123_0 : y_Mca yG 123 yct123_0 := y_Mca_of (r := ev_r123) rfl (y_con (k := 2) (by decide) (fun hc0 _ => y_drv_ok (h0 := (yG, hc0)) y_i0_ok (y_cc_ok yCs90 (y_cc_ok yCs114 (y_cc_ok yCs118 y_c0_ok))) yT123 (fun _ h1 h2 => y_po_ok h1 h2) yd123_0 _ (List.mem_singleton.mpr rfl)))
noncomputable def ycs123 : List yCt := [yct123_0]
theorem yCs123 : ∀ ct ∈ ycs123, y_Mca yG 123 ct := (y_l1 yc123_0 y_l0)
/-- NameHallModel.waiting(II)I -/
noncomputable def yt124 : List (Nat × yB) := [(0, fun ih => yo_ld 0 1 (yo_un 0 xg_i2l (yo_push (1, 0, Int.ofNat 0) (yo_push (1, 0, Int.ofNat 9) (yo_cl yG ym15 0 3 6 0 0 0 0 (yo_if .eq (ih 25) (yo_ld 0 2 (yo_un 0 xg_i2l (yo_ld 0 1 (yo_un 0 xg_i2l (yo_push (1, 0, Int.ofNat 9) (yo_cl yG ym15 0 3 6 0 0 0 0 (yo_if .ne (ih 28) (ih 25)))))))))))))),
  (25, fun ih => yo_push (0, 0, Int.negSucc 1) (yo_ri 1)),
  (28, fun ih => yo_push (0, 0, Int.ofNat 0) (yo_st 0 3 5 (yo_ld 0 1 (yo_st 0 4 5 (ih 33))))),
  (33, fun ih => yo_ld 0 4 (yo_ld 0 2 (yo_ic .gt (ih 54) (yo_ld 0 3 (yo_lda 0 (yo_ld 0 4 (yo_cts yG ycs123 11 1 4 0 0 0 0 (yo_bin 0 0 yg_add (yo_st 0 3 5 (yo_inc 4 5 (Int.ofNat 1) (ih 33))))))))))),
  (54, fun ih => yo_ld 0 3 (yo_ri 1))]
set_option maxRecDepth 100000 in
theorem yT124 : y_T yG none (y_ic 15 ym15 y_i0) (y_cc 123 ycs123 y_c0) ev_r124.1 (fun _ => none) yt124 := (y_T_cons 13 rfl (y_T_cons 2 rfl (y_T_cons 4 rfl (y_T_cons 11 rfl (y_T_cons 2 rfl y_T_nil)))))
def yct124_0 : yCt := ([(2, Int.ofNat 55, Int.ofNat 55, false), (0, Int.negSucc 2147483647, Int.ofNat 2147483647, false), (0, Int.negSucc 2147483647, Int.ofNat 2147483647, false)], (some (0, Int.negSucc 49, Int.ofNat 140, false)), [(55, 20, 20), (66, 0, 3)])
set_option maxRecDepth 100000 in
theorem yd124_0 : y_drv yt124 (y_st [33]) none (y_po yct124_0) [0, 33] 100000 5000 [y_start 2 yct124_0] = true := by decide +kernel
theorem yc124_0 : y_Mca yG 124 yct124_0 := y_Mca_of (r := ev_r124) rfl (y_con (k := 2) (by decide) (fun hc0 _ => y_drv_ok (h0 := (yG, hc0)) (y_ic_ok (yM15 hc0) y_i0_ok) (y_cc_ok yCs123 y_c0_ok) yT124 (fun _ h1 h2 => y_po_ok h1 h2) yd124_0 _ (List.mem_singleton.mpr rfl)))
noncomputable def ycs124 : List yCt := [yct124_0]
theorem yCs124 : ∀ ct ∈ ycs124, y_Mca yG 124 ct := (y_l1 yc124_0 y_l0)
/-- NameHall.first()I -/
noncomputable def yt125 : List (Nat × yB) := [(0, fun ih => yo_push (0, 0, Int.ofNat 0) (yo_st 0 1 2 (ih 2))),
  (2, fun ih => yo_ld 0 1 (yo_push (0, 0, Int.ofNat 10) (yo_ic .ge (ih 24) (yo_lda 0 (yo_ld 0 1 (yo_cts yG ycs121 10 1 2 0 0 0 0 (yo_if .le (ih 18) (yo_ld 0 1 (yo_ri 1))))))))),
  (18, fun ih => yo_inc 1 2 (Int.ofNat 1) (ih 2)),
  (24, fun ih => yo_push (0, 0, Int.negSucc 8) (yo_ri 1))]
set_option maxRecDepth 100000 in
theorem yT125 : y_T yG none y_i0 (y_cc 121 ycs121 y_c0) ev_r125.1 (fun _ => none) yt125 := (y_T_cons 2 rfl (y_T_cons 9 rfl (y_T_cons 2 rfl (y_T_cons 2 rfl y_T_nil))))
def yct125_0 : yCt := ([(2, Int.ofNat 0, Int.ofNat 0, false)], (some (0, Int.ofNat 0, Int.ofNat 9, true)), [(42, 0, 4), (43, 0, 3)])
set_option maxRecDepth 100000 in
theorem yd125_0 : y_drv yt125 (y_st [2]) none (y_po yct125_0) [0, 2] 100000 5000 [y_start 1 yct125_0] = true := by decide +kernel
theorem yc125_0 : y_Mca yG 125 yct125_0 := y_Mca_of (r := ev_r125) rfl (y_con (k := 1) (by decide) (fun hc0 _ => y_drv_ok (h0 := (yG, hc0)) y_i0_ok (y_cc_ok yCs121 y_c0_ok) yT125 (fun _ h1 h2 => y_po_ok h1 h2) yd125_0 _ (List.mem_singleton.mpr rfl)))
noncomputable def ycs125 : List yCt := [yct125_0]
theorem yCs125 : ∀ ct ∈ ycs125, y_Mca yG 125 ct := (y_l1 yc125_0 y_l0)
/-- NameHallModel.first()I -/
noncomputable def yt126 : List (Nat × yB) := [(0, fun ih => yo_push (0, 0, Int.ofNat 0) (yo_st 0 1 2 (ih 2))),
  (2, fun ih => yo_ld 0 1 (yo_push (0, 0, Int.ofNat 10) (yo_ic .ge (ih 24) (yo_lda 0 (yo_ld 0 1 (yo_cts yG ycs123 11 1 4 0 0 0 0 (yo_if .le (ih 18) (yo_ld 0 1 (yo_ri 1))))))))),
  (18, fun ih => yo_inc 1 2 (Int.ofNat 1) (ih 2)),
  (24, fun ih => yo_push (0, 0, Int.negSucc 8) (yo_ri 1))]
set_option maxRecDepth 100000 in
theorem yT126 : y_T yG none y_i0 (y_cc 123 ycs123 y_c0) ev_r126.1 (fun _ => none) yt126 := (y_T_cons 2 rfl (y_T_cons 9 rfl (y_T_cons 2 rfl (y_T_cons 2 rfl y_T_nil))))
def yct126_0 : yCt := ([(2, Int.ofNat 55, Int.ofNat 55, false)], (some (0, Int.ofNat 0, Int.ofNat 9, true)), [(55, 20, 20), (66, 0, 3)])
set_option maxRecDepth 100000 in
theorem yd126_0 : y_drv yt126 (y_st [2]) none (y_po yct126_0) [0, 2] 100000 5000 [y_start 1 yct126_0] = true := by decide +kernel
theorem yc126_0 : y_Mca yG 126 yct126_0 := y_Mca_of (r := ev_r126) rfl (y_con (k := 1) (by decide) (fun hc0 _ => y_drv_ok (h0 := (yG, hc0)) y_i0_ok (y_cc_ok yCs123 y_c0_ok) yT126 (fun _ h1 h2 => y_po_ok h1 h2) yd126_0 _ (List.mem_singleton.mpr rfl)))
noncomputable def ycs126 : List yCt := [yct126_0]
theorem yCs126 : ∀ ct ∈ ycs126, y_Mca yG 126 ct := (y_l1 yc126_0 y_l0)
/-- NameHall$Rescue.worthBy(III)I -/
noncomputable def yt127 : List (Nat × yB) := [(0, fun ih => yo_ld 0 1 (yo_if .lt (ih 19) (yo_ld 0 1 (yo_push (0, 0, Int.ofNat 5) (yo_ic .ge (ih 19) (yo_ld 0 2 (yo_if .lt (ih 19) (yo_ld 0 2 (yo_push (0, 0, Int.ofNat 16) (yo_ic .lt (ih 22) (ih 19))))))))))),
  (19, fun ih => yo_push (0, 0, Int.negSucc 8) (yo_ri 1)),
  (22, fun ih => yo_ld 0 3 (yo_if .ne (ih 37) (yo_lda 0 (yo_gf yG 5 1 (yo_ld 0 1 (yo_push (0, 0, Int.ofNat 1) (yo_bin 0 0 yg_add (yo_aa yG (yo_ld 0 2 (yo_al yG none 0 (yo_ri 1))))))))))),
  (37, fun ih => yo_push (0, 0, Int.ofNat 1) (yo_ld 0 3 (yo_push (0, 0, Int.ofNat 1) (yo_bin 0 0 yg_sub (yo_bin 0 0 (xg_i x_ishl (yg_en x_ishl)) (yo_st 0 4 5 (yo_ld 0 2 (yo_lda 0 (yo_gf yG 5 2 (yo_ld 0 1 (yo_al yG none 0 (yo_bin 0 0 (xg_i (· &&& ·) xg_and) (yo_ld 0 4 (yo_bin 0 0 (xg_i (· &&& ·) xg_and) (yo_if .ne (ih 61) (yo_push (0, 0, Int.negSucc 8) (yo_ri 1))))))))))))))))),
  (61, fun ih => yo_lda 0 (yo_gf yG 5 0 (yo_ld 0 3 (yo_push (0, 0, Int.ofNat 1) (yo_bin 0 0 yg_sub (yo_cts yG ycs42 5 1 2 0 0 0 0 (yo_lda 0 (yo_gf yG 5 1 (yo_ld 0 1 (yo_push (0, 0, Int.ofNat 1) (yo_bin 0 0 yg_add (yo_aa yG (yo_ld 0 2 (yo_ld 0 4 (yo_push (0, 0, Int.negSucc 0) (yo_bin 0 0 (xg_i (· ^^^ ·) yg_bit) (yo_bin 0 0 (xg_i (· &&& ·) xg_and) (yo_al yG none 0 (yo_bin 0 0 yg_add (yo_ri 1))))))))))))))))))))]
set_option maxRecDepth 100000 in
theorem yT127 : y_T yG none y_i0 (y_cc 42 ycs42 y_c0) ev_r127.1 (fun _ => none) yt127 := (y_T_cons 10 rfl (y_T_cons 2 rfl (y_T_cons 11 rfl (y_T_cons 17 rfl (y_T_cons 20 rfl y_T_nil)))))
def yct127_0 : yCt := ([(2, Int.ofNat 44, Int.ofNat 44, false), (0, Int.negSucc 2147483647, Int.ofNat 2147483647, false), (0, Int.negSucc 2147483647, Int.ofNat 2147483647, false), (0, Int.ofNat 0, Int.ofNat 4, false)], (some (0, Int.negSucc 2147483647, Int.ofNat 2147483647, true)), [])
set_option maxRecDepth 100000 in
theorem yd127_0 : y_drv yt127 (y_st []) none (y_po yct127_0) [0] 100000 5000 [y_start 1 yct127_0] = true := by decide +kernel
theorem yc127_0 : y_Mca yG 127 yct127_0 := y_Mca_of (r := ev_r127) rfl (y_con (k := 1) (by decide) (fun hc0 _ => y_drv_ok (h0 := (yG, hc0)) y_i0_ok (y_cc_ok yCs42 y_c0_ok) yT127 (fun _ h1 h2 => y_po_ok h1 h2) yd127_0 _ (List.mem_singleton.mpr rfl)))
noncomputable def ycs127 : List yCt := [yct127_0]
theorem yCs127 : ∀ ct ∈ ycs127, y_Mca yG 127 ct := (y_l1 yc127_0 y_l0)
/-- NameHall$Rescue.bestOf(II)I -/
noncomputable def yt128 : List (Nat × yB) := [(0, fun ih => yo_push (0, 0, Int.ofNat 0) (yo_st 0 3 5 (yo_push (0, 0, Int.ofNat 0) (yo_st 0 4 5 (ih 5))))),
  (5, fun ih => yo_ld 0 4 (yo_push (0, 0, Int.ofNat 4) (yo_ic .gt (ih 30) (yo_ld 0 3 (yo_lda 0 (yo_ld 0 1 (yo_ld 0 2 (yo_ld 0 4 (yo_cts yG ycs127 6 3 5 0 0 0 0 (yo_cl yG ym106 0 2 2 0 0 0 0 (yo_st 0 3 5 (yo_inc 4 5 (Int.ofNat 1) (ih 5))))))))))))),
  (30, fun ih => yo_ld 0 3 (yo_ri 1))]
set_option maxRecDepth 100000 in
theorem yT128 : y_T yG none (y_ic 106 ym106 y_i0) (y_cc 127 ycs127 y_c0) ev_r128.1 (fun _ => none) yt128 := (y_T_cons 4 rfl (y_T_cons 13 rfl (y_T_cons 2 rfl y_T_nil)))
def yct128_0 : yCt := ([(2, Int.ofNat 44, Int.ofNat 44, false), (0, Int.negSucc 2147483647, Int.ofNat 2147483647, false), (0, Int.negSucc 2147483647, Int.ofNat 2147483647, false)], (some (0, Int.ofNat 0, Int.ofNat 2147483647, false)), [])
set_option maxRecDepth 100000 in
theorem yd128_0 : y_drv yt128 (y_st [5]) none (y_po yct128_0) [0, 5] 100000 5000 [y_start 2 yct128_0] = true := by decide +kernel
theorem yc128_0 : y_Mca yG 128 yct128_0 := y_Mca_of (r := ev_r128) rfl (y_con (k := 2) (by decide) (fun hc0 _ => y_drv_ok (h0 := (yG, hc0)) (y_ic_ok (yM106 hc0) y_i0_ok) (y_cc_ok yCs127 y_c0_ok) yT128 (fun _ h1 h2 => y_po_ok h1 h2) yd128_0 _ (List.mem_singleton.mpr rfl)))
noncomputable def ycs128 : List yCt := [yct128_0]
theorem yCs128 : ∀ ct ∈ ycs128, y_Mca yG 128 ct := (y_l1 yc128_0 y_l0)
/-- NameHall$Rescue.prepare(LNameHall$Scene;)V -/
noncomputable def yt129 : List (Nat × yB) := [(0, fun ih => yo_lda 0 (yo_push (0, 0, Int.ofNat 1) (yo_lda 0 (yo_gf yG 5 0 (yo_cts yG ycs36 5 0 1 0 0 0 0 (yo_bin 0 0 (xg_i x_ishl (yg_en x_ishl)) (yo_push (0, 0, Int.ofNat 1) (yo_bin 0 0 yg_sub (yo_lda 1 (yo_cts yG ycs102 7 0 1 0 0 0 0 (yo_push (0, 0, Int.negSucc 0) (yo_bin 0 0 (xg_i (· ^^^ ·) yg_bit) (yo_bin 0 0 (xg_i (· &&& ·) xg_and) (yo_push (0, 0, Int.ofNat 15) (yo_bin 0 0 (xg_i (· &&& ·) xg_and) (yo_pf yG 5 3 0 (yo_push (0, 0, Int.ofNat 4) (yo_st 0 2 4 (ih 27))))))))))))))))))),
  (27, fun ih => yo_ld 0 2 (yo_if .lt (ih 76) (yo_lda 0 (yo_gf yG 5 2 (yo_ld 0 2 (yo_lda 1 (yo_ld 0 2 (yo_cts yG ycs103 7 1 2 0 0 0 0 (yo_as yG 0 (yo_push (0, 0, Int.ofNat 0) (yo_st 0 3 4 (ih 44)))))))))))),
  (44, fun ih => yo_ld 0 3 (yo_push (0, 0, Int.ofNat 16) (yo_ic .ge (ih 70) (yo_lda 0 (yo_gf yG 5 1 (yo_ld 0 2 (yo_aa yG (yo_ld 0 3 (yo_lda 0 (yo_ld 0 2 (yo_ld 0 3 (yo_cts yG ycs128 6 2 5 0 0 0 0 (yo_as yG 0 (yo_inc 3 4 (Int.ofNat 1) (ih 44))))))))))))))),
  (70, fun ih => yo_inc 2 4 (Int.negSucc 0) (ih 27)),
  (76, fun ih => yo_rv 0)]
set_option maxRecDepth 100000 in
theorem yT129 : y_T yG none y_i0 (y_cc 36 ycs36 (y_cc 102 ycs102 (y_cc 103 ycs103 (y_cc 128 ycs128 y_c0)))) ev_r129.1 (fun _ => none) yt129 := (y_T_cons 18 rfl (y_T_cons 11 rfl (y_T_cons 15 rfl (y_T_cons 2 rfl (y_T_cons 1 rfl y_T_nil)))))
def yct129_0 : yCt := ([(2, Int.ofNat 44, Int.ofNat 44, false), (2, Int.ofNat 9, Int.ofNat 9, false)], none, [(44, 3, 3), (46, 0, 15), (47, 0, 15), (48, 0, 15), (49, 0, 15), (50, 0, 15), (52, 0, 4)])
set_option maxRecDepth 100000 in
theorem yd129_0 : y_drv yt129 (y_st [27, 44]) none (y_po yct129_0) [0, 44, 27] 100000 5000 [y_start 2 yct129_0] = true := by decide +kernel
theorem yc129_0 : y_Mca yG 129 yct129_0 := y_Mca_of (r := ev_r129) rfl (y_con (k := 2) (by decide) (fun hc0 _ => y_drv_ok (h0 := (yG, hc0)) y_i0_ok (y_cc_ok yCs36 (y_cc_ok yCs102 (y_cc_ok yCs103 (y_cc_ok yCs128 y_c0_ok)))) yT129 (fun _ h1 h2 => y_po_ok h1 h2) yd129_0 _ (List.mem_singleton.mpr rfl)))
noncomputable def ycs129 : List yCt := [yct129_0]
theorem yCs129 : ∀ ct ∈ ycs129, y_Mca yG 129 ct := (y_l1 yc129_0 y_l0)
/-- NameHall$Rescue.firstFigure(II)I -/
noncomputable def yt130 : List (Nat × yB) := [(0, fun ih => yo_lda 0 (yo_ld 0 1 (yo_ld 0 2 (yo_cts yG ycs128 6 2 5 0 0 0 0 (yo_st 0 3 5 (yo_push (0, 0, Int.ofNat 0) (yo_st 0 4 5 (ih 10)))))))),
  (10, fun ih => yo_ld 0 4 (yo_push (0, 0, Int.ofNat 4) (yo_ic .gt (ih 37) (yo_lda 0 (yo_ld 0 1 (yo_ld 0 2 (yo_ld 0 4 (yo_cts yG ycs127 6 3 5 0 0 0 0 (yo_ld 0 3 (yo_ic .ne (ih 31) (yo_ld 0 4 (yo_ri 1)))))))))))),
  (31, fun ih => yo_inc 4 5 (Int.ofNat 1) (ih 10)),
  (37, fun ih => yo_push (0, 0, Int.ofNat 0) (yo_ri 1))]
set_option maxRecDepth 100000 in
theorem yT130 : y_T yG none y_i0 (y_cc 128 ycs128 (y_cc 127 ycs127 y_c0)) ev_r130.1 (fun _ => none) yt130 := (y_T_cons 7 rfl (y_T_cons 12 rfl (y_T_cons 2 rfl (y_T_cons 2 rfl y_T_nil))))
def yct130_0 : yCt := ([(2, Int.ofNat 44, Int.ofNat 44, false), (0, Int.negSucc 2147483647, Int.ofNat 2147483647, false), (0, Int.negSucc 2147483647, Int.ofNat 2147483647, false)], (some (0, Int.ofNat 0, Int.ofNat 4, false)), [])
set_option maxRecDepth 100000 in
theorem yd130_0 : y_drv yt130 (y_st [10]) none (y_po yct130_0) [0, 10] 100000 5000 [y_start 2 yct130_0] = true := by decide +kernel
theorem yc130_0 : y_Mca yG 130 yct130_0 := y_Mca_of (r := ev_r130) rfl (y_con (k := 2) (by decide) (fun hc0 _ => y_drv_ok (h0 := (yG, hc0)) y_i0_ok (y_cc_ok yCs128 (y_cc_ok yCs127 y_c0_ok)) yT130 (fun _ h1 h2 => y_po_ok h1 h2) yd130_0 _ (List.mem_singleton.mpr rfl)))
noncomputable def ycs130 : List yCt := [yct130_0]
theorem yCs130 : ∀ ct ∈ ycs130, y_Mca yG 130 ct := (y_l1 yc130_0 y_l0)
/-- NameHall$Rescue.firstWay()I -/
noncomputable def yt131 : List (Nat × yB) := [(0, fun ih => yo_push (0, 0, Int.ofNat 0) (yo_st 0 1 5 (yo_lda 0 (yo_gf yG 5 3 (yo_st 0 2 5 (yo_push (0, 0, Int.ofNat 0) (yo_st 0 3 5 (ih 9)))))))),
  (9, fun ih => yo_ld 0 3 (yo_lda 0 (yo_gf yG 5 0 (yo_cts yG ycs37 5 0 1 0 0 0 0 (yo_ic .ge (ih 58) (yo_lda 0 (yo_ld 0 3 (yo_ld 0 2 (yo_cts yG ycs130 6 2 5 0 0 0 0 (yo_st 0 4 5 (yo_ld 0 4 (yo_if .le (ih 44) (yo_ld 0 2 (yo_push (0, 0, Int.ofNat 1) (yo_ld 0 4 (yo_push (0, 0, Int.ofNat 1) (yo_bin 0 0 yg_sub (yo_bin 0 0 (xg_i x_ishl (yg_en x_ishl)) (yo_push (0, 0, Int.negSucc 0) (yo_bin 0 0 (xg_i (· ^^^ ·) yg_bit) (yo_bin 0 0 (xg_i (· &&& ·) xg_and) (yo_st 0 2 5 (ih 44))))))))))))))))))))))),
  (44, fun ih => yo_push (0, 0, Int.ofNat 10) (yo_ld 0 1 (yo_bin 0 0 (xg_i (· * ·) yg_mul) (yo_ld 0 4 (yo_bin 0 0 yg_add (yo_st 0 1 5 (yo_inc 3 5 (Int.ofNat 1) (ih 9)))))))),
  (58, fun ih => yo_ld 0 1 (yo_ri 1))]
set_option maxRecDepth 100000 in
theorem yT131 : y_T yG none y_i0 (y_cc 37 ycs37 (y_cc 130 ycs130 y_c0)) ev_r131.1 (fun _ => none) yt131 := (y_T_cons 7 rfl (y_T_cons 22 rfl (y_T_cons 8 rfl (y_T_cons 2 rfl y_T_nil))))
def yct131_0 : yCt := ([(2, Int.ofNat 44, Int.ofNat 44, false)], (some (0, Int.ofNat 0, Int.ofNat 44444, false)), [])
set_option maxRecDepth 100000 in
theorem yd131_0 : y_drv yt131 (y_st [9]) none (y_po yct131_0) [0, 9] 100000 5000 [y_start 4 yct131_0] = true := by decide +kernel
theorem yc131_0 : y_Mca yG 131 yct131_0 := y_Mca_of (r := ev_r131) rfl (y_con (k := 4) (by decide) (fun hc0 _ => y_drv_ok (h0 := (yG, hc0)) y_i0_ok (y_cc_ok yCs37 (y_cc_ok yCs130 y_c0_ok)) yT131 (fun _ h1 h2 => y_po_ok h1 h2) yd131_0 _ (List.mem_singleton.mpr rfl)))
noncomputable def ycs131 : List yCt := [yct131_0]
theorem yCs131 : ∀ ct ∈ ycs131, y_Mca yG 131 ct := (y_l1 yc131_0 y_l0)
/-- NameHall$Rescue.greatest()I -/
noncomputable def yt132 : List (Nat × yB) := [(0, fun ih => yo_lda 0 (yo_gf yG 5 1 (yo_push (0, 0, Int.ofNat 0) (yo_aa yG (yo_lda 0 (yo_gf yG 5 3 (yo_al yG none 0 (yo_ri 1))))))))]
set_option maxRecDepth 100000 in
theorem yT132 : y_T yG none y_i0 y_c0 ev_r132.1 (fun _ => none) yt132 := (y_T_cons 8 rfl y_T_nil)
def yct132_0 : yCt := ([(2, Int.ofNat 44, Int.ofNat 44, false)], (some (0, Int.negSucc 2147483647, Int.ofNat 2147483647, false)), [])
set_option maxRecDepth 100000 in
theorem yd132_0 : y_drv yt132 (y_st []) none (y_po yct132_0) [0] 100000 5000 [y_start 0 yct132_0] = true := by decide +kernel
theorem yc132_0 : y_Mca yG 132 yct132_0 := y_Mca_of (r := ev_r132) rfl (y_con (k := 0) (by decide) (fun hc0 _ => y_drv_ok (h0 := (yG, hc0)) y_i0_ok y_c0_ok yT132 (fun _ h1 h2 => y_po_ok h1 h2) yd132_0 _ (List.mem_singleton.mpr rfl)))
noncomputable def ycs132 : List yCt := [yct132_0]
theorem yCs132 : ∀ ct ∈ ycs132, y_Mca yG 132 ct := (y_l1 yc132_0 y_l0)
/-- NameHall.fire(Z)I -/
noncomputable def yt133 : List (Nat × yB) := [(0, fun ih => yo_lda 0 (yo_gf yG 9 8 (yo_lda 0 (yo_gf yG 9 2 (yo_cts yG ycs129 6 1 4 0 0 0 0 (yo_ld 0 1 (yo_if .eq (ih 25) (yo_lda 0 (yo_gf yG 9 8 (yo_cts yG ycs131 6 0 5 0 0 0 0 (ih 32))))))))))),
  (25, fun ih => yo_lda 0 (yo_gf yG 9 8 (yo_cts yG ycs132 6 0 1 0 0 0 0 (ih 32)))),
  (32, fun ih => yo_ri 1)]
set_option maxRecDepth 100000 in
theorem yT133 : y_T yG none y_i0 (y_cc 129 ycs129 (y_cc 131 ycs131 (y_cc 132 ycs132 y_c0))) ev_r133.1 (fun _ => none) yt133 := (y_T_cons 11 rfl (y_T_cons 3 rfl (y_T_cons 1 rfl y_T_nil)))
def yct133_0 : yCt := ([(2, Int.ofNat 0, Int.ofNat 0, false), (0, Int.ofNat 0, Int.ofNat 1, false)], (some (0, Int.negSucc 2147483647, Int.ofNat 2147483647, false)), [(44, 3, 3), (46, 0, 15), (47, 0, 15), (48, 0, 15), (49, 0, 15), (50, 0, 15), (52, 0, 4)])
set_option maxRecDepth 100000 in
theorem yd133_0 : y_drv yt133 (y_st []) none (y_po yct133_0) [0] 100000 5000 [y_start 0 yct133_0] = true := by decide +kernel
theorem yc133_0 : y_Mca yG 133 yct133_0 := y_Mca_of (r := ev_r133) rfl (y_con (k := 0) (by decide) (fun hc0 _ => y_drv_ok (h0 := (yG, hc0)) y_i0_ok (y_cc_ok yCs129 (y_cc_ok yCs131 (y_cc_ok yCs132 y_c0_ok))) yT133 (fun _ h1 h2 => y_po_ok h1 h2) yd133_0 _ (List.mem_singleton.mpr rfl)))
noncomputable def ycs133 : List yCt := [yct133_0]
theorem yCs133 : ∀ ct ∈ ycs133, y_Mca yG 133 ct := (y_l1 yc133_0 y_l0)
/-- NameHallModel.fire(Z)I -/
noncomputable def yt134 : List (Nat × yB) := [(0, fun ih => yo_push (0, 0, Int.negSucc 8) (yo_st 0 2 7 (yo_push (0, 0, Int.ofNat 0) (yo_st 0 3 7 (yo_push (0, 0, Int.ofNat 0) (yo_st 0 4 7 (ih 8))))))),
  (8, fun ih => yo_ld 0 4 (yo_lda 0 (yo_gf yG 10 0 (yo_push (0, 0, Int.ofNat 1) (yo_bin 0 0 yg_add (yo_lda 0 (yo_gf yG 10 1 (yo_cts yG ycs115 0 2 4 0 0 0 0 (yo_ic .ge (ih 127) (yo_lda 0 (yo_ld 0 4 (yo_lda 0 (yo_cts yG ycs114 11 0 1 0 0 0 0 (yo_push (0, 0, Int.negSucc 8) (yo_cts yG ycs117 11 3 7 0 0 0 0 (yo_if .eq (ih 121) (yo_push (0, 0, Int.ofNat 0) (yo_st 0 5 7 (yo_push (0, 0, Int.ofNat 0) (yo_st 0 6 7 (ih 47))))))))))))))))))))),
  (47, fun ih => yo_ld 0 6 (yo_lda 0 (yo_gf yG 10 1 (yo_ic .ge (ih 95) (yo_ld 0 5 (yo_lda 0 (yo_ld 0 4 (yo_ld 0 6 (yo_cl yG ym116 11 2 3 0 0 0 0 (yo_if .ge (ih 73) (yo_push (0, 0, Int.ofNat 0) (ih 86)))))))))))),
  (73, fun ih => yo_lda 0 (yo_gf yG 10 3 (yo_lda 0 (yo_ld 0 4 (yo_ld 0 6 (yo_cl yG ym116 11 2 3 0 0 0 0 (yo_al yG none 0 (ih 86)))))))),
  (86, fun ih => yo_bin 0 0 yg_add (yo_st 0 5 7 (yo_inc 6 7 (Int.ofNat 1) (ih 47)))),
  (95, fun ih => yo_ld 0 5 (yo_ld 0 2 (yo_ic .le (ih 106) (yo_ld 0 4 (ih 107))))),
  (106, fun ih => yo_ld 0 3 (ih 107)),
  (107, fun ih => yo_st 0 3 7 (yo_ld 0 5 (yo_ld 0 2 (yo_ic .le (ih 119) (yo_ld 0 5 (ih 120)))))),
  (119, fun ih => yo_ld 0 2 (ih 120)),
  (120, fun ih => yo_st 0 2 7 (ih 121)),
  (121, fun ih => yo_inc 4 7 (Int.ofNat 1) (ih 8)),
  (127, fun ih => yo_ld 0 1 (yo_if .eq (ih 139) (yo_lda 0 (yo_ld 0 3 (yo_cts yG ycs119 11 1 4 0 0 0 0 (ih 140)))))),
  (139, fun ih => yo_ld 0 2 (ih 140)),
  (140, fun ih => yo_ri 1)]
set_option maxRecDepth 100000 in
theorem yT134 : y_T yG none (y_ic 116 ym116 y_i0) (y_cc 115 ycs115 (y_cc 114 ycs114 (y_cc 117 ycs117 (y_cc 119 ycs119 y_c0)))) ev_r134.1 (fun _ => none) yt134 := (y_T_cons 6 rfl (y_T_cons 20 rfl (y_T_cons 12 rfl (y_T_cons 7 rfl (y_T_cons 4 rfl (y_T_cons 5 rfl (y_T_cons 1 rfl (y_T_cons 6 rfl (y_T_cons 1 rfl (y_T_cons 1 rfl (y_T_cons 2 rfl (y_T_cons 6 rfl (y_T_cons 1 rfl (y_T_cons 1 rfl y_T_nil))))))))))))))
def yct134_0 : yCt := ([(2, Int.ofNat 55, Int.ofNat 55, false), (0, Int.ofNat 0, Int.ofNat 1, false)], (some (0, Int.negSucc 2147483647, Int.ofNat 2147483647, false)), [(66, 0, 3)])
set_option maxRecDepth 100000 in
def zf134_0 : List yF := [(2, Int.ofNat 55, Int.ofNat 55, false), (0, Int.ofNat 0, Int.ofNat 1, false), (0, Int.negSucc 2147483647, Int.ofNat 2147483647, false), (0, Int.ofNat 0, Int.ofNat 3124, false), (0, Int.ofNat 0, Int.ofNat 3125, false)]
set_option maxRecDepth 100000 in
theorem zdA134_0 : z_drv 0 yt134 (y_st [8, 47]) none (z_pA 8 zf134_0 yct134_0) [0, 47, 8] 100000 5000 [y_start 5 yct134_0] = true := by decide +kernel
set_option maxRecDepth 100000 in
theorem zdB134_0 : y_all (fun x1 => y_all (fun x2 => z_drv 4 yt134 (y_st [8, 47]) none (z_pB 8 zf134_0 yct134_0 4 3) [0, 47, 8] 100000 5000 [x2]) (y_spl 55 1 0 x1 (Int.ofNat 0) 5)) (y_spl 55 0 0 (z_start 8 2 zf134_0 yct134_0.2.2) (Int.ofNat 0) 4) = true := by decide +kernel
set_option maxRecDepth 100000 in
theorem yc134_0 : y_Mca yG 134 yct134_0 := y_Mca_of (r := ev_r134) rfl (z_loop (pad := 5) (hd := 8) (k := 2) (N := 3125) (c := 4) (cs := 3) (pr := 4) (fs := zf134_0) (by decide +kernel) (by decide) (by decide) (by decide +kernel) (by decide) (by decide +kernel) (by decide +kernel)
  (fun hc0 _ σ hp => z_drv_ok (h0 := (yG, hc0)) (y_ic_ok (yM116 hc0) y_i0_ok) (y_cc_ok yCs115 (y_cc_ok yCs114 (y_cc_ok yCs117 (y_cc_ok yCs119 y_c0_ok)))) yT134 hp zdA134_0 _ (List.mem_singleton.mpr rfl))
  (fun hc0 _ σ hp => z_spl_ok rfl rfl rfl rfl (fun x1 m1 => have H1 := zdB134_0; z_spl_ok rfl rfl rfl rfl (fun x2 m2 => have H2 := (y_all_ok H1 x1 m1); z_drv_ok (h0 := (yG, hc0)) (y_ic_ok (yM116 hc0) y_i0_ok) (y_cc_ok yCs115 (y_cc_ok yCs114 (y_cc_ok yCs117 (y_cc_ok yCs119 y_c0_ok)))) yT134 hp (y_all_ok H2 x2 m2) _ (List.mem_singleton.mpr rfl)))))
noncomputable def ycs134 : List yCt := [yct134_0]
theorem yCs134 : ∀ ct ∈ ycs134, y_Mca yG 134 ct := (y_l1 yc134_0 y_l0)
/-- NameHall.readThings(II)Z -/
noncomputable def yt135 : List (Nat × yB) := [(0, fun ih => yo_ld 0 2 (yo_st 0 3 5 (yo_ld 0 1 (yo_push (0, 0, Int.ofNat 4) (yo_cl yG ym108 0 2 2 0 0 0 0 (yo_push (0, 0, Int.ofNat 1) (yo_bin 0 0 yg_sub (yo_st 0 4 5 (ih 11))))))))),
  (11, fun ih => yo_ld 0 4 (yo_if .lt (ih 38) (yo_lda 0 (yo_gf yG 9 10 (yo_ld 0 4 (yo_ld 0 3 (yo_push (0, 0, Int.ofNat 100) (yo_dv 1 yg_rem (yo_as yG 0 (yo_ld 0 3 (yo_push (0, 0, Int.ofNat 100) (yo_dv 0 xg_div (yo_st 0 3 5 (yo_inc 4 5 (Int.negSucc 0) (ih 11))))))))))))))),
  (38, fun ih => yo_ld 0 3 (yo_if .ne (ih 46) (yo_push (0, 0, Int.ofNat 1) (ih 47)))),
  (46, fun ih => yo_push (0, 0, Int.ofNat 0) (ih 47)),
  (47, fun ih => yo_ri 2)]
set_option maxRecDepth 100000 in
theorem yT135 : y_T yG none (y_ic 108 ym108 y_i0) y_c0 ev_r135.1 (fun _ => none) yt135 := (y_T_cons 8 rfl (y_T_cons 15 rfl (y_T_cons 4 rfl (y_T_cons 1 rfl (y_T_cons 1 rfl y_T_nil)))))
def yct135_0 : yCt := ([(2, Int.ofNat 0, Int.ofNat 0, false), (0, Int.ofNat 1, Int.ofNat 4, false), (0, Int.negSucc 2147483647, Int.ofNat 2147483647, false)], (some (0, Int.ofNat 0, Int.ofNat 1, false)), [(54, 0, 3)])
set_option maxRecDepth 100000 in
theorem yd135_0 : y_drv yt135 (y_st [11]) none (y_po yct135_0) [0, 11] 100000 5000 [y_start 2 yct135_0] = true := by decide +kernel
theorem yc135_0 : y_Mca yG 135 yct135_0 := y_Mca_of (r := ev_r135) rfl (y_con (k := 2) (by decide) (fun hc0 _ => y_drv_ok (h0 := (yG, hc0)) (y_ic_ok (yM108 hc0) y_i0_ok) y_c0_ok yT135 (fun _ h1 h2 => y_po_ok h1 h2) yd135_0 _ (List.mem_singleton.mpr rfl)))
noncomputable def ycs135 : List yCt := [yct135_0]
theorem yCs135 : ∀ ct ∈ ycs135, y_Mca yG 135 ct := (y_l1 yc135_0 y_l0)
/-- NameHall$Scene.copy(LNameHall$Scene;)V -/
noncomputable def yt136 : List (Nat × yB) := [(0, fun ih => yo_lda 1 (yo_gf yG 6 1 (yo_push (0, 0, Int.ofNat 0) (yo_lda 0 (yo_gf yG 6 1 (yo_push (0, 0, Int.ofNat 0) (yo_push (0, 0, Int.ofNat 5) (yo_cp yG 1 26 (yo_lda 1 (yo_gf yG 6 2 (yo_push (0, 0, Int.ofNat 0) (yo_lda 0 (yo_gf yG 6 2 (yo_push (0, 0, Int.ofNat 0) (yo_push (0, 0, Int.ofNat 5) (yo_cp yG 1 26 (yo_lda 1 (yo_gf yG 6 3 (yo_push (0, 0, Int.ofNat 0) (yo_lda 0 (yo_gf yG 6 3 (yo_push (0, 0, Int.ofNat 0) (yo_push (0, 0, Int.ofNat 5) (yo_cp yG 1 26 (yo_lda 0 (yo_lda 1 (yo_gf yG 6 4 (yo_pf yG 6 4 0 (yo_lda 0 (yo_lda 1 (yo_gf yG 6 5 (yo_pf yG 6 5 0 (yo_lda 0 (yo_lda 1 (yo_gf yG 6 6 (yo_pf yG 6 6 0 (yo_rv 0)))))))))))))))))))))))))))))))))))))]
set_option maxRecDepth 100000 in
theorem yT136 : y_T yG none y_i0 y_c0 ev_r136.1 (fun _ => none) yt136 := (y_T_cons 37 rfl y_T_nil)
def yct136_0 : yCt := ([(2, Int.ofNat 13, Int.ofNat 13, false), (2, Int.ofNat 9, Int.ofNat 9, false)], none, [(13, 4, 6), (14, 0, 4), (15, 0, 4), (16, 0, 4)])
set_option maxRecDepth 100000 in
theorem yd136_0 : y_drv yt136 (y_st []) none (y_po yct136_0) [0] 100000 5000 [y_start 0 yct136_0] = true := by decide +kernel
theorem yc136_0 : y_Mca yG 136 yct136_0 := y_Mca_of (r := ev_r136) rfl (y_con (k := 0) (by decide) (fun hc0 _ => y_drv_ok (h0 := (yG, hc0)) y_i0_ok y_c0_ok yT136 (fun _ h1 h2 => y_po_ok h1 h2) yd136_0 _ (List.mem_singleton.mpr rfl)))
noncomputable def ycs136 : List yCt := [yct136_0]
theorem yCs136 : ∀ ct ∈ ycs136, y_Mca yG 136 ct := (y_l1 yc136_0 y_l0)
/-- NameHall$Scene.hangs(I)Z -/
noncomputable def yt137 : List (Nat × yB) := [(0, fun ih => yo_lda 0 (yo_ld 0 1 (yo_cl yG ym53 7 1 2 0 0 0 0 (yo_push (0, 0, Int.negSucc 8) (yo_ic .eq (ih 14) (yo_push (0, 0, Int.ofNat 1) (ih 15))))))),
  (14, fun ih => yo_push (0, 0, Int.ofNat 0) (ih 15)),
  (15, fun ih => yo_st 0 2 3 (yo_ld 0 2 (yo_if .eq (ih 25) (yo_lda 0 (yo_ld 0 1 (yo_cts yG ycs81 7 1 2 0 0 0 0 (ih 25))))))),
  (25, fun ih => yo_ld 0 2 (yo_ri 2))]
set_option maxRecDepth 100000 in
theorem yT137 : y_T yG none (y_ic 53 ym53 y_i0) (y_cc 81 ycs81 y_c0) ev_r137.1 (fun _ => none) yt137 := (y_T_cons 7 rfl (y_T_cons 1 rfl (y_T_cons 6 rfl (y_T_cons 2 rfl y_T_nil))))
noncomputable def ym137 : List xv → yH → xE → yR := y_mth 1 yt137 100000
theorem yM137 (hc0 : ev_H) : y_Ma (yG, hc0) 137 ym137 := y_Ma_of (r := ev_r137) rfl (ys_mth (h0 := (yG, hc0)) (y_ic_ok (yM53 hc0) y_i0_ok) (y_cc_ok yCs81 y_c0_ok) yT137)
/-- NameHall$Scene.takes(II)Z -/
noncomputable def yt138 : List (Nat × yB) := [(0, fun ih => yo_lda 0 (yo_ld 0 1 (yo_ld 0 2 (yo_cl yG ym67 7 2 3 0 0 0 0 (yo_st 0 3 4 (yo_ld 0 3 (yo_if .eq (ih 17) (yo_lda 0 (yo_ld 0 1 (yo_ld 0 2 (yo_cts yG ycs71 7 2 3 0 0 0 0 (ih 17)))))))))))),
  (17, fun ih => yo_ld 0 3 (yo_ri 2))]
set_option maxRecDepth 100000 in
theorem yT138 : y_T yG none (y_ic 67 ym67 y_i0) (y_cc 71 ycs71 y_c0) ev_r138.1 (fun _ => none) yt138 := (y_T_cons 11 rfl (y_T_cons 2 rfl y_T_nil))
noncomputable def ym138 : List xv → yH → xE → yR := y_mth 1 yt138 100000
theorem yM138 (hc0 : ev_H) : y_Ma (yG, hc0) 138 ym138 := y_Ma_of (r := ev_r138) rfl (ys_mth (h0 := (yG, hc0)) (y_ic_ok (yM67 hc0) y_i0_ok) (y_cc_ok yCs71 y_c0_ok) yT138)
/-- NameHall.happens(I)Z -/
noncomputable def yt139 : List (Nat × yB) := [(0, fun ih => yo_ld 0 1 (yo_push (0, 0, Int.ofNat 10) (yo_dv 0 xg_div (yo_push (0, 0, Int.ofNat 1) (yo_bin 0 0 yg_sub (yo_st 0 2 4 (yo_ld 0 1 (yo_push (0, 0, Int.ofNat 10) (yo_dv 1 yg_rem (yo_push (0, 0, Int.ofNat 1) (yo_bin 0 0 yg_sub (yo_st 0 3 4 (yo_ld 0 2 (yo_if .ge (ih 32) (yo_ld 0 3 (yo_if .ge (ih 32) (yo_lda 0 (yo_gf yG 9 3 (yo_cts yG ycs88 7 0 3 0 0 0 0 (yo_pop (yo_push (0, 0, Int.ofNat 1) (yo_ri 2)))))))))))))))))))))),
  (32, fun ih => yo_ld 0 3 (yo_if .ge (ih 47) (yo_lda 0 (yo_gf yG 9 3 (yo_ld 0 2 (yo_cl yG ym137 7 1 3 0 0 0 0 (ih 56))))))),
  (47, fun ih => yo_lda 0 (yo_gf yG 9 3 (yo_ld 0 2 (yo_ld 0 3 (yo_cl yG ym138 7 2 4 0 0 0 0 (ih 56)))))),
  (56, fun ih => yo_ri 2)]
set_option maxRecDepth 100000 in
theorem yT139 : y_T yG none (y_ic 137 ym137 (y_ic 138 ym138 y_i0)) (y_cc 88 ycs88 y_c0) ev_r139.1 (fun _ => none) yt139 := (y_T_cons 22 rfl (y_T_cons 7 rfl (y_T_cons 5 rfl (y_T_cons 1 rfl y_T_nil))))
noncomputable def ym139 : List xv → yH → xE → yR := y_mth 2 yt139 100000
theorem yM139 (hc0 : ev_H) : y_Ma (yG, hc0) 139 ym139 := y_Ma_of (r := ev_r139) rfl (ys_mth (h0 := (yG, hc0)) (y_ic_ok (yM137 hc0) (y_ic_ok (yM138 hc0) y_i0_ok)) (y_cc_ok yCs88 y_c0_ok) yT139)
/-- NameHall.judge(II)I -/
noncomputable def yt140 : List (Nat × yB) := [(0, fun ih => yo_ld 0 1 (yo_push (0, 0, Int.ofNat 1) (yo_ic .lt (ih 23) (yo_ld 0 1 (yo_push (0, 0, Int.ofNat 4) (yo_ic .gt (ih 23) (yo_ld 0 2 (yo_if .lt (ih 23) (yo_lda 0 (yo_ld 0 1 (yo_ld 0 2 (yo_cts yG ycs135 10 2 5 0 0 0 0 (yo_if .ne (ih 26) (ih 23)))))))))))))),
  (23, fun ih => yo_push (0, 0, Int.negSucc 1) (yo_ri 1)),
  (26, fun ih => yo_lda 0 (yo_gf yG 9 3 (yo_lda 0 (yo_gf yG 9 2 (yo_cts yG ycs136 7 1 2 0 0 0 0 (yo_lda 0 (yo_gf yG 9 3 (yo_cts yG ycs32 7 0 1 0 0 0 0 (yo_push (0, 0, Int.ofNat 0) (yo_st 0 3 4 (ih 46))))))))))),
  (46, fun ih => yo_ld 0 3 (yo_ld 0 1 (yo_ic .ge (ih 72) (yo_lda 0 (yo_lda 0 (yo_gf yG 9 10 (yo_ld 0 3 (yo_al yG none 0 (yo_cl yG ym139 10 1 4 0 0 0 0 (yo_if .ne (ih 66) (yo_ld 0 3 (yo_ri 1)))))))))))),
  (66, fun ih => yo_inc 3 4 (Int.ofNat 1) (ih 46)),
  (72, fun ih => yo_push (0, 0, Int.negSucc 8) (yo_ri 1))]
set_option maxRecDepth 100000 in
theorem yT140 : y_T yG none (y_ic 139 ym139 y_i0) (y_cc 135 ycs135 (y_cc 136 ycs136 (y_cc 32 ycs32 y_c0))) ev_r140.1 (fun _ => none) yt140 := (y_T_cons 13 rfl (y_T_cons 2 rfl (y_T_cons 10 rfl (y_T_cons 12 rfl (y_T_cons 2 rfl (y_T_cons 2 rfl y_T_nil))))))
def yct140_0 : yCt := ([(2, Int.ofNat 0, Int.ofNat 0, false), (0, Int.negSucc 2147483647, Int.ofNat 2147483647, false), (0, Int.negSucc 2147483647, Int.ofNat 2147483647, false)], (some (0, Int.negSucc 1, Int.ofNat 3, true)), [(13, 4, 6), (14, 0, 4), (15, 0, 4), (16, 0, 4), (54, 0, 3)])
set_option maxRecDepth 100000 in
theorem yd140_0 : y_drv yt140 (y_st [46]) none (y_po yct140_0) [0, 46] 100000 5000 [y_start 1 yct140_0] = true := by decide +kernel
theorem yc140_0 : y_Mca yG 140 yct140_0 := y_Mca_of (r := ev_r140) rfl (y_con (k := 1) (by decide) (fun hc0 _ => y_drv_ok (h0 := (yG, hc0)) (y_ic_ok (yM139 hc0) y_i0_ok) (y_cc_ok yCs135 (y_cc_ok yCs136 (y_cc_ok yCs32 y_c0_ok))) yT140 (fun _ h1 h2 => y_po_ok h1 h2) yd140_0 _ (List.mem_singleton.mpr rfl)))
noncomputable def ycs140 : List yCt := [yct140_0]
theorem yCs140 : ∀ ct ∈ ycs140, y_Mca yG 140 ct := (y_l1 yc140_0 y_l0)
/-- NameHallModel.layTrial()V -/
noncomputable def yt141 : List (Nat × yB) := [(0, fun ih => yo_push (0, 0, Int.ofNat 0) (yo_st 0 1 2 (ih 2))),
  (2, fun ih => yo_ld 0 1 (yo_push (0, 0, Int.ofNat 18) (yo_ic .ge (ih 29) (yo_lda 0 (yo_gf yG 10 7 (yo_push (0, 0, Int.ofNat 18) (yo_ld 0 1 (yo_bin 0 0 yg_add (yo_lda 0 (yo_gf yG 10 7 (yo_ld 0 1 (yo_al yG none 0 (yo_as yG 0 (yo_inc 1 2 (Int.ofNat 1) (ih 2))))))))))))))),
  (29, fun ih => yo_rv 0)]
set_option maxRecDepth 100000 in
theorem yT141 : y_T yG none y_i0 y_c0 ev_r141.1 (fun _ => none) yt141 := (y_T_cons 2 rfl (y_T_cons 15 rfl (y_T_cons 1 rfl y_T_nil)))
def yct141_0 : yCt := ([(2, Int.ofNat 55, Int.ofNat 55, false)], none, [(61, 18, 35)])
set_option maxRecDepth 100000 in
theorem yd141_0 : y_drv yt141 (y_st [2]) none (y_po yct141_0) [0, 2] 100000 5000 [y_start 1 yct141_0] = true := by decide +kernel
theorem yc141_0 : y_Mca yG 141 yct141_0 := y_Mca_of (r := ev_r141) rfl (y_con (k := 1) (by decide) (fun hc0 _ => y_drv_ok (h0 := (yG, hc0)) y_i0_ok y_c0_ok yT141 (fun _ h1 h2 => y_po_ok h1 h2) yd141_0 _ (List.mem_singleton.mpr rfl)))
noncomputable def ycs141 : List yCt := [yct141_0]
theorem yCs141 : ∀ ct ∈ ycs141, y_Mca yG 141 ct := (y_l1 yc141_0 y_l0)
/-- NameHallModel.tryThing(I)Z -/
noncomputable def yt142 : List (Nat × yB) := [(0, fun ih => yo_ld 0 1 (yo_push (0, 0, Int.ofNat 10) (yo_dv 0 xg_div (yo_push (0, 0, Int.ofNat 1) (yo_bin 0 0 yg_sub (yo_st 0 2 5 (yo_ld 0 1 (yo_push (0, 0, Int.ofNat 10) (yo_dv 1 yg_rem (yo_push (0, 0, Int.ofNat 1) (yo_bin 0 0 yg_sub (yo_st 0 3 5 (yo_ld 0 1 (yo_if .ne (ih 26) (yo_lda 0 (yo_push (0, 0, Int.ofNat 1) (yo_cts yG ycs91 11 1 6 0 0 0 0 (yo_pop (yo_push (0, 0, Int.ofNat 1) (yo_ri 2)))))))))))))))))))),
  (26, fun ih => yo_lda 0 (yo_ld 0 2 (yo_cl yG ym61 11 1 2 0 0 0 0 (yo_if .ne (ih 36) (yo_push (0, 0, Int.ofNat 0) (yo_ri 2)))))),
  (36, fun ih => yo_ld 0 3 (yo_if .ge (ih 72) (yo_lda 0 (yo_gf yG 10 7 (yo_push (0, 0, Int.ofNat 18) (yo_ld 0 2 (yo_bin 0 0 yg_add (yo_al yG none 0 (yo_push (0, 0, Int.negSucc 8) (yo_ic .eq (ih 58) (yo_push (0, 0, Int.ofNat 1) (ih 59)))))))))))),
  (58, fun ih => yo_push (0, 0, Int.ofNat 0) (ih 59)),
  (59, fun ih => yo_st 0 4 5 (yo_lda 0 (yo_push (0, 0, Int.ofNat 1) (yo_ld 0 2 (yo_push (0, 0, Int.negSucc 8) (yo_cts yG ycs79 11 3 4 0 0 0 0 (yo_ld 0 4 (yo_ri 2)))))))),
  (72, fun ih => yo_lda 0 (yo_ld 0 3 (yo_cl yG ym46 11 1 2 0 0 0 0 (yo_if .eq (ih 94) (yo_lda 0 (yo_push (0, 0, Int.ofNat 1) (yo_ld 0 2 (yo_ld 0 3 (yo_cts yG ycs77 11 3 5 0 0 0 0 (yo_if .eq (ih 94) (yo_push (0, 0, Int.ofNat 1) (ih 95)))))))))))),
  (94, fun ih => yo_push (0, 0, Int.ofNat 0) (ih 95)),
  (95, fun ih => yo_st 0 4 5 (yo_ld 0 4 (yo_if .eq (ih 109) (yo_lda 0 (yo_push (0, 0, Int.ofNat 1) (yo_ld 0 2 (yo_ld 0 3 (yo_cts yG ycs79 11 3 4 0 0 0 0 (ih 109))))))))),
  (109, fun ih => yo_ld 0 4 (yo_ri 2))]
set_option maxRecDepth 100000 in
theorem yT142 : y_T yG none (y_ic 61 ym61 (y_ic 46 ym46 y_i0)) (y_cc 91 ycs91 (y_cc 79 ycs79 (y_cc 77 ycs77 y_c0))) ev_r142.1 (fun _ => none) yt142 := (y_T_cons 20 rfl (y_T_cons 6 rfl (y_T_cons 12 rfl (y_T_cons 1 rfl (y_T_cons 8 rfl (y_T_cons 12 rfl (y_T_cons 1 rfl (y_T_cons 8 rfl (y_T_cons 2 rfl y_T_nil)))))))))
def yct142_0 : yCt := ([(2, Int.ofNat 55, Int.ofNat 55, false), (0, Int.ofNat 0, Int.ofNat 99, false)], (some (0, Int.ofNat 0, Int.ofNat 1, false)), [(61, 18, 32), (61, 35, 35)])
set_option maxRecDepth 100000 in
theorem yd142_0 : y_drv yt142 (y_st []) none (y_po yct142_0) [0] 100000 5000 [y_start 3 yct142_0] = true := by decide +kernel
theorem yc142_0 : y_Mca yG 142 yct142_0 := y_Mca_of (r := ev_r142) rfl (y_con (k := 3) (by decide) (fun hc0 _ => y_drv_ok (h0 := (yG, hc0)) (y_ic_ok (yM61 hc0) (y_ic_ok (yM46 hc0) y_i0_ok)) (y_cc_ok yCs91 (y_cc_ok yCs79 (y_cc_ok yCs77 y_c0_ok))) yT142 (fun _ h1 h2 => y_po_ok h1 h2) yd142_0 _ (List.mem_singleton.mpr rfl)))
noncomputable def ycs142 : List yCt := [yct142_0]
theorem yCs142 : ∀ ct ∈ ycs142, y_Mca yG 142 ct := (y_l1 yc142_0 y_l0)
/-- NameHallModel.judge(II)I -/
noncomputable def yt143 : List (Nat × yB) := [(0, fun ih => yo_ld 0 1 (yo_un 0 xg_i2l (yo_push (1, 0, Int.ofNat 1) (yo_push (1, 0, Int.ofNat 4) (yo_cl yG ym15 0 3 6 0 0 0 0 (yo_if .eq (ih 30) (yo_ld 0 2 (yo_un 0 xg_i2l (yo_push (1, 0, Int.ofNat 0) (yo_push (0, 0, Int.ofNat 100) (yo_ld 0 1 (yo_cts yG ycs115 0 2 4 0 0 0 0 (yo_push (0, 0, Int.ofNat 1) (yo_bin 0 0 yg_sub (yo_un 0 xg_i2l (yo_cl yG ym15 0 3 6 0 0 0 0 (yo_if .ne (ih 33) (ih 30)))))))))))))))))),
  (30, fun ih => yo_push (0, 0, Int.negSucc 1) (yo_ri 1)),
  (33, fun ih => yo_lda 0 (yo_cts yG ycs141 11 0 2 0 0 0 0 (yo_push (0, 0, Int.ofNat 0) (yo_st 0 3 4 (ih 39))))),
  (39, fun ih => yo_ld 0 3 (yo_ld 0 1 (yo_ic .ge (ih 74) (yo_lda 0 (yo_ld 0 2 (yo_push (0, 0, Int.ofNat 100) (yo_ld 0 1 (yo_push (0, 0, Int.ofNat 1) (yo_bin 0 0 yg_sub (yo_ld 0 3 (yo_bin 0 0 yg_sub (yo_cts yG ycs115 0 2 4 0 0 0 0 (yo_dv 0 xg_div (yo_push (0, 0, Int.ofNat 100) (yo_dv 1 yg_rem (yo_cts yG ycs142 11 1 5 0 0 0 0 (yo_if .ne (ih 68) (yo_ld 0 3 (yo_ri 1))))))))))))))))))),
  (68, fun ih => yo_inc 3 4 (Int.ofNat 1) (ih 39)),
  (74, fun ih => yo_push (0, 0, Int.negSucc 8) (yo_ri 1))]
set_option maxRecDepth 100000 in
theorem yT143 : y_T yG none (y_ic 15 ym15 y_i0) (y_cc 115 ycs115 (y_cc 141 ycs141 (y_cc 142 ycs142 y_c0))) ev_r143.1 (fun _ => none) yt143 := (y_T_cons 17 rfl (y_T_cons 2 rfl (y_T_cons 4 rfl (y_T_cons 19 rfl (y_T_cons 2 rfl (y_T_cons 2 rfl y_T_nil))))))
def yct143_0 : yCt := ([(2, Int.ofNat 55, Int.ofNat 55, false), (0, Int.negSucc 2147483647, Int.ofNat 2147483647, false), (0, Int.negSucc 2147483647, Int.ofNat 2147483647, false)], (some (0, Int.negSucc 1, Int.ofNat 3, true)), [(61, 18, 35)])
set_option maxRecDepth 100000 in
theorem yd143_0 : y_all (fun x1 => y_all (fun x2 => y_all (fun x3 => y_all (fun x4 => y_all (fun x5 => y_drv yt143 (y_st [39]) none (y_po yct143_0) [0, 39] 100000 5000 [x5]) (y_sct 0 (Int.ofNat 5) x4)) (y_sct 0 (Int.ofNat 4) x3)) (y_sct 0 (Int.ofNat 3) x2)) (y_sct 0 (Int.ofNat 2) x1)) (y_sct 0 (Int.ofNat 1) (y_start 1 yct143_0)) = true := by decide +kernel
theorem yc143_0 : y_Mca yG 143 yct143_0 := y_Mca_of (r := ev_r143) rfl (y_con (k := 1) (by decide) (fun hc0 _ => y_sct_ok (fun x1 m1 => have H1 := yd143_0; y_sct_ok (fun x2 m2 => have H2 := (y_all_ok H1 x1 m1); y_sct_ok (fun x3 m3 => have H3 := (y_all_ok H2 x2 m2); y_sct_ok (fun x4 m4 => have H4 := (y_all_ok H3 x3 m3); y_sct_ok (fun x5 m5 => have H5 := (y_all_ok H4 x4 m4); y_drv_ok (h0 := (yG, hc0)) (y_ic_ok (yM15 hc0) y_i0_ok) (y_cc_ok yCs115 (y_cc_ok yCs141 (y_cc_ok yCs142 y_c0_ok))) yT143 (fun _ h1 h2 => y_po_ok h1 h2) (y_all_ok H5 x5 m5) _ (List.mem_singleton.mpr rfl))))))))
noncomputable def ycs143 : List yCt := [yct143_0]
theorem yCs143 : ∀ ct ∈ ycs143, y_Mca yG 143 ct := (y_l1 yc143_0 y_l0)
/-- NameHall$Clues.add([III)Z -/
noncomputable def yt144 : List (Nat × yB) := [(0, fun ih => yo_lda 0 (yo_gf yG 2 2 (yo_push (0, 0, Int.ofNat 6) (yo_ic .ge (ih 19) (yo_ld 0 2 (yo_if .lt (ih 19) (yo_ld 0 2 (yo_lda 1 (yo_len yG (yo_ic .lt (ih 21) (ih 19))))))))))),
  (19, fun ih => yo_push (0, 0, Int.ofNat 0) (yo_ri 2)),
  (21, fun ih => yo_lda 1 (yo_ld 0 2 (yo_dup2 (yo_al yG none 0 (yo_push (0, 0, Int.ofNat 1) (yo_ld 0 3 (yo_bin 0 0 (xg_i x_ishl (yg_en x_ishl)) (yo_bin 0 0 (xg_i (· ||| ·) yg_bit) (yo_as yG 0 (yo_lda 0 (yo_dup (yo_gf yG 2 2 (yo_push (0, 0, Int.ofNat 1) (yo_bin 0 0 yg_add (yo_pf yG 2 2 0 (yo_push (0, 0, Int.ofNat 1) (yo_ri 2)))))))))))))))))]
set_option maxRecDepth 100000 in
theorem yT144 : y_T yG none y_i0 y_c0 ev_r144.1 (fun _ => none) yt144 := (y_T_cons 10 rfl (y_T_cons 2 rfl (y_T_cons 17 rfl y_T_nil)))
noncomputable def ym144 : List xv → yH → xE → yR := y_mth 0 yt144 100000
theorem yM144 (hc0 : ev_H) : y_Ma (yG, hc0) 144 ym144 := y_Ma_of (r := ev_r144) rfl (ys_mth (h0 := (yG, hc0)) y_i0_ok y_c0_ok yT144)
/-- NameHall$Clues.addSeen(II)Z -/
noncomputable def yt145 : List (Nat × yB) := [(0, fun ih => yo_lda 0 (yo_lda 0 (yo_gf yG 2 0 (yo_ld 0 1 (yo_ld 0 2 (yo_cl yG ym144 3 3 4 0 0 0 0 (yo_ri 2)))))))]
set_option maxRecDepth 100000 in
theorem yT145 : y_T yG none (y_ic 144 ym144 y_i0) y_c0 ev_r145.1 (fun _ => none) yt145 := (y_T_cons 7 rfl y_T_nil)
noncomputable def ym145 : List xv → yH → xE → yR := y_mth 0 yt145 100000
theorem yM145 (hc0 : ev_H) : y_Ma (yG, hc0) 145 ym145 := y_Ma_of (r := ev_r145) rfl (ys_mth (h0 := (yG, hc0)) (y_ic_ok (yM144 hc0) y_i0_ok) y_c0_ok yT145)
/-- NameHall$Clues.size()I -/
noncomputable def yt146 : List (Nat × yB) := [(0, fun ih => yo_lda 0 (yo_gf yG 2 2 (yo_ri 1)))]
set_option maxRecDepth 100000 in
theorem yT146 : y_T yG none y_i0 y_c0 ev_r146.1 (fun _ => none) yt146 := (y_T_cons 3 rfl y_T_nil)
def yct146_0 : yCt := ([(2, Int.ofNat 38, Int.ofNat 38, false)], (some (0, Int.ofNat 0, Int.ofNat 6, false)), [])
set_option maxRecDepth 100000 in
theorem yd146_0 : y_drv yt146 (y_st []) none (y_po yct146_0) [0] 100000 5000 [y_start 0 yct146_0] = true := by decide +kernel
theorem yc146_0 : y_Mca yG 146 yct146_0 := y_Mca_of (r := ev_r146) rfl (y_con (k := 0) (by decide) (fun hc0 _ => y_drv_ok (h0 := (yG, hc0)) y_i0_ok y_c0_ok yT146 (fun _ h1 h2 => y_po_ok h1 h2) yd146_0 _ (List.mem_singleton.mpr rfl)))
noncomputable def ycs146 : List yCt := [yct146_0]
theorem yCs146 : ∀ ct ∈ ycs146, y_Mca yG 146 ct := (y_l1 yc146_0 y_l0)
/-- NameHall.see(II)I -/
noncomputable def yt147 : List (Nat × yB) := [(0, fun ih => yo_lda 0 (yo_gf yG 9 1 (yo_ld 0 1 (yo_cl yG ym49 5 1 2 0 0 0 0 (yo_if .ne (ih 13) (yo_push (0, 0, Int.negSucc 0) (yo_ri 1))))))),
  (13, fun ih => yo_ld 0 2 (yo_cl yG ym101 0 1 1 0 0 0 0 (yo_if .ne (ih 23) (yo_push (0, 0, Int.negSucc 1) (yo_ri 1))))),
  (23, fun ih => yo_lda 0 (yo_gf yG 9 6 (yo_ld 0 1 (yo_ld 0 2 (yo_cl yG ym145 3 2 3 0 0 0 0 (yo_if .eq (ih 45) (yo_lda 0 (yo_gf yG 9 6 (yo_cts yG ycs146 3 0 1 0 0 0 0 (ih 47)))))))))),
  (45, fun ih => yo_push (0, 0, Int.negSucc 3) (ih 47)),
  (47, fun ih => yo_ri 1)]
set_option maxRecDepth 100000 in
theorem yT147 : y_T yG none (y_ic 49 ym49 (y_ic 101 ym101 (y_ic 145 ym145 y_i0))) (y_cc 146 ycs146 y_c0) ev_r147.1 (fun _ => none) yt147 := (y_T_cons 7 rfl (y_T_cons 5 rfl (y_T_cons 10 rfl (y_T_cons 1 rfl (y_T_cons 1 rfl y_T_nil)))))
def yct147_0 : yCt := ([(2, Int.ofNat 0, Int.ofNat 0, false), (0, Int.negSucc 2147483647, Int.ofNat 2147483647, false), (0, Int.negSucc 2147483647, Int.ofNat 2147483647, false)], (some (0, Int.negSucc 3, Int.ofNat 6, false)), [(38, 2, 2), (39, 0, 4)])
set_option maxRecDepth 100000 in
theorem yd147_0 : y_drv yt147 (y_st []) none (y_po yct147_0) [0] 100000 5000 [y_start 0 yct147_0] = true := by decide +kernel
theorem yc147_0 : y_Mca yG 147 yct147_0 := y_Mca_of (r := ev_r147) rfl (y_con (k := 0) (by decide) (fun hc0 _ => y_drv_ok (h0 := (yG, hc0)) (y_ic_ok (yM49 hc0) (y_ic_ok (yM101 hc0) (y_ic_ok (yM145 hc0) y_i0_ok))) (y_cc_ok yCs146 y_c0_ok) yT147 (fun _ h1 h2 => y_po_ok h1 h2) yd147_0 _ (List.mem_singleton.mpr rfl)))
noncomputable def ycs147 : List yCt := [yct147_0]
theorem yCs147 : ∀ ct ∈ ycs147, y_Mca yG 147 ct := (y_l1 yc147_0 y_l0)
/-- NameHallModel.tell(II)I -/
noncomputable def yt148 : List (Nat × yB) := [(0, fun ih => yo_lda 0 (yo_gf yG 10 21 (yo_push (0, 0, Int.ofNat 6) (yo_ic .ne (ih 12) (yo_push (0, 0, Int.negSucc 3) (yo_ri 1)))))),
  (12, fun ih => yo_lda 0 (yo_gf yG 10 22 (yo_lda 0 (yo_gf yG 10 21 (yo_ld 0 1 (yo_as yG 0 (yo_lda 0 (yo_gf yG 10 23 (yo_lda 0 (yo_gf yG 10 21 (yo_ld 0 2 (yo_as yG 0 (yo_lda 0 (yo_dup (yo_gf yG 10 21 (yo_push (0, 0, Int.ofNat 1) (yo_bin 0 0 yg_add (yo_pf yG 10 21 0 (yo_lda 0 (yo_gf yG 10 21 (yo_ri 1)))))))))))))))))))))]
set_option maxRecDepth 100000 in
theorem yT148 : y_T yG none y_i0 y_c0 ev_r148.1 (fun _ => none) yt148 := (y_T_cons 6 rfl (y_T_cons 21 rfl y_T_nil))
def yct148_0 : yCt := ([(2, Int.ofNat 55, Int.ofNat 55, false), (0, Int.negSucc 2147483647, Int.ofNat 2147483647, false), (0, Int.negSucc 2147483647, Int.ofNat 2147483647, false)], (some (0, Int.negSucc 3, Int.ofNat 6, false)), [(55, 21, 21), (67, 0, 5), (68, 0, 5)])
set_option maxRecDepth 100000 in
theorem yd148_0 : y_drv yt148 (y_st []) none (y_po yct148_0) [0] 100000 5000 [y_start 0 yct148_0] = true := by decide +kernel
theorem yc148_0 : y_Mca yG 148 yct148_0 := y_Mca_of (r := ev_r148) rfl (y_con (k := 0) (by decide) (fun hc0 _ => y_drv_ok (h0 := (yG, hc0)) y_i0_ok y_c0_ok yT148 (fun _ h1 h2 => y_po_ok h1 h2) yd148_0 _ (List.mem_singleton.mpr rfl)))
noncomputable def ycs148 : List yCt := [yct148_0]
theorem yCs148 : ∀ ct ∈ ycs148, y_Mca yG 148 ct := (y_l1 yc148_0 y_l0)
/-- NameHallModel.see(II)I -/
noncomputable def yt149 : List (Nat × yB) := [(0, fun ih => yo_lda 0 (yo_ld 0 1 (yo_cl yG ym61 11 1 2 0 0 0 0 (yo_if .ne (ih 10) (yo_push (0, 0, Int.negSucc 0) (yo_ri 1)))))),
  (10, fun ih => yo_ld 0 2 (yo_un 0 xg_i2l (yo_push (1, 0, Int.ofNat 0) (yo_push (1, 0, Int.ofNat 9) (yo_cl yG ym15 0 3 6 0 0 0 0 (yo_if .eq (ih 31) (yo_lda 0 (yo_ld 0 1 (yo_ld 0 2 (yo_cts yG ycs148 11 2 3 0 0 0 0 (ih 33))))))))))),
  (31, fun ih => yo_push (0, 0, Int.negSucc 1) (ih 33)),
  (33, fun ih => yo_ri 1)]
set_option maxRecDepth 100000 in
theorem yT149 : y_T yG none (y_ic 61 ym61 (y_ic 15 ym15 y_i0)) (y_cc 148 ycs148 y_c0) ev_r149.1 (fun _ => none) yt149 := (y_T_cons 6 rfl (y_T_cons 11 rfl (y_T_cons 1 rfl (y_T_cons 1 rfl y_T_nil))))
def yct149_0 : yCt := ([(2, Int.ofNat 55, Int.ofNat 55, false), (0, Int.negSucc 2147483647, Int.ofNat 2147483647, false), (0, Int.negSucc 2147483647, Int.ofNat 2147483647, false)], (some (0, Int.negSucc 3, Int.ofNat 6, false)), [(55, 21, 21), (67, 0, 5), (68, 0, 5)])
set_option maxRecDepth 100000 in
theorem yd149_0 : y_drv yt149 (y_st []) none (y_po yct149_0) [0] 100000 5000 [y_start 0 yct149_0] = true := by decide +kernel
theorem yc149_0 : y_Mca yG 149 yct149_0 := y_Mca_of (r := ev_r149) rfl (y_con (k := 0) (by decide) (fun hc0 _ => y_drv_ok (h0 := (yG, hc0)) (y_ic_ok (yM61 hc0) (y_ic_ok (yM15 hc0) y_i0_ok)) (y_cc_ok yCs148 y_c0_ok) yT149 (fun _ h1 h2 => y_po_ok h1 h2) yd149_0 _ (List.mem_singleton.mpr rfl)))
noncomputable def ycs149 : List yCt := [yct149_0]
theorem yCs149 : ∀ ct ∈ ycs149, y_Mca yG 149 ct := (y_l1 yc149_0 y_l0)
/-- NameHall$Clues.addDeed(II)Z -/
noncomputable def yt150 : List (Nat × yB) := [(0, fun ih => yo_lda 0 (yo_lda 0 (yo_gf yG 2 1 (yo_ld 0 1 (yo_ld 0 2 (yo_cl yG ym144 3 3 4 0 0 0 0 (yo_ri 2)))))))]
set_option maxRecDepth 100000 in
theorem yT150 : y_T yG none (y_ic 144 ym144 y_i0) y_c0 ev_r150.1 (fun _ => none) yt150 := (y_T_cons 7 rfl y_T_nil)
noncomputable def ym150 : List xv → yH → xE → yR := y_mth 0 yt150 100000
theorem yM150 (hc0 : ev_H) : y_Ma (yG, hc0) 150 ym150 := y_Ma_of (r := ev_r150) rfl (ys_mth (h0 := (yG, hc0)) (y_ic_ok (yM144 hc0) y_i0_ok) y_c0_ok yT150)
/-- NameHall.deed(II)I -/
noncomputable def yt151 : List (Nat × yB) := [(0, fun ih => yo_lda 0 (yo_gf yG 9 1 (yo_ld 0 1 (yo_cl yG ym40 5 1 2 0 0 0 0 (yo_if .ne (ih 13) (yo_push (0, 0, Int.negSucc 0) (yo_ri 1))))))),
  (13, fun ih => yo_ld 0 2 (yo_cl yG ym101 0 1 1 0 0 0 0 (yo_if .ne (ih 23) (yo_push (0, 0, Int.negSucc 1) (yo_ri 1))))),
  (23, fun ih => yo_lda 0 (yo_gf yG 9 6 (yo_ld 0 1 (yo_ld 0 2 (yo_cl yG ym150 3 2 3 0 0 0 0 (yo_if .eq (ih 45) (yo_lda 0 (yo_gf yG 9 6 (yo_cts yG ycs146 3 0 1 0 0 0 0 (ih 47)))))))))),
  (45, fun ih => yo_push (0, 0, Int.negSucc 3) (ih 47)),
  (47, fun ih => yo_ri 1)]
set_option maxRecDepth 100000 in
theorem yT151 : y_T yG none (y_ic 40 ym40 (y_ic 101 ym101 (y_ic 150 ym150 y_i0))) (y_cc 146 ycs146 y_c0) ev_r151.1 (fun _ => none) yt151 := (y_T_cons 7 rfl (y_T_cons 5 rfl (y_T_cons 10 rfl (y_T_cons 1 rfl (y_T_cons 1 rfl y_T_nil)))))
def yct151_0 : yCt := ([(2, Int.ofNat 0, Int.ofNat 0, false), (0, Int.negSucc 2147483647, Int.ofNat 2147483647, false), (0, Int.negSucc 2147483647, Int.ofNat 2147483647, false)], (some (0, Int.negSucc 3, Int.ofNat 6, false)), [(38, 2, 2), (40, 0, 3)])
set_option maxRecDepth 100000 in
theorem yd151_0 : y_drv yt151 (y_st []) none (y_po yct151_0) [0] 100000 5000 [y_start 0 yct151_0] = true := by decide +kernel
theorem yc151_0 : y_Mca yG 151 yct151_0 := y_Mca_of (r := ev_r151) rfl (y_con (k := 0) (by decide) (fun hc0 _ => y_drv_ok (h0 := (yG, hc0)) (y_ic_ok (yM40 hc0) (y_ic_ok (yM101 hc0) (y_ic_ok (yM150 hc0) y_i0_ok))) (y_cc_ok yCs146 y_c0_ok) yT151 (fun _ h1 h2 => y_po_ok h1 h2) yd151_0 _ (List.mem_singleton.mpr rfl)))
noncomputable def ycs151 : List yCt := [yct151_0]
theorem yCs151 : ∀ ct ∈ ycs151, y_Mca yG 151 ct := (y_l1 yc151_0 y_l0)
/-- NameHallModel.deed(II)I -/
noncomputable def yt152 : List (Nat × yB) := [(0, fun ih => yo_lda 0 (yo_ld 0 1 (yo_cl yG ym46 11 1 2 0 0 0 0 (yo_if .ne (ih 10) (yo_push (0, 0, Int.negSucc 0) (yo_ri 1)))))),
  (10, fun ih => yo_ld 0 2 (yo_un 0 xg_i2l (yo_push (1, 0, Int.ofNat 0) (yo_push (1, 0, Int.ofNat 9) (yo_cl yG ym15 0 3 6 0 0 0 0 (yo_if .eq (ih 33) (yo_lda 0 (yo_push (0, 0, Int.ofNat 5) (yo_ld 0 1 (yo_bin 0 0 yg_add (yo_ld 0 2 (yo_cts yG ycs148 11 2 3 0 0 0 0 (ih 35))))))))))))),
  (33, fun ih => yo_push (0, 0, Int.negSucc 1) (ih 35)),
  (35, fun ih => yo_ri 1)]
set_option maxRecDepth 100000 in
theorem yT152 : y_T yG none (y_ic 46 ym46 (y_ic 15 ym15 y_i0)) (y_cc 148 ycs148 y_c0) ev_r152.1 (fun _ => none) yt152 := (y_T_cons 6 rfl (y_T_cons 13 rfl (y_T_cons 1 rfl (y_T_cons 1 rfl y_T_nil))))
def yct152_0 : yCt := ([(2, Int.ofNat 55, Int.ofNat 55, false), (0, Int.negSucc 2147483647, Int.ofNat 2147483647, false), (0, Int.negSucc 2147483647, Int.ofNat 2147483647, false)], (some (0, Int.negSucc 3, Int.ofNat 6, false)), [(55, 21, 21), (67, 0, 5), (68, 0, 5)])
set_option maxRecDepth 100000 in
theorem yd152_0 : y_drv yt152 (y_st []) none (y_po yct152_0) [0] 100000 5000 [y_start 0 yct152_0] = true := by decide +kernel
theorem yc152_0 : y_Mca yG 152 yct152_0 := y_Mca_of (r := ev_r152) rfl (y_con (k := 0) (by decide) (fun hc0 _ => y_drv_ok (h0 := (yG, hc0)) (y_ic_ok (yM46 hc0) (y_ic_ok (yM15 hc0) y_i0_ok)) (y_cc_ok yCs148 y_c0_ok) yT152 (fun _ h1 h2 => y_po_ok h1 h2) yd152_0 _ (List.mem_singleton.mpr rfl)))
noncomputable def ycs152 : List yCt := [yct152_0]
theorem yCs152 : ∀ ct ∈ ycs152, y_Mca yG 152 ct := (y_l1 yc152_0 y_l0)
/-- NameHall$Clues.clear()I -/
noncomputable def yt153 : List (Nat × yB) := [(0, fun ih => yo_lda 0 (yo_gf yG 2 2 (yo_st 0 1 2 (yo_lda 0 (yo_gf yG 2 0 (yo_push (0, 0, Int.ofNat 0) (yo_cts yG ycs2 0 2 4 0 0 0 0 (yo_lda 0 (yo_gf yG 2 1 (yo_push (0, 0, Int.ofNat 0) (yo_cts yG ycs2 0 2 4 0 0 0 0 (yo_lda 0 (yo_push (0, 0, Int.ofNat 0) (yo_pf yG 2 2 0 (yo_ld 0 1 (yo_ri 1))))))))))))))))]
set_option maxRecDepth 100000 in
theorem yT153 : y_T yG none y_i0 (y_cc 2 ycs2 y_c0) ev_r153.1 (fun _ => none) yt153 := (y_T_cons 16 rfl y_T_nil)
def yct153_0 : yCt := ([(2, Int.ofNat 38, Int.ofNat 38, false)], (some (0, Int.ofNat 0, Int.ofNat 6, false)), [(38, 2, 2), (39, 0, 4), (40, 0, 3)])
set_option maxRecDepth 100000 in
theorem yd153_0 : y_drv yt153 (y_st []) none (y_po yct153_0) [0] 100000 5000 [y_start 1 yct153_0] = true := by decide +kernel
theorem yc153_0 : y_Mca yG 153 yct153_0 := y_Mca_of (r := ev_r153) rfl (y_con (k := 1) (by decide) (fun hc0 _ => y_drv_ok (h0 := (yG, hc0)) y_i0_ok (y_cc_ok yCs2 y_c0_ok) yT153 (fun _ h1 h2 => y_po_ok h1 h2) yd153_0 _ (List.mem_singleton.mpr rfl)))
noncomputable def ycs153 : List yCt := [yct153_0]
theorem yCs153 : ∀ ct ∈ ycs153, y_Mca yG 153 ct := (y_l1 yc153_0 y_l0)
/-- NameHall.forget()I -/
noncomputable def yt154 : List (Nat × yB) := [(0, fun ih => yo_lda 0 (yo_gf yG 9 6 (yo_cts yG ycs153 3 0 2 0 0 0 0 (yo_ri 1))))]
set_option maxRecDepth 100000 in
theorem yT154 : y_T yG none y_i0 (y_cc 153 ycs153 y_c0) ev_r154.1 (fun _ => none) yt154 := (y_T_cons 4 rfl y_T_nil)
def yct154_0 : yCt := ([(2, Int.ofNat 0, Int.ofNat 0, false)], (some (0, Int.ofNat 0, Int.ofNat 6, false)), [(38, 2, 2), (39, 0, 4), (40, 0, 3)])
set_option maxRecDepth 100000 in
theorem yd154_0 : y_drv yt154 (y_st []) none (y_po yct154_0) [0] 100000 5000 [y_start 0 yct154_0] = true := by decide +kernel
theorem yc154_0 : y_Mca yG 154 yct154_0 := y_Mca_of (r := ev_r154) rfl (y_con (k := 0) (by decide) (fun hc0 _ => y_drv_ok (h0 := (yG, hc0)) y_i0_ok (y_cc_ok yCs153 y_c0_ok) yT154 (fun _ h1 h2 => y_po_ok h1 h2) yd154_0 _ (List.mem_singleton.mpr rfl)))
noncomputable def ycs154 : List yCt := [yct154_0]
theorem yCs154 : ∀ ct ∈ ycs154, y_Mca yG 154 ct := (y_l1 yc154_0 y_l0)
/-- NameHallModel.forget()I -/
noncomputable def yt155 : List (Nat × yB) := [(0, fun ih => yo_lda 0 (yo_gf yG 10 21 (yo_st 0 1 2 (yo_lda 0 (yo_push (0, 0, Int.ofNat 0) (yo_pf yG 10 21 0 (yo_ld 0 1 (yo_ri 1))))))))]
set_option maxRecDepth 100000 in
theorem yT155 : y_T yG none y_i0 y_c0 ev_r155.1 (fun _ => none) yt155 := (y_T_cons 8 rfl y_T_nil)
def yct155_0 : yCt := ([(2, Int.ofNat 55, Int.ofNat 55, false)], (some (0, Int.ofNat 0, Int.ofNat 6, false)), [(55, 21, 21)])
set_option maxRecDepth 100000 in
theorem yd155_0 : y_drv yt155 (y_st []) none (y_po yct155_0) [0] 100000 5000 [y_start 1 yct155_0] = true := by decide +kernel
theorem yc155_0 : y_Mca yG 155 yct155_0 := y_Mca_of (r := ev_r155) rfl (y_con (k := 1) (by decide) (fun hc0 _ => y_drv_ok (h0 := (yG, hc0)) y_i0_ok y_c0_ok yT155 (fun _ h1 h2 => y_po_ok h1 h2) yd155_0 _ (List.mem_singleton.mpr rfl)))
noncomputable def ycs155 : List yCt := [yct155_0]
theorem yCs155 : ∀ ct ∈ ycs155, y_Mca yG 155 ct := (y_l1 yc155_0 y_l0)
/-- NameHall$Clues.couldDoAll(LNameHall$Plan;II)Z -/
noncomputable def yt156 : List (Nat × yB) := [(0, fun ih => yo_ld 0 3 (yo_if .lt (ih 18) (yo_ld 0 3 (yo_push (0, 0, Int.ofNat 4) (yo_ic .ge (ih 18) (yo_ld 0 2 (yo_if .lt (ih 18) (yo_ld 0 2 (yo_push (0, 0, Int.ofNat 5) (yo_ic .lt (ih 20) (ih 18))))))))))),
  (18, fun ih => yo_push (0, 0, Int.ofNat 0) (yo_ri 2)),
  (20, fun ih => yo_push (0, 0, Int.ofNat 0) (yo_st 0 4 7 (ih 23))),
  (23, fun ih => yo_ld 0 4 (yo_push (0, 0, Int.ofNat 10) (yo_ic .ge (ih 102) (yo_lda 0 (yo_gf yG 2 1 (yo_ld 0 3 (yo_al yG none 0 (yo_ld 0 4 (yo_bin 0 0 (xg_i x_ishr xg_ti) (yo_push (0, 0, Int.ofNat 1) (yo_bin 0 0 (xg_i (· &&& ·) xg_and) (yo_push (0, 0, Int.ofNat 1) (yo_ic .ne (ih 49) (yo_push (0, 0, Int.ofNat 1) (ih 50))))))))))))))),
  (49, fun ih => yo_push (0, 0, Int.ofNat 0) (ih 50)),
  (50, fun ih => yo_st 0 5 7 (yo_lda 0 (yo_gf yG 2 0 (yo_ld 0 2 (yo_al yG none 0 (yo_ld 0 4 (yo_bin 0 0 (xg_i x_ishr xg_ti) (yo_push (0, 0, Int.ofNat 1) (yo_bin 0 0 (xg_i (· &&& ·) xg_and) (yo_push (0, 0, Int.ofNat 1) (yo_ic .ne (ih 71) (yo_push (0, 0, Int.ofNat 1) (ih 72))))))))))))),
  (71, fun ih => yo_push (0, 0, Int.ofNat 0) (ih 72)),
  (72, fun ih => yo_st 0 6 7 (yo_ld 0 5 (yo_if .eq (ih 96) (yo_ld 0 6 (yo_if .ne (ih 94) (yo_lda 1 (yo_ld 0 2 (yo_ld 0 4 (yo_cl yG ym84 5 2 3 0 0 0 0 (yo_if .ne (ih 96) (ih 94))))))))))),
  (94, fun ih => yo_push (0, 0, Int.ofNat 0) (yo_ri 2)),
  (96, fun ih => yo_inc 4 7 (Int.ofNat 1) (ih 23)),
  (102, fun ih => yo_push (0, 0, Int.ofNat 1) (yo_ri 2))]
set_option maxRecDepth 100000 in
theorem yT156 : y_T yG none (y_ic 84 ym84 y_i0) y_c0 ev_r156.1 (fun _ => none) yt156 := (y_T_cons 10 rfl (y_T_cons 2 rfl (y_T_cons 2 rfl (y_T_cons 15 rfl (y_T_cons 1 rfl (y_T_cons 13 rfl (y_T_cons 1 rfl (y_T_cons 10 rfl (y_T_cons 2 rfl (y_T_cons 2 rfl (y_T_cons 2 rfl y_T_nil)))))))))))
def yct156_0 : yCt := ([(2, Int.ofNat 38, Int.ofNat 38, false), (2, Int.ofNat 3, Int.ofNat 3, false), (0, Int.negSucc 2147483647, Int.ofNat 2147483647, false), (0, Int.negSucc 2147483647, Int.ofNat 2147483647, false)], (some (0, Int.ofNat 0, Int.ofNat 1, false)), [])
set_option maxRecDepth 100000 in
theorem yd156_0 : y_drv yt156 (y_st [23]) none (y_po yct156_0) [0, 23] 100000 5000 [y_start 3 yct156_0] = true := by decide +kernel
theorem yc156_0 : y_Mca yG 156 yct156_0 := y_Mca_of (r := ev_r156) rfl (y_con (k := 3) (by decide) (fun hc0 _ => y_drv_ok (h0 := (yG, hc0)) (y_ic_ok (yM84 hc0) y_i0_ok) y_c0_ok yT156 (fun _ h1 h2 => y_po_ok h1 h2) yd156_0 _ (List.mem_singleton.mpr rfl)))
noncomputable def ycs156 : List yCt := [yct156_0]
theorem yCs156 : ∀ ct ∈ ycs156, y_Mca yG 156 ct := (y_l1 yc156_0 y_l0)
/-- NameHall$Clues.suspects(LNameHall$Scene;LNameHall$Plan;I)I -/
noncomputable def yt157 : List (Nat × yB) := [(0, fun ih => yo_push (0, 0, Int.ofNat 0) (yo_st 0 4 6 (yo_push (0, 0, Int.ofNat 0) (yo_st 0 5 6 (ih 6))))),
  (6, fun ih => yo_ld 0 5 (yo_push (0, 0, Int.ofNat 5) (yo_ic .ge (ih 48) (yo_lda 1 (yo_ld 0 5 (yo_ld 0 3 (yo_cl yG ym64 7 2 3 0 0 0 0 (yo_if .eq (ih 42) (yo_lda 0 (yo_lda 2 (yo_ld 0 5 (yo_ld 0 3 (yo_cts yG ycs156 3 3 7 0 0 0 0 (yo_if .eq (ih 42) (yo_ld 0 4 (yo_push (0, 0, Int.ofNat 1) (yo_ld 0 5 (yo_bin 0 0 (xg_i x_ishl (yg_en x_ishl)) (yo_bin 0 0 (xg_i (· ||| ·) yg_bit) (yo_st 0 4 6 (ih 42))))))))))))))))))))),
  (42, fun ih => yo_inc 5 6 (Int.ofNat 1) (ih 6)),
  (48, fun ih => yo_ld 0 4 (yo_ri 1))]
set_option maxRecDepth 100000 in
theorem yT157 : y_T yG none (y_ic 64 ym64 y_i0) (y_cc 156 ycs156 y_c0) ev_r157.1 (fun _ => none) yt157 := (y_T_cons 4 rfl (y_T_cons 20 rfl (y_T_cons 2 rfl (y_T_cons 2 rfl y_T_nil))))
def yct157_0 : yCt := ([(2, Int.ofNat 38, Int.ofNat 38, false), (2, Int.ofNat 9, Int.ofNat 9, false), (2, Int.ofNat 3, Int.ofNat 3, false), (0, Int.negSucc 2147483647, Int.ofNat 2147483647, false)], (some (0, Int.ofNat 0, Int.ofNat 31, false)), [])
set_option maxRecDepth 100000 in
theorem yd157_0 : y_drv yt157 (y_st [6]) none (y_po yct157_0) [0, 6] 100000 5000 [y_start 2 yct157_0] = true := by decide +kernel
theorem yc157_0 : y_Mca yG 157 yct157_0 := y_Mca_of (r := ev_r157) rfl (y_con (k := 2) (by decide) (fun hc0 _ => y_drv_ok (h0 := (yG, hc0)) (y_ic_ok (yM64 hc0) y_i0_ok) (y_cc_ok yCs156 y_c0_ok) yT157 (fun _ h1 h2 => y_po_ok h1 h2) yd157_0 _ (List.mem_singleton.mpr rfl)))
noncomputable def ycs157 : List yCt := [yct157_0]
theorem yCs157 : ∀ ct ∈ ycs157, y_Mca yG 157 ct := (y_l1 yc157_0 y_l0)
/-- NameHall.who(I)I -/
noncomputable def yt158 : List (Nat × yB) := [(0, fun ih => yo_lda 0 (yo_gf yG 9 1 (yo_ld 0 1 (yo_cl yG ym40 5 1 2 0 0 0 0 (yo_if .eq (ih 30) (yo_lda 0 (yo_gf yG 9 6 (yo_lda 0 (yo_gf yG 9 2 (yo_lda 0 (yo_gf yG 9 1 (yo_ld 0 1 (yo_cts yG ycs157 3 3 6 0 0 0 0 (ih 31)))))))))))))),
  (30, fun ih => yo_push (0, 0, Int.negSucc 0) (ih 31)),
  (31, fun ih => yo_ri 1)]
set_option maxRecDepth 100000 in
theorem yT158 : y_T yG none (y_ic 40 ym40 y_i0) (y_cc 157 ycs157 y_c0) ev_r158.1 (fun _ => none) yt158 := (y_T_cons 14 rfl (y_T_cons 1 rfl (y_T_cons 1 rfl y_T_nil)))
def yct158_0 : yCt := ([(2, Int.ofNat 0, Int.ofNat 0, false), (0, Int.negSucc 2147483647, Int.ofNat 2147483647, false)], (some (0, Int.negSucc 0, Int.ofNat 31, false)), [])
set_option maxRecDepth 100000 in
theorem yd158_0 : y_drv yt158 (y_st []) none (y_po yct158_0) [0] 100000 5000 [y_start 0 yct158_0] = true := by decide +kernel
theorem yc158_0 : y_Mca yG 158 yct158_0 := y_Mca_of (r := ev_r158) rfl (y_con (k := 0) (by decide) (fun hc0 _ => y_drv_ok (h0 := (yG, hc0)) (y_ic_ok (yM40 hc0) y_i0_ok) (y_cc_ok yCs157 y_c0_ok) yT158 (fun _ h1 h2 => y_po_ok h1 h2) yd158_0 _ (List.mem_singleton.mpr rfl)))
noncomputable def ycs158 : List yCt := [yct158_0]
theorem yCs158 : ∀ ct ∈ ycs158, y_Mca yG 158 ct := (y_l1 yc158_0 y_l0)
/-- NameHallModel.wasSeen(II)Z -/
noncomputable def yt159 : List (Nat × yB) := [(0, fun ih => yo_push (0, 0, Int.ofNat 0) (yo_st 0 3 5 (yo_push (0, 0, Int.ofNat 0) (yo_st 0 4 5 (ih 5))))),
  (5, fun ih => yo_ld 0 4 (yo_lda 0 (yo_gf yG 10 21 (yo_ic .ge (ih 52) (yo_ld 0 3 (yo_if .ne (ih 40) (yo_lda 0 (yo_gf yG 10 22 (yo_ld 0 4 (yo_al yG none 0 (yo_ld 0 1 (yo_ic .ne (ih 44) (yo_lda 0 (yo_gf yG 10 23 (yo_ld 0 4 (yo_al yG none 0 (yo_ld 0 2 (yo_ic .ne (ih 44) (ih 40))))))))))))))))))),
  (40, fun ih => yo_push (0, 0, Int.ofNat 1) (ih 45)),
  (44, fun ih => yo_push (0, 0, Int.ofNat 0) (ih 45)),
  (45, fun ih => yo_st 0 3 5 (yo_inc 4 5 (Int.ofNat 1) (ih 5))),
  (52, fun ih => yo_ld 0 3 (yo_ri 2))]
set_option maxRecDepth 100000 in
theorem yT159 : y_T yG none y_i0 y_c0 ev_r159.1 (fun _ => none) yt159 := (y_T_cons 4 rfl (y_T_cons 18 rfl (y_T_cons 2 rfl (y_T_cons 1 rfl (y_T_cons 3 rfl (y_T_cons 2 rfl y_T_nil))))))
def yct159_0 : yCt := ([(2, Int.ofNat 55, Int.ofNat 55, false), (0, Int.ofNat 0, Int.ofNat 4, false), (0, Int.negSucc 2147483647, Int.ofNat 2147483647, false)], (some (0, Int.ofNat 0, Int.ofNat 1, false)), [])
set_option maxRecDepth 100000 in
theorem yd159_0 : y_drv yt159 (y_st [5]) none (y_po yct159_0) [0, 5] 100000 5000 [y_start 2 yct159_0] = true := by decide +kernel
theorem yc159_0 : y_Mca yG 159 yct159_0 := y_Mca_of (r := ev_r159) rfl (y_con (k := 2) (by decide) (fun hc0 _ => y_drv_ok (h0 := (yG, hc0)) y_i0_ok y_c0_ok yT159 (fun _ h1 h2 => y_po_ok h1 h2) yd159_0 _ (List.mem_singleton.mpr rfl)))
noncomputable def ycs159 : List yCt := [yct159_0]
theorem yCs159 : ∀ ct ∈ ycs159, y_Mca yG 159 ct := (y_l1 yc159_0 y_l0)
