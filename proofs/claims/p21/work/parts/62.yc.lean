/-! contracts, by program -/
/-- NameHall$Plan.hasName(I)Z -/
noncomputable def yt40 : List (Nat × yB) := [(0, fun ih => yo_ld 0 1 (yo_if .lt (ih 21) (yo_ld 0 1 (yo_lda 0 (yo_gf yG 4 5 (yo_ic .ge (ih 21) (yo_ld 0 1 (yo_push (0, 0, Int.ofNat 4) (yo_ic .ge (ih 21) (yo_push (0, 0, Int.ofNat 1) (ih 22))))))))))),
  (21, fun ih => yo_push (0, 0, Int.ofNat 0) (ih 22)),
  (22, fun ih => yo_ri 2)]
set_option maxRecDepth 100000 in
theorem yT40 : y_T yG none y_i0 y_c0 ev_r40.1 (fun _ => none) yt40 := (y_T_cons 11 rfl (y_T_cons 1 rfl (y_T_cons 1 rfl y_T_nil)))
noncomputable def ym40 : List xv → yH → xE → yR := y_mth 0 yt40 100000
theorem yM40 (hc0 : ev_H) : y_Ma (yG, hc0) 40 ym40 := y_Ma_of (r := ev_r40) rfl (ys_mth (h0 := (yG, hc0)) y_i0_ok y_c0_ok yT40)
/-- NameHall$Plan.kind(I)I -/
noncomputable def yt41 : List (Nat × yB) := [(0, fun ih => yo_lda 0 (yo_ld 0 1 (yo_cl yG ym40 5 1 2 0 0 0 0 (yo_if .eq (ih 17) (yo_lda 0 (yo_gf yG 4 0 (yo_ld 0 1 (yo_al yG none 0 (ih 18))))))))),
  (17, fun ih => yo_push (0, 0, Int.ofNat 0) (ih 18)),
  (18, fun ih => yo_ri 1)]
set_option maxRecDepth 100000 in
theorem yT41 : y_T yG none (y_ic 40 ym40 y_i0) y_c0 ev_r41.1 (fun _ => none) yt41 := (y_T_cons 9 rfl (y_T_cons 1 rfl (y_T_cons 1 rfl y_T_nil)))
def yct41_0 : yCt := ([(2, Int.ofNat 3, Int.ofNat 3, false), (0, Int.negSucc 2147483647, Int.ofNat 2147483647, false)], (some (0, Int.negSucc 2147483647, Int.ofNat 2147483647, false)), [])
set_option maxRecDepth 100000 in
theorem yd41_0 : y_drv yt41 (y_st []) none (y_po yct41_0) [0] 100000 5000 [y_start 0 yct41_0] = true := by decide +kernel
theorem yc41_0 : y_Mca yG 41 yct41_0 := y_Mca_of (r := ev_r41) rfl (y_con (k := 0) (by decide) (fun hc0 _ => y_drv_ok (h0 := (yG, hc0)) (y_ic_ok (yM40 hc0) y_i0_ok) y_c0_ok yT41 (fun _ h1 h2 => y_po_ok h1 h2) yd41_0 _ (List.mem_singleton.mpr rfl)))
noncomputable def ycs41 : List yCt := [yct41_0]
theorem yCs41 : ∀ ct ∈ ycs41, y_Mca yG 41 ct := (y_l1 yc41_0 y_l0)
/-- NameHall$Plan.worth(I)I -/
noncomputable def yt42 : List (Nat × yB) := [(0, fun ih => yo_lda 0 (yo_ld 0 1 (yo_cl yG ym40 5 1 2 0 0 0 0 (yo_if .eq (ih 17) (yo_lda 0 (yo_gf yG 4 1 (yo_ld 0 1 (yo_al yG none 0 (ih 18))))))))),
  (17, fun ih => yo_push (0, 0, Int.ofNat 0) (ih 18)),
  (18, fun ih => yo_ri 1)]
set_option maxRecDepth 100000 in
theorem yT42 : y_T yG none (y_ic 40 ym40 y_i0) y_c0 ev_r42.1 (fun _ => none) yt42 := (y_T_cons 9 rfl (y_T_cons 1 rfl (y_T_cons 1 rfl y_T_nil)))
def yct42_0 : yCt := ([(2, Int.ofNat 3, Int.ofNat 3, false), (0, Int.negSucc 2147483647, Int.ofNat 2147483647, false)], (some (0, Int.negSucc 2147483647, Int.ofNat 2147483647, false)), [])
set_option maxRecDepth 100000 in
theorem yd42_0 : y_drv yt42 (y_st []) none (y_po yct42_0) [0] 100000 5000 [y_start 0 yct42_0] = true := by decide +kernel
theorem yc42_0 : y_Mca yG 42 yct42_0 := y_Mca_of (r := ev_r42) rfl (y_con (k := 0) (by decide) (fun hc0 _ => y_drv_ok (h0 := (yG, hc0)) (y_ic_ok (yM40 hc0) y_i0_ok) y_c0_ok yT42 (fun _ h1 h2 => y_po_ok h1 h2) yd42_0 _ (List.mem_singleton.mpr rfl)))
noncomputable def ycs42 : List yCt := [yct42_0]
theorem yCs42 : ∀ ct ∈ ycs42, y_Mca yG 42 ct := (y_l1 yc42_0 y_l0)
/-- NameHall$Scene.wearers(I)I -/
noncomputable def yt43 : List (Nat × yB) := [(0, fun ih => yo_push (0, 0, Int.ofNat 0) (yo_st 0 2 4 (yo_push (0, 0, Int.ofNat 0) (yo_st 0 3 4 (ih 4))))),
  (4, fun ih => yo_ld 0 3 (yo_push (0, 0, Int.ofNat 5) (yo_ic .ge (ih 31) (yo_lda 0 (yo_gf yG 6 1 (yo_ld 0 3 (yo_al yG none 0 (yo_ld 0 1 (yo_ic .ne (ih 25) (yo_ld 0 2 (yo_push (0, 0, Int.ofNat 1) (yo_ld 0 3 (yo_bin 0 0 (xg_i x_ishl (yg_en x_ishl)) (yo_bin 0 0 (xg_i (· ||| ·) yg_bit) (yo_st 0 2 4 (ih 25)))))))))))))))),
  (25, fun ih => yo_inc 3 4 (Int.ofNat 1) (ih 4)),
  (31, fun ih => yo_ld 0 2 (yo_ri 1))]
set_option maxRecDepth 100000 in
theorem yT43 : y_T yG none y_i0 y_c0 ev_r43.1 (fun _ => none) yt43 := (y_T_cons 4 rfl (y_T_cons 15 rfl (y_T_cons 2 rfl (y_T_cons 2 rfl y_T_nil))))
def yct43_0 : yCt := ([(2, Int.ofNat 9, Int.ofNat 9, false), (0, Int.negSucc 2147483647, Int.ofNat 2147483647, false)], (some (0, Int.ofNat 0, Int.ofNat 31, false)), [])
set_option maxRecDepth 100000 in
theorem yd43_0 : y_drv yt43 (y_st [4]) none (y_po yct43_0) [0, 4] 100000 5000 [y_start 2 yct43_0] = true := by decide +kernel
theorem yc43_0 : y_Mca yG 43 yct43_0 := y_Mca_of (r := ev_r43) rfl (y_con (k := 2) (by decide) (fun hc0 _ => y_drv_ok (h0 := (yG, hc0)) y_i0_ok y_c0_ok yT43 (fun _ h1 h2 => y_po_ok h1 h2) yd43_0 _ (List.mem_singleton.mpr rfl)))
def yct43_1 : yCt := ([(2, Int.ofNat 13, Int.ofNat 13, false), (0, Int.negSucc 2147483647, Int.ofNat 2147483647, false)], (some (0, Int.ofNat 0, Int.ofNat 31, false)), [])
set_option maxRecDepth 100000 in
theorem yd43_1 : y_drv yt43 (y_st [4]) none (y_po yct43_1) [0, 4] 100000 5000 [y_start 2 yct43_1] = true := by decide +kernel
theorem yc43_1 : y_Mca yG 43 yct43_1 := y_Mca_of (r := ev_r43) rfl (y_con (k := 2) (by decide) (fun hc0 _ => y_drv_ok (h0 := (yG, hc0)) y_i0_ok y_c0_ok yT43 (fun _ h1 h2 => y_po_ok h1 h2) yd43_1 _ (List.mem_singleton.mpr rfl)))
noncomputable def ycs43 : List yCt := [yct43_0, yct43_1]
theorem yCs43 : ∀ ct ∈ ycs43, y_Mca yG 43 ct := (y_l1 yc43_0 (y_l1 yc43_1 y_l0))
/-- NameHall$Scene.isNameGone(I)Z -/
noncomputable def yt44 : List (Nat × yB) := [(0, fun ih => yo_lda 0 (yo_gf yG 6 0 (yo_ld 0 1 (yo_cl yG ym40 5 1 2 0 0 0 0 (yo_if .eq (ih 27) (yo_lda 0 (yo_gf yG 6 4 (yo_ld 0 1 (yo_bin 0 0 (xg_i x_ishr xg_ti) (yo_push (0, 0, Int.ofNat 1) (yo_bin 0 0 (xg_i (· &&& ·) xg_and) (yo_push (0, 0, Int.ofNat 1) (yo_ic .ne (ih 27) (yo_push (0, 0, Int.ofNat 1) (ih 28))))))))))))))),
  (27, fun ih => yo_push (0, 0, Int.ofNat 0) (ih 28)),
  (28, fun ih => yo_ri 2)]
set_option maxRecDepth 100000 in
theorem yT44 : y_T yG none (y_ic 40 ym40 y_i0) y_c0 ev_r44.1 (fun _ => none) yt44 := (y_T_cons 15 rfl (y_T_cons 1 rfl (y_T_cons 1 rfl y_T_nil)))
noncomputable def ym44 : List xv → yH → xE → yR := y_mth 0 yt44 100000
theorem yM44 (hc0 : ev_H) : y_Ma (yG, hc0) 44 ym44 := y_Ma_of (r := ev_r44) rfl (ys_mth (h0 := (yG, hc0)) (y_ic_ok (yM40 hc0) y_i0_ok) y_c0_ok yT44)
/-- NameHall.name(II)I -/
noncomputable def yt45 : List (Nat × yB) := [(0, fun ih => yo_lda 0 (yo_gf yG 9 1 (yo_ld 0 1 (yo_cl yG ym40 5 1 2 0 0 0 0 (yo_if .ne (ih 13) (yo_push (0, 0, Int.negSucc 0) (yo_ri 1))))))),
  (13, fun ih => yo_ld 0 2 (yo_sw (Int.ofNat 0) (Int.ofNat 3) 88 [44, 53, 62, 71] ih)),
  (44, fun ih => yo_lda 0 (yo_gf yG 9 1 (yo_ld 0 1 (yo_cts yG ycs41 5 1 2 0 0 0 0 (yo_ri 1))))),
  (53, fun ih => yo_lda 0 (yo_gf yG 9 1 (yo_ld 0 1 (yo_cts yG ycs42 5 1 2 0 0 0 0 (yo_ri 1))))),
  (62, fun ih => yo_lda 0 (yo_gf yG 9 2 (yo_ld 0 1 (yo_cts yG ycs43 7 1 4 0 0 0 0 (yo_ri 1))))),
  (71, fun ih => yo_lda 0 (yo_gf yG 9 2 (yo_ld 0 1 (yo_cl yG ym44 7 1 2 0 0 0 0 (yo_if .eq (ih 86) (yo_push (0, 0, Int.ofNat 1) (ih 87))))))),
  (86, fun ih => yo_push (0, 0, Int.ofNat 0) (ih 87)),
  (87, fun ih => yo_ri 1),
  (88, fun ih => yo_push (0, 0, Int.negSucc 1) (yo_ri 1))]
set_option maxRecDepth 100000 in
theorem yT45 : y_T yG none (y_ic 40 ym40 (y_ic 44 ym44 y_i0)) (y_cc 41 ycs41 (y_cc 42 ycs42 (y_cc 43 ycs43 y_c0))) ev_r45.1 (fun _ => none) yt45 := (y_T_cons 7 rfl (y_T_cons 2 rfl (y_T_cons 5 rfl (y_T_cons 5 rfl (y_T_cons 5 rfl (y_T_cons 7 rfl (y_T_cons 1 rfl (y_T_cons 1 rfl (y_T_cons 2 rfl y_T_nil)))))))))
def yct45_0 : yCt := ([(2, Int.ofNat 0, Int.ofNat 0, false), (0, Int.negSucc 2147483647, Int.ofNat 2147483647, false), (0, Int.negSucc 2147483647, Int.ofNat 2147483647, false)], (some (0, Int.negSucc 2147483647, Int.ofNat 2147483647, false)), [])
set_option maxRecDepth 100000 in
theorem yd45_0 : y_drv yt45 (y_st []) none (y_po yct45_0) [0] 100000 5000 [y_start 0 yct45_0] = true := by decide +kernel
theorem yc45_0 : y_Mca yG 45 yct45_0 := y_Mca_of (r := ev_r45) rfl (y_con (k := 0) (by decide) (fun hc0 _ => y_drv_ok (h0 := (yG, hc0)) (y_ic_ok (yM40 hc0) (y_ic_ok (yM44 hc0) y_i0_ok)) (y_cc_ok yCs41 (y_cc_ok yCs42 (y_cc_ok yCs43 y_c0_ok))) yT45 (fun _ h1 h2 => y_po_ok h1 h2) yd45_0 _ (List.mem_singleton.mpr rfl)))
noncomputable def ycs45 : List yCt := [yct45_0]
theorem yCs45 : ∀ ct ∈ ycs45, y_Mca yG 45 ct := (y_l1 yc45_0 y_l0)
/-- NameHallModel.isName(I)Z -/
noncomputable def yt46 : List (Nat × yB) := [(0, fun ih => yo_ld 0 1 (yo_un 0 xg_i2l (yo_push (1, 0, Int.ofNat 0) (yo_lda 0 (yo_gf yG 10 0 (yo_push (0, 0, Int.ofNat 1) (yo_bin 0 0 yg_sub (yo_un 0 xg_i2l (yo_cl yG ym15 0 3 6 0 0 0 0 (yo_ri 2))))))))))]
set_option maxRecDepth 100000 in
theorem yT46 : y_T yG none (y_ic 15 ym15 y_i0) y_c0 ev_r46.1 (fun _ => none) yt46 := (y_T_cons 10 rfl y_T_nil)
noncomputable def ym46 : List xv → yH → xE → yR := y_mth 0 yt46 100000
theorem yM46 (hc0 : ev_H) : y_Ma (yG, hc0) 46 ym46 := y_Ma_of (r := ev_r46) rfl (ys_mth (h0 := (yG, hc0)) (y_ic_ok (yM15 hc0) y_i0_ok) y_c0_ok yT46)
/-- NameHallModel.wearers(II)I -/
noncomputable def yt47 : List (Nat × yB) := [(0, fun ih => yo_push (0, 0, Int.ofNat 0) (yo_st 0 3 5 (yo_push (0, 0, Int.ofNat 0) (yo_st 0 4 5 (ih 5))))),
  (5, fun ih => yo_ld 0 4 (yo_lda 0 (yo_gf yG 10 1 (yo_ic .ge (ih 47) (yo_ld 0 3 (yo_lda 0 (yo_gf yG 10 7 (yo_push (0, 0, Int.ofNat 18) (yo_ld 0 1 (yo_bin 0 0 (xg_i (· * ·) yg_mul) (yo_ld 0 4 (yo_bin 0 0 yg_add (yo_al yG none 0 (yo_ld 0 2 (yo_ic .ne (ih 38) (yo_push (0, 0, Int.ofNat 1) (yo_ld 0 4 (yo_bin 0 0 (xg_i x_ishl (yg_en x_ishl)) (ih 39))))))))))))))))))),
  (38, fun ih => yo_push (0, 0, Int.ofNat 0) (ih 39)),
  (39, fun ih => yo_bin 0 0 (xg_i (· ||| ·) yg_bit) (yo_st 0 3 5 (yo_inc 4 5 (Int.ofNat 1) (ih 5)))),
  (47, fun ih => yo_ld 0 3 (yo_ri 1))]
set_option maxRecDepth 100000 in
theorem yT47 : y_T yG none y_i0 y_c0 ev_r47.1 (fun _ => none) yt47 := (y_T_cons 4 rfl (y_T_cons 19 rfl (y_T_cons 1 rfl (y_T_cons 4 rfl (y_T_cons 2 rfl y_T_nil)))))
def yct47_0 : yCt := ([(2, Int.ofNat 55, Int.ofNat 55, false), (0, Int.ofNat 0, Int.ofNat 0, false), (0, Int.negSucc 2147483647, Int.ofNat 2147483647, false)], (some (0, Int.ofNat 0, Int.ofNat 31, false)), [])
set_option maxRecDepth 100000 in
theorem yd47_0 : y_drv yt47 (y_st [5]) none (y_po yct47_0) [0, 5] 100000 5000 [y_start 2 yct47_0] = true := by decide +kernel
theorem yc47_0 : y_Mca yG 47 yct47_0 := y_Mca_of (r := ev_r47) rfl (y_con (k := 2) (by decide) (fun hc0 _ => y_drv_ok (h0 := (yG, hc0)) y_i0_ok y_c0_ok yT47 (fun _ h1 h2 => y_po_ok h1 h2) yd47_0 _ (List.mem_singleton.mpr rfl)))
def yct47_1 : yCt := ([(2, Int.ofNat 55, Int.ofNat 55, false), (0, Int.ofNat 1, Int.ofNat 1, false), (0, Int.negSucc 2147483647, Int.ofNat 2147483647, false)], (some (0, Int.ofNat 0, Int.ofNat 31, false)), [])
set_option maxRecDepth 100000 in
theorem yd47_1 : y_drv yt47 (y_st [5]) none (y_po yct47_1) [0, 5] 100000 5000 [y_start 2 yct47_1] = true := by decide +kernel
theorem yc47_1 : y_Mca yG 47 yct47_1 := y_Mca_of (r := ev_r47) rfl (y_con (k := 2) (by decide) (fun hc0 _ => y_drv_ok (h0 := (yG, hc0)) y_i0_ok y_c0_ok yT47 (fun _ h1 h2 => y_po_ok h1 h2) yd47_1 _ (List.mem_singleton.mpr rfl)))
noncomputable def ycs47 : List yCt := [yct47_0, yct47_1]
theorem yCs47 : ∀ ct ∈ ycs47, y_Mca yG 47 ct := (y_l1 yc47_0 (y_l1 yc47_1 y_l0))
/-- NameHallModel.name(II)I -/
noncomputable def yt48 : List (Nat × yB) := [(0, fun ih => yo_lda 0 (yo_ld 0 1 (yo_cl yG ym46 11 1 2 0 0 0 0 (yo_if .ne (ih 10) (yo_push (0, 0, Int.negSucc 0) (yo_ri 1)))))),
  (10, fun ih => yo_ld 0 2 (yo_sw (Int.ofNat 0) (Int.ofNat 3) 73 [40, 47, 54, 61] ih)),
  (40, fun ih => yo_lda 0 (yo_gf yG 10 2 (yo_ld 0 1 (yo_al yG none 0 (yo_ri 1))))),
  (47, fun ih => yo_lda 0 (yo_gf yG 10 3 (yo_ld 0 1 (yo_al yG none 0 (yo_ri 1))))),
  (54, fun ih => yo_lda 0 (yo_push (0, 0, Int.ofNat 0) (yo_ld 0 1 (yo_cts yG ycs47 11 2 5 0 0 0 0 (yo_ri 1))))),
  (61, fun ih => yo_lda 0 (yo_gf yG 10 7 (yo_push (0, 0, Int.ofNat 15) (yo_al yG none 0 (yo_ld 0 1 (yo_bin 0 0 (xg_i x_ishr xg_ti) (yo_push (0, 0, Int.ofNat 1) (yo_bin 0 0 (xg_i (· &&& ·) xg_and) (yo_ri 1))))))))),
  (73, fun ih => yo_push (0, 0, Int.negSucc 1) (yo_ri 1))]
set_option maxRecDepth 100000 in
theorem yT48 : y_T yG none (y_ic 46 ym46 y_i0) (y_cc 47 ycs47 y_c0) ev_r48.1 (fun _ => none) yt48 := (y_T_cons 6 rfl (y_T_cons 2 rfl (y_T_cons 5 rfl (y_T_cons 5 rfl (y_T_cons 5 rfl (y_T_cons 9 rfl (y_T_cons 2 rfl y_T_nil)))))))
def yct48_0 : yCt := ([(2, Int.ofNat 55, Int.ofNat 55, false), (0, Int.negSucc 2147483647, Int.ofNat 2147483647, false), (0, Int.negSucc 2147483647, Int.ofNat 2147483647, false)], (some (0, Int.negSucc 2147483647, Int.ofNat 2147483647, false)), [])
set_option maxRecDepth 100000 in
theorem yd48_0 : y_drv yt48 (y_st []) none (y_po yct48_0) [0] 100000 5000 [y_start 0 yct48_0] = true := by decide +kernel
theorem yc48_0 : y_Mca yG 48 yct48_0 := y_Mca_of (r := ev_r48) rfl (y_con (k := 0) (by decide) (fun hc0 _ => y_drv_ok (h0 := (yG, hc0)) (y_ic_ok (yM46 hc0) y_i0_ok) (y_cc_ok yCs47 y_c0_ok) yT48 (fun _ h1 h2 => y_po_ok h1 h2) yd48_0 _ (List.mem_singleton.mpr rfl)))
noncomputable def ycs48 : List yCt := [yct48_0]
theorem yCs48 : ∀ ct ∈ ycs48, y_Mca yG 48 ct := (y_l1 yc48_0 y_l0)
/-- NameHall$Plan.hasPerson(I)Z -/
noncomputable def yt49 : List (Nat × yB) := [(0, fun ih => yo_ld 0 1 (yo_if .lt (ih 21) (yo_ld 0 1 (yo_lda 0 (yo_gf yG 4 6 (yo_ic .ge (ih 21) (yo_ld 0 1 (yo_push (0, 0, Int.ofNat 5) (yo_ic .ge (ih 21) (yo_push (0, 0, Int.ofNat 1) (ih 22))))))))))),
  (21, fun ih => yo_push (0, 0, Int.ofNat 0) (ih 22)),
  (22, fun ih => yo_ri 2)]
set_option maxRecDepth 100000 in
theorem yT49 : y_T yG none y_i0 y_c0 ev_r49.1 (fun _ => none) yt49 := (y_T_cons 11 rfl (y_T_cons 1 rfl (y_T_cons 1 rfl y_T_nil)))
noncomputable def ym49 : List xv → yH → xE → yR := y_mth 0 yt49 100000
theorem yM49 (hc0 : ev_H) : y_Ma (yG, hc0) 49 ym49 := y_Ma_of (r := ev_r49) rfl (ys_mth (h0 := (yG, hc0)) y_i0_ok y_c0_ok yT49)
/-- NameHall$Plan.firstHour(I)I -/
noncomputable def yt50 : List (Nat × yB) := [(0, fun ih => yo_lda 0 (yo_ld 0 1 (yo_cl yG ym49 5 1 2 0 0 0 0 (yo_if .eq (ih 17) (yo_lda 0 (yo_gf yG 4 2 (yo_ld 0 1 (yo_al yG none 0 (ih 18))))))))),
  (17, fun ih => yo_push (0, 0, Int.ofNat 0) (ih 18)),
  (18, fun ih => yo_ri 1)]
set_option maxRecDepth 100000 in
theorem yT50 : y_T yG none (y_ic 49 ym49 y_i0) y_c0 ev_r50.1 (fun _ => none) yt50 := (y_T_cons 9 rfl (y_T_cons 1 rfl (y_T_cons 1 rfl y_T_nil)))
def yct50_0 : yCt := ([(2, Int.ofNat 3, Int.ofNat 3, false), (0, Int.negSucc 2147483647, Int.ofNat 2147483647, false)], (some (0, Int.negSucc 2147483647, Int.ofNat 2147483647, false)), [])
set_option maxRecDepth 100000 in
theorem yd50_0 : y_drv yt50 (y_st []) none (y_po yct50_0) [0] 100000 5000 [y_start 0 yct50_0] = true := by decide +kernel
theorem yc50_0 : y_Mca yG 50 yct50_0 := y_Mca_of (r := ev_r50) rfl (y_con (k := 0) (by decide) (fun hc0 _ => y_drv_ok (h0 := (yG, hc0)) (y_ic_ok (yM49 hc0) y_i0_ok) y_c0_ok yT50 (fun _ h1 h2 => y_po_ok h1 h2) yd50_0 _ (List.mem_singleton.mpr rfl)))
noncomputable def ycs50 : List yCt := [yct50_0]
theorem yCs50 : ∀ ct ∈ ycs50, y_Mca yG 50 ct := (y_l1 yc50_0 y_l0)
/-- NameHall$Plan.lastHour(I)I -/
noncomputable def yt51 : List (Nat × yB) := [(0, fun ih => yo_lda 0 (yo_ld 0 1 (yo_cl yG ym49 5 1 2 0 0 0 0 (yo_if .eq (ih 17) (yo_lda 0 (yo_gf yG 4 3 (yo_ld 0 1 (yo_al yG none 0 (ih 18))))))))),
  (17, fun ih => yo_push (0, 0, Int.ofNat 0) (ih 18)),
  (18, fun ih => yo_ri 1)]
set_option maxRecDepth 100000 in
theorem yT51 : y_T yG none (y_ic 49 ym49 y_i0) y_c0 ev_r51.1 (fun _ => none) yt51 := (y_T_cons 9 rfl (y_T_cons 1 rfl (y_T_cons 1 rfl y_T_nil)))
def yct51_0 : yCt := ([(2, Int.ofNat 3, Int.ofNat 3, false), (0, Int.negSucc 2147483647, Int.ofNat 2147483647, false)], (some (0, Int.negSucc 2147483647, Int.ofNat 2147483647, false)), [])
set_option maxRecDepth 100000 in
theorem yd51_0 : y_drv yt51 (y_st []) none (y_po yct51_0) [0] 100000 5000 [y_start 0 yct51_0] = true := by decide +kernel
theorem yc51_0 : y_Mca yG 51 yct51_0 := y_Mca_of (r := ev_r51) rfl (y_con (k := 0) (by decide) (fun hc0 _ => y_drv_ok (h0 := (yG, hc0)) (y_ic_ok (yM49 hc0) y_i0_ok) y_c0_ok yT51 (fun _ h1 h2 => y_po_ok h1 h2) yd51_0 _ (List.mem_singleton.mpr rfl)))
noncomputable def ycs51 : List yCt := [yct51_0]
theorem yCs51 : ∀ ct ∈ ycs51, y_Mca yG 51 ct := (y_l1 yc51_0 y_l0)
/-- NameHall$Plan.fits(I)I -/
noncomputable def yt52 : List (Nat × yB) := [(0, fun ih => yo_lda 0 (yo_ld 0 1 (yo_cl yG ym49 5 1 2 0 0 0 0 (yo_if .eq (ih 26) (yo_lda 0 (yo_gf yG 4 4 (yo_ld 0 1 (yo_al yG none 0 (yo_push (0, 0, Int.ofNat 1) (yo_lda 0 (yo_gf yG 4 5 (yo_bin 0 0 (xg_i x_ishl (yg_en x_ishl)) (yo_push (0, 0, Int.ofNat 1) (yo_bin 0 0 yg_sub (yo_bin 0 0 (xg_i (· &&& ·) xg_and) (ih 27)))))))))))))))),
  (26, fun ih => yo_push (0, 0, Int.ofNat 0) (ih 27)),
  (27, fun ih => yo_ri 1)]
set_option maxRecDepth 100000 in
theorem yT52 : y_T yG none (y_ic 49 ym49 y_i0) y_c0 ev_r52.1 (fun _ => none) yt52 := (y_T_cons 16 rfl (y_T_cons 1 rfl (y_T_cons 1 rfl y_T_nil)))
def yct52_0 : yCt := ([(2, Int.ofNat 3, Int.ofNat 3, false), (0, Int.negSucc 2147483647, Int.ofNat 2147483647, false)], (some (0, Int.ofNat 0, Int.ofNat 15, false)), [])
set_option maxRecDepth 100000 in
theorem yd52_0 : y_drv yt52 (y_st []) none (y_po yct52_0) [0] 100000 5000 [y_start 0 yct52_0] = true := by decide +kernel
theorem yc52_0 : y_Mca yG 52 yct52_0 := y_Mca_of (r := ev_r52) rfl (y_con (k := 0) (by decide) (fun hc0 _ => y_drv_ok (h0 := (yG, hc0)) (y_ic_ok (yM49 hc0) y_i0_ok) y_c0_ok yT52 (fun _ h1 h2 => y_po_ok h1 h2) yd52_0 _ (List.mem_singleton.mpr rfl)))
noncomputable def ycs52 : List yCt := [yct52_0]
theorem yCs52 : ∀ ct ∈ ycs52, y_Mca yG 52 ct := (y_l1 yc52_0 y_l0)
/-- NameHall$Scene.nameOf(I)I -/
noncomputable def yt53 : List (Nat × yB) := [(0, fun ih => yo_lda 0 (yo_gf yG 6 0 (yo_ld 0 1 (yo_cl yG ym49 5 1 2 0 0 0 0 (yo_if .eq (ih 20) (yo_lda 0 (yo_gf yG 6 1 (yo_ld 0 1 (yo_al yG none 0 (ih 22)))))))))),
  (20, fun ih => yo_push (0, 0, Int.negSucc 8) (ih 22)),
  (22, fun ih => yo_ri 1)]
set_option maxRecDepth 100000 in
theorem yT53 : y_T yG none (y_ic 49 ym49 y_i0) y_c0 ev_r53.1 (fun _ => none) yt53 := (y_T_cons 10 rfl (y_T_cons 1 rfl (y_T_cons 1 rfl y_T_nil)))
noncomputable def ym53 : List xv → yH → xE → yR := y_mth 0 yt53 100000
theorem yM53 (hc0 : ev_H) : y_Ma (yG, hc0) 53 ym53 := y_Ma_of (r := ev_r53) rfl (ys_mth (h0 := (yG, hc0)) (y_ic_ok (yM49 hc0) y_i0_ok) y_c0_ok yT53)
/-- NameHall$Scene.hoursWorn(I)I -/
noncomputable def yt54 : List (Nat × yB) := [(0, fun ih => yo_lda 0 (yo_gf yG 6 0 (yo_ld 0 1 (yo_cl yG ym49 5 1 2 0 0 0 0 (yo_if .eq (ih 20) (yo_lda 0 (yo_gf yG 6 2 (yo_ld 0 1 (yo_al yG none 0 (ih 21)))))))))),
  (20, fun ih => yo_push (0, 0, Int.ofNat 0) (ih 21)),
  (21, fun ih => yo_ri 1)]
set_option maxRecDepth 100000 in
theorem yT54 : y_T yG none (y_ic 49 ym49 y_i0) y_c0 ev_r54.1 (fun _ => none) yt54 := (y_T_cons 10 rfl (y_T_cons 1 rfl (y_T_cons 1 rfl y_T_nil)))
def yct54_0 : yCt := ([(2, Int.ofNat 9, Int.ofNat 9, false), (0, Int.negSucc 2147483647, Int.ofNat 2147483647, false)], (some (0, Int.negSucc 2147483647, Int.ofNat 2147483647, false)), [])
set_option maxRecDepth 100000 in
theorem yd54_0 : y_drv yt54 (y_st []) none (y_po yct54_0) [0] 100000 5000 [y_start 0 yct54_0] = true := by decide +kernel
theorem yc54_0 : y_Mca yG 54 yct54_0 := y_Mca_of (r := ev_r54) rfl (y_con (k := 0) (by decide) (fun hc0 _ => y_drv_ok (h0 := (yG, hc0)) (y_ic_ok (yM49 hc0) y_i0_ok) y_c0_ok yT54 (fun _ h1 h2 => y_po_ok h1 h2) yd54_0 _ (List.mem_singleton.mpr rfl)))
noncomputable def ycs54 : List yCt := [yct54_0]
theorem yCs54 : ∀ ct ∈ ycs54, y_Mca yG 54 ct := (y_l1 yc54_0 y_l0)
/-- NameHall$Scene.hoursWaited(I)I -/
noncomputable def yt55 : List (Nat × yB) := [(0, fun ih => yo_lda 0 (yo_gf yG 6 0 (yo_ld 0 1 (yo_cl yG ym49 5 1 2 0 0 0 0 (yo_if .eq (ih 20) (yo_lda 0 (yo_gf yG 6 3 (yo_ld 0 1 (yo_al yG none 0 (ih 21)))))))))),
  (20, fun ih => yo_push (0, 0, Int.ofNat 0) (ih 21)),
  (21, fun ih => yo_ri 1)]
set_option maxRecDepth 100000 in
theorem yT55 : y_T yG none (y_ic 49 ym49 y_i0) y_c0 ev_r55.1 (fun _ => none) yt55 := (y_T_cons 10 rfl (y_T_cons 1 rfl (y_T_cons 1 rfl y_T_nil)))
def yct55_0 : yCt := ([(2, Int.ofNat 9, Int.ofNat 9, false), (0, Int.negSucc 2147483647, Int.ofNat 2147483647, false)], (some (0, Int.negSucc 2147483647, Int.ofNat 2147483647, false)), [])
set_option maxRecDepth 100000 in
theorem yd55_0 : y_drv yt55 (y_st []) none (y_po yct55_0) [0] 100000 5000 [y_start 0 yct55_0] = true := by decide +kernel
theorem yc55_0 : y_Mca yG 55 yct55_0 := y_Mca_of (r := ev_r55) rfl (y_con (k := 0) (by decide) (fun hc0 _ => y_drv_ok (h0 := (yG, hc0)) (y_ic_ok (yM49 hc0) y_i0_ok) y_c0_ok yT55 (fun _ h1 h2 => y_po_ok h1 h2) yd55_0 _ (List.mem_singleton.mpr rfl)))
noncomputable def ycs55 : List yCt := [yct55_0]
theorem yCs55 : ∀ ct ∈ ycs55, y_Mca yG 55 ct := (y_l1 yc55_0 y_l0)
/-- NameHall$Scene.halvesWorn()I -/
noncomputable def yt56 : List (Nat × yB) := [(0, fun ih => yo_push (0, 0, Int.ofNat 0) (yo_st 0 1 4 (yo_push (0, 0, Int.ofNat 0) (yo_st 0 2 4 (ih 4))))),
  (4, fun ih => yo_ld 0 2 (yo_push (0, 0, Int.ofNat 5) (yo_ic .ge (ih 46) (yo_lda 0 (yo_gf yG 6 1 (yo_ld 0 2 (yo_al yG none 0 (yo_st 0 3 4 (yo_ld 0 3 (yo_push (0, 0, Int.negSucc 8) (yo_ic .eq (ih 40) (yo_lda 0 (yo_gf yG 6 0 (yo_ld 0 3 (yo_cts yG ycs41 5 1 2 0 0 0 0 (yo_push (0, 0, Int.ofNat 1) (yo_ic .ne (ih 40) (yo_ld 0 1 (yo_push (0, 0, Int.ofNat 1) (yo_ld 0 3 (yo_bin 0 0 (xg_i x_ishl (yg_en x_ishl)) (yo_bin 0 0 (xg_i (· ||| ·) yg_bit) (yo_st 0 1 4 (ih 40)))))))))))))))))))))))),
  (40, fun ih => yo_inc 2 4 (Int.ofNat 1) (ih 4)),
  (46, fun ih => yo_ld 0 1 (yo_ri 1))]
set_option maxRecDepth 100000 in
theorem yT56 : y_T yG none y_i0 (y_cc 41 ycs41 y_c0) ev_r56.1 (fun _ => none) yt56 := (y_T_cons 4 rfl (y_T_cons 23 rfl (y_T_cons 2 rfl (y_T_cons 2 rfl y_T_nil))))
def yct56_0 : yCt := ([(2, Int.ofNat 9, Int.ofNat 9, false)], (some (0, Int.negSucc 2147483647, Int.ofNat 2147483647, false)), [])
set_option maxRecDepth 100000 in
theorem yd56_0 : y_drv yt56 (y_st [4]) none (y_po yct56_0) [0, 4] 100000 5000 [y_start 3 yct56_0] = true := by decide +kernel
theorem yc56_0 : y_Mca yG 56 yct56_0 := y_Mca_of (r := ev_r56) rfl (y_con (k := 3) (by decide) (fun hc0 _ => y_drv_ok (h0 := (yG, hc0)) y_i0_ok (y_cc_ok yCs41 y_c0_ok) yT56 (fun _ h1 h2 => y_po_ok h1 h2) yd56_0 _ (List.mem_singleton.mpr rfl)))
def yct56_1 : yCt := ([(2, Int.ofNat 13, Int.ofNat 13, false)], (some (0, Int.negSucc 2147483647, Int.ofNat 2147483647, false)), [])
set_option maxRecDepth 100000 in
theorem yd56_1 : y_drv yt56 (y_st [4]) none (y_po yct56_1) [0, 4] 100000 5000 [y_start 3 yct56_1] = true := by decide +kernel
theorem yc56_1 : y_Mca yG 56 yct56_1 := y_Mca_of (r := ev_r56) rfl (y_con (k := 3) (by decide) (fun hc0 _ => y_drv_ok (h0 := (yG, hc0)) y_i0_ok (y_cc_ok yCs41 y_c0_ok) yT56 (fun _ h1 h2 => y_po_ok h1 h2) yd56_1 _ (List.mem_singleton.mpr rfl)))
noncomputable def ycs56 : List yCt := [yct56_0, yct56_1]
theorem yCs56 : ∀ ct ∈ ycs56, y_Mca yG 56 ct := (y_l1 yc56_0 (y_l1 yc56_1 y_l0))
/-- NameHall$Scene.somebodies()I -/
noncomputable def yt57 : List (Nat × yB) := [(0, fun ih => yo_lda 0 (yo_cts yG ycs56 7 0 4 0 0 0 0 (yo_st 0 1 5 (yo_push (0, 0, Int.ofNat 0) (yo_st 0 2 5 (yo_push (0, 0, Int.ofNat 0) (yo_st 0 3 5 (ih 9)))))))),
  (9, fun ih => yo_ld 0 3 (yo_push (0, 0, Int.ofNat 5) (yo_ic .ge (ih 65) (yo_lda 0 (yo_gf yG 6 1 (yo_ld 0 3 (yo_al yG none 0 (yo_st 0 4 5 (yo_ld 0 4 (yo_push (0, 0, Int.negSucc 8) (yo_ic .eq (ih 59) (yo_lda 0 (yo_gf yG 6 0 (yo_ld 0 4 (yo_cts yG ycs41 5 1 2 0 0 0 0 (yo_push (0, 0, Int.ofNat 1) (yo_ic .ne (ih 53) (yo_ld 0 1 (yo_push (0, 0, Int.ofNat 1) (yo_ld 0 4 (yo_bin 0 0 (xg_i x_ishl (yg_en x_ishl)) (yo_push (0, 0, Int.negSucc 0) (yo_bin 0 0 (xg_i (· ^^^ ·) yg_bit) (yo_bin 0 0 (xg_i (· &&& ·) xg_and) (yo_if .eq (ih 59) (ih 53)))))))))))))))))))))))))),
  (53, fun ih => yo_ld 0 2 (yo_push (0, 0, Int.ofNat 1) (yo_ld 0 3 (yo_bin 0 0 (xg_i x_ishl (yg_en x_ishl)) (yo_bin 0 0 (xg_i (· ||| ·) yg_bit) (yo_st 0 2 5 (ih 59))))))),
  (59, fun ih => yo_inc 3 5 (Int.ofNat 1) (ih 9)),
  (65, fun ih => yo_ld 0 2 (yo_ri 1))]
set_option maxRecDepth 100000 in
theorem yT57 : y_T yG none y_i0 (y_cc 56 ycs56 (y_cc 41 ycs41 y_c0)) ev_r57.1 (fun _ => none) yt57 := (y_T_cons 7 rfl (y_T_cons 25 rfl (y_T_cons 6 rfl (y_T_cons 2 rfl (y_T_cons 2 rfl y_T_nil)))))
def yct57_0 : yCt := ([(2, Int.ofNat 9, Int.ofNat 9, false)], (some (0, Int.ofNat 0, Int.ofNat 31, false)), [])
set_option maxRecDepth 100000 in
theorem yd57_0 : y_drv yt57 (y_st [9]) none (y_po yct57_0) [0, 9] 100000 5000 [y_start 4 yct57_0] = true := by decide +kernel
theorem yc57_0 : y_Mca yG 57 yct57_0 := y_Mca_of (r := ev_r57) rfl (y_con (k := 4) (by decide) (fun hc0 _ => y_drv_ok (h0 := (yG, hc0)) y_i0_ok (y_cc_ok yCs56 (y_cc_ok yCs41 y_c0_ok)) yT57 (fun _ h1 h2 => y_po_ok h1 h2) yd57_0 _ (List.mem_singleton.mpr rfl)))
def yct57_1 : yCt := ([(2, Int.ofNat 13, Int.ofNat 13, false)], (some (0, Int.ofNat 0, Int.ofNat 31, false)), [])
set_option maxRecDepth 100000 in
theorem yd57_1 : y_drv yt57 (y_st [9]) none (y_po yct57_1) [0, 9] 100000 5000 [y_start 4 yct57_1] = true := by decide +kernel
theorem yc57_1 : y_Mca yG 57 yct57_1 := y_Mca_of (r := ev_r57) rfl (y_con (k := 4) (by decide) (fun hc0 _ => y_drv_ok (h0 := (yG, hc0)) y_i0_ok (y_cc_ok yCs56 (y_cc_ok yCs41 y_c0_ok)) yT57 (fun _ h1 h2 => y_po_ok h1 h2) yd57_1 _ (List.mem_singleton.mpr rfl)))
noncomputable def ycs57 : List yCt := [yct57_0, yct57_1]
theorem yCs57 : ∀ ct ∈ ycs57, y_Mca yG 57 ct := (y_l1 yc57_0 (y_l1 yc57_1 y_l0))
/-- NameHall$Scene.isSomebody(I)Z -/
noncomputable def yt58 : List (Nat × yB) := [(0, fun ih => yo_lda 0 (yo_gf yG 6 0 (yo_ld 0 1 (yo_cl yG ym49 5 1 2 0 0 0 0 (yo_if .eq (ih 27) (yo_lda 0 (yo_cts yG ycs57 7 0 5 0 0 0 0 (yo_ld 0 1 (yo_bin 0 0 (xg_i x_ishr xg_ti) (yo_push (0, 0, Int.ofNat 1) (yo_bin 0 0 (xg_i (· &&& ·) xg_and) (yo_push (0, 0, Int.ofNat 1) (yo_ic .ne (ih 27) (yo_push (0, 0, Int.ofNat 1) (ih 28))))))))))))))),
  (27, fun ih => yo_push (0, 0, Int.ofNat 0) (ih 28)),
  (28, fun ih => yo_ri 2)]
set_option maxRecDepth 100000 in
theorem yT58 : y_T yG none (y_ic 49 ym49 y_i0) (y_cc 57 ycs57 y_c0) ev_r58.1 (fun _ => none) yt58 := (y_T_cons 15 rfl (y_T_cons 1 rfl (y_T_cons 1 rfl y_T_nil)))
noncomputable def ym58 : List xv → yH → xE → yR := y_mth 0 yt58 100000
theorem yM58 (hc0 : ev_H) : y_Ma (yG, hc0) 58 ym58 := y_Ma_of (r := ev_r58) rfl (ys_mth (h0 := (yG, hc0)) (y_ic_ok (yM49 hc0) y_i0_ok) (y_cc_ok yCs57 y_c0_ok) yT58)
/-- NameHall$Scene.isPersonGone(I)Z -/
noncomputable def yt59 : List (Nat × yB) := [(0, fun ih => yo_lda 0 (yo_gf yG 6 0 (yo_ld 0 1 (yo_cl yG ym49 5 1 2 0 0 0 0 (yo_if .eq (ih 27) (yo_lda 0 (yo_gf yG 6 5 (yo_ld 0 1 (yo_bin 0 0 (xg_i x_ishr xg_ti) (yo_push (0, 0, Int.ofNat 1) (yo_bin 0 0 (xg_i (· &&& ·) xg_and) (yo_push (0, 0, Int.ofNat 1) (yo_ic .ne (ih 27) (yo_push (0, 0, Int.ofNat 1) (ih 28))))))))))))))),
  (27, fun ih => yo_push (0, 0, Int.ofNat 0) (ih 28)),
  (28, fun ih => yo_ri 2)]
set_option maxRecDepth 100000 in
theorem yT59 : y_T yG none (y_ic 49 ym49 y_i0) y_c0 ev_r59.1 (fun _ => none) yt59 := (y_T_cons 15 rfl (y_T_cons 1 rfl (y_T_cons 1 rfl y_T_nil)))
noncomputable def ym59 : List xv → yH → xE → yR := y_mth 0 yt59 100000
theorem yM59 (hc0 : ev_H) : y_Ma (yG, hc0) 59 ym59 := y_Ma_of (r := ev_r59) rfl (ys_mth (h0 := (yG, hc0)) (y_ic_ok (yM49 hc0) y_i0_ok) y_c0_ok yT59)
/-- NameHall.person(II)I -/
noncomputable def yt60 : List (Nat × yB) := [(0, fun ih => yo_lda 0 (yo_gf yG 9 1 (yo_ld 0 1 (yo_cl yG ym49 5 1 2 0 0 0 0 (yo_if .ne (ih 13) (yo_push (0, 0, Int.negSucc 0) (yo_ri 1))))))),
  (13, fun ih => yo_ld 0 2 (yo_sw (Int.ofNat 0) (Int.ofNat 7) 148 [60, 69, 78, 87, 96, 105, 114, 131] ih)),
  (60, fun ih => yo_lda 0 (yo_gf yG 9 1 (yo_ld 0 1 (yo_cts yG ycs50 5 1 2 0 0 0 0 (yo_ri 1))))),
  (69, fun ih => yo_lda 0 (yo_gf yG 9 1 (yo_ld 0 1 (yo_cts yG ycs51 5 1 2 0 0 0 0 (yo_ri 1))))),
  (78, fun ih => yo_lda 0 (yo_gf yG 9 1 (yo_ld 0 1 (yo_cts yG ycs52 5 1 2 0 0 0 0 (yo_ri 1))))),
  (87, fun ih => yo_lda 0 (yo_gf yG 9 2 (yo_ld 0 1 (yo_cl yG ym53 7 1 2 0 0 0 0 (yo_ri 1))))),
  (96, fun ih => yo_lda 0 (yo_gf yG 9 2 (yo_ld 0 1 (yo_cts yG ycs54 7 1 2 0 0 0 0 (yo_ri 1))))),
  (105, fun ih => yo_lda 0 (yo_gf yG 9 2 (yo_ld 0 1 (yo_cts yG ycs55 7 1 2 0 0 0 0 (yo_ri 1))))),
  (114, fun ih => yo_lda 0 (yo_gf yG 9 2 (yo_ld 0 1 (yo_cl yG ym58 7 1 2 0 0 0 0 (yo_if .eq (ih 129) (yo_push (0, 0, Int.ofNat 1) (ih 130))))))),
  (129, fun ih => yo_push (0, 0, Int.ofNat 0) (ih 130)),
  (130, fun ih => yo_ri 1),
  (131, fun ih => yo_lda 0 (yo_gf yG 9 2 (yo_ld 0 1 (yo_cl yG ym59 7 1 2 0 0 0 0 (yo_if .eq (ih 146) (yo_push (0, 0, Int.ofNat 1) (ih 147))))))),
  (146, fun ih => yo_push (0, 0, Int.ofNat 0) (ih 147)),
  (147, fun ih => yo_ri 1),
  (148, fun ih => yo_push (0, 0, Int.negSucc 1) (yo_ri 1))]
set_option maxRecDepth 100000 in
theorem yT60 : y_T yG none (y_ic 49 ym49 (y_ic 53 ym53 (y_ic 58 ym58 (y_ic 59 ym59 y_i0)))) (y_cc 50 ycs50 (y_cc 51 ycs51 (y_cc 52 ycs52 (y_cc 54 ycs54 (y_cc 55 ycs55 y_c0))))) ev_r60.1 (fun _ => none) yt60 := (y_T_cons 7 rfl (y_T_cons 2 rfl (y_T_cons 5 rfl (y_T_cons 5 rfl (y_T_cons 5 rfl (y_T_cons 5 rfl (y_T_cons 5 rfl (y_T_cons 5 rfl (y_T_cons 7 rfl (y_T_cons 1 rfl (y_T_cons 1 rfl (y_T_cons 7 rfl (y_T_cons 1 rfl (y_T_cons 1 rfl (y_T_cons 2 rfl y_T_nil)))))))))))))))
def yct60_0 : yCt := ([(2, Int.ofNat 0, Int.ofNat 0, false), (0, Int.negSucc 2147483647, Int.ofNat 2147483647, false), (0, Int.negSucc 2147483647, Int.ofNat 2147483647, false)], (some (0, Int.negSucc 2147483647, Int.ofNat 2147483647, true)), [])
set_option maxRecDepth 100000 in
theorem yd60_0 : y_drv yt60 (y_st []) none (y_po yct60_0) [0] 100000 5000 [y_start 0 yct60_0] = true := by decide +kernel
theorem yc60_0 : y_Mca yG 60 yct60_0 := y_Mca_of (r := ev_r60) rfl (y_con (k := 0) (by decide) (fun hc0 _ => y_drv_ok (h0 := (yG, hc0)) (y_ic_ok (yM49 hc0) (y_ic_ok (yM53 hc0) (y_ic_ok (yM58 hc0) (y_ic_ok (yM59 hc0) y_i0_ok)))) (y_cc_ok yCs50 (y_cc_ok yCs51 (y_cc_ok yCs52 (y_cc_ok yCs54 (y_cc_ok yCs55 y_c0_ok))))) yT60 (fun _ h1 h2 => y_po_ok h1 h2) yd60_0 _ (List.mem_singleton.mpr rfl)))
noncomputable def ycs60 : List yCt := [yct60_0]
theorem yCs60 : ∀ ct ∈ ycs60, y_Mca yG 60 ct := (y_l1 yc60_0 y_l0)
/-- NameHallModel.isPerson(I)Z -/
noncomputable def yt61 : List (Nat × yB) := [(0, fun ih => yo_ld 0 1 (yo_un 0 xg_i2l (yo_push (1, 0, Int.ofNat 0) (yo_lda 0 (yo_gf yG 10 1 (yo_push (0, 0, Int.ofNat 1) (yo_bin 0 0 yg_sub (yo_un 0 xg_i2l (yo_cl yG ym15 0 3 6 0 0 0 0 (yo_ri 2))))))))))]
set_option maxRecDepth 100000 in
theorem yT61 : y_T yG none (y_ic 15 ym15 y_i0) y_c0 ev_r61.1 (fun _ => none) yt61 := (y_T_cons 10 rfl y_T_nil)
noncomputable def ym61 : List xv → yH → xE → yR := y_mth 0 yt61 100000
theorem yM61 (hc0 : ev_H) : y_Ma (yG, hc0) 61 ym61 := y_Ma_of (r := ev_r61) rfl (ys_mth (h0 := (yG, hc0)) (y_ic_ok (yM15 hc0) y_i0_ok) y_c0_ok yT61)
/-- NameHallModel.isSomebody(II)Z -/
noncomputable def yt62 : List (Nat × yB) := [(0, fun ih => yo_lda 0 (yo_gf yG 10 7 (yo_push (0, 0, Int.ofNat 18) (yo_ld 0 1 (yo_bin 0 0 (xg_i (· * ·) yg_mul) (yo_ld 0 2 (yo_bin 0 0 yg_add (yo_al yG none 0 (yo_st 0 3 6 (yo_ld 0 3 (yo_push (0, 0, Int.negSucc 8) (yo_ic .eq (ih 28) (yo_lda 0 (yo_gf yG 10 2 (yo_ld 0 3 (yo_al yG none 0 (yo_push (0, 0, Int.ofNat 1) (yo_ic .eq (ih 40) (ih 28))))))))))))))))))),
  (28, fun ih => yo_ld 0 3 (yo_push (0, 0, Int.negSucc 8) (yo_ic .eq (ih 38) (yo_push (0, 0, Int.ofNat 1) (ih 39))))),
  (38, fun ih => yo_push (0, 0, Int.ofNat 0) (ih 39)),
  (39, fun ih => yo_ri 2),
  (40, fun ih => yo_push (0, 0, Int.ofNat 0) (yo_st 0 4 6 (yo_push (0, 0, Int.ofNat 0) (yo_st 0 5 6 (ih 46))))),
  (46, fun ih => yo_ld 0 5 (yo_lda 0 (yo_gf yG 10 0 (yo_ic .ge (ih 100) (yo_ld 0 4 (yo_if .ne (ih 87) (yo_ld 0 5 (yo_ld 0 3 (yo_ic .eq (ih 91) (yo_lda 0 (yo_gf yG 10 2 (yo_ld 0 5 (yo_al yG none 0 (yo_push (0, 0, Int.ofNat 1) (yo_ic .ne (ih 91) (yo_lda 0 (yo_ld 0 1 (yo_ld 0 5 (yo_cts yG ycs47 11 2 5 0 0 0 0 (yo_if .eq (ih 91) (ih 87))))))))))))))))))))),
  (87, fun ih => yo_push (0, 0, Int.ofNat 1) (ih 92)),
  (91, fun ih => yo_push (0, 0, Int.ofNat 0) (ih 92)),
  (92, fun ih => yo_st 0 4 6 (yo_inc 5 6 (Int.ofNat 1) (ih 46))),
  (100, fun ih => yo_ld 0 4 (yo_ri 2))]
set_option maxRecDepth 100000 in
theorem yT62 : y_T yG none y_i0 (y_cc 47 ycs47 y_c0) ev_r62.1 (fun _ => none) yt62 := (y_T_cons 18 rfl (y_T_cons 5 rfl (y_T_cons 1 rfl (y_T_cons 1 rfl (y_T_cons 4 rfl (y_T_cons 20 rfl (y_T_cons 2 rfl (y_T_cons 1 rfl (y_T_cons 3 rfl (y_T_cons 2 rfl y_T_nil))))))))))
def yct62_0 : yCt := ([(2, Int.ofNat 55, Int.ofNat 55, false), (0, Int.ofNat 0, Int.ofNat 0, false), (0, Int.ofNat 0, Int.ofNat 4, false)], (some (0, Int.ofNat 0, Int.ofNat 1, false)), [])
set_option maxRecDepth 100000 in
theorem yd62_0 : y_drv yt62 (y_st [46]) none (y_po yct62_0) [0, 46] 100000 5000 [y_start 3 yct62_0] = true := by decide +kernel
theorem yc62_0 : y_Mca yG 62 yct62_0 := y_Mca_of (r := ev_r62) rfl (y_con (k := 3) (by decide) (fun hc0 _ => y_drv_ok (h0 := (yG, hc0)) y_i0_ok (y_cc_ok yCs47 y_c0_ok) yT62 (fun _ h1 h2 => y_po_ok h1 h2) yd62_0 _ (List.mem_singleton.mpr rfl)))
def yct62_1 : yCt := ([(2, Int.ofNat 55, Int.ofNat 55, false), (0, Int.ofNat 1, Int.ofNat 1, false), (0, Int.ofNat 0, Int.ofNat 4, false)], (some (0, Int.ofNat 0, Int.ofNat 1, false)), [])
set_option maxRecDepth 100000 in
theorem yd62_1 : y_drv yt62 (y_st [46]) none (y_po yct62_1) [0, 46] 100000 5000 [y_start 3 yct62_1] = true := by decide +kernel
theorem yc62_1 : y_Mca yG 62 yct62_1 := y_Mca_of (r := ev_r62) rfl (y_con (k := 3) (by decide) (fun hc0 _ => y_drv_ok (h0 := (yG, hc0)) y_i0_ok (y_cc_ok yCs47 y_c0_ok) yT62 (fun _ h1 h2 => y_po_ok h1 h2) yd62_1 _ (List.mem_singleton.mpr rfl)))
noncomputable def ycs62 : List yCt := [yct62_0, yct62_1]
theorem yCs62 : ∀ ct ∈ ycs62, y_Mca yG 62 ct := (y_l1 yc62_0 (y_l1 yc62_1 y_l0))
/-- NameHallModel.person(II)I -/
noncomputable def yt63 : List (Nat × yB) := [(0, fun ih => yo_lda 0 (yo_ld 0 1 (yo_cl yG ym61 11 1 2 0 0 0 0 (yo_if .ne (ih 10) (yo_push (0, 0, Int.negSucc 0) (yo_ri 1)))))),
  (10, fun ih => yo_ld 0 2 (yo_sw (Int.ofNat 0) (Int.ofNat 7) 130 [56, 63, 70, 77, 84, 93, 103, 118] ih)),
  (56, fun ih => yo_lda 0 (yo_gf yG 10 4 (yo_ld 0 1 (yo_al yG none 0 (yo_ri 1))))),
  (63, fun ih => yo_lda 0 (yo_gf yG 10 5 (yo_ld 0 1 (yo_al yG none 0 (yo_ri 1))))),
  (70, fun ih => yo_lda 0 (yo_gf yG 10 6 (yo_ld 0 1 (yo_al yG none 0 (yo_ri 1))))),
  (77, fun ih => yo_lda 0 (yo_gf yG 10 7 (yo_ld 0 1 (yo_al yG none 0 (yo_ri 1))))),
  (84, fun ih => yo_lda 0 (yo_gf yG 10 7 (yo_push (0, 0, Int.ofNat 5) (yo_ld 0 1 (yo_bin 0 0 yg_add (yo_al yG none 0 (yo_ri 1))))))),
  (93, fun ih => yo_lda 0 (yo_gf yG 10 7 (yo_push (0, 0, Int.ofNat 10) (yo_ld 0 1 (yo_bin 0 0 yg_add (yo_al yG none 0 (yo_ri 1))))))),
  (103, fun ih => yo_lda 0 (yo_push (0, 0, Int.ofNat 0) (yo_ld 0 1 (yo_cts yG ycs62 11 2 6 0 0 0 0 (yo_if .eq (ih 116) (yo_push (0, 0, Int.ofNat 1) (ih 117))))))),
  (116, fun ih => yo_push (0, 0, Int.ofNat 0) (ih 117)),
  (117, fun ih => yo_ri 1),
  (118, fun ih => yo_lda 0 (yo_gf yG 10 7 (yo_push (0, 0, Int.ofNat 16) (yo_al yG none 0 (yo_ld 0 1 (yo_bin 0 0 (xg_i x_ishr xg_ti) (yo_push (0, 0, Int.ofNat 1) (yo_bin 0 0 (xg_i (· &&& ·) xg_and) (yo_ri 1))))))))),
  (130, fun ih => yo_push (0, 0, Int.negSucc 1) (yo_ri 1))]
set_option maxRecDepth 100000 in
theorem yT63 : y_T yG none (y_ic 61 ym61 y_i0) (y_cc 62 ycs62 y_c0) ev_r63.1 (fun _ => none) yt63 := (y_T_cons 6 rfl (y_T_cons 2 rfl (y_T_cons 5 rfl (y_T_cons 5 rfl (y_T_cons 5 rfl (y_T_cons 5 rfl (y_T_cons 7 rfl (y_T_cons 7 rfl (y_T_cons 7 rfl (y_T_cons 1 rfl (y_T_cons 1 rfl (y_T_cons 9 rfl (y_T_cons 2 rfl y_T_nil)))))))))))))
def yct63_0 : yCt := ([(2, Int.ofNat 55, Int.ofNat 55, false), (0, Int.negSucc 2147483647, Int.ofNat 2147483647, false), (0, Int.negSucc 2147483647, Int.ofNat 2147483647, false)], (some (0, Int.negSucc 2147483647, Int.ofNat 2147483647, true)), [])
set_option maxRecDepth 100000 in
theorem yd63_0 : y_drv yt63 (y_st []) none (y_po yct63_0) [0] 100000 5000 [y_start 0 yct63_0] = true := by decide +kernel
theorem yc63_0 : y_Mca yG 63 yct63_0 := y_Mca_of (r := ev_r63) rfl (y_con (k := 0) (by decide) (fun hc0 _ => y_drv_ok (h0 := (yG, hc0)) (y_ic_ok (yM61 hc0) y_i0_ok) (y_cc_ok yCs62 y_c0_ok) yT63 (fun _ h1 h2 => y_po_ok h1 h2) yd63_0 _ (List.mem_singleton.mpr rfl)))
noncomputable def ycs63 : List yCt := [yct63_0]
theorem yCs63 : ∀ ct ∈ ycs63, y_Mca yG 63 ct := (y_l1 yc63_0 y_l0)
/-- NameHall$Scene.isFitting(II)Z -/
noncomputable def yt64 : List (Nat × yB) := [(0, fun ih => yo_lda 0 (yo_gf yG 6 0 (yo_ld 0 2 (yo_cl yG ym40 5 1 2 0 0 0 0 (yo_if .eq (ih 39) (yo_lda 0 (yo_ld 0 1 (yo_cl yG ym59 7 1 2 0 0 0 0 (yo_if .ne (ih 39) (yo_lda 0 (yo_gf yG 6 0 (yo_ld 0 1 (yo_cts yG ycs52 5 1 2 0 0 0 0 (yo_ld 0 2 (yo_bin 0 0 (xg_i x_ishr xg_ti) (yo_push (0, 0, Int.ofNat 1) (yo_bin 0 0 (xg_i (· &&& ·) xg_and) (yo_push (0, 0, Int.ofNat 1) (yo_ic .ne (ih 39) (yo_push (0, 0, Int.ofNat 1) (ih 40))))))))))))))))))))),
  (39, fun ih => yo_push (0, 0, Int.ofNat 0) (ih 40)),
  (40, fun ih => yo_ri 2)]
set_option maxRecDepth 100000 in
theorem yT64 : y_T yG none (y_ic 40 ym40 (y_ic 59 ym59 y_i0)) (y_cc 52 ycs52 y_c0) ev_r64.1 (fun _ => none) yt64 := (y_T_cons 21 rfl (y_T_cons 1 rfl (y_T_cons 1 rfl y_T_nil)))
noncomputable def ym64 : List xv → yH → xE → yR := y_mth 0 yt64 100000
theorem yM64 (hc0 : ev_H) : y_Ma (yG, hc0) 64 ym64 := y_Ma_of (r := ev_r64) rfl (ys_mth (h0 := (yG, hc0)) (y_ic_ok (yM40 hc0) (y_ic_ok (yM59 hc0) y_i0_ok)) (y_cc_ok yCs52 y_c0_ok) yT64)
/-- java/lang/Integer.bitCount(I)I -/
noncomputable def yt65 : List (Nat × yB) := [(0, fun ih => yo_ld 0 0 (yo_ld 0 0 (yo_push (0, 0, Int.ofNat 1) (yo_bin 0 0 (xg_i x_iushr xg_ti) (yo_push (0, 0, Int.ofNat 1431655765) (yo_bin 0 0 (xg_i (· &&& ·) xg_and) (yo_bin 0 0 yg_sub (yo_st 0 0 1 (yo_ld 0 0 (yo_push (0, 0, Int.ofNat 858993459) (yo_bin 0 0 (xg_i (· &&& ·) xg_and) (yo_ld 0 0 (yo_push (0, 0, Int.ofNat 2) (yo_bin 0 0 (xg_i x_iushr xg_ti) (yo_push (0, 0, Int.ofNat 858993459) (yo_bin 0 0 (xg_i (· &&& ·) xg_and) (yo_bin 0 0 yg_add (yo_st 0 0 1 (yo_ld 0 0 (yo_ld 0 0 (yo_push (0, 0, Int.ofNat 4) (yo_bin 0 0 (xg_i x_iushr xg_ti) (yo_bin 0 0 yg_add (yo_push (0, 0, Int.ofNat 252645135) (yo_bin 0 0 (xg_i (· &&& ·) xg_and) (yo_st 0 0 1 (yo_ld 0 0 (yo_ld 0 0 (yo_push (0, 0, Int.ofNat 8) (yo_bin 0 0 (xg_i x_iushr xg_ti) (yo_bin 0 0 yg_add (yo_st 0 0 1 (yo_ld 0 0 (yo_ld 0 0 (yo_push (0, 0, Int.ofNat 16) (yo_bin 0 0 (xg_i x_iushr xg_ti) (yo_bin 0 0 yg_add (yo_st 0 0 1 (yo_ld 0 0 (yo_push (0, 0, Int.ofNat 63) (yo_bin 0 0 (xg_i (· &&& ·) xg_and) (yo_ri 1))))))))))))))))))))))))))))))))))))))))))]
set_option maxRecDepth 100000 in
theorem yT65 : y_T yG none y_i0 y_c0 ev_r65.1 (fun _ => none) yt65 := (y_T_cons 42 rfl y_T_nil)
def yct65_0 : yCt := ([(0, Int.negSucc 2147483647, Int.ofNat 2147483647, false)], (some (0, Int.ofNat 0, Int.ofNat 63, false)), [])
set_option maxRecDepth 100000 in
theorem yd65_0 : y_drv yt65 (y_st []) none (y_po yct65_0) [0] 100000 5000 [y_start 0 yct65_0] = true := by decide +kernel
theorem yc65_0 : y_Mca yG 65 yct65_0 := y_Mca_of (r := ev_r65) rfl (y_con (k := 0) (by decide) (fun hc0 _ => y_drv_ok (h0 := (yG, hc0)) y_i0_ok y_c0_ok yT65 (fun _ h1 h2 => y_po_ok h1 h2) yd65_0 _ (List.mem_singleton.mpr rfl)))
noncomputable def ycs65 : List yCt := [yct65_0]
theorem yCs65 : ∀ ct ∈ ycs65, y_Mca yG 65 ct := (y_l1 yc65_0 y_l0)
/-- NameHall$Plan.room(I)I -/
noncomputable def yt66 : List (Nat × yB) := [(0, fun ih => yo_lda 0 (yo_ld 0 1 (yo_cts yG ycs41 5 1 2 0 0 0 0 (yo_push (0, 0, Int.ofNat 2) (yo_ic .ne (ih 13) (yo_push (0, 0, Int.ofNat 2) (ih 14))))))),
  (13, fun ih => yo_push (0, 0, Int.ofNat 1) (ih 14)),
  (14, fun ih => yo_ri 1)]
set_option maxRecDepth 100000 in
theorem yT66 : y_T yG none y_i0 (y_cc 41 ycs41 y_c0) ev_r66.1 (fun _ => none) yt66 := (y_T_cons 7 rfl (y_T_cons 1 rfl (y_T_cons 1 rfl y_T_nil)))
def yct66_0 : yCt := ([(2, Int.ofNat 3, Int.ofNat 3, false), (0, Int.negSucc 2147483647, Int.ofNat 2147483647, false)], (some (0, Int.ofNat 1, Int.ofNat 2, false)), [])
set_option maxRecDepth 100000 in
theorem yd66_0 : y_drv yt66 (y_st []) none (y_po yct66_0) [0] 100000 5000 [y_start 0 yct66_0] = true := by decide +kernel
theorem yc66_0 : y_Mca yG 66 yct66_0 := y_Mca_of (r := ev_r66) rfl (y_con (k := 0) (by decide) (fun hc0 _ => y_drv_ok (h0 := (yG, hc0)) y_i0_ok (y_cc_ok yCs41 y_c0_ok) yT66 (fun _ h1 h2 => y_po_ok h1 h2) yd66_0 _ (List.mem_singleton.mpr rfl)))
noncomputable def ycs66 : List yCt := [yct66_0]
theorem yCs66 : ∀ ct ∈ ycs66, y_Mca yG 66 ct := (y_l1 yc66_0 y_l0)
/-- NameHall$Scene.canTake(II)Z -/
noncomputable def yt67 : List (Nat × yB) := [(0, fun ih => yo_lda 0 (yo_ld 0 1 (yo_cl yG ym53 7 1 2 0 0 0 0 (yo_push (0, 0, Int.negSucc 8) (yo_ic .ne (ih 50) (yo_lda 0 (yo_ld 0 1 (yo_ld 0 2 (yo_cl yG ym64 7 2 3 0 0 0 0 (yo_if .eq (ih 50) (yo_lda 0 (yo_ld 0 2 (yo_cl yG ym44 7 1 2 0 0 0 0 (yo_if .ne (ih 50) (yo_lda 0 (yo_ld 0 2 (yo_cts yG ycs43 7 1 4 0 0 0 0 (yo_cts yG ycs65 0 1 1 0 0 0 0 (yo_lda 0 (yo_gf yG 6 0 (yo_ld 0 2 (yo_cts yG ycs66 5 1 2 0 0 0 0 (yo_ic .ge (ih 50) (yo_push (0, 0, Int.ofNat 1) (ih 51))))))))))))))))))))))))),
  (50, fun ih => yo_push (0, 0, Int.ofNat 0) (ih 51)),
  (51, fun ih => yo_ri 2)]
set_option maxRecDepth 100000 in
theorem yT67 : y_T yG none (y_ic 53 ym53 (y_ic 64 ym64 (y_ic 44 ym44 y_i0))) (y_cc 43 ycs43 (y_cc 65 ycs65 (y_cc 66 ycs66 y_c0))) ev_r67.1 (fun _ => none) yt67 := (y_T_cons 25 rfl (y_T_cons 1 rfl (y_T_cons 1 rfl y_T_nil)))
noncomputable def ym67 : List xv → yH → xE → yR := y_mth 0 yt67 100000
theorem yM67 (hc0 : ev_H) : y_Ma (yG, hc0) 67 ym67 := y_Ma_of (r := ev_r67) rfl (ys_mth (h0 := (yG, hc0)) (y_ic_ok (yM53 hc0) (y_ic_ok (yM64 hc0) (y_ic_ok (yM44 hc0) y_i0_ok))) (y_cc_ok yCs43 (y_cc_ok yCs65 (y_cc_ok yCs66 y_c0_ok))) yT67)
/-- java/lang/Math.floorMod(II)I -/
noncomputable def yt68 : List (Nat × yB) := [(0, fun ih => yo_ld 0 0 (yo_ld 0 1 (yo_dv 1 yg_rem (yo_st 0 2 3 (yo_ld 0 0 (yo_ld 0 1 (yo_bin 0 0 (xg_i (· ^^^ ·) yg_bit) (yo_if .ge (ih 18) (yo_ld 0 2 (yo_if .eq (ih 18) (yo_ld 0 2 (yo_ld 0 1 (yo_bin 0 0 yg_add (yo_ri 1)))))))))))))),
  (18, fun ih => yo_ld 0 2 (yo_ri 1))]
set_option maxRecDepth 100000 in
theorem yT68 : y_T yG none y_i0 y_c0 ev_r68.1 (fun _ => none) yt68 := (y_T_cons 14 rfl (y_T_cons 2 rfl y_T_nil))
def yct68_0 : yCt := ([(0, Int.ofNat 0, Int.ofNat 27, false), (0, Int.ofNat 14, Int.ofNat 14, false)], (some (0, Int.ofNat 0, Int.ofNat 13, false)), [])
set_option maxRecDepth 100000 in
theorem yd68_0 : y_drv yt68 (y_st []) none (y_po yct68_0) [0] 100000 5000 [y_start 1 yct68_0] = true := by decide +kernel
theorem yc68_0 : y_Mca yG 68 yct68_0 := y_Mca_of (r := ev_r68) rfl (y_con (k := 1) (by decide) (fun hc0 _ => y_drv_ok (h0 := (yG, hc0)) y_i0_ok y_c0_ok yT68 (fun _ h1 h2 => y_po_ok h1 h2) yd68_0 _ (List.mem_singleton.mpr rfl)))
noncomputable def ycs68 : List yCt := [yct68_0]
theorem yCs68 : ∀ ct ∈ ycs68, y_Mca yG 68 ct := (y_l1 yc68_0 y_l0)
/-- NameHall$Scene.save([I)V -/
noncomputable def yt69 : List (Nat × yB) := [(0, fun ih => yo_lda 1 (yo_len yG (yo_push (0, 0, Int.ofNat 18) (yo_ic .ge (ih 8) (yo_rv 0))))),
  (8, fun ih => yo_lda 0 (yo_gf yG 6 1 (yo_push (0, 0, Int.ofNat 0) (yo_lda 1 (yo_push (0, 0, Int.ofNat 0) (yo_push (0, 0, Int.ofNat 5) (yo_cp yG 1 26 (yo_lda 0 (yo_gf yG 6 2 (yo_push (0, 0, Int.ofNat 0) (yo_lda 1 (yo_push (0, 0, Int.ofNat 5) (yo_push (0, 0, Int.ofNat 5) (yo_cp yG 1 26 (yo_lda 0 (yo_gf yG 6 3 (yo_push (0, 0, Int.ofNat 0) (yo_lda 1 (yo_push (0, 0, Int.ofNat 10) (yo_push (0, 0, Int.ofNat 5) (yo_cp yG 1 26 (yo_lda 1 (yo_push (0, 0, Int.ofNat 15) (yo_lda 0 (yo_gf yG 6 4 (yo_as yG 0 (yo_lda 1 (yo_push (0, 0, Int.ofNat 16) (yo_lda 0 (yo_gf yG 6 5 (yo_as yG 0 (yo_lda 1 (yo_push (0, 0, Int.ofNat 17) (yo_lda 0 (yo_gf yG 6 6 (yo_as yG 0 (yo_rv 0)))))))))))))))))))))))))))))))))))))]
set_option maxRecDepth 100000 in
theorem yT69 : y_T yG none y_i0 y_c0 ev_r69.1 (fun _ => none) yt69 := (y_T_cons 5 rfl (y_T_cons 37 rfl y_T_nil))
def yct69_0 : yCt := ([(2, Int.ofNat 9, Int.ofNat 9, false), (2, Int.ofNat 35, Int.ofNat 36, false)], none, [(35, 0, 17), (36, 0, 17)])
set_option maxRecDepth 100000 in
theorem yd69_0 : y_drv yt69 (y_st []) none (y_po yct69_0) [0] 100000 5000 [y_start 0 yct69_0] = true := by decide +kernel
theorem yc69_0 : y_Mca yG 69 yct69_0 := y_Mca_of (r := ev_r69) rfl (y_con (k := 0) (by decide) (fun hc0 _ => y_drv_ok (h0 := (yG, hc0)) y_i0_ok y_c0_ok yT69 (fun _ h1 h2 => y_po_ok h1 h2) yd69_0 _ (List.mem_singleton.mpr rfl)))
def yct69_1 : yCt := ([(2, Int.ofNat 9, Int.ofNat 9, false), (2, Int.ofNat 19, Int.ofNat 32, false)], none, [(19, 0, 17), (20, 0, 17), (21, 0, 17), (22, 0, 17), (23, 0, 17), (24, 0, 17), (25, 0, 17), (26, 0, 17), (27, 0, 17), (28, 0, 17), (29, 0, 17), (30, 0, 17), (31, 0, 17), (32, 0, 17)])
set_option maxRecDepth 100000 in
theorem yd69_1 : y_drv yt69 (y_st []) none (y_po yct69_1) [0] 100000 5000 [y_start 0 yct69_1] = true := by decide +kernel
theorem yc69_1 : y_Mca yG 69 yct69_1 := y_Mca_of (r := ev_r69) rfl (y_con (k := 0) (by decide) (fun hc0 _ => y_drv_ok (h0 := (yG, hc0)) y_i0_ok y_c0_ok yT69 (fun _ h1 h2 => y_po_ok h1 h2) yd69_1 _ (List.mem_singleton.mpr rfl)))
noncomputable def ycs69 : List yCt := [yct69_0, yct69_1]
theorem yCs69 : ∀ ct ∈ ycs69, y_Mca yG 69 ct := (y_l1 yc69_0 (y_l1 yc69_1 y_l0))
/-- NameHall$ActRow.remember(LNameHall$Scene;)V -/
noncomputable def yt70 : List (Nat × yB) := [(0, fun ih => yo_lda 1 (yo_lda 0 (yo_gf yG 0 0 (yo_lda 0 (yo_gf yG 0 1 (yo_lda 0 (yo_gf yG 0 2 (yo_bin 0 0 yg_add (yo_push (0, 0, Int.ofNat 14) (yo_cts yG ycs68 0 2 3 0 0 0 0 (yo_aa yG (yo_cts yG ycs69 7 1 2 0 0 0 0 (yo_lda 0 (yo_gf yG 0 2 (yo_push (0, 0, Int.ofNat 14) (yo_ic .ge (ih 45) (yo_lda 0 (yo_dup (yo_gf yG 0 2 (yo_push (0, 0, Int.ofNat 1) (yo_bin 0 0 yg_add (yo_pf yG 0 2 0 (ih 60))))))))))))))))))))))),
  (45, fun ih => yo_lda 0 (yo_lda 0 (yo_gf yG 0 1 (yo_push (0, 0, Int.ofNat 1) (yo_bin 0 0 yg_add (yo_push (0, 0, Int.ofNat 14) (yo_cts yG ycs68 0 2 3 0 0 0 0 (yo_pf yG 0 1 0 (ih 60))))))))),
  (60, fun ih => yo_rv 0)]
set_option maxRecDepth 100000 in
theorem yT70 : y_T yG none y_i0 (y_cc 68 ycs68 (y_cc 69 ycs69 y_c0)) ev_r70.1 (fun _ => none) yt70 := (y_T_cons 23 rfl (y_T_cons 8 rfl (y_T_cons 1 rfl y_T_nil)))
def yct70_0 : yCt := ([(2, Int.ofNat 17, Int.ofNat 17, false), (2, Int.ofNat 9, Int.ofNat 9, false)], none, [(17, 1, 2), (19, 0, 17), (20, 0, 17), (21, 0, 17), (22, 0, 17), (23, 0, 17), (24, 0, 17), (25, 0, 17), (26, 0, 17), (27, 0, 17), (28, 0, 17), (29, 0, 17), (30, 0, 17), (31, 0, 17), (32, 0, 17)])
set_option maxRecDepth 100000 in
theorem yd70_0 : y_drv yt70 (y_st []) none (y_po yct70_0) [0] 100000 5000 [y_start 0 yct70_0] = true := by decide +kernel
theorem yc70_0 : y_Mca yG 70 yct70_0 := y_Mca_of (r := ev_r70) rfl (y_con (k := 0) (by decide) (fun hc0 _ => y_drv_ok (h0 := (yG, hc0)) y_i0_ok (y_cc_ok yCs68 (y_cc_ok yCs69 y_c0_ok)) yT70 (fun _ h1 h2 => y_po_ok h1 h2) yd70_0 _ (List.mem_singleton.mpr rfl)))
noncomputable def ycs70 : List yCt := [yct70_0]
theorem yCs70 : ∀ ct ∈ ycs70, y_Mca yG 70 ct := (y_l1 yc70_0 y_l0)
/-- NameHall$Scene.putOn(II)V -/
noncomputable def yt71 : List (Nat × yB) := [(0, fun ih => yo_lda 0 (yo_gf yG 6 0 (yo_ld 0 1 (yo_cl yG ym49 5 1 2 0 0 0 0 (yo_if .eq (ih 25) (yo_lda 0 (yo_gf yG 6 1 (yo_ld 0 1 (yo_ld 0 2 (yo_as yG 0 (yo_lda 0 (yo_gf yG 6 2 (yo_ld 0 1 (yo_push (0, 0, Int.ofNat 0) (yo_as yG 0 (ih 25)))))))))))))))),
  (25, fun ih => yo_rv 0)]
set_option maxRecDepth 100000 in
theorem yT71 : y_T yG none (y_ic 49 ym49 y_i0) y_c0 ev_r71.1 (fun _ => none) yt71 := (y_T_cons 15 rfl (y_T_cons 1 rfl y_T_nil))
def yct71_0 : yCt := ([(2, Int.ofNat 9, Int.ofNat 9, false), (0, Int.negSucc 2147483647, Int.ofNat 2147483647, false), (0, Int.negSucc 2147483647, Int.ofNat 2147483647, false)], none, [(10, 0, 4), (11, 0, 4)])
set_option maxRecDepth 100000 in
theorem yd71_0 : y_drv yt71 (y_st []) none (y_po yct71_0) [0] 100000 5000 [y_start 0 yct71_0] = true := by decide +kernel
theorem yc71_0 : y_Mca yG 71 yct71_0 := y_Mca_of (r := ev_r71) rfl (y_con (k := 0) (by decide) (fun hc0 _ => y_drv_ok (h0 := (yG, hc0)) (y_ic_ok (yM49 hc0) y_i0_ok) y_c0_ok yT71 (fun _ h1 h2 => y_po_ok h1 h2) yd71_0 _ (List.mem_singleton.mpr rfl)))
def yct71_1 : yCt := ([(2, Int.ofNat 13, Int.ofNat 13, false), (0, Int.negSucc 2147483647, Int.ofNat 2147483647, false), (0, Int.negSucc 2147483647, Int.ofNat 2147483647, false)], none, [(14, 0, 4), (15, 0, 4)])
set_option maxRecDepth 100000 in
theorem yd71_1 : y_drv yt71 (y_st []) none (y_po yct71_1) [0] 100000 5000 [y_start 0 yct71_1] = true := by decide +kernel
theorem yc71_1 : y_Mca yG 71 yct71_1 := y_Mca_of (r := ev_r71) rfl (y_con (k := 0) (by decide) (fun hc0 _ => y_drv_ok (h0 := (yG, hc0)) (y_ic_ok (yM49 hc0) y_i0_ok) y_c0_ok yT71 (fun _ h1 h2 => y_po_ok h1 h2) yd71_1 _ (List.mem_singleton.mpr rfl)))
noncomputable def ycs71 : List yCt := [yct71_0, yct71_1]
theorem yCs71 : ∀ ct ∈ ycs71, y_Mca yG 71 ct := (y_l1 yc71_0 (y_l1 yc71_1 y_l0))
/-- NameHall.take(II)I -/
noncomputable def yt72 : List (Nat × yB) := [(0, fun ih => yo_lda 0 (yo_gf yG 9 1 (yo_ld 0 1 (yo_cl yG ym49 5 1 2 0 0 0 0 (yo_if .eq (ih 22) (yo_lda 0 (yo_gf yG 9 1 (yo_ld 0 2 (yo_cl yG ym40 5 1 2 0 0 0 0 (yo_if .ne (ih 24) (ih 22))))))))))),
  (22, fun ih => yo_push (0, 0, Int.negSucc 0) (yo_ri 1)),
  (24, fun ih => yo_lda 0 (yo_gf yG 9 2 (yo_ld 0 1 (yo_ld 0 2 (yo_cl yG ym67 7 2 3 0 0 0 0 (yo_if .ne (ih 39) (yo_push (0, 0, Int.negSucc 2) (yo_ri 1)))))))),
  (39, fun ih => yo_lda 0 (yo_gf yG 9 4 (yo_lda 0 (yo_gf yG 9 2 (yo_cts yG ycs70 1 1 2 0 0 0 0 (yo_lda 0 (yo_gf yG 9 2 (yo_ld 0 1 (yo_ld 0 2 (yo_cts yG ycs71 7 2 3 0 0 0 0 (yo_lda 0 (yo_gf yG 9 2 (yo_ld 0 2 (yo_cts yG ycs43 7 1 4 0 0 0 0 (yo_cts yG ycs65 0 1 1 0 0 0 0 (yo_ri 1))))))))))))))))]
set_option maxRecDepth 100000 in
theorem yT72 : y_T yG none (y_ic 49 ym49 (y_ic 40 ym40 (y_ic 67 ym67 y_i0))) (y_cc 70 ycs70 (y_cc 71 ycs71 (y_cc 43 ycs43 (y_cc 65 ycs65 y_c0)))) ev_r72.1 (fun _ => none) yt72 := (y_T_cons 10 rfl (y_T_cons 2 rfl (y_T_cons 8 rfl (y_T_cons 16 rfl y_T_nil))))
def yct72_0 : yCt := ([(2, Int.ofNat 0, Int.ofNat 0, false), (0, Int.negSucc 2147483647, Int.ofNat 2147483647, false), (0, Int.negSucc 2147483647, Int.ofNat 2147483647, false)], (some (0, Int.negSucc 2, Int.ofNat 63, false)), [(10, 0, 4), (11, 0, 4), (17, 1, 2), (19, 0, 17), (20, 0, 17), (21, 0, 17), (22, 0, 17), (23, 0, 17), (24, 0, 17), (25, 0, 17), (26, 0, 17), (27, 0, 17), (28, 0, 17), (29, 0, 17), (30, 0, 17), (31, 0, 17), (32, 0, 17)])
set_option maxRecDepth 100000 in
theorem yd72_0 : y_drv yt72 (y_st []) none (y_po yct72_0) [0] 100000 5000 [y_start 0 yct72_0] = true := by decide +kernel
theorem yc72_0 : y_Mca yG 72 yct72_0 := y_Mca_of (r := ev_r72) rfl (y_con (k := 0) (by decide) (fun hc0 _ => y_drv_ok (h0 := (yG, hc0)) (y_ic_ok (yM49 hc0) (y_ic_ok (yM40 hc0) (y_ic_ok (yM67 hc0) y_i0_ok))) (y_cc_ok yCs70 (y_cc_ok yCs71 (y_cc_ok yCs43 (y_cc_ok yCs65 y_c0_ok)))) yT72 (fun _ h1 h2 => y_po_ok h1 h2) yd72_0 _ (List.mem_singleton.mpr rfl)))
noncomputable def ycs72 : List yCt := [yct72_0]
theorem yCs72 : ∀ ct ∈ ycs72, y_Mca yG 72 ct := (y_l1 yc72_0 y_l0)
/-- NameHallModel.has(II)Z -/
noncomputable def yt73 : List (Nat × yB) := [(0, fun ih => yo_ld 0 0 (yo_ld 0 1 (yo_bin 0 0 (xg_i x_ishr xg_ti) (yo_push (0, 0, Int.ofNat 1) (yo_bin 0 0 (xg_i (· &&& ·) xg_and) (yo_push (0, 0, Int.ofNat 1) (yo_ic .ne (ih 13) (yo_push (0, 0, Int.ofNat 1) (ih 14))))))))),
  (13, fun ih => yo_push (0, 0, Int.ofNat 0) (ih 14)),
  (14, fun ih => yo_ri 2)]
set_option maxRecDepth 100000 in
theorem yT73 : y_T yG none y_i0 y_c0 ev_r73.1 (fun _ => none) yt73 := (y_T_cons 9 rfl (y_T_cons 1 rfl (y_T_cons 1 rfl y_T_nil)))
def yct73_0 : yCt := ([(0, Int.negSucc 2147483647, Int.ofNat 2147483647, false), (0, Int.negSucc 2147483647, Int.ofNat 2147483647, false)], (some (0, Int.ofNat 0, Int.ofNat 1, false)), [])
set_option maxRecDepth 100000 in
theorem yd73_0 : y_drv yt73 (y_st []) none (y_po yct73_0) [0] 100000 5000 [y_start 0 yct73_0] = true := by decide +kernel
theorem yc73_0 : y_Mca yG 73 yct73_0 := y_Mca_of (r := ev_r73) rfl (y_con (k := 0) (by decide) (fun hc0 _ => y_drv_ok (h0 := (yG, hc0)) y_i0_ok y_c0_ok yT73 (fun _ h1 h2 => y_po_ok h1 h2) yd73_0 _ (List.mem_singleton.mpr rfl)))
noncomputable def ycs73 : List yCt := [yct73_0]
theorem yCs73 : ∀ ct ∈ ycs73, y_Mca yG 73 ct := (y_l1 yc73_0 y_l0)
/-- NameHallModel.isGone(II)Z -/
noncomputable def yt74 : List (Nat × yB) := [(0, fun ih => yo_lda 0 (yo_gf yG 10 7 (yo_push (0, 0, Int.ofNat 18) (yo_ld 0 1 (yo_bin 0 0 (xg_i (· * ·) yg_mul) (yo_push (0, 0, Int.ofNat 16) (yo_bin 0 0 yg_add (yo_al yG none 0 (yo_ld 0 2 (yo_cts yG ycs73 0 2 2 0 0 0 0 (yo_ri 2)))))))))))]
set_option maxRecDepth 100000 in
theorem yT74 : y_T yG none y_i0 (y_cc 73 ycs73 y_c0) ev_r74.1 (fun _ => none) yt74 := (y_T_cons 11 rfl y_T_nil)
def yct74_0 : yCt := ([(2, Int.ofNat 55, Int.ofNat 55, false), (0, Int.ofNat 0, Int.ofNat 0, false), (0, Int.ofNat 0, Int.ofNat 4, false)], (some (0, Int.ofNat 0, Int.ofNat 1, false)), [])
set_option maxRecDepth 100000 in
theorem yd74_0 : y_drv yt74 (y_st []) none (y_po yct74_0) [0] 100000 5000 [y_start 0 yct74_0] = true := by decide +kernel
theorem yc74_0 : y_Mca yG 74 yct74_0 := y_Mca_of (r := ev_r74) rfl (y_con (k := 0) (by decide) (fun hc0 _ => y_drv_ok (h0 := (yG, hc0)) y_i0_ok (y_cc_ok yCs73 y_c0_ok) yT74 (fun _ h1 h2 => y_po_ok h1 h2) yd74_0 _ (List.mem_singleton.mpr rfl)))
def yct74_1 : yCt := ([(2, Int.ofNat 55, Int.ofNat 55, false), (0, Int.ofNat 1, Int.ofNat 1, false), (0, Int.ofNat 0, Int.ofNat 4, false)], (some (0, Int.ofNat 0, Int.ofNat 1, false)), [])
set_option maxRecDepth 100000 in
theorem yd74_1 : y_drv yt74 (y_st []) none (y_po yct74_1) [0] 100000 5000 [y_start 0 yct74_1] = true := by decide +kernel
theorem yc74_1 : y_Mca yG 74 yct74_1 := y_Mca_of (r := ev_r74) rfl (y_con (k := 0) (by decide) (fun hc0 _ => y_drv_ok (h0 := (yG, hc0)) y_i0_ok (y_cc_ok yCs73 y_c0_ok) yT74 (fun _ h1 h2 => y_po_ok h1 h2) yd74_1 _ (List.mem_singleton.mpr rfl)))
noncomputable def ycs74 : List yCt := [yct74_0, yct74_1]
theorem yCs74 : ∀ ct ∈ ycs74, y_Mca yG 74 ct := (y_l1 yc74_0 (y_l1 yc74_1 y_l0))
/-- NameHallModel.ones(I)I -/
noncomputable def yt75 : List (Nat × yB) := [(0, fun ih => yo_push (0, 0, Int.ofNat 0) (yo_st 0 1 3 (yo_push (0, 0, Int.ofNat 0) (yo_st 0 2 3 (ih 4))))),
  (4, fun ih => yo_ld 0 2 (yo_push (0, 0, Int.ofNat 5) (yo_ic .ge (ih 23) (yo_ld 0 1 (yo_ld 0 0 (yo_ld 0 2 (yo_bin 0 0 (xg_i x_ishr xg_ti) (yo_push (0, 0, Int.ofNat 1) (yo_bin 0 0 (xg_i (· &&& ·) xg_and) (yo_bin 0 0 yg_add (yo_st 0 1 3 (yo_inc 2 3 (Int.ofNat 1) (ih 4))))))))))))),
  (23, fun ih => yo_ld 0 1 (yo_ri 1))]
set_option maxRecDepth 100000 in
theorem yT75 : y_T yG none y_i0 y_c0 ev_r75.1 (fun _ => none) yt75 := (y_T_cons 4 rfl (y_T_cons 13 rfl (y_T_cons 2 rfl y_T_nil)))
def yct75_0 : yCt := ([(0, Int.negSucc 2147483647, Int.ofNat 2147483647, false)], (some (0, Int.ofNat 0, Int.ofNat 5, false)), [])
set_option maxRecDepth 100000 in
theorem yd75_0 : y_drv yt75 (y_st [4]) none (y_po yct75_0) [0, 4] 100000 5000 [y_start 2 yct75_0] = true := by decide +kernel
theorem yc75_0 : y_Mca yG 75 yct75_0 := y_Mca_of (r := ev_r75) rfl (y_con (k := 2) (by decide) (fun hc0 _ => y_drv_ok (h0 := (yG, hc0)) y_i0_ok y_c0_ok yT75 (fun _ h1 h2 => y_po_ok h1 h2) yd75_0 _ (List.mem_singleton.mpr rfl)))
noncomputable def ycs75 : List yCt := [yct75_0]
theorem yCs75 : ∀ ct ∈ ycs75, y_Mca yG 75 ct := (y_l1 yc75_0 y_l0)
/-- NameHallModel.room(I)I -/
noncomputable def yt76 : List (Nat × yB) := [(0, fun ih => yo_lda 0 (yo_gf yG 10 2 (yo_ld 0 1 (yo_al yG none 0 (yo_push (0, 0, Int.ofNat 2) (yo_ic .ne (ih 14) (yo_push (0, 0, Int.ofNat 2) (ih 15)))))))),
  (14, fun ih => yo_push (0, 0, Int.ofNat 1) (ih 15)),
  (15, fun ih => yo_ri 1)]
set_option maxRecDepth 100000 in
theorem yT76 : y_T yG none y_i0 y_c0 ev_r76.1 (fun _ => none) yt76 := (y_T_cons 8 rfl (y_T_cons 1 rfl (y_T_cons 1 rfl y_T_nil)))
def yct76_0 : yCt := ([(2, Int.ofNat 55, Int.ofNat 55, false), (0, Int.ofNat 0, Int.ofNat 3, false)], (some (0, Int.ofNat 1, Int.ofNat 2, false)), [])
set_option maxRecDepth 100000 in
theorem yd76_0 : y_drv yt76 (y_st []) none (y_po yct76_0) [0] 100000 5000 [y_start 0 yct76_0] = true := by decide +kernel
theorem yc76_0 : y_Mca yG 76 yct76_0 := y_Mca_of (r := ev_r76) rfl (y_con (k := 0) (by decide) (fun hc0 _ => y_drv_ok (h0 := (yG, hc0)) y_i0_ok y_c0_ok yT76 (fun _ h1 h2 => y_po_ok h1 h2) yd76_0 _ (List.mem_singleton.mpr rfl)))
noncomputable def ycs76 : List yCt := [yct76_0]
theorem yCs76 : ∀ ct ∈ ycs76, y_Mca yG 76 ct := (y_l1 yc76_0 y_l0)
/-- NameHallModel.canTake(III)Z -/
noncomputable def yt77 : List (Nat × yB) := [(0, fun ih => yo_push (0, 0, Int.ofNat 18) (yo_ld 0 1 (yo_bin 0 0 (xg_i (· * ·) yg_mul) (yo_st 0 4 5 (yo_lda 0 (yo_ld 0 1 (yo_ld 0 2 (yo_cts yG ycs74 11 2 3 0 0 0 0 (yo_if .ne (ih 80) (yo_lda 0 (yo_gf yG 10 7 (yo_ld 0 4 (yo_ld 0 2 (yo_bin 0 0 yg_add (yo_al yG none 0 (yo_push (0, 0, Int.negSucc 8) (yo_ic .ne (ih 80) (yo_lda 0 (yo_gf yG 10 7 (yo_ld 0 4 (yo_push (0, 0, Int.ofNat 15) (yo_bin 0 0 yg_add (yo_al yG none 0 (yo_ld 0 3 (yo_cts yG ycs73 0 2 2 0 0 0 0 (yo_if .ne (ih 80) (yo_lda 0 (yo_gf yG 10 6 (yo_ld 0 2 (yo_al yG none 0 (yo_ld 0 3 (yo_cts yG ycs73 0 2 2 0 0 0 0 (yo_if .eq (ih 80) (yo_lda 0 (yo_ld 0 1 (yo_ld 0 3 (yo_cts yG ycs47 11 2 5 0 0 0 0 (yo_cts yG ycs75 0 1 3 0 0 0 0 (yo_lda 0 (yo_ld 0 3 (yo_cts yG ycs76 11 1 2 0 0 0 0 (yo_ic .ge (ih 80) (yo_push (0, 0, Int.ofNat 1) (ih 81)))))))))))))))))))))))))))))))))))))))))))),
  (80, fun ih => yo_push (0, 0, Int.ofNat 0) (ih 81)),
  (81, fun ih => yo_ri 2)]
set_option maxRecDepth 100000 in
theorem yT77 : y_T yG none y_i0 (y_cc 74 ycs74 (y_cc 73 ycs73 (y_cc 47 ycs47 (y_cc 75 ycs75 (y_cc 76 ycs76 y_c0))))) ev_r77.1 (fun _ => none) yt77 := (y_T_cons 44 rfl (y_T_cons 1 rfl (y_T_cons 1 rfl y_T_nil)))
def yct77_0 : yCt := ([(2, Int.ofNat 55, Int.ofNat 55, false), (0, Int.ofNat 0, Int.ofNat 0, false), (0, Int.ofNat 0, Int.ofNat 4, false), (0, Int.ofNat 0, Int.ofNat 3, false)], (some (0, Int.ofNat 0, Int.ofNat 1, false)), [])
set_option maxRecDepth 100000 in
theorem yd77_0 : y_drv yt77 (y_st []) none (y_po yct77_0) [0] 100000 5000 [y_start 1 yct77_0] = true := by decide +kernel
theorem yc77_0 : y_Mca yG 77 yct77_0 := y_Mca_of (r := ev_r77) rfl (y_con (k := 1) (by decide) (fun hc0 _ => y_drv_ok (h0 := (yG, hc0)) y_i0_ok (y_cc_ok yCs74 (y_cc_ok yCs73 (y_cc_ok yCs47 (y_cc_ok yCs75 (y_cc_ok yCs76 y_c0_ok))))) yT77 (fun _ h1 h2 => y_po_ok h1 h2) yd77_0 _ (List.mem_singleton.mpr rfl)))
def yct77_1 : yCt := ([(2, Int.ofNat 55, Int.ofNat 55, false), (0, Int.ofNat 1, Int.ofNat 1, false), (0, Int.ofNat 0, Int.ofNat 4, false), (0, Int.ofNat 0, Int.ofNat 3, false)], (some (0, Int.ofNat 0, Int.ofNat 1, false)), [])
set_option maxRecDepth 100000 in
theorem yd77_1 : y_drv yt77 (y_st []) none (y_po yct77_1) [0] 100000 5000 [y_start 1 yct77_1] = true := by decide +kernel
theorem yc77_1 : y_Mca yG 77 yct77_1 := y_Mca_of (r := ev_r77) rfl (y_con (k := 1) (by decide) (fun hc0 _ => y_drv_ok (h0 := (yG, hc0)) y_i0_ok (y_cc_ok yCs74 (y_cc_ok yCs73 (y_cc_ok yCs47 (y_cc_ok yCs75 (y_cc_ok yCs76 y_c0_ok))))) yT77 (fun _ h1 h2 => y_po_ok h1 h2) yd77_1 _ (List.mem_singleton.mpr rfl)))
noncomputable def ycs77 : List yCt := [yct77_0, yct77_1]
theorem yCs77 : ∀ ct ∈ ycs77, y_Mca yG 77 ct := (y_l1 yc77_0 (y_l1 yc77_1 y_l0))
/-- NameHallModel.keepAct()V -/
noncomputable def yt78 : List (Nat × yB) := [(0, fun ih => yo_push (0, 0, Int.ofNat 0) (yo_st 0 1 2 (ih 2))),
  (2, fun ih => yo_ld 0 1 (yo_push (0, 0, Int.ofNat 18) (yo_ic .ge (ih 34) (yo_lda 0 (yo_gf yG 10 18 (yo_push (0, 0, Int.ofNat 18) (yo_lda 0 (yo_gf yG 10 17 (yo_bin 0 0 (xg_i (· * ·) yg_mul) (yo_ld 0 1 (yo_bin 0 0 yg_add (yo_lda 0 (yo_gf yG 10 7 (yo_ld 0 1 (yo_al yG none 0 (yo_as yG 0 (yo_inc 1 2 (Int.ofNat 1) (ih 2)))))))))))))))))),
  (34, fun ih => yo_lda 0 (yo_lda 0 (yo_gf yG 10 17 (yo_push (0, 0, Int.ofNat 1) (yo_bin 0 0 yg_add (yo_push (0, 0, Int.ofNat 14) (yo_dv 1 yg_rem (yo_pf yG 10 17 0 (yo_lda 0 (yo_lda 0 (yo_gf yG 10 16 (yo_push (0, 0, Int.ofNat 14) (yo_ic .ge (ih 66) (yo_lda 0 (yo_gf yG 10 16 (yo_push (0, 0, Int.ofNat 1) (yo_bin 0 0 yg_add (ih 68)))))))))))))))))),
  (66, fun ih => yo_push (0, 0, Int.ofNat 14) (ih 68)),
  (68, fun ih => yo_pf yG 10 16 0 (yo_rv 0))]
set_option maxRecDepth 100000 in
theorem yT78 : y_T yG none y_i0 y_c0 ev_r78.1 (fun _ => none) yt78 := (y_T_cons 2 rfl (y_T_cons 18 rfl (y_T_cons 18 rfl (y_T_cons 1 rfl (y_T_cons 2 rfl y_T_nil)))))
def yct78_0 : yCt := ([(2, Int.ofNat 55, Int.ofNat 55, false)], none, [(55, 16, 17), (65, 0, 251)])
set_option maxRecDepth 100000 in
theorem yd78_0 : y_all (fun x1 => y_drv yt78 (y_st [2]) none (y_po yct78_0) [0, 2] 100000 5000 [x1]) (y_spl 55 17 0 (y_start 1 yct78_0) (Int.ofNat 0) 13) = true := by decide +kernel
theorem yc78_0 : y_Mca yG 78 yct78_0 := y_Mca_of (r := ev_r78) rfl (y_con (k := 1) (by decide) (fun hc0 _ => y_spl_ok rfl rfl rfl rfl (fun x1 m1 => have H1 := yd78_0; y_drv_ok (h0 := (yG, hc0)) y_i0_ok y_c0_ok yT78 (fun _ h1 h2 => y_po_ok h1 h2) (y_all_ok H1 x1 m1) _ (List.mem_singleton.mpr rfl))))
noncomputable def ycs78 : List yCt := [yct78_0]
theorem yCs78 : ∀ ct ∈ ycs78, y_Mca yG 78 ct := (y_l1 yc78_0 y_l0)
/-- NameHallModel.takeOn(III)V -/
noncomputable def yt79 : List (Nat × yB) := [(0, fun ih => yo_lda 0 (yo_gf yG 10 7 (yo_push (0, 0, Int.ofNat 18) (yo_ld 0 1 (yo_bin 0 0 (xg_i (· * ·) yg_mul) (yo_ld 0 2 (yo_bin 0 0 yg_add (yo_ld 0 3 (yo_as yG 0 (yo_lda 0 (yo_gf yG 10 7 (yo_push (0, 0, Int.ofNat 18) (yo_ld 0 1 (yo_bin 0 0 (xg_i (· * ·) yg_mul) (yo_push (0, 0, Int.ofNat 5) (yo_bin 0 0 yg_add (yo_ld 0 2 (yo_bin 0 0 yg_add (yo_push (0, 0, Int.ofNat 0) (yo_as yG 0 (yo_rv 0)))))))))))))))))))))]
set_option maxRecDepth 100000 in
theorem yT79 : y_T yG none y_i0 y_c0 ev_r79.1 (fun _ => none) yt79 := (y_T_cons 21 rfl y_T_nil)
def yct79_0 : yCt := ([(2, Int.ofNat 55, Int.ofNat 55, false), (0, Int.ofNat 0, Int.ofNat 0, false), (0, Int.ofNat 0, Int.ofNat 4, false), (0, Int.ofNat 0, Int.ofNat 3, true)], none, [(61, 0, 9)])
set_option maxRecDepth 100000 in
theorem yd79_0 : y_drv yt79 (y_st []) none (y_po yct79_0) [0] 100000 5000 [y_start 0 yct79_0] = true := by decide +kernel
theorem yc79_0 : y_Mca yG 79 yct79_0 := y_Mca_of (r := ev_r79) rfl (y_con (k := 0) (by decide) (fun hc0 _ => y_drv_ok (h0 := (yG, hc0)) y_i0_ok y_c0_ok yT79 (fun _ h1 h2 => y_po_ok h1 h2) yd79_0 _ (List.mem_singleton.mpr rfl)))
def yct79_1 : yCt := ([(2, Int.ofNat 55, Int.ofNat 55, false), (0, Int.ofNat 1, Int.ofNat 1, false), (0, Int.ofNat 0, Int.ofNat 4, false), (0, Int.ofNat 0, Int.ofNat 3, true)], none, [(61, 18, 27)])
set_option maxRecDepth 100000 in
theorem yd79_1 : y_drv yt79 (y_st []) none (y_po yct79_1) [0] 100000 5000 [y_start 0 yct79_1] = true := by decide +kernel
theorem yc79_1 : y_Mca yG 79 yct79_1 := y_Mca_of (r := ev_r79) rfl (y_con (k := 0) (by decide) (fun hc0 _ => y_drv_ok (h0 := (yG, hc0)) y_i0_ok y_c0_ok yT79 (fun _ h1 h2 => y_po_ok h1 h2) yd79_1 _ (List.mem_singleton.mpr rfl)))
noncomputable def ycs79 : List yCt := [yct79_0, yct79_1]
theorem yCs79 : ∀ ct ∈ ycs79, y_Mca yG 79 ct := (y_l1 yc79_0 (y_l1 yc79_1 y_l0))
/-- NameHallModel.take(II)I -/
noncomputable def yt80 : List (Nat × yB) := [(0, fun ih => yo_lda 0 (yo_ld 0 1 (yo_cl yG ym61 11 1 2 0 0 0 0 (yo_if .eq (ih 16) (yo_lda 0 (yo_ld 0 2 (yo_cl yG ym46 11 1 2 0 0 0 0 (yo_if .ne (ih 18) (ih 16))))))))),
  (16, fun ih => yo_push (0, 0, Int.negSucc 0) (yo_ri 1)),
  (18, fun ih => yo_lda 0 (yo_push (0, 0, Int.ofNat 0) (yo_ld 0 1 (yo_ld 0 2 (yo_cts yG ycs77 11 3 5 0 0 0 0 (yo_if .ne (ih 31) (yo_push (0, 0, Int.negSucc 2) (yo_ri 1)))))))),
  (31, fun ih => yo_lda 0 (yo_cts yG ycs78 11 0 2 0 0 0 0 (yo_lda 0 (yo_push (0, 0, Int.ofNat 0) (yo_ld 0 1 (yo_ld 0 2 (yo_cts yG ycs79 11 3 4 0 0 0 0 (yo_lda 0 (yo_push (0, 0, Int.ofNat 0) (yo_ld 0 2 (yo_cts yG ycs47 11 2 5 0 0 0 0 (yo_cts yG ycs75 0 1 3 0 0 0 0 (yo_ri 1)))))))))))))]
set_option maxRecDepth 100000 in
theorem yT80 : y_T yG none (y_ic 61 ym61 (y_ic 46 ym46 y_i0)) (y_cc 77 ycs77 (y_cc 78 ycs78 (y_cc 79 ycs79 (y_cc 47 ycs47 (y_cc 75 ycs75 y_c0))))) ev_r80.1 (fun _ => none) yt80 := (y_T_cons 8 rfl (y_T_cons 2 rfl (y_T_cons 8 rfl (y_T_cons 13 rfl y_T_nil))))
def yct80_0 : yCt := ([(2, Int.ofNat 55, Int.ofNat 55, false), (0, Int.negSucc 2147483647, Int.ofNat 2147483647, false), (0, Int.negSucc 2147483647, Int.ofNat 2147483647, false)], (some (0, Int.negSucc 2, Int.ofNat 5, false)), [(55, 16, 17), (61, 0, 9), (65, 0, 251)])
set_option maxRecDepth 100000 in
theorem yd80_0 : y_drv yt80 (y_st []) none (y_po yct80_0) [0] 100000 5000 [y_start 0 yct80_0] = true := by decide +kernel
theorem yc80_0 : y_Mca yG 80 yct80_0 := y_Mca_of (r := ev_r80) rfl (y_con (k := 0) (by decide) (fun hc0 _ => y_drv_ok (h0 := (yG, hc0)) (y_ic_ok (yM61 hc0) (y_ic_ok (yM46 hc0) y_i0_ok)) (y_cc_ok yCs77 (y_cc_ok yCs78 (y_cc_ok yCs79 (y_cc_ok yCs47 (y_cc_ok yCs75 y_c0_ok))))) yT80 (fun _ h1 h2 => y_po_ok h1 h2) yd80_0 _ (List.mem_singleton.mpr rfl)))
noncomputable def ycs80 : List yCt := [yct80_0]
theorem yCs80 : ∀ ct ∈ ycs80, y_Mca yG 80 ct := (y_l1 yc80_0 y_l0)
/-- NameHall$Scene.takeOff(I)V -/
noncomputable def yt81 : List (Nat × yB) := [(0, fun ih => yo_lda 0 (yo_ld 0 1 (yo_push (0, 0, Int.negSucc 8) (yo_cts yG ycs71 7 2 3 0 0 0 0 (yo_rv 0)))))]
set_option maxRecDepth 100000 in
theorem yT81 : y_T yG none y_i0 (y_cc 71 ycs71 y_c0) ev_r81.1 (fun _ => none) yt81 := (y_T_cons 5 rfl y_T_nil)
def yct81_0 : yCt := ([(2, Int.ofNat 9, Int.ofNat 9, false), (0, Int.negSucc 2147483647, Int.ofNat 2147483647, false)], none, [(10, 0, 4), (11, 0, 4)])
set_option maxRecDepth 100000 in
theorem yd81_0 : y_drv yt81 (y_st []) none (y_po yct81_0) [0] 100000 5000 [y_start 0 yct81_0] = true := by decide +kernel
theorem yc81_0 : y_Mca yG 81 yct81_0 := y_Mca_of (r := ev_r81) rfl (y_con (k := 0) (by decide) (fun hc0 _ => y_drv_ok (h0 := (yG, hc0)) y_i0_ok (y_cc_ok yCs71 y_c0_ok) yT81 (fun _ h1 h2 => y_po_ok h1 h2) yd81_0 _ (List.mem_singleton.mpr rfl)))
def yct81_1 : yCt := ([(2, Int.ofNat 13, Int.ofNat 13, false), (0, Int.negSucc 2147483647, Int.ofNat 2147483647, false)], none, [(14, 0, 4), (15, 0, 4)])
set_option maxRecDepth 100000 in
theorem yd81_1 : y_drv yt81 (y_st []) none (y_po yct81_1) [0] 100000 5000 [y_start 0 yct81_1] = true := by decide +kernel
theorem yc81_1 : y_Mca yG 81 yct81_1 := y_Mca_of (r := ev_r81) rfl (y_con (k := 0) (by decide) (fun hc0 _ => y_drv_ok (h0 := (yG, hc0)) y_i0_ok (y_cc_ok yCs71 y_c0_ok) yT81 (fun _ h1 h2 => y_po_ok h1 h2) yd81_1 _ (List.mem_singleton.mpr rfl)))
noncomputable def ycs81 : List yCt := [yct81_0, yct81_1]
theorem yCs81 : ∀ ct ∈ ycs81, y_Mca yG 81 ct := (y_l1 yc81_0 (y_l1 yc81_1 y_l0))
/-- NameHall.hang(I)I -/
noncomputable def yt82 : List (Nat × yB) := [(0, fun ih => yo_lda 0 (yo_gf yG 9 1 (yo_ld 0 1 (yo_cl yG ym49 5 1 2 0 0 0 0 (yo_if .ne (ih 13) (yo_push (0, 0, Int.negSucc 0) (yo_ri 1))))))),
  (13, fun ih => yo_lda 0 (yo_gf yG 9 2 (yo_ld 0 1 (yo_cl yG ym53 7 1 2 0 0 0 0 (yo_st 0 2 3 (yo_ld 0 2 (yo_push (0, 0, Int.negSucc 8) (yo_ic .ne (ih 31) (yo_push (0, 0, Int.negSucc 2) (yo_ri 1)))))))))),
  (31, fun ih => yo_lda 0 (yo_gf yG 9 4 (yo_lda 0 (yo_gf yG 9 2 (yo_cts yG ycs70 1 1 2 0 0 0 0 (yo_lda 0 (yo_gf yG 9 2 (yo_ld 0 1 (yo_cts yG ycs81 7 1 2 0 0 0 0 (yo_ld 0 2 (yo_ri 1)))))))))))]
set_option maxRecDepth 100000 in
theorem yT82 : y_T yG none (y_ic 49 ym49 (y_ic 53 ym53 y_i0)) (y_cc 70 ycs70 (y_cc 81 ycs81 y_c0)) ev_r82.1 (fun _ => none) yt82 := (y_T_cons 7 rfl (y_T_cons 10 rfl (y_T_cons 11 rfl y_T_nil)))
def yct82_0 : yCt := ([(2, Int.ofNat 0, Int.ofNat 0, false), (0, Int.negSucc 2147483647, Int.ofNat 2147483647, false)], (some (0, Int.negSucc 2147483647, Int.ofNat 2147483647, false)), [(10, 0, 4), (11, 0, 4), (17, 1, 2), (19, 0, 17), (20, 0, 17), (21, 0, 17), (22, 0, 17), (23, 0, 17), (24, 0, 17), (25, 0, 17), (26, 0, 17), (27, 0, 17), (28, 0, 17), (29, 0, 17), (30, 0, 17), (31, 0, 17), (32, 0, 17)])
set_option maxRecDepth 100000 in
theorem yd82_0 : y_drv yt82 (y_st []) none (y_po yct82_0) [0] 100000 5000 [y_start 1 yct82_0] = true := by decide +kernel
theorem yc82_0 : y_Mca yG 82 yct82_0 := y_Mca_of (r := ev_r82) rfl (y_con (k := 1) (by decide) (fun hc0 _ => y_drv_ok (h0 := (yG, hc0)) (y_ic_ok (yM49 hc0) (y_ic_ok (yM53 hc0) y_i0_ok)) (y_cc_ok yCs70 (y_cc_ok yCs81 y_c0_ok)) yT82 (fun _ h1 h2 => y_po_ok h1 h2) yd82_0 _ (List.mem_singleton.mpr rfl)))
noncomputable def ycs82 : List yCt := [yct82_0]
theorem yCs82 : ∀ ct ∈ ycs82, y_Mca yG 82 ct := (y_l1 yc82_0 y_l0)
/-- NameHallModel.hang(I)I -/
noncomputable def yt83 : List (Nat × yB) := [(0, fun ih => yo_lda 0 (yo_ld 0 1 (yo_cl yG ym61 11 1 2 0 0 0 0 (yo_if .ne (ih 10) (yo_push (0, 0, Int.negSucc 0) (yo_ri 1)))))),
  (10, fun ih => yo_lda 0 (yo_gf yG 10 7 (yo_ld 0 1 (yo_al yG none 0 (yo_push (0, 0, Int.negSucc 8) (yo_ic .ne (ih 24) (yo_push (0, 0, Int.negSucc 2) (yo_ri 1)))))))),
  (24, fun ih => yo_lda 0 (yo_cts yG ycs78 11 0 2 0 0 0 0 (yo_lda 0 (yo_gf yG 10 7 (yo_ld 0 1 (yo_al yG none 0 (yo_st 0 2 3 (yo_lda 0 (yo_push (0, 0, Int.ofNat 0) (yo_ld 0 1 (yo_push (0, 0, Int.negSucc 8) (yo_cts yG ycs79 11 3 4 0 0 0 0 (yo_ld 0 2 (yo_ri 1))))))))))))))]
set_option maxRecDepth 100000 in
theorem yT83 : y_T yG none (y_ic 61 ym61 y_i0) (y_cc 78 ycs78 (y_cc 79 ycs79 y_c0)) ev_r83.1 (fun _ => none) yt83 := (y_T_cons 6 rfl (y_T_cons 8 rfl (y_T_cons 14 rfl y_T_nil)))
def yct83_0 : yCt := ([(2, Int.ofNat 55, Int.ofNat 55, false), (0, Int.negSucc 2147483647, Int.ofNat 2147483647, false)], (some (0, Int.negSucc 2, Int.ofNat 3, true)), [(55, 16, 17), (61, 0, 9), (65, 0, 251)])
set_option maxRecDepth 100000 in
theorem yd83_0 : y_drv yt83 (y_st []) none (y_po yct83_0) [0] 100000 5000 [y_start 1 yct83_0] = true := by decide +kernel
theorem yc83_0 : y_Mca yG 83 yct83_0 := y_Mca_of (r := ev_r83) rfl (y_con (k := 1) (by decide) (fun hc0 _ => y_drv_ok (h0 := (yG, hc0)) (y_ic_ok (yM61 hc0) y_i0_ok) (y_cc_ok yCs78 (y_cc_ok yCs79 y_c0_ok)) yT83 (fun _ h1 h2 => y_po_ok h1 h2) yd83_0 _ (List.mem_singleton.mpr rfl)))
noncomputable def ycs83 : List yCt := [yct83_0]
theorem yCs83 : ∀ ct ∈ ycs83, y_Mca yG 83 ct := (y_l1 yc83_0 y_l0)
/-- NameHall$Plan.needsAt(II)Z -/
noncomputable def yt84 : List (Nat × yB) := [(0, fun ih => yo_lda 0 (yo_ld 0 1 (yo_cl yG ym49 5 1 2 0 0 0 0 (yo_if .eq (ih 32) (yo_ld 0 2 (yo_lda 0 (yo_gf yG 4 2 (yo_ld 0 1 (yo_al yG none 0 (yo_ic .lt (ih 32) (yo_ld 0 2 (yo_lda 0 (yo_gf yG 4 3 (yo_ld 0 1 (yo_al yG none 0 (yo_ic .gt (ih 32) (yo_push (0, 0, Int.ofNat 1) (ih 33)))))))))))))))))),
  (32, fun ih => yo_push (0, 0, Int.ofNat 0) (ih 33)),
  (33, fun ih => yo_ri 2)]
set_option maxRecDepth 100000 in
theorem yT84 : y_T yG none (y_ic 49 ym49 y_i0) y_c0 ev_r84.1 (fun _ => none) yt84 := (y_T_cons 18 rfl (y_T_cons 1 rfl (y_T_cons 1 rfl y_T_nil)))
noncomputable def ym84 : List xv → yH → xE → yR := y_mth 0 yt84 100000
theorem yM84 (hc0 : ev_H) : y_Ma (yG, hc0) 84 ym84 := y_Ma_of (r := ev_r84) rfl (ys_mth (h0 := (yG, hc0)) (y_ic_ok (yM49 hc0) y_i0_ok) y_c0_ok yT84)
/-- NameHall$Scene.needsAt(II)Z -/
noncomputable def yt85 : List (Nat × yB) := [(0, fun ih => yo_lda 0 (yo_gf yG 6 0 (yo_ld 0 1 (yo_ld 0 2 (yo_cl yG ym84 5 2 3 0 0 0 0 (yo_if .eq (ih 24) (yo_lda 0 (yo_ld 0 1 (yo_cl yG ym59 7 1 2 0 0 0 0 (yo_if .ne (ih 24) (yo_push (0, 0, Int.ofNat 1) (ih 25)))))))))))),
  (24, fun ih => yo_push (0, 0, Int.ofNat 0) (ih 25)),
  (25, fun ih => yo_ri 2)]
set_option maxRecDepth 100000 in
theorem yT85 : y_T yG none (y_ic 84 ym84 (y_ic 59 ym59 y_i0)) y_c0 ev_r85.1 (fun _ => none) yt85 := (y_T_cons 12 rfl (y_T_cons 1 rfl (y_T_cons 1 rfl y_T_nil)))
noncomputable def ym85 : List xv → yH → xE → yR := y_mth 0 yt85 100000
theorem yM85 (hc0 : ev_H) : y_Ma (yG, hc0) 85 ym85 := y_Ma_of (r := ev_r85) rfl (ys_mth (h0 := (yG, hc0)) (y_ic_ok (yM84 hc0) (y_ic_ok (yM59 hc0) y_i0_ok)) y_c0_ok yT85)
/-- NameHall$Scene.needingAt(I)I -/
noncomputable def yt86 : List (Nat × yB) := [(0, fun ih => yo_push (0, 0, Int.ofNat 0) (yo_st 0 2 4 (yo_push (0, 0, Int.ofNat 0) (yo_st 0 3 4 (ih 4))))),
  (4, fun ih => yo_ld 0 3 (yo_push (0, 0, Int.ofNat 5) (yo_ic .ge (ih 30) (yo_lda 0 (yo_ld 0 3 (yo_ld 0 1 (yo_cl yG ym85 7 2 3 0 0 0 0 (yo_if .eq (ih 24) (yo_ld 0 2 (yo_push (0, 0, Int.ofNat 1) (yo_ld 0 3 (yo_bin 0 0 (xg_i x_ishl (yg_en x_ishl)) (yo_bin 0 0 (xg_i (· ||| ·) yg_bit) (yo_st 0 2 4 (ih 24))))))))))))))),
  (24, fun ih => yo_inc 3 4 (Int.ofNat 1) (ih 4)),
  (30, fun ih => yo_ld 0 2 (yo_ri 1))]
set_option maxRecDepth 100000 in
theorem yT86 : y_T yG none (y_ic 85 ym85 y_i0) y_c0 ev_r86.1 (fun _ => none) yt86 := (y_T_cons 4 rfl (y_T_cons 14 rfl (y_T_cons 2 rfl (y_T_cons 2 rfl y_T_nil))))
def yct86_0 : yCt := ([(2, Int.ofNat 9, Int.ofNat 9, false), (0, Int.negSucc 2147483647, Int.ofNat 2147483647, false)], (some (0, Int.ofNat 0, Int.ofNat 31, false)), [])
set_option maxRecDepth 100000 in
theorem yd86_0 : y_drv yt86 (y_st [4]) none (y_po yct86_0) [0, 4] 100000 5000 [y_start 2 yct86_0] = true := by decide +kernel
theorem yc86_0 : y_Mca yG 86 yct86_0 := y_Mca_of (r := ev_r86) rfl (y_con (k := 2) (by decide) (fun hc0 _ => y_drv_ok (h0 := (yG, hc0)) (y_ic_ok (yM85 hc0) y_i0_ok) y_c0_ok yT86 (fun _ h1 h2 => y_po_ok h1 h2) yd86_0 _ (List.mem_singleton.mpr rfl)))
def yct86_1 : yCt := ([(2, Int.ofNat 13, Int.ofNat 13, false), (0, Int.negSucc 2147483647, Int.ofNat 2147483647, false)], (some (0, Int.ofNat 0, Int.ofNat 31, false)), [])
set_option maxRecDepth 100000 in
theorem yd86_1 : y_drv yt86 (y_st [4]) none (y_po yct86_1) [0, 4] 100000 5000 [y_start 2 yct86_1] = true := by decide +kernel
theorem yc86_1 : y_Mca yG 86 yct86_1 := y_Mca_of (r := ev_r86) rfl (y_con (k := 2) (by decide) (fun hc0 _ => y_drv_ok (h0 := (yG, hc0)) (y_ic_ok (yM85 hc0) y_i0_ok) y_c0_ok yT86 (fun _ h1 h2 => y_po_ok h1 h2) yd86_1 _ (List.mem_singleton.mpr rfl)))
noncomputable def ycs86 : List yCt := [yct86_0, yct86_1]
theorem yCs86 : ∀ ct ∈ ycs86, y_Mca yG 86 ct := (y_l1 yc86_0 (y_l1 yc86_1 y_l0))
/-- NameHall$Scene.wearOn(I)V -/
noncomputable def yt87 : List (Nat × yB) := [(0, fun ih => yo_lda 0 (yo_ld 0 1 (yo_cl yG ym53 7 1 2 0 0 0 0 (yo_st 0 2 3 (yo_ld 0 2 (yo_push (0, 0, Int.negSucc 8) (yo_ic .ne (ih 13) (yo_rv 0)))))))),
  (13, fun ih => yo_lda 0 (yo_gf yG 6 2 (yo_ld 0 1 (yo_dup2 (yo_al yG none 0 (yo_push (0, 0, Int.ofNat 1) (yo_bin 0 0 yg_add (yo_as yG 0 (yo_lda 0 (yo_gf yG 6 0 (yo_ld 0 2 (yo_cts yG ycs41 5 1 2 0 0 0 0 (yo_push (0, 0, Int.ofNat 3) (yo_ic .ne (ih 50) (yo_lda 0 (yo_gf yG 6 2 (yo_ld 0 1 (yo_al yG none 0 (yo_push (0, 0, Int.ofNat 3) (yo_ic .lt (ih 50) (yo_lda 0 (yo_ld 0 1 (yo_cts yG ycs81 7 1 2 0 0 0 0 (ih 50)))))))))))))))))))))))),
  (50, fun ih => yo_rv 0)]
set_option maxRecDepth 100000 in
theorem yT87 : y_T yG none (y_ic 53 ym53 y_i0) (y_cc 41 ycs41 (y_cc 81 ycs81 y_c0)) ev_r87.1 (fun _ => none) yt87 := (y_T_cons 8 rfl (y_T_cons 23 rfl (y_T_cons 1 rfl y_T_nil)))
def yct87_0 : yCt := ([(2, Int.ofNat 9, Int.ofNat 9, false), (0, Int.negSucc 2147483647, Int.ofNat 2147483647, false)], none, [(10, 0, 4), (11, 0, 4)])
set_option maxRecDepth 100000 in
theorem yd87_0 : y_drv yt87 (y_st []) none (y_po yct87_0) [0] 100000 5000 [y_start 1 yct87_0] = true := by decide +kernel
theorem yc87_0 : y_Mca yG 87 yct87_0 := y_Mca_of (r := ev_r87) rfl (y_con (k := 1) (by decide) (fun hc0 _ => y_drv_ok (h0 := (yG, hc0)) (y_ic_ok (yM53 hc0) y_i0_ok) (y_cc_ok yCs41 (y_cc_ok yCs81 y_c0_ok)) yT87 (fun _ h1 h2 => y_po_ok h1 h2) yd87_0 _ (List.mem_singleton.mpr rfl)))
def yct87_1 : yCt := ([(2, Int.ofNat 13, Int.ofNat 13, false), (0, Int.negSucc 2147483647, Int.ofNat 2147483647, false)], none, [(14, 0, 4), (15, 0, 4)])
set_option maxRecDepth 100000 in
theorem yd87_1 : y_drv yt87 (y_st []) none (y_po yct87_1) [0] 100000 5000 [y_start 1 yct87_1] = true := by decide +kernel
theorem yc87_1 : y_Mca yG 87 yct87_1 := y_Mca_of (r := ev_r87) rfl (y_con (k := 1) (by decide) (fun hc0 _ => y_drv_ok (h0 := (yG, hc0)) (y_ic_ok (yM53 hc0) y_i0_ok) (y_cc_ok yCs41 (y_cc_ok yCs81 y_c0_ok)) yT87 (fun _ h1 h2 => y_po_ok h1 h2) yd87_1 _ (List.mem_singleton.mpr rfl)))
noncomputable def ycs87 : List yCt := [yct87_0, yct87_1]
theorem yCs87 : ∀ ct ∈ ycs87, y_Mca yG 87 ct := (y_l1 yc87_0 (y_l1 yc87_1 y_l0))
/-- NameHall$Scene.passHour()I -/
noncomputable def yt88 : List (Nat × yB) := [(0, fun ih => yo_lda 0 (yo_lda 0 (yo_gf yG 6 6 (yo_cts yG ycs86 7 1 4 0 0 0 0 (yo_lda 0 (yo_cts yG ycs57 7 0 5 0 0 0 0 (yo_push (0, 0, Int.negSucc 0) (yo_bin 0 0 (xg_i (· ^^^ ·) yg_bit) (yo_bin 0 0 (xg_i (· &&& ·) xg_and) (yo_st 0 1 3 (yo_push (0, 0, Int.ofNat 0) (yo_st 0 2 3 (ih 18))))))))))))),
  (18, fun ih => yo_ld 0 2 (yo_push (0, 0, Int.ofNat 5) (yo_ic .ge (ih 48) (yo_lda 0 (yo_gf yG 6 3 (yo_ld 0 2 (yo_dup2 (yo_al yG none 0 (yo_ld 0 1 (yo_ld 0 2 (yo_bin 0 0 (xg_i x_ishr xg_ti) (yo_push (0, 0, Int.ofNat 1) (yo_bin 0 0 (xg_i (· &&& ·) xg_and) (yo_bin 0 0 yg_add (yo_as yG 0 (yo_lda 0 (yo_ld 0 2 (yo_cts yG ycs87 7 1 3 0 0 0 0 (yo_inc 2 3 (Int.ofNat 1) (ih 18)))))))))))))))))))),
  (48, fun ih => yo_lda 0 (yo_dup (yo_gf yG 6 6 (yo_push (0, 0, Int.ofNat 1) (yo_bin 0 0 yg_add (yo_pf yG 6 6 0 (yo_ld 0 1 (yo_cts yG ycs65 0 1 1 0 0 0 0 (yo_ri 1)))))))))]
set_option maxRecDepth 100000 in
theorem yT88 : y_T yG none y_i0 (y_cc 86 ycs86 (y_cc 57 ycs57 (y_cc 87 ycs87 (y_cc 65 ycs65 y_c0)))) ev_r88.1 (fun _ => none) yt88 := (y_T_cons 12 rfl (y_T_cons 20 rfl (y_T_cons 9 rfl y_T_nil)))
def yct88_0 : yCt := ([(2, Int.ofNat 9, Int.ofNat 9, false)], (some (0, Int.ofNat 0, Int.ofNat 63, false)), [(9, 6, 6), (10, 0, 4), (11, 0, 4), (12, 0, 4)])
set_option maxRecDepth 100000 in
theorem yd88_0 : y_drv yt88 (y_st [18]) none (y_po yct88_0) [0, 18] 100000 5000 [y_start 2 yct88_0] = true := by decide +kernel
theorem yc88_0 : y_Mca yG 88 yct88_0 := y_Mca_of (r := ev_r88) rfl (y_con (k := 2) (by decide) (fun hc0 _ => y_drv_ok (h0 := (yG, hc0)) y_i0_ok (y_cc_ok yCs86 (y_cc_ok yCs57 (y_cc_ok yCs87 (y_cc_ok yCs65 y_c0_ok)))) yT88 (fun _ h1 h2 => y_po_ok h1 h2) yd88_0 _ (List.mem_singleton.mpr rfl)))
def yct88_1 : yCt := ([(2, Int.ofNat 13, Int.ofNat 13, false)], (some (0, Int.ofNat 0, Int.ofNat 63, false)), [(13, 6, 6), (14, 0, 4), (15, 0, 4), (16, 0, 4)])
set_option maxRecDepth 100000 in
theorem yd88_1 : y_drv yt88 (y_st [18]) none (y_po yct88_1) [0, 18] 100000 5000 [y_start 2 yct88_1] = true := by decide +kernel
theorem yc88_1 : y_Mca yG 88 yct88_1 := y_Mca_of (r := ev_r88) rfl (y_con (k := 2) (by decide) (fun hc0 _ => y_drv_ok (h0 := (yG, hc0)) y_i0_ok (y_cc_ok yCs86 (y_cc_ok yCs57 (y_cc_ok yCs87 (y_cc_ok yCs65 y_c0_ok)))) yT88 (fun _ h1 h2 => y_po_ok h1 h2) yd88_1 _ (List.mem_singleton.mpr rfl)))
noncomputable def ycs88 : List yCt := [yct88_0, yct88_1]
theorem yCs88 : ∀ ct ∈ ycs88, y_Mca yG 88 ct := (y_l1 yc88_0 (y_l1 yc88_1 y_l0))
/-- NameHall.hour()I -/
noncomputable def yt89 : List (Nat × yB) := [(0, fun ih => yo_lda 0 (yo_gf yG 9 4 (yo_lda 0 (yo_gf yG 9 2 (yo_cts yG ycs70 1 1 2 0 0 0 0 (yo_lda 0 (yo_gf yG 9 2 (yo_cts yG ycs88 7 0 3 0 0 0 0 (yo_ri 1)))))))))]
set_option maxRecDepth 100000 in
theorem yT89 : y_T yG none y_i0 (y_cc 70 ycs70 (y_cc 88 ycs88 y_c0)) ev_r89.1 (fun _ => none) yt89 := (y_T_cons 9 rfl y_T_nil)
def yct89_0 : yCt := ([(2, Int.ofNat 0, Int.ofNat 0, false)], (some (0, Int.ofNat 0, Int.ofNat 63, false)), [(9, 6, 6), (10, 0, 4), (11, 0, 4), (12, 0, 4), (17, 1, 2), (19, 0, 17), (20, 0, 17), (21, 0, 17), (22, 0, 17), (23, 0, 17), (24, 0, 17), (25, 0, 17), (26, 0, 17), (27, 0, 17), (28, 0, 17), (29, 0, 17), (30, 0, 17), (31, 0, 17), (32, 0, 17)])
set_option maxRecDepth 100000 in
theorem yd89_0 : y_drv yt89 (y_st []) none (y_po yct89_0) [0] 100000 5000 [y_start 0 yct89_0] = true := by decide +kernel
theorem yc89_0 : y_Mca yG 89 yct89_0 := y_Mca_of (r := ev_r89) rfl (y_con (k := 0) (by decide) (fun hc0 _ => y_drv_ok (h0 := (yG, hc0)) y_i0_ok (y_cc_ok yCs70 (y_cc_ok yCs88 y_c0_ok)) yT89 (fun _ h1 h2 => y_po_ok h1 h2) yd89_0 _ (List.mem_singleton.mpr rfl)))
noncomputable def ycs89 : List yCt := [yct89_0]
theorem yCs89 : ∀ ct ∈ ycs89, y_Mca yG 89 ct := (y_l1 yc89_0 y_l0)
/-- NameHallModel.needs(III)Z -/
noncomputable def yt90 : List (Nat × yB) := [(0, fun ih => yo_lda 0 (yo_ld 0 1 (yo_ld 0 2 (yo_cts yG ycs74 11 2 3 0 0 0 0 (yo_if .ne (ih 35) (yo_ld 0 3 (yo_un 0 xg_i2l (yo_lda 0 (yo_gf yG 10 4 (yo_ld 0 2 (yo_al yG none 0 (yo_un 0 xg_i2l (yo_lda 0 (yo_gf yG 10 5 (yo_ld 0 2 (yo_al yG none 0 (yo_un 0 xg_i2l (yo_cl yG ym15 0 3 6 0 0 0 0 (yo_if .eq (ih 35) (yo_push (0, 0, Int.ofNat 1) (ih 36))))))))))))))))))))),
  (35, fun ih => yo_push (0, 0, Int.ofNat 0) (ih 36)),
  (36, fun ih => yo_ri 2)]
set_option maxRecDepth 100000 in
theorem yT90 : y_T yG none (y_ic 15 ym15 y_i0) (y_cc 74 ycs74 y_c0) ev_r90.1 (fun _ => none) yt90 := (y_T_cons 21 rfl (y_T_cons 1 rfl (y_T_cons 1 rfl y_T_nil)))
def yct90_0 : yCt := ([(2, Int.ofNat 55, Int.ofNat 55, false), (0, Int.ofNat 0, Int.ofNat 0, false), (0, Int.ofNat 0, Int.ofNat 4, false), (0, Int.negSucc 2147483647, Int.ofNat 2147483647, false)], (some (0, Int.ofNat 0, Int.ofNat 1, false)), [])
set_option maxRecDepth 100000 in
theorem yd90_0 : y_drv yt90 (y_st []) none (y_po yct90_0) [0] 100000 5000 [y_start 0 yct90_0] = true := by decide +kernel
theorem yc90_0 : y_Mca yG 90 yct90_0 := y_Mca_of (r := ev_r90) rfl (y_con (k := 0) (by decide) (fun hc0 _ => y_drv_ok (h0 := (yG, hc0)) (y_ic_ok (yM15 hc0) y_i0_ok) (y_cc_ok yCs74 y_c0_ok) yT90 (fun _ h1 h2 => y_po_ok h1 h2) yd90_0 _ (List.mem_singleton.mpr rfl)))
def yct90_1 : yCt := ([(2, Int.ofNat 55, Int.ofNat 55, false), (0, Int.ofNat 1, Int.ofNat 1, false), (0, Int.ofNat 0, Int.ofNat 4, false), (0, Int.negSucc 2147483647, Int.ofNat 2147483647, false)], (some (0, Int.ofNat 0, Int.ofNat 1, false)), [])
set_option maxRecDepth 100000 in
theorem yd90_1 : y_drv yt90 (y_st []) none (y_po yct90_1) [0] 100000 5000 [y_start 0 yct90_1] = true := by decide +kernel
theorem yc90_1 : y_Mca yG 90 yct90_1 := y_Mca_of (r := ev_r90) rfl (y_con (k := 0) (by decide) (fun hc0 _ => y_drv_ok (h0 := (yG, hc0)) (y_ic_ok (yM15 hc0) y_i0_ok) (y_cc_ok yCs74 y_c0_ok) yT90 (fun _ h1 h2 => y_po_ok h1 h2) yd90_1 _ (List.mem_singleton.mpr rfl)))
noncomputable def ycs90 : List yCt := [yct90_0, yct90_1]
theorem yCs90 : ∀ ct ∈ ycs90, y_Mca yG 90 ct := (y_l1 yc90_0 (y_l1 yc90_1 y_l0))
/-- NameHallModel.passOn(I)I -/
noncomputable def yt91 : List (Nat × yB) := [(0, fun ih => yo_push (0, 0, Int.ofNat 18) (yo_ld 0 1 (yo_bin 0 0 (xg_i (· * ·) yg_mul) (yo_st 0 2 6 (yo_push (0, 0, Int.ofNat 0) (yo_st 0 3 6 (yo_push (0, 0, Int.ofNat 0) (yo_st 0 4 6 (ih 10))))))))),
  (10, fun ih => yo_ld 0 4 (yo_lda 0 (yo_gf yG 10 1 (yo_ic .ge (ih 99) (yo_lda 0 (yo_ld 0 1 (yo_ld 0 4 (yo_lda 0 (yo_gf yG 10 7 (yo_ld 0 2 (yo_push (0, 0, Int.ofNat 17) (yo_bin 0 0 yg_add (yo_al yG none 0 (yo_cts yG ycs90 11 3 4 0 0 0 0 (yo_if .eq (ih 52) (yo_lda 0 (yo_ld 0 1 (yo_ld 0 4 (yo_cts yG ycs62 11 2 6 0 0 0 0 (yo_if .ne (ih 52) (yo_push (0, 0, Int.ofNat 1) (ih 53)))))))))))))))))))))),
  (52, fun ih => yo_push (0, 0, Int.ofNat 0) (ih 53)),
  (53, fun ih => yo_st 0 5 6 (yo_lda 0 (yo_gf yG 10 7 (yo_ld 0 2 (yo_push (0, 0, Int.ofNat 10) (yo_bin 0 0 yg_add (yo_ld 0 4 (yo_bin 0 0 yg_add (yo_dup2 (yo_al yG none 0 (yo_ld 0 5 (yo_if .eq (ih 77) (yo_push (0, 0, Int.ofNat 1) (ih 78)))))))))))))),
  (77, fun ih => yo_push (0, 0, Int.ofNat 0) (ih 78)),
  (78, fun ih => yo_bin 0 0 yg_add (yo_as yG 0 (yo_ld 0 3 (yo_ld 0 5 (yo_if .eq (ih 90) (yo_push (0, 0, Int.ofNat 1) (ih 91))))))),
  (90, fun ih => yo_push (0, 0, Int.ofNat 0) (ih 91)),
  (91, fun ih => yo_bin 0 0 yg_add (yo_st 0 3 6 (yo_inc 4 6 (Int.ofNat 1) (ih 10)))),
  (99, fun ih => yo_push (0, 0, Int.ofNat 0) (yo_st 0 4 6 (ih 102))),
  (102, fun ih => yo_ld 0 4 (yo_lda 0 (yo_gf yG 10 1 (yo_ic .ge (ih 188) (yo_lda 0 (yo_gf yG 10 7 (yo_ld 0 2 (yo_ld 0 4 (yo_bin 0 0 yg_add (yo_al yG none 0 (yo_push (0, 0, Int.negSucc 8) (yo_ic .eq (ih 182) (yo_lda 0 (yo_gf yG 10 7 (yo_ld 0 2 (yo_push (0, 0, Int.ofNat 5) (yo_bin 0 0 yg_add (yo_ld 0 4 (yo_bin 0 0 yg_add (yo_dup2 (yo_al yG none 0 (yo_push (0, 0, Int.ofNat 1) (yo_bin 0 0 yg_add (yo_as yG 0 (yo_lda 0 (yo_gf yG 10 2 (yo_lda 0 (yo_gf yG 10 7 (yo_ld 0 2 (yo_ld 0 4 (yo_bin 0 0 yg_add (yo_al yG none 0 (yo_al yG none 0 (yo_push (0, 0, Int.ofNat 3) (yo_ic .ne (ih 182) (yo_lda 0 (yo_gf yG 10 7 (yo_ld 0 2 (yo_push (0, 0, Int.ofNat 5) (yo_bin 0 0 yg_add (yo_ld 0 4 (yo_bin 0 0 yg_add (yo_al yG none 0 (yo_push (0, 0, Int.ofNat 2) (yo_ic .le (ih 182) (yo_lda 0 (yo_ld 0 1 (yo_ld 0 4 (yo_push (0, 0, Int.negSucc 8) (yo_cts yG ycs79 11 3 4 0 0 0 0 (ih 182))))))))))))))))))))))))))))))))))))))))))))))))))),
  (182, fun ih => yo_inc 4 6 (Int.ofNat 1) (ih 102)),
  (188, fun ih => yo_lda 0 (yo_gf yG 10 7 (yo_ld 0 2 (yo_push (0, 0, Int.ofNat 17) (yo_bin 0 0 yg_add (yo_dup2 (yo_al yG none 0 (yo_push (0, 0, Int.ofNat 1) (yo_bin 0 0 yg_add (yo_as yG 0 (yo_ld 0 3 (yo_ri 1))))))))))))]
set_option maxRecDepth 100000 in
theorem yT91 : y_T yG none y_i0 (y_cc 90 ycs90 (y_cc 62 ycs62 (y_cc 79 ycs79 y_c0))) ev_r91.1 (fun _ => none) yt91 := (y_T_cons 8 rfl (y_T_cons 22 rfl (y_T_cons 1 rfl (y_T_cons 14 rfl (y_T_cons 1 rfl (y_T_cons 7 rfl (y_T_cons 1 rfl (y_T_cons 4 rfl (y_T_cons 2 rfl (y_T_cons 50 rfl (y_T_cons 2 rfl (y_T_cons 12 rfl y_T_nil))))))))))))
def yct91_0 : yCt := ([(2, Int.ofNat 55, Int.ofNat 55, false), (0, Int.ofNat 0, Int.ofNat 0, false)], (some (0, Int.ofNat 0, Int.ofNat 5, false)), [(61, 0, 14), (61, 17, 17)])
set_option maxRecDepth 100000 in
theorem yd91_0 : y_drv yt91 (y_st [10, 102]) none (y_po yct91_0) [0, 10, 102] 100000 5000 [y_start 4 yct91_0] = true := by decide +kernel
theorem yc91_0 : y_Mca yG 91 yct91_0 := y_Mca_of (r := ev_r91) rfl (y_con (k := 4) (by decide) (fun hc0 _ => y_drv_ok (h0 := (yG, hc0)) y_i0_ok (y_cc_ok yCs90 (y_cc_ok yCs62 (y_cc_ok yCs79 y_c0_ok))) yT91 (fun _ h1 h2 => y_po_ok h1 h2) yd91_0 _ (List.mem_singleton.mpr rfl)))
def yct91_1 : yCt := ([(2, Int.ofNat 55, Int.ofNat 55, false), (0, Int.ofNat 1, Int.ofNat 1, false)], (some (0, Int.ofNat 0, Int.ofNat 5, false)), [(61, 18, 32), (61, 35, 35)])
set_option maxRecDepth 100000 in
theorem yd91_1 : y_drv yt91 (y_st [10, 102]) none (y_po yct91_1) [0, 10, 102] 100000 5000 [y_start 4 yct91_1] = true := by decide +kernel
theorem yc91_1 : y_Mca yG 91 yct91_1 := y_Mca_of (r := ev_r91) rfl (y_con (k := 4) (by decide) (fun hc0 _ => y_drv_ok (h0 := (yG, hc0)) y_i0_ok (y_cc_ok yCs90 (y_cc_ok yCs62 (y_cc_ok yCs79 y_c0_ok))) yT91 (fun _ h1 h2 => y_po_ok h1 h2) yd91_1 _ (List.mem_singleton.mpr rfl)))
noncomputable def ycs91 : List yCt := [yct91_0, yct91_1]
theorem yCs91 : ∀ ct ∈ ycs91, y_Mca yG 91 ct := (y_l1 yc91_0 (y_l1 yc91_1 y_l0))
/-- NameHallModel.hour()I -/
noncomputable def yt92 : List (Nat × yB) := [(0, fun ih => yo_lda 0 (yo_cts yG ycs78 11 0 2 0 0 0 0 (yo_lda 0 (yo_push (0, 0, Int.ofNat 0) (yo_cts yG ycs91 11 1 6 0 0 0 0 (yo_ri 1))))))]
set_option maxRecDepth 100000 in
theorem yT92 : y_T yG none y_i0 (y_cc 78 ycs78 (y_cc 91 ycs91 y_c0)) ev_r92.1 (fun _ => none) yt92 := (y_T_cons 6 rfl y_T_nil)
def yct92_0 : yCt := ([(2, Int.ofNat 55, Int.ofNat 55, false)], (some (0, Int.ofNat 0, Int.ofNat 5, false)), [(55, 16, 17), (61, 0, 14), (61, 17, 17), (65, 0, 251)])
set_option maxRecDepth 100000 in
theorem yd92_0 : y_drv yt92 (y_st []) none (y_po yct92_0) [0] 100000 5000 [y_start 0 yct92_0] = true := by decide +kernel
theorem yc92_0 : y_Mca yG 92 yct92_0 := y_Mca_of (r := ev_r92) rfl (y_con (k := 0) (by decide) (fun hc0 _ => y_drv_ok (h0 := (yG, hc0)) y_i0_ok (y_cc_ok yCs78 (y_cc_ok yCs91 y_c0_ok)) yT92 (fun _ h1 h2 => y_po_ok h1 h2) yd92_0 _ (List.mem_singleton.mpr rfl)))
noncomputable def ycs92 : List yCt := [yct92_0]
theorem yCs92 : ∀ ct ∈ ycs92, y_Mca yG 92 ct := (y_l1 yc92_0 y_l0)
/-- NameHall$Scene.runOff(I)V -/
noncomputable def yt93 : List (Nat × yB) := [(0, fun ih => yo_lda 0 (yo_ld 0 1 (yo_cl yG ym53 7 1 2 0 0 0 0 (yo_st 0 2 3 (yo_ld 0 2 (yo_push (0, 0, Int.negSucc 8) (yo_ic .ne (ih 13) (yo_rv 0)))))))),
  (13, fun ih => yo_lda 0 (yo_dup (yo_gf yG 6 4 (yo_push (0, 0, Int.ofNat 1) (yo_ld 0 2 (yo_bin 0 0 (xg_i x_ishl (yg_en x_ishl)) (yo_bin 0 0 (xg_i (· ||| ·) yg_bit) (yo_pf yG 6 4 0 (yo_lda 0 (yo_dup (yo_gf yG 6 5 (yo_push (0, 0, Int.ofNat 1) (yo_ld 0 1 (yo_bin 0 0 (xg_i x_ishl (yg_en x_ishl)) (yo_bin 0 0 (xg_i (· ||| ·) yg_bit) (yo_pf yG 6 5 0 (yo_lda 0 (yo_ld 0 1 (yo_cts yG ycs81 7 1 2 0 0 0 0 (yo_rv 0))))))))))))))))))))]
set_option maxRecDepth 100000 in
theorem yT93 : y_T yG none (y_ic 53 ym53 y_i0) (y_cc 81 ycs81 y_c0) ev_r93.1 (fun _ => none) yt93 := (y_T_cons 8 rfl (y_T_cons 20 rfl y_T_nil))
def yct93_0 : yCt := ([(2, Int.ofNat 9, Int.ofNat 9, false), (0, Int.negSucc 2147483647, Int.ofNat 2147483647, false)], none, [(9, 4, 5), (10, 0, 4), (11, 0, 4)])
set_option maxRecDepth 100000 in
theorem yd93_0 : y_drv yt93 (y_st []) none (y_po yct93_0) [0] 100000 5000 [y_start 1 yct93_0] = true := by decide +kernel
theorem yc93_0 : y_Mca yG 93 yct93_0 := y_Mca_of (r := ev_r93) rfl (y_con (k := 1) (by decide) (fun hc0 _ => y_drv_ok (h0 := (yG, hc0)) (y_ic_ok (yM53 hc0) y_i0_ok) (y_cc_ok yCs81 y_c0_ok) yT93 (fun _ h1 h2 => y_po_ok h1 h2) yd93_0 _ (List.mem_singleton.mpr rfl)))
noncomputable def ycs93 : List yCt := [yct93_0]
theorem yCs93 : ∀ ct ∈ ycs93, y_Mca yG 93 ct := (y_l1 yc93_0 y_l0)
/-- NameHall.run(I)I -/
noncomputable def yt94 : List (Nat × yB) := [(0, fun ih => yo_lda 0 (yo_gf yG 9 1 (yo_ld 0 1 (yo_cl yG ym49 5 1 2 0 0 0 0 (yo_if .ne (ih 13) (yo_push (0, 0, Int.negSucc 0) (yo_ri 1))))))),
  (13, fun ih => yo_lda 0 (yo_gf yG 9 2 (yo_ld 0 1 (yo_cl yG ym53 7 1 2 0 0 0 0 (yo_st 0 2 3 (yo_ld 0 2 (yo_push (0, 0, Int.negSucc 8) (yo_ic .ne (ih 31) (yo_push (0, 0, Int.negSucc 2) (yo_ri 1)))))))))),
  (31, fun ih => yo_lda 0 (yo_gf yG 9 4 (yo_lda 0 (yo_gf yG 9 2 (yo_cts yG ycs70 1 1 2 0 0 0 0 (yo_lda 0 (yo_gf yG 9 2 (yo_ld 0 1 (yo_cts yG ycs93 7 1 3 0 0 0 0 (yo_ld 0 2 (yo_ri 1)))))))))))]
set_option maxRecDepth 100000 in
theorem yT94 : y_T yG none (y_ic 49 ym49 (y_ic 53 ym53 y_i0)) (y_cc 70 ycs70 (y_cc 93 ycs93 y_c0)) ev_r94.1 (fun _ => none) yt94 := (y_T_cons 7 rfl (y_T_cons 10 rfl (y_T_cons 11 rfl y_T_nil)))
def yct94_0 : yCt := ([(2, Int.ofNat 0, Int.ofNat 0, false), (0, Int.negSucc 2147483647, Int.ofNat 2147483647, false)], (some (0, Int.negSucc 2147483647, Int.ofNat 2147483647, false)), [(9, 4, 5), (10, 0, 4), (11, 0, 4), (17, 1, 2), (19, 0, 17), (20, 0, 17), (21, 0, 17), (22, 0, 17), (23, 0, 17), (24, 0, 17), (25, 0, 17), (26, 0, 17), (27, 0, 17), (28, 0, 17), (29, 0, 17), (30, 0, 17), (31, 0, 17), (32, 0, 17)])
set_option maxRecDepth 100000 in
theorem yd94_0 : y_drv yt94 (y_st []) none (y_po yct94_0) [0] 100000 5000 [y_start 1 yct94_0] = true := by decide +kernel
theorem yc94_0 : y_Mca yG 94 yct94_0 := y_Mca_of (r := ev_r94) rfl (y_con (k := 1) (by decide) (fun hc0 _ => y_drv_ok (h0 := (yG, hc0)) (y_ic_ok (yM49 hc0) (y_ic_ok (yM53 hc0) y_i0_ok)) (y_cc_ok yCs70 (y_cc_ok yCs93 y_c0_ok)) yT94 (fun _ h1 h2 => y_po_ok h1 h2) yd94_0 _ (List.mem_singleton.mpr rfl)))
noncomputable def ycs94 : List yCt := [yct94_0]
theorem yCs94 : ∀ ct ∈ ycs94, y_Mca yG 94 ct := (y_l1 yc94_0 y_l0)
/-- NameHallModel.run(I)I -/
noncomputable def yt95 : List (Nat × yB) := [(0, fun ih => yo_lda 0 (yo_ld 0 1 (yo_cl yG ym61 11 1 2 0 0 0 0 (yo_if .ne (ih 10) (yo_push (0, 0, Int.negSucc 0) (yo_ri 1)))))),
  (10, fun ih => yo_lda 0 (yo_gf yG 10 7 (yo_ld 0 1 (yo_al yG none 0 (yo_push (0, 0, Int.negSucc 8) (yo_ic .ne (ih 24) (yo_push (0, 0, Int.negSucc 2) (yo_ri 1)))))))),
  (24, fun ih => yo_lda 0 (yo_cts yG ycs78 11 0 2 0 0 0 0 (yo_lda 0 (yo_gf yG 10 7 (yo_ld 0 1 (yo_al yG none 0 (yo_st 0 2 3 (yo_lda 0 (yo_push (0, 0, Int.ofNat 0) (yo_ld 0 1 (yo_push (0, 0, Int.negSucc 8) (yo_cts yG ycs79 11 3 4 0 0 0 0 (yo_lda 0 (yo_gf yG 10 7 (yo_push (0, 0, Int.ofNat 15) (yo_dup2 (yo_al yG none 0 (yo_push (0, 0, Int.ofNat 1) (yo_ld 0 2 (yo_bin 0 0 (xg_i x_ishl (yg_en x_ishl)) (yo_bin 0 0 (xg_i (· ||| ·) yg_bit) (yo_as yG 0 (yo_lda 0 (yo_gf yG 10 7 (yo_push (0, 0, Int.ofNat 16) (yo_dup2 (yo_al yG none 0 (yo_push (0, 0, Int.ofNat 1) (yo_ld 0 1 (yo_bin 0 0 (xg_i x_ishl (yg_en x_ishl)) (yo_bin 0 0 (xg_i (· ||| ·) yg_bit) (yo_as yG 0 (yo_ld 0 2 (yo_ri 1))))))))))))))))))))))))))))))))))]
set_option maxRecDepth 100000 in
theorem yT95 : y_T yG none (y_ic 61 ym61 y_i0) (y_cc 78 ycs78 (y_cc 79 ycs79 y_c0)) ev_r95.1 (fun _ => none) yt95 := (y_T_cons 6 rfl (y_T_cons 8 rfl (y_T_cons 34 rfl y_T_nil)))
def yct95_0 : yCt := ([(2, Int.ofNat 55, Int.ofNat 55, false), (0, Int.negSucc 2147483647, Int.ofNat 2147483647, false)], (some (0, Int.negSucc 2, Int.ofNat 3, true)), [(55, 16, 17), (61, 0, 9), (61, 15, 16), (65, 0, 251)])
set_option maxRecDepth 100000 in
theorem yd95_0 : y_drv yt95 (y_st []) none (y_po yct95_0) [0] 100000 5000 [y_start 1 yct95_0] = true := by decide +kernel
theorem yc95_0 : y_Mca yG 95 yct95_0 := y_Mca_of (r := ev_r95) rfl (y_con (k := 1) (by decide) (fun hc0 _ => y_drv_ok (h0 := (yG, hc0)) (y_ic_ok (yM61 hc0) y_i0_ok) (y_cc_ok yCs78 (y_cc_ok yCs79 y_c0_ok)) yT95 (fun _ h1 h2 => y_po_ok h1 h2) yd95_0 _ (List.mem_singleton.mpr rfl)))
noncomputable def ycs95 : List yCt := [yct95_0]
theorem yCs95 : ∀ ct ∈ ycs95, y_Mca yG 95 ct := (y_l1 yc95_0 y_l0)
/-- NameHall$Scene.load([I)V -/
noncomputable def yt96 : List (Nat × yB) := [(0, fun ih => yo_lda 1 (yo_len yG (yo_push (0, 0, Int.ofNat 18) (yo_ic .ge (ih 8) (yo_rv 0))))),
  (8, fun ih => yo_lda 1 (yo_push (0, 0, Int.ofNat 0) (yo_lda 0 (yo_gf yG 6 1 (yo_push (0, 0, Int.ofNat 0) (yo_push (0, 0, Int.ofNat 5) (yo_cp yG 1 26 (yo_lda 1 (yo_push (0, 0, Int.ofNat 5) (yo_lda 0 (yo_gf yG 6 2 (yo_push (0, 0, Int.ofNat 0) (yo_push (0, 0, Int.ofNat 5) (yo_cp yG 1 26 (yo_lda 1 (yo_push (0, 0, Int.ofNat 10) (yo_lda 0 (yo_gf yG 6 3 (yo_push (0, 0, Int.ofNat 0) (yo_push (0, 0, Int.ofNat 5) (yo_cp yG 1 26 (yo_lda 0 (yo_lda 1 (yo_push (0, 0, Int.ofNat 15) (yo_al yG none 0 (yo_pf yG 6 4 0 (yo_lda 0 (yo_lda 1 (yo_push (0, 0, Int.ofNat 16) (yo_al yG none 0 (yo_pf yG 6 5 0 (yo_lda 0 (yo_lda 1 (yo_push (0, 0, Int.ofNat 17) (yo_al yG none 0 (yo_pf yG 6 6 0 (yo_rv 0)))))))))))))))))))))))))))))))))))))]
set_option maxRecDepth 100000 in
theorem yT96 : y_T yG none y_i0 y_c0 ev_r96.1 (fun _ => none) yt96 := (y_T_cons 5 rfl (y_T_cons 37 rfl y_T_nil))
def yct96_0 : yCt := ([(2, Int.ofNat 9, Int.ofNat 9, false), (2, Int.ofNat 35, Int.ofNat 36, false)], none, [(9, 4, 6), (10, 0, 4), (11, 0, 4), (12, 0, 4)])
set_option maxRecDepth 100000 in
theorem yd96_0 : y_drv yt96 (y_st []) none (y_po yct96_0) [0] 100000 5000 [y_start 0 yct96_0] = true := by decide +kernel
theorem yc96_0 : y_Mca yG 96 yct96_0 := y_Mca_of (r := ev_r96) rfl (y_con (k := 0) (by decide) (fun hc0 _ => y_drv_ok (h0 := (yG, hc0)) y_i0_ok y_c0_ok yT96 (fun _ h1 h2 => y_po_ok h1 h2) yd96_0 _ (List.mem_singleton.mpr rfl)))
def yct96_1 : yCt := ([(2, Int.ofNat 9, Int.ofNat 9, false), (2, Int.ofNat 19, Int.ofNat 32, false)], none, [(9, 4, 6), (10, 0, 4), (11, 0, 4), (12, 0, 4)])
set_option maxRecDepth 100000 in
theorem yd96_1 : y_drv yt96 (y_st []) none (y_po yct96_1) [0] 100000 5000 [y_start 0 yct96_1] = true := by decide +kernel
theorem yc96_1 : y_Mca yG 96 yct96_1 := y_Mca_of (r := ev_r96) rfl (y_con (k := 0) (by decide) (fun hc0 _ => y_drv_ok (h0 := (yG, hc0)) y_i0_ok y_c0_ok yT96 (fun _ h1 h2 => y_po_ok h1 h2) yd96_1 _ (List.mem_singleton.mpr rfl)))
noncomputable def ycs96 : List yCt := [yct96_0, yct96_1]
theorem yCs96 : ∀ ct ∈ ycs96, y_Mca yG 96 ct := (y_l1 yc96_0 (y_l1 yc96_1 y_l0))
/-- NameHall$ActRow.takeBack(LNameHall$Scene;)Z -/
noncomputable def yt97 : List (Nat × yB) := [(0, fun ih => yo_lda 0 (yo_gf yG 0 2 (yo_push (0, 0, Int.ofNat 1) (yo_ic .ge (ih 10) (yo_push (0, 0, Int.ofNat 0) (yo_ri 2)))))),
  (10, fun ih => yo_lda 0 (yo_dup (yo_gf yG 0 2 (yo_push (0, 0, Int.ofNat 1) (yo_bin 0 0 yg_sub (yo_pf yG 0 2 0 (yo_lda 1 (yo_lda 0 (yo_gf yG 0 0 (yo_lda 0 (yo_gf yG 0 1 (yo_lda 0 (yo_gf yG 0 2 (yo_bin 0 0 yg_add (yo_push (0, 0, Int.ofNat 14) (yo_cts yG ycs68 0 2 3 0 0 0 0 (yo_aa yG (yo_cts yG ycs96 7 1 2 0 0 0 0 (yo_push (0, 0, Int.ofNat 1) (yo_ri 2))))))))))))))))))))]
set_option maxRecDepth 100000 in
theorem yT97 : y_T yG none y_i0 (y_cc 68 ycs68 (y_cc 96 ycs96 y_c0)) ev_r97.1 (fun _ => none) yt97 := (y_T_cons 6 rfl (y_T_cons 20 rfl y_T_nil))
noncomputable def ym97 : List xv → yH → xE → yR := y_mth 0 yt97 100000
theorem yM97 (hc0 : ev_H) : y_Ma (yG, hc0) 97 ym97 := y_Ma_of (r := ev_r97) rfl (ys_mth (h0 := (yG, hc0)) y_i0_ok (y_cc_ok yCs68 (y_cc_ok yCs96 y_c0_ok)) yT97)
/-- NameHall$ActRow.size()I -/
noncomputable def yt98 : List (Nat × yB) := [(0, fun ih => yo_lda 0 (yo_gf yG 0 2 (yo_ri 1)))]
set_option maxRecDepth 100000 in
theorem yT98 : y_T yG none y_i0 y_c0 ev_r98.1 (fun _ => none) yt98 := (y_T_cons 3 rfl y_T_nil)
def yct98_0 : yCt := ([(2, Int.ofNat 17, Int.ofNat 17, false)], (some (0, Int.ofNat 0, Int.ofNat 14, false)), [])
set_option maxRecDepth 100000 in
theorem yd98_0 : y_drv yt98 (y_st []) none (y_po yct98_0) [0] 100000 5000 [y_start 0 yct98_0] = true := by decide +kernel
theorem yc98_0 : y_Mca yG 98 yct98_0 := y_Mca_of (r := ev_r98) rfl (y_con (k := 0) (by decide) (fun hc0 _ => y_drv_ok (h0 := (yG, hc0)) y_i0_ok y_c0_ok yT98 (fun _ h1 h2 => y_po_ok h1 h2) yd98_0 _ (List.mem_singleton.mpr rfl)))
noncomputable def ycs98 : List yCt := [yct98_0]
theorem yCs98 : ∀ ct ∈ ycs98, y_Mca yG 98 ct := (y_l1 yc98_0 y_l0)
/-- NameHall.undo()I -/
noncomputable def yt99 : List (Nat × yB) := [(0, fun ih => yo_lda 0 (yo_gf yG 9 4 (yo_lda 0 (yo_gf yG 9 2 (yo_cl yG ym97 1 1 2 0 0 0 0 (yo_if .eq (ih 24) (yo_lda 0 (yo_gf yG 9 4 (yo_cts yG ycs98 1 0 1 0 0 0 0 (ih 26)))))))))),
  (24, fun ih => yo_push (0, 0, Int.negSucc 2) (ih 26)),
  (26, fun ih => yo_ri 1)]
set_option maxRecDepth 100000 in
theorem yT99 : y_T yG none (y_ic 97 ym97 y_i0) (y_cc 98 ycs98 y_c0) ev_r99.1 (fun _ => none) yt99 := (y_T_cons 10 rfl (y_T_cons 1 rfl (y_T_cons 1 rfl y_T_nil)))
def yct99_0 : yCt := ([(2, Int.ofNat 0, Int.ofNat 0, false)], (some (0, Int.negSucc 2, Int.ofNat 14, false)), [(9, 4, 6), (10, 0, 4), (11, 0, 4), (12, 0, 4), (17, 2, 2)])
set_option maxRecDepth 100000 in
theorem yd99_0 : y_drv yt99 (y_st []) none (y_po yct99_0) [0] 100000 5000 [y_start 0 yct99_0] = true := by decide +kernel
theorem yc99_0 : y_Mca yG 99 yct99_0 := y_Mca_of (r := ev_r99) rfl (y_con (k := 0) (by decide) (fun hc0 _ => y_drv_ok (h0 := (yG, hc0)) (y_ic_ok (yM97 hc0) y_i0_ok) (y_cc_ok yCs98 y_c0_ok) yT99 (fun _ h1 h2 => y_po_ok h1 h2) yd99_0 _ (List.mem_singleton.mpr rfl)))
noncomputable def ycs99 : List yCt := [yct99_0]
theorem yCs99 : ∀ ct ∈ ycs99, y_Mca yG 99 ct := (y_l1 yc99_0 y_l0)
