/-! contracts, by program -/
/-- java/util/Arrays.fill([II)V -/
noncomputable def yt2 : List (Nat × yB) := [(0, fun ih => yo_push (0, 0, Int.ofNat 0) (yo_st 0 2 4 (yo_lda 0 (yo_len yG (yo_st 0 3 4 (ih 5)))))),
  (5, fun ih => yo_ld 0 2 (yo_ld 0 3 (yo_ic .ge (ih 20) (yo_lda 0 (yo_ld 0 2 (yo_ld 0 1 (yo_as yG 0 (yo_inc 2 4 (Int.ofNat 1) (ih 5))))))))),
  (20, fun ih => yo_rv 0)]
set_option maxRecDepth 100000 in
theorem yT2 : y_T yG none y_i0 y_c0 ev_r2.1 (fun _ => none) yt2 := (y_T_cons 5 rfl (y_T_cons 9 rfl (y_T_cons 1 rfl y_T_nil)))
def yct2_0 : yCt := ([(2, Int.ofNat 10, Int.ofNat 10, false), (0, Int.negSucc 2147483647, Int.ofNat 2147483647, false)], none, [(10, 0, 4)])
set_option maxRecDepth 100000 in
theorem yd2_0 : y_drv yt2 (y_st [5]) none (y_po yct2_0) [0, 5] 100000 5000 [y_start 2 yct2_0] = true := by decide +kernel
theorem yc2_0 : y_Mca yG 2 yct2_0 := y_Mca_of (r := ev_r2) rfl (y_con (k := 2) (by decide) (fun hc0 _ => y_drv_ok (h0 := (yG, hc0)) y_i0_ok y_c0_ok yT2 (fun _ h1 h2 => y_po_ok h1 h2) yd2_0 _ (List.mem_singleton.mpr rfl)))
def yct2_1 : yCt := ([(2, Int.ofNat 11, Int.ofNat 11, false), (0, Int.negSucc 2147483647, Int.ofNat 2147483647, false)], none, [(11, 0, 4)])
set_option maxRecDepth 100000 in
theorem yd2_1 : y_drv yt2 (y_st [5]) none (y_po yct2_1) [0, 5] 100000 5000 [y_start 2 yct2_1] = true := by decide +kernel
theorem yc2_1 : y_Mca yG 2 yct2_1 := y_Mca_of (r := ev_r2) rfl (y_con (k := 2) (by decide) (fun hc0 _ => y_drv_ok (h0 := (yG, hc0)) y_i0_ok y_c0_ok yT2 (fun _ h1 h2 => y_po_ok h1 h2) yd2_1 _ (List.mem_singleton.mpr rfl)))
def yct2_2 : yCt := ([(2, Int.ofNat 12, Int.ofNat 12, false), (0, Int.negSucc 2147483647, Int.ofNat 2147483647, false)], none, [(12, 0, 4)])
set_option maxRecDepth 100000 in
theorem yd2_2 : y_drv yt2 (y_st [5]) none (y_po yct2_2) [0, 5] 100000 5000 [y_start 2 yct2_2] = true := by decide +kernel
theorem yc2_2 : y_Mca yG 2 yct2_2 := y_Mca_of (r := ev_r2) rfl (y_con (k := 2) (by decide) (fun hc0 _ => y_drv_ok (h0 := (yG, hc0)) y_i0_ok y_c0_ok yT2 (fun _ h1 h2 => y_po_ok h1 h2) yd2_2 _ (List.mem_singleton.mpr rfl)))
def yct2_3 : yCt := ([(2, Int.ofNat 14, Int.ofNat 14, false), (0, Int.negSucc 2147483647, Int.ofNat 2147483647, false)], none, [(14, 0, 4)])
set_option maxRecDepth 100000 in
theorem yd2_3 : y_drv yt2 (y_st [5]) none (y_po yct2_3) [0, 5] 100000 5000 [y_start 2 yct2_3] = true := by decide +kernel
theorem yc2_3 : y_Mca yG 2 yct2_3 := y_Mca_of (r := ev_r2) rfl (y_con (k := 2) (by decide) (fun hc0 _ => y_drv_ok (h0 := (yG, hc0)) y_i0_ok y_c0_ok yT2 (fun _ h1 h2 => y_po_ok h1 h2) yd2_3 _ (List.mem_singleton.mpr rfl)))
def yct2_4 : yCt := ([(2, Int.ofNat 15, Int.ofNat 15, false), (0, Int.negSucc 2147483647, Int.ofNat 2147483647, false)], none, [(15, 0, 4)])
set_option maxRecDepth 100000 in
theorem yd2_4 : y_drv yt2 (y_st [5]) none (y_po yct2_4) [0, 5] 100000 5000 [y_start 2 yct2_4] = true := by decide +kernel
theorem yc2_4 : y_Mca yG 2 yct2_4 := y_Mca_of (r := ev_r2) rfl (y_con (k := 2) (by decide) (fun hc0 _ => y_drv_ok (h0 := (yG, hc0)) y_i0_ok y_c0_ok yT2 (fun _ h1 h2 => y_po_ok h1 h2) yd2_4 _ (List.mem_singleton.mpr rfl)))
def yct2_5 : yCt := ([(2, Int.ofNat 39, Int.ofNat 39, false), (0, Int.negSucc 2147483647, Int.ofNat 2147483647, false)], none, [(39, 0, 4)])
set_option maxRecDepth 100000 in
theorem yd2_5 : y_drv yt2 (y_st [5]) none (y_po yct2_5) [0, 5] 100000 5000 [y_start 2 yct2_5] = true := by decide +kernel
theorem yc2_5 : y_Mca yG 2 yct2_5 := y_Mca_of (r := ev_r2) rfl (y_con (k := 2) (by decide) (fun hc0 _ => y_drv_ok (h0 := (yG, hc0)) y_i0_ok y_c0_ok yT2 (fun _ h1 h2 => y_po_ok h1 h2) yd2_5 _ (List.mem_singleton.mpr rfl)))
def yct2_6 : yCt := ([(2, Int.ofNat 40, Int.ofNat 40, false), (0, Int.negSucc 2147483647, Int.ofNat 2147483647, false)], none, [(40, 0, 3)])
set_option maxRecDepth 100000 in
theorem yd2_6 : y_drv yt2 (y_st [5]) none (y_po yct2_6) [0, 5] 100000 5000 [y_start 2 yct2_6] = true := by decide +kernel
theorem yc2_6 : y_Mca yG 2 yct2_6 := y_Mca_of (r := ev_r2) rfl (y_con (k := 2) (by decide) (fun hc0 _ => y_drv_ok (h0 := (yG, hc0)) y_i0_ok y_c0_ok yT2 (fun _ h1 h2 => y_po_ok h1 h2) yd2_6 _ (List.mem_singleton.mpr rfl)))
noncomputable def ycs2 : List yCt := [yct2_0, yct2_1, yct2_2, yct2_3, yct2_4, yct2_5, yct2_6]
theorem yCs2 : ∀ ct ∈ ycs2, y_Mca yG 2 ct := (y_l1 yc2_0 (y_l1 yc2_1 (y_l1 yc2_2 (y_l1 yc2_3 (y_l1 yc2_4 (y_l1 yc2_5 (y_l1 yc2_6 y_l0)))))))
/-- NameHall$Text.append(C)Z -/
noncomputable def yt12 : List (Nat × yB) := [(0, fun ih => yo_lda 0 (yo_gf yG 8 1 (yo_if .lt (ih 19) (yo_lda 0 (yo_gf yG 8 1 (yo_lda 0 (yo_gf yG 8 0 (yo_len yG (yo_ic .lt (ih 21) (ih 19)))))))))),
  (19, fun ih => yo_push (0, 0, Int.ofNat 0) (yo_ri 2)),
  (21, fun ih => yo_lda 0 (yo_gf yG 8 0 (yo_lda 0 (yo_gf yG 8 1 (yo_ld 0 1 (yo_as yG 1 (yo_lda 0 (yo_dup (yo_gf yG 8 1 (yo_push (0, 0, Int.ofNat 1) (yo_bin 0 0 yg_add (yo_pf yG 8 1 0 (yo_push (0, 0, Int.ofNat 1) (yo_ri 2))))))))))))))]
set_option maxRecDepth 100000 in
theorem yT12 : y_T yG none y_i0 y_c0 ev_r12.1 (fun _ => none) yt12 := (y_T_cons 9 rfl (y_T_cons 2 rfl (y_T_cons 14 rfl y_T_nil)))
noncomputable def ym12 : List xv → yH → xE → yR := y_mth 0 yt12 100000
theorem yM12 (hc0 : ev_H) : y_Ma (yG, hc0) 12 ym12 := y_Ma_of (r := ev_r12) rfl (ys_mth (h0 := (yG, hc0)) y_i0_ok y_c0_ok yT12)
/-- NameHall$Text.size()I -/
noncomputable def yt13 : List (Nat × yB) := [(0, fun ih => yo_lda 0 (yo_gf yG 8 1 (yo_ri 1)))]
set_option maxRecDepth 100000 in
theorem yT13 : y_T yG none y_i0 y_c0 ev_r13.1 (fun _ => none) yt13 := (y_T_cons 3 rfl y_T_nil)
def yct13_0 : yCt := ([(2, Int.ofNat 1, Int.ofNat 1, false)], (some (0, Int.ofNat 0, Int.ofNat 40, false)), [])
set_option maxRecDepth 100000 in
theorem yd13_0 : y_drv yt13 (y_st []) none (y_po yct13_0) [0] 100000 5000 [y_start 0 yct13_0] = true := by decide +kernel
theorem yc13_0 : y_Mca yG 13 yct13_0 := y_Mca_of (r := ev_r13) rfl (y_con (k := 0) (by decide) (fun hc0 _ => y_drv_ok (h0 := (yG, hc0)) y_i0_ok y_c0_ok yT13 (fun _ h1 h2 => y_po_ok h1 h2) yd13_0 _ (List.mem_singleton.mpr rfl)))
noncomputable def ycs13 : List yCt := [yct13_0]
theorem yCs13 : ∀ ct ∈ ycs13, y_Mca yG 13 ct := (y_l1 yc13_0 y_l0)
/-- NameHall.write(I)I -/
noncomputable def yt14 : List (Nat × yB) := [(0, fun ih => yo_ld 0 1 (yo_if .lt (ih 11) (yo_ld 0 1 (yo_push (0, 0, Int.ofNat 255) (yo_ic .le (ih 14) (ih 11)))))),
  (11, fun ih => yo_push (0, 0, Int.negSucc 1) (yo_ri 1)),
  (14, fun ih => yo_lda 0 (yo_gf yG 9 0 (yo_ld 0 1 (yo_un 0 xg_i2c (yo_cl yG ym12 9 1 2 0 0 0 0 (yo_if .eq (ih 36) (yo_lda 0 (yo_gf yG 9 0 (yo_cts yG ycs13 9 0 1 0 0 0 0 (ih 38)))))))))),
  (36, fun ih => yo_push (0, 0, Int.negSucc 3) (ih 38)),
  (38, fun ih => yo_ri 1)]
set_option maxRecDepth 100000 in
theorem yT14 : y_T yG none (y_ic 12 ym12 y_i0) (y_cc 13 ycs13 y_c0) ev_r14.1 (fun _ => none) yt14 := (y_T_cons 5 rfl (y_T_cons 2 rfl (y_T_cons 10 rfl (y_T_cons 1 rfl (y_T_cons 1 rfl y_T_nil)))))
def yct14_0 : yCt := ([(2, Int.ofNat 0, Int.ofNat 0, false), (0, Int.negSucc 2147483647, Int.ofNat 2147483647, false)], (some (0, Int.negSucc 3, Int.ofNat 40, false)), [(1, 1, 1), (2, 0, 39)])
set_option maxRecDepth 100000 in
theorem yd14_0 : y_drv yt14 (y_st []) none (y_po yct14_0) [0] 100000 5000 [y_start 0 yct14_0] = true := by decide +kernel
theorem yc14_0 : y_Mca yG 14 yct14_0 := y_Mca_of (r := ev_r14) rfl (y_con (k := 0) (by decide) (fun hc0 _ => y_drv_ok (h0 := (yG, hc0)) (y_ic_ok (yM12 hc0) y_i0_ok) (y_cc_ok yCs13 y_c0_ok) yT14 (fun _ h1 h2 => y_po_ok h1 h2) yd14_0 _ (List.mem_singleton.mpr rfl)))
noncomputable def ycs14 : List yCt := [yct14_0]
theorem yCs14 : ∀ ct ∈ ycs14, y_Mca yG 14 ct := (y_l1 yc14_0 y_l0)
/-- NameHallModel.in(JJJ)Z -/
noncomputable def yt15 : List (Nat × yB) := [(0, fun ih => yo_ld 1 0 (yo_ld 1 2 (yo_lcmp (yo_if .lt (ih 17) (yo_ld 1 0 (yo_ld 1 4 (yo_lcmp (yo_if .gt (ih 17) (yo_push (0, 0, Int.ofNat 1) (ih 18)))))))))),
  (17, fun ih => yo_push (0, 0, Int.ofNat 0) (ih 18)),
  (18, fun ih => yo_ri 2)]
set_option maxRecDepth 100000 in
theorem yT15 : y_T yG none y_i0 y_c0 ev_r15.1 (fun _ => none) yt15 := (y_T_cons 10 rfl (y_T_cons 1 rfl (y_T_cons 1 rfl y_T_nil)))
noncomputable def ym15 : List xv → yH → xE → yR := y_mth 0 yt15 100000
theorem yM15 (hc0 : ev_H) : y_Ma (yG, hc0) 15 ym15 := y_Ma_of (r := ev_r15) rfl (ys_mth (h0 := (yG, hc0)) y_i0_ok y_c0_ok yT15)
/-- NameHallModel.write(I)I -/
noncomputable def yt16 : List (Nat × yB) := [(0, fun ih => yo_ld 0 1 (yo_un 0 xg_i2l (yo_push (1, 0, Int.ofNat 0) (yo_push (1, 0, Int.ofNat 255) (yo_cl yG ym15 0 3 6 0 0 0 0 (yo_if .ne (ih 15) (yo_push (0, 0, Int.negSucc 1) (yo_ri 1)))))))),
  (15, fun ih => yo_lda 0 (yo_gf yG 10 13 (yo_push (0, 0, Int.ofNat 40) (yo_ic .ne (ih 27) (yo_push (0, 0, Int.negSucc 3) (yo_ri 1)))))),
  (27, fun ih => yo_lda 0 (yo_gf yG 10 12 (yo_lda 0 (yo_gf yG 10 13 (yo_ld 0 1 (yo_as yG 0 (yo_lda 0 (yo_dup (yo_gf yG 10 13 (yo_push (0, 0, Int.ofNat 1) (yo_bin 0 0 yg_add (yo_pf yG 10 13 0 (yo_lda 0 (yo_gf yG 10 13 (yo_ri 1)))))))))))))))]
set_option maxRecDepth 100000 in
theorem yT16 : y_T yG none (y_ic 15 ym15 y_i0) y_c0 ev_r16.1 (fun _ => none) yt16 := (y_T_cons 8 rfl (y_T_cons 6 rfl (y_T_cons 15 rfl y_T_nil)))
def yct16_0 : yCt := ([(2, Int.ofNat 55, Int.ofNat 55, false), (0, Int.negSucc 2147483647, Int.ofNat 2147483647, false)], (some (0, Int.negSucc 3, Int.ofNat 40, false)), [(55, 13, 13), (64, 0, 39)])
set_option maxRecDepth 100000 in
theorem yd16_0 : y_drv yt16 (y_st []) none (y_po yct16_0) [0] 100000 5000 [y_start 0 yct16_0] = true := by decide +kernel
theorem yc16_0 : y_Mca yG 16 yct16_0 := y_Mca_of (r := ev_r16) rfl (y_con (k := 0) (by decide) (fun hc0 _ => y_drv_ok (h0 := (yG, hc0)) (y_ic_ok (yM15 hc0) y_i0_ok) y_c0_ok yT16 (fun _ h1 h2 => y_po_ok h1 h2) yd16_0 _ (List.mem_singleton.mpr rfl)))
noncomputable def ycs16 : List yCt := [yct16_0]
theorem yCs16 : ∀ ct ∈ ycs16, y_Mca yG 16 ct := (y_l1 yc16_0 y_l0)
/-- NameHall$Text.clear()I -/
noncomputable def yt17 : List (Nat × yB) := [(0, fun ih => yo_lda 0 (yo_gf yG 8 1 (yo_st 0 1 2 (yo_lda 0 (yo_push (0, 0, Int.ofNat 0) (yo_pf yG 8 1 0 (yo_ld 0 1 (yo_ri 1))))))))]
set_option maxRecDepth 100000 in
theorem yT17 : y_T yG none y_i0 y_c0 ev_r17.1 (fun _ => none) yt17 := (y_T_cons 8 rfl y_T_nil)
def yct17_0 : yCt := ([(2, Int.ofNat 1, Int.ofNat 1, false)], (some (0, Int.ofNat 0, Int.ofNat 40, false)), [(1, 1, 1)])
set_option maxRecDepth 100000 in
theorem yd17_0 : y_drv yt17 (y_st []) none (y_po yct17_0) [0] 100000 5000 [y_start 1 yct17_0] = true := by decide +kernel
theorem yc17_0 : y_Mca yG 17 yct17_0 := y_Mca_of (r := ev_r17) rfl (y_con (k := 1) (by decide) (fun hc0 _ => y_drv_ok (h0 := (yG, hc0)) y_i0_ok y_c0_ok yT17 (fun _ h1 h2 => y_po_ok h1 h2) yd17_0 _ (List.mem_singleton.mpr rfl)))
noncomputable def ycs17 : List yCt := [yct17_0]
theorem yCs17 : ∀ ct ∈ ycs17, y_Mca yG 17 ct := (y_l1 yc17_0 y_l0)
/-- NameHall.wipe()I -/
noncomputable def yt18 : List (Nat × yB) := [(0, fun ih => yo_lda 0 (yo_gf yG 9 0 (yo_cts yG ycs17 9 0 2 0 0 0 0 (yo_ri 1))))]
set_option maxRecDepth 100000 in
theorem yT18 : y_T yG none y_i0 (y_cc 17 ycs17 y_c0) ev_r18.1 (fun _ => none) yt18 := (y_T_cons 4 rfl y_T_nil)
def yct18_0 : yCt := ([(2, Int.ofNat 0, Int.ofNat 0, false)], (some (0, Int.ofNat 0, Int.ofNat 40, false)), [(1, 1, 1)])
set_option maxRecDepth 100000 in
theorem yd18_0 : y_drv yt18 (y_st []) none (y_po yct18_0) [0] 100000 5000 [y_start 0 yct18_0] = true := by decide +kernel
theorem yc18_0 : y_Mca yG 18 yct18_0 := y_Mca_of (r := ev_r18) rfl (y_con (k := 0) (by decide) (fun hc0 _ => y_drv_ok (h0 := (yG, hc0)) y_i0_ok (y_cc_ok yCs17 y_c0_ok) yT18 (fun _ h1 h2 => y_po_ok h1 h2) yd18_0 _ (List.mem_singleton.mpr rfl)))
noncomputable def ycs18 : List yCt := [yct18_0]
theorem yCs18 : ∀ ct ∈ ycs18, y_Mca yG 18 ct := (y_l1 yc18_0 y_l0)
/-- NameHallModel.wipe()I -/
noncomputable def yt19 : List (Nat × yB) := [(0, fun ih => yo_lda 0 (yo_gf yG 10 13 (yo_st 0 1 2 (yo_lda 0 (yo_push (0, 0, Int.ofNat 0) (yo_pf yG 10 13 0 (yo_ld 0 1 (yo_ri 1))))))))]
set_option maxRecDepth 100000 in
theorem yT19 : y_T yG none y_i0 y_c0 ev_r19.1 (fun _ => none) yt19 := (y_T_cons 8 rfl y_T_nil)
def yct19_0 : yCt := ([(2, Int.ofNat 55, Int.ofNat 55, false)], (some (0, Int.ofNat 0, Int.ofNat 40, false)), [(55, 13, 13)])
set_option maxRecDepth 100000 in
theorem yd19_0 : y_drv yt19 (y_st []) none (y_po yct19_0) [0] 100000 5000 [y_start 1 yct19_0] = true := by decide +kernel
theorem yc19_0 : y_Mca yG 19 yct19_0 := y_Mca_of (r := ev_r19) rfl (y_con (k := 1) (by decide) (fun hc0 _ => y_drv_ok (h0 := (yG, hc0)) y_i0_ok y_c0_ok yT19 (fun _ h1 h2 => y_po_ok h1 h2) yd19_0 _ (List.mem_singleton.mpr rfl)))
noncomputable def ycs19 : List yCt := [yct19_0]
theorem yCs19 : ∀ ct ∈ ycs19, y_Mca yG 19 ct := (y_l1 yc19_0 y_l0)
/-- NameHall$Text.letterAt(I)C -/
noncomputable def yt20 : List (Nat × yB) := [(0, fun ih => yo_ld 0 1 (yo_if .lt (ih 30) (yo_ld 0 1 (yo_lda 0 (yo_gf yG 8 1 (yo_ic .ge (ih 30) (yo_ld 0 1 (yo_lda 0 (yo_gf yG 8 0 (yo_len yG (yo_ic .ge (ih 30) (yo_lda 0 (yo_gf yG 8 0 (yo_ld 0 1 (yo_al yG none 1 (ih 31)))))))))))))))),
  (30, fun ih => yo_push (0, 0, Int.ofNat 0) (ih 31)),
  (31, fun ih => yo_ri 3)]
set_option maxRecDepth 100000 in
theorem yT20 : y_T yG none y_i0 y_c0 ev_r20.1 (fun _ => none) yt20 := (y_T_cons 16 rfl (y_T_cons 1 rfl (y_T_cons 1 rfl y_T_nil)))
def yct20_0 : yCt := ([(2, Int.ofNat 1, Int.ofNat 1, false), (0, Int.negSucc 2147483647, Int.ofNat 2147483647, false)], (some (0, Int.ofNat 0, Int.ofNat 65535, false)), [])
set_option maxRecDepth 100000 in
theorem yd20_0 : y_drv yt20 (y_st []) none (y_po yct20_0) [0] 100000 5000 [y_start 0 yct20_0] = true := by decide +kernel
theorem yc20_0 : y_Mca yG 20 yct20_0 := y_Mca_of (r := ev_r20) rfl (y_con (k := 0) (by decide) (fun hc0 _ => y_drv_ok (h0 := (yG, hc0)) y_i0_ok y_c0_ok yT20 (fun _ h1 h2 => y_po_ok h1 h2) yd20_0 _ (List.mem_singleton.mpr rfl)))
noncomputable def ycs20 : List yCt := [yct20_0]
theorem yCs20 : ∀ ct ∈ ycs20, y_Mca yG 20 ct := (y_l1 yc20_0 y_l0)
/-- NameHall$Text.isWrong(ICC)Z -/
noncomputable def yt21 : List (Nat × yB) := [(0, fun ih => yo_ld 0 1 (yo_lda 0 (yo_gf yG 8 1 (yo_ic .ge (ih 30) (yo_lda 0 (yo_ld 0 1 (yo_cts yG ycs20 9 1 2 0 0 0 0 (yo_ld 0 2 (yo_ic .lt (ih 26) (yo_lda 0 (yo_ld 0 1 (yo_cts yG ycs20 9 1 2 0 0 0 0 (yo_ld 0 3 (yo_ic .le (ih 30) (ih 26))))))))))))))),
  (26, fun ih => yo_push (0, 0, Int.ofNat 1) (ih 31)),
  (30, fun ih => yo_push (0, 0, Int.ofNat 0) (ih 31)),
  (31, fun ih => yo_ri 2)]
set_option maxRecDepth 100000 in
theorem yT21 : y_T yG none y_i0 (y_cc 20 ycs20 y_c0) ev_r21.1 (fun _ => none) yt21 := (y_T_cons 14 rfl (y_T_cons 2 rfl (y_T_cons 1 rfl (y_T_cons 1 rfl y_T_nil))))
noncomputable def ym21 : List xv → yH → xE → yR := y_mth 0 yt21 100000
theorem yM21 (hc0 : ev_H) : y_Ma (yG, hc0) 21 ym21 := y_Ma_of (r := ev_r21) rfl (ys_mth (h0 := (yG, hc0)) y_i0_ok (y_cc_ok yCs20 y_c0_ok) yT21)
/-- NameHall$Text.nameFault(I)I -/
noncomputable def yt22 : List (Nat × yB) := [(0, fun ih => yo_lda 0 (yo_ld 0 1 (yo_push (0, 0, Int.ofNat 1) (yo_bin 0 0 yg_add (yo_push (0, 0, Int.ofNat 48) (yo_push (0, 0, Int.ofNat 51) (yo_cl yG ym21 9 3 4 0 0 0 0 (yo_if .eq (ih 18) (yo_ld 0 1 (yo_push (0, 0, Int.ofNat 1) (yo_bin 0 0 yg_add (yo_ri 1)))))))))))),
  (18, fun ih => yo_lda 0 (yo_ld 0 1 (yo_push (0, 0, Int.ofNat 2) (yo_bin 0 0 yg_add (yo_push (0, 0, Int.ofNat 49) (yo_push (0, 0, Int.ofNat 57) (yo_cl yG ym21 9 3 4 0 0 0 0 (yo_if .eq (ih 36) (yo_ld 0 1 (yo_push (0, 0, Int.ofNat 2) (yo_bin 0 0 yg_add (yo_ri 1)))))))))))),
  (36, fun ih => yo_ld 0 1 (yo_push (0, 0, Int.ofNat 3) (yo_bin 0 0 yg_add (yo_lda 0 (yo_gf yG 8 1 (yo_ic .le (ih 53) (yo_lda 0 (yo_gf yG 8 1 (ih 55))))))))),
  (53, fun ih => yo_push (0, 0, Int.negSucc 8) (ih 55)),
  (55, fun ih => yo_ri 1)]
set_option maxRecDepth 100000 in
theorem yT22 : y_T yG none (y_ic 21 ym21 y_i0) y_c0 ev_r22.1 (fun _ => none) yt22 := (y_T_cons 12 rfl (y_T_cons 12 rfl (y_T_cons 9 rfl (y_T_cons 1 rfl (y_T_cons 1 rfl y_T_nil)))))
def yct22_0 : yCt := ([(2, Int.ofNat 1, Int.ofNat 1, false), (0, Int.ofNat 1, Int.ofNat 39, false)], (some (0, Int.ofNat 0, Int.ofNat 40, true)), [])
set_option maxRecDepth 100000 in
theorem yd22_0 : y_drv yt22 (y_st []) none (y_po yct22_0) [0] 100000 5000 [y_start 0 yct22_0] = true := by decide +kernel
theorem yc22_0 : y_Mca yG 22 yct22_0 := y_Mca_of (r := ev_r22) rfl (y_con (k := 0) (by decide) (fun hc0 _ => y_drv_ok (h0 := (yG, hc0)) (y_ic_ok (yM21 hc0) y_i0_ok) y_c0_ok yT22 (fun _ h1 h2 => y_po_ok h1 h2) yd22_0 _ (List.mem_singleton.mpr rfl)))
noncomputable def ycs22 : List yCt := [yct22_0]
theorem yCs22 : ∀ ct ∈ ycs22, y_Mca yG 22 ct := (y_l1 yc22_0 y_l0)
/-- NameHall$Text.personFault(I)I -/
noncomputable def yt23 : List (Nat × yB) := [(0, fun ih => yo_lda 0 (yo_ld 0 1 (yo_push (0, 0, Int.ofNat 1) (yo_bin 0 0 yg_add (yo_push (0, 0, Int.ofNat 48) (yo_push (0, 0, Int.ofNat 57) (yo_cl yG ym21 9 3 4 0 0 0 0 (yo_if .eq (ih 18) (yo_ld 0 1 (yo_push (0, 0, Int.ofNat 1) (yo_bin 0 0 yg_add (yo_ri 1)))))))))))),
  (18, fun ih => yo_lda 0 (yo_ld 0 1 (yo_push (0, 0, Int.ofNat 2) (yo_bin 0 0 yg_add (yo_lda 0 (yo_ld 0 1 (yo_push (0, 0, Int.ofNat 1) (yo_bin 0 0 yg_add (yo_cts yG ycs20 9 1 2 0 0 0 0 (yo_push (0, 0, Int.ofNat 57) (yo_cl yG ym21 9 3 4 0 0 0 0 (yo_if .eq (ih 41) (yo_ld 0 1 (yo_push (0, 0, Int.ofNat 2) (yo_bin 0 0 yg_add (yo_ri 1)))))))))))))))),
  (41, fun ih => yo_lda 0 (yo_ld 0 1 (yo_push (0, 0, Int.ofNat 3) (yo_bin 0 0 yg_add (yo_push (0, 0, Int.ofNat 97) (yo_push (0, 0, Int.ofNat 112) (yo_cl yG ym21 9 3 4 0 0 0 0 (yo_if .eq (ih 59) (yo_ld 0 1 (yo_push (0, 0, Int.ofNat 3) (yo_bin 0 0 yg_add (yo_ri 1)))))))))))),
  (59, fun ih => yo_ld 0 1 (yo_push (0, 0, Int.ofNat 4) (yo_bin 0 0 yg_add (yo_lda 0 (yo_gf yG 8 1 (yo_ic .le (ih 76) (yo_lda 0 (yo_gf yG 8 1 (ih 78))))))))),
  (76, fun ih => yo_push (0, 0, Int.negSucc 8) (ih 78)),
  (78, fun ih => yo_ri 1)]
set_option maxRecDepth 100000 in
theorem yT23 : y_T yG none (y_ic 21 ym21 y_i0) (y_cc 20 ycs20 y_c0) ev_r23.1 (fun _ => none) yt23 := (y_T_cons 12 rfl (y_T_cons 16 rfl (y_T_cons 12 rfl (y_T_cons 9 rfl (y_T_cons 1 rfl (y_T_cons 1 rfl y_T_nil))))))
def yct23_0 : yCt := ([(2, Int.ofNat 1, Int.ofNat 1, false), (0, Int.ofNat 1, Int.ofNat 39, false)], (some (0, Int.ofNat 0, Int.ofNat 40, true)), [])
set_option maxRecDepth 100000 in
theorem yd23_0 : y_drv yt23 (y_st []) none (y_po yct23_0) [0] 100000 5000 [y_start 0 yct23_0] = true := by decide +kernel
theorem yc23_0 : y_Mca yG 23 yct23_0 := y_Mca_of (r := ev_r23) rfl (y_con (k := 0) (by decide) (fun hc0 _ => y_drv_ok (h0 := (yG, hc0)) (y_ic_ok (yM21 hc0) y_i0_ok) (y_cc_ok yCs20 y_c0_ok) yT23 (fun _ h1 h2 => y_po_ok h1 h2) yd23_0 _ (List.mem_singleton.mpr rfl)))
noncomputable def ycs23 : List yCt := [yct23_0]
theorem yCs23 : ∀ ct ∈ ycs23, y_Mca yG 23 ct := (y_l1 yc23_0 y_l0)
/-- NameHall$Text.firstFault()I -/
noncomputable def yt24 : List (Nat × yB) := [(0, fun ih => yo_lda 0 (yo_push (0, 0, Int.ofNat 0) (yo_cts yG ycs20 9 1 2 0 0 0 0 (yo_push (0, 0, Int.ofNat 72) (yo_ic .eq (ih 12) (yo_push (0, 0, Int.ofNat 0) (yo_ri 1))))))),
  (12, fun ih => yo_push (0, 0, Int.ofNat 0) (yo_st 0 1 7 (yo_push (0, 0, Int.ofNat 0) (yo_st 0 2 7 (yo_push (0, 0, Int.ofNat 1) (yo_st 0 3 7 (ih 18))))))),
  (18, fun ih => yo_ld 0 3 (yo_lda 0 (yo_gf yG 8 1 (yo_ic .ge (ih 159) (yo_lda 0 (yo_ld 0 3 (yo_cts yG ycs20 9 1 2 0 0 0 0 (yo_push (0, 0, Int.ofNat 78) (yo_ic .ne (ih 40) (yo_push (0, 0, Int.ofNat 1) (ih 41))))))))))),
  (40, fun ih => yo_push (0, 0, Int.ofNat 0) (ih 41)),
  (41, fun ih => yo_st 0 4 7 (yo_lda 0 (yo_ld 0 3 (yo_cts yG ycs20 9 1 2 0 0 0 0 (yo_push (0, 0, Int.ofNat 80) (yo_ic .ne (ih 57) (yo_push (0, 0, Int.ofNat 1) (ih 58)))))))),
  (57, fun ih => yo_push (0, 0, Int.ofNat 0) (ih 58)),
  (58, fun ih => yo_st 0 5 7 (yo_ld 0 1 (yo_ld 0 4 (yo_if .eq (ih 70) (yo_push (0, 0, Int.ofNat 1) (ih 71)))))),
  (70, fun ih => yo_push (0, 0, Int.ofNat 0) (ih 71)),
  (71, fun ih => yo_bin 0 0 yg_add (yo_st 0 1 7 (yo_ld 0 2 (yo_ld 0 5 (yo_if .eq (ih 83) (yo_push (0, 0, Int.ofNat 1) (ih 84))))))),
  (83, fun ih => yo_push (0, 0, Int.ofNat 0) (ih 84)),
  (84, fun ih => yo_bin 0 0 yg_add (yo_st 0 2 7 (yo_ld 0 4 (yo_if .ne (ih 96) (yo_ld 0 5 (yo_if .eq (ih 106) (ih 96))))))),
  (96, fun ih => yo_ld 0 1 (yo_push (0, 0, Int.ofNat 4) (yo_ic .gt (ih 106) (yo_ld 0 2 (yo_push (0, 0, Int.ofNat 5) (yo_ic .le (ih 108) (ih 106))))))),
  (106, fun ih => yo_ld 0 3 (yo_ri 1)),
  (108, fun ih => yo_ld 0 4 (yo_if .eq (ih 121) (yo_lda 0 (yo_ld 0 3 (yo_cts yG ycs22 9 1 2 0 0 0 0 (ih 126)))))),
  (121, fun ih => yo_lda 0 (yo_ld 0 3 (yo_cts yG ycs23 9 1 2 0 0 0 0 (ih 126)))),
  (126, fun ih => yo_st 0 6 7 (yo_ld 0 6 (yo_push (0, 0, Int.negSucc 8) (yo_ic .eq (ih 138) (yo_ld 0 6 (yo_ri 1)))))),
  (138, fun ih => yo_ld 0 3 (yo_lda 0 (yo_ld 0 3 (yo_cts yG ycs20 9 1 2 0 0 0 0 (yo_push (0, 0, Int.ofNat 78) (yo_ic .ne (ih 153) (yo_push (0, 0, Int.ofNat 3) (ih 154)))))))),
  (153, fun ih => yo_push (0, 0, Int.ofNat 4) (ih 154)),
  (154, fun ih => yo_bin 0 0 yg_add (yo_st 0 3 7 (ih 18))),
  (159, fun ih => yo_push (0, 0, Int.negSucc 8) (yo_ri 1))]
set_option maxRecDepth 100000 in
theorem yT24 : y_T yG none y_i0 (y_cc 20 ycs20 (y_cc 22 ycs22 (y_cc 23 ycs23 y_c0))) ev_r24.1 (fun _ => none) yt24 := (y_T_cons 7 rfl (y_T_cons 6 rfl (y_T_cons 11 rfl (y_T_cons 1 rfl (y_T_cons 8 rfl (y_T_cons 1 rfl (y_T_cons 6 rfl (y_T_cons 1 rfl (y_T_cons 7 rfl (y_T_cons 1 rfl (y_T_cons 6 rfl (y_T_cons 6 rfl (y_T_cons 2 rfl (y_T_cons 6 rfl (y_T_cons 3 rfl (y_T_cons 6 rfl (y_T_cons 8 rfl (y_T_cons 1 rfl (y_T_cons 3 rfl (y_T_cons 2 rfl y_T_nil))))))))))))))))))))
def yct24_0 : yCt := ([(2, Int.ofNat 1, Int.ofNat 1, false)], (some (0, Int.ofNat 0, Int.ofNat 40, true)), [])
set_option maxRecDepth 100000 in
theorem yd24_0 : y_drv yt24 (y_st [18]) none (y_po yct24_0) [0, 18] 100000 5000 [y_start 6 yct24_0] = true := by decide +kernel
theorem yc24_0 : y_Mca yG 24 yct24_0 := y_Mca_of (r := ev_r24) rfl (y_con (k := 6) (by decide) (fun hc0 _ => y_drv_ok (h0 := (yG, hc0)) y_i0_ok (y_cc_ok yCs20 (y_cc_ok yCs22 (y_cc_ok yCs23 y_c0_ok))) yT24 (fun _ h1 h2 => y_po_ok h1 h2) yd24_0 _ (List.mem_singleton.mpr rfl)))
noncomputable def ycs24 : List yCt := [yct24_0]
theorem yCs24 : ∀ ct ∈ ycs24, y_Mca yG 24 ct := (y_l1 yc24_0 y_l0)
/-- NameHall.fault()I -/
noncomputable def yt25 : List (Nat × yB) := [(0, fun ih => yo_lda 0 (yo_gf yG 9 0 (yo_cts yG ycs24 9 0 7 0 0 0 0 (yo_ri 1))))]
set_option maxRecDepth 100000 in
theorem yT25 : y_T yG none y_i0 (y_cc 24 ycs24 y_c0) ev_r25.1 (fun _ => none) yt25 := (y_T_cons 4 rfl y_T_nil)
def yct25_0 : yCt := ([(2, Int.ofNat 0, Int.ofNat 0, false)], (some (0, Int.ofNat 0, Int.ofNat 40, true)), [])
set_option maxRecDepth 100000 in
theorem yd25_0 : y_drv yt25 (y_st []) none (y_po yct25_0) [0] 100000 5000 [y_start 0 yct25_0] = true := by decide +kernel
theorem yc25_0 : y_Mca yG 25 yct25_0 := y_Mca_of (r := ev_r25) rfl (y_con (k := 0) (by decide) (fun hc0 _ => y_drv_ok (h0 := (yG, hc0)) y_i0_ok (y_cc_ok yCs24 y_c0_ok) yT25 (fun _ h1 h2 => y_po_ok h1 h2) yd25_0 _ (List.mem_singleton.mpr rfl)))
noncomputable def ycs25 : List yCt := [yct25_0]
theorem yCs25 : ∀ ct ∈ ycs25, y_Mca yG 25 ct := (y_l1 yc25_0 y_l0)
/-- NameHallModel.letterOf(III)I -/
noncomputable def yt26 : List (Nat × yB) := [(0, fun ih => yo_lda 0 (yo_gf yG 10 15 (yo_push (0, 0, Int.negSucc 8) (yo_ic .ne (ih 32) (yo_lda 0 (yo_gf yG 10 14 (yo_lda 0 (yo_gf yG 10 13 (yo_ic .ge (ih 32) (yo_lda 0 (yo_gf yG 10 12 (yo_lda 0 (yo_gf yG 10 14 (yo_al yG none 0 (ih 34))))))))))))))),
  (32, fun ih => yo_push (0, 0, Int.negSucc 8) (ih 34)),
  (34, fun ih => yo_st 0 4 5 (yo_ld 0 4 (yo_un 0 xg_i2l (yo_ld 0 1 (yo_un 0 xg_i2l (yo_ld 0 2 (yo_un 0 xg_i2l (yo_cl yG ym15 0 3 6 0 0 0 0 (yo_if .ne (ih 75) (yo_lda 0 (yo_lda 0 (yo_gf yG 10 15 (yo_push (0, 0, Int.negSucc 8) (yo_ic .ne (ih 66) (yo_lda 0 (yo_gf yG 10 14 (ih 70))))))))))))))))),
  (66, fun ih => yo_lda 0 (yo_gf yG 10 15 (ih 70))),
  (70, fun ih => yo_pf yG 10 15 0 (yo_push (0, 0, Int.ofNat 0) (yo_ri 1))),
  (75, fun ih => yo_lda 0 (yo_dup (yo_gf yG 10 14 (yo_push (0, 0, Int.ofNat 1) (yo_bin 0 0 yg_add (yo_pf yG 10 14 0 (yo_ld 0 4 (yo_ld 0 3 (yo_bin 0 0 yg_sub (yo_ri 1))))))))))]
set_option maxRecDepth 100000 in
theorem yT26 : y_T yG none (y_ic 15 ym15 y_i0) y_c0 ev_r26.1 (fun _ => none) yt26 := (y_T_cons 15 rfl (y_T_cons 1 rfl (y_T_cons 17 rfl (y_T_cons 2 rfl (y_T_cons 3 rfl (y_T_cons 10 rfl y_T_nil))))))
noncomputable def ym26 : List xv → yH → xE → yR := y_mth 1 yt26 100000
theorem yM26 (hc0 : ev_H) : y_Ma (yG, hc0) 26 ym26 := y_Ma_of (r := ev_r26) rfl (ys_mth (h0 := (yG, hc0)) (y_ic_ok (yM15 hc0) y_i0_ok) y_c0_ok yT26)
/-- NameHallModel.readText()I -/
noncomputable def yt27 : List (Nat × yB) := [(0, fun ih => yo_lda 0 (yo_push (0, 0, Int.ofNat 0) (yo_pf yG 10 14 0 (yo_lda 0 (yo_push (0, 0, Int.negSucc 8) (yo_pf yG 10 15 0 (yo_lda 0 (yo_push (0, 0, Int.ofNat 0) (yo_pf yG 10 10 0 (yo_lda 0 (yo_push (0, 0, Int.ofNat 0) (yo_pf yG 10 11 0 (yo_lda 0 (yo_gf yG 10 13 (yo_if .eq (ih 39) (yo_lda 0 (yo_gf yG 10 12 (yo_push (0, 0, Int.ofNat 0) (yo_al yG none 0 (yo_push (0, 0, Int.ofNat 72) (yo_ic .eq (ih 41) (ih 39)))))))))))))))))))))),
  (39, fun ih => yo_push (0, 0, Int.ofNat 0) (yo_ri 1)),
  (41, fun ih => yo_lda 0 (yo_push (0, 0, Int.ofNat 1) (yo_pf yG 10 14 0 (ih 46)))),
  (46, fun ih => yo_lda 0 (yo_gf yG 10 15 (yo_push (0, 0, Int.negSucc 8) (yo_ic .ne (ih 282) (yo_lda 0 (yo_gf yG 10 14 (yo_lda 0 (yo_gf yG 10 13 (yo_ic .ge (ih 282) (yo_lda 0 (yo_gf yG 10 12 (yo_lda 0 (yo_gf yG 10 14 (yo_al yG none 0 (yo_push (0, 0, Int.ofNat 78) (yo_ic .ne (ih 155) (yo_lda 0 (yo_gf yG 10 10 (yo_push (0, 0, Int.ofNat 4) (yo_ic .ge (ih 155) (yo_lda 0 (yo_dup (yo_gf yG 10 14 (yo_push (0, 0, Int.ofNat 1) (yo_bin 0 0 yg_add (yo_pf yG 10 14 0 (yo_lda 0 (yo_gf yG 10 8 (yo_push (0, 0, Int.ofNat 2) (yo_lda 0 (yo_gf yG 10 10 (yo_bin 0 0 (xg_i (· * ·) yg_mul) (yo_lda 0 (yo_push (0, 0, Int.ofNat 48) (yo_push (0, 0, Int.ofNat 51) (yo_push (0, 0, Int.ofNat 48) (yo_cl yG ym26 11 3 5 0 0 0 0 (ih 118)))))))))))))))))))))))))))))))))))))),
  (118, fun ih => yo_as yG 0 (yo_lda 0 (yo_gf yG 10 8 (yo_push (0, 0, Int.ofNat 2) (yo_lda 0 (yo_gf yG 10 10 (yo_bin 0 0 (xg_i (· * ·) yg_mul) (yo_push (0, 0, Int.ofNat 1) (yo_bin 0 0 yg_add (yo_lda 0 (yo_push (0, 0, Int.ofNat 49) (yo_push (0, 0, Int.ofNat 57) (yo_push (0, 0, Int.ofNat 48) (yo_cl yG ym26 11 3 5 0 0 0 0 (ih 141))))))))))))))),
  (141, fun ih => yo_as yG 0 (yo_lda 0 (yo_dup (yo_gf yG 10 10 (yo_push (0, 0, Int.ofNat 1) (yo_bin 0 0 yg_add (yo_pf yG 10 10 0 (ih 46)))))))),
  (155, fun ih => yo_lda 0 (yo_gf yG 10 12 (yo_lda 0 (yo_gf yG 10 14 (yo_al yG none 0 (yo_push (0, 0, Int.ofNat 80) (yo_ic .ne (ih 271) (yo_lda 0 (yo_gf yG 10 11 (yo_push (0, 0, Int.ofNat 5) (yo_ic .ge (ih 271) (yo_lda 0 (yo_dup (yo_gf yG 10 14 (yo_push (0, 0, Int.ofNat 1) (yo_bin 0 0 yg_add (yo_pf yG 10 14 0 (yo_lda 0 (yo_push (0, 0, Int.ofNat 48) (yo_push (0, 0, Int.ofNat 57) (yo_push (0, 0, Int.ofNat 48) (yo_cl yG ym26 11 3 5 0 0 0 0 (ih 197))))))))))))))))))))))),
  (197, fun ih => yo_st 0 1 2 (yo_lda 0 (yo_gf yG 10 9 (yo_push (0, 0, Int.ofNat 3) (yo_lda 0 (yo_gf yG 10 11 (yo_bin 0 0 (xg_i (· * ·) yg_mul) (yo_ld 0 1 (yo_as yG 0 (yo_lda 0 (yo_gf yG 10 9 (yo_push (0, 0, Int.ofNat 3) (yo_lda 0 (yo_gf yG 10 11 (yo_bin 0 0 (xg_i (· * ·) yg_mul) (yo_push (0, 0, Int.ofNat 1) (yo_bin 0 0 yg_add (yo_lda 0 (yo_push (0, 0, Int.ofNat 48) (yo_ld 0 1 (yo_bin 0 0 yg_add (yo_push (0, 0, Int.ofNat 57) (yo_push (0, 0, Int.ofNat 48) (yo_cl yG ym26 11 3 5 0 0 0 0 (ih 234))))))))))))))))))))))))),
  (234, fun ih => yo_as yG 0 (yo_lda 0 (yo_gf yG 10 9 (yo_push (0, 0, Int.ofNat 3) (yo_lda 0 (yo_gf yG 10 11 (yo_bin 0 0 (xg_i (· * ·) yg_mul) (yo_push (0, 0, Int.ofNat 2) (yo_bin 0 0 yg_add (yo_lda 0 (yo_push (0, 0, Int.ofNat 97) (yo_push (0, 0, Int.ofNat 112) (yo_push (0, 0, Int.ofNat 97) (yo_cl yG ym26 11 3 5 0 0 0 0 (ih 257))))))))))))))),
  (257, fun ih => yo_as yG 0 (yo_lda 0 (yo_dup (yo_gf yG 10 11 (yo_push (0, 0, Int.ofNat 1) (yo_bin 0 0 yg_add (yo_pf yG 10 11 0 (ih 46)))))))),
  (271, fun ih => yo_lda 0 (yo_lda 0 (yo_gf yG 10 14 (yo_pf yG 10 15 0 (ih 46))))),
  (282, fun ih => yo_lda 0 (yo_gf yG 10 15 (yo_ri 1)))]
set_option maxRecDepth 100000 in
theorem yT27 : y_T yG none (y_ic 26 ym26 y_i0) y_c0 ev_r27.1 (fun _ => none) yt27 := (y_T_cons 21 rfl (y_T_cons 2 rfl (y_T_cons 3 rfl (y_T_cons 37 rfl (y_T_cons 14 rfl (y_T_cons 8 rfl (y_T_cons 22 rfl (y_T_cons 24 rfl (y_T_cons 14 rfl (y_T_cons 8 rfl (y_T_cons 5 rfl (y_T_cons 3 rfl y_T_nil))))))))))))
def yct27_0 : yCt := ([(2, Int.ofNat 55, Int.ofNat 55, false)], (some (0, Int.ofNat 0, Int.ofNat 40, true)), [(55, 10, 11), (55, 14, 15), (62, 0, 7), (63, 0, 14)])
set_option maxRecDepth 100000 in
theorem yd27_0 : y_drv yt27 (y_st [46, 118, 141, 197, 234, 257]) (some (55, 15)) (y_po yct27_0) [0, 118, 141, 197, 234, 257, 46] 100000 5000 [y_start 1 yct27_0] = true := by decide +kernel
theorem yc27_0 : y_Mca yG 27 yct27_0 := y_Mca_of (r := ev_r27) rfl (y_con (k := 1) (by decide) (fun hc0 _ => y_drv_ok (h0 := (yG, hc0)) (y_ic_ok (yM26 hc0) y_i0_ok) y_c0_ok yT27 (fun _ h1 h2 => y_po_ok h1 h2) yd27_0 _ (List.mem_singleton.mpr rfl)))
noncomputable def ycs27 : List yCt := [yct27_0]
theorem yCs27 : ∀ ct ∈ ycs27, y_Mca yG 27 ct := (y_l1 yc27_0 y_l0)
/-- NameHallModel.fault()I -/
noncomputable def yt28 : List (Nat × yB) := [(0, fun ih => yo_lda 0 (yo_cts yG ycs27 11 0 2 0 0 0 0 (yo_ri 1)))]
set_option maxRecDepth 100000 in
theorem yT28 : y_T yG none y_i0 (y_cc 27 ycs27 y_c0) ev_r28.1 (fun _ => none) yt28 := (y_T_cons 3 rfl y_T_nil)
def yct28_0 : yCt := ([(2, Int.ofNat 55, Int.ofNat 55, false)], (some (0, Int.ofNat 0, Int.ofNat 40, true)), [(55, 10, 11), (55, 14, 15), (62, 0, 7), (63, 0, 14)])
set_option maxRecDepth 100000 in
theorem yd28_0 : y_drv yt28 (y_st []) none (y_po yct28_0) [0] 100000 5000 [y_start 0 yct28_0] = true := by decide +kernel
theorem yc28_0 : y_Mca yG 28 yct28_0 := y_Mca_of (r := ev_r28) rfl (y_con (k := 0) (by decide) (fun hc0 _ => y_drv_ok (h0 := (yG, hc0)) y_i0_ok (y_cc_ok yCs27 y_c0_ok) yT28 (fun _ h1 h2 => y_po_ok h1 h2) yd28_0 _ (List.mem_singleton.mpr rfl)))
noncomputable def ycs28 : List yCt := [yct28_0]
theorem yCs28 : ∀ ct ∈ ycs28, y_Mca yG 28 ct := (y_l1 yc28_0 y_l0)
/-- NameHall$Plan.addName(II)V -/
noncomputable def yt29 : List (Nat × yB) := [(0, fun ih => yo_lda 0 (yo_gf yG 4 5 (yo_if .lt (ih 15) (yo_lda 0 (yo_gf yG 4 5 (yo_push (0, 0, Int.ofNat 4) (yo_ic .lt (ih 16) (ih 15)))))))),
  (15, fun ih => yo_rv 0),
  (16, fun ih => yo_lda 0 (yo_gf yG 4 0 (yo_lda 0 (yo_gf yG 4 5 (yo_ld 0 1 (yo_as yG 0 (yo_lda 0 (yo_gf yG 4 1 (yo_lda 0 (yo_gf yG 4 5 (yo_ld 0 2 (yo_as yG 0 (yo_lda 0 (yo_dup (yo_gf yG 4 5 (yo_push (0, 0, Int.ofNat 1) (yo_bin 0 0 yg_add (yo_pf yG 4 5 0 (yo_rv 0)))))))))))))))))))]
set_option maxRecDepth 100000 in
theorem yT29 : y_T yG none y_i0 y_c0 ev_r29.1 (fun _ => none) yt29 := (y_T_cons 7 rfl (y_T_cons 1 rfl (y_T_cons 19 rfl y_T_nil)))
def yct29_0 : yCt := ([(2, Int.ofNat 3, Int.ofNat 3, false), (0, Int.negSucc 2147483647, Int.ofNat 2147483647, false), (0, Int.negSucc 2147483647, Int.ofNat 2147483647, false)], none, [(3, 5, 5), (4, 0, 3), (5, 0, 3)])
set_option maxRecDepth 100000 in
theorem yd29_0 : y_drv yt29 (y_st []) none (y_po yct29_0) [0] 100000 5000 [y_start 0 yct29_0] = true := by decide +kernel
theorem yc29_0 : y_Mca yG 29 yct29_0 := y_Mca_of (r := ev_r29) rfl (y_con (k := 0) (by decide) (fun hc0 _ => y_drv_ok (h0 := (yG, hc0)) y_i0_ok y_c0_ok yT29 (fun _ h1 h2 => y_po_ok h1 h2) yd29_0 _ (List.mem_singleton.mpr rfl)))
noncomputable def ycs29 : List yCt := [yct29_0]
theorem yCs29 : ∀ ct ∈ ycs29, y_Mca yG 29 ct := (y_l1 yc29_0 y_l0)
/-- NameHall$Plan.addPerson(III)V -/
noncomputable def yt30 : List (Nat × yB) := [(0, fun ih => yo_lda 0 (yo_gf yG 4 6 (yo_if .lt (ih 15) (yo_lda 0 (yo_gf yG 4 6 (yo_push (0, 0, Int.ofNat 5) (yo_ic .lt (ih 16) (ih 15)))))))),
  (15, fun ih => yo_rv 0),
  (16, fun ih => yo_lda 0 (yo_gf yG 4 2 (yo_lda 0 (yo_gf yG 4 6 (yo_ld 0 1 (yo_as yG 0 (yo_lda 0 (yo_gf yG 4 3 (yo_lda 0 (yo_gf yG 4 6 (yo_ld 0 2 (yo_as yG 0 (yo_lda 0 (yo_gf yG 4 4 (yo_lda 0 (yo_gf yG 4 6 (yo_ld 0 3 (yo_as yG 0 (yo_lda 0 (yo_dup (yo_gf yG 4 6 (yo_push (0, 0, Int.ofNat 1) (yo_bin 0 0 yg_add (yo_pf yG 4 6 0 (yo_rv 0)))))))))))))))))))))))))]
set_option maxRecDepth 100000 in
theorem yT30 : y_T yG none y_i0 y_c0 ev_r30.1 (fun _ => none) yt30 := (y_T_cons 7 rfl (y_T_cons 1 rfl (y_T_cons 25 rfl y_T_nil)))
def yct30_0 : yCt := ([(2, Int.ofNat 3, Int.ofNat 3, false), (0, Int.negSucc 2147483647, Int.ofNat 2147483647, false), (0, Int.negSucc 2147483647, Int.ofNat 2147483647, false), (0, Int.negSucc 2147483647, Int.ofNat 2147483647, false)], none, [(3, 6, 6), (6, 0, 4), (7, 0, 4), (8, 0, 4)])
set_option maxRecDepth 100000 in
theorem yd30_0 : y_drv yt30 (y_st []) none (y_po yct30_0) [0] 100000 5000 [y_start 0 yct30_0] = true := by decide +kernel
theorem yc30_0 : y_Mca yG 30 yct30_0 := y_Mca_of (r := ev_r30) rfl (y_con (k := 0) (by decide) (fun hc0 _ => y_drv_ok (h0 := (yG, hc0)) y_i0_ok y_c0_ok yT30 (fun _ h1 h2 => y_po_ok h1 h2) yd30_0 _ (List.mem_singleton.mpr rfl)))
noncomputable def ycs30 : List yCt := [yct30_0]
theorem yCs30 : ∀ ct ∈ ycs30, y_Mca yG 30 ct := (y_l1 yc30_0 y_l0)
/-- NameHall$Plan.read(LNameHall$Text;)V -/
noncomputable def yt31 : List (Nat × yB) := [(0, fun ih => yo_lda 0 (yo_push (0, 0, Int.ofNat 0) (yo_pf yG 4 5 0 (yo_lda 0 (yo_push (0, 0, Int.ofNat 0) (yo_pf yG 4 6 0 (yo_push (0, 0, Int.ofNat 1) (yo_st 0 2 3 (ih 12))))))))),
  (12, fun ih => yo_ld 0 2 (yo_lda 1 (yo_cts yG ycs13 9 0 1 0 0 0 0 (yo_ic .ge (ih 112) (yo_lda 1 (yo_ld 0 2 (yo_cts yG ycs20 9 1 2 0 0 0 0 (yo_push (0, 0, Int.ofNat 78) (yo_ic .ne (ih 57) (yo_lda 0 (yo_lda 1 (yo_ld 0 2 (yo_push (0, 0, Int.ofNat 1) (yo_bin 0 0 yg_add (yo_cts yG ycs20 9 1 2 0 0 0 0 (yo_push (0, 0, Int.ofNat 48) (yo_bin 0 0 yg_sub (yo_lda 1 (yo_ld 0 2 (yo_push (0, 0, Int.ofNat 2) (yo_bin 0 0 yg_add (yo_cts yG ycs20 9 1 2 0 0 0 0 (yo_push (0, 0, Int.ofNat 48) (yo_bin 0 0 yg_sub (yo_cts yG ycs29 5 2 3 0 0 0 0 (ih 91)))))))))))))))))))))))))),
  (57, fun ih => yo_lda 0 (yo_lda 1 (yo_ld 0 2 (yo_push (0, 0, Int.ofNat 1) (yo_bin 0 0 yg_add (yo_cts yG ycs20 9 1 2 0 0 0 0 (yo_push (0, 0, Int.ofNat 48) (yo_bin 0 0 yg_sub (yo_lda 1 (yo_ld 0 2 (yo_push (0, 0, Int.ofNat 2) (yo_bin 0 0 yg_add (yo_cts yG ycs20 9 1 2 0 0 0 0 (yo_push (0, 0, Int.ofNat 48) (yo_bin 0 0 yg_sub (yo_lda 1 (yo_ld 0 2 (yo_push (0, 0, Int.ofNat 3) (yo_bin 0 0 yg_add (yo_cts yG ycs20 9 1 2 0 0 0 0 (yo_push (0, 0, Int.ofNat 97) (yo_bin 0 0 yg_sub (yo_cts yG ycs30 5 3 4 0 0 0 0 (ih 91)))))))))))))))))))))))),
  (91, fun ih => yo_ld 0 2 (yo_lda 1 (yo_ld 0 2 (yo_cts yG ycs20 9 1 2 0 0 0 0 (yo_push (0, 0, Int.ofNat 78) (yo_ic .ne (ih 106) (yo_push (0, 0, Int.ofNat 3) (ih 107)))))))),
  (106, fun ih => yo_push (0, 0, Int.ofNat 4) (ih 107)),
  (107, fun ih => yo_bin 0 0 yg_add (yo_st 0 2 3 (ih 12))),
  (112, fun ih => yo_rv 0)]
set_option maxRecDepth 100000 in
theorem yT31 : y_T yG none y_i0 (y_cc 13 ycs13 (y_cc 20 ycs20 (y_cc 29 ycs29 (y_cc 30 ycs30 y_c0)))) ev_r31.1 (fun _ => none) yt31 := (y_T_cons 8 rfl (y_T_cons 26 rfl (y_T_cons 23 rfl (y_T_cons 8 rfl (y_T_cons 1 rfl (y_T_cons 3 rfl (y_T_cons 1 rfl y_T_nil)))))))
def yct31_0 : yCt := ([(2, Int.ofNat 3, Int.ofNat 3, false), (2, Int.ofNat 1, Int.ofNat 1, false)], none, [(3, 5, 6), (4, 0, 3), (5, 0, 3), (6, 0, 4), (7, 0, 4), (8, 0, 4)])
set_option maxRecDepth 100000 in
theorem yd31_0 : y_drv yt31 (y_st [12]) none (y_po yct31_0) [0, 12] 100000 5000 [y_start 1 yct31_0] = true := by decide +kernel
theorem yc31_0 : y_Mca yG 31 yct31_0 := y_Mca_of (r := ev_r31) rfl (y_con (k := 1) (by decide) (fun hc0 _ => y_drv_ok (h0 := (yG, hc0)) y_i0_ok (y_cc_ok yCs13 (y_cc_ok yCs20 (y_cc_ok yCs29 (y_cc_ok yCs30 y_c0_ok)))) yT31 (fun _ h1 h2 => y_po_ok h1 h2) yd31_0 _ (List.mem_singleton.mpr rfl)))
noncomputable def ycs31 : List yCt := [yct31_0]
theorem yCs31 : ∀ ct ∈ ycs31, y_Mca yG 31 ct := (y_l1 yc31_0 y_l0)
/-- NameHall$Scene.hangAll()V -/
noncomputable def yt32 : List (Nat × yB) := [(0, fun ih => yo_lda 0 (yo_gf yG 6 1 (yo_push (0, 0, Int.negSucc 8) (yo_cts yG ycs2 0 2 4 0 0 0 0 (yo_lda 0 (yo_gf yG 6 2 (yo_push (0, 0, Int.ofNat 0) (yo_cts yG ycs2 0 2 4 0 0 0 0 (yo_rv 0)))))))))]
set_option maxRecDepth 100000 in
theorem yT32 : y_T yG none y_i0 (y_cc 2 ycs2 y_c0) ev_r32.1 (fun _ => none) yt32 := (y_T_cons 9 rfl y_T_nil)
def yct32_0 : yCt := ([(2, Int.ofNat 9, Int.ofNat 9, false)], none, [(10, 0, 4), (11, 0, 4)])
set_option maxRecDepth 100000 in
theorem yd32_0 : y_drv yt32 (y_st []) none (y_po yct32_0) [0] 100000 5000 [y_start 0 yct32_0] = true := by decide +kernel
theorem yc32_0 : y_Mca yG 32 yct32_0 := y_Mca_of (r := ev_r32) rfl (y_con (k := 0) (by decide) (fun hc0 _ => y_drv_ok (h0 := (yG, hc0)) y_i0_ok (y_cc_ok yCs2 y_c0_ok) yT32 (fun _ h1 h2 => y_po_ok h1 h2) yd32_0 _ (List.mem_singleton.mpr rfl)))
def yct32_1 : yCt := ([(2, Int.ofNat 13, Int.ofNat 13, false)], none, [(14, 0, 4), (15, 0, 4)])
set_option maxRecDepth 100000 in
theorem yd32_1 : y_drv yt32 (y_st []) none (y_po yct32_1) [0] 100000 5000 [y_start 0 yct32_1] = true := by decide +kernel
theorem yc32_1 : y_Mca yG 32 yct32_1 := y_Mca_of (r := ev_r32) rfl (y_con (k := 0) (by decide) (fun hc0 _ => y_drv_ok (h0 := (yG, hc0)) y_i0_ok (y_cc_ok yCs2 y_c0_ok) yT32 (fun _ h1 h2 => y_po_ok h1 h2) yd32_1 _ (List.mem_singleton.mpr rfl)))
noncomputable def ycs32 : List yCt := [yct32_0, yct32_1]
theorem yCs32 : ∀ ct ∈ ycs32, y_Mca yG 32 ct := (y_l1 yc32_0 (y_l1 yc32_1 y_l0))
/-- NameHall$Scene.startAnew()V -/
noncomputable def yt33 : List (Nat × yB) := [(0, fun ih => yo_lda 0 (yo_cts yG ycs32 7 0 1 0 0 0 0 (yo_lda 0 (yo_gf yG 6 3 (yo_push (0, 0, Int.ofNat 0) (yo_cts yG ycs2 0 2 4 0 0 0 0 (yo_lda 0 (yo_push (0, 0, Int.ofNat 0) (yo_pf yG 6 4 0 (yo_lda 0 (yo_push (0, 0, Int.ofNat 0) (yo_pf yG 6 5 0 (yo_lda 0 (yo_push (0, 0, Int.ofNat 0) (yo_pf yG 6 6 0 (yo_rv 0))))))))))))))))]
set_option maxRecDepth 100000 in
theorem yT33 : y_T yG none y_i0 (y_cc 32 ycs32 (y_cc 2 ycs2 y_c0)) ev_r33.1 (fun _ => none) yt33 := (y_T_cons 16 rfl y_T_nil)
def yct33_0 : yCt := ([(2, Int.ofNat 9, Int.ofNat 9, false)], none, [(9, 4, 6), (10, 0, 4), (11, 0, 4), (12, 0, 4)])
set_option maxRecDepth 100000 in
theorem yd33_0 : y_drv yt33 (y_st []) none (y_po yct33_0) [0] 100000 5000 [y_start 0 yct33_0] = true := by decide +kernel
theorem yc33_0 : y_Mca yG 33 yct33_0 := y_Mca_of (r := ev_r33) rfl (y_con (k := 0) (by decide) (fun hc0 _ => y_drv_ok (h0 := (yG, hc0)) y_i0_ok (y_cc_ok yCs32 (y_cc_ok yCs2 y_c0_ok)) yT33 (fun _ h1 h2 => y_po_ok h1 h2) yd33_0 _ (List.mem_singleton.mpr rfl)))
noncomputable def ycs33 : List yCt := [yct33_0]
theorem yCs33 : ∀ ct ∈ ycs33, y_Mca yG 33 ct := (y_l1 yc33_0 y_l0)
/-- NameHall$ActRow.clear()V -/
noncomputable def yt34 : List (Nat × yB) := [(0, fun ih => yo_lda 0 (yo_push (0, 0, Int.ofNat 0) (yo_pf yG 0 1 0 (yo_lda 0 (yo_push (0, 0, Int.ofNat 0) (yo_pf yG 0 2 0 (yo_rv 0)))))))]
set_option maxRecDepth 100000 in
theorem yT34 : y_T yG none y_i0 y_c0 ev_r34.1 (fun _ => none) yt34 := (y_T_cons 7 rfl y_T_nil)
def yct34_0 : yCt := ([(2, Int.ofNat 17, Int.ofNat 17, false)], none, [(17, 1, 2)])
set_option maxRecDepth 100000 in
theorem yd34_0 : y_drv yt34 (y_st []) none (y_po yct34_0) [0] 100000 5000 [y_start 0 yct34_0] = true := by decide +kernel
theorem yc34_0 : y_Mca yG 34 yct34_0 := y_Mca_of (r := ev_r34) rfl (y_con (k := 0) (by decide) (fun hc0 _ => y_drv_ok (h0 := (yG, hc0)) y_i0_ok y_c0_ok yT34 (fun _ h1 h2 => y_po_ok h1 h2) yd34_0 _ (List.mem_singleton.mpr rfl)))
noncomputable def ycs34 : List yCt := [yct34_0]
theorem yCs34 : ∀ ct ∈ ycs34, y_Mca yG 34 ct := (y_l1 yc34_0 y_l0)
/-- NameHall$Slots.clear()V -/
noncomputable def yt35 : List (Nat × yB) := [(0, fun ih => yo_push (0, 0, Int.ofNat 0) (yo_st 0 1 2 (ih 2))),
  (2, fun ih => yo_ld 0 1 (yo_push (0, 0, Int.ofNat 2) (yo_ic .ge (ih 20) (yo_lda 0 (yo_gf yG 7 1 (yo_ld 0 1 (yo_push (0, 0, Int.ofNat 0) (yo_as yG 2 (yo_inc 1 2 (Int.ofNat 1) (ih 2)))))))))),
  (20, fun ih => yo_rv 0)]
set_option maxRecDepth 100000 in
theorem yT35 : y_T yG none y_i0 y_c0 ev_r35.1 (fun _ => none) yt35 := (y_T_cons 2 rfl (y_T_cons 10 rfl (y_T_cons 1 rfl y_T_nil)))
def yct35_0 : yCt := ([(2, Int.ofNat 33, Int.ofNat 33, false)], none, [(37, 0, 1)])
set_option maxRecDepth 100000 in
theorem yd35_0 : y_drv yt35 (y_st [2]) none (y_po yct35_0) [0, 2] 100000 5000 [y_start 1 yct35_0] = true := by decide +kernel
theorem yc35_0 : y_Mca yG 35 yct35_0 := y_Mca_of (r := ev_r35) rfl (y_con (k := 1) (by decide) (fun hc0 _ => y_drv_ok (h0 := (yG, hc0)) y_i0_ok y_c0_ok yT35 (fun _ h1 h2 => y_po_ok h1 h2) yd35_0 _ (List.mem_singleton.mpr rfl)))
noncomputable def ycs35 : List yCt := [yct35_0]
theorem yCs35 : ∀ ct ∈ ycs35, y_Mca yG 35 ct := (y_l1 yc35_0 y_l0)
/-- NameHall$Plan.names()I -/
noncomputable def yt36 : List (Nat × yB) := [(0, fun ih => yo_lda 0 (yo_gf yG 4 5 (yo_ri 1)))]
set_option maxRecDepth 100000 in
theorem yT36 : y_T yG none y_i0 y_c0 ev_r36.1 (fun _ => none) yt36 := (y_T_cons 3 rfl y_T_nil)
def yct36_0 : yCt := ([(2, Int.ofNat 3, Int.ofNat 3, false)], (some (0, Int.ofNat 0, Int.ofNat 4, false)), [])
set_option maxRecDepth 100000 in
theorem yd36_0 : y_drv yt36 (y_st []) none (y_po yct36_0) [0] 100000 5000 [y_start 0 yct36_0] = true := by decide +kernel
theorem yc36_0 : y_Mca yG 36 yct36_0 := y_Mca_of (r := ev_r36) rfl (y_con (k := 0) (by decide) (fun hc0 _ => y_drv_ok (h0 := (yG, hc0)) y_i0_ok y_c0_ok yT36 (fun _ h1 h2 => y_po_ok h1 h2) yd36_0 _ (List.mem_singleton.mpr rfl)))
noncomputable def ycs36 : List yCt := [yct36_0]
theorem yCs36 : ∀ ct ∈ ycs36, y_Mca yG 36 ct := (y_l1 yc36_0 y_l0)
/-- NameHall$Plan.people()I -/
noncomputable def yt37 : List (Nat × yB) := [(0, fun ih => yo_lda 0 (yo_gf yG 4 6 (yo_ri 1)))]
set_option maxRecDepth 100000 in
theorem yT37 : y_T yG none y_i0 y_c0 ev_r37.1 (fun _ => none) yt37 := (y_T_cons 3 rfl y_T_nil)
def yct37_0 : yCt := ([(2, Int.ofNat 3, Int.ofNat 3, false)], (some (0, Int.ofNat 0, Int.ofNat 5, false)), [])
set_option maxRecDepth 100000 in
theorem yd37_0 : y_drv yt37 (y_st []) none (y_po yct37_0) [0] 100000 5000 [y_start 0 yct37_0] = true := by decide +kernel
theorem yc37_0 : y_Mca yG 37 yct37_0 := y_Mca_of (r := ev_r37) rfl (y_con (k := 0) (by decide) (fun hc0 _ => y_drv_ok (h0 := (yG, hc0)) y_i0_ok y_c0_ok yT37 (fun _ h1 h2 => y_po_ok h1 h2) yd37_0 _ (List.mem_singleton.mpr rfl)))
noncomputable def ycs37 : List yCt := [yct37_0]
theorem yCs37 : ∀ ct ∈ ycs37, y_Mca yG 37 ct := (y_l1 yc37_0 y_l0)
/-- NameHall.hall()I -/
noncomputable def yt38 : List (Nat × yB) := [(0, fun ih => yo_lda 0 (yo_gf yG 9 0 (yo_cts yG ycs24 9 0 7 0 0 0 0 (yo_push (0, 0, Int.negSucc 8) (yo_ic .eq (ih 15) (yo_push (0, 0, Int.negSucc 2) (yo_ri 1))))))),
  (15, fun ih => yo_lda 0 (yo_gf yG 9 1 (yo_lda 0 (yo_gf yG 9 0 (yo_cts yG ycs31 5 1 3 0 0 0 0 (yo_lda 0 (yo_gf yG 9 2 (yo_cts yG ycs33 7 0 1 0 0 0 0 (yo_lda 0 (yo_gf yG 9 4 (yo_cts yG ycs34 1 0 1 0 0 0 0 (yo_lda 0 (yo_gf yG 9 5 (yo_cts yG ycs35 8 0 2 0 0 0 0 (yo_push (0, 0, Int.ofNat 10) (yo_lda 0 (yo_gf yG 9 1 (yo_cts yG ycs36 5 0 1 0 0 0 0 (yo_bin 0 0 (xg_i (· * ·) yg_mul) (yo_lda 0 (yo_gf yG 9 1 (yo_cts yG ycs37 5 0 1 0 0 0 0 (yo_bin 0 0 yg_add (yo_ri 1))))))))))))))))))))))))]
set_option maxRecDepth 100000 in
theorem yT38 : y_T yG none y_i0 (y_cc 24 ycs24 (y_cc 31 ycs31 (y_cc 33 ycs33 (y_cc 34 ycs34 (y_cc 35 ycs35 (y_cc 36 ycs36 (y_cc 37 ycs37 y_c0))))))) ev_r38.1 (fun _ => none) yt38 := (y_T_cons 7 rfl (y_T_cons 24 rfl y_T_nil))
def yct38_0 : yCt := ([(2, Int.ofNat 0, Int.ofNat 0, false)], (some (0, Int.negSucc 2, Int.ofNat 45, false)), [(3, 5, 6), (4, 0, 3), (5, 0, 3), (6, 0, 4), (7, 0, 4), (8, 0, 4), (9, 4, 6), (10, 0, 4), (11, 0, 4), (12, 0, 4), (17, 1, 2), (37, 0, 1)])
set_option maxRecDepth 100000 in
theorem yd38_0 : y_drv yt38 (y_st []) none (y_po yct38_0) [0] 100000 5000 [y_start 0 yct38_0] = true := by decide +kernel
theorem yc38_0 : y_Mca yG 38 yct38_0 := y_Mca_of (r := ev_r38) rfl (y_con (k := 0) (by decide) (fun hc0 _ => y_drv_ok (h0 := (yG, hc0)) y_i0_ok (y_cc_ok yCs24 (y_cc_ok yCs31 (y_cc_ok yCs33 (y_cc_ok yCs34 (y_cc_ok yCs35 (y_cc_ok yCs36 (y_cc_ok yCs37 y_c0_ok))))))) yT38 (fun _ h1 h2 => y_po_ok h1 h2) yd38_0 _ (List.mem_singleton.mpr rfl)))
noncomputable def ycs38 : List yCt := [yct38_0]
theorem yCs38 : ∀ ct ∈ ycs38, y_Mca yG 38 ct := (y_l1 yc38_0 y_l0)
/-- NameHallModel.hall()I -/
noncomputable def yt39 : List (Nat × yB) := [(0, fun ih => yo_lda 0 (yo_cts yG ycs27 11 0 2 0 0 0 0 (yo_push (0, 0, Int.negSucc 8) (yo_ic .eq (ih 12) (yo_push (0, 0, Int.negSucc 2) (yo_ri 1)))))),
  (12, fun ih => yo_lda 0 (yo_lda 0 (yo_gf yG 10 10 (yo_pf yG 10 0 0 (yo_lda 0 (yo_lda 0 (yo_gf yG 10 11 (yo_pf yG 10 1 0 (yo_push (0, 0, Int.ofNat 0) (yo_st 0 1 2 (ih 30))))))))))),
  (30, fun ih => yo_ld 0 1 (yo_push (0, 0, Int.ofNat 18) (yo_ic .ge (ih 59) (yo_lda 0 (yo_gf yG 10 7 (yo_ld 0 1 (yo_ld 0 1 (yo_push (0, 0, Int.ofNat 5) (yo_ic .ge (ih 51) (yo_push (0, 0, Int.negSucc 8) (ih 52))))))))))),
  (51, fun ih => yo_push (0, 0, Int.ofNat 0) (ih 52)),
  (52, fun ih => yo_as yG 0 (yo_inc 1 2 (Int.ofNat 1) (ih 30))),
  (59, fun ih => yo_push (0, 0, Int.ofNat 0) (yo_st 0 1 2 (ih 61))),
  (61, fun ih => yo_ld 0 1 (yo_push (0, 0, Int.ofNat 4) (yo_ic .ge (ih 102) (yo_lda 0 (yo_gf yG 10 2 (yo_ld 0 1 (yo_lda 0 (yo_gf yG 10 8 (yo_push (0, 0, Int.ofNat 2) (yo_ld 0 1 (yo_bin 0 0 (xg_i (· * ·) yg_mul) (yo_al yG none 0 (yo_as yG 0 (yo_lda 0 (yo_gf yG 10 3 (yo_ld 0 1 (yo_lda 0 (yo_gf yG 10 8 (yo_push (0, 0, Int.ofNat 2) (yo_ld 0 1 (yo_bin 0 0 (xg_i (· * ·) yg_mul) (yo_push (0, 0, Int.ofNat 1) (yo_bin 0 0 yg_add (yo_al yG none 0 (yo_as yG 0 (yo_inc 1 2 (Int.ofNat 1) (ih 61))))))))))))))))))))))))))),
  (102, fun ih => yo_push (0, 0, Int.ofNat 0) (yo_st 0 1 2 (ih 104))),
  (104, fun ih => yo_ld 0 1 (yo_push (0, 0, Int.ofNat 5) (yo_ic .ge (ih 170) (yo_lda 0 (yo_gf yG 10 4 (yo_ld 0 1 (yo_lda 0 (yo_gf yG 10 9 (yo_push (0, 0, Int.ofNat 3) (yo_ld 0 1 (yo_bin 0 0 (xg_i (· * ·) yg_mul) (yo_al yG none 0 (yo_as yG 0 (yo_lda 0 (yo_gf yG 10 5 (yo_ld 0 1 (yo_lda 0 (yo_gf yG 10 9 (yo_push (0, 0, Int.ofNat 3) (yo_ld 0 1 (yo_bin 0 0 (xg_i (· * ·) yg_mul) (yo_push (0, 0, Int.ofNat 1) (yo_bin 0 0 yg_add (yo_al yG none 0 (yo_as yG 0 (yo_lda 0 (yo_gf yG 10 6 (yo_ld 0 1 (yo_lda 0 (yo_gf yG 10 9 (yo_push (0, 0, Int.ofNat 3) (yo_ld 0 1 (yo_bin 0 0 (xg_i (· * ·) yg_mul) (yo_push (0, 0, Int.ofNat 2) (yo_bin 0 0 yg_add (yo_al yG none 0 (yo_push (0, 0, Int.ofNat 1) (yo_lda 0 (yo_gf yG 10 0 (yo_bin 0 0 (xg_i x_ishl (yg_en x_ishl)) (yo_push (0, 0, Int.ofNat 1) (yo_bin 0 0 yg_sub (yo_bin 0 0 (xg_i (· &&& ·) xg_and) (yo_as yG 0 (yo_inc 1 2 (Int.ofNat 1) (ih 104)))))))))))))))))))))))))))))))))))))))))))))),
  (170, fun ih => yo_lda 0 (yo_push (0, 0, Int.ofNat 0) (yo_pf yG 10 16 0 (yo_lda 0 (yo_gf yG 10 26 (yo_push (0, 0, Int.ofNat 0) (yo_push (0, 0, Int.ofNat 0) (yo_as yG 2 (yo_lda 0 (yo_gf yG 10 26 (yo_push (0, 0, Int.ofNat 1) (yo_push (0, 0, Int.ofNat 0) (yo_as yG 2 (yo_push (0, 0, Int.ofNat 10) (yo_lda 0 (yo_gf yG 10 0 (yo_bin 0 0 (xg_i (· * ·) yg_mul) (yo_lda 0 (yo_gf yG 10 1 (yo_bin 0 0 yg_add (yo_ri 1)))))))))))))))))))))]
set_option maxRecDepth 100000 in
theorem yT39 : y_T yG none y_i0 (y_cc 27 ycs27 y_c0) ev_r39.1 (fun _ => none) yt39 := (y_T_cons 6 rfl (y_T_cons 10 rfl (y_T_cons 11 rfl (y_T_cons 1 rfl (y_T_cons 3 rfl (y_T_cons 2 rfl (y_T_cons 27 rfl (y_T_cons 2 rfl (y_T_cons 46 rfl (y_T_cons 21 rfl y_T_nil))))))))))
def yct39_0 : yCt := ([(2, Int.ofNat 55, Int.ofNat 55, false)], (some (0, Int.negSucc 2, Int.ofNat 45, false)), [(55, 0, 1), (55, 10, 11), (55, 14, 16), (56, 0, 3), (57, 0, 3), (58, 0, 4), (59, 0, 4), (60, 0, 4), (61, 0, 17), (62, 0, 7), (63, 0, 14), (70, 0, 1)])
set_option maxRecDepth 100000 in
theorem yd39_0 : y_drv yt39 (y_st [30, 61, 104]) none (y_po yct39_0) [0, 30, 61, 104] 100000 5000 [y_start 1 yct39_0] = true := by decide +kernel
theorem yc39_0 : y_Mca yG 39 yct39_0 := y_Mca_of (r := ev_r39) rfl (y_con (k := 1) (by decide) (fun hc0 _ => y_drv_ok (h0 := (yG, hc0)) y_i0_ok (y_cc_ok yCs27 y_c0_ok) yT39 (fun _ h1 h2 => y_po_ok h1 h2) yd39_0 _ (List.mem_singleton.mpr rfl)))
noncomputable def ycs39 : List yCt := [yct39_0]
theorem yCs39 : ∀ ct ∈ ycs39, y_Mca yG 39 ct := (y_l1 yc39_0 y_l0)
