/-! contracts, by program -/
/-- NameHallModel.share(IIZ)I -/
noncomputable def yt169 : List (Nat × yB) := [(0, fun ih => yo_lda 0 (yo_ld 0 1 (yo_cl yG ym46 11 1 2 0 0 0 0 (yo_if .ne (ih 10) (yo_push (0, 0, Int.negSucc 0) (yo_ri 1)))))),
  (10, fun ih => yo_ld 0 2 (yo_un 0 xg_i2l (yo_push (1, 0, Int.ofNat 0) (yo_push (1, 0, Int.ofNat 9) (yo_cl yG ym15 0 3 6 0 0 0 0 (yo_if .ne (ih 25) (yo_push (0, 0, Int.negSucc 1) (yo_ri 1)))))))),
  (25, fun ih => yo_push (0, 0, Int.ofNat 0) (yo_st 0 4 7 (ih 28))),
  (28, fun ih => yo_ld 0 4 (yo_push (0, 0, Int.ofNat 1) (yo_lda 0 (yo_gf yG 10 0 (yo_bin 0 0 (xg_i x_ishl (yg_en x_ishl)) (yo_ic .ge (ih 64) (yo_lda 0 (yo_gf yG 10 24 (yo_ld 0 4 (yo_lda 0 (yo_ld 0 2 (yo_ld 0 4 (yo_lda 0 (yo_cts yG ycs114 11 0 1 0 0 0 0 (yo_bin 0 0 (xg_i (· &&& ·) xg_and) (yo_cts yG ycs118 11 2 7 0 0 0 0 (yo_as yG 0 (yo_inc 4 7 (Int.ofNat 1) (ih 28))))))))))))))))))),
  (64, fun ih => yo_push (0, 0, Int.ofNat 0) (yo_st 0 4 7 (yo_push (0, 0, Int.ofNat 0) (yo_st 0 5 7 (ih 70))))),
  (70, fun ih => yo_ld 0 5 (yo_push (0, 0, Int.ofNat 1) (yo_lda 0 (yo_gf yG 10 0 (yo_bin 0 0 (xg_i x_ishl (yg_en x_ishl)) (yo_ic .ge (ih 149) (yo_ld 0 5 (yo_ld 0 1 (yo_cts yG ycs73 0 2 2 0 0 0 0 (yo_if .ne (ih 143) (yo_ld 0 5 (yo_cts yG ycs75 0 1 3 0 0 0 0 (yo_cts yG ycs167 0 1 3 0 0 0 0 (yo_lda 0 (yo_gf yG 10 0 (yo_push (0, 0, Int.ofNat 1) (yo_bin 0 0 yg_sub (yo_ld 0 5 (yo_cts yG ycs75 0 1 3 0 0 0 0 (yo_bin 0 0 yg_sub (yo_cts yG ycs167 0 1 3 0 0 0 0 (yo_bin 0 0 (xg_i (· * ·) yg_mul) (yo_st 0 6 7 (yo_ld 0 4 (yo_ld 0 6 (yo_lda 0 (yo_gf yG 10 24 (yo_ld 0 5 (yo_push (0, 0, Int.ofNat 1) (yo_ld 0 1 (yo_bin 0 0 (xg_i x_ishl (yg_en x_ishl)) (yo_bin 0 0 (xg_i (· ||| ·) yg_bit) (yo_al yG none 0 (yo_lda 0 (yo_gf yG 10 24 (yo_ld 0 5 (yo_al yG none 0 (yo_bin 0 0 yg_sub (yo_bin 0 0 (xg_i (· * ·) yg_mul) (yo_bin 0 0 yg_add (yo_st 0 4 7 (ih 143)))))))))))))))))))))))))))))))))))))))))),
  (143, fun ih => yo_inc 5 7 (Int.ofNat 1) (ih 70)),
  (149, fun ih => yo_ld 0 4 (yo_lda 0 (yo_gf yG 10 0 (yo_cts yG ycs167 0 1 3 0 0 0 0 (yo_cts yG ycs168 0 2 5 0 0 0 0 (yo_st 0 5 7 (yo_ld 0 3 (yo_if .eq (ih 175) (yo_ld 0 4 (yo_ld 0 5 (yo_dv 0 xg_div (ih 185)))))))))))),
  (175, fun ih => yo_lda 0 (yo_gf yG 10 0 (yo_cts yG ycs167 0 1 3 0 0 0 0 (yo_ld 0 5 (yo_dv 0 xg_div (ih 185)))))),
  (185, fun ih => yo_ri 1)]
set_option maxRecDepth 100000 in
theorem yT169 : y_T yG none (y_ic 46 ym46 (y_ic 15 ym15 y_i0)) (y_cc 114 ycs114 (y_cc 118 ycs118 (y_cc 73 ycs73 (y_cc 75 ycs75 (y_cc 167 ycs167 (y_cc 168 ycs168 y_c0)))))) ev_r169.1 (fun _ => none) yt169 := (y_T_cons 6 rfl (y_T_cons 8 rfl (y_T_cons 2 rfl (y_T_cons 19 rfl (y_T_cons 4 rfl (y_T_cons 41 rfl (y_T_cons 2 rfl (y_T_cons 12 rfl (y_T_cons 5 rfl (y_T_cons 1 rfl y_T_nil))))))))))
def yct169_0 : yCt := ([(2, Int.ofNat 55, Int.ofNat 55, false), (0, Int.negSucc 2147483647, Int.ofNat 2147483647, false), (0, Int.negSucc 2147483647, Int.ofNat 2147483647, false), (0, Int.ofNat 0, Int.ofNat 1, false)], (some (0, Int.negSucc 2147483647, Int.ofNat 2147483647, false)), [(55, 20, 20), (66, 0, 3), (69, 0, 15)])
set_option maxRecDepth 100000 in
theorem yd169_0 : y_drv yt169 (y_st [28, 70]) none (y_po yct169_0) [0, 28, 70] 100000 5000 [y_start 3 yct169_0] = true := by decide +kernel
theorem yc169_0 : y_Mca yG 169 yct169_0 := y_Mca_of (r := ev_r169) rfl (y_con (k := 3) (by decide) (fun hc0 _ => y_drv_ok (h0 := (yG, hc0)) (y_ic_ok (yM46 hc0) (y_ic_ok (yM15 hc0) y_i0_ok)) (y_cc_ok yCs114 (y_cc_ok yCs118 (y_cc_ok yCs73 (y_cc_ok yCs75 (y_cc_ok yCs167 (y_cc_ok yCs168 y_c0_ok)))))) yT169 (fun _ h1 h2 => y_po_ok h1 h2) yd169_0 _ (List.mem_singleton.mpr rfl)))
noncomputable def ycs169 : List yCt := [yct169_0]
theorem yCs169 : ∀ ct ∈ ycs169, y_Mca yG 169 ct := (y_l1 yc169_0 y_l0)
/-- NameHall$Bidding.prepare(IZZ)V -/
noncomputable def yt170 : List (Nat × yB) := [(0, fun ih => yo_lda 0 (yo_ld 0 1 (yo_pf yG 1 0 0 (yo_lda 0 (yo_ld 0 2 (yo_pf yG 1 1 2 (yo_lda 0 (yo_ld 0 3 (yo_pf yG 1 2 2 (yo_rv 0))))))))))]
set_option maxRecDepth 100000 in
theorem yT170 : y_T yG none y_i0 y_c0 ev_r170.1 (fun _ => none) yt170 := (y_T_cons 10 rfl y_T_nil)
def yct170_0 : yCt := ([(2, Int.ofNat 53, Int.ofNat 53, false), (0, Int.negSucc 2147483647, Int.ofNat 2147483647, false), (0, Int.ofNat 0, Int.ofNat 1, false), (0, Int.ofNat 0, Int.ofNat 1, false)], none, [(53, 0, 2)])
set_option maxRecDepth 100000 in
theorem yd170_0 : y_drv yt170 (y_st []) none (y_po yct170_0) [0] 100000 5000 [y_start 0 yct170_0] = true := by decide +kernel
theorem yc170_0 : y_Mca yG 170 yct170_0 := y_Mca_of (r := ev_r170) rfl (y_con (k := 0) (by decide) (fun hc0 _ => y_drv_ok (h0 := (yG, hc0)) y_i0_ok y_c0_ok yT170 (fun _ h1 h2 => y_po_ok h1 h2) yd170_0 _ (List.mem_singleton.mpr rfl)))
noncomputable def ycs170 : List yCt := [yct170_0]
theorem yCs170 : ∀ ct ∈ ycs170, y_Mca yG 170 ct := (y_l1 yc170_0 y_l0)
/-- NameHall$Bidding.gainBy(IZ)I -/
noncomputable def yt171 : List (Nat × yB) := [(0, fun ih => yo_ld 0 2 (yo_if .eq (ih 11) (yo_lda 0 (yo_gf yG 1 0 (yo_ld 0 1 (yo_bin 0 0 yg_sub (yo_ri 1))))))),
  (11, fun ih => yo_ld 0 1 (yo_if .le (ih 19) (yo_push (0, 0, Int.negSucc 0) (ih 20)))),
  (19, fun ih => yo_push (0, 0, Int.ofNat 0) (ih 20)),
  (20, fun ih => yo_ri 1)]
set_option maxRecDepth 100000 in
theorem yT171 : y_T yG none y_i0 y_c0 ev_r171.1 (fun _ => none) yt171 := (y_T_cons 7 rfl (y_T_cons 4 rfl (y_T_cons 1 rfl (y_T_cons 1 rfl y_T_nil))))
def yct171_0 : yCt := ([(2, Int.ofNat 53, Int.ofNat 53, false), (0, Int.negSucc 2147483647, Int.ofNat 2147483647, false), (0, Int.ofNat 0, Int.ofNat 1, false)], (some (0, Int.negSucc 2147483647, Int.ofNat 2147483647, false)), [])
set_option maxRecDepth 100000 in
theorem yd171_0 : y_drv yt171 (y_st []) none (y_po yct171_0) [0] 100000 5000 [y_start 0 yct171_0] = true := by decide +kernel
theorem yc171_0 : y_Mca yG 171 yct171_0 := y_Mca_of (r := ev_r171) rfl (y_con (k := 0) (by decide) (fun hc0 _ => y_drv_ok (h0 := (yG, hc0)) y_i0_ok y_c0_ok yT171 (fun _ h1 h2 => y_po_ok h1 h2) yd171_0 _ (List.mem_singleton.mpr rfl)))
noncomputable def ycs171 : List yCt := [yct171_0]
theorem yCs171 : ∀ ct ∈ ycs171, y_Mca yG 171 ct := (y_l1 yc171_0 y_l0)
/-- NameHall$Bidding.gainOfOne(II)I -/
noncomputable def yt172 : List (Nat × yB) := [(0, fun ih => yo_lda 0 (yo_ld 0 1 (yo_lda 0 (yo_gf yG 1 1 (yo_if .eq (ih 25) (yo_ld 0 1 (yo_ld 0 2 (yo_ic .ge (ih 21) (yo_lda 0 (yo_gf yG 1 2 (yo_if .ne (ih 25) (ih 21)))))))))))),
  (21, fun ih => yo_push (0, 0, Int.ofNat 1) (ih 26)),
  (25, fun ih => yo_push (0, 0, Int.ofNat 0) (ih 26)),
  (26, fun ih => yo_cts yG ycs171 2 2 3 0 0 0 0 (yo_ri 1))]
set_option maxRecDepth 100000 in
theorem yT172 : y_T yG none y_i0 (y_cc 171 ycs171 y_c0) ev_r172.1 (fun _ => none) yt172 := (y_T_cons 11 rfl (y_T_cons 2 rfl (y_T_cons 1 rfl (y_T_cons 2 rfl y_T_nil))))
def yct172_0 : yCt := ([(2, Int.ofNat 53, Int.ofNat 53, false), (0, Int.negSucc 2147483647, Int.ofNat 2147483647, false), (0, Int.negSucc 2147483647, Int.ofNat 2147483647, false)], (some (0, Int.negSucc 2147483647, Int.ofNat 2147483647, false)), [])
set_option maxRecDepth 100000 in
theorem yd172_0 : y_drv yt172 (y_st []) none (y_po yct172_0) [0] 100000 5000 [y_start 0 yct172_0] = true := by decide +kernel
theorem yc172_0 : y_Mca yG 172 yct172_0 := y_Mca_of (r := ev_r172) rfl (y_con (k := 0) (by decide) (fun hc0 _ => y_drv_ok (h0 := (yG, hc0)) y_i0_ok (y_cc_ok yCs171 y_c0_ok) yT172 (fun _ h1 h2 => y_po_ok h1 h2) yd172_0 _ (List.mem_singleton.mpr rfl)))
noncomputable def ycs172 : List yCt := [yct172_0]
theorem yCs172 : ∀ ct ∈ ycs172, y_Mca yG 172 ct := (y_l1 yc172_0 y_l0)
/-- NameHall$Bidding.gainOfOther(II)I -/
noncomputable def yt173 : List (Nat × yB) := [(0, fun ih => yo_lda 0 (yo_ld 0 2 (yo_lda 0 (yo_gf yG 1 2 (yo_if .eq (ih 25) (yo_ld 0 2 (yo_ld 0 1 (yo_ic .gt (ih 21) (yo_lda 0 (yo_gf yG 1 1 (yo_if .ne (ih 25) (ih 21)))))))))))),
  (21, fun ih => yo_push (0, 0, Int.ofNat 1) (ih 26)),
  (25, fun ih => yo_push (0, 0, Int.ofNat 0) (ih 26)),
  (26, fun ih => yo_cts yG ycs171 2 2 3 0 0 0 0 (yo_ri 1))]
set_option maxRecDepth 100000 in
theorem yT173 : y_T yG none y_i0 (y_cc 171 ycs171 y_c0) ev_r173.1 (fun _ => none) yt173 := (y_T_cons 11 rfl (y_T_cons 2 rfl (y_T_cons 1 rfl (y_T_cons 2 rfl y_T_nil))))
def yct173_0 : yCt := ([(2, Int.ofNat 53, Int.ofNat 53, false), (0, Int.negSucc 2147483647, Int.ofNat 2147483647, false), (0, Int.negSucc 2147483647, Int.ofNat 2147483647, false)], (some (0, Int.negSucc 2147483647, Int.ofNat 2147483647, false)), [])
set_option maxRecDepth 100000 in
theorem yd173_0 : y_drv yt173 (y_st []) none (y_po yct173_0) [0] 100000 5000 [y_start 0 yct173_0] = true := by decide +kernel
theorem yc173_0 : y_Mca yG 173 yct173_0 := y_Mca_of (r := ev_r173) rfl (y_con (k := 0) (by decide) (fun hc0 _ => y_drv_ok (h0 := (yG, hc0)) y_i0_ok (y_cc_ok yCs171 y_c0_ok) yT173 (fun _ h1 h2 => y_po_ok h1 h2) yd173_0 _ (List.mem_singleton.mpr rfl)))
noncomputable def ycs173 : List yCt := [yct173_0]
theorem yCs173 : ∀ ct ∈ ycs173, y_Mca yG 173 ct := (y_l1 yc173_0 y_l0)
/-- NameHall$Bidding.isRest(II)Z -/
noncomputable def yt174 : List (Nat × yB) := [(0, fun ih => yo_push (0, 0, Int.ofNat 0) (yo_st 0 3 4 (ih 2))),
  (2, fun ih => yo_ld 0 3 (yo_push (0, 0, Int.ofNat 5) (yo_ic .ge (ih 45) (yo_lda 0 (yo_ld 0 3 (yo_ld 0 2 (yo_cts yG ycs172 2 2 3 0 0 0 0 (yo_lda 0 (yo_ld 0 1 (yo_ld 0 2 (yo_cts yG ycs172 2 2 3 0 0 0 0 (yo_ic .gt (ih 37) (yo_lda 0 (yo_ld 0 1 (yo_ld 0 3 (yo_cts yG ycs173 2 2 3 0 0 0 0 (yo_lda 0 (yo_ld 0 1 (yo_ld 0 2 (yo_cts yG ycs173 2 2 3 0 0 0 0 (yo_ic .le (ih 39) (ih 37)))))))))))))))))))))),
  (37, fun ih => yo_push (0, 0, Int.ofNat 0) (yo_ri 2)),
  (39, fun ih => yo_inc 3 4 (Int.ofNat 1) (ih 2)),
  (45, fun ih => yo_push (0, 0, Int.ofNat 1) (yo_ri 2))]
set_option maxRecDepth 100000 in
theorem yT174 : y_T yG none y_i0 (y_cc 172 ycs172 (y_cc 173 ycs173 y_c0)) ev_r174.1 (fun _ => none) yt174 := (y_T_cons 2 rfl (y_T_cons 21 rfl (y_T_cons 2 rfl (y_T_cons 2 rfl (y_T_cons 2 rfl y_T_nil)))))
def yct174_0 : yCt := ([(2, Int.ofNat 53, Int.ofNat 53, false), (0, Int.negSucc 2147483647, Int.ofNat 2147483647, false), (0, Int.negSucc 2147483647, Int.ofNat 2147483647, false)], (some (0, Int.ofNat 0, Int.ofNat 1, false)), [])
set_option maxRecDepth 100000 in
theorem yd174_0 : y_drv yt174 (y_st [2]) none (y_po yct174_0) [0, 2] 100000 5000 [y_start 1 yct174_0] = true := by decide +kernel
theorem yc174_0 : y_Mca yG 174 yct174_0 := y_Mca_of (r := ev_r174) rfl (y_con (k := 1) (by decide) (fun hc0 _ => y_drv_ok (h0 := (yG, hc0)) y_i0_ok (y_cc_ok yCs172 (y_cc_ok yCs173 y_c0_ok)) yT174 (fun _ h1 h2 => y_po_ok h1 h2) yd174_0 _ (List.mem_singleton.mpr rfl)))
noncomputable def ycs174 : List yCt := [yct174_0]
theorem yCs174 : ∀ ct ∈ ycs174, y_Mca yG 174 ct := (y_l1 yc174_0 y_l0)
/-- NameHall$Bidding.countRests()I -/
noncomputable def yt175 : List (Nat × yB) := [(0, fun ih => yo_push (0, 0, Int.ofNat 0) (yo_st 0 1 4 (yo_push (0, 0, Int.ofNat 0) (yo_st 0 2 4 (ih 4))))),
  (4, fun ih => yo_ld 0 2 (yo_push (0, 0, Int.ofNat 5) (yo_ic .ge (ih 45) (yo_push (0, 0, Int.ofNat 0) (yo_st 0 3 4 (ih 11)))))),
  (11, fun ih => yo_ld 0 3 (yo_push (0, 0, Int.ofNat 5) (yo_ic .ge (ih 39) (yo_ld 0 1 (yo_lda 0 (yo_ld 0 2 (yo_ld 0 3 (yo_cts yG ycs174 2 2 4 0 0 0 0 (yo_if .eq (ih 30) (yo_push (0, 0, Int.ofNat 1) (ih 31))))))))))),
  (30, fun ih => yo_push (0, 0, Int.ofNat 0) (ih 31)),
  (31, fun ih => yo_bin 0 0 yg_add (yo_st 0 1 4 (yo_inc 3 4 (Int.ofNat 1) (ih 11)))),
  (39, fun ih => yo_inc 2 4 (Int.ofNat 1) (ih 4)),
  (45, fun ih => yo_ld 0 1 (yo_ri 1))]
set_option maxRecDepth 100000 in
theorem yT175 : y_T yG none y_i0 (y_cc 174 ycs174 y_c0) ev_r175.1 (fun _ => none) yt175 := (y_T_cons 4 rfl (y_T_cons 5 rfl (y_T_cons 11 rfl (y_T_cons 1 rfl (y_T_cons 4 rfl (y_T_cons 2 rfl (y_T_cons 2 rfl y_T_nil)))))))
def yct175_0 : yCt := ([(2, Int.ofNat 53, Int.ofNat 53, false)], (some (0, Int.ofNat 0, Int.ofNat 25, false)), [])
set_option maxRecDepth 100000 in
theorem yd175_0 : y_drv yt175 (y_st [4, 11]) none (y_po yct175_0) [0, 11, 4] 100000 5000 [y_start 3 yct175_0] = true := by decide +kernel
theorem yc175_0 : y_Mca yG 175 yct175_0 := y_Mca_of (r := ev_r175) rfl (y_con (k := 3) (by decide) (fun hc0 _ => y_drv_ok (h0 := (yG, hc0)) y_i0_ok (y_cc_ok yCs174 y_c0_ok) yT175 (fun _ h1 h2 => y_po_ok h1 h2) yd175_0 _ (List.mem_singleton.mpr rfl)))
noncomputable def ycs175 : List yCt := [yct175_0]
theorem yCs175 : ∀ ct ∈ ycs175, y_Mca yG 175 ct := (y_l1 yc175_0 y_l0)
/-- NameHall$Bidding.firstRest()I -/
noncomputable def yt176 : List (Nat × yB) := [(0, fun ih => yo_push (0, 0, Int.ofNat 0) (yo_st 0 1 3 (ih 2))),
  (2, fun ih => yo_ld 0 1 (yo_push (0, 0, Int.ofNat 5) (yo_ic .ge (ih 42) (yo_push (0, 0, Int.ofNat 0) (yo_st 0 2 3 (ih 9)))))),
  (9, fun ih => yo_ld 0 2 (yo_push (0, 0, Int.ofNat 5) (yo_ic .ge (ih 36) (yo_lda 0 (yo_ld 0 1 (yo_ld 0 2 (yo_cts yG ycs174 2 2 4 0 0 0 0 (yo_if .eq (ih 30) (yo_push (0, 0, Int.ofNat 10) (yo_ld 0 1 (yo_bin 0 0 (xg_i (· * ·) yg_mul) (yo_ld 0 2 (yo_bin 0 0 yg_add (yo_ri 1)))))))))))))),
  (30, fun ih => yo_inc 2 3 (Int.ofNat 1) (ih 9)),
  (36, fun ih => yo_inc 1 3 (Int.ofNat 1) (ih 2)),
  (42, fun ih => yo_push (0, 0, Int.negSucc 8) (yo_ri 1))]
set_option maxRecDepth 100000 in
theorem yT176 : y_T yG none y_i0 (y_cc 174 ycs174 y_c0) ev_r176.1 (fun _ => none) yt176 := (y_T_cons 2 rfl (y_T_cons 5 rfl (y_T_cons 14 rfl (y_T_cons 2 rfl (y_T_cons 2 rfl (y_T_cons 2 rfl y_T_nil))))))
def yct176_0 : yCt := ([(2, Int.ofNat 53, Int.ofNat 53, false)], (some (0, Int.ofNat 0, Int.ofNat 44, true)), [])
set_option maxRecDepth 100000 in
theorem yd176_0 : y_drv yt176 (y_st [2, 9]) none (y_po yct176_0) [0, 9, 2] 100000 5000 [y_start 2 yct176_0] = true := by decide +kernel
theorem yc176_0 : y_Mca yG 176 yct176_0 := y_Mca_of (r := ev_r176) rfl (y_con (k := 2) (by decide) (fun hc0 _ => y_drv_ok (h0 := (yG, hc0)) y_i0_ok (y_cc_ok yCs174 y_c0_ok) yT176 (fun _ h1 h2 => y_po_ok h1 h2) yd176_0 _ (List.mem_singleton.mpr rfl)))
noncomputable def ycs176 : List yCt := [yct176_0]
theorem yCs176 : ∀ ct ∈ ycs176, y_Mca yG 176 ct := (y_l1 yc176_0 y_l0)
/-- NameHall.rests(IIII)I -/
noncomputable def yt177 : List (Nat × yB) := [(0, fun ih => yo_lda 0 (yo_gf yG 9 1 (yo_ld 0 1 (yo_cl yG ym49 5 1 2 0 0 0 0 (yo_if .eq (ih 33) (yo_lda 0 (yo_gf yG 9 1 (yo_ld 0 2 (yo_cl yG ym49 5 1 2 0 0 0 0 (yo_if .eq (ih 33) (yo_lda 0 (yo_gf yG 9 1 (yo_ld 0 3 (yo_cl yG ym40 5 1 2 0 0 0 0 (yo_if .ne (ih 35) (ih 33)))))))))))))))),
  (33, fun ih => yo_push (0, 0, Int.negSucc 0) (yo_ri 1)),
  (35, fun ih => yo_ld 0 1 (yo_ld 0 2 (yo_ic .eq (ih 51) (yo_ld 0 4 (yo_if .lt (ih 51) (yo_ld 0 4 (yo_push (0, 0, Int.ofNat 1) (yo_ic .le (ih 54) (ih 51))))))))),
  (51, fun ih => yo_push (0, 0, Int.negSucc 1) (yo_ri 1)),
  (54, fun ih => yo_lda 0 (yo_gf yG 9 9 (yo_lda 0 (yo_gf yG 9 1 (yo_ld 0 3 (yo_cts yG ycs42 5 1 2 0 0 0 0 (yo_lda 0 (yo_gf yG 9 2 (yo_ld 0 1 (yo_ld 0 3 (yo_cl yG ym64 7 2 3 0 0 0 0 (yo_lda 0 (yo_gf yG 9 2 (yo_ld 0 2 (yo_ld 0 3 (yo_cl yG ym64 7 2 3 0 0 0 0 (yo_cts yG ycs170 2 3 4 0 0 0 0 (yo_ld 0 4 (yo_if .ne (ih 102) (yo_lda 0 (yo_gf yG 9 9 (yo_cts yG ycs175 2 0 4 0 0 0 0 (ih 109))))))))))))))))))))))),
  (102, fun ih => yo_lda 0 (yo_gf yG 9 9 (yo_cts yG ycs176 2 0 3 0 0 0 0 (ih 109)))),
  (109, fun ih => yo_ri 1)]
set_option maxRecDepth 100000 in
theorem yT177 : y_T yG none (y_ic 49 ym49 (y_ic 40 ym40 (y_ic 64 ym64 y_i0))) (y_cc 42 ycs42 (y_cc 170 ycs170 (y_cc 175 ycs175 (y_cc 176 ycs176 y_c0)))) ev_r177.1 (fun _ => none) yt177 := (y_T_cons 15 rfl (y_T_cons 2 rfl (y_T_cons 8 rfl (y_T_cons 2 rfl (y_T_cons 23 rfl (y_T_cons 3 rfl (y_T_cons 1 rfl y_T_nil)))))))
def yct177_0 : yCt := ([(2, Int.ofNat 0, Int.ofNat 0, false), (0, Int.negSucc 2147483647, Int.ofNat 2147483647, false), (0, Int.negSucc 2147483647, Int.ofNat 2147483647, false), (0, Int.negSucc 2147483647, Int.ofNat 2147483647, false), (0, Int.negSucc 2147483647, Int.ofNat 2147483647, false)], (some (0, Int.negSucc 1, Int.ofNat 44, true)), [(53, 0, 2)])
set_option maxRecDepth 100000 in
theorem yd177_0 : y_drv yt177 (y_st []) none (y_po yct177_0) [0] 100000 5000 [y_start 0 yct177_0] = true := by decide +kernel
theorem yc177_0 : y_Mca yG 177 yct177_0 := y_Mca_of (r := ev_r177) rfl (y_con (k := 0) (by decide) (fun hc0 _ => y_drv_ok (h0 := (yG, hc0)) (y_ic_ok (yM49 hc0) (y_ic_ok (yM40 hc0) (y_ic_ok (yM64 hc0) y_i0_ok))) (y_cc_ok yCs42 (y_cc_ok yCs170 (y_cc_ok yCs175 (y_cc_ok yCs176 y_c0_ok)))) yT177 (fun _ h1 h2 => y_po_ok h1 h2) yd177_0 _ (List.mem_singleton.mpr rfl)))
noncomputable def ycs177 : List yCt := [yct177_0]
theorem yCs177 : ∀ ct ∈ ycs177, y_Mca yG 177 ct := (y_l1 yc177_0 y_l0)
/-- NameHallModel.mayHave(II)Z -/
noncomputable def yt178 : List (Nat × yB) := [(0, fun ih => yo_lda 0 (yo_push (0, 0, Int.ofNat 0) (yo_ld 0 1 (yo_cts yG ycs74 11 2 3 0 0 0 0 (yo_if .ne (ih 26) (yo_lda 0 (yo_gf yG 10 6 (yo_ld 0 1 (yo_al yG none 0 (yo_ld 0 2 (yo_cts yG ycs73 0 2 2 0 0 0 0 (yo_if .eq (ih 26) (yo_push (0, 0, Int.ofNat 1) (ih 27)))))))))))))),
  (26, fun ih => yo_push (0, 0, Int.ofNat 0) (ih 27)),
  (27, fun ih => yo_ri 2)]
set_option maxRecDepth 100000 in
theorem yT178 : y_T yG none y_i0 (y_cc 74 ycs74 (y_cc 73 ycs73 y_c0)) ev_r178.1 (fun _ => none) yt178 := (y_T_cons 14 rfl (y_T_cons 1 rfl (y_T_cons 1 rfl y_T_nil)))
def yct178_0 : yCt := ([(2, Int.ofNat 55, Int.ofNat 55, false), (0, Int.ofNat 0, Int.ofNat 4, false), (0, Int.ofNat 0, Int.ofNat 3, false)], (some (0, Int.ofNat 0, Int.ofNat 1, false)), [])
set_option maxRecDepth 100000 in
theorem yd178_0 : y_drv yt178 (y_st []) none (y_po yct178_0) [0] 100000 5000 [y_start 0 yct178_0] = true := by decide +kernel
theorem yc178_0 : y_Mca yG 178 yct178_0 := y_Mca_of (r := ev_r178) rfl (y_con (k := 0) (by decide) (fun hc0 _ => y_drv_ok (h0 := (yG, hc0)) y_i0_ok (y_cc_ok yCs74 (y_cc_ok yCs73 y_c0_ok)) yT178 (fun _ h1 h2 => y_po_ok h1 h2) yd178_0 _ (List.mem_singleton.mpr rfl)))
noncomputable def ycs178 : List yCt := [yct178_0]
theorem yCs178 : ∀ ct ∈ ycs178, y_Mca yG 178 ct := (y_l1 yc178_0 y_l0)
/-- NameHallModel.gain(IIIIIZ)I -/
noncomputable def yt179 : List (Nat × yB) := [(0, fun ih => yo_ld 0 4 (yo_ld 0 5 (yo_ic .lt (ih 16) (yo_lda 0 (yo_ld 0 1 (yo_ld 0 3 (yo_cts yG ycs178 11 2 3 0 0 0 0 (ih 39)))))))),
  (16, fun ih => yo_lda 0 (yo_ld 0 1 (yo_ld 0 3 (yo_cts yG ycs178 11 2 3 0 0 0 0 (yo_if .eq (ih 38) (yo_lda 0 (yo_ld 0 2 (yo_ld 0 3 (yo_cts yG ycs178 11 2 3 0 0 0 0 (yo_if .ne (ih 38) (yo_push (0, 0, Int.ofNat 1) (ih 39)))))))))))),
  (38, fun ih => yo_push (0, 0, Int.ofNat 0) (ih 39)),
  (39, fun ih => yo_st 0 7 11 (yo_ld 0 7 (yo_if .ne (ih 59) (yo_lda 0 (yo_ld 0 2 (yo_ld 0 3 (yo_cts yG ycs178 11 2 3 0 0 0 0 (yo_if .eq (ih 59) (yo_push (0, 0, Int.ofNat 1) (ih 60)))))))))),
  (59, fun ih => yo_push (0, 0, Int.ofNat 0) (ih 60)),
  (60, fun ih => yo_st 0 8 11 (yo_ld 0 6 (yo_if .eq (ih 72) (yo_ld 0 7 (ih 74))))),
  (72, fun ih => yo_ld 0 8 (ih 74)),
  (74, fun ih => yo_st 0 9 11 (yo_ld 0 6 (yo_if .eq (ih 86) (yo_ld 0 4 (ih 88))))),
  (86, fun ih => yo_ld 0 5 (ih 88)),
  (88, fun ih => yo_st 0 10 11 (yo_ld 0 9 (yo_if .eq (ih 107) (yo_lda 0 (yo_gf yG 10 3 (yo_ld 0 3 (yo_al yG none 0 (yo_ld 0 10 (yo_bin 0 0 yg_sub (ih 117)))))))))),
  (107, fun ih => yo_ld 0 10 (yo_if .le (ih 116) (yo_push (0, 0, Int.negSucc 0) (ih 117)))),
  (116, fun ih => yo_push (0, 0, Int.ofNat 0) (ih 117)),
  (117, fun ih => yo_ri 1)]
set_option maxRecDepth 100000 in
theorem yT179 : y_T yG none y_i0 (y_cc 178 ycs178 y_c0) ev_r179.1 (fun _ => none) yt179 := (y_T_cons 8 rfl (y_T_cons 12 rfl (y_T_cons 1 rfl (y_T_cons 10 rfl (y_T_cons 1 rfl (y_T_cons 5 rfl (y_T_cons 1 rfl (y_T_cons 5 rfl (y_T_cons 1 rfl (y_T_cons 10 rfl (y_T_cons 4 rfl (y_T_cons 1 rfl (y_T_cons 1 rfl y_T_nil)))))))))))))
def yct179_0 : yCt := ([(2, Int.ofNat 55, Int.ofNat 55, false), (0, Int.ofNat 0, Int.ofNat 4, false), (0, Int.ofNat 0, Int.ofNat 4, false), (0, Int.ofNat 0, Int.ofNat 3, false), (0, Int.ofNat 0, Int.ofNat 4, false), (0, Int.ofNat 0, Int.ofNat 4, false), (0, Int.ofNat 0, Int.ofNat 1, false)], (some (0, Int.negSucc 2147483647, Int.ofNat 2147483647, false)), [])
set_option maxRecDepth 100000 in
theorem yd179_0 : y_drv yt179 (y_st []) none (y_po yct179_0) [0] 100000 5000 [y_start 4 yct179_0] = true := by decide +kernel
theorem yc179_0 : y_Mca yG 179 yct179_0 := y_Mca_of (r := ev_r179) rfl (y_con (k := 4) (by decide) (fun hc0 _ => y_drv_ok (h0 := (yG, hc0)) y_i0_ok (y_cc_ok yCs178 y_c0_ok) yT179 (fun _ h1 h2 => y_po_ok h1 h2) yd179_0 _ (List.mem_singleton.mpr rfl)))
noncomputable def ycs179 : List yCt := [yct179_0]
theorem yCs179 : ∀ ct ∈ ycs179, y_Mca yG 179 ct := (y_l1 yc179_0 y_l0)
/-- NameHallModel.isRest(IIIII)Z -/
noncomputable def yt180 : List (Nat × yB) := [(0, fun ih => yo_push (0, 0, Int.ofNat 1) (yo_st 0 6 8 (yo_push (0, 0, Int.ofNat 0) (yo_st 0 7 8 (ih 6))))),
  (6, fun ih => yo_ld 0 7 (yo_push (0, 0, Int.ofNat 5) (yo_ic .ge (ih 96) (yo_ld 0 6 (yo_if .eq (ih 48) (yo_lda 0 (yo_ld 0 1 (yo_ld 0 2 (yo_ld 0 3 (yo_ld 0 7 (yo_ld 0 5 (yo_push (0, 0, Int.ofNat 1) (yo_cts yG ycs179 11 6 11 0 0 0 0 (yo_lda 0 (yo_ld 0 1 (yo_ld 0 2 (yo_ld 0 3 (yo_ld 0 4 (yo_ld 0 5 (yo_push (0, 0, Int.ofNat 1) (yo_cts yG ycs179 11 6 11 0 0 0 0 (yo_ic .gt (ih 48) (yo_push (0, 0, Int.ofNat 1) (ih 49)))))))))))))))))))))))),
  (48, fun ih => yo_push (0, 0, Int.ofNat 0) (ih 49)),
  (49, fun ih => yo_st 0 6 8 (yo_ld 0 6 (yo_if .eq (ih 87) (yo_lda 0 (yo_ld 0 1 (yo_ld 0 2 (yo_ld 0 3 (yo_ld 0 4 (yo_ld 0 7 (yo_push (0, 0, Int.ofNat 0) (yo_cts yG ycs179 11 6 11 0 0 0 0 (yo_lda 0 (yo_ld 0 1 (yo_ld 0 2 (yo_ld 0 3 (yo_ld 0 4 (yo_ld 0 5 (yo_push (0, 0, Int.ofNat 0) (yo_cts yG ycs179 11 6 11 0 0 0 0 (yo_ic .gt (ih 87) (yo_push (0, 0, Int.ofNat 1) (ih 88)))))))))))))))))))))),
  (87, fun ih => yo_push (0, 0, Int.ofNat 0) (ih 88)),
  (88, fun ih => yo_st 0 6 8 (yo_inc 7 8 (Int.ofNat 1) (ih 6))),
  (96, fun ih => yo_ld 0 6 (yo_ri 2))]
set_option maxRecDepth 100000 in
theorem yT180 : y_T yG none y_i0 (y_cc 179 ycs179 y_c0) ev_r180.1 (fun _ => none) yt180 := (y_T_cons 4 rfl (y_T_cons 24 rfl (y_T_cons 1 rfl (y_T_cons 22 rfl (y_T_cons 1 rfl (y_T_cons 3 rfl (y_T_cons 2 rfl y_T_nil)))))))
def yct180_0 : yCt := ([(2, Int.ofNat 55, Int.ofNat 55, false), (0, Int.ofNat 0, Int.ofNat 4, false), (0, Int.ofNat 0, Int.ofNat 4, false), (0, Int.ofNat 0, Int.ofNat 3, false), (0, Int.ofNat 0, Int.ofNat 4, false), (0, Int.ofNat 0, Int.ofNat 4, false)], (some (0, Int.ofNat 0, Int.ofNat 1, false)), [])
set_option maxRecDepth 100000 in
theorem yd180_0 : y_drv yt180 (y_st [6]) none (y_po yct180_0) [0, 6] 100000 5000 [y_start 2 yct180_0] = true := by decide +kernel
theorem yc180_0 : y_Mca yG 180 yct180_0 := y_Mca_of (r := ev_r180) rfl (y_con (k := 2) (by decide) (fun hc0 _ => y_drv_ok (h0 := (yG, hc0)) y_i0_ok (y_cc_ok yCs179 y_c0_ok) yT180 (fun _ h1 h2 => y_po_ok h1 h2) yd180_0 _ (List.mem_singleton.mpr rfl)))
noncomputable def ycs180 : List yCt := [yct180_0]
theorem yCs180 : ∀ ct ∈ ycs180, y_Mca yG 180 ct := (y_l1 yc180_0 y_l0)
/-- NameHallModel.rests(IIII)I -/
noncomputable def yt181 : List (Nat × yB) := [(0, fun ih => yo_lda 0 (yo_ld 0 1 (yo_cl yG ym61 11 1 2 0 0 0 0 (yo_if .eq (ih 24) (yo_lda 0 (yo_ld 0 2 (yo_cl yG ym61 11 1 2 0 0 0 0 (yo_if .eq (ih 24) (yo_lda 0 (yo_ld 0 3 (yo_cl yG ym46 11 1 2 0 0 0 0 (yo_if .ne (ih 26) (ih 24))))))))))))),
  (24, fun ih => yo_push (0, 0, Int.negSucc 0) (yo_ri 1)),
  (26, fun ih => yo_ld 0 1 (yo_ld 0 2 (yo_ic .eq (ih 42) (yo_ld 0 4 (yo_un 0 xg_i2l (yo_push (1, 0, Int.ofNat 0) (yo_push (1, 0, Int.ofNat 1) (yo_cl yG ym15 0 3 6 0 0 0 0 (yo_if .ne (ih 45) (ih 42)))))))))),
  (42, fun ih => yo_push (0, 0, Int.negSucc 1) (yo_ri 1)),
  (45, fun ih => yo_push (0, 0, Int.ofNat 0) (yo_st 0 5 8 (yo_push (0, 0, Int.negSucc 8) (yo_st 0 6 8 (yo_push (0, 0, Int.ofNat 0) (yo_st 0 7 8 (ih 55))))))),
  (55, fun ih => yo_ld 0 7 (yo_push (0, 0, Int.ofNat 25) (yo_ic .ge (ih 113) (yo_lda 0 (yo_ld 0 1 (yo_ld 0 2 (yo_ld 0 3 (yo_ld 0 7 (yo_push (0, 0, Int.ofNat 5) (yo_dv 0 xg_div (yo_ld 0 7 (yo_push (0, 0, Int.ofNat 5) (yo_dv 1 yg_rem (yo_cts yG ycs180 11 5 8 0 0 0 0 (yo_if .eq (ih 107) (yo_ld 0 5 (yo_if .ne (ih 100) (yo_push (0, 0, Int.ofNat 10) (yo_ld 0 7 (yo_push (0, 0, Int.ofNat 5) (yo_dv 0 xg_div (yo_bin 0 0 (xg_i (· * ·) yg_mul) (yo_ld 0 7 (yo_push (0, 0, Int.ofNat 5) (yo_dv 1 yg_rem (yo_bin 0 0 yg_add (ih 102))))))))))))))))))))))))))),
  (100, fun ih => yo_ld 0 6 (ih 102)),
  (102, fun ih => yo_st 0 6 8 (yo_inc 5 8 (Int.ofNat 1) (ih 107))),
  (107, fun ih => yo_inc 7 8 (Int.ofNat 1) (ih 55)),
  (113, fun ih => yo_ld 0 4 (yo_if .ne (ih 123) (yo_ld 0 5 (ih 125)))),
  (123, fun ih => yo_ld 0 6 (ih 125)),
  (125, fun ih => yo_ri 1)]
set_option maxRecDepth 100000 in
theorem yT181 : y_T yG none (y_ic 61 ym61 (y_ic 46 ym46 (y_ic 15 ym15 y_i0))) (y_cc 180 ycs180 y_c0) ev_r181.1 (fun _ => none) yt181 := (y_T_cons 12 rfl (y_T_cons 2 rfl (y_T_cons 9 rfl (y_T_cons 2 rfl (y_T_cons 6 rfl (y_T_cons 27 rfl (y_T_cons 1 rfl (y_T_cons 2 rfl (y_T_cons 2 rfl (y_T_cons 4 rfl (y_T_cons 1 rfl (y_T_cons 1 rfl y_T_nil))))))))))))
def yct181_0 : yCt := ([(2, Int.ofNat 55, Int.ofNat 55, false), (0, Int.negSucc 2147483647, Int.ofNat 2147483647, false), (0, Int.negSucc 2147483647, Int.ofNat 2147483647, false), (0, Int.negSucc 2147483647, Int.ofNat 2147483647, false), (0, Int.negSucc 2147483647, Int.ofNat 2147483647, false)], (some (0, Int.negSucc 1, Int.ofNat 44, true)), [])
set_option maxRecDepth 100000 in
theorem yd181_0 : y_drv yt181 (y_st [55]) none (y_po yct181_0) [0, 55] 100000 5000 [y_start 3 yct181_0] = true := by decide +kernel
theorem yc181_0 : y_Mca yG 181 yct181_0 := y_Mca_of (r := ev_r181) rfl (y_con (k := 3) (by decide) (fun hc0 _ => y_drv_ok (h0 := (yG, hc0)) (y_ic_ok (yM61 hc0) (y_ic_ok (yM46 hc0) (y_ic_ok (yM15 hc0) y_i0_ok))) (y_cc_ok yCs180 y_c0_ok) yT181 (fun _ h1 h2 => y_po_ok h1 h2) yd181_0 _ (List.mem_singleton.mpr rfl)))
noncomputable def ycs181 : List yCt := [yct181_0]
theorem yCs181 : ∀ ct ∈ ycs181, y_Mca yG 181 ct := (y_l1 yc181_0 y_l0)
/-- NameHall$Scene.takersAt(II)I -/
noncomputable def yt182 : List (Nat × yB) := [(0, fun ih => yo_push (0, 0, Int.ofNat 0) (yo_st 0 3 5 (yo_push (0, 0, Int.ofNat 0) (yo_st 0 4 5 (ih 5))))),
  (5, fun ih => yo_ld 0 4 (yo_push (0, 0, Int.ofNat 5) (yo_ic .ge (ih 52) (yo_lda 0 (yo_ld 0 1 (yo_cl yG ym44 7 1 2 0 0 0 0 (yo_if .ne (ih 46) (yo_lda 0 (yo_ld 0 4 (yo_ld 0 2 (yo_cl yG ym85 7 2 3 0 0 0 0 (yo_if .eq (ih 46) (yo_lda 0 (yo_ld 0 4 (yo_ld 0 1 (yo_cl yG ym64 7 2 3 0 0 0 0 (yo_if .eq (ih 46) (yo_ld 0 3 (yo_push (0, 0, Int.ofNat 1) (yo_ld 0 4 (yo_bin 0 0 (xg_i x_ishl (yg_en x_ishl)) (yo_bin 0 0 (xg_i (· ||| ·) yg_bit) (yo_st 0 3 5 (ih 46)))))))))))))))))))))))),
  (46, fun ih => yo_inc 4 5 (Int.ofNat 1) (ih 5)),
  (52, fun ih => yo_ld 0 3 (yo_ri 1))]
set_option maxRecDepth 100000 in
theorem yT182 : y_T yG none (y_ic 44 ym44 (y_ic 85 ym85 (y_ic 64 ym64 y_i0))) y_c0 ev_r182.1 (fun _ => none) yt182 := (y_T_cons 4 rfl (y_T_cons 23 rfl (y_T_cons 2 rfl (y_T_cons 2 rfl y_T_nil))))
def yct182_0 : yCt := ([(2, Int.ofNat 9, Int.ofNat 9, false), (0, Int.negSucc 2147483647, Int.ofNat 2147483647, false), (0, Int.negSucc 2147483647, Int.ofNat 2147483647, false)], (some (0, Int.ofNat 0, Int.ofNat 31, false)), [])
set_option maxRecDepth 100000 in
theorem yd182_0 : y_drv yt182 (y_st [5]) none (y_po yct182_0) [0, 5] 100000 5000 [y_start 2 yct182_0] = true := by decide +kernel
theorem yc182_0 : y_Mca yG 182 yct182_0 := y_Mca_of (r := ev_r182) rfl (y_con (k := 2) (by decide) (fun hc0 _ => y_drv_ok (h0 := (yG, hc0)) (y_ic_ok (yM44 hc0) (y_ic_ok (yM85 hc0) (y_ic_ok (yM64 hc0) y_i0_ok))) y_c0_ok yT182 (fun _ h1 h2 => y_po_ok h1 h2) yd182_0 _ (List.mem_singleton.mpr rfl)))
noncomputable def ycs182 : List yCt := [yct182_0]
theorem yCs182 : ∀ ct ∈ ycs182, y_Mca yG 182 ct := (y_l1 yc182_0 y_l0)
/-- NameHall.letter(IIZ)I -/
noncomputable def yt183 : List (Nat × yB) := [(0, fun ih => yo_lda 0 (yo_gf yG 9 1 (yo_ld 0 1 (yo_cl yG ym49 5 1 2 0 0 0 0 (yo_if .ne (ih 13) (yo_push (0, 0, Int.negSucc 0) (yo_ri 1))))))),
  (13, fun ih => yo_ld 0 2 (yo_cl yG ym101 0 1 1 0 0 0 0 (yo_if .ne (ih 23) (yo_push (0, 0, Int.negSucc 1) (yo_ri 1))))),
  (23, fun ih => yo_push (0, 0, Int.ofNat 1) (yo_st 0 4 8 (yo_push (0, 0, Int.ofNat 1) (yo_st 0 5 8 (yo_push (0, 0, Int.ofNat 0) (yo_st 0 6 8 (ih 32))))))),
  (32, fun ih => yo_ld 0 6 (yo_lda 0 (yo_gf yG 9 1 (yo_cts yG ycs36 5 0 1 0 0 0 0 (yo_ic .ge (ih 94) (yo_lda 0 (yo_gf yG 9 2 (yo_ld 0 6 (yo_ld 0 2 (yo_cts yG ycs182 7 2 5 0 0 0 0 (yo_st 0 7 8 (yo_ld 0 7 (yo_ld 0 1 (yo_bin 0 0 (xg_i x_ishr xg_ti) (yo_push (0, 0, Int.ofNat 1) (yo_bin 0 0 (xg_i (· &&& ·) xg_and) (yo_push (0, 0, Int.ofNat 1) (yo_ic .ne (ih 88) (yo_ld 0 4 (yo_ld 0 7 (yo_cts yG ycs65 0 1 1 0 0 0 0 (yo_bin 0 0 (xg_i (· * ·) yg_mul) (yo_st 0 4 8 (yo_ld 0 5 (yo_ld 0 7 (yo_cts yG ycs65 0 1 1 0 0 0 0 (yo_push (0, 0, Int.ofNat 1) (yo_bin 0 0 yg_sub (yo_bin 0 0 (xg_i (· * ·) yg_mul) (yo_st 0 5 8 (ih 88))))))))))))))))))))))))))))))),
  (88, fun ih => yo_inc 6 8 (Int.ofNat 1) (ih 32)),
  (94, fun ih => yo_ld 0 4 (yo_ld 0 5 (yo_bin 0 0 yg_sub (yo_ld 0 4 (yo_ld 0 3 (yo_cts yG ycs165 0 3 5 0 0 0 0 (yo_ri 1)))))))]
set_option maxRecDepth 100000 in
theorem yT183 : y_T yG none (y_ic 49 ym49 (y_ic 101 ym101 y_i0)) (y_cc 36 ycs36 (y_cc 182 ycs182 (y_cc 65 ycs65 (y_cc 165 ycs165 y_c0)))) ev_r183.1 (fun _ => none) yt183 := (y_T_cons 7 rfl (y_T_cons 5 rfl (y_T_cons 6 rfl (y_T_cons 30 rfl (y_T_cons 2 rfl (y_T_cons 7 rfl y_T_nil))))))
def yct183_0 : yCt := ([(2, Int.ofNat 0, Int.ofNat 0, false), (0, Int.negSucc 2147483647, Int.ofNat 2147483647, false), (0, Int.negSucc 2147483647, Int.ofNat 2147483647, false), (0, Int.ofNat 0, Int.ofNat 1, false)], (some (0, Int.negSucc 2147483647, Int.ofNat 2147483647, false)), [])
set_option maxRecDepth 100000 in
theorem yd183_0 : y_drv yt183 (y_st [32]) none (y_po yct183_0) [0, 32] 100000 5000 [y_start 4 yct183_0] = true := by decide +kernel
theorem yc183_0 : y_Mca yG 183 yct183_0 := y_Mca_of (r := ev_r183) rfl (y_con (k := 4) (by decide) (fun hc0 _ => y_drv_ok (h0 := (yG, hc0)) (y_ic_ok (yM49 hc0) (y_ic_ok (yM101 hc0) y_i0_ok)) (y_cc_ok yCs36 (y_cc_ok yCs182 (y_cc_ok yCs65 (y_cc_ok yCs165 y_c0_ok)))) yT183 (fun _ h1 h2 => y_po_ok h1 h2) yd183_0 _ (List.mem_singleton.mpr rfl)))
noncomputable def ycs183 : List yCt := [yct183_0]
theorem yCs183 : ∀ ct ∈ ycs183, y_Mca yG 183 ct := (y_l1 yc183_0 y_l0)
/-- NameHall.seed(J)J -/
noncomputable def yt185 : List (Nat × yB) := [(0, fun ih => yo_lda 0 (yo_gf yG 9 11 (yo_stL 3 5 (yo_lda 0 (yo_ld 1 1 (yo_pf yG 9 11 1 (yo_ld 1 3 (yo_rl 4))))))))]
set_option maxRecDepth 100000 in
theorem yT185 : y_T yG none y_i0 y_c0 ev_r185.1 (fun _ => none) yt185 := (y_T_cons 8 rfl y_T_nil)
def yct185_0 : yCt := ([(2, Int.ofNat 0, Int.ofNat 0, false), (1, Int.negSucc 9223372036854775807, Int.ofNat 9223372036854775807, false)], (some (1, Int.negSucc 9223372036854775807, Int.ofNat 9223372036854775807, false)), [(0, 11, 11)])
set_option maxRecDepth 100000 in
theorem yd185_0 : y_drv yt185 (y_st []) none (y_po yct185_0) [0] 100000 5000 [y_start 2 yct185_0] = true := by decide +kernel
theorem yc185_0 : y_Mca yG 185 yct185_0 := y_Mca_of (r := ev_r185) rfl (y_con (k := 2) (by decide) (fun hc0 _ => y_drv_ok (h0 := (yG, hc0)) y_i0_ok y_c0_ok yT185 (fun _ h1 h2 => y_po_ok h1 h2) yd185_0 _ (List.mem_singleton.mpr rfl)))
noncomputable def ycs185 : List yCt := [yct185_0]
theorem yCs185 : ∀ ct ∈ ycs185, y_Mca yG 185 ct := (y_l1 yc185_0 y_l0)
