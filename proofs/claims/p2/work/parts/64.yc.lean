/-! contracts, by program -/
/-- NameHallModel.who(I)I -/
noncomputable def yt160 : List (Nat × yB) := [(0, fun ih => yo_lda 0 (yo_ld 0 1 (yo_cl yG ym46 11 1 2 0 0 0 0 (yo_if .ne (ih 10) (yo_push (0, 0, Int.negSucc 0) (yo_ri 1)))))),
  (10, fun ih => yo_push (0, 0, Int.ofNat 0) (yo_st 0 2 6 (yo_push (0, 0, Int.ofNat 0) (yo_st 0 3 6 (ih 14))))),
  (14, fun ih => yo_ld 0 3 (yo_lda 0 (yo_gf yG 10 1 (yo_ic .ge (ih 146) (yo_lda 0 (yo_push (0, 0, Int.ofNat 0) (yo_ld 0 3 (yo_cts yG ycs74 11 2 3 0 0 0 0 (yo_if .ne (ih 48) (yo_lda 0 (yo_gf yG 10 6 (yo_ld 0 3 (yo_al yG none 0 (yo_ld 0 1 (yo_cts yG ycs73 0 2 2 0 0 0 0 (yo_if .eq (ih 48) (yo_push (0, 0, Int.ofNat 1) (ih 49)))))))))))))))))),
  (48, fun ih => yo_push (0, 0, Int.ofNat 0) (ih 49)),
  (49, fun ih => yo_st 0 4 6 (yo_push (0, 0, Int.ofNat 0) (yo_st 0 5 6 (ih 54)))),
  (54, fun ih => yo_ld 0 5 (yo_lda 0 (yo_gf yG 10 21 (yo_ic .ge (ih 125) (yo_ld 0 4 (yo_if .eq (ih 116) (yo_lda 0 (yo_gf yG 10 22 (yo_ld 0 5 (yo_al yG none 0 (yo_push (0, 0, Int.ofNat 5) (yo_ld 0 1 (yo_bin 0 0 yg_add (yo_ic .ne (ih 112) (yo_lda 0 (yo_push (0, 0, Int.ofNat 0) (yo_ld 0 3 (yo_lda 0 (yo_gf yG 10 23 (yo_ld 0 5 (yo_al yG none 0 (yo_cts yG ycs90 11 3 4 0 0 0 0 (yo_if .eq (ih 116) (yo_lda 0 (yo_ld 0 3 (yo_lda 0 (yo_gf yG 10 23 (yo_ld 0 5 (yo_al yG none 0 (yo_cts yG ycs159 11 2 5 0 0 0 0 (yo_if .ne (ih 116) (ih 112)))))))))))))))))))))))))))))))),
  (112, fun ih => yo_push (0, 0, Int.ofNat 1) (ih 117)),
  (116, fun ih => yo_push (0, 0, Int.ofNat 0) (ih 117)),
  (117, fun ih => yo_st 0 4 6 (yo_inc 5 6 (Int.ofNat 1) (ih 54))),
  (125, fun ih => yo_ld 0 2 (yo_ld 0 4 (yo_if .eq (ih 137) (yo_push (0, 0, Int.ofNat 1) (yo_ld 0 3 (yo_bin 0 0 (xg_i x_ishl (yg_en x_ishl)) (ih 138))))))),
  (137, fun ih => yo_push (0, 0, Int.ofNat 0) (ih 138)),
  (138, fun ih => yo_bin 0 0 (xg_i (· ||| ·) yg_bit) (yo_st 0 2 6 (yo_inc 3 6 (Int.ofNat 1) (ih 14)))),
  (146, fun ih => yo_ld 0 2 (yo_ri 1))]
set_option maxRecDepth 100000 in
theorem yT160 : y_T yG none (y_ic 46 ym46 y_i0) (y_cc 74 ycs74 (y_cc 73 ycs73 (y_cc 90 ycs90 (y_cc 159 ycs159 y_c0)))) ev_r160.1 (fun _ => none) yt160 := (y_T_cons 6 rfl (y_T_cons 4 rfl (y_T_cons 18 rfl (y_T_cons 1 rfl (y_T_cons 3 rfl (y_T_cons 31 rfl (y_T_cons 2 rfl (y_T_cons 1 rfl (y_T_cons 3 rfl (y_T_cons 7 rfl (y_T_cons 1 rfl (y_T_cons 4 rfl (y_T_cons 2 rfl y_T_nil)))))))))))))
def yct160_0 : yCt := ([(2, Int.ofNat 55, Int.ofNat 55, false), (0, Int.negSucc 2147483647, Int.ofNat 2147483647, false)], (some (0, Int.negSucc 0, Int.ofNat 31, false)), [])
set_option maxRecDepth 100000 in
theorem yd160_0 : y_drv yt160 (y_st [14, 54]) none (y_po yct160_0) [0, 54, 14] 100000 5000 [y_start 4 yct160_0] = true := by decide +kernel
theorem yc160_0 : y_Mca yG 160 yct160_0 := y_Mca_of (r := ev_r160) rfl (y_con (k := 4) (by decide) (fun hc0 _ => y_drv_ok (h0 := (yG, hc0)) (y_ic_ok (yM46 hc0) y_i0_ok) (y_cc_ok yCs74 (y_cc_ok yCs73 (y_cc_ok yCs90 (y_cc_ok yCs159 y_c0_ok)))) yT160 (fun _ h1 h2 => y_po_ok h1 h2) yd160_0 _ (List.mem_singleton.mpr rfl)))
noncomputable def ycs160 : List yCt := [yct160_0]
theorem yCs160 : ∀ ct ∈ ycs160, y_Mca yG 160 ct := (y_l1 yc160_0 y_l0)
/-- NameHall.gain(III)I -/
noncomputable def yt161 : List (Nat × yB) := [(0, fun ih => yo_lda 0 (yo_gf yG 9 7 (yo_lda 0 (yo_gf yG 9 2 (yo_ld 0 3 (yo_ld 0 2 (yo_cts yG ycs104 4 3 6 0 0 0 0 (yo_lda 0 (yo_gf yG 9 7 (yo_cts yG ycs110 4 0 1 0 0 0 0 (yo_st 0 4 5 (yo_lda 0 (yo_gf yG 9 7 (yo_lda 0 (yo_gf yG 9 2 (yo_ld 0 3 (yo_ld 0 2 (yo_push (0, 0, Int.ofNat 1) (yo_ld 0 1 (yo_bin 0 0 (xg_i x_ishl (yg_en x_ishl)) (yo_bin 0 0 (xg_i (· ||| ·) yg_bit) (yo_cts yG ycs104 4 3 6 0 0 0 0 (yo_lda 0 (yo_gf yG 9 7 (yo_cts yG ycs110 4 0 1 0 0 0 0 (yo_ld 0 4 (yo_bin 0 0 yg_sub (yo_ri 1))))))))))))))))))))))))))))]
set_option maxRecDepth 100000 in
theorem yT161 : y_T yG none y_i0 (y_cc 104 ycs104 (y_cc 110 ycs110 y_c0)) ev_r161.1 (fun _ => none) yt161 := (y_T_cons 28 rfl y_T_nil)
def yct161_0 : yCt := ([(2, Int.ofNat 0, Int.ofNat 0, false), (0, Int.negSucc 2147483647, Int.ofNat 2147483647, false), (0, Int.negSucc 2147483647, Int.ofNat 2147483647, false), (0, Int.negSucc 2147483647, Int.ofNat 2147483647, false)], (some (0, Int.negSucc 2147483647, Int.ofNat 2147483647, false)), [(42, 0, 4), (43, 0, 3)])
set_option maxRecDepth 100000 in
theorem yd161_0 : y_drv yt161 (y_st []) none (y_po yct161_0) [0] 100000 5000 [y_start 1 yct161_0] = true := by decide +kernel
theorem yc161_0 : y_Mca yG 161 yct161_0 := y_Mca_of (r := ev_r161) rfl (y_con (k := 1) (by decide) (fun hc0 _ => y_drv_ok (h0 := (yG, hc0)) y_i0_ok (y_cc_ok yCs104 (y_cc_ok yCs110 y_c0_ok)) yT161 (fun _ h1 h2 => y_po_ok h1 h2) yd161_0 _ (List.mem_singleton.mpr rfl)))
noncomputable def ycs161 : List yCt := [yct161_0]
theorem yCs161 : ∀ ct ∈ ycs161, y_Mca yG 161 ct := (y_l1 yc161_0 y_l0)
/-- NameHall.factorial(I)I -/
noncomputable def yt162 : List (Nat × yB) := [(0, fun ih => yo_push (0, 0, Int.ofNat 1) (yo_st 0 1 3 (yo_push (0, 0, Int.ofNat 2) (yo_st 0 2 3 (ih 4))))),
  (4, fun ih => yo_ld 0 2 (yo_ld 0 0 (yo_ic .gt (ih 24) (yo_ld 0 2 (yo_push (0, 0, Int.ofNat 4) (yo_ic .gt (ih 24) (yo_ld 0 1 (yo_ld 0 2 (yo_bin 0 0 (xg_i (· * ·) yg_mul) (yo_st 0 1 3 (yo_inc 2 3 (Int.ofNat 1) (ih 4)))))))))))),
  (24, fun ih => yo_ld 0 1 (yo_ri 1))]
set_option maxRecDepth 100000 in
theorem yT162 : y_T yG none y_i0 y_c0 ev_r162.1 (fun _ => none) yt162 := (y_T_cons 4 rfl (y_T_cons 12 rfl (y_T_cons 2 rfl y_T_nil)))
def yct162_0 : yCt := ([(0, Int.negSucc 2147483647, Int.ofNat 2147483647, false)], (some (0, Int.ofNat 1, Int.ofNat 24, false)), [])
set_option maxRecDepth 100000 in
theorem yd162_0 : y_drv yt162 (y_st [4]) none (y_po yct162_0) [0, 4] 100000 5000 [y_start 2 yct162_0] = true := by decide +kernel
theorem yc162_0 : y_Mca yG 162 yct162_0 := y_Mca_of (r := ev_r162) rfl (y_con (k := 2) (by decide) (fun hc0 _ => y_drv_ok (h0 := (yG, hc0)) y_i0_ok y_c0_ok yT162 (fun _ h1 h2 => y_po_ok h1 h2) yd162_0 _ (List.mem_singleton.mpr rfl)))
noncomputable def ycs162 : List yCt := [yct162_0]
theorem yCs162 : ∀ ct ∈ ycs162, y_Mca yG 162 ct := (y_l1 yc162_0 y_l0)
/-- NameHall.ordersWith(I)I -/
noncomputable def yt163 : List (Nat × yB) := [(0, fun ih => yo_ld 0 1 (yo_cts yG ycs162 0 1 3 0 0 0 0 (yo_lda 0 (yo_gf yG 9 1 (yo_cts yG ycs36 5 0 1 0 0 0 0 (yo_push (0, 0, Int.ofNat 1) (yo_bin 0 0 yg_sub (yo_ld 0 1 (yo_bin 0 0 yg_sub (yo_cts yG ycs162 0 1 3 0 0 0 0 (yo_bin 0 0 (xg_i (· * ·) yg_mul) (yo_ri 1))))))))))))]
set_option maxRecDepth 100000 in
theorem yT163 : y_T yG none y_i0 (y_cc 162 ycs162 (y_cc 36 ycs36 y_c0)) ev_r163.1 (fun _ => none) yt163 := (y_T_cons 12 rfl y_T_nil)
def yct163_0 : yCt := ([(2, Int.ofNat 0, Int.ofNat 0, false), (0, Int.negSucc 2147483647, Int.ofNat 2147483647, false)], (some (0, Int.ofNat 1, Int.ofNat 576, false)), [])
set_option maxRecDepth 100000 in
theorem yd163_0 : y_drv yt163 (y_st []) none (y_po yct163_0) [0] 100000 5000 [y_start 0 yct163_0] = true := by decide +kernel
theorem yc163_0 : y_Mca yG 163 yct163_0 := y_Mca_of (r := ev_r163) rfl (y_con (k := 0) (by decide) (fun hc0 _ => y_drv_ok (h0 := (yG, hc0)) y_i0_ok (y_cc_ok yCs162 (y_cc_ok yCs36 y_c0_ok)) yT163 (fun _ h1 h2 => y_po_ok h1 h2) yd163_0 _ (List.mem_singleton.mpr rfl)))
noncomputable def ycs163 : List yCt := [yct163_0]
theorem yCs163 : ∀ ct ∈ ycs163, y_Mca yG 163 ct := (y_l1 yc163_0 y_l0)
/-- NameHall.commonDivisor(II)I -/
noncomputable def yt164 : List (Nat × yB) := [(0, fun ih => yo_ld 0 0 (yo_st 0 2 6 (yo_ld 0 1 (yo_st 0 3 6 (yo_push (0, 0, Int.ofNat 0) (yo_st 0 4 6 (ih 7))))))),
  (7, fun ih => yo_ld 0 4 (yo_push (0, 0, Int.ofNat 50) (yo_ic .ge (ih 34) (yo_ld 0 3 (y_cuts (some (Int.ofNat 0)) (yo_if .eq (ih 34) (yo_ld 0 2 (yo_ld 0 3 (yo_dv 1 yg_rem (yo_st 0 5 6 (yo_ld 0 3 (yo_st 0 2 6 (yo_ld 0 5 (yo_st 0 3 6 (yo_inc 4 6 (Int.ofNat 1) (ih 7)))))))))))))))),
  (34, fun ih => yo_ld 0 2 (yo_ri 1))]
set_option maxRecDepth 100000 in
theorem yT164 : y_T yG none y_i0 y_c0 ev_r164.1 (fun pc => (match Nat.beq pc 15 with
  | true => (some (Int.ofNat 0))
  | false => none)) yt164 := (y_T_cons 6 rfl (y_T_cons 15 rfl (y_T_cons 2 rfl y_T_nil)))
def yct164_0 : yCt := ([(0, Int.negSucc 2147483647, Int.ofNat 2147483647, false), (0, Int.negSucc 2147483647, Int.ofNat 2147483647, false)], (some (0, Int.negSucc 2147483647, Int.ofNat 2147483647, false)), [])
set_option maxRecDepth 100000 in
theorem yd164_0 : y_drv yt164 (y_st [7]) none (y_po yct164_0) [0, 7] 100000 5000 [y_start 4 yct164_0] = true := by decide +kernel
theorem yc164_0 : y_Mca yG 164 yct164_0 := y_Mca_of (r := ev_r164) rfl (y_con (k := 4) (by decide) (fun hc0 _ => y_drv_ok (h0 := (yG, hc0)) y_i0_ok y_c0_ok yT164 (fun _ h1 h2 => y_po_ok h1 h2) yd164_0 _ (List.mem_singleton.mpr rfl)))
noncomputable def ycs164 : List yCt := [yct164_0]
theorem yCs164 : ∀ ct ∈ ycs164, y_Mca yG 164 ct := (y_l1 yc164_0 y_l0)
/-- NameHall.partOfFraction(IIZ)I -/
noncomputable def yt165 : List (Nat × yB) := [(0, fun ih => yo_ld 0 0 (yo_ld 0 1 (yo_cts yG ycs164 0 2 6 0 0 0 0 (yo_st 0 3 5 (yo_ld 0 2 (yo_if .eq (ih 14) (yo_ld 0 0 (ih 15)))))))),
  (14, fun ih => yo_ld 0 1 (ih 15)),
  (15, fun ih => yo_st 0 4 5 (yo_ld 0 3 (yo_push (0, 0, Int.ofNat 1) (yo_ic .le (ih 29) (yo_ld 0 4 (yo_ld 0 3 (yo_dv 0 xg_div (ih 31)))))))),
  (29, fun ih => yo_ld 0 4 (ih 31)),
  (31, fun ih => yo_ri 1)]
set_option maxRecDepth 100000 in
theorem yT165 : y_T yG none y_i0 (y_cc 164 ycs164 y_c0) ev_r165.1 (fun _ => none) yt165 := (y_T_cons 8 rfl (y_T_cons 1 rfl (y_T_cons 8 rfl (y_T_cons 1 rfl (y_T_cons 1 rfl y_T_nil)))))
def yct165_0 : yCt := ([(0, Int.negSucc 2147483647, Int.ofNat 2147483647, false), (0, Int.negSucc 2147483647, Int.ofNat 2147483647, false), (0, Int.ofNat 0, Int.ofNat 1, false)], (some (0, Int.negSucc 2147483647, Int.ofNat 2147483647, false)), [])
set_option maxRecDepth 100000 in
theorem yd165_0 : y_drv yt165 (y_st []) none (y_po yct165_0) [0] 100000 5000 [y_start 2 yct165_0] = true := by decide +kernel
theorem yc165_0 : y_Mca yG 165 yct165_0 := y_Mca_of (r := ev_r165) rfl (y_con (k := 2) (by decide) (fun hc0 _ => y_drv_ok (h0 := (yG, hc0)) y_i0_ok (y_cc_ok yCs164 y_c0_ok) yT165 (fun _ h1 h2 => y_po_ok h1 h2) yd165_0 _ (List.mem_singleton.mpr rfl)))
noncomputable def ycs165 : List yCt := [yct165_0]
theorem yCs165 : ∀ ct ∈ ycs165, y_Mca yG 165 ct := (y_l1 yc165_0 y_l0)
/-- NameHall.share(IIZ)I -/
noncomputable def yt166 : List (Nat × yB) := [(0, fun ih => yo_lda 0 (yo_gf yG 9 1 (yo_ld 0 1 (yo_cl yG ym40 5 1 2 0 0 0 0 (yo_if .ne (ih 13) (yo_push (0, 0, Int.negSucc 0) (yo_ri 1))))))),
  (13, fun ih => yo_ld 0 2 (yo_cl yG ym101 0 1 1 0 0 0 0 (yo_if .ne (ih 23) (yo_push (0, 0, Int.negSucc 1) (yo_ri 1))))),
  (23, fun ih => yo_push (0, 0, Int.ofNat 1) (yo_lda 0 (yo_gf yG 9 1 (yo_cts yG ycs36 5 0 1 0 0 0 0 (yo_bin 0 0 (xg_i x_ishl (yg_en x_ishl)) (yo_push (0, 0, Int.ofNat 1) (yo_bin 0 0 yg_sub (yo_push (0, 0, Int.ofNat 1) (yo_ld 0 1 (yo_bin 0 0 (xg_i x_ishl (yg_en x_ishl)) (yo_push (0, 0, Int.negSucc 0) (yo_bin 0 0 (xg_i (· ^^^ ·) yg_bit) (yo_bin 0 0 (xg_i (· &&& ·) xg_and) (yo_st 0 4 7 (yo_push (0, 0, Int.ofNat 0) (yo_st 0 5 7 (yo_push (0, 0, Int.ofNat 0) (yo_st 0 6 7 (ih 48))))))))))))))))))),
  (48, fun ih => yo_ld 0 6 (yo_push (0, 0, Int.ofNat 16) (yo_ic .ge (ih 94) (yo_ld 0 6 (yo_ld 0 4 (yo_push (0, 0, Int.negSucc 0) (yo_bin 0 0 (xg_i (· ^^^ ·) yg_bit) (yo_bin 0 0 (xg_i (· &&& ·) xg_and) (yo_if .ne (ih 88) (yo_ld 0 5 (yo_lda 0 (yo_ld 0 1 (yo_ld 0 6 (yo_ld 0 2 (yo_cts yG ycs161 10 3 5 0 0 0 0 (yo_lda 0 (yo_ld 0 6 (yo_cts yG ycs65 0 1 1 0 0 0 0 (yo_cts yG ycs163 10 1 2 0 0 0 0 (yo_bin 0 0 (xg_i (· * ·) yg_mul) (yo_bin 0 0 yg_add (yo_st 0 5 7 (ih 88))))))))))))))))))))))),
  (88, fun ih => yo_inc 6 7 (Int.ofNat 1) (ih 48)),
  (94, fun ih => yo_ld 0 5 (yo_lda 0 (yo_gf yG 9 1 (yo_cts yG ycs36 5 0 1 0 0 0 0 (yo_cts yG ycs162 0 1 3 0 0 0 0 (yo_ld 0 3 (yo_cts yG ycs165 0 3 5 0 0 0 0 (yo_ri 1))))))))]
set_option maxRecDepth 100000 in
theorem yT166 : y_T yG none (y_ic 40 ym40 (y_ic 101 ym101 y_i0)) (y_cc 36 ycs36 (y_cc 161 ycs161 (y_cc 65 ycs65 (y_cc 163 ycs163 (y_cc 162 ycs162 (y_cc 165 ycs165 y_c0)))))) ev_r166.1 (fun _ => none) yt166 := (y_T_cons 7 rfl (y_T_cons 5 rfl (y_T_cons 18 rfl (y_T_cons 22 rfl (y_T_cons 2 rfl (y_T_cons 8 rfl y_T_nil))))))
def yct166_0 : yCt := ([(2, Int.ofNat 0, Int.ofNat 0, false), (0, Int.negSucc 2147483647, Int.ofNat 2147483647, false), (0, Int.negSucc 2147483647, Int.ofNat 2147483647, false), (0, Int.ofNat 0, Int.ofNat 1, false)], (some (0, Int.negSucc 2147483647, Int.ofNat 2147483647, false)), [(42, 0, 4), (43, 0, 3)])
set_option maxRecDepth 100000 in
theorem yd166_0 : y_drv yt166 (y_st [48]) none (y_po yct166_0) [0, 48] 100000 5000 [y_start 3 yct166_0] = true := by decide +kernel
theorem yc166_0 : y_Mca yG 166 yct166_0 := y_Mca_of (r := ev_r166) rfl (y_con (k := 3) (by decide) (fun hc0 _ => y_drv_ok (h0 := (yG, hc0)) (y_ic_ok (yM40 hc0) (y_ic_ok (yM101 hc0) y_i0_ok)) (y_cc_ok yCs36 (y_cc_ok yCs161 (y_cc_ok yCs65 (y_cc_ok yCs163 (y_cc_ok yCs162 (y_cc_ok yCs165 y_c0_ok)))))) yT166 (fun _ h1 h2 => y_po_ok h1 h2) yd166_0 _ (List.mem_singleton.mpr rfl)))
noncomputable def ycs166 : List yCt := [yct166_0]
theorem yCs166 : ∀ ct ∈ ycs166, y_Mca yG 166 ct := (y_l1 yc166_0 y_l0)
/-- NameHallModel.factorial(I)I -/
noncomputable def yt167 : List (Nat × yB) := [(0, fun ih => yo_push (0, 0, Int.ofNat 1) (yo_st 0 1 3 (yo_push (0, 0, Int.ofNat 2) (yo_st 0 2 3 (ih 4))))),
  (4, fun ih => yo_ld 0 2 (yo_ld 0 0 (yo_ic .gt (ih 19) (yo_ld 0 1 (yo_ld 0 2 (yo_bin 0 0 (xg_i (· * ·) yg_mul) (yo_st 0 1 3 (yo_inc 2 3 (Int.ofNat 1) (ih 4))))))))),
  (19, fun ih => yo_ld 0 1 (yo_ri 1))]
set_option maxRecDepth 100000 in
theorem yT167 : y_T yG none y_i0 y_c0 ev_r167.1 (fun _ => none) yt167 := (y_T_cons 4 rfl (y_T_cons 9 rfl (y_T_cons 2 rfl y_T_nil)))
def yct167_0 : yCt := ([(0, Int.negSucc 4, Int.ofNat 5, false)], (some (0, Int.ofNat 1, Int.ofNat 120, false)), [])
set_option maxRecDepth 100000 in
theorem yd167_0 : y_drv yt167 (y_st [4]) none (y_po yct167_0) [0, 4] 100000 5000 [y_start 2 yct167_0] = true := by decide +kernel
theorem yc167_0 : y_Mca yG 167 yct167_0 := y_Mca_of (r := ev_r167) rfl (y_con (k := 2) (by decide) (fun hc0 _ => y_drv_ok (h0 := (yG, hc0)) y_i0_ok y_c0_ok yT167 (fun _ h1 h2 => y_po_ok h1 h2) yd167_0 _ (List.mem_singleton.mpr rfl)))
noncomputable def ycs167 : List yCt := [yct167_0]
theorem yCs167 : ∀ ct ∈ ycs167, y_Mca yG 167 ct := (y_l1 yc167_0 y_l0)
/-- NameHallModel.common(II)I -/
noncomputable def yt168 : List (Nat × yB) := [(0, fun ih => yo_ld 0 0 (yo_if .ge (ih 9) (yo_ld 0 0 (yo_un 0 yg_neg (ih 10))))),
  (9, fun ih => yo_ld 0 0 (ih 10)),
  (10, fun ih => yo_st 0 2 5 (yo_ld 0 1 (yo_st 0 3 5 (ih 13)))),
  (13, fun ih => yo_ld 0 3 (y_cuts (some (Int.ofNat 0)) (yo_if .eq (ih 30) (yo_ld 0 2 (yo_ld 0 3 (yo_dv 1 yg_rem (yo_st 0 4 5 (yo_ld 0 3 (yo_st 0 2 5 (yo_ld 0 4 (yo_st 0 3 5 (ih 13)))))))))))),
  (30, fun ih => yo_ld 0 2 (yo_ri 1))]
set_option maxRecDepth 100000 in
theorem yT168 : y_T yG none y_i0 y_c0 ev_r168.1 (fun pc => (match Nat.beq pc 14 with
  | true => (some (Int.ofNat 0))
  | false => none)) yt168 := (y_T_cons 5 rfl (y_T_cons 1 rfl (y_T_cons 3 rfl (y_T_cons 11 rfl (y_T_cons 2 rfl y_T_nil)))))
def yct168_0 : yCt := ([(0, Int.negSucc 4999999, Int.ofNat 5000000, false), (0, Int.ofNat 1, Int.ofNat 625, false)], (some (0, Int.ofNat 1, Int.ofNat 625, false)), [])
set_option maxRecDepth 100000 in
theorem yd168_0 : y_drv yt168 (y_st [13]) none (y_po yct168_0) [0, 13] 100000 5000 [y_start 3 yct168_0] = true := by decide +kernel
theorem yc168_0 : y_Mca yG 168 yct168_0 := y_Mca_of (r := ev_r168) rfl (y_con (k := 3) (by decide) (fun hc0 _ => y_drv_ok (h0 := (yG, hc0)) y_i0_ok y_c0_ok yT168 (fun _ h1 h2 => y_po_ok h1 h2) yd168_0 _ (List.mem_singleton.mpr rfl)))
noncomputable def ycs168 : List yCt := [yct168_0]
theorem yCs168 : ∀ ct ∈ ycs168, y_Mca yG 168 ct := (y_l1 yc168_0 y_l0)
/-- NameHallModel.share(IIZ)I -/
noncomputable def yt169 : List (Nat × yB) := [(0, fun ih => yo_lda 0 (yo_ld 0 1 (yo_cl yG ym46 11 1 2 0 0 0 0 (yo_if .ne (ih 10) (yo_push (0, 0, Int.negSucc 0) (yo_ri 1)))))),
  (10, fun ih => yo_ld 0 2 (yo_un 0 xg_i2l (yo_push (1, 0, Int.ofNat 0) (yo_push (1, 0, Int.ofNat 9) (yo_cl yG ym15 0 3 6 0 0 0 0 (yo_if .ne (ih 25) (yo_push (0, 0, Int.negSucc 1) (yo_ri 1)))))))),
  (25, fun ih => yo_push (0, 0, Int.ofNat 0) (yo_st 0 4 7 (ih 28))),
  (28, fun ih => yo_ld 0 4 (yo_push (0, 0, Int.ofNat 1) (yo_lda 0 (yo_gf yG 10 0 (yo_bin 0 0 (xg_i x_ishl (yg_en x_ishl)) (yo_ic .ge (ih 64) (yo_lda 0 (yo_gf yG 10 24 (yo_ld 0 4 (yo_lda 0 (yo_ld 0 2 (yo_ld 0 4 (yo_lda 0 (yo_cts yG ycs114 11 0 1 0 0 0 0 (yo_bin 0 0 (xg_i (· &&& ·) xg_and) (yo_cts yG ycs118 11 2 7 0 0 0 0 (yo_as yG 0 (yo_inc 4 7 (Int.ofNat 1) (ih 28))))))))))))))))))),
  (64, fun ih => yo_push (0, 0, Int.ofNat 0) (yo_st 0 4 7 (yo_push (0, 0, Int.ofNat 0) (yo_st 0 5 7 (ih 70))))),
  (70, fun ih => yo_ld 0 5 (yo_push (0, 0, Int.ofNat 1) (yo_lda 0 (yo_gf yG 10 0 (yo_bin 0 0 (xg_i x_ishl (yg_en x_ishl)) (yo_ic .ge (ih 149) (yo_ld 0 5 (yo_ld 0 1 (yo_cts yG ycs73 0 2 2 0 0 0 0 (yo_if .ne (ih 143) (yo_ld 0 5 (yo_cts yG ycs75 0 1 3 0 0 0 0 (yo_cts yG ycs167 0 1 3 0 0 0 0 (yo_lda 0 (yo_gf yG 10 0 (yo_push (0, 0, Int.ofNat 1) (yo_bin 0 0 yg_sub (yo_ld 0 5 (yo_cts yG ycs75 0 1 3 0 0 0 0 (yo_bin 0 0 yg_sub (yo_cts yG ycs167 0 1 3 0 0 0 0 (yo_bin 0 0 (xg_i (· * ·) yg_mul) (yo_st 0 6 7 (yo_ld 0 4 (yo_ld 0 6 (yo_lda 0 (yo_gf yG 10 24 (yo_ld 0 5 (yo_push (0, 0, Int.ofNat 1) (yo_ld 0 1 (yo_bin 0 0 (xg_i x_ishl (yg_en x_ishl)) (yo_bin 0 0 (xg_i (· ||| ·) yg_bit) (yo_al yG none 0 (yo_lda 0 (yo_gf yG 10 24 (yo_ld 0 5 (yo_al yG none 0 (yo_bin 0 0 yg_sub (yo_bin 0 0 (xg_i (· * ·) yg_mul) (yo_bin 0 0 yg_add (yo_st 0 4 7 (ih 143)))))))))))))))))))))))))))))))))))))))))),
  (143, fun ih => yo_inc 5 7 (Int.ofNat 1) (ih 70)),
  (149, fun ih => yo_ld 0 4 (yo_lda 0 (yo_gf yG 10 0 (yo_cts yG ycs167 0 1 3 0 0 0 0 (yo_cts yG ycs168 0 2 5 0 0 0 0 (yo_st 0 5 7 (yo_ld 0 3 (yo_if .eq (ih 175) (yo_ld 0 4 (yo_ld 0 5 (yo_dv 0 xg_div (ih 185)))))))))))),
  (175, fun ih => yo_lda 0 (yo_gf yG 10 0 (yo_cts yG ycs167 0 1 3 0 0 0 0 (yo_ld 0 5 (yo_dv 0 xg_div (ih 185)))))),
  (185, fun ih => yo_ri 1)]
set_option maxRecDepth 100000 in
theorem yT169 : y_T yG none (y_ic 46 ym46 (y_ic 15 ym15 y_i0)) (y_cc 114 ycs114 (y_cc 118 ycs118 (y_cc 73 ycs73 (y_cc 75 ycs75 (y_cc 167 ycs167 (y_cc 168 ycs168 y_c0)))))) ev_r169.1 (fun _ => none) yt169 := (y_T_cons 6 rfl (y_T_cons 8 rfl (y_T_cons 2 rfl (y_T_cons 19 rfl (y_T_cons 4 rfl (y_T_cons 41 rfl (y_T_cons 2 rfl (y_T_cons 12 rfl (y_T_cons 5 rfl (y_T_cons 1 rfl y_T_nil))))))))))
noncomputable def ycs169 : List yCt := []
theorem yCs169 : ∀ ct ∈ ycs169, y_Mca yG 169 ct := y_l0
/-- NameHall$Bidding.prepare(IZZ)V -/
noncomputable def yt170 : List (Nat × yB) := [(0, fun ih => yo_lda 0 (yo_ld 0 1 (yo_pf yG 1 0 0 (yo_lda 0 (yo_ld 0 2 (yo_pf yG 1 1 2 (yo_lda 0 (yo_ld 0 3 (yo_pf yG 1 2 2 (yo_rv 0))))))))))]
set_option maxRecDepth 100000 in
theorem yT170 : y_T yG none y_i0 y_c0 ev_r170.1 (fun _ => none) yt170 := (y_T_cons 10 rfl y_T_nil)
def yct170_0 : yCt := ([(2, Int.ofNat 53, Int.ofNat 53, false), (0, Int.negSucc 2147483647, Int.ofNat 2147483647, false), (0, Int.ofNat 0, Int.ofNat 1, false), (0, Int.ofNat 0, Int.ofNat 1, false)], none, [(53, 0, 2)])
set_option maxRecDepth 100000 in
theorem yd170_0 : y_drv yt170 (y_st []) none (y_po yct170_0) [0] 100000 5000 [y_start 0 yct170_0] = true := by decide +kernel
theorem yc170_0 : y_Mca yG 170 yct170_0 := y_Mca_of (r := ev_r170) rfl (y_con (k := 0) (by decide) (fun hc0 _ => y_drv_ok (h0 := (yG, hc0)) y_i0_ok y_c0_ok yT170 (fun _ h1 h2 => y_po_ok h1 h2) yd170_0 _ (List.mem_singleton.mpr rfl)))
noncomputable def ycs170 : List yCt := [yct170_0]
theorem yCs170 : ∀ ct ∈ ycs170, y_Mca yG 170 ct := (y_l1 yc170_0 y_l0)
/-- NameHall$Bidding.gainBy(IZ)I -/
noncomputable def yt171 : List (Nat × yB) := [(0, fun ih => yo_ld 0 2 (yo_if .eq (ih 11) (yo_lda 0 (yo_gf yG 1 0 (yo_ld 0 1 (yo_bin 0 0 yg_sub (yo_ri 1))))))),
  (11, fun ih => yo_ld 0 1 (yo_if .le (ih 19) (yo_push (0, 0, Int.negSucc 0) (ih 20)))),
  (19, fun ih => yo_push (0, 0, Int.ofNat 0) (ih 20)),
  (20, fun ih => yo_ri 1)]
set_option maxRecDepth 100000 in
theorem yT171 : y_T yG none y_i0 y_c0 ev_r171.1 (fun _ => none) yt171 := (y_T_cons 7 rfl (y_T_cons 4 rfl (y_T_cons 1 rfl (y_T_cons 1 rfl y_T_nil))))
def yct171_0 : yCt := ([(2, Int.ofNat 53, Int.ofNat 53, false), (0, Int.negSucc 2147483647, Int.ofNat 2147483647, false), (0, Int.ofNat 0, Int.ofNat 1, false)], (some (0, Int.negSucc 2147483647, Int.ofNat 2147483647, false)), [])
set_option maxRecDepth 100000 in
theorem yd171_0 : y_drv yt171 (y_st []) none (y_po yct171_0) [0] 100000 5000 [y_start 0 yct171_0] = true := by decide +kernel
theorem yc171_0 : y_Mca yG 171 yct171_0 := y_Mca_of (r := ev_r171) rfl (y_con (k := 0) (by decide) (fun hc0 _ => y_drv_ok (h0 := (yG, hc0)) y_i0_ok y_c0_ok yT171 (fun _ h1 h2 => y_po_ok h1 h2) yd171_0 _ (List.mem_singleton.mpr rfl)))
noncomputable def ycs171 : List yCt := [yct171_0]
theorem yCs171 : ∀ ct ∈ ycs171, y_Mca yG 171 ct := (y_l1 yc171_0 y_l0)
/-- NameHall$Bidding.gainOfOne(II)I -/
noncomputable def yt172 : List (Nat × yB) := [(0, fun ih => yo_lda 0 (yo_ld 0 1 (yo_lda 0 (yo_gf yG 1 1 (yo_if .eq (ih 25) (yo_ld 0 1 (yo_ld 0 2 (yo_ic .ge (ih 21) (yo_lda 0 (yo_gf yG 1 2 (yo_if .ne (ih 25) (ih 21)))))))))))),
  (21, fun ih => yo_push (0, 0, Int.ofNat 1) (ih 26)),
  (25, fun ih => yo_push (0, 0, Int.ofNat 0) (ih 26)),
  (26, fun ih => yo_cts yG ycs171 2 2 3 0 0 0 0 (yo_ri 1))]
set_option maxRecDepth 100000 in
theorem yT172 : y_T yG none y_i0 (y_cc 171 ycs171 y_c0) ev_r172.1 (fun _ => none) yt172 := (y_T_cons 11 rfl (y_T_cons 2 rfl (y_T_cons 1 rfl (y_T_cons 2 rfl y_T_nil))))
def yct172_0 : yCt := ([(2, Int.ofNat 53, Int.ofNat 53, false), (0, Int.negSucc 2147483647, Int.ofNat 2147483647, false), (0, Int.negSucc 2147483647, Int.ofNat 2147483647, false)], (some (0, Int.negSucc 2147483647, Int.ofNat 2147483647, false)), [])
set_option maxRecDepth 100000 in
theorem yd172_0 : y_drv yt172 (y_st []) none (y_po yct172_0) [0] 100000 5000 [y_start 0 yct172_0] = true := by decide +kernel
theorem yc172_0 : y_Mca yG 172 yct172_0 := y_Mca_of (r := ev_r172) rfl (y_con (k := 0) (by decide) (fun hc0 _ => y_drv_ok (h0 := (yG, hc0)) y_i0_ok (y_cc_ok yCs171 y_c0_ok) yT172 (fun _ h1 h2 => y_po_ok h1 h2) yd172_0 _ (List.mem_singleton.mpr rfl)))
noncomputable def ycs172 : List yCt := [yct172_0]
theorem yCs172 : ∀ ct ∈ ycs172, y_Mca yG 172 ct := (y_l1 yc172_0 y_l0)
/-- NameHall$Bidding.gainOfOther(II)I -/
noncomputable def yt173 : List (Nat × yB) := [(0, fun ih => yo_lda 0 (yo_ld 0 2 (yo_lda 0 (yo_gf yG 1 2 (yo_if .eq (ih 25) (yo_ld 0 2 (yo_ld 0 1 (yo_ic .gt (ih 21) (yo_lda 0 (yo_gf yG 1 1 (yo_if .ne (ih 25) (ih 21)))))))))))),
  (21, fun ih => yo_push (0, 0, Int.ofNat 1) (ih 26)),
  (25, fun ih => yo_push (0, 0, Int.ofNat 0) (ih 26)),
  (26, fun ih => yo_cts yG ycs171 2 2 3 0 0 0 0 (yo_ri 1))]
set_option maxRecDepth 100000 in
theorem yT173 : y_T yG none y_i0 (y_cc 171 ycs171 y_c0) ev_r173.1 (fun _ => none) yt173 := (y_T_cons 11 rfl (y_T_cons 2 rfl (y_T_cons 1 rfl (y_T_cons 2 rfl y_T_nil))))
def yct173_0 : yCt := ([(2, Int.ofNat 53, Int.ofNat 53, false), (0, Int.negSucc 2147483647, Int.ofNat 2147483647, false), (0, Int.negSucc 2147483647, Int.ofNat 2147483647, false)], (some (0, Int.negSucc 2147483647, Int.ofNat 2147483647, false)), [])
set_option maxRecDepth 100000 in
theorem yd173_0 : y_drv yt173 (y_st []) none (y_po yct173_0) [0] 100000 5000 [y_start 0 yct173_0] = true := by decide +kernel
theorem yc173_0 : y_Mca yG 173 yct173_0 := y_Mca_of (r := ev_r173) rfl (y_con (k := 0) (by decide) (fun hc0 _ => y_drv_ok (h0 := (yG, hc0)) y_i0_ok (y_cc_ok yCs171 y_c0_ok) yT173 (fun _ h1 h2 => y_po_ok h1 h2) yd173_0 _ (List.mem_singleton.mpr rfl)))
noncomputable def ycs173 : List yCt := [yct173_0]
theorem yCs173 : ∀ ct ∈ ycs173, y_Mca yG 173 ct := (y_l1 yc173_0 y_l0)
/-- NameHall$Bidding.isRest(II)Z -/
noncomputable def yt174 : List (Nat × yB) := [(0, fun ih => yo_push (0, 0, Int.ofNat 0) (yo_st 0 3 4 (ih 2))),
  (2, fun ih => yo_ld 0 3 (yo_push (0, 0, Int.ofNat 5) (yo_ic .ge (ih 45) (yo_lda 0 (yo_ld 0 3 (yo_ld 0 2 (yo_cts yG ycs172 2 2 3 0 0 0 0 (yo_lda 0 (yo_ld 0 1 (yo_ld 0 2 (yo_cts yG ycs172 2 2 3 0 0 0 0 (yo_ic .gt (ih 37) (yo_lda 0 (yo_ld 0 1 (yo_ld 0 3 (yo_cts yG ycs173 2 2 3 0 0 0 0 (yo_lda 0 (yo_ld 0 1 (yo_ld 0 2 (yo_cts yG ycs173 2 2 3 0 0 0 0 (yo_ic .le (ih 39) (ih 37)))))))))))))))))))))),
  (37, fun ih => yo_push (0, 0, Int.ofNat 0) (yo_ri 2)),
  (39, fun ih => yo_inc 3 4 (Int.ofNat 1) (ih 2)),
  (45, fun ih => yo_push (0, 0, Int.ofNat 1) (yo_ri 2))]
set_option maxRecDepth 100000 in
theorem yT174 : y_T yG none y_i0 (y_cc 172 ycs172 (y_cc 173 ycs173 y_c0)) ev_r174.1 (fun _ => none) yt174 := (y_T_cons 2 rfl (y_T_cons 21 rfl (y_T_cons 2 rfl (y_T_cons 2 rfl (y_T_cons 2 rfl y_T_nil)))))
def yct174_0 : yCt := ([(2, Int.ofNat 53, Int.ofNat 53, false), (0, Int.negSucc 2147483647, Int.ofNat 2147483647, false), (0, Int.negSucc 2147483647, Int.ofNat 2147483647, false)], (some (0, Int.ofNat 0, Int.ofNat 1, false)), [])
set_option maxRecDepth 100000 in
theorem yd174_0 : y_drv yt174 (y_st [2]) none (y_po yct174_0) [0, 2] 100000 5000 [y_start 1 yct174_0] = true := by decide +kernel
theorem yc174_0 : y_Mca yG 174 yct174_0 := y_Mca_of (r := ev_r174) rfl (y_con (k := 1) (by decide) (fun hc0 _ => y_drv_ok (h0 := (yG, hc0)) y_i0_ok (y_cc_ok yCs172 (y_cc_ok yCs173 y_c0_ok)) yT174 (fun _ h1 h2 => y_po_ok h1 h2) yd174_0 _ (List.mem_singleton.mpr rfl)))
noncomputable def ycs174 : List yCt := [yct174_0]
theorem yCs174 : ∀ ct ∈ ycs174, y_Mca yG 174 ct := (y_l1 yc174_0 y_l0)
/-- NameHall$Bidding.countRests()I -/
noncomputable def yt175 : List (Nat × yB) := [(0, fun ih => yo_push (0, 0, Int.ofNat 0) (yo_st 0 1 4 (yo_push (0, 0, Int.ofNat 0) (yo_st 0 2 4 (ih 4))))),
  (4, fun ih => yo_ld 0 2 (yo_push (0, 0, Int.ofNat 5) (yo_ic .ge (ih 45) (yo_push (0, 0, Int.ofNat 0) (yo_st 0 3 4 (ih 11)))))),
  (11, fun ih => yo_ld 0 3 (yo_push (0, 0, Int.ofNat 5) (yo_ic .ge (ih 39) (yo_ld 0 1 (yo_lda 0 (yo_ld 0 2 (yo_ld 0 3 (yo_cts yG ycs174 2 2 4 0 0 0 0 (yo_if .eq (ih 30) (yo_push (0, 0, Int.ofNat 1) (ih 31))))))))))),
  (30, fun ih => yo_push (0, 0, Int.ofNat 0) (ih 31)),
  (31, fun ih => yo_bin 0 0 yg_add (yo_st 0 1 4 (yo_inc 3 4 (Int.ofNat 1) (ih 11)))),
  (39, fun ih => yo_inc 2 4 (Int.ofNat 1) (ih 4)),
  (45, fun ih => yo_ld 0 1 (yo_ri 1))]
set_option maxRecDepth 100000 in
theorem yT175 : y_T yG none y_i0 (y_cc 174 ycs174 y_c0) ev_r175.1 (fun _ => none) yt175 := (y_T_cons 4 rfl (y_T_cons 5 rfl (y_T_cons 11 rfl (y_T_cons 1 rfl (y_T_cons 4 rfl (y_T_cons 2 rfl (y_T_cons 2 rfl y_T_nil)))))))
def yct175_0 : yCt := ([(2, Int.ofNat 53, Int.ofNat 53, false)], (some (0, Int.ofNat 0, Int.ofNat 25, false)), [])
set_option maxRecDepth 100000 in
theorem yd175_0 : y_drv yt175 (y_st [4, 11]) none (y_po yct175_0) [0, 11, 4] 100000 5000 [y_start 3 yct175_0] = true := by decide +kernel
theorem yc175_0 : y_Mca yG 175 yct175_0 := y_Mca_of (r := ev_r175) rfl (y_con (k := 3) (by decide) (fun hc0 _ => y_drv_ok (h0 := (yG, hc0)) y_i0_ok (y_cc_ok yCs174 y_c0_ok) yT175 (fun _ h1 h2 => y_po_ok h1 h2) yd175_0 _ (List.mem_singleton.mpr rfl)))
noncomputable def ycs175 : List yCt := [yct175_0]
theorem yCs175 : ∀ ct ∈ ycs175, y_Mca yG 175 ct := (y_l1 yc175_0 y_l0)
/-- NameHall$Bidding.firstRest()I -/
noncomputable def yt176 : List (Nat × yB) := [(0, fun ih => yo_push (0, 0, Int.ofNat 0) (yo_st 0 1 3 (ih 2))),
  (2, fun ih => yo_ld 0 1 (yo_push (0, 0, Int.ofNat 5) (yo_ic .ge (ih 42) (yo_push (0, 0, Int.ofNat 0) (yo_st 0 2 3 (ih 9)))))),
  (9, fun ih => yo_ld 0 2 (yo_push (0, 0, Int.ofNat 5) (yo_ic .ge (ih 36) (yo_lda 0 (yo_ld 0 1 (yo_ld 0 2 (yo_cts yG ycs174 2 2 4 0 0 0 0 (yo_if .eq (ih 30) (yo_push (0, 0, Int.ofNat 10) (yo_ld 0 1 (yo_bin 0 0 (xg_i (· * ·) yg_mul) (yo_ld 0 2 (yo_bin 0 0 yg_add (yo_ri 1)))))))))))))),
  (30, fun ih => yo_inc 2 3 (Int.ofNat 1) (ih 9)),
  (36, fun ih => yo_inc 1 3 (Int.ofNat 1) (ih 2)),
  (42, fun ih => yo_push (0, 0, Int.negSucc 8) (yo_ri 1))]
set_option maxRecDepth 100000 in
theorem yT176 : y_T yG none y_i0 (y_cc 174 ycs174 y_c0) ev_r176.1 (fun _ => none) yt176 := (y_T_cons 2 rfl (y_T_cons 5 rfl (y_T_cons 14 rfl (y_T_cons 2 rfl (y_T_cons 2 rfl (y_T_cons 2 rfl y_T_nil))))))
def yct176_0 : yCt := ([(2, Int.ofNat 53, Int.ofNat 53, false)], (some (0, Int.ofNat 0, Int.ofNat 44, true)), [])
set_option maxRecDepth 100000 in
theorem yd176_0 : y_drv yt176 (y_st [2, 9]) none (y_po yct176_0) [0, 9, 2] 100000 5000 [y_start 2 yct176_0] = true := by decide +kernel
theorem yc176_0 : y_Mca yG 176 yct176_0 := y_Mca_of (r := ev_r176) rfl (y_con (k := 2) (by decide) (fun hc0 _ => y_drv_ok (h0 := (yG, hc0)) y_i0_ok (y_cc_ok yCs174 y_c0_ok) yT176 (fun _ h1 h2 => y_po_ok h1 h2) yd176_0 _ (List.mem_singleton.mpr rfl)))
noncomputable def ycs176 : List yCt := [yct176_0]
theorem yCs176 : ∀ ct ∈ ycs176, y_Mca yG 176 ct := (y_l1 yc176_0 y_l0)
/-- NameHall.rests(IIII)I -/
noncomputable def yt177 : List (Nat × yB) := [(0, fun ih => yo_lda 0 (yo_gf yG 9 1 (yo_ld 0 1 (yo_cl yG ym49 5 1 2 0 0 0 0 (yo_if .eq (ih 33) (yo_lda 0 (yo_gf yG 9 1 (yo_ld 0 2 (yo_cl yG ym49 5 1 2 0 0 0 0 (yo_if .eq (ih 33) (yo_lda 0 (yo_gf yG 9 1 (yo_ld 0 3 (yo_cl yG ym40 5 1 2 0 0 0 0 (yo_if .ne (ih 35) (ih 33)))))))))))))))),
  (33, fun ih => yo_push (0, 0, Int.negSucc 0) (yo_ri 1)),
  (35, fun ih => yo_ld 0 1 (yo_ld 0 2 (yo_ic .eq (ih 51) (yo_ld 0 4 (yo_if .lt (ih 51) (yo_ld 0 4 (yo_push (0, 0, Int.ofNat 1) (yo_ic .le (ih 54) (ih 51))))))))),
  (51, fun ih => yo_push (0, 0, Int.negSucc 1) (yo_ri 1)),
  (54, fun ih => yo_lda 0 (yo_gf yG 9 9 (yo_lda 0 (yo_gf yG 9 1 (yo_ld 0 3 (yo_cts yG ycs42 5 1 2 0 0 0 0 (yo_lda 0 (yo_gf yG 9 2 (yo_ld 0 1 (yo_ld 0 3 (yo_cl yG ym64 7 2 3 0 0 0 0 (yo_lda 0 (yo_gf yG 9 2 (yo_ld 0 2 (yo_ld 0 3 (yo_cl yG ym64 7 2 3 0 0 0 0 (yo_cts yG ycs170 2 3 4 0 0 0 0 (yo_ld 0 4 (yo_if .ne (ih 102) (yo_lda 0 (yo_gf yG 9 9 (yo_cts yG ycs175 2 0 4 0 0 0 0 (ih 109))))))))))))))))))))))),
  (102, fun ih => yo_lda 0 (yo_gf yG 9 9 (yo_cts yG ycs176 2 0 3 0 0 0 0 (ih 109)))),
  (109, fun ih => yo_ri 1)]
set_option maxRecDepth 100000 in
theorem yT177 : y_T yG none (y_ic 49 ym49 (y_ic 40 ym40 (y_ic 64 ym64 y_i0))) (y_cc 42 ycs42 (y_cc 170 ycs170 (y_cc 175 ycs175 (y_cc 176 ycs176 y_c0)))) ev_r177.1 (fun _ => none) yt177 := (y_T_cons 15 rfl (y_T_cons 2 rfl (y_T_cons 8 rfl (y_T_cons 2 rfl (y_T_cons 23 rfl (y_T_cons 3 rfl (y_T_cons 1 rfl y_T_nil)))))))
def yct177_0 : yCt := ([(2, Int.ofNat 0, Int.ofNat 0, false), (0, Int.negSucc 2147483647, Int.ofNat 2147483647, false), (0, Int.negSucc 2147483647, Int.ofNat 2147483647, false), (0, Int.negSucc 2147483647, Int.ofNat 2147483647, false), (0, Int.negSucc 2147483647, Int.ofNat 2147483647, false)], (some (0, Int.negSucc 1, Int.ofNat 44, true)), [(53, 0, 2)])
set_option maxRecDepth 100000 in
theorem yd177_0 : y_drv yt177 (y_st []) none (y_po yct177_0) [0] 100000 5000 [y_start 0 yct177_0] = true := by decide +kernel
theorem yc177_0 : y_Mca yG 177 yct177_0 := y_Mca_of (r := ev_r177) rfl (y_con (k := 0) (by decide) (fun hc0 _ => y_drv_ok (h0 := (yG, hc0)) (y_ic_ok (yM49 hc0) (y_ic_ok (yM40 hc0) (y_ic_ok (yM64 hc0) y_i0_ok))) (y_cc_ok yCs42 (y_cc_ok yCs170 (y_cc_ok yCs175 (y_cc_ok yCs176 y_c0_ok)))) yT177 (fun _ h1 h2 => y_po_ok h1 h2) yd177_0 _ (List.mem_singleton.mpr rfl)))
noncomputable def ycs177 : List yCt := [yct177_0]
theorem yCs177 : ∀ ct ∈ ycs177, y_Mca yG 177 ct := (y_l1 yc177_0 y_l0)
/-- NameHallModel.mayHave(II)Z -/
noncomputable def yt178 : List (Nat × yB) := [(0, fun ih => yo_lda 0 (yo_push (0, 0, Int.ofNat 0) (yo_ld 0 1 (yo_cts yG ycs74 11 2 3 0 0 0 0 (yo_if .ne (ih 26) (yo_lda 0 (yo_gf yG 10 6 (yo_ld 0 1 (yo_al yG none 0 (yo_ld 0 2 (yo_cts yG ycs73 0 2 2 0 0 0 0 (yo_if .eq (ih 26) (yo_push (0, 0, Int.ofNat 1) (ih 27)))))))))))))),
  (26, fun ih => yo_push (0, 0, Int.ofNat 0) (ih 27)),
  (27, fun ih => yo_ri 2)]
set_option maxRecDepth 100000 in
theorem yT178 : y_T yG none y_i0 (y_cc 74 ycs74 (y_cc 73 ycs73 y_c0)) ev_r178.1 (fun _ => none) yt178 := (y_T_cons 14 rfl (y_T_cons 1 rfl (y_T_cons 1 rfl y_T_nil)))
def yct178_0 : yCt := ([(2, Int.ofNat 55, Int.ofNat 55, false), (0, Int.ofNat 0, Int.ofNat 4, false), (0, Int.ofNat 0, Int.ofNat 3, false)], (some (0, Int.ofNat 0, Int.ofNat 1, false)), [])
set_option maxRecDepth 100000 in
theorem yd178_0 : y_drv yt178 (y_st []) none (y_po yct178_0) [0] 100000 5000 [y_start 0 yct178_0] = true := by decide +kernel
theorem yc178_0 : y_Mca yG 178 yct178_0 := y_Mca_of (r := ev_r178) rfl (y_con (k := 0) (by decide) (fun hc0 _ => y_drv_ok (h0 := (yG, hc0)) y_i0_ok (y_cc_ok yCs74 (y_cc_ok yCs73 y_c0_ok)) yT178 (fun _ h1 h2 => y_po_ok h1 h2) yd178_0 _ (List.mem_singleton.mpr rfl)))
noncomputable def ycs178 : List yCt := [yct178_0]
theorem yCs178 : ∀ ct ∈ ycs178, y_Mca yG 178 ct := (y_l1 yc178_0 y_l0)
/-- NameHallModel.gain(IIIIIZ)I -/
noncomputable def yt179 : List (Nat × yB) := [(0, fun ih => yo_ld 0 4 (yo_ld 0 5 (yo_ic .lt (ih 16) (yo_lda 0 (yo_ld 0 1 (yo_ld 0 3 (yo_cts yG ycs178 11 2 3 0 0 0 0 (ih 39)))))))),
  (16, fun ih => yo_lda 0 (yo_ld 0 1 (yo_ld 0 3 (yo_cts yG ycs178 11 2 3 0 0 0 0 (yo_if .eq (ih 38) (yo_lda 0 (yo_ld 0 2 (yo_ld 0 3 (yo_cts yG ycs178 11 2 3 0 0 0 0 (yo_if .ne (ih 38) (yo_push (0, 0, Int.ofNat 1) (ih 39)))))))))))),
  (38, fun ih => yo_push (0, 0, Int.ofNat 0) (ih 39)),
  (39, fun ih => yo_st 0 7 11 (yo_ld 0 7 (yo_if .ne (ih 59) (yo_lda 0 (yo_ld 0 2 (yo_ld 0 3 (yo_cts yG ycs178 11 2 3 0 0 0 0 (yo_if .eq (ih 59) (yo_push (0, 0, Int.ofNat 1) (ih 60)))))))))),
  (59, fun ih => yo_push (0, 0, Int.ofNat 0) (ih 60)),
  (60, fun ih => yo_st 0 8 11 (yo_ld 0 6 (yo_if .eq (ih 72) (yo_ld 0 7 (ih 74))))),
  (72, fun ih => yo_ld 0 8 (ih 74)),
  (74, fun ih => yo_st 0 9 11 (yo_ld 0 6 (yo_if .eq (ih 86) (yo_ld 0 4 (ih 88))))),
  (86, fun ih => yo_ld 0 5 (ih 88)),
  (88, fun ih => yo_st 0 10 11 (yo_ld 0 9 (yo_if .eq (ih 107) (yo_lda 0 (yo_gf yG 10 3 (yo_ld 0 3 (yo_al yG none 0 (yo_ld 0 10 (yo_bin 0 0 yg_sub (ih 117)))))))))),
  (107, fun ih => yo_ld 0 10 (yo_if .le (ih 116) (yo_push (0, 0, Int.negSucc 0) (ih 117)))),
  (116, fun ih => yo_push (0, 0, Int.ofNat 0) (ih 117)),
  (117, fun ih => yo_ri 1)]
set_option maxRecDepth 100000 in
theorem yT179 : y_T yG none y_i0 (y_cc 178 ycs178 y_c0) ev_r179.1 (fun _ => none) yt179 := (y_T_cons 8 rfl (y_T_cons 12 rfl (y_T_cons 1 rfl (y_T_cons 10 rfl (y_T_cons 1 rfl (y_T_cons 5 rfl (y_T_cons 1 rfl (y_T_cons 5 rfl (y_T_cons 1 rfl (y_T_cons 10 rfl (y_T_cons 4 rfl (y_T_cons 1 rfl (y_T_cons 1 rfl y_T_nil)))))))))))))
def yct179_0 : yCt := ([(2, Int.ofNat 55, Int.ofNat 55, false), (0, Int.ofNat 0, Int.ofNat 4, false), (0, Int.ofNat 0, Int.ofNat 4, false), (0, Int.ofNat 0, Int.ofNat 3, false), (0, Int.ofNat 0, Int.ofNat 4, false), (0, Int.ofNat 0, Int.ofNat 4, false), (0, Int.ofNat 0, Int.ofNat 1, false)], (some (0, Int.negSucc 2147483647, Int.ofNat 2147483647, false)), [])
set_option maxRecDepth 100000 in
theorem yd179_0 : y_drv yt179 (y_st []) none (y_po yct179_0) [0] 100000 5000 [y_start 4 yct179_0] = true := by decide +kernel
theorem yc179_0 : y_Mca yG 179 yct179_0 := y_Mca_of (r := ev_r179) rfl (y_con (k := 4) (by decide) (fun hc0 _ => y_drv_ok (h0 := (yG, hc0)) y_i0_ok (y_cc_ok yCs178 y_c0_ok) yT179 (fun _ h1 h2 => y_po_ok h1 h2) yd179_0 _ (List.mem_singleton.mpr rfl)))
noncomputable def ycs179 : List yCt := [yct179_0]
theorem yCs179 : ∀ ct ∈ ycs179, y_Mca yG 179 ct := (y_l1 yc179_0 y_l0)
/-- NameHallModel.isRest(IIIII)Z -/
noncomputable def yt180 : List (Nat × yB) := [(0, fun ih => yo_push (0, 0, Int.ofNat 1) (yo_st 0 6 8 (yo_push (0, 0, Int.ofNat 0) (yo_st 0 7 8 (ih 6))))),
  (6, fun ih => yo_ld 0 7 (yo_push (0, 0, Int.ofNat 5) (yo_ic .ge (ih 96) (yo_ld 0 6 (yo_if .eq (ih 48) (yo_lda 0 (yo_ld 0 1 (yo_ld 0 2 (yo_ld 0 3 (yo_ld 0 7 (yo_ld 0 5 (yo_push (0, 0, Int.ofNat 1) (yo_cts yG ycs179 11 6 11 0 0 0 0 (yo_lda 0 (yo_ld 0 1 (yo_ld 0 2 (yo_ld 0 3 (yo_ld 0 4 (yo_ld 0 5 (yo_push (0, 0, Int.ofNat 1) (yo_cts yG ycs179 11 6 11 0 0 0 0 (yo_ic .gt (ih 48) (yo_push (0, 0, Int.ofNat 1) (ih 49)))))))))))))))))))))))),
  (48, fun ih => yo_push (0, 0, Int.ofNat 0) (ih 49)),
  (49, fun ih => yo_st 0 6 8 (yo_ld 0 6 (yo_if .eq (ih 87) (yo_lda 0 (yo_ld 0 1 (yo_ld 0 2 (yo_ld 0 3 (yo_ld 0 4 (yo_ld 0 7 (yo_push (0, 0, Int.ofNat 0) (yo_cts yG ycs179 11 6 11 0 0 0 0 (yo_lda 0 (yo_ld 0 1 (yo_ld 0 2 (yo_ld 0 3 (yo_ld 0 4 (yo_ld 0 5 (yo_push (0, 0, Int.ofNat 0) (yo_cts yG ycs179 11 6 11 0 0 0 0 (yo_ic .gt (ih 87) (yo_push (0, 0, Int.ofNat 1) (ih 88)))))))))))))))))))))),
  (87, fun ih => yo_push (0, 0, Int.ofNat 0) (ih 88)),
  (88, fun ih => yo_st 0 6 8 (yo_inc 7 8 (Int.ofNat 1) (ih 6))),
  (96, fun ih => yo_ld 0 6 (yo_ri 2))]
set_option maxRecDepth 100000 in
theorem yT180 : y_T yG none y_i0 (y_cc 179 ycs179 y_c0) ev_r180.1 (fun _ => none) yt180 := (y_T_cons 4 rfl (y_T_cons 24 rfl (y_T_cons 1 rfl (y_T_cons 22 rfl (y_T_cons 1 rfl (y_T_cons 3 rfl (y_T_cons 2 rfl y_T_nil)))))))
def yct180_0 : yCt := ([(2, Int.ofNat 55, Int.ofNat 55, false), (0, Int.ofNat 0, Int.ofNat 4, false), (0, Int.ofNat 0, Int.ofNat 4, false), (0, Int.ofNat 0, Int.ofNat 3, false), (0, Int.ofNat 0, Int.ofNat 4, false), (0, Int.ofNat 0, Int.ofNat 4, false)], (some (0, Int.ofNat 0, Int.ofNat 1, false)), [])
set_option maxRecDepth 100000 in
theorem yd180_0 : y_drv yt180 (y_st [6]) none (y_po yct180_0) [0, 6] 100000 5000 [y_start 2 yct180_0] = true := by decide +kernel
theorem yc180_0 : y_Mca yG 180 yct180_0 := y_Mca_of (r := ev_r180) rfl (y_con (k := 2) (by decide) (fun hc0 _ => y_drv_ok (h0 := (yG, hc0)) y_i0_ok (y_cc_ok yCs179 y_c0_ok) yT180 (fun _ h1 h2 => y_po_ok h1 h2) yd180_0 _ (List.mem_singleton.mpr rfl)))
noncomputable def ycs180 : List yCt := [yct180_0]
theorem yCs180 : ∀ ct ∈ ycs180, y_Mca yG 180 ct := (y_l1 yc180_0 y_l0)
/-- NameHallModel.rests(IIII)I -/
noncomputable def yt181 : List (Nat × yB) := [(0, fun ih => yo_lda 0 (yo_ld 0 1 (yo_cl yG ym61 11 1 2 0 0 0 0 (yo_if .eq (ih 24) (yo_lda 0 (yo_ld 0 2 (yo_cl yG ym61 11 1 2 0 0 0 0 (yo_if .eq (ih 24) (yo_lda 0 (yo_ld 0 3 (yo_cl yG ym46 11 1 2 0 0 0 0 (yo_if .ne (ih 26) (ih 24))))))))))))),
  (24, fun ih => yo_push (0, 0, Int.negSucc 0) (yo_ri 1)),
  (26, fun ih => yo_ld 0 1 (yo_ld 0 2 (yo_ic .eq (ih 42) (yo_ld 0 4 (yo_un 0 xg_i2l (yo_push (1, 0, Int.ofNat 0) (yo_push (1, 0, Int.ofNat 1) (yo_cl yG ym15 0 3 6 0 0 0 0 (yo_if .ne (ih 45) (ih 42)))))))))),
  (42, fun ih => yo_push (0, 0, Int.negSucc 1) (yo_ri 1)),
  (45, fun ih => yo_push (0, 0, Int.ofNat 0) (yo_st 0 5 8 (yo_push (0, 0, Int.negSucc 8) (yo_st 0 6 8 (yo_push (0, 0, Int.ofNat 0) (yo_st 0 7 8 (ih 55))))))),
  (55, fun ih => yo_ld 0 7 (yo_push (0, 0, Int.ofNat 25) (yo_ic .ge (ih 113) (yo_lda 0 (yo_ld 0 1 (yo_ld 0 2 (yo_ld 0 3 (yo_ld 0 7 (yo_push (0, 0, Int.ofNat 5) (yo_dv 0 xg_div (yo_ld 0 7 (yo_push (0, 0, Int.ofNat 5) (yo_dv 1 yg_rem (yo_cts yG ycs180 11 5 8 0 0 0 0 (yo_if .eq (ih 107) (yo_ld 0 5 (yo_if .ne (ih 100) (yo_push (0, 0, Int.ofNat 10) (yo_ld 0 7 (yo_push (0, 0, Int.ofNat 5) (yo_dv 0 xg_div (yo_bin 0 0 (xg_i (· * ·) yg_mul) (yo_ld 0 7 (yo_push (0, 0, Int.ofNat 5) (yo_dv 1 yg_rem (yo_bin 0 0 yg_add (ih 102))))))))))))))))))))))))))),
  (100, fun ih => yo_ld 0 6 (ih 102)),
  (102, fun ih => yo_st 0 6 8 (yo_inc 5 8 (Int.ofNat 1) (ih 107))),
  (107, fun ih => yo_inc 7 8 (Int.ofNat 1) (ih 55)),
  (113, fun ih => yo_ld 0 4 (yo_if .ne (ih 123) (yo_ld 0 5 (ih 125)))),
  (123, fun ih => yo_ld 0 6 (ih 125)),
  (125, fun ih => yo_ri 1)]
set_option maxRecDepth 100000 in
theorem yT181 : y_T yG none (y_ic 61 ym61 (y_ic 46 ym46 (y_ic 15 ym15 y_i0))) (y_cc 180 ycs180 y_c0) ev_r181.1 (fun _ => none) yt181 := (y_T_cons 12 rfl (y_T_cons 2 rfl (y_T_cons 9 rfl (y_T_cons 2 rfl (y_T_cons 6 rfl (y_T_cons 27 rfl (y_T_cons 1 rfl (y_T_cons 2 rfl (y_T_cons 2 rfl (y_T_cons 4 rfl (y_T_cons 1 rfl (y_T_cons 1 rfl y_T_nil))))))))))))
def yct181_0 : yCt := ([(2, Int.ofNat 55, Int.ofNat 55, false), (0, Int.negSucc 2147483647, Int.ofNat 2147483647, false), (0, Int.negSucc 2147483647, Int.ofNat 2147483647, false), (0, Int.negSucc 2147483647, Int.ofNat 2147483647, false), (0, Int.negSucc 2147483647, Int.ofNat 2147483647, false)], (some (0, Int.negSucc 1, Int.ofNat 44, true)), [])
set_option maxRecDepth 100000 in
theorem yd181_0 : y_drv yt181 (y_st [55]) none (y_po yct181_0) [0, 55] 100000 5000 [y_start 3 yct181_0] = true := by decide +kernel
theorem yc181_0 : y_Mca yG 181 yct181_0 := y_Mca_of (r := ev_r181) rfl (y_con (k := 3) (by decide) (fun hc0 _ => y_drv_ok (h0 := (yG, hc0)) (y_ic_ok (yM61 hc0) (y_ic_ok (yM46 hc0) (y_ic_ok (yM15 hc0) y_i0_ok))) (y_cc_ok yCs180 y_c0_ok) yT181 (fun _ h1 h2 => y_po_ok h1 h2) yd181_0 _ (List.mem_singleton.mpr rfl)))
noncomputable def ycs181 : List yCt := [yct181_0]
theorem yCs181 : ∀ ct ∈ ycs181, y_Mca yG 181 ct := (y_l1 yc181_0 y_l0)
/-- NameHall$Scene.takersAt(II)I -/
noncomputable def yt182 : List (Nat × yB) := [(0, fun ih => yo_push (0, 0, Int.ofNat 0) (yo_st 0 3 5 (yo_push (0, 0, Int.ofNat 0) (yo_st 0 4 5 (ih 5))))),
  (5, fun ih => yo_ld 0 4 (yo_push (0, 0, Int.ofNat 5) (yo_ic .ge (ih 52) (yo_lda 0 (yo_ld 0 1 (yo_cl yG ym44 7 1 2 0 0 0 0 (yo_if .ne (ih 46) (yo_lda 0 (yo_ld 0 4 (yo_ld 0 2 (yo_cl yG ym85 7 2 3 0 0 0 0 (yo_if .eq (ih 46) (yo_lda 0 (yo_ld 0 4 (yo_ld 0 1 (yo_cl yG ym64 7 2 3 0 0 0 0 (yo_if .eq (ih 46) (yo_ld 0 3 (yo_push (0, 0, Int.ofNat 1) (yo_ld 0 4 (yo_bin 0 0 (xg_i x_ishl (yg_en x_ishl)) (yo_bin 0 0 (xg_i (· ||| ·) yg_bit) (yo_st 0 3 5 (ih 46)))))))))))))))))))))))),
  (46, fun ih => yo_inc 4 5 (Int.ofNat 1) (ih 5)),
  (52, fun ih => yo_ld 0 3 (yo_ri 1))]
set_option maxRecDepth 100000 in
theorem yT182 : y_T yG none (y_ic 44 ym44 (y_ic 85 ym85 (y_ic 64 ym64 y_i0))) y_c0 ev_r182.1 (fun _ => none) yt182 := (y_T_cons 4 rfl (y_T_cons 23 rfl (y_T_cons 2 rfl (y_T_cons 2 rfl y_T_nil))))
def yct182_0 : yCt := ([(2, Int.ofNat 9, Int.ofNat 9, false), (0, Int.negSucc 2147483647, Int.ofNat 2147483647, false), (0, Int.negSucc 2147483647, Int.ofNat 2147483647, false)], (some (0, Int.ofNat 0, Int.ofNat 31, false)), [])
set_option maxRecDepth 100000 in
theorem yd182_0 : y_drv yt182 (y_st [5]) none (y_po yct182_0) [0, 5] 100000 5000 [y_start 2 yct182_0] = true := by decide +kernel
theorem yc182_0 : y_Mca yG 182 yct182_0 := y_Mca_of (r := ev_r182) rfl (y_con (k := 2) (by decide) (fun hc0 _ => y_drv_ok (h0 := (yG, hc0)) (y_ic_ok (yM44 hc0) (y_ic_ok (yM85 hc0) (y_ic_ok (yM64 hc0) y_i0_ok))) y_c0_ok yT182 (fun _ h1 h2 => y_po_ok h1 h2) yd182_0 _ (List.mem_singleton.mpr rfl)))
noncomputable def ycs182 : List yCt := [yct182_0]
theorem yCs182 : ∀ ct ∈ ycs182, y_Mca yG 182 ct := (y_l1 yc182_0 y_l0)
/-- NameHall.letter(IIZ)I -/
noncomputable def yt183 : List (Nat × yB) := [(0, fun ih => yo_lda 0 (yo_gf yG 9 1 (yo_ld 0 1 (yo_cl yG ym49 5 1 2 0 0 0 0 (yo_if .ne (ih 13) (yo_push (0, 0, Int.negSucc 0) (yo_ri 1))))))),
  (13, fun ih => yo_ld 0 2 (yo_cl yG ym101 0 1 1 0 0 0 0 (yo_if .ne (ih 23) (yo_push (0, 0, Int.negSucc 1) (yo_ri 1))))),
  (23, fun ih => yo_push (0, 0, Int.ofNat 1) (yo_st 0 4 8 (yo_push (0, 0, Int.ofNat 1) (yo_st 0 5 8 (yo_push (0, 0, Int.ofNat 0) (yo_st 0 6 8 (ih 32))))))),
  (32, fun ih => yo_ld 0 6 (yo_lda 0 (yo_gf yG 9 1 (yo_cts yG ycs36 5 0 1 0 0 0 0 (yo_ic .ge (ih 94) (yo_lda 0 (yo_gf yG 9 2 (yo_ld 0 6 (yo_ld 0 2 (yo_cts yG ycs182 7 2 5 0 0 0 0 (yo_st 0 7 8 (yo_ld 0 7 (yo_ld 0 1 (yo_bin 0 0 (xg_i x_ishr xg_ti) (yo_push (0, 0, Int.ofNat 1) (yo_bin 0 0 (xg_i (· &&& ·) xg_and) (yo_push (0, 0, Int.ofNat 1) (yo_ic .ne (ih 88) (yo_ld 0 4 (yo_ld 0 7 (yo_cts yG ycs65 0 1 1 0 0 0 0 (yo_bin 0 0 (xg_i (· * ·) yg_mul) (yo_st 0 4 8 (yo_ld 0 5 (yo_ld 0 7 (yo_cts yG ycs65 0 1 1 0 0 0 0 (yo_push (0, 0, Int.ofNat 1) (yo_bin 0 0 yg_sub (yo_bin 0 0 (xg_i (· * ·) yg_mul) (yo_st 0 5 8 (ih 88))))))))))))))))))))))))))))))),
  (88, fun ih => yo_inc 6 8 (Int.ofNat 1) (ih 32)),
  (94, fun ih => yo_ld 0 4 (yo_ld 0 5 (yo_bin 0 0 yg_sub (yo_ld 0 4 (yo_ld 0 3 (yo_cts yG ycs165 0 3 5 0 0 0 0 (yo_ri 1)))))))]
set_option maxRecDepth 100000 in
theorem yT183 : y_T yG none (y_ic 49 ym49 (y_ic 101 ym101 y_i0)) (y_cc 36 ycs36 (y_cc 182 ycs182 (y_cc 65 ycs65 (y_cc 165 ycs165 y_c0)))) ev_r183.1 (fun _ => none) yt183 := (y_T_cons 7 rfl (y_T_cons 5 rfl (y_T_cons 6 rfl (y_T_cons 30 rfl (y_T_cons 2 rfl (y_T_cons 7 rfl y_T_nil))))))
def yct183_0 : yCt := ([(2, Int.ofNat 0, Int.ofNat 0, false), (0, Int.negSucc 2147483647, Int.ofNat 2147483647, false), (0, Int.negSucc 2147483647, Int.ofNat 2147483647, false), (0, Int.ofNat 0, Int.ofNat 1, false)], (some (0, Int.negSucc 2147483647, Int.ofNat 2147483647, false)), [])
set_option maxRecDepth 100000 in
theorem yd183_0 : y_drv yt183 (y_st [32]) none (y_po yct183_0) [0, 32] 100000 5000 [y_start 4 yct183_0] = true := by decide +kernel
theorem yc183_0 : y_Mca yG 183 yct183_0 := y_Mca_of (r := ev_r183) rfl (y_con (k := 4) (by decide) (fun hc0 _ => y_drv_ok (h0 := (yG, hc0)) (y_ic_ok (yM49 hc0) (y_ic_ok (yM101 hc0) y_i0_ok)) (y_cc_ok yCs36 (y_cc_ok yCs182 (y_cc_ok yCs65 (y_cc_ok yCs165 y_c0_ok)))) yT183 (fun _ h1 h2 => y_po_ok h1 h2) yd183_0 _ (List.mem_singleton.mpr rfl)))
noncomputable def ycs183 : List yCt := [yct183_0]
theorem yCs183 : ∀ ct ∈ ycs183, y_Mca yG 183 ct := (y_l1 yc183_0 y_l0)
/-- NameHall.seed(J)J -/
noncomputable def yt185 : List (Nat × yB) := [(0, fun ih => yo_lda 0 (yo_gf yG 9 11 (yo_stL 3 5 (yo_lda 0 (yo_ld 1 1 (yo_pf yG 9 11 1 (yo_ld 1 3 (yo_rl 4))))))))]
set_option maxRecDepth 100000 in
theorem yT185 : y_T yG none y_i0 y_c0 ev_r185.1 (fun _ => none) yt185 := (y_T_cons 8 rfl y_T_nil)
def yct185_0 : yCt := ([(2, Int.ofNat 0, Int.ofNat 0, false), (1, Int.negSucc 9223372036854775807, Int.ofNat 9223372036854775807, false)], (some (1, Int.negSucc 9223372036854775807, Int.ofNat 9223372036854775807, false)), [(0, 11, 11)])
set_option maxRecDepth 100000 in
theorem yd185_0 : y_drv yt185 (y_st []) none (y_po yct185_0) [0] 100000 5000 [y_start 2 yct185_0] = true := by decide +kernel
theorem yc185_0 : y_Mca yG 185 yct185_0 := y_Mca_of (r := ev_r185) rfl (y_con (k := 2) (by decide) (fun hc0 _ => y_drv_ok (h0 := (yG, hc0)) y_i0_ok y_c0_ok yT185 (fun _ h1 h2 => y_po_ok h1 h2) yd185_0 _ (List.mem_singleton.mpr rfl)))
noncomputable def ycs185 : List yCt := [yct185_0]
theorem yCs185 : ∀ ct ∈ ycs185, y_Mca yG 185 ct := (y_l1 yc185_0 y_l0)
/-- NameHallModel.seed(J)J -/
noncomputable def yt186 : List (Nat × yB) := [(0, fun ih => yo_lda 0 (yo_gf yG 10 25 (yo_stL 3 5 (yo_lda 0 (yo_ld 1 1 (yo_pf yG 10 25 1 (yo_ld 1 3 (yo_rl 4))))))))]
set_option maxRecDepth 100000 in
theorem yT186 : y_T yG none y_i0 y_c0 ev_r186.1 (fun _ => none) yt186 := (y_T_cons 8 rfl y_T_nil)
def yct186_0 : yCt := ([(2, Int.ofNat 55, Int.ofNat 55, false), (1, Int.negSucc 9223372036854775807, Int.ofNat 9223372036854775807, false)], (some (1, Int.negSucc 9223372036854775807, Int.ofNat 9223372036854775807, false)), [(55, 25, 25)])
set_option maxRecDepth 100000 in
theorem yd186_0 : y_drv yt186 (y_st []) none (y_po yct186_0) [0] 100000 5000 [y_start 2 yct186_0] = true := by decide +kernel
theorem yc186_0 : y_Mca yG 186 yct186_0 := y_Mca_of (r := ev_r186) rfl (y_con (k := 2) (by decide) (fun hc0 _ => y_drv_ok (h0 := (yG, hc0)) y_i0_ok y_c0_ok yT186 (fun _ h1 h2 => y_po_ok h1 h2) yd186_0 _ (List.mem_singleton.mpr rfl)))
noncomputable def ycs186 : List yCt := [yct186_0]
theorem yCs186 : ∀ ct ∈ ycs186, y_Mca yG 186 ct := (y_l1 yc186_0 y_l0)
/-- NameHall.actByChance(I)V -/
noncomputable def yt187 : List (Nat × yB) := [(0, fun ih => yo_ld 0 1 (yo_push (0, 0, Int.ofNat 5) (yo_dv 1 yg_rem (yo_st 0 2 4 (yo_ld 0 1 (yo_push (0, 0, Int.ofNat 5) (yo_dv 0 xg_div (yo_st 0 3 4 (yo_ld 0 3 (yo_push (0, 0, Int.ofNat 4) (yo_ic .ge (ih 26) (yo_lda 0 (yo_gf yG 9 3 (yo_ld 0 2 (yo_ld 0 3 (yo_cl yG ym138 7 2 4 0 0 0 0 (yo_pop (ih 40)))))))))))))))))),
  (26, fun ih => yo_ld 0 3 (yo_push (0, 0, Int.ofNat 5) (yo_ic .ne (ih 40) (yo_lda 0 (yo_gf yG 9 3 (yo_ld 0 2 (yo_cl yG ym137 7 1 3 0 0 0 0 (yo_pop (ih 40))))))))),
  (40, fun ih => yo_rv 0)]
set_option maxRecDepth 100000 in
theorem yT187 : y_T yG none (y_ic 138 ym138 (y_ic 137 ym137 y_i0)) y_c0 ev_r187.1 (fun _ => none) yt187 := (y_T_cons 18 rfl (y_T_cons 8 rfl (y_T_cons 1 rfl y_T_nil)))
def yct187_0 : yCt := ([(2, Int.ofNat 0, Int.ofNat 0, false), (0, Int.negSucc 2147483647, Int.ofNat 2147483647, false)], none, [(14, 0, 4), (15, 0, 4)])
set_option maxRecDepth 100000 in
theorem yd187_0 : y_drv yt187 (y_st []) none (y_po yct187_0) [0] 100000 5000 [y_start 2 yct187_0] = true := by decide +kernel
theorem yc187_0 : y_Mca yG 187 yct187_0 := y_Mca_of (r := ev_r187) rfl (y_con (k := 2) (by decide) (fun hc0 _ => y_drv_ok (h0 := (yG, hc0)) (y_ic_ok (yM138 hc0) (y_ic_ok (yM137 hc0) y_i0_ok)) y_c0_ok yT187 (fun _ h1 h2 => y_po_ok h1 h2) yd187_0 _ (List.mem_singleton.mpr rfl)))
noncomputable def ycs187 : List yCt := [yct187_0]
theorem yCs187 : ∀ ct ∈ ycs187, y_Mca yG 187 ct := (y_l1 yc187_0 y_l0)
/-- NameHall.days(I)I -/
noncomputable def yt188 : List (Nat × yB) := [(0, fun ih => yo_ld 0 1 (yo_push (0, 0, Int.ofNat 1) (yo_ic .lt (ih 11) (yo_ld 0 1 (yo_push (0, 0, Int.ofNat 30) (yo_ic .le (ih 14) (ih 11))))))),
  (11, fun ih => yo_push (0, 0, Int.negSucc 1) (yo_ri 1)),
  (14, fun ih => yo_lda 0 (yo_gf yG 9 3 (yo_lda 0 (yo_gf yG 9 2 (yo_cts yG ycs136 7 1 2 0 0 0 0 (yo_push (0, 0, Int.ofNat 0) (yo_st 0 2 4 (yo_push (0, 0, Int.ofNat 0) (yo_st 0 3 4 (ih 29)))))))))),
  (29, fun ih => yo_ld 0 3 (yo_ld 0 1 (yo_ic .ge (ih 82) (yo_lda 0 (yo_lda 0 (yo_gf yG 9 11 (yo_push (1, 0, Int.ofNat 6364136223846793005) (yo_bin 1 1 (xg_l (· * ·)) (yo_push (1, 0, Int.ofNat 1442695040888963407) (yo_bin 1 1 (xg_l (· + ·)) (yo_pf yG 9 11 1 (yo_lda 0 (yo_lda 0 (yo_gf yG 9 11 (yo_push (0, 0, Int.ofNat 33) (yo_bin 1 0 yg_lushr (yo_push (1, 0, Int.ofNat 30) (yo_bin 1 1 yg_lrem (yo_un 1 xg_l2i (yo_cts yG ycs187 10 1 4 0 0 0 0 (yo_ld 0 2 (yo_lda 0 (yo_gf yG 9 3 (yo_cts yG ycs88 7 0 3 0 0 0 0 (yo_bin 0 0 yg_add (yo_st 0 2 4 (yo_inc 3 4 (Int.ofNat 1) (ih 29)))))))))))))))))))))))))))),
  (82, fun ih => yo_ld 0 2 (yo_ri 1))]
set_option maxRecDepth 100000 in
theorem yT188 : y_T yG none y_i0 (y_cc 136 ycs136 (y_cc 187 ycs187 (y_cc 88 ycs88 y_c0))) ev_r188.1 (fun _ => none) yt188 := (y_T_cons 6 rfl (y_T_cons 2 rfl (y_T_cons 9 rfl (y_T_cons 28 rfl (y_T_cons 2 rfl y_T_nil)))))
def yct188_0 : yCt := ([(2, Int.ofNat 0, Int.ofNat 0, false), (0, Int.negSucc 2147483647, Int.ofNat 2147483647, false)], (some (0, Int.negSucc 1, Int.ofNat 1890, false)), [(0, 11, 11), (13, 4, 6), (14, 0, 4), (15, 0, 4), (16, 0, 4)])
set_option maxRecDepth 100000 in
theorem yd188_0 : y_drv yt188 (y_st [29]) none (y_po yct188_0) [0, 29] 100000 5000 [y_start 2 yct188_0] = true := by decide +kernel
theorem yc188_0 : y_Mca yG 188 yct188_0 := y_Mca_of (r := ev_r188) rfl (y_con (k := 2) (by decide) (fun hc0 _ => y_drv_ok (h0 := (yG, hc0)) y_i0_ok (y_cc_ok yCs136 (y_cc_ok yCs187 (y_cc_ok yCs88 y_c0_ok))) yT188 (fun _ h1 h2 => y_po_ok h1 h2) yd188_0 _ (List.mem_singleton.mpr rfl)))
noncomputable def ycs188 : List yCt := [yct188_0]
theorem yCs188 : ∀ ct ∈ ycs188, y_Mca yG 188 ct := (y_l1 yc188_0 y_l0)
/-- NameHallModel.allWaited(I)I -/
noncomputable def yt189 : List (Nat × yB) := [(0, fun ih => yo_push (0, 0, Int.ofNat 0) (yo_st 0 2 4 (yo_push (0, 0, Int.ofNat 0) (yo_st 0 3 4 (ih 4))))),
  (4, fun ih => yo_ld 0 3 (yo_lda 0 (yo_gf yG 10 1 (yo_ic .ge (ih 35) (yo_ld 0 2 (yo_lda 0 (yo_gf yG 10 7 (yo_push (0, 0, Int.ofNat 18) (yo_ld 0 1 (yo_bin 0 0 (xg_i (· * ·) yg_mul) (yo_push (0, 0, Int.ofNat 10) (yo_bin 0 0 yg_add (yo_ld 0 3 (yo_bin 0 0 yg_add (yo_al yG none 0 (yo_bin 0 0 yg_add (yo_st 0 2 4 (yo_inc 3 4 (Int.ofNat 1) (ih 4))))))))))))))))))),
  (35, fun ih => yo_ld 0 2 (yo_ri 1))]
set_option maxRecDepth 100000 in
theorem yT189 : y_T yG none y_i0 y_c0 ev_r189.1 (fun _ => none) yt189 := (y_T_cons 4 rfl (y_T_cons 19 rfl (y_T_cons 2 rfl y_T_nil)))
def yct189_0 : yCt := ([(2, Int.ofNat 55, Int.ofNat 55, false), (0, Int.ofNat 1, Int.ofNat 1, false)], (some (0, Int.negSucc 2147483647, Int.ofNat 2147483647, false)), [])
set_option maxRecDepth 100000 in
theorem yd189_0 : y_drv yt189 (y_st [4]) none (y_po yct189_0) [0, 4] 100000 5000 [y_start 2 yct189_0] = true := by decide +kernel
theorem yc189_0 : y_Mca yG 189 yct189_0 := y_Mca_of (r := ev_r189) rfl (y_con (k := 2) (by decide) (fun hc0 _ => y_drv_ok (h0 := (yG, hc0)) y_i0_ok y_c0_ok yT189 (fun _ h1 h2 => y_po_ok h1 h2) yd189_0 _ (List.mem_singleton.mpr rfl)))
def yct189_1 : yCt := ([(2, Int.ofNat 55, Int.ofNat 55, false), (0, Int.ofNat 0, Int.ofNat 0, false)], (some (0, Int.negSucc 2147483647, Int.ofNat 2147483647, false)), [])
set_option maxRecDepth 100000 in
theorem yd189_1 : y_drv yt189 (y_st [4]) none (y_po yct189_1) [0, 4] 100000 5000 [y_start 2 yct189_1] = true := by decide +kernel
theorem yc189_1 : y_Mca yG 189 yct189_1 := y_Mca_of (r := ev_r189) rfl (y_con (k := 2) (by decide) (fun hc0 _ => y_drv_ok (h0 := (yG, hc0)) y_i0_ok y_c0_ok yT189 (fun _ h1 h2 => y_po_ok h1 h2) yd189_1 _ (List.mem_singleton.mpr rfl)))
noncomputable def ycs189 : List yCt := [yct189_0, yct189_1]
theorem yCs189 : ∀ ct ∈ ycs189, y_Mca yG 189 ct := (y_l1 yc189_0 (y_l1 yc189_1 y_l0))
/-- NameHallModel.days(I)I -/
noncomputable def yt190 : List (Nat × yB) := [(0, fun ih => yo_ld 0 1 (yo_un 0 xg_i2l (yo_push (1, 0, Int.ofNat 1) (yo_push (1, 0, Int.ofNat 30) (yo_cl yG ym15 0 3 6 0 0 0 0 (yo_if .ne (ih 15) (yo_push (0, 0, Int.negSucc 1) (yo_ri 1)))))))),
  (15, fun ih => yo_lda 0 (yo_cts yG ycs141 11 0 2 0 0 0 0 (yo_push (0, 0, Int.ofNat 0) (yo_st 0 2 5 (ih 21))))),
  (21, fun ih => yo_ld 0 2 (yo_ld 0 1 (yo_ic .ge (ih 149) (yo_lda 0 (yo_lda 0 (yo_gf yG 10 25 (yo_push (1, 0, Int.ofNat 6364136223846793005) (yo_bin 1 1 (xg_l (· * ·)) (yo_push (1, 0, Int.ofNat 1442695040888963407) (yo_bin 1 1 (xg_l (· + ·)) (yo_pf yG 10 25 1 (yo_lda 0 (yo_gf yG 10 25 (yo_push (0, 0, Int.ofNat 33) (yo_bin 1 0 yg_lushr (yo_push (1, 0, Int.ofNat 30) (yo_bin 1 1 yg_lrem (yo_un 1 xg_l2i (yo_st 0 3 5 (yo_ld 0 3 (yo_push (0, 0, Int.ofNat 5) (yo_dv 1 yg_rem (yo_st 0 4 5 (yo_lda 0 (yo_ld 0 4 (yo_cl yG ym61 11 1 2 0 0 0 0 (yo_if .eq (ih 88) (yo_ld 0 3 (yo_push (0, 0, Int.ofNat 5) (yo_dv 0 xg_div (yo_push (0, 0, Int.ofNat 5) (yo_ic .ne (ih 88) (yo_lda 0 (yo_push (0, 0, Int.ofNat 1) (yo_ld 0 4 (yo_push (0, 0, Int.negSucc 8) (yo_cts yG ycs79 11 3 4 0 0 0 0 (ih 137)))))))))))))))))))))))))))))))))))))),
  (88, fun ih => yo_lda 0 (yo_ld 0 4 (yo_cl yG ym61 11 1 2 0 0 0 0 (yo_if .eq (ih 137) (yo_ld 0 3 (yo_push (0, 0, Int.ofNat 5) (yo_dv 0 xg_div (yo_push (0, 0, Int.ofNat 4) (yo_ic .ge (ih 137) (yo_lda 0 (yo_ld 0 3 (yo_push (0, 0, Int.ofNat 5) (yo_dv 0 xg_div (yo_cl yG ym46 11 1 2 0 0 0 0 (yo_if .eq (ih 137) (yo_lda 0 (yo_push (0, 0, Int.ofNat 1) (yo_ld 0 4 (yo_ld 0 3 (yo_push (0, 0, Int.ofNat 5) (yo_dv 0 xg_div (yo_cts yG ycs77 11 3 5 0 0 0 0 (yo_if .eq (ih 137) (yo_lda 0 (yo_push (0, 0, Int.ofNat 1) (yo_ld 0 4 (yo_ld 0 3 (yo_push (0, 0, Int.ofNat 5) (yo_dv 0 xg_div (yo_cts yG ycs79 11 3 4 0 0 0 0 (ih 137))))))))))))))))))))))))))))))),
  (137, fun ih => yo_lda 0 (yo_push (0, 0, Int.ofNat 1) (yo_cts yG ycs91 11 1 6 0 0 0 0 (yo_pop (yo_inc 2 5 (Int.ofNat 1) (ih 21)))))),
  (149, fun ih => yo_lda 0 (yo_push (0, 0, Int.ofNat 1) (yo_cts yG ycs189 11 1 4 0 0 0 0 (yo_lda 0 (yo_push (0, 0, Int.ofNat 0) (yo_cts yG ycs189 11 1 4 0 0 0 0 (yo_bin 0 0 yg_sub (yo_ri 1))))))))]
set_option maxRecDepth 100000 in
theorem yT190 : y_T yG none (y_ic 15 ym15 (y_ic 61 ym61 (y_ic 46 ym46 y_i0))) (y_cc 141 ycs141 (y_cc 79 ycs79 (y_cc 77 ycs77 (y_cc 91 ycs91 (y_cc 189 ycs189 y_c0))))) ev_r190.1 (fun _ => none) yt190 := (y_T_cons 8 rfl (y_T_cons 4 rfl (y_T_cons 38 rfl (y_T_cons 30 rfl (y_T_cons 6 rfl (y_T_cons 8 rfl y_T_nil))))))
def yct190_0 : yCt := ([(2, Int.ofNat 55, Int.ofNat 55, false), (0, Int.negSucc 2147483647, Int.ofNat 2147483647, false)], (some (0, Int.negSucc 2147483647, Int.ofNat 2147483647, false)), [(55, 25, 25), (61, 18, 35)])
set_option maxRecDepth 100000 in
theorem yd190_0 : y_drv yt190 (y_st [21]) none (y_po yct190_0) [0, 21] 100000 5000 [y_start 3 yct190_0] = true := by decide +kernel
theorem yc190_0 : y_Mca yG 190 yct190_0 := y_Mca_of (r := ev_r190) rfl (y_con (k := 3) (by decide) (fun hc0 _ => y_drv_ok (h0 := (yG, hc0)) (y_ic_ok (yM15 hc0) (y_ic_ok (yM61 hc0) (y_ic_ok (yM46 hc0) y_i0_ok))) (y_cc_ok yCs141 (y_cc_ok yCs79 (y_cc_ok yCs77 (y_cc_ok yCs91 (y_cc_ok yCs189 y_c0_ok))))) yT190 (fun _ h1 h2 => y_po_ok h1 h2) yd190_0 _ (List.mem_singleton.mpr rfl)))
noncomputable def ycs190 : List yCt := [yct190_0]
theorem yCs190 : ∀ ct ∈ ycs190, y_Mca yG 190 ct := (y_l1 yc190_0 y_l0)
/-- NameHall$Slots.has(I)Z -/
noncomputable def yt191 : List (Nat × yB) := [(0, fun ih => yo_ld 0 1 (yo_if .lt (ih 13) (yo_ld 0 1 (yo_push (0, 0, Int.ofNat 2) (yo_ic .ge (ih 13) (yo_push (0, 0, Int.ofNat 1) (ih 14))))))),
  (13, fun ih => yo_push (0, 0, Int.ofNat 0) (ih 14)),
  (14, fun ih => yo_ri 2)]
set_option maxRecDepth 100000 in
theorem yT191 : y_T yG none y_i0 y_c0 ev_r191.1 (fun _ => none) yt191 := (y_T_cons 7 rfl (y_T_cons 1 rfl (y_T_cons 1 rfl y_T_nil)))
noncomputable def ym191 : List xv → yH → xE → yR := y_mth 0 yt191 100000
theorem yM191 (hc0 : ev_H) : y_Ma (yG, hc0) 191 ym191 := y_Ma_of (r := ev_r191) rfl (ys_mth (h0 := (yG, hc0)) y_i0_ok y_c0_ok yT191)
/-- NameHall$Slots.store(ILNameHall$Scene;)Z -/
noncomputable def yt192 : List (Nat × yB) := [(0, fun ih => yo_lda 0 (yo_ld 0 1 (yo_cl yG ym191 8 1 2 0 0 0 0 (yo_if .ne (ih 10) (yo_push (0, 0, Int.ofNat 0) (yo_ri 2)))))),
  (10, fun ih => yo_lda 2 (yo_lda 0 (yo_gf yG 7 0 (yo_ld 0 1 (yo_aa yG (yo_cts yG ycs69 7 1 2 0 0 0 0 (yo_lda 0 (yo_gf yG 7 1 (yo_ld 0 1 (yo_push (0, 0, Int.ofNat 1) (yo_as yG 2 (yo_push (0, 0, Int.ofNat 1) (yo_ri 2)))))))))))))]
set_option maxRecDepth 100000 in
theorem yT192 : y_T yG none (y_ic 191 ym191 y_i0) (y_cc 69 ycs69 y_c0) ev_r192.1 (fun _ => none) yt192 := (y_T_cons 6 rfl (y_T_cons 13 rfl y_T_nil))
noncomputable def ym192 : List xv → yH → xE → yR := y_mth 0 yt192 100000
theorem yM192 (hc0 : ev_H) : y_Ma (yG, hc0) 192 ym192 := y_Ma_of (r := ev_r192) rfl (ys_mth (h0 := (yG, hc0)) (y_ic_ok (yM191 hc0) y_i0_ok) (y_cc_ok yCs69 y_c0_ok) yT192)
/-- NameHall$Scene.hourNow()I -/
noncomputable def yt193 : List (Nat × yB) := [(0, fun ih => yo_lda 0 (yo_gf yG 6 6 (yo_ri 1)))]
set_option maxRecDepth 100000 in
theorem yT193 : y_T yG none y_i0 y_c0 ev_r193.1 (fun _ => none) yt193 := (y_T_cons 3 rfl y_T_nil)
def yct193_0 : yCt := ([(2, Int.ofNat 9, Int.ofNat 9, false)], (some (0, Int.negSucc 2147483647, Int.ofNat 2147483647, false)), [])
set_option maxRecDepth 100000 in
theorem yd193_0 : y_drv yt193 (y_st []) none (y_po yct193_0) [0] 100000 5000 [y_start 0 yct193_0] = true := by decide +kernel
theorem yc193_0 : y_Mca yG 193 yct193_0 := y_Mca_of (r := ev_r193) rfl (y_con (k := 0) (by decide) (fun hc0 _ => y_drv_ok (h0 := (yG, hc0)) y_i0_ok y_c0_ok yT193 (fun _ h1 h2 => y_po_ok h1 h2) yd193_0 _ (List.mem_singleton.mpr rfl)))
noncomputable def ycs193 : List yCt := [yct193_0]
theorem yCs193 : ∀ ct ∈ ycs193, y_Mca yG 193 ct := (y_l1 yc193_0 y_l0)
/-- NameHall.keep(I)I -/
noncomputable def yt194 : List (Nat × yB) := [(0, fun ih => yo_lda 0 (yo_gf yG 9 5 (yo_ld 0 1 (yo_lda 0 (yo_gf yG 9 2 (yo_cl yG ym192 8 2 3 0 0 0 0 (yo_if .eq (ih 25) (yo_lda 0 (yo_gf yG 9 2 (yo_cts yG ycs193 7 0 1 0 0 0 0 (ih 26))))))))))),
  (25, fun ih => yo_push (0, 0, Int.negSucc 0) (ih 26)),
  (26, fun ih => yo_ri 1)]
set_option maxRecDepth 100000 in
theorem yT194 : y_T yG none (y_ic 192 ym192 y_i0) (y_cc 193 ycs193 y_c0) ev_r194.1 (fun _ => none) yt194 := (y_T_cons 11 rfl (y_T_cons 1 rfl (y_T_cons 1 rfl y_T_nil)))
def yct194_0 : yCt := ([(2, Int.ofNat 0, Int.ofNat 0, false), (0, Int.negSucc 2147483647, Int.ofNat 2147483647, false)], (some (0, Int.negSucc 2147483647, Int.ofNat 2147483647, false)), [(35, 0, 17), (36, 0, 17), (37, 0, 1)])
set_option maxRecDepth 100000 in
theorem yd194_0 : y_drv yt194 (y_st []) none (y_po yct194_0) [0] 100000 5000 [y_start 0 yct194_0] = true := by decide +kernel
theorem yc194_0 : y_Mca yG 194 yct194_0 := y_Mca_of (r := ev_r194) rfl (y_con (k := 0) (by decide) (fun hc0 _ => y_drv_ok (h0 := (yG, hc0)) (y_ic_ok (yM192 hc0) y_i0_ok) (y_cc_ok yCs193 y_c0_ok) yT194 (fun _ h1 h2 => y_po_ok h1 h2) yd194_0 _ (List.mem_singleton.mpr rfl)))
noncomputable def ycs194 : List yCt := [yct194_0]
theorem yCs194 : ∀ ct ∈ ycs194, y_Mca yG 194 ct := (y_l1 yc194_0 y_l0)
/-- NameHallModel.keep(I)I -/
noncomputable def yt195 : List (Nat × yB) := [(0, fun ih => yo_ld 0 1 (yo_un 0 xg_i2l (yo_push (1, 0, Int.ofNat 0) (yo_push (1, 0, Int.ofNat 1) (yo_cl yG ym15 0 3 6 0 0 0 0 (yo_if .ne (ih 12) (yo_push (0, 0, Int.negSucc 0) (yo_ri 1)))))))),
  (12, fun ih => yo_lda 0 (yo_gf yG 10 26 (yo_ld 0 1 (yo_push (0, 0, Int.ofNat 1) (yo_as yG 2 (yo_push (0, 0, Int.ofNat 0) (yo_st 0 2 3 (ih 21)))))))),
  (21, fun ih => yo_ld 0 2 (yo_push (0, 0, Int.ofNat 18) (yo_ic .ge (ih 50) (yo_lda 0 (yo_gf yG 10 27 (yo_push (0, 0, Int.ofNat 18) (yo_ld 0 1 (yo_bin 0 0 (xg_i (· * ·) yg_mul) (yo_ld 0 2 (yo_bin 0 0 yg_add (yo_lda 0 (yo_gf yG 10 7 (yo_ld 0 2 (yo_al yG none 0 (yo_as yG 0 (yo_inc 2 3 (Int.ofNat 1) (ih 21))))))))))))))))),
  (50, fun ih => yo_lda 0 (yo_gf yG 10 7 (yo_push (0, 0, Int.ofNat 17) (yo_al yG none 0 (yo_ri 1)))))]
set_option maxRecDepth 100000 in
theorem yT195 : y_T yG none (y_ic 15 ym15 y_i0) y_c0 ev_r195.1 (fun _ => none) yt195 := (y_T_cons 8 rfl (y_T_cons 7 rfl (y_T_cons 17 rfl (y_T_cons 5 rfl y_T_nil))))
def yct195_0 : yCt := ([(2, Int.ofNat 55, Int.ofNat 55, false), (0, Int.negSucc 2147483647, Int.ofNat 2147483647, false)], (some (0, Int.negSucc 2147483647, Int.ofNat 2147483647, false)), [(70, 0, 1), (71, 0, 35)])
set_option maxRecDepth 100000 in
theorem yd195_0 : y_all (fun x1 => y_all (fun x2 => y_all (fun x3 => y_drv yt195 (y_st [21]) none (y_po yct195_0) [0, 21] 100000 5000 [x3]) (y_sct 0 (Int.ofNat 2) x2)) (y_sct 0 (Int.ofNat 1) x1)) (y_sct 0 (Int.ofNat 0) (y_start 1 yct195_0)) = true := by decide +kernel
theorem yc195_0 : y_Mca yG 195 yct195_0 := y_Mca_of (r := ev_r195) rfl (y_con (k := 1) (by decide) (fun hc0 _ => y_sct_ok (fun x1 m1 => have H1 := yd195_0; y_sct_ok (fun x2 m2 => have H2 := (y_all_ok H1 x1 m1); y_sct_ok (fun x3 m3 => have H3 := (y_all_ok H2 x2 m2); y_drv_ok (h0 := (yG, hc0)) (y_ic_ok (yM15 hc0) y_i0_ok) y_c0_ok yT195 (fun _ h1 h2 => y_po_ok h1 h2) (y_all_ok H3 x3 m3) _ (List.mem_singleton.mpr rfl))))))
noncomputable def ycs195 : List yCt := [yct195_0]
theorem yCs195 : ∀ ct ∈ ycs195, y_Mca yG 195 ct := (y_l1 yc195_0 y_l0)
/-- NameHall$Slots.load(ILNameHall$Scene;)Z -/
noncomputable def yt196 : List (Nat × yB) := [(0, fun ih => yo_lda 0 (yo_ld 0 1 (yo_cl yG ym191 8 1 2 0 0 0 0 (yo_if .eq (ih 17) (yo_lda 0 (yo_gf yG 7 1 (yo_ld 0 1 (yo_al yG none 2 (yo_if .ne (ih 19) (ih 17)))))))))),
  (17, fun ih => yo_push (0, 0, Int.ofNat 0) (yo_ri 2)),
  (19, fun ih => yo_lda 2 (yo_lda 0 (yo_gf yG 7 0 (yo_ld 0 1 (yo_aa yG (yo_cts yG ycs96 7 1 2 0 0 0 0 (yo_push (0, 0, Int.ofNat 1) (yo_ri 2))))))))]
set_option maxRecDepth 100000 in
theorem yT196 : y_T yG none (y_ic 191 ym191 y_i0) (y_cc 96 ycs96 y_c0) ev_r196.1 (fun _ => none) yt196 := (y_T_cons 9 rfl (y_T_cons 2 rfl (y_T_cons 8 rfl y_T_nil)))
noncomputable def ym196 : List xv → yH → xE → yR := y_mth 0 yt196 100000
theorem yM196 (hc0 : ev_H) : y_Ma (yG, hc0) 196 ym196 := y_Ma_of (r := ev_r196) rfl (ys_mth (h0 := (yG, hc0)) (y_ic_ok (yM191 hc0) y_i0_ok) (y_cc_ok yCs96 y_c0_ok) yT196)
/-- NameHall.again(I)I -/
noncomputable def yt197 : List (Nat × yB) := [(0, fun ih => yo_lda 0 (yo_gf yG 9 5 (yo_ld 0 1 (yo_cl yG ym191 8 1 2 0 0 0 0 (yo_if .ne (ih 13) (yo_push (0, 0, Int.negSucc 0) (yo_ri 1))))))),
  (13, fun ih => yo_lda 0 (yo_gf yG 9 5 (yo_ld 0 1 (yo_lda 0 (yo_gf yG 9 2 (yo_cl yG ym196 8 2 3 0 0 0 0 (yo_if .ne (ih 31) (yo_push (0, 0, Int.negSucc 2) (yo_ri 1))))))))),
  (31, fun ih => yo_lda 0 (yo_gf yG 9 4 (yo_cts yG ycs34 1 0 1 0 0 0 0 (yo_lda 0 (yo_gf yG 9 2 (yo_cts yG ycs193 7 0 1 0 0 0 0 (yo_ri 1)))))))]
set_option maxRecDepth 100000 in
theorem yT197 : y_T yG none (y_ic 191 ym191 (y_ic 196 ym196 y_i0)) (y_cc 34 ycs34 (y_cc 193 ycs193 y_c0)) ev_r197.1 (fun _ => none) yt197 := (y_T_cons 7 rfl (y_T_cons 9 rfl (y_T_cons 7 rfl y_T_nil)))
def yct197_0 : yCt := ([(2, Int.ofNat 0, Int.ofNat 0, false), (0, Int.negSucc 2147483647, Int.ofNat 2147483647, false)], (some (0, Int.negSucc 2147483647, Int.ofNat 2147483647, false)), [(9, 4, 6), (10, 0, 4), (11, 0, 4), (12, 0, 4), (17, 1, 2)])
set_option maxRecDepth 100000 in
theorem yd197_0 : y_drv yt197 (y_st []) none (y_po yct197_0) [0] 100000 5000 [y_start 0 yct197_0] = true := by decide +kernel
theorem yc197_0 : y_Mca yG 197 yct197_0 := y_Mca_of (r := ev_r197) rfl (y_con (k := 0) (by decide) (fun hc0 _ => y_drv_ok (h0 := (yG, hc0)) (y_ic_ok (yM191 hc0) (y_ic_ok (yM196 hc0) y_i0_ok)) (y_cc_ok yCs34 (y_cc_ok yCs193 y_c0_ok)) yT197 (fun _ h1 h2 => y_po_ok h1 h2) yd197_0 _ (List.mem_singleton.mpr rfl)))
noncomputable def ycs197 : List yCt := [yct197_0]
theorem yCs197 : ∀ ct ∈ ycs197, y_Mca yG 197 ct := (y_l1 yc197_0 y_l0)
/-- NameHallModel.again(I)I -/
noncomputable def yt198 : List (Nat × yB) := [(0, fun ih => yo_ld 0 1 (yo_un 0 xg_i2l (yo_push (1, 0, Int.ofNat 0) (yo_push (1, 0, Int.ofNat 1) (yo_cl yG ym15 0 3 6 0 0 0 0 (yo_if .ne (ih 12) (yo_push (0, 0, Int.negSucc 0) (yo_ri 1)))))))),
  (12, fun ih => yo_lda 0 (yo_gf yG 10 26 (yo_ld 0 1 (yo_al yG none 2 (yo_if .ne (ih 24) (yo_push (0, 0, Int.negSucc 2) (yo_ri 1))))))),
  (24, fun ih => yo_push (0, 0, Int.ofNat 0) (yo_st 0 2 3 (ih 26))),
  (26, fun ih => yo_ld 0 2 (yo_push (0, 0, Int.ofNat 18) (yo_ic .ge (ih 55) (yo_lda 0 (yo_gf yG 10 7 (yo_ld 0 2 (yo_lda 0 (yo_gf yG 10 27 (yo_push (0, 0, Int.ofNat 18) (yo_ld 0 1 (yo_bin 0 0 (xg_i (· * ·) yg_mul) (yo_ld 0 2 (yo_bin 0 0 yg_add (yo_al yG none 0 (yo_as yG 0 (yo_inc 2 3 (Int.ofNat 1) (ih 26))))))))))))))))),
  (55, fun ih => yo_lda 0 (yo_push (0, 0, Int.ofNat 0) (yo_pf yG 10 16 0 (yo_lda 0 (yo_gf yG 10 7 (yo_push (0, 0, Int.ofNat 17) (yo_al yG none 0 (yo_ri 1))))))))]
set_option maxRecDepth 100000 in
theorem yT198 : y_T yG none (y_ic 15 ym15 y_i0) y_c0 ev_r198.1 (fun _ => none) yt198 := (y_T_cons 8 rfl (y_T_cons 7 rfl (y_T_cons 2 rfl (y_T_cons 17 rfl (y_T_cons 8 rfl y_T_nil)))))
def yct198_0 : yCt := ([(2, Int.ofNat 55, Int.ofNat 55, false), (0, Int.negSucc 2147483647, Int.ofNat 2147483647, false)], (some (0, Int.negSucc 2147483647, Int.ofNat 2147483647, false)), [(55, 16, 16), (61, 0, 17)])
set_option maxRecDepth 100000 in
theorem yd198_0 : y_all (fun x1 => y_all (fun x2 => y_all (fun x3 => y_drv yt198 (y_st [26]) none (y_po yct198_0) [0, 26] 100000 5000 [x3]) (y_sct 0 (Int.ofNat 2) x2)) (y_sct 0 (Int.ofNat 1) x1)) (y_sct 0 (Int.ofNat 0) (y_start 1 yct198_0)) = true := by decide +kernel
theorem yc198_0 : y_Mca yG 198 yct198_0 := y_Mca_of (r := ev_r198) rfl (y_con (k := 1) (by decide) (fun hc0 _ => y_sct_ok (fun x1 m1 => have H1 := yd198_0; y_sct_ok (fun x2 m2 => have H2 := (y_all_ok H1 x1 m1); y_sct_ok (fun x3 m3 => have H3 := (y_all_ok H2 x2 m2); y_drv_ok (h0 := (yG, hc0)) (y_ic_ok (yM15 hc0) y_i0_ok) y_c0_ok yT198 (fun _ h1 h2 => y_po_ok h1 h2) (y_all_ok H3 x3 m3) _ (List.mem_singleton.mpr rfl))))))
noncomputable def ycs198 : List yCt := [yct198_0]
theorem yCs198 : ∀ ct ∈ ycs198, y_Mca yG 198 ct := (y_l1 yc198_0 y_l0)
/-- NameHall$Scene.allWaited()I -/
noncomputable def yt199 : List (Nat × yB) := [(0, fun ih => yo_push (0, 0, Int.ofNat 0) (yo_st 0 1 3 (yo_push (0, 0, Int.ofNat 0) (yo_st 0 2 3 (ih 4))))),
  (4, fun ih => yo_ld 0 2 (yo_push (0, 0, Int.ofNat 5) (yo_ic .ge (ih 24) (yo_ld 0 1 (yo_lda 0 (yo_gf yG 6 3 (yo_ld 0 2 (yo_al yG none 0 (yo_bin 0 0 yg_add (yo_st 0 1 3 (yo_inc 2 3 (Int.ofNat 1) (ih 4)))))))))))),
  (24, fun ih => yo_ld 0 1 (yo_ri 1))]
set_option maxRecDepth 100000 in
theorem yT199 : y_T yG none y_i0 y_c0 ev_r199.1 (fun _ => none) yt199 := (y_T_cons 4 rfl (y_T_cons 12 rfl (y_T_cons 2 rfl y_T_nil)))
def yct199_0 : yCt := ([(2, Int.ofNat 9, Int.ofNat 9, false)], (some (0, Int.negSucc 2147483647, Int.ofNat 2147483647, false)), [])
set_option maxRecDepth 100000 in
theorem yd199_0 : y_drv yt199 (y_st [4]) none (y_po yct199_0) [0, 4] 100000 5000 [y_start 2 yct199_0] = true := by decide +kernel
theorem yc199_0 : y_Mca yG 199 yct199_0 := y_Mca_of (r := ev_r199) rfl (y_con (k := 2) (by decide) (fun hc0 _ => y_drv_ok (h0 := (yG, hc0)) y_i0_ok y_c0_ok yT199 (fun _ h1 h2 => y_po_ok h1 h2) yd199_0 _ (List.mem_singleton.mpr rfl)))
noncomputable def ycs199 : List yCt := [yct199_0]
theorem yCs199 : ∀ ct ∈ ycs199, y_Mca yG 199 ct := (y_l1 yc199_0 y_l0)
/-- NameHall.count(I)I -/
noncomputable def yt200 : List (Nat × yB) := [(0, fun ih => yo_ld 0 1 (yo_sw (Int.ofNat 0) (Int.ofNat 8) 131 [52, 60, 68, 76, 84, 99, 107, 115, 123] ih)),
  (52, fun ih => yo_lda 0 (yo_gf yG 9 0 (yo_cts yG ycs13 9 0 1 0 0 0 0 (yo_ri 1)))),
  (60, fun ih => yo_lda 0 (yo_gf yG 9 1 (yo_cts yG ycs36 5 0 1 0 0 0 0 (yo_ri 1)))),
  (68, fun ih => yo_lda 0 (yo_gf yG 9 1 (yo_cts yG ycs37 5 0 1 0 0 0 0 (yo_ri 1)))),
  (76, fun ih => yo_lda 0 (yo_gf yG 9 2 (yo_cts yG ycs193 7 0 1 0 0 0 0 (yo_ri 1)))),
  (84, fun ih => yo_lda 0 (yo_gf yG 9 2 (yo_lda 0 (yo_gf yG 9 2 (yo_cts yG ycs193 7 0 1 0 0 0 0 (yo_cts yG ycs86 7 1 4 0 0 0 0 (yo_ri 1))))))),
  (99, fun ih => yo_lda 0 (yo_gf yG 9 2 (yo_cts yG ycs57 7 0 5 0 0 0 0 (yo_ri 1)))),
  (107, fun ih => yo_lda 0 (yo_gf yG 9 2 (yo_cts yG ycs199 7 0 3 0 0 0 0 (yo_ri 1)))),
  (115, fun ih => yo_lda 0 (yo_gf yG 9 4 (yo_cts yG ycs98 1 0 1 0 0 0 0 (yo_ri 1)))),
  (123, fun ih => yo_lda 0 (yo_gf yG 9 6 (yo_cts yG ycs146 3 0 1 0 0 0 0 (yo_ri 1)))),
  (131, fun ih => yo_push (0, 0, Int.negSucc 1) (yo_ri 1))]
set_option maxRecDepth 100000 in
theorem yT200 : y_T yG none y_i0 (y_cc 13 ycs13 (y_cc 36 ycs36 (y_cc 37 ycs37 (y_cc 193 ycs193 (y_cc 86 ycs86 (y_cc 57 ycs57 (y_cc 199 ycs199 (y_cc 98 ycs98 (y_cc 146 ycs146 y_c0))))))))) ev_r200.1 (fun _ => none) yt200 := (y_T_cons 2 rfl (y_T_cons 4 rfl (y_T_cons 4 rfl (y_T_cons 4 rfl (y_T_cons 4 rfl (y_T_cons 7 rfl (y_T_cons 4 rfl (y_T_cons 4 rfl (y_T_cons 4 rfl (y_T_cons 4 rfl (y_T_cons 2 rfl y_T_nil)))))))))))
def yct200_0 : yCt := ([(2, Int.ofNat 0, Int.ofNat 0, false), (0, Int.negSucc 2147483647, Int.ofNat 2147483647, false)], (some (0, Int.negSucc 2147483647, Int.ofNat 2147483647, false)), [])
set_option maxRecDepth 100000 in
theorem yd200_0 : y_drv yt200 (y_st []) none (y_po yct200_0) [0] 100000 5000 [y_start 0 yct200_0] = true := by decide +kernel
theorem yc200_0 : y_Mca yG 200 yct200_0 := y_Mca_of (r := ev_r200) rfl (y_con (k := 0) (by decide) (fun hc0 _ => y_drv_ok (h0 := (yG, hc0)) y_i0_ok (y_cc_ok yCs13 (y_cc_ok yCs36 (y_cc_ok yCs37 (y_cc_ok yCs193 (y_cc_ok yCs86 (y_cc_ok yCs57 (y_cc_ok yCs199 (y_cc_ok yCs98 (y_cc_ok yCs146 y_c0_ok))))))))) yT200 (fun _ h1 h2 => y_po_ok h1 h2) yd200_0 _ (List.mem_singleton.mpr rfl)))
noncomputable def ycs200 : List yCt := [yct200_0]
theorem yCs200 : ∀ ct ∈ ycs200, y_Mca yG 200 ct := (y_l1 yc200_0 y_l0)
/-- NameHallModel.count(I)I -/
noncomputable def yt201 : List (Nat × yB) := [(0, fun ih => yo_push (0, 0, Int.ofNat 0) (yo_st 0 2 5 (yo_push (0, 0, Int.ofNat 0) (yo_st 0 3 5 (yo_push (0, 0, Int.ofNat 0) (yo_st 0 4 5 (ih 7))))))),
  (7, fun ih => yo_ld 0 4 (yo_lda 0 (yo_gf yG 10 1 (yo_ic .ge (ih 71) (yo_ld 0 2 (yo_lda 0 (yo_push (0, 0, Int.ofNat 0) (yo_ld 0 4 (yo_lda 0 (yo_gf yG 10 7 (yo_push (0, 0, Int.ofNat 17) (yo_al yG none 0 (yo_cts yG ycs90 11 3 4 0 0 0 0 (yo_if .eq (ih 41) (yo_push (0, 0, Int.ofNat 1) (yo_ld 0 4 (yo_bin 0 0 (xg_i x_ishl (yg_en x_ishl)) (ih 42)))))))))))))))))),
  (41, fun ih => yo_push (0, 0, Int.ofNat 0) (ih 42)),
  (42, fun ih => yo_bin 0 0 (xg_i (· ||| ·) yg_bit) (yo_st 0 2 5 (yo_ld 0 3 (yo_lda 0 (yo_push (0, 0, Int.ofNat 0) (yo_ld 0 4 (yo_cts yG ycs62 11 2 6 0 0 0 0 (yo_if .eq (ih 62) (yo_push (0, 0, Int.ofNat 1) (yo_ld 0 4 (yo_bin 0 0 (xg_i x_ishl (yg_en x_ishl)) (ih 63)))))))))))),
  (62, fun ih => yo_push (0, 0, Int.ofNat 0) (ih 63)),
  (63, fun ih => yo_bin 0 0 (xg_i (· ||| ·) yg_bit) (yo_st 0 3 5 (yo_inc 4 5 (Int.ofNat 1) (ih 7)))),
  (71, fun ih => yo_ld 0 1 (yo_sw (Int.ofNat 0) (Int.ofNat 8) 167 [124, 129, 134, 139, 147, 149, 151, 157, 162] ih)),
  (124, fun ih => yo_lda 0 (yo_gf yG 10 13 (yo_ri 1))),
  (129, fun ih => yo_lda 0 (yo_gf yG 10 0 (yo_ri 1))),
  (134, fun ih => yo_lda 0 (yo_gf yG 10 1 (yo_ri 1))),
  (139, fun ih => yo_lda 0 (yo_gf yG 10 7 (yo_push (0, 0, Int.ofNat 17) (yo_al yG none 0 (yo_ri 1))))),
  (147, fun ih => yo_ld 0 2 (yo_ri 1)),
  (149, fun ih => yo_ld 0 3 (yo_ri 1)),
  (151, fun ih => yo_lda 0 (yo_push (0, 0, Int.ofNat 0) (yo_cts yG ycs189 11 1 4 0 0 0 0 (yo_ri 1)))),
  (157, fun ih => yo_lda 0 (yo_gf yG 10 16 (yo_ri 1))),
  (162, fun ih => yo_lda 0 (yo_gf yG 10 21 (yo_ri 1))),
  (167, fun ih => yo_push (0, 0, Int.negSucc 1) (yo_ri 1))]
set_option maxRecDepth 100000 in
theorem yT201 : y_T yG none y_i0 (y_cc 90 ycs90 (y_cc 62 ycs62 (y_cc 189 ycs189 y_c0))) ev_r201.1 (fun _ => none) yt201 := (y_T_cons 6 rfl (y_T_cons 18 rfl (y_T_cons 1 rfl (y_T_cons 12 rfl (y_T_cons 1 rfl (y_T_cons 4 rfl (y_T_cons 2 rfl (y_T_cons 3 rfl (y_T_cons 3 rfl (y_T_cons 3 rfl (y_T_cons 5 rfl (y_T_cons 2 rfl (y_T_cons 2 rfl (y_T_cons 4 rfl (y_T_cons 3 rfl (y_T_cons 3 rfl (y_T_cons 2 rfl y_T_nil)))))))))))))))))
def yct201_0 : yCt := ([(2, Int.ofNat 55, Int.ofNat 55, false), (0, Int.negSucc 2147483647, Int.ofNat 2147483647, false)], (some (0, Int.negSucc 2147483647, Int.ofNat 2147483647, false)), [])
set_option maxRecDepth 100000 in
theorem yd201_0 : y_drv yt201 (y_st [7]) none (y_po yct201_0) [0, 7] 100000 5000 [y_start 3 yct201_0] = true := by decide +kernel
theorem yc201_0 : y_Mca yG 201 yct201_0 := y_Mca_of (r := ev_r201) rfl (y_con (k := 3) (by decide) (fun hc0 _ => y_drv_ok (h0 := (yG, hc0)) y_i0_ok (y_cc_ok yCs90 (y_cc_ok yCs62 (y_cc_ok yCs189 y_c0_ok))) yT201 (fun _ h1 h2 => y_po_ok h1 h2) yd201_0 _ (List.mem_singleton.mpr rfl)))
noncomputable def ycs201 : List yCt := [yct201_0]
theorem yCs201 : ∀ ct ∈ ycs201, y_Mca yG 201 ct := (y_l1 yc201_0 y_l0)
