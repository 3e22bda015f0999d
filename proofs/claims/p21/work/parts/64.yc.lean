/-! contracts, by program -/
/-- NameHallModel.who(I)I -/
noncomputable def yt160 : List (Nat × yB) := [(0, fun ih => yo_lda 0 (yo_ld 0 1 (yo_cl yG ym46 11 1 2 0 0 0 0 (yo_if .ne (ih 10) (yo_push (0, 0, Int.negSucc 0) (yo_ri 1)))))),
  (10, fun ih => yo_push (0, 0, Int.ofNat 0) (yo_st 0 2 6 (yo_push (0, 0, Int.ofNat 0) (yo_st 0 3 6 (ih 14))))),
  (14, fun ih => yo_ld 0 3 (yo_lda 0 (yo_gf yG 10 1 (yo_ic .ge (ih 146) (yo_lda 0 (yo_push (0, 0, Int.ofNat 0) (yo_ld 0 3 (yo_cts yG ycs74 11 2 3 0 0 0 0 (yo_if .ne (ih 48) (yo_lda 0 (yo_gf yG 10 6 (yo_ld 0 3 (yo_al yG none 0 (yo_ld 0 1 (yo_cts yG ycs73 0 2 2 0 0 0 0 (yo_if .eq (ih 48) (yo_push (0, 0, Int.ofNat 1) (ih 49)))))))))))))))))),
  (48, fun ih => yo_push (0, 0, Int.ofNat 0) (ih 49)),
  (49, fun ih => yo_st 0 4 6 (yo_push (0, 0, Int.ofNat 0) (yo_st 0 5 6 (ih 54)))),
  (54, fun ih => yo_ld 0 5 (yo_lda 0 (yo_gf yG 10 21 (yo_ic .ge (ih 125) (yo_ld 0 4 (yo_if .eq (ih 116) (yo_lda 0 (yo_gf yG 10 22 (yo_ld 0 5 (yo_al yG none 0 (yo_push (0, 0, Int.ofNat 5) (yo_ld 0 1 (yo_bin 0 0 yg_add (yo_ic .ne (ih 112) (yo_lda 0 (yo_push (0, 0, Int.ofNat 0) (yo_ld 0 3 (yo_lda 0 (yo_gf yG 10 23 (yo_ld 0 5 (yo_al yG none 0 (yo_cts yG ycs90 11 3 4 0 0 0 0 (yo_if .eq (ih 116) (yo_lda 0 (yo_ld 0 3 (yo_lda 0 (yo_gf yG 10 23 (yo_ld 0 5 (yo_al yG none 0 (yo_cts yG ycs159 11 2 5 0 0 0 0 (yo_if .ne (ih 116) (ih 112)))))))))))))))))))))))))))))))),
  (112, fun ih => yo_push (0, 0, Int.ofNat 1) (ih 117)),
  (116, fun ih => yo_push (0, 0, Int.ofNat 0) (ih 117)),
  (117, fun ih => yo_st 0 4 6 (yo_inc 5 6 (Int.ofNat 1) (ih 54))),
  (125, fun ih => yo_ld 0 2 (yo_ld 0 4 (yo_if .eq (ih 137) (yo_push (0, 0, Int.ofNat 1) (yo_ld 0 3 (yo_bin 0 0 (xg_i x_ishl (yg_en x_ishl)) (ih 138))))))),
  (137, fun ih => yo_push (0, 0, Int.ofNat 0) (ih 138)),
  (138, fun ih => yo_bin 0 0 (xg_i (· ||| ·) yg_bit) (yo_st 0 2 6 (yo_inc 3 6 (Int.ofNat 1) (ih 14)))),
  (146, fun ih => yo_ld 0 2 (yo_ri 1))]
set_option maxRecDepth 100000 in
theorem yT160 : y_T yG none (y_ic 46 ym46 y_i0) (y_cc 74 ycs74 (y_cc 73 ycs73 (y_cc 90 ycs90 (y_cc 159 ycs159 y_c0)))) ev_r160.1 (fun _ => none) yt160 := (y_T_cons 6 rfl (y_T_cons 4 rfl (y_T_cons 18 rfl (y_T_cons 1 rfl (y_T_cons 3 rfl (y_T_cons 31 rfl (y_T_cons 2 rfl (y_T_cons 1 rfl (y_T_cons 3 rfl (y_T_cons 7 rfl (y_T_cons 1 rfl (y_T_cons 4 rfl (y_T_cons 2 rfl y_T_nil)))))))))))))
def yct160_0 : yCt := ([(2, Int.ofNat 55, Int.ofNat 55, false), (0, Int.negSucc 2147483647, Int.ofNat 2147483647, false)], (some (0, Int.negSucc 0, Int.ofNat 31, false)), [])
set_option maxRecDepth 100000 in
theorem yd160_0 : y_drv yt160 (y_st [14, 54]) none (y_po yct160_0) [0, 54, 14] 100000 5000 [y_start 4 yct160_0] = true := by decide +kernel
theorem yc160_0 : y_Mca yG 160 yct160_0 := y_Mca_of (r := ev_r160) rfl (y_con (k := 4) (by decide) (fun hc0 _ => y_drv_ok (h0 := (yG, hc0)) (y_ic_ok (yM46 hc0) y_i0_ok) (y_cc_ok yCs74 (y_cc_ok yCs73 (y_cc_ok yCs90 (y_cc_ok yCs159 y_c0_ok)))) yT160 (fun _ h1 h2 => y_po_ok h1 h2) yd160_0 _ (List.mem_singleton.mpr rfl)))
noncomputable def ycs160 : List yCt := [yct160_0]
theorem yCs160 : ∀ ct ∈ ycs160, y_Mca yG 160 ct := (y_l1 yc160_0 y_l0)
/-- NameHall.gain(III)I -/
noncomputable def yt161 : List (Nat × yB) := [(0, fun ih => yo_lda 0 (yo_gf yG 9 7 (yo_lda 0 (yo_gf yG 9 2 (yo_ld 0 3 (yo_ld 0 2 (yo_cts yG ycs104 4 3 6 0 0 0 0 (yo_lda 0 (yo_gf yG 9 7 (yo_cts yG ycs110 4 0 1 0 0 0 0 (yo_st 0 4 5 (yo_lda 0 (yo_gf yG 9 7 (yo_lda 0 (yo_gf yG 9 2 (yo_ld 0 3 (yo_ld 0 2 (yo_push (0, 0, Int.ofNat 1) (yo_ld 0 1 (yo_bin 0 0 (xg_i x_ishl (yg_en x_ishl)) (yo_bin 0 0 (xg_i (· ||| ·) yg_bit) (yo_cts yG ycs104 4 3 6 0 0 0 0 (yo_lda 0 (yo_gf yG 9 7 (yo_cts yG ycs110 4 0 1 0 0 0 0 (yo_ld 0 4 (yo_bin 0 0 yg_sub (yo_ri 1))))))))))))))))))))))))))))]
set_option maxRecDepth 100000 in
theorem yT161 : y_T yG none y_i0 (y_cc 104 ycs104 (y_cc 110 ycs110 y_c0)) ev_r161.1 (fun _ => none) yt161 := (y_T_cons 28 rfl y_T_nil)
def yct161_0 : yCt := ([(2, Int.ofNat 0, Int.ofNat 0, false), (0, Int.negSucc 2147483647, Int.ofNat 2147483647, false), (0, Int.negSucc 2147483647, Int.ofNat 2147483647, false), (0, Int.negSucc 2147483647, Int.ofNat 2147483647, false)], (some (0, Int.negSucc 2147483647, Int.ofNat 2147483647, false)), [(42, 0, 4), (43, 0, 3)])
set_option maxRecDepth 100000 in
theorem yd161_0 : y_drv yt161 (y_st []) none (y_po yct161_0) [0] 100000 5000 [y_start 1 yct161_0] = true := by decide +kernel
theorem yc161_0 : y_Mca yG 161 yct161_0 := y_Mca_of (r := ev_r161) rfl (y_con (k := 1) (by decide) (fun hc0 _ => y_drv_ok (h0 := (yG, hc0)) y_i0_ok (y_cc_ok yCs104 (y_cc_ok yCs110 y_c0_ok)) yT161 (fun _ h1 h2 => y_po_ok h1 h2) yd161_0 _ (List.mem_singleton.mpr rfl)))
noncomputable def ycs161 : List yCt := [yct161_0]
theorem yCs161 : ∀ ct ∈ ycs161, y_Mca yG 161 ct := (y_l1 yc161_0 y_l0)
/-- NameHall.factorial(I)I -/
noncomputable def yt162 : List (Nat × yB) := [(0, fun ih => yo_push (0, 0, Int.ofNat 1) (yo_st 0 1 3 (yo_push (0, 0, Int.ofNat 2) (yo_st 0 2 3 (ih 4))))),
  (4, fun ih => yo_ld 0 2 (yo_ld 0 0 (yo_ic .gt (ih 24) (yo_ld 0 2 (yo_push (0, 0, Int.ofNat 4) (yo_ic .gt (ih 24) (yo_ld 0 1 (yo_ld 0 2 (yo_bin 0 0 (xg_i (· * ·) yg_mul) (yo_st 0 1 3 (yo_inc 2 3 (Int.ofNat 1) (ih 4)))))))))))),
  (24, fun ih => yo_ld 0 1 (yo_ri 1))]
set_option maxRecDepth 100000 in
theorem yT162 : y_T yG none y_i0 y_c0 ev_r162.1 (fun _ => none) yt162 := (y_T_cons 4 rfl (y_T_cons 12 rfl (y_T_cons 2 rfl y_T_nil)))
def yct162_0 : yCt := ([(0, Int.negSucc 2147483647, Int.ofNat 2147483647, false)], (some (0, Int.ofNat 1, Int.ofNat 24, false)), [])
set_option maxRecDepth 100000 in
theorem yd162_0 : y_drv yt162 (y_st [4]) none (y_po yct162_0) [0, 4] 100000 5000 [y_start 2 yct162_0] = true := by decide +kernel
theorem yc162_0 : y_Mca yG 162 yct162_0 := y_Mca_of (r := ev_r162) rfl (y_con (k := 2) (by decide) (fun hc0 _ => y_drv_ok (h0 := (yG, hc0)) y_i0_ok y_c0_ok yT162 (fun _ h1 h2 => y_po_ok h1 h2) yd162_0 _ (List.mem_singleton.mpr rfl)))
noncomputable def ycs162 : List yCt := [yct162_0]
theorem yCs162 : ∀ ct ∈ ycs162, y_Mca yG 162 ct := (y_l1 yc162_0 y_l0)
/-- NameHall.ordersWith(I)I -/
noncomputable def yt163 : List (Nat × yB) := [(0, fun ih => yo_ld 0 1 (yo_cts yG ycs162 0 1 3 0 0 0 0 (yo_lda 0 (yo_gf yG 9 1 (yo_cts yG ycs36 5 0 1 0 0 0 0 (yo_push (0, 0, Int.ofNat 1) (yo_bin 0 0 yg_sub (yo_ld 0 1 (yo_bin 0 0 yg_sub (yo_cts yG ycs162 0 1 3 0 0 0 0 (yo_bin 0 0 (xg_i (· * ·) yg_mul) (yo_ri 1))))))))))))]
set_option maxRecDepth 100000 in
theorem yT163 : y_T yG none y_i0 (y_cc 162 ycs162 (y_cc 36 ycs36 y_c0)) ev_r163.1 (fun _ => none) yt163 := (y_T_cons 12 rfl y_T_nil)
def yct163_0 : yCt := ([(2, Int.ofNat 0, Int.ofNat 0, false), (0, Int.negSucc 2147483647, Int.ofNat 2147483647, false)], (some (0, Int.ofNat 1, Int.ofNat 576, false)), [])
set_option maxRecDepth 100000 in
theorem yd163_0 : y_drv yt163 (y_st []) none (y_po yct163_0) [0] 100000 5000 [y_start 0 yct163_0] = true := by decide +kernel
theorem yc163_0 : y_Mca yG 163 yct163_0 := y_Mca_of (r := ev_r163) rfl (y_con (k := 0) (by decide) (fun hc0 _ => y_drv_ok (h0 := (yG, hc0)) y_i0_ok (y_cc_ok yCs162 (y_cc_ok yCs36 y_c0_ok)) yT163 (fun _ h1 h2 => y_po_ok h1 h2) yd163_0 _ (List.mem_singleton.mpr rfl)))
noncomputable def ycs163 : List yCt := [yct163_0]
theorem yCs163 : ∀ ct ∈ ycs163, y_Mca yG 163 ct := (y_l1 yc163_0 y_l0)
/-- NameHall.commonDivisor(II)I -/
noncomputable def yt164 : List (Nat × yB) := [(0, fun ih => yo_ld 0 0 (yo_st 0 2 6 (yo_ld 0 1 (yo_st 0 3 6 (yo_push (0, 0, Int.ofNat 0) (yo_st 0 4 6 (ih 7))))))),
  (7, fun ih => yo_ld 0 4 (yo_push (0, 0, Int.ofNat 50) (yo_ic .ge (ih 34) (yo_ld 0 3 (y_cuts (some (Int.ofNat 0)) (yo_if .eq (ih 34) (yo_ld 0 2 (yo_ld 0 3 (yo_dv 1 yg_rem (yo_st 0 5 6 (yo_ld 0 3 (yo_st 0 2 6 (yo_ld 0 5 (yo_st 0 3 6 (yo_inc 4 6 (Int.ofNat 1) (ih 7)))))))))))))))),
  (34, fun ih => yo_ld 0 2 (yo_ri 1))]
set_option maxRecDepth 100000 in
theorem yT164 : y_T yG none y_i0 y_c0 ev_r164.1 (fun pc => (match Nat.beq pc 15 with
  | true => (some (Int.ofNat 0))
  | false => none)) yt164 := (y_T_cons 6 rfl (y_T_cons 15 rfl (y_T_cons 2 rfl y_T_nil)))
def yct164_0 : yCt := ([(0, Int.negSucc 2147483647, Int.ofNat 2147483647, false), (0, Int.negSucc 2147483647, Int.ofNat 2147483647, false)], (some (0, Int.negSucc 2147483647, Int.ofNat 2147483647, false)), [])
set_option maxRecDepth 100000 in
theorem yd164_0 : y_drv yt164 (y_st [7]) none (y_po yct164_0) [0, 7] 100000 5000 [y_start 4 yct164_0] = true := by decide +kernel
theorem yc164_0 : y_Mca yG 164 yct164_0 := y_Mca_of (r := ev_r164) rfl (y_con (k := 4) (by decide) (fun hc0 _ => y_drv_ok (h0 := (yG, hc0)) y_i0_ok y_c0_ok yT164 (fun _ h1 h2 => y_po_ok h1 h2) yd164_0 _ (List.mem_singleton.mpr rfl)))
noncomputable def ycs164 : List yCt := [yct164_0]
theorem yCs164 : ∀ ct ∈ ycs164, y_Mca yG 164 ct := (y_l1 yc164_0 y_l0)
/-- NameHall.partOfFraction(IIZ)I -/
noncomputable def yt165 : List (Nat × yB) := [(0, fun ih => yo_ld 0 0 (yo_ld 0 1 (yo_cts yG ycs164 0 2 6 0 0 0 0 (yo_st 0 3 5 (yo_ld 0 2 (yo_if .eq (ih 14) (yo_ld 0 0 (ih 15)))))))),
  (14, fun ih => yo_ld 0 1 (ih 15)),
  (15, fun ih => yo_st 0 4 5 (yo_ld 0 3 (yo_push (0, 0, Int.ofNat 1) (yo_ic .le (ih 29) (yo_ld 0 4 (yo_ld 0 3 (yo_dv 0 xg_div (ih 31)))))))),
  (29, fun ih => yo_ld 0 4 (ih 31)),
  (31, fun ih => yo_ri 1)]
set_option maxRecDepth 100000 in
theorem yT165 : y_T yG none y_i0 (y_cc 164 ycs164 y_c0) ev_r165.1 (fun _ => none) yt165 := (y_T_cons 8 rfl (y_T_cons 1 rfl (y_T_cons 8 rfl (y_T_cons 1 rfl (y_T_cons 1 rfl y_T_nil)))))
def yct165_0 : yCt := ([(0, Int.negSucc 2147483647, Int.ofNat 2147483647, false), (0, Int.negSucc 2147483647, Int.ofNat 2147483647, false), (0, Int.ofNat 0, Int.ofNat 1, false)], (some (0, Int.negSucc 2147483647, Int.ofNat 2147483647, false)), [])
set_option maxRecDepth 100000 in
theorem yd165_0 : y_drv yt165 (y_st []) none (y_po yct165_0) [0] 100000 5000 [y_start 2 yct165_0] = true := by decide +kernel
theorem yc165_0 : y_Mca yG 165 yct165_0 := y_Mca_of (r := ev_r165) rfl (y_con (k := 2) (by decide) (fun hc0 _ => y_drv_ok (h0 := (yG, hc0)) y_i0_ok (y_cc_ok yCs164 y_c0_ok) yT165 (fun _ h1 h2 => y_po_ok h1 h2) yd165_0 _ (List.mem_singleton.mpr rfl)))
noncomputable def ycs165 : List yCt := [yct165_0]
theorem yCs165 : ∀ ct ∈ ycs165, y_Mca yG 165 ct := (y_l1 yc165_0 y_l0)
/-- NameHall.share(IIZ)I -/
noncomputable def yt166 : List (Nat × yB) := [(0, fun ih => yo_lda 0 (yo_gf yG 9 1 (yo_ld 0 1 (yo_cl yG ym40 5 1 2 0 0 0 0 (yo_if .ne (ih 13) (yo_push (0, 0, Int.negSucc 0) (yo_ri 1))))))),
  (13, fun ih => yo_ld 0 2 (yo_cl yG ym101 0 1 1 0 0 0 0 (yo_if .ne (ih 23) (yo_push (0, 0, Int.negSucc 1) (yo_ri 1))))),
  (23, fun ih => yo_push (0, 0, Int.ofNat 1) (yo_lda 0 (yo_gf yG 9 1 (yo_cts yG ycs36 5 0 1 0 0 0 0 (yo_bin 0 0 (xg_i x_ishl (yg_en x_ishl)) (yo_push (0, 0, Int.ofNat 1) (yo_bin 0 0 yg_sub (yo_push (0, 0, Int.ofNat 1) (yo_ld 0 1 (yo_bin 0 0 (xg_i x_ishl (yg_en x_ishl)) (yo_push (0, 0, Int.negSucc 0) (yo_bin 0 0 (xg_i (· ^^^ ·) yg_bit) (yo_bin 0 0 (xg_i (· &&& ·) xg_and) (yo_st 0 4 7 (yo_push (0, 0, Int.ofNat 0) (yo_st 0 5 7 (yo_push (0, 0, Int.ofNat 0) (yo_st 0 6 7 (ih 48))))))))))))))))))),
  (48, fun ih => yo_ld 0 6 (yo_push (0, 0, Int.ofNat 16) (yo_ic .ge (ih 94) (yo_ld 0 6 (yo_ld 0 4 (yo_push (0, 0, Int.negSucc 0) (yo_bin 0 0 (xg_i (· ^^^ ·) yg_bit) (yo_bin 0 0 (xg_i (· &&& ·) xg_and) (yo_if .ne (ih 88) (yo_ld 0 5 (yo_lda 0 (yo_ld 0 1 (yo_ld 0 6 (yo_ld 0 2 (yo_cts yG ycs161 10 3 5 0 0 0 0 (yo_lda 0 (yo_ld 0 6 (yo_cts yG ycs65 0 1 1 0 0 0 0 (yo_cts yG ycs163 10 1 2 0 0 0 0 (yo_bin 0 0 (xg_i (· * ·) yg_mul) (yo_bin 0 0 yg_add (yo_st 0 5 7 (ih 88))))))))))))))))))))))),
  (88, fun ih => yo_inc 6 7 (Int.ofNat 1) (ih 48)),
  (94, fun ih => yo_ld 0 5 (yo_lda 0 (yo_gf yG 9 1 (yo_cts yG ycs36 5 0 1 0 0 0 0 (yo_cts yG ycs162 0 1 3 0 0 0 0 (yo_ld 0 3 (yo_cts yG ycs165 0 3 5 0 0 0 0 (yo_ri 1))))))))]
set_option maxRecDepth 100000 in
theorem yT166 : y_T yG none (y_ic 40 ym40 (y_ic 101 ym101 y_i0)) (y_cc 36 ycs36 (y_cc 161 ycs161 (y_cc 65 ycs65 (y_cc 163 ycs163 (y_cc 162 ycs162 (y_cc 165 ycs165 y_c0)))))) ev_r166.1 (fun _ => none) yt166 := (y_T_cons 7 rfl (y_T_cons 5 rfl (y_T_cons 18 rfl (y_T_cons 22 rfl (y_T_cons 2 rfl (y_T_cons 8 rfl y_T_nil))))))
def yct166_0 : yCt := ([(2, Int.ofNat 0, Int.ofNat 0, false), (0, Int.negSucc 2147483647, Int.ofNat 2147483647, false), (0, Int.negSucc 2147483647, Int.ofNat 2147483647, false), (0, Int.ofNat 0, Int.ofNat 1, false)], (some (0, Int.negSucc 2147483647, Int.ofNat 2147483647, false)), [(42, 0, 4), (43, 0, 3)])
set_option maxRecDepth 100000 in
theorem yd166_0 : y_drv yt166 (y_st [48]) none (y_po yct166_0) [0, 48] 100000 5000 [y_start 3 yct166_0] = true := by decide +kernel
theorem yc166_0 : y_Mca yG 166 yct166_0 := y_Mca_of (r := ev_r166) rfl (y_con (k := 3) (by decide) (fun hc0 _ => y_drv_ok (h0 := (yG, hc0)) (y_ic_ok (yM40 hc0) (y_ic_ok (yM101 hc0) y_i0_ok)) (y_cc_ok yCs36 (y_cc_ok yCs161 (y_cc_ok yCs65 (y_cc_ok yCs163 (y_cc_ok yCs162 (y_cc_ok yCs165 y_c0_ok)))))) yT166 (fun _ h1 h2 => y_po_ok h1 h2) yd166_0 _ (List.mem_singleton.mpr rfl)))
noncomputable def ycs166 : List yCt := [yct166_0]
theorem yCs166 : ∀ ct ∈ ycs166, y_Mca yG 166 ct := (y_l1 yc166_0 y_l0)
/-- NameHallModel.factorial(I)I -/
noncomputable def yt167 : List (Nat × yB) := [(0, fun ih => yo_push (0, 0, Int.ofNat 1) (yo_st 0 1 3 (yo_push (0, 0, Int.ofNat 2) (yo_st 0 2 3 (ih 4))))),
  (4, fun ih => yo_ld 0 2 (yo_ld 0 0 (yo_ic .gt (ih 19) (yo_ld 0 1 (yo_ld 0 2 (yo_bin 0 0 (xg_i (· * ·) yg_mul) (yo_st 0 1 3 (yo_inc 2 3 (Int.ofNat 1) (ih 4))))))))),
  (19, fun ih => yo_ld 0 1 (yo_ri 1))]
set_option maxRecDepth 100000 in
theorem yT167 : y_T yG none y_i0 y_c0 ev_r167.1 (fun _ => none) yt167 := (y_T_cons 4 rfl (y_T_cons 9 rfl (y_T_cons 2 rfl y_T_nil)))
def yct167_0 : yCt := ([(0, Int.negSucc 4, Int.ofNat 5, false)], (some (0, Int.ofNat 1, Int.ofNat 120, false)), [])
set_option maxRecDepth 100000 in
theorem yd167_0 : y_drv yt167 (y_st [4]) none (y_po yct167_0) [0, 4] 100000 5000 [y_start 2 yct167_0] = true := by decide +kernel
theorem yc167_0 : y_Mca yG 167 yct167_0 := y_Mca_of (r := ev_r167) rfl (y_con (k := 2) (by decide) (fun hc0 _ => y_drv_ok (h0 := (yG, hc0)) y_i0_ok y_c0_ok yT167 (fun _ h1 h2 => y_po_ok h1 h2) yd167_0 _ (List.mem_singleton.mpr rfl)))
noncomputable def ycs167 : List yCt := [yct167_0]
theorem yCs167 : ∀ ct ∈ ycs167, y_Mca yG 167 ct := (y_l1 yc167_0 y_l0)
