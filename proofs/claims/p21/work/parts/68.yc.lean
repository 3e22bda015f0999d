/-! contracts, by program -/
/-- NameHallModel.seed(J)J -/
noncomputable def yt186 : List (Nat × yB) := [(0, fun ih => yo_lda 0 (yo_gf yG 10 25 (yo_stL 3 5 (yo_lda 0 (yo_ld 1 1 (yo_pf yG 10 25 1 (yo_ld 1 3 (yo_rl 4))))))))]
set_option maxRecDepth 100000 in
theorem yT186 : y_T yG none y_i0 y_c0 ev_r186.1 (fun _ => none) yt186 := (y_T_cons 8 rfl y_T_nil)
def yct186_0 : yCt := ([(2, Int.ofNat 55, Int.ofNat 55, false), (1, Int.negSucc 9223372036854775807, Int.ofNat 9223372036854775807, false)], (some (1, Int.negSucc 9223372036854775807, Int.ofNat 9223372036854775807, false)), [(55, 25, 25)])
set_option maxRecDepth 100000 in
theorem yd186_0 : y_drv yt186 (y_st []) none (y_po yct186_0) [0] 100000 5000 [y_start 2 yct186_0] = true := by decide +kernel
theorem yc186_0 : y_Mca yG 186 yct186_0 := y_Mca_of (r := ev_r186) rfl (y_con (k := 2) (by decide) (fun hc0 _ => y_drv_ok (h0 := (yG, hc0)) y_i0_ok y_c0_ok yT186 (fun _ h1 h2 => y_po_ok h1 h2) yd186_0 _ (List.mem_singleton.mpr rfl)))
noncomputable def ycs186 : List yCt := [yct186_0]
theorem yCs186 : ∀ ct ∈ ycs186, y_Mca yG 186 ct := (y_l1 yc186_0 y_l0)
/-- NameHall.actByChance(I)V -/
noncomputable def yt187 : List (Nat × yB) := [(0, fun ih => yo_ld 0 1 (yo_push (0, 0, Int.ofNat 5) (yo_dv 1 yg_rem (yo_st 0 2 4 (yo_ld 0 1 (yo_push (0, 0, Int.ofNat 5) (yo_dv 0 xg_div (yo_st 0 3 4 (yo_ld 0 3 (yo_push (0, 0, Int.ofNat 4) (yo_ic .ge (ih 26) (yo_lda 0 (yo_gf yG 9 3 (yo_ld 0 2 (yo_ld 0 3 (yo_cl yG ym138 7 2 4 0 0 0 0 (yo_pop (ih 40)))))))))))))))))),
  (26, fun ih => yo_ld 0 3 (yo_push (0, 0, Int.ofNat 5) (yo_ic .ne (ih 40) (yo_lda 0 (yo_gf yG 9 3 (yo_ld 0 2 (yo_cl yG ym137 7 1 3 0 0 0 0 (yo_pop (ih 40))))))))),
  (40, fun ih => yo_rv 0)]
set_option maxRecDepth 100000 in
theorem yT187 : y_T yG none (y_ic 138 ym138 (y_ic 137 ym137 y_i0)) y_c0 ev_r187.1 (fun _ => none) yt187 := (y_T_cons 18 rfl (y_T_cons 8 rfl (y_T_cons 1 rfl y_T_nil)))
def yct187_0 : yCt := ([(2, Int.ofNat 0, Int.ofNat 0, false), (0, Int.negSucc 2147483647, Int.ofNat 2147483647, false)], none, [(14, 0, 4), (15, 0, 4)])
set_option maxRecDepth 100000 in
theorem yd187_0 : y_drv yt187 (y_st []) none (y_po yct187_0) [0] 100000 5000 [y_start 2 yct187_0] = true := by decide +kernel
theorem yc187_0 : y_Mca yG 187 yct187_0 := y_Mca_of (r := ev_r187) rfl (y_con (k := 2) (by decide) (fun hc0 _ => y_drv_ok (h0 := (yG, hc0)) (y_ic_ok (yM138 hc0) (y_ic_ok (yM137 hc0) y_i0_ok)) y_c0_ok yT187 (fun _ h1 h2 => y_po_ok h1 h2) yd187_0 _ (List.mem_singleton.mpr rfl)))
noncomputable def ycs187 : List yCt := [yct187_0]
theorem yCs187 : ∀ ct ∈ ycs187, y_Mca yG 187 ct := (y_l1 yc187_0 y_l0)
/-- NameHall.days(I)I -/
noncomputable def yt188 : List (Nat × yB) := [(0, fun ih => yo_ld 0 1 (yo_push (0, 0, Int.ofNat 1) (yo_ic .lt (ih 11) (yo_ld 0 1 (yo_push (0, 0, Int.ofNat 30) (yo_ic .le (ih 14) (ih 11))))))),
  (11, fun ih => yo_push (0, 0, Int.negSucc 1) (yo_ri 1)),
  (14, fun ih => yo_lda 0 (yo_gf yG 9 3 (yo_lda 0 (yo_gf yG 9 2 (yo_cts yG ycs136 7 1 2 0 0 0 0 (yo_push (0, 0, Int.ofNat 0) (yo_st 0 2 4 (yo_push (0, 0, Int.ofNat 0) (yo_st 0 3 4 (ih 29)))))))))),
  (29, fun ih => yo_ld 0 3 (yo_ld 0 1 (yo_ic .ge (ih 82) (yo_lda 0 (yo_lda 0 (yo_gf yG 9 11 (yo_push (1, 0, Int.ofNat 6364136223846793005) (yo_bin 1 1 (xg_l (· * ·)) (yo_push (1, 0, Int.ofNat 1442695040888963407) (yo_bin 1 1 (xg_l (· + ·)) (yo_pf yG 9 11 1 (yo_lda 0 (yo_lda 0 (yo_gf yG 9 11 (yo_push (0, 0, Int.ofNat 33) (yo_bin 1 0 yg_lushr (yo_push (1, 0, Int.ofNat 30) (yo_bin 1 1 yg_lrem (yo_un 1 xg_l2i (yo_cts yG ycs187 10 1 4 0 0 0 0 (yo_ld 0 2 (yo_lda 0 (yo_gf yG 9 3 (yo_cts yG ycs88 7 0 3 0 0 0 0 (yo_bin 0 0 yg_add (yo_st 0 2 4 (yo_inc 3 4 (Int.ofNat 1) (ih 29)))))))))))))))))))))))))))),
  (82, fun ih => yo_ld 0 2 (yo_ri 1))]
set_option maxRecDepth 100000 in
theorem yT188 : y_T yG none y_i0 (y_cc 136 ycs136 (y_cc 187 ycs187 (y_cc 88 ycs88 y_c0))) ev_r188.1 (fun _ => none) yt188 := (y_T_cons 6 rfl (y_T_cons 2 rfl (y_T_cons 9 rfl (y_T_cons 28 rfl (y_T_cons 2 rfl y_T_nil)))))
def yct188_0 : yCt := ([(2, Int.ofNat 0, Int.ofNat 0, false), (0, Int.negSucc 2147483647, Int.ofNat 2147483647, false)], (some (0, Int.negSucc 1, Int.ofNat 1890, false)), [(0, 11, 11), (13, 4, 6), (14, 0, 4), (15, 0, 4), (16, 0, 4)])
set_option maxRecDepth 100000 in
theorem yd188_0 : y_drv yt188 (y_st [29]) none (y_po yct188_0) [0, 29] 100000 5000 [y_start 2 yct188_0] = true := by decide +kernel
theorem yc188_0 : y_Mca yG 188 yct188_0 := y_Mca_of (r := ev_r188) rfl (y_con (k := 2) (by decide) (fun hc0 _ => y_drv_ok (h0 := (yG, hc0)) y_i0_ok (y_cc_ok yCs136 (y_cc_ok yCs187 (y_cc_ok yCs88 y_c0_ok))) yT188 (fun _ h1 h2 => y_po_ok h1 h2) yd188_0 _ (List.mem_singleton.mpr rfl)))
noncomputable def ycs188 : List yCt := [yct188_0]
theorem yCs188 : ∀ ct ∈ ycs188, y_Mca yG 188 ct := (y_l1 yc188_0 y_l0)
/-- NameHallModel.allWaited(I)I -/
noncomputable def yt189 : List (Nat × yB) := [(0, fun ih => yo_push (0, 0, Int.ofNat 0) (yo_st 0 2 4 (yo_push (0, 0, Int.ofNat 0) (yo_st 0 3 4 (ih 4))))),
  (4, fun ih => yo_ld 0 3 (yo_lda 0 (yo_gf yG 10 1 (yo_ic .ge (ih 35) (yo_ld 0 2 (yo_lda 0 (yo_gf yG 10 7 (yo_push (0, 0, Int.ofNat 18) (yo_ld 0 1 (yo_bin 0 0 (xg_i (· * ·) yg_mul) (yo_push (0, 0, Int.ofNat 10) (yo_bin 0 0 yg_add (yo_ld 0 3 (yo_bin 0 0 yg_add (yo_al yG none 0 (yo_bin 0 0 yg_add (yo_st 0 2 4 (yo_inc 3 4 (Int.ofNat 1) (ih 4))))))))))))))))))),
  (35, fun ih => yo_ld 0 2 (yo_ri 1))]
set_option maxRecDepth 100000 in
theorem yT189 : y_T yG none y_i0 y_c0 ev_r189.1 (fun _ => none) yt189 := (y_T_cons 4 rfl (y_T_cons 19 rfl (y_T_cons 2 rfl y_T_nil)))
def yct189_0 : yCt := ([(2, Int.ofNat 55, Int.ofNat 55, false), (0, Int.ofNat 1, Int.ofNat 1, false)], (some (0, Int.negSucc 2147483647, Int.ofNat 2147483647, false)), [])
set_option maxRecDepth 100000 in
theorem yd189_0 : y_drv yt189 (y_st [4]) none (y_po yct189_0) [0, 4] 100000 5000 [y_start 2 yct189_0] = true := by decide +kernel
theorem yc189_0 : y_Mca yG 189 yct189_0 := y_Mca_of (r := ev_r189) rfl (y_con (k := 2) (by decide) (fun hc0 _ => y_drv_ok (h0 := (yG, hc0)) y_i0_ok y_c0_ok yT189 (fun _ h1 h2 => y_po_ok h1 h2) yd189_0 _ (List.mem_singleton.mpr rfl)))
def yct189_1 : yCt := ([(2, Int.ofNat 55, Int.ofNat 55, false), (0, Int.ofNat 0, Int.ofNat 0, false)], (some (0, Int.negSucc 2147483647, Int.ofNat 2147483647, false)), [])
set_option maxRecDepth 100000 in
theorem yd189_1 : y_drv yt189 (y_st [4]) none (y_po yct189_1) [0, 4] 100000 5000 [y_start 2 yct189_1] = true := by decide +kernel
theorem yc189_1 : y_Mca yG 189 yct189_1 := y_Mca_of (r := ev_r189) rfl (y_con (k := 2) (by decide) (fun hc0 _ => y_drv_ok (h0 := (yG, hc0)) y_i0_ok y_c0_ok yT189 (fun _ h1 h2 => y_po_ok h1 h2) yd189_1 _ (List.mem_singleton.mpr rfl)))
noncomputable def ycs189 : List yCt := [yct189_0, yct189_1]
theorem yCs189 : ∀ ct ∈ ycs189, y_Mca yG 189 ct := (y_l1 yc189_0 (y_l1 yc189_1 y_l0))
/-- NameHallModel.days(I)I -/
noncomputable def yt190 : List (Nat × yB) := [(0, fun ih => yo_ld 0 1 (yo_un 0 xg_i2l (yo_push (1, 0, Int.ofNat 1) (yo_push (1, 0, Int.ofNat 30) (yo_cl yG ym15 0 3 6 0 0 0 0 (yo_if .ne (ih 15) (yo_push (0, 0, Int.negSucc 1) (yo_ri 1)))))))),
  (15, fun ih => yo_lda 0 (yo_cts yG ycs141 11 0 2 0 0 0 0 (yo_push (0, 0, Int.ofNat 0) (yo_st 0 2 5 (ih 21))))),
  (21, fun ih => yo_ld 0 2 (yo_ld 0 1 (yo_ic .ge (ih 149) (yo_lda 0 (yo_lda 0 (yo_gf yG 10 25 (yo_push (1, 0, Int.ofNat 6364136223846793005) (yo_bin 1 1 (xg_l (· * ·)) (yo_push (1, 0, Int.ofNat 1442695040888963407) (yo_bin 1 1 (xg_l (· + ·)) (yo_pf yG 10 25 1 (yo_lda 0 (yo_gf yG 10 25 (yo_push (0, 0, Int.ofNat 33) (yo_bin 1 0 yg_lushr (yo_push (1, 0, Int.ofNat 30) (yo_bin 1 1 yg_lrem (yo_un 1 xg_l2i (yo_st 0 3 5 (yo_ld 0 3 (yo_push (0, 0, Int.ofNat 5) (yo_dv 1 yg_rem (yo_st 0 4 5 (yo_lda 0 (yo_ld 0 4 (yo_cl yG ym61 11 1 2 0 0 0 0 (yo_if .eq (ih 88) (yo_ld 0 3 (yo_push (0, 0, Int.ofNat 5) (yo_dv 0 xg_div (yo_push (0, 0, Int.ofNat 5) (yo_ic .ne (ih 88) (yo_lda 0 (yo_push (0, 0, Int.ofNat 1) (yo_ld 0 4 (yo_push (0, 0, Int.negSucc 8) (yo_cts yG ycs79 11 3 4 0 0 0 0 (ih 137)))))))))))))))))))))))))))))))))))))),
  (88, fun ih => yo_lda 0 (yo_ld 0 4 (yo_cl yG ym61 11 1 2 0 0 0 0 (yo_if .eq (ih 137) (yo_ld 0 3 (yo_push (0, 0, Int.ofNat 5) (yo_dv 0 xg_div (yo_push (0, 0, Int.ofNat 4) (yo_ic .ge (ih 137) (yo_lda 0 (yo_ld 0 3 (yo_push (0, 0, Int.ofNat 5) (yo_dv 0 xg_div (yo_cl yG ym46 11 1 2 0 0 0 0 (yo_if .eq (ih 137) (yo_lda 0 (yo_push (0, 0, Int.ofNat 1) (yo_ld 0 4 (yo_ld 0 3 (yo_push (0, 0, Int.ofNat 5) (yo_dv 0 xg_div (yo_cts yG ycs77 11 3 5 0 0 0 0 (yo_if .eq (ih 137) (yo_lda 0 (yo_push (0, 0, Int.ofNat 1) (yo_ld 0 4 (yo_ld 0 3 (yo_push (0, 0, Int.ofNat 5) (yo_dv 0 xg_div (yo_cts yG ycs79 11 3 4 0 0 0 0 (ih 137))))))))))))))))))))))))))))))),
  (137, fun ih => yo_lda 0 (yo_push (0, 0, Int.ofNat 1) (yo_cts yG ycs91 11 1 6 0 0 0 0 (yo_pop (yo_inc 2 5 (Int.ofNat 1) (ih 21)))))),
  (149, fun ih => yo_lda 0 (yo_push (0, 0, Int.ofNat 1) (yo_cts yG ycs189 11 1 4 0 0 0 0 (yo_lda 0 (yo_push (0, 0, Int.ofNat 0) (yo_cts yG ycs189 11 1 4 0 0 0 0 (yo_bin 0 0 yg_sub (yo_ri 1))))))))]
set_option maxRecDepth 100000 in
theorem yT190 : y_T yG none (y_ic 15 ym15 (y_ic 61 ym61 (y_ic 46 ym46 y_i0))) (y_cc 141 ycs141 (y_cc 79 ycs79 (y_cc 77 ycs77 (y_cc 91 ycs91 (y_cc 189 ycs189 y_c0))))) ev_r190.1 (fun _ => none) yt190 := (y_T_cons 8 rfl (y_T_cons 4 rfl (y_T_cons 38 rfl (y_T_cons 30 rfl (y_T_cons 6 rfl (y_T_cons 8 rfl y_T_nil))))))
def yct190_0 : yCt := ([(2, Int.ofNat 55, Int.ofNat 55, false), (0, Int.negSucc 2147483647, Int.ofNat 2147483647, false)], (some (0, Int.negSucc 2147483647, Int.ofNat 2147483647, false)), [(55, 25, 25), (61, 18, 35)])
set_option maxRecDepth 100000 in
def zf190_0 : List yF := [(2, Int.ofNat 55, Int.ofNat 55, false), (0, Int.ofNat 1, Int.ofNat 30, false), (0, Int.ofNat 0, Int.ofNat 30, false)]
set_option maxRecDepth 100000 in
theorem zdA190_0 : z_drv 0 yt190 (y_st [21]) none (z_pA 21 zf190_0 yct190_0) [0, 21] 100000 5000 [y_start 3 yct190_0] = true := by decide +kernel
set_option maxRecDepth 100000 in
theorem zdB190_0 : z_drv 2 yt190 (y_st [21]) none (z_pB 21 zf190_0 yct190_0 2 1) [0, 21] 100000 5000 [(z_start 21 2 zf190_0 yct190_0.2.2)] = true := by decide +kernel
set_option maxRecDepth 100000 in
theorem yc190_0 : y_Mca yG 190 yct190_0 := y_Mca_of (r := ev_r190) rfl (z_loop (pad := 3) (hd := 21) (k := 2) (N := 30) (c := 2) (cs := 1) (pr := 2) (fs := zf190_0) (by decide +kernel) (by decide) (by decide) (by decide +kernel) (by decide) (by decide +kernel) (by decide +kernel)
  (fun hc0 _ σ hp => z_drv_ok (h0 := (yG, hc0)) (y_ic_ok (yM15 hc0) (y_ic_ok (yM61 hc0) (y_ic_ok (yM46 hc0) y_i0_ok))) (y_cc_ok yCs141 (y_cc_ok yCs79 (y_cc_ok yCs77 (y_cc_ok yCs91 (y_cc_ok yCs189 y_c0_ok))))) yT190 hp zdA190_0 _ (List.mem_singleton.mpr rfl))
  (fun hc0 _ σ hp => z_drv_ok (h0 := (yG, hc0)) (y_ic_ok (yM15 hc0) (y_ic_ok (yM61 hc0) (y_ic_ok (yM46 hc0) y_i0_ok))) (y_cc_ok yCs141 (y_cc_ok yCs79 (y_cc_ok yCs77 (y_cc_ok yCs91 (y_cc_ok yCs189 y_c0_ok))))) yT190 hp zdB190_0 _ (List.mem_singleton.mpr rfl)))
noncomputable def ycs190 : List yCt := [yct190_0]
theorem yCs190 : ∀ ct ∈ ycs190, y_Mca yG 190 ct := (y_l1 yc190_0 y_l0)
/-- NameHall$Slots.has(I)Z -/
noncomputable def yt191 : List (Nat × yB) := [(0, fun ih => yo_ld 0 1 (yo_if .lt (ih 13) (yo_ld 0 1 (yo_push (0, 0, Int.ofNat 2) (yo_ic .ge (ih 13) (yo_push (0, 0, Int.ofNat 1) (ih 14))))))),
  (13, fun ih => yo_push (0, 0, Int.ofNat 0) (ih 14)),
  (14, fun ih => yo_ri 2)]
set_option maxRecDepth 100000 in
theorem yT191 : y_T yG none y_i0 y_c0 ev_r191.1 (fun _ => none) yt191 := (y_T_cons 7 rfl (y_T_cons 1 rfl (y_T_cons 1 rfl y_T_nil)))
noncomputable def ym191 : List xv → yH → xE → yR := y_mth 0 yt191 100000
theorem yM191 (hc0 : ev_H) : y_Ma (yG, hc0) 191 ym191 := y_Ma_of (r := ev_r191) rfl (ys_mth (h0 := (yG, hc0)) y_i0_ok y_c0_ok yT191)
/-- NameHall$Slots.store(ILNameHall$Scene;)Z -/
noncomputable def yt192 : List (Nat × yB) := [(0, fun ih => yo_lda 0 (yo_ld 0 1 (yo_cl yG ym191 8 1 2 0 0 0 0 (yo_if .ne (ih 10) (yo_push (0, 0, Int.ofNat 0) (yo_ri 2)))))),
  (10, fun ih => yo_lda 2 (yo_lda 0 (yo_gf yG 7 0 (yo_ld 0 1 (yo_aa yG (yo_cts yG ycs69 7 1 2 0 0 0 0 (yo_lda 0 (yo_gf yG 7 1 (yo_ld 0 1 (yo_push (0, 0, Int.ofNat 1) (yo_as yG 2 (yo_push (0, 0, Int.ofNat 1) (yo_ri 2)))))))))))))]
set_option maxRecDepth 100000 in
theorem yT192 : y_T yG none (y_ic 191 ym191 y_i0) (y_cc 69 ycs69 y_c0) ev_r192.1 (fun _ => none) yt192 := (y_T_cons 6 rfl (y_T_cons 13 rfl y_T_nil))
noncomputable def ym192 : List xv → yH → xE → yR := y_mth 0 yt192 100000
theorem yM192 (hc0 : ev_H) : y_Ma (yG, hc0) 192 ym192 := y_Ma_of (r := ev_r192) rfl (ys_mth (h0 := (yG, hc0)) (y_ic_ok (yM191 hc0) y_i0_ok) (y_cc_ok yCs69 y_c0_ok) yT192)
/-- NameHall$Scene.hourNow()I -/
noncomputable def yt193 : List (Nat × yB) := [(0, fun ih => yo_lda 0 (yo_gf yG 6 6 (yo_ri 1)))]
set_option maxRecDepth 100000 in
theorem yT193 : y_T yG none y_i0 y_c0 ev_r193.1 (fun _ => none) yt193 := (y_T_cons 3 rfl y_T_nil)
def yct193_0 : yCt := ([(2, Int.ofNat 9, Int.ofNat 9, false)], (some (0, Int.negSucc 2147483647, Int.ofNat 2147483647, false)), [])
set_option maxRecDepth 100000 in
theorem yd193_0 : y_drv yt193 (y_st []) none (y_po yct193_0) [0] 100000 5000 [y_start 0 yct193_0] = true := by decide +kernel
theorem yc193_0 : y_Mca yG 193 yct193_0 := y_Mca_of (r := ev_r193) rfl (y_con (k := 0) (by decide) (fun hc0 _ => y_drv_ok (h0 := (yG, hc0)) y_i0_ok y_c0_ok yT193 (fun _ h1 h2 => y_po_ok h1 h2) yd193_0 _ (List.mem_singleton.mpr rfl)))
noncomputable def ycs193 : List yCt := [yct193_0]
theorem yCs193 : ∀ ct ∈ ycs193, y_Mca yG 193 ct := (y_l1 yc193_0 y_l0)
/-- NameHall.keep(I)I -/
noncomputable def yt194 : List (Nat × yB) := [(0, fun ih => yo_lda 0 (yo_gf yG 9 5 (yo_ld 0 1 (yo_lda 0 (yo_gf yG 9 2 (yo_cl yG ym192 8 2 3 0 0 0 0 (yo_if .eq (ih 25) (yo_lda 0 (yo_gf yG 9 2 (yo_cts yG ycs193 7 0 1 0 0 0 0 (ih 26))))))))))),
  (25, fun ih => yo_push (0, 0, Int.negSucc 0) (ih 26)),
  (26, fun ih => yo_ri 1)]
set_option maxRecDepth 100000 in
theorem yT194 : y_T yG none (y_ic 192 ym192 y_i0) (y_cc 193 ycs193 y_c0) ev_r194.1 (fun _ => none) yt194 := (y_T_cons 11 rfl (y_T_cons 1 rfl (y_T_cons 1 rfl y_T_nil)))
def yct194_0 : yCt := ([(2, Int.ofNat 0, Int.ofNat 0, false), (0, Int.negSucc 2147483647, Int.ofNat 2147483647, false)], (some (0, Int.negSucc 2147483647, Int.ofNat 2147483647, false)), [(35, 0, 17), (36, 0, 17), (37, 0, 1)])
set_option maxRecDepth 100000 in
theorem yd194_0 : y_drv yt194 (y_st []) none (y_po yct194_0) [0] 100000 5000 [y_start 0 yct194_0] = true := by decide +kernel
theorem yc194_0 : y_Mca yG 194 yct194_0 := y_Mca_of (r := ev_r194) rfl (y_con (k := 0) (by decide) (fun hc0 _ => y_drv_ok (h0 := (yG, hc0)) (y_ic_ok (yM192 hc0) y_i0_ok) (y_cc_ok yCs193 y_c0_ok) yT194 (fun _ h1 h2 => y_po_ok h1 h2) yd194_0 _ (List.mem_singleton.mpr rfl)))
noncomputable def ycs194 : List yCt := [yct194_0]
theorem yCs194 : ∀ ct ∈ ycs194, y_Mca yG 194 ct := (y_l1 yc194_0 y_l0)
/-- NameHallModel.keep(I)I -/
noncomputable def yt195 : List (Nat × yB) := [(0, fun ih => yo_ld 0 1 (yo_un 0 xg_i2l (yo_push (1, 0, Int.ofNat 0) (yo_push (1, 0, Int.ofNat 1) (yo_cl yG ym15 0 3 6 0 0 0 0 (yo_if .ne (ih 12) (yo_push (0, 0, Int.negSucc 0) (yo_ri 1)))))))),
  (12, fun ih => yo_lda 0 (yo_gf yG 10 26 (yo_ld 0 1 (yo_push (0, 0, Int.ofNat 1) (yo_as yG 2 (yo_push (0, 0, Int.ofNat 0) (yo_st 0 2 3 (ih 21)))))))),
  (21, fun ih => yo_ld 0 2 (yo_push (0, 0, Int.ofNat 18) (yo_ic .ge (ih 50) (yo_lda 0 (yo_gf yG 10 27 (yo_push (0, 0, Int.ofNat 18) (yo_ld 0 1 (yo_bin 0 0 (xg_i (· * ·) yg_mul) (yo_ld 0 2 (yo_bin 0 0 yg_add (yo_lda 0 (yo_gf yG 10 7 (yo_ld 0 2 (yo_al yG none 0 (yo_as yG 0 (yo_inc 2 3 (Int.ofNat 1) (ih 21))))))))))))))))),
  (50, fun ih => yo_lda 0 (yo_gf yG 10 7 (yo_push (0, 0, Int.ofNat 17) (yo_al yG none 0 (yo_ri 1)))))]
set_option maxRecDepth 100000 in
theorem yT195 : y_T yG none (y_ic 15 ym15 y_i0) y_c0 ev_r195.1 (fun _ => none) yt195 := (y_T_cons 8 rfl (y_T_cons 7 rfl (y_T_cons 17 rfl (y_T_cons 5 rfl y_T_nil))))
def yct195_0 : yCt := ([(2, Int.ofNat 55, Int.ofNat 55, false), (0, Int.negSucc 2147483647, Int.ofNat 2147483647, false)], (some (0, Int.negSucc 2147483647, Int.ofNat 2147483647, false)), [(70, 0, 1), (71, 0, 35)])
set_option maxRecDepth 100000 in
theorem yd195_0 : y_all (fun x1 => y_all (fun x2 => y_all (fun x3 => y_drv yt195 (y_st [21]) none (y_po yct195_0) [0, 21] 100000 5000 [x3]) (y_sct 0 (Int.ofNat 2) x2)) (y_sct 0 (Int.ofNat 1) x1)) (y_sct 0 (Int.ofNat 0) (y_start 1 yct195_0)) = true := by decide +kernel
theorem yc195_0 : y_Mca yG 195 yct195_0 := y_Mca_of (r := ev_r195) rfl (y_con (k := 1) (by decide) (fun hc0 _ => y_sct_ok (fun x1 m1 => have H1 := yd195_0; y_sct_ok (fun x2 m2 => have H2 := (y_all_ok H1 x1 m1); y_sct_ok (fun x3 m3 => have H3 := (y_all_ok H2 x2 m2); y_drv_ok (h0 := (yG, hc0)) (y_ic_ok (yM15 hc0) y_i0_ok) y_c0_ok yT195 (fun _ h1 h2 => y_po_ok h1 h2) (y_all_ok H3 x3 m3) _ (List.mem_singleton.mpr rfl))))))
noncomputable def ycs195 : List yCt := [yct195_0]
theorem yCs195 : ∀ ct ∈ ycs195, y_Mca yG 195 ct := (y_l1 yc195_0 y_l0)
/-- NameHall$Slots.load(ILNameHall$Scene;)Z -/
noncomputable def yt196 : List (Nat × yB) := [(0, fun ih => yo_lda 0 (yo_ld 0 1 (yo_cl yG ym191 8 1 2 0 0 0 0 (yo_if .eq (ih 17) (yo_lda 0 (yo_gf yG 7 1 (yo_ld 0 1 (yo_al yG none 2 (yo_if .ne (ih 19) (ih 17)))))))))),
  (17, fun ih => yo_push (0, 0, Int.ofNat 0) (yo_ri 2)),
  (19, fun ih => yo_lda 2 (yo_lda 0 (yo_gf yG 7 0 (yo_ld 0 1 (yo_aa yG (yo_cts yG ycs96 7 1 2 0 0 0 0 (yo_push (0, 0, Int.ofNat 1) (yo_ri 2))))))))]
set_option maxRecDepth 100000 in
theorem yT196 : y_T yG none (y_ic 191 ym191 y_i0) (y_cc 96 ycs96 y_c0) ev_r196.1 (fun _ => none) yt196 := (y_T_cons 9 rfl (y_T_cons 2 rfl (y_T_cons 8 rfl y_T_nil)))
noncomputable def ym196 : List xv → yH → xE → yR := y_mth 0 yt196 100000
theorem yM196 (hc0 : ev_H) : y_Ma (yG, hc0) 196 ym196 := y_Ma_of (r := ev_r196) rfl (ys_mth (h0 := (yG, hc0)) (y_ic_ok (yM191 hc0) y_i0_ok) (y_cc_ok yCs96 y_c0_ok) yT196)
/-- NameHall.again(I)I -/
noncomputable def yt197 : List (Nat × yB) := [(0, fun ih => yo_lda 0 (yo_gf yG 9 5 (yo_ld 0 1 (yo_cl yG ym191 8 1 2 0 0 0 0 (yo_if .ne (ih 13) (yo_push (0, 0, Int.negSucc 0) (yo_ri 1))))))),
  (13, fun ih => yo_lda 0 (yo_gf yG 9 5 (yo_ld 0 1 (yo_lda 0 (yo_gf yG 9 2 (yo_cl yG ym196 8 2 3 0 0 0 0 (yo_if .ne (ih 31) (yo_push (0, 0, Int.negSucc 2) (yo_ri 1))))))))),
  (31, fun ih => yo_lda 0 (yo_gf yG 9 4 (yo_cts yG ycs34 1 0 1 0 0 0 0 (yo_lda 0 (yo_gf yG 9 2 (yo_cts yG ycs193 7 0 1 0 0 0 0 (yo_ri 1)))))))]
set_option maxRecDepth 100000 in
theorem yT197 : y_T yG none (y_ic 191 ym191 (y_ic 196 ym196 y_i0)) (y_cc 34 ycs34 (y_cc 193 ycs193 y_c0)) ev_r197.1 (fun _ => none) yt197 := (y_T_cons 7 rfl (y_T_cons 9 rfl (y_T_cons 7 rfl y_T_nil)))
def yct197_0 : yCt := ([(2, Int.ofNat 0, Int.ofNat 0, false), (0, Int.negSucc 2147483647, Int.ofNat 2147483647, false)], (some (0, Int.negSucc 2147483647, Int.ofNat 2147483647, false)), [(9, 4, 6), (10, 0, 4), (11, 0, 4), (12, 0, 4), (17, 1, 2)])
set_option maxRecDepth 100000 in
theorem yd197_0 : y_drv yt197 (y_st []) none (y_po yct197_0) [0] 100000 5000 [y_start 0 yct197_0] = true := by decide +kernel
theorem yc197_0 : y_Mca yG 197 yct197_0 := y_Mca_of (r := ev_r197) rfl (y_con (k := 0) (by decide) (fun hc0 _ => y_drv_ok (h0 := (yG, hc0)) (y_ic_ok (yM191 hc0) (y_ic_ok (yM196 hc0) y_i0_ok)) (y_cc_ok yCs34 (y_cc_ok yCs193 y_c0_ok)) yT197 (fun _ h1 h2 => y_po_ok h1 h2) yd197_0 _ (List.mem_singleton.mpr rfl)))
noncomputable def ycs197 : List yCt := [yct197_0]
theorem yCs197 : ∀ ct ∈ ycs197, y_Mca yG 197 ct := (y_l1 yc197_0 y_l0)
/-- NameHallModel.again(I)I -/
noncomputable def yt198 : List (Nat × yB) := [(0, fun ih => yo_ld 0 1 (yo_un 0 xg_i2l (yo_push (1, 0, Int.ofNat 0) (yo_push (1, 0, Int.ofNat 1) (yo_cl yG ym15 0 3 6 0 0 0 0 (yo_if .ne (ih 12) (yo_push (0, 0, Int.negSucc 0) (yo_ri 1)))))))),
  (12, fun ih => yo_lda 0 (yo_gf yG 10 26 (yo_ld 0 1 (yo_al yG none 2 (yo_if .ne (ih 24) (yo_push (0, 0, Int.negSucc 2) (yo_ri 1))))))),
  (24, fun ih => yo_push (0, 0, Int.ofNat 0) (yo_st 0 2 3 (ih 26))),
  (26, fun ih => yo_ld 0 2 (yo_push (0, 0, Int.ofNat 18) (yo_ic .ge (ih 55) (yo_lda 0 (yo_gf yG 10 7 (yo_ld 0 2 (yo_lda 0 (yo_gf yG 10 27 (yo_push (0, 0, Int.ofNat 18) (yo_ld 0 1 (yo_bin 0 0 (xg_i (· * ·) yg_mul) (yo_ld 0 2 (yo_bin 0 0 yg_add (yo_al yG none 0 (yo_as yG 0 (yo_inc 2 3 (Int.ofNat 1) (ih 26))))))))))))))))),
  (55, fun ih => yo_lda 0 (yo_push (0, 0, Int.ofNat 0) (yo_pf yG 10 16 0 (yo_lda 0 (yo_gf yG 10 7 (yo_push (0, 0, Int.ofNat 17) (yo_al yG none 0 (yo_ri 1))))))))]
set_option maxRecDepth 100000 in
theorem yT198 : y_T yG none (y_ic 15 ym15 y_i0) y_c0 ev_r198.1 (fun _ => none) yt198 := (y_T_cons 8 rfl (y_T_cons 7 rfl (y_T_cons 2 rfl (y_T_cons 17 rfl (y_T_cons 8 rfl y_T_nil)))))
def yct198_0 : yCt := ([(2, Int.ofNat 55, Int.ofNat 55, false), (0, Int.negSucc 2147483647, Int.ofNat 2147483647, false)], (some (0, Int.negSucc 2147483647, Int.ofNat 2147483647, false)), [(55, 16, 16), (61, 0, 17)])
set_option maxRecDepth 100000 in
theorem yd198_0 : y_all (fun x1 => y_all (fun x2 => y_all (fun x3 => y_drv yt198 (y_st [26]) none (y_po yct198_0) [0, 26] 100000 5000 [x3]) (y_sct 0 (Int.ofNat 2) x2)) (y_sct 0 (Int.ofNat 1) x1)) (y_sct 0 (Int.ofNat 0) (y_start 1 yct198_0)) = true := by decide +kernel
theorem yc198_0 : y_Mca yG 198 yct198_0 := y_Mca_of (r := ev_r198) rfl (y_con (k := 1) (by decide) (fun hc0 _ => y_sct_ok (fun x1 m1 => have H1 := yd198_0; y_sct_ok (fun x2 m2 => have H2 := (y_all_ok H1 x1 m1); y_sct_ok (fun x3 m3 => have H3 := (y_all_ok H2 x2 m2); y_drv_ok (h0 := (yG, hc0)) (y_ic_ok (yM15 hc0) y_i0_ok) y_c0_ok yT198 (fun _ h1 h2 => y_po_ok h1 h2) (y_all_ok H3 x3 m3) _ (List.mem_singleton.mpr rfl))))))
noncomputable def ycs198 : List yCt := [yct198_0]
theorem yCs198 : ∀ ct ∈ ycs198, y_Mca yG 198 ct := (y_l1 yc198_0 y_l0)
/-- NameHall$Scene.allWaited()I -/
noncomputable def yt199 : List (Nat × yB) := [(0, fun ih => yo_push (0, 0, Int.ofNat 0) (yo_st 0 1 3 (yo_push (0, 0, Int.ofNat 0) (yo_st 0 2 3 (ih 4))))),
  (4, fun ih => yo_ld 0 2 (yo_push (0, 0, Int.ofNat 5) (yo_ic .ge (ih 24) (yo_ld 0 1 (yo_lda 0 (yo_gf yG 6 3 (yo_ld 0 2 (yo_al yG none 0 (yo_bin 0 0 yg_add (yo_st 0 1 3 (yo_inc 2 3 (Int.ofNat 1) (ih 4)))))))))))),
  (24, fun ih => yo_ld 0 1 (yo_ri 1))]
set_option maxRecDepth 100000 in
theorem yT199 : y_T yG none y_i0 y_c0 ev_r199.1 (fun _ => none) yt199 := (y_T_cons 4 rfl (y_T_cons 12 rfl (y_T_cons 2 rfl y_T_nil)))
def yct199_0 : yCt := ([(2, Int.ofNat 9, Int.ofNat 9, false)], (some (0, Int.negSucc 2147483647, Int.ofNat 2147483647, false)), [])
set_option maxRecDepth 100000 in
theorem yd199_0 : y_drv yt199 (y_st [4]) none (y_po yct199_0) [0, 4] 100000 5000 [y_start 2 yct199_0] = true := by decide +kernel
theorem yc199_0 : y_Mca yG 199 yct199_0 := y_Mca_of (r := ev_r199) rfl (y_con (k := 2) (by decide) (fun hc0 _ => y_drv_ok (h0 := (yG, hc0)) y_i0_ok y_c0_ok yT199 (fun _ h1 h2 => y_po_ok h1 h2) yd199_0 _ (List.mem_singleton.mpr rfl)))
noncomputable def ycs199 : List yCt := [yct199_0]
theorem yCs199 : ∀ ct ∈ ycs199, y_Mca yG 199 ct := (y_l1 yc199_0 y_l0)
/-- NameHall.count(I)I -/
noncomputable def yt200 : List (Nat × yB) := [(0, fun ih => yo_ld 0 1 (yo_sw (Int.ofNat 0) (Int.ofNat 8) 131 [52, 60, 68, 76, 84, 99, 107, 115, 123] ih)),
  (52, fun ih => yo_lda 0 (yo_gf yG 9 0 (yo_cts yG ycs13 9 0 1 0 0 0 0 (yo_ri 1)))),
  (60, fun ih => yo_lda 0 (yo_gf yG 9 1 (yo_cts yG ycs36 5 0 1 0 0 0 0 (yo_ri 1)))),
  (68, fun ih => yo_lda 0 (yo_gf yG 9 1 (yo_cts yG ycs37 5 0 1 0 0 0 0 (yo_ri 1)))),
  (76, fun ih => yo_lda 0 (yo_gf yG 9 2 (yo_cts yG ycs193 7 0 1 0 0 0 0 (yo_ri 1)))),
  (84, fun ih => yo_lda 0 (yo_gf yG 9 2 (yo_lda 0 (yo_gf yG 9 2 (yo_cts yG ycs193 7 0 1 0 0 0 0 (yo_cts yG ycs86 7 1 4 0 0 0 0 (yo_ri 1))))))),
  (99, fun ih => yo_lda 0 (yo_gf yG 9 2 (yo_cts yG ycs57 7 0 5 0 0 0 0 (yo_ri 1)))),
  (107, fun ih => yo_lda 0 (yo_gf yG 9 2 (yo_cts yG ycs199 7 0 3 0 0 0 0 (yo_ri 1)))),
  (115, fun ih => yo_lda 0 (yo_gf yG 9 4 (yo_cts yG ycs98 1 0 1 0 0 0 0 (yo_ri 1)))),
  (123, fun ih => yo_lda 0 (yo_gf yG 9 6 (yo_cts yG ycs146 3 0 1 0 0 0 0 (yo_ri 1)))),
  (131, fun ih => yo_push (0, 0, Int.negSucc 1) (yo_ri 1))]
set_option maxRecDepth 100000 in
theorem yT200 : y_T yG none y_i0 (y_cc 13 ycs13 (y_cc 36 ycs36 (y_cc 37 ycs37 (y_cc 193 ycs193 (y_cc 86 ycs86 (y_cc 57 ycs57 (y_cc 199 ycs199 (y_cc 98 ycs98 (y_cc 146 ycs146 y_c0))))))))) ev_r200.1 (fun _ => none) yt200 := (y_T_cons 2 rfl (y_T_cons 4 rfl (y_T_cons 4 rfl (y_T_cons 4 rfl (y_T_cons 4 rfl (y_T_cons 7 rfl (y_T_cons 4 rfl (y_T_cons 4 rfl (y_T_cons 4 rfl (y_T_cons 4 rfl (y_T_cons 2 rfl y_T_nil)))))))))))
def yct200_0 : yCt := ([(2, Int.ofNat 0, Int.ofNat 0, false), (0, Int.negSucc 2147483647, Int.ofNat 2147483647, false)], (some (0, Int.negSucc 2147483647, Int.ofNat 2147483647, false)), [])
set_option maxRecDepth 100000 in
theorem yd200_0 : y_drv yt200 (y_st []) none (y_po yct200_0) [0] 100000 5000 [y_start 0 yct200_0] = true := by decide +kernel
theorem yc200_0 : y_Mca yG 200 yct200_0 := y_Mca_of (r := ev_r200) rfl (y_con (k := 0) (by decide) (fun hc0 _ => y_drv_ok (h0 := (yG, hc0)) y_i0_ok (y_cc_ok yCs13 (y_cc_ok yCs36 (y_cc_ok yCs37 (y_cc_ok yCs193 (y_cc_ok yCs86 (y_cc_ok yCs57 (y_cc_ok yCs199 (y_cc_ok yCs98 (y_cc_ok yCs146 y_c0_ok))))))))) yT200 (fun _ h1 h2 => y_po_ok h1 h2) yd200_0 _ (List.mem_singleton.mpr rfl)))
noncomputable def ycs200 : List yCt := [yct200_0]
theorem yCs200 : ∀ ct ∈ ycs200, y_Mca yG 200 ct := (y_l1 yc200_0 y_l0)
/-- NameHallModel.count(I)I -/
noncomputable def yt201 : List (Nat × yB) := [(0, fun ih => yo_push (0, 0, Int.ofNat 0) (yo_st 0 2 5 (yo_push (0, 0, Int.ofNat 0) (yo_st 0 3 5 (yo_push (0, 0, Int.ofNat 0) (yo_st 0 4 5 (ih 7))))))),
  (7, fun ih => yo_ld 0 4 (yo_lda 0 (yo_gf yG 10 1 (yo_ic .ge (ih 71) (yo_ld 0 2 (yo_lda 0 (yo_push (0, 0, Int.ofNat 0) (yo_ld 0 4 (yo_lda 0 (yo_gf yG 10 7 (yo_push (0, 0, Int.ofNat 17) (yo_al yG none 0 (yo_cts yG ycs90 11 3 4 0 0 0 0 (yo_if .eq (ih 41) (yo_push (0, 0, Int.ofNat 1) (yo_ld 0 4 (yo_bin 0 0 (xg_i x_ishl (yg_en x_ishl)) (ih 42)))))))))))))))))),
  (41, fun ih => yo_push (0, 0, Int.ofNat 0) (ih 42)),
  (42, fun ih => yo_bin 0 0 (xg_i (· ||| ·) yg_bit) (yo_st 0 2 5 (yo_ld 0 3 (yo_lda 0 (yo_push (0, 0, Int.ofNat 0) (yo_ld 0 4 (yo_cts yG ycs62 11 2 6 0 0 0 0 (yo_if .eq (ih 62) (yo_push (0, 0, Int.ofNat 1) (yo_ld 0 4 (yo_bin 0 0 (xg_i x_ishl (yg_en x_ishl)) (ih 63)))))))))))),
  (62, fun ih => yo_push (0, 0, Int.ofNat 0) (ih 63)),
  (63, fun ih => yo_bin 0 0 (xg_i (· ||| ·) yg_bit) (yo_st 0 3 5 (yo_inc 4 5 (Int.ofNat 1) (ih 7)))),
  (71, fun ih => yo_ld 0 1 (yo_sw (Int.ofNat 0) (Int.ofNat 8) 167 [124, 129, 134, 139, 147, 149, 151, 157, 162] ih)),
  (124, fun ih => yo_lda 0 (yo_gf yG 10 13 (yo_ri 1))),
  (129, fun ih => yo_lda 0 (yo_gf yG 10 0 (yo_ri 1))),
  (134, fun ih => yo_lda 0 (yo_gf yG 10 1 (yo_ri 1))),
  (139, fun ih => yo_lda 0 (yo_gf yG 10 7 (yo_push (0, 0, Int.ofNat 17) (yo_al yG none 0 (yo_ri 1))))),
  (147, fun ih => yo_ld 0 2 (yo_ri 1)),
  (149, fun ih => yo_ld 0 3 (yo_ri 1)),
  (151, fun ih => yo_lda 0 (yo_push (0, 0, Int.ofNat 0) (yo_cts yG ycs189 11 1 4 0 0 0 0 (yo_ri 1)))),
  (157, fun ih => yo_lda 0 (yo_gf yG 10 16 (yo_ri 1))),
  (162, fun ih => yo_lda 0 (yo_gf yG 10 21 (yo_ri 1))),
  (167, fun ih => yo_push (0, 0, Int.negSucc 1) (yo_ri 1))]
set_option maxRecDepth 100000 in
theorem yT201 : y_T yG none y_i0 (y_cc 90 ycs90 (y_cc 62 ycs62 (y_cc 189 ycs189 y_c0))) ev_r201.1 (fun _ => none) yt201 := (y_T_cons 6 rfl (y_T_cons 18 rfl (y_T_cons 1 rfl (y_T_cons 12 rfl (y_T_cons 1 rfl (y_T_cons 4 rfl (y_T_cons 2 rfl (y_T_cons 3 rfl (y_T_cons 3 rfl (y_T_cons 3 rfl (y_T_cons 5 rfl (y_T_cons 2 rfl (y_T_cons 2 rfl (y_T_cons 4 rfl (y_T_cons 3 rfl (y_T_cons 3 rfl (y_T_cons 2 rfl y_T_nil)))))))))))))))))
def yct201_0 : yCt := ([(2, Int.ofNat 55, Int.ofNat 55, false), (0, Int.negSucc 2147483647, Int.ofNat 2147483647, false)], (some (0, Int.negSucc 2147483647, Int.ofNat 2147483647, false)), [])
set_option maxRecDepth 100000 in
theorem yd201_0 : y_drv yt201 (y_st [7]) none (y_po yct201_0) [0, 7] 100000 5000 [y_start 3 yct201_0] = true := by decide +kernel
theorem yc201_0 : y_Mca yG 201 yct201_0 := y_Mca_of (r := ev_r201) rfl (y_con (k := 3) (by decide) (fun hc0 _ => y_drv_ok (h0 := (yG, hc0)) y_i0_ok (y_cc_ok yCs90 (y_cc_ok yCs62 (y_cc_ok yCs189 y_c0_ok))) yT201 (fun _ h1 h2 => y_po_ok h1 h2) yd201_0 _ (List.mem_singleton.mpr rfl)))
noncomputable def ycs201 : List yCt := [yct201_0]
theorem yCs201 : ∀ ct ∈ ycs201, y_Mca yG 201 ct := (y_l1 yc201_0 y_l0)
