/-! the calls -/
section TSW
variable {sc : Option (List Int32)} {rt ini mx na rc fr lo mc ms : Nat} {t : ev_T} {pc : Nat} {Lc : ev_L} {stc : List Value} {hc : ev_H} {kc ks : Nat} {Q : Option Value → ev_H → Prop}
variable {pp0 a b pp : Nat} {v : Value}
theorem m_tsd {d lo9 hi9 : Int} {offs : Array Int} {x : Int} {pc' : Nat} (hf : ev_f t pc = some (pp0, .tableswitch d lo9 hi9 offs, a, b, pp, v)) (hx : -2147483648 ≤ x ∧ x ≤ 2147483647) (h : x < lo9 ∨ hi9 < x) (hd : (pc : Int) + d = Int.ofNat pc') (h9 : x_W sc (rt, ini, mx, na, rc, fr, lo, mc, ms, t) pc' Lc stc hc kc ks Q) : x_W sc (rt, ini, mx, na, rc, fr, lo, mc, ms, t) pc Lc (fi x :: stc) hc kc ks Q :=
  x_W_j hf (st' := stc) (pc' := pc') (by
    show (if (Int32.ofInt x).toInt < lo9 ∨ hi9 < (Int32.ofInt x).toInt then match (pc : Int) + d with
        | .ofNat t => some (t, stc)
        | .negSucc _ => none
      else match offs.toList[((Int32.ofInt x).toInt - lo9).toNat]? with
        | some o => match (pc : Int) + o with
          | .ofNat t => some (t, stc)
          | .negSucc _ => none
        | none => none) = _
    rw [x_i32 hx.1 hx.2, if_pos h, hd]) h9
end TSW
theorem reC_c {m : Nat → Nat → Int} (a1 : 0 ≤ m 17 1 ∧ m 17 1 ≤ 13) (a2 : 0 ≤ m 17 2 ∧ m 17 2 ≤ 14) {q i : Nat} (h : q < 17 ∨ 32 < q) : reC m q i = m q i := by
  unfold reC
  split
  · rw [up_nc (by omega), sav_ne (by omega)]
  · rw [up_nc (by omega), sav_ne (by omega)]
theorem kaM_c {m : Nat → Nat → Int} {q i : Nat} (h1 : q ≠ 65) (h2 : q ≠ 55 ∨ (i ≠ 16 ∧ i ≠ 17)) : kaM m q i = m q i := by
  unfold kaM
  split
  · rw [up_ne (by omega), up_ne (by omega), lay_ne h1]
  · rw [up_ne (by omega), up_ne (by omega), lay_ne h1]
def agC (m : Nat → Nat → Int) (x : Int) : Nat → Nat → Int := up (up (loC m x) 17 1 0) 17 2 0
def nmC (m : Nat → Nat → Int) (x k : Int) : Int := if 0 ≤ x ∧ x < m 3 5 then (if k = 0 then kd m x else if k = 1 then wo m x else if k = 2 then wr m 10 x else if k = 3 then (if (0 ≤ x ∧ x < m 3 5) ∧ iA (iR (m 9 4) (x)) (1) = 1 then 1 else 0) else -2) else -1
theorem t45 {m : Nat → Nat → Int} (hn : 0 ≤ m 3 5 ∧ m 3 5 ≤ 4) {x : Int} (rx : -2147483648 ≤ x ∧ x ≤ 2147483647) {k : Int} (rk : -2147483648 ≤ k ∧ k ≤ 2147483647) : h_M 45 [.ref 0, fi (x), fi (k)] m (some (fi (nmC m x k))) m := h_M_of (R := ev_r45) rfl (fun hc hw hm => by
  have hL : f_L (lv_args 0 [.ref 0, fi (x), fi (k)]) [(0, .ref 0), (1, fi (x)), (2, fi (k))] := f_L_of rfl
  generalize lv_args 0 [.ref 0, fi (x), fi (k)] = L at hL
  show x_W none (1, 0, 3, 2, 10, 2, 42, 0, 0, ev_t45) 0 L [] hc 0 0 _
  have hR := gi_R hm
  refine f_aln 0 rfl hL rfl ?_
  refine m_gfr so0 rfl hw rfl (by decide) ?_
  refine f_iln 1 rfl hL rfl ?_
  refine m_k1 (t40 hn.2 rx) hw hm rfl rfl rfl (m_ar so3 hw rfl) rfl (fun hc1 hw1 hm1 => ?_)
  refine f_if rfl (bI_r _) (fun c1 => ?_) (fun c1 => ?_)
  · have c1 : ¬ (bI (decide (0 ≤ x ∧ x < m 3 5)) : Int) = (0 : Int) := c1
    have c1 : 0 ≤ x ∧ x < m 3 5 := bI_t c1
    refine f_iln 2 rfl hL rfl ?_
    have hts : k = 0 ∨ k = 1 ∨ k = 2 ∨ k = 3 ∨ (k < 0 ∨ 3 < k) := by omega
    rcases hts with hk | hk | hk | hk | hk
    · refine x_W_j (pc' := 44) (st' := []) rfl (by rw [hk]; rfl) ?_
      refine f_aln 0 rfl hL rfl ?_
      refine m_gfr so0 rfl hw1 rfl (by decide) ?_
      refine f_iln 1 rfl hL rfl ?_
      refine m_k1 (t41 hn rx) hw1 hm1 rfl rfl rfl (m_ar so3 hw1 rfl) rfl (fun hc2 hw2 hm2 => ?_)
      exact f_ret1 rfl ⟨by unfold nmC; rw [if_pos c1, if_pos hk], hw2, hm2⟩
    · refine x_W_j (pc' := 53) (st' := []) rfl (by rw [hk]; rfl) ?_
      refine f_aln 0 rfl hL rfl ?_
      refine m_gfr so0 rfl hw1 rfl (by decide) ?_
      refine f_iln 1 rfl hL rfl ?_
      refine m_k1 (t42 hn rx) hw1 hm1 rfl rfl rfl (m_ar so3 hw1 rfl) rfl (fun hc3 hw3 hm3 => ?_)
      exact f_ret1 rfl ⟨by unfold nmC; rw [if_pos c1, if_neg (by omega), if_pos hk], hw3, hm3⟩
    · refine x_W_j (pc' := 62) (st' := []) rfl (by rw [hk]; rfl) ?_
      refine f_aln 0 rfl hL rfl ?_
      refine m_gfr so0 rfl hw1 rfl (by decide) ?_
      refine f_iln 1 rfl hL rfl ?_
      refine m_k1 (t43_9 rx) hw1 hm1 rfl rfl rfl (m_ar so9 hw1 rfl) rfl (fun hc4 hw4 hm4 => ?_)
      exact f_ret1 rfl ⟨by unfold nmC; rw [if_pos c1, if_neg (by omega), if_neg (by omega), if_pos hk], hw4, hm4⟩
    · refine x_W_j (pc' := 71) (st' := []) rfl (by rw [hk]; rfl) ?_
      refine f_aln 0 rfl hL rfl ?_
      refine m_gfr so0 rfl hw1 rfl (by decide) ?_
      refine f_iln 1 rfl hL rfl ?_
      refine m_k1 (t44_9 hn rx) hw1 hm1 rfl rfl rfl (m_ar so9 hw1 rfl) rfl (fun hc5 hw5 hm5 => ?_)
      refine f_if rfl (bI_r _) (fun c3 => ?_) (fun c3 => ?_)
      · have c3 : (bI (decide ((0 ≤ x ∧ x < m 3 5) ∧ iA (iR (m 9 4) (x)) (1) = 1)) : Int) = (0 : Int) := c3
        have c3 : ¬ ((0 ≤ x ∧ x < m 3 5) ∧ iA (iR (m 9 4) (x)) (1) = 1) := bI_f c3
        refine f_s [fi (0)] rfl rfl ?_
        exact f_ret1 rfl ⟨by unfold nmC; rw [if_pos c1, if_neg (by omega), if_neg (by omega), if_neg (by omega), if_pos hk, if_neg c3], hw5, hm5⟩
      · have c3 : ¬ ((bI (decide ((0 ≤ x ∧ x < m 3 5) ∧ iA (iR (m 9 4) (x)) (1) = 1)) : Int) = (0 : Int)) := c3
        have c3 : (0 ≤ x ∧ x < m 3 5) ∧ iA (iR (m 9 4) (x)) (1) = 1 := bI_t c3
        refine f_s [fi (1)] rfl rfl ?_
        refine f_goto rfl ?_
        exact f_ret1 rfl ⟨by unfold nmC; rw [if_pos c1, if_neg (by omega), if_neg (by omega), if_neg (by omega), if_pos hk, if_pos c3], hw5, hm5⟩
    · refine m_tsd (pc' := 88) rfl rk hk rfl ?_
      refine f_bipush (n := -2) rfl (by decide) ?_
      exact f_ret1 rfl ⟨by unfold nmC; rw [if_pos c1, if_neg (by omega), if_neg (by omega), if_neg (by omega), if_neg (by omega)], hw1, hm1⟩
  · have c1 : ¬ (¬ (bI (decide (0 ≤ x ∧ x < m 3 5)) : Int) = (0 : Int)) := c1
    have c1 : ¬ (0 ≤ x ∧ x < m 3 5) := bI_n c1
    refine f_s [fi (-1)] rfl rfl ?_
    exact f_ret1 rfl ⟨by unfold nmC; rw [if_neg c1], hw1, hm1⟩)
def nmM (m : Nat → Nat → Int) (x k : Int) : Int := if 0 ≤ x ∧ x < m 55 0 then (if k = 0 then m 56 x.toNat else if k = 1 then m 57 x.toNat else if k = 2 then dw0 m x else if k = 3 then iA (iR (m 61 15) (x)) (1) else -2) else -1
theorem t48 {m : Nat → Nat → Int} (hn : 0 ≤ m 55 0 ∧ m 55 0 ≤ 4) (hp : 0 ≤ m 55 1 ∧ m 55 1 ≤ 5) {x : Int} (rx : -2147483648 ≤ x ∧ x ≤ 2147483647) {k : Int} (rk : -2147483648 ≤ k ∧ k ≤ 2147483647) : h_M 48 [.ref 55, fi (x), fi (k)] m (some (fi (nmM m x k))) m := h_M_of (R := ev_r48) rfl (fun hc hw hm => by
  have hL : f_L (lv_args 0 [.ref 55, fi (x), fi (k)]) [(0, .ref 55), (1, fi (x)), (2, fi (k))] := f_L_of rfl
  generalize lv_args 0 [.ref 55, fi (x), fi (k)] = L at hL
  show x_W none (1, 0, 3, 2, 11, 2, 46, 0, 0, ev_t48) 0 L [] hc 0 0 _
  have hR := gi_R hm
  refine f_aln 0 rfl hL rfl ?_
  refine f_iln 1 rfl hL rfl ?_
  refine m_k1 (t46 hn.1 hn.2 rx) hw hm rfl rfl rfl (m_ar so55 hw rfl) rfl (fun hc1 hw1 hm1 => ?_)
  refine f_if rfl (bI_r _) (fun c1 => ?_) (fun c1 => ?_)
  · have c1 : ¬ (bI (decide (0 ≤ x ∧ x < m 55 0)) : Int) = (0 : Int) := c1
    have c1 : 0 ≤ x ∧ x < m 55 0 := bI_t c1
    refine f_iln 2 rfl hL rfl ?_
    have hts : k = 0 ∨ k = 1 ∨ k = 2 ∨ k = 3 ∨ (k < 0 ∨ 3 < k) := by omega
    rcases hts with hk | hk | hk | hk | hk
    · refine x_W_j (pc' := 40) (st' := []) rfl (by rw [hk]; rfl) ?_
      refine f_aln 0 rfl hL rfl ?_
      refine m_gfr so55 rfl hw1 rfl (by decide) ?_
      refine f_iln 1 rfl hL rfl ?_
      refine m_ia sa56 (m 56 (x).toNat) rfl hw1 hm1 (by omega) (by omega) (by decide) rfl ?_
      exact f_ret1 rfl ⟨by unfold nmM; rw [if_pos c1, if_pos hk], hw1, hm1⟩
    · refine x_W_j (pc' := 47) (st' := []) rfl (by rw [hk]; rfl) ?_
      refine f_aln 0 rfl hL rfl ?_
      refine m_gfr so55 rfl hw1 rfl (by decide) ?_
      refine f_iln 1 rfl hL rfl ?_
      refine m_ia sa57 (m 57 (x).toNat) rfl hw1 hm1 (by omega) (by omega) (by decide) rfl ?_
      exact f_ret1 rfl ⟨by unfold nmM; rw [if_pos c1, if_neg (by omega), if_pos hk], hw1, hm1⟩
    · refine x_W_j (pc' := 54) (st' := []) rfl (by rw [hk]; rfl) ?_
      refine f_aln 0 rfl hL rfl ?_
      refine f_s [fi (0), .ref 55] rfl rfl ?_
      refine f_iln 1 rfl hL rfl ?_
      refine m_k1 (t47_0 hp rx) hw1 hm1 rfl rfl rfl (m_ar so55 hw1 rfl) rfl (fun hc2 hw2 hm2 => ?_)
      exact f_ret1 rfl ⟨by unfold nmM; rw [if_pos c1, if_neg (by omega), if_neg (by omega), if_pos hk], hw2, hm2⟩
    · refine x_W_j (pc' := 61) (st' := []) rfl (by rw [hk]; rfl) ?_
      refine f_aln 0 rfl hL rfl ?_
      refine m_gfr so55 rfl hw1 rfl (by decide) ?_
      refine f_bipush (n := 15) rfl (by decide) ?_
      refine m_ia sa61 (m 61 15) rfl hw1 hm1 (by omega) (by omega) (by decide) rfl ?_
      refine f_iln 1 rfl hL rfl ?_
      refine b_ishr rfl ?_
      refine f_s [fi (1), fi (iR (m 61 15) (x))] rfl rfl ?_
      refine b_iand rfl ?_
      exact f_ret1 rfl ⟨by unfold nmM; rw [if_pos c1, if_neg (by omega), if_neg (by omega), if_neg (by omega), if_pos hk], hw1, hm1⟩
    · refine m_tsd (pc' := 73) rfl rk hk rfl ?_
      refine f_bipush (n := -2) rfl (by decide) ?_
      exact f_ret1 rfl ⟨by unfold nmM; rw [if_pos c1, if_neg (by omega), if_neg (by omega), if_neg (by omega), if_neg (by omega)], hw1, hm1⟩
  · have c1 : ¬ (¬ (bI (decide (0 ≤ x ∧ x < m 55 0)) : Int) = (0 : Int)) := c1
    have c1 : ¬ (0 ≤ x ∧ x < m 55 0) := bI_n c1
    refine f_s [fi (-1)] rfl rfl ?_
    exact f_ret1 rfl ⟨by unfold nmM; rw [if_neg c1], hw1, hm1⟩)
def psC (m : Nat → Nat → Int) (x k : Int) : Int := if 0 ≤ x ∧ x < m 3 6 then (if k = 0 then aH m 6 x else if k = 1 then aH m 7 x else if k = 2 then ft m x else if k = 3 then nO m 10 x else if k = 4 then aH m 11 x else if k = 5 then aH m 12 x else if k = 6 then (if (0 ≤ x ∧ x < m 3 6) ∧ iA (iR (sbS m 10) (x)) (1) = 1 then 1 else 0) else if k = 7 then (if (0 ≤ x ∧ x < m 3 6) ∧ iA (iR (m 9 5) (x)) (1) = 1 then 1 else 0) else -2) else -1
theorem t60 {m : Nat → Nat → Int} (hn : 0 ≤ m 3 5 ∧ m 3 5 ≤ 4) (hp : 0 ≤ m 3 6 ∧ m 3 6 ≤ 5) {x : Int} (rx : -2147483648 ≤ x ∧ x ≤ 2147483647) {k : Int} (rk : -2147483648 ≤ k ∧ k ≤ 2147483647) : h_M 60 [.ref 0, fi (x), fi (k)] m (some (fi (psC m x k))) m := h_M_of (R := ev_r60) rfl (fun hc hw hm => by
  have hL : f_L (lv_args 0 [.ref 0, fi (x), fi (k)]) [(0, .ref 0), (1, fi (x)), (2, fi (k))] := f_L_of rfl
  generalize lv_args 0 [.ref 0, fi (x), fi (k)] = L at hL
  show x_W none (1, 0, 3, 2, 10, 5, 110, 0, 0, ev_t60) 0 L [] hc 0 0 _
  have hR := gi_R hm
  refine f_aln 0 rfl hL rfl ?_
  refine m_gfr so0 rfl hw rfl (by decide) ?_
  refine f_iln 1 rfl hL rfl ?_
  refine m_k1 (t49 hp.2 rx) hw hm rfl rfl rfl (m_ar so3 hw rfl) rfl (fun hc1 hw1 hm1 => ?_)
  refine f_if rfl (bI_r _) (fun c1 => ?_) (fun c1 => ?_)
  · have c1 : ¬ (bI (decide (0 ≤ x ∧ x < m 3 6)) : Int) = (0 : Int) := c1
    have c1 : 0 ≤ x ∧ x < m 3 6 := bI_t c1
    refine f_iln 2 rfl hL rfl ?_
    have hts : k = 0 ∨ k = 1 ∨ k = 2 ∨ k = 3 ∨ k = 4 ∨ k = 5 ∨ k = 6 ∨ k = 7 ∨ (k < 0 ∨ 7 < k) := by omega
    rcases hts with hk | hk | hk | hk | hk | hk | hk | hk | hk
    · refine x_W_j (pc' := 60) (st' := []) rfl (by rw [hk]; rfl) ?_
      refine f_aln 0 rfl hL rfl ?_
      refine m_gfr so0 rfl hw1 rfl (by decide) ?_
      refine f_iln 1 rfl hL rfl ?_
      refine m_k1 (t50 hp rx) hw1 hm1 rfl rfl rfl (m_ar so3 hw1 rfl) rfl (fun hc2 hw2 hm2 => ?_)
      exact f_ret1 rfl ⟨by unfold psC; rw [if_pos c1, if_pos hk], hw2, hm2⟩
    · refine x_W_j (pc' := 69) (st' := []) rfl (by rw [hk]; rfl) ?_
      refine f_aln 0 rfl hL rfl ?_
      refine m_gfr so0 rfl hw1 rfl (by decide) ?_
      refine f_iln 1 rfl hL rfl ?_
      refine m_k1 (t51 hp rx) hw1 hm1 rfl rfl rfl (m_ar so3 hw1 rfl) rfl (fun hc3 hw3 hm3 => ?_)
      exact f_ret1 rfl ⟨by unfold psC; rw [if_pos c1, if_neg (by omega), if_pos hk], hw3, hm3⟩
    · refine x_W_j (pc' := 78) (st' := []) rfl (by rw [hk]; rfl) ?_
      refine f_aln 0 rfl hL rfl ?_
      refine m_gfr so0 rfl hw1 rfl (by decide) ?_
      refine f_iln 1 rfl hL rfl ?_
      refine m_k1 (t52 hp rx) hw1 hm1 rfl rfl rfl (m_ar so3 hw1 rfl) rfl (fun hc4 hw4 hm4 => ?_)
      exact f_ret1 rfl ⟨by unfold psC; rw [if_pos c1, if_neg (by omega), if_neg (by omega), if_pos hk], hw4, hm4⟩
    · refine x_W_j (pc' := 87) (st' := []) rfl (by rw [hk]; rfl) ?_
      refine f_aln 0 rfl hL rfl ?_
      refine m_gfr so0 rfl hw1 rfl (by decide) ?_
      refine f_iln 1 rfl hL rfl ?_
      refine m_k1 (t53_9 hp rx) hw1 hm1 rfl rfl rfl (m_ar so9 hw1 rfl) rfl (fun hc5 hw5 hm5 => ?_)
      exact f_ret1 rfl ⟨by unfold psC; rw [if_pos c1, if_neg (by omega), if_neg (by omega), if_neg (by omega), if_pos hk], hw5, hm5⟩
    · refine x_W_j (pc' := 96) (st' := []) rfl (by rw [hk]; rfl) ?_
      refine f_aln 0 rfl hL rfl ?_
      refine m_gfr so0 rfl hw1 rfl (by decide) ?_
      refine f_iln 1 rfl hL rfl ?_
      refine m_k1 (t54_9 hp rx) hw1 hm1 rfl rfl rfl (m_ar so9 hw1 rfl) rfl (fun hc6 hw6 hm6 => ?_)
      exact f_ret1 rfl ⟨by unfold psC; rw [if_pos c1, if_neg (by omega), if_neg (by omega), if_neg (by omega), if_neg (by omega), if_pos hk], hw6, hm6⟩
    · refine x_W_j (pc' := 105) (st' := []) rfl (by rw [hk]; rfl) ?_
      refine f_aln 0 rfl hL rfl ?_
      refine m_gfr so0 rfl hw1 rfl (by decide) ?_
      refine f_iln 1 rfl hL rfl ?_
      refine m_k1 (t55_9 hp rx) hw1 hm1 rfl rfl rfl (m_ar so9 hw1 rfl) rfl (fun hc7 hw7 hm7 => ?_)
      exact f_ret1 rfl ⟨by unfold psC; rw [if_pos c1, if_neg (by omega), if_neg (by omega), if_neg (by omega), if_neg (by omega), if_neg (by omega), if_pos hk], hw7, hm7⟩
    · refine x_W_j (pc' := 114) (st' := []) rfl (by rw [hk]; rfl) ?_
      refine f_aln 0 rfl hL rfl ?_
      refine m_gfr so0 rfl hw1 rfl (by decide) ?_
      refine f_iln 1 rfl hL rfl ?_
      refine m_k1 (t58_9 hn hp rx) hw1 hm1 rfl rfl rfl (m_ar so9 hw1 rfl) rfl (fun hc8 hw8 hm8 => ?_)
      refine f_if rfl (bI_r _) (fun c3 => ?_) (fun c3 => ?_)
      · have c3 : (bI (decide ((0 ≤ x ∧ x < m 3 6) ∧ iA (iR (sbS m 10) (x)) (1) = 1)) : Int) = (0 : Int) := c3
        have c3 : ¬ ((0 ≤ x ∧ x < m 3 6) ∧ iA (iR (sbS m 10) (x)) (1) = 1) := bI_f c3
        refine f_s [fi (0)] rfl rfl ?_
        exact f_ret1 rfl ⟨by unfold psC; rw [if_pos c1, if_neg (by omega), if_neg (by omega), if_neg (by omega), if_neg (by omega), if_neg (by omega), if_neg (by omega), if_pos hk, if_neg c3], hw8, hm8⟩
      · have c3 : ¬ ((bI (decide ((0 ≤ x ∧ x < m 3 6) ∧ iA (iR (sbS m 10) (x)) (1) = 1)) : Int) = (0 : Int)) := c3
        have c3 : (0 ≤ x ∧ x < m 3 6) ∧ iA (iR (sbS m 10) (x)) (1) = 1 := bI_t c3
        refine f_s [fi (1)] rfl rfl ?_
        refine f_goto rfl ?_
        exact f_ret1 rfl ⟨by unfold psC; rw [if_pos c1, if_neg (by omega), if_neg (by omega), if_neg (by omega), if_neg (by omega), if_neg (by omega), if_neg (by omega), if_pos hk, if_pos c3], hw8, hm8⟩
    · refine x_W_j (pc' := 131) (st' := []) rfl (by rw [hk]; rfl) ?_
      refine f_aln 0 rfl hL rfl ?_
      refine m_gfr so0 rfl hw1 rfl (by decide) ?_
      refine f_iln 1 rfl hL rfl ?_
      refine m_k1 (t59_9 hp rx) hw1 hm1 rfl rfl rfl (m_ar so9 hw1 rfl) rfl (fun hc9 hw9 hm9 => ?_)
      refine f_if rfl (bI_r _) (fun c3 => ?_) (fun c3 => ?_)
      · have c3 : (bI (decide ((0 ≤ x ∧ x < m 3 6) ∧ iA (iR (m 9 5) (x)) (1) = 1)) : Int) = (0 : Int) := c3
        have c3 : ¬ ((0 ≤ x ∧ x < m 3 6) ∧ iA (iR (m 9 5) (x)) (1) = 1) := bI_f c3
        refine f_s [fi (0)] rfl rfl ?_
        exact f_ret1 rfl ⟨by unfold psC; rw [if_pos c1, if_neg (by omega), if_neg (by omega), if_neg (by omega), if_neg (by omega), if_neg (by omega), if_neg (by omega), if_neg (by omega), if_pos hk, if_neg c3], hw9, hm9⟩
      · have c3 : ¬ ((bI (decide ((0 ≤ x ∧ x < m 3 6) ∧ iA (iR (m 9 5) (x)) (1) = 1)) : Int) = (0 : Int)) := c3
        have c3 : (0 ≤ x ∧ x < m 3 6) ∧ iA (iR (m 9 5) (x)) (1) = 1 := bI_t c3
        refine f_s [fi (1)] rfl rfl ?_
        refine f_goto rfl ?_
        exact f_ret1 rfl ⟨by unfold psC; rw [if_pos c1, if_neg (by omega), if_neg (by omega), if_neg (by omega), if_neg (by omega), if_neg (by omega), if_neg (by omega), if_neg (by omega), if_pos hk, if_pos c3], hw9, hm9⟩
    · refine m_tsd (pc' := 148) rfl rk hk rfl ?_
      refine f_bipush (n := -2) rfl (by decide) ?_
      exact f_ret1 rfl ⟨by unfold psC; rw [if_pos c1, if_neg (by omega), if_neg (by omega), if_neg (by omega), if_neg (by omega), if_neg (by omega), if_neg (by omega), if_neg (by omega), if_neg (by omega)], hw1, hm1⟩
  · have c1 : ¬ (¬ (bI (decide (0 ≤ x ∧ x < m 3 6)) : Int) = (0 : Int)) := c1
    have c1 : ¬ (0 ≤ x ∧ x < m 3 6) := bI_n c1
    refine f_s [fi (-1)] rfl rfl ?_
    exact f_ret1 rfl ⟨by unfold psC; rw [if_neg c1], hw1, hm1⟩)
def psM (m : Nat → Nat → Int) (x k : Int) : Int := if 0 ≤ x ∧ x < m 55 1 then (if k = 0 then m 58 x.toNat else if k = 1 then m 59 x.toNat else if k = 2 then m 60 x.toNat else if k = 3 then m 61 x.toNat else if k = 4 then m 61 (5 + x).toNat else if k = 5 then m 61 (10 + x).toNat else if k = 6 then (if ¬ sbM0 m (m 61 x.toNat) = 0 then 1 else 0) else if k = 7 then iA (iR (m 61 16) (x)) (1) else -2) else -1
theorem t63 {m : Nat → Nat → Int} (hJ : jM0 m) {x : Int} (rx : -2147483648 ≤ x ∧ x ≤ 2147483647) {k : Int} (rk : -2147483648 ≤ k ∧ k ≤ 2147483647) : h_M 63 [.ref 55, fi (x), fi (k)] m (some (fi (psM m x k))) m := h_M_of (R := ev_r63) rfl (fun hc hw hm => by
  have hL : f_L (lv_args 0 [.ref 55, fi (x), fi (k)]) [(0, .ref 55), (1, fi (x)), (2, fi (k))] := f_L_of rfl
  generalize lv_args 0 [.ref 55, fi (x), fi (k)] = L at hL
  show x_W none (1, 0, 3, 2, 11, 2, 49, 0, 0, ev_t63) 0 L [] hc 0 0 _
  have hR := gi_R hm
  have hn := hJ.1
  have hp := hJ.2.1
  refine f_aln 0 rfl hL rfl ?_
  refine f_iln 1 rfl hL rfl ?_
  refine m_k1 (t61 hp.1 hp.2 rx) hw hm rfl rfl rfl (m_ar so55 hw rfl) rfl (fun hc1 hw1 hm1 => ?_)
  refine f_if rfl (bI_r _) (fun c1 => ?_) (fun c1 => ?_)
  · have c1 : ¬ (bI (decide (0 ≤ x ∧ x < m 55 1)) : Int) = (0 : Int) := c1
    have c1 : 0 ≤ x ∧ x < m 55 1 := bI_t c1
    refine f_iln 2 rfl hL rfl ?_
    have hts : k = 0 ∨ k = 1 ∨ k = 2 ∨ k = 3 ∨ k = 4 ∨ k = 5 ∨ k = 6 ∨ k = 7 ∨ (k < 0 ∨ 7 < k) := by omega
    rcases hts with hk | hk | hk | hk | hk | hk | hk | hk | hk
    · refine x_W_j (pc' := 56) (st' := []) rfl (by rw [hk]; rfl) ?_
      refine f_aln 0 rfl hL rfl ?_
      refine m_gfr so55 rfl hw1 rfl (by decide) ?_
      refine f_iln 1 rfl hL rfl ?_
      refine m_ia sa58 (m 58 (x).toNat) rfl hw1 hm1 (by omega) (by omega) (by decide) rfl ?_
      exact f_ret1 rfl ⟨by unfold psM; rw [if_pos c1, if_pos hk], hw1, hm1⟩
    · refine x_W_j (pc' := 63) (st' := []) rfl (by rw [hk]; rfl) ?_
      refine f_aln 0 rfl hL rfl ?_
      refine m_gfr so55 rfl hw1 rfl (by decide) ?_
      refine f_iln 1 rfl hL rfl ?_
      refine m_ia sa59 (m 59 (x).toNat) rfl hw1 hm1 (by omega) (by omega) (by decide) rfl ?_
      exact f_ret1 rfl ⟨by unfold psM; rw [if_pos c1, if_neg (by omega), if_pos hk], hw1, hm1⟩
    · refine x_W_j (pc' := 70) (st' := []) rfl (by rw [hk]; rfl) ?_
      refine f_aln 0 rfl hL rfl ?_
      refine m_gfr so55 rfl hw1 rfl (by decide) ?_
      refine f_iln 1 rfl hL rfl ?_
      refine m_ia sa60 (m 60 (x).toNat) rfl hw1 hm1 (by omega) (by omega) (by decide) rfl ?_
      exact f_ret1 rfl ⟨by unfold psM; rw [if_pos c1, if_neg (by omega), if_neg (by omega), if_pos hk], hw1, hm1⟩
    · refine x_W_j (pc' := 77) (st' := []) rfl (by rw [hk]; rfl) ?_
      refine f_aln 0 rfl hL rfl ?_
      refine m_gfr so55 rfl hw1 rfl (by decide) ?_
      refine f_iln 1 rfl hL rfl ?_
      refine m_ia sa61 (m 61 (x).toNat) rfl hw1 hm1 (by omega) (by omega) (by decide) rfl ?_
      exact f_ret1 rfl ⟨by unfold psM; rw [if_pos c1, if_neg (by omega), if_neg (by omega), if_neg (by omega), if_pos hk], hw1, hm1⟩
    · refine x_W_j (pc' := 84) (st' := []) rfl (by rw [hk]; rfl) ?_
      refine f_aln 0 rfl hL rfl ?_
      refine m_gfr so55 rfl hw1 rfl (by decide) ?_
      refine f_s [fi (5), .ref 61] rfl rfl ?_
      refine f_iln 1 rfl hL rfl ?_
      refine f_iadd rfl ?_
      refine m_ia sa61 (m 61 (5 + x).toNat) rfl hw1 hm1 (by omega) (by omega) (by decide) rfl ?_
      exact f_ret1 rfl ⟨by unfold psM; rw [if_pos c1, if_neg (by omega), if_neg (by omega), if_neg (by omega), if_neg (by omega), if_pos hk], hw1, hm1⟩
    · refine x_W_j (pc' := 93) (st' := []) rfl (by rw [hk]; rfl) ?_
      refine f_aln 0 rfl hL rfl ?_
      refine m_gfr so55 rfl hw1 rfl (by decide) ?_
      refine f_bipush (n := 10) rfl (by decide) ?_
      refine f_iln 1 rfl hL rfl ?_
      refine f_iadd rfl ?_
      refine m_ia sa61 (m 61 (10 + x).toNat) rfl hw1 hm1 (by omega) (by omega) (by decide) rfl ?_
      exact f_ret1 rfl ⟨by unfold psM; rw [if_pos c1, if_neg (by omega), if_neg (by omega), if_neg (by omega), if_neg (by omega), if_neg (by omega), if_pos hk], hw1, hm1⟩
    · refine x_W_j (pc' := 103) (st' := []) rfl (by rw [hk]; rfl) ?_
      refine f_aln 0 rfl hL rfl ?_
      refine f_s [fi (0), .ref 55] rfl rfl ?_
      refine f_iln 1 rfl hL rfl ?_
      have ez : (0 + x).toNat = x.toNat := by omega
      have jv := hJ.2.2 x.toNat (by omega) (by omega)
      rw [Nat.zero_add] at jv
      refine m_k1 (t62_0 (p := x) (wv := m 61 x.toNat) (kv := m 56 (m 61 x.toNat).toNat) hn hp c1.1 (by omega) (by rw [ez]) (hR 61 _) jv rfl (hR 56 _)) hw1 hm1 rfl rfl rfl (m_ar so55 hw1 rfl) rfl (fun hc2 hw2 hm2 => ?_)
      refine f_if rfl (by have := sbM0_01 m (m 61 x.toNat); omega) (fun c3 => ?_) (fun c3 => ?_)
      · have c3 : (sbM0 m (m 61 x.toNat) : Int) = (0 : Int) := c3
        refine f_s [fi (0)] rfl rfl ?_
        exact f_ret1 rfl ⟨by unfold psM; rw [if_pos c1, if_neg (by omega), if_neg (by omega), if_neg (by omega), if_neg (by omega), if_neg (by omega), if_neg (by omega), if_pos hk, if_neg (fun z => z c3)], hw2, hm2⟩
      · have c3 : ¬ ((sbM0 m (m 61 x.toNat) : Int) = (0 : Int)) := c3
        refine f_s [fi (1)] rfl rfl ?_
        refine f_goto rfl ?_
        exact f_ret1 rfl ⟨by unfold psM; rw [if_pos c1, if_neg (by omega), if_neg (by omega), if_neg (by omega), if_neg (by omega), if_neg (by omega), if_neg (by omega), if_pos hk, if_pos c3], hw2, hm2⟩
    · refine x_W_j (pc' := 118) (st' := []) rfl (by rw [hk]; rfl) ?_
      refine f_aln 0 rfl hL rfl ?_
      refine m_gfr so55 rfl hw1 rfl (by decide) ?_
      refine f_bipush (n := 16) rfl (by decide) ?_
      refine m_ia sa61 (m 61 16) rfl hw1 hm1 (by omega) (by omega) (by decide) rfl ?_
      refine f_iln 1 rfl hL rfl ?_
      refine b_ishr rfl ?_
      refine f_s [fi (1), fi (iR (m 61 16) (x))] rfl rfl ?_
      refine b_iand rfl ?_
      exact f_ret1 rfl ⟨by unfold psM; rw [if_pos c1, if_neg (by omega), if_neg (by omega), if_neg (by omega), if_neg (by omega), if_neg (by omega), if_neg (by omega), if_neg (by omega), if_pos hk], hw1, hm1⟩
    · refine m_tsd (pc' := 130) rfl rk hk rfl ?_
      refine f_bipush (n := -2) rfl (by decide) ?_
      exact f_ret1 rfl ⟨by unfold psM; rw [if_pos c1, if_neg (by omega), if_neg (by omega), if_neg (by omega), if_neg (by omega), if_neg (by omega), if_neg (by omega), if_neg (by omega), if_neg (by omega)], hw1, hm1⟩
  · have c1 : ¬ (¬ (bI (decide (0 ≤ x ∧ x < m 55 1)) : Int) = (0 : Int)) := c1
    have c1 : ¬ (0 ≤ x ∧ x < m 55 1) := bI_n c1
    refine f_s [fi (-1)] rfl rfl ?_
    exact f_ret1 rfl ⟨by unfold psM; rw [if_neg c1], hw1, hm1⟩)
theorem t72_un {m : Nat → Nat → Int} (hn : 0 ≤ m 3 5 ∧ m 3 5 ≤ 4) (hp : 0 ≤ m 3 6 ∧ m 3 6 ≤ 5) {x : Int} (rx : -2147483648 ≤ x ∧ x ≤ 2147483647) {k : Int} (rk : -2147483648 ≤ k ∧ k ≤ 2147483647) (h0 : ¬ ((0 ≤ x ∧ x < m 3 6) ∧ (0 ≤ k ∧ k < m 3 5))) : h_M 72 [.ref 0, fi (x), fi (k)] m (some (fi (-1))) m := h_M_of (R := ev_r72) rfl (fun hc hw hm => by
  have hL : f_L (lv_args 0 [.ref 0, fi (x), fi (k)]) [(0, .ref 0), (1, fi (x)), (2, fi (k))] := f_L_of rfl
  generalize lv_args 0 [.ref 0, fi (x), fi (k)] = L at hL
  show x_W none (1, 0, 3, 2, 10, 4, 86, 0, 0, ev_t72) 0 L [] hc 0 0 _
  have hR := gi_R hm
  refine f_aln 0 rfl hL rfl ?_
  refine m_gfr so0 rfl hw rfl (by decide) ?_
  refine f_iln 1 rfl hL rfl ?_
  refine m_k1 (t49 hp.2 rx) hw hm rfl rfl rfl (m_ar so3 hw rfl) rfl (fun hc1 hw1 hm1 => ?_)
  refine f_if rfl (bI_r _) (fun c1 => ?_) (fun c1 => ?_)
  · have c1 : (bI (decide (0 ≤ x ∧ x < m 3 6)) : Int) = (0 : Int) := c1
    have c1 : ¬ (0 ≤ x ∧ x < m 3 6) := bI_f c1
    refine f_s [fi (-1)] rfl rfl ?_
    exact f_ret1 rfl ⟨rfl, hw1, hm1⟩
  · have c1 : ¬ ((bI (decide (0 ≤ x ∧ x < m 3 6)) : Int) = (0 : Int)) := c1
    have c1 : 0 ≤ x ∧ x < m 3 6 := bI_t c1
    refine f_aln 0 rfl hL rfl ?_
    refine m_gfr so0 rfl hw1 rfl (by decide) ?_
    refine f_iln 2 rfl hL rfl ?_
    refine m_k1 (t40 hn.2 rk) hw1 hm1 rfl rfl rfl (m_ar so3 hw1 rfl) rfl (fun hc2 hw2 hm2 => ?_)
    refine f_if rfl (bI_r _) (fun c => absurd ⟨c1, bI_t c⟩ h0) (fun c2 => ?_)
    have c2 : ¬ (¬ (bI (decide (0 ≤ k ∧ k < m 3 5)) : Int) = (0 : Int)) := c2
    have c2 : ¬ (0 ≤ k ∧ k < m 3 5) := bI_n c2
    refine f_s [fi (-1)] rfl rfl ?_
    exact f_ret1 rfl ⟨rfl, hw2, hm2⟩)
theorem t72_st {m : Nat → Nat → Int} (hn : 0 ≤ m 3 5 ∧ m 3 5 ≤ 4) (hp : 0 ≤ m 3 6 ∧ m 3 6 ≤ 5) {x : Int} (rx : -2147483648 ≤ x ∧ x ≤ 2147483647) {k : Int} (rk : -2147483648 ≤ k ∧ k ≤ 2147483647) (hx : 0 ≤ x ∧ x < m 3 6) (hk : 0 ≤ k ∧ k < m 3 5) (h0 : ¬ (nO m 10 x = -9 ∧ ((0 ≤ k ∧ k < m 3 5) ∧ ¬ ((0 ≤ x ∧ x < m 3 6) ∧ iA (iR (m 9 5) (x)) (1) = 1) ∧ iA (iR (ft m x) (k)) (1) = 1) ∧ ¬ ((0 ≤ k ∧ k < m 3 5) ∧ iA (iR (m 9 4) (k)) (1) = 1) ∧ bC (wr m 10 k) < rm m k)) : h_M 72 [.ref 0, fi (x), fi (k)] m (some (fi (-3))) m := h_M_of (R := ev_r72) rfl (fun hc hw hm => by
  have hL : f_L (lv_args 0 [.ref 0, fi (x), fi (k)]) [(0, .ref 0), (1, fi (x)), (2, fi (k))] := f_L_of rfl
  generalize lv_args 0 [.ref 0, fi (x), fi (k)] = L at hL
  show x_W none (1, 0, 3, 2, 10, 4, 86, 0, 0, ev_t72) 0 L [] hc 0 0 _
  have hR := gi_R hm
  refine f_aln 0 rfl hL rfl ?_
  refine m_gfr so0 rfl hw rfl (by decide) ?_
  refine f_iln 1 rfl hL rfl ?_
  refine m_k1 (t49 hp.2 rx) hw hm rfl rfl rfl (m_ar so3 hw rfl) rfl (fun hc1 hw1 hm1 => ?_)
  refine f_if rfl (bI_r _) (fun c_9 => absurd (show (bI (decide (0 ≤ x ∧ x < m 3 6)) : Int) = (0 : Int) from c_9) (by rw [decide_eq_true hx]; decide)) (fun _ => ?_)
  refine f_aln 0 rfl hL rfl ?_
  refine m_gfr so0 rfl hw1 rfl (by decide) ?_
  refine f_iln 2 rfl hL rfl ?_
  refine m_k1 (t40 hn.2 rk) hw1 hm1 rfl rfl rfl (m_ar so3 hw1 rfl) rfl (fun hc2 hw2 hm2 => ?_)
  refine f_if rfl (bI_r _) (fun _ => ?_) (fun c_9 => absurd (show ¬ (bI (decide (0 ≤ k ∧ k < m 3 5)) : Int) = (0 : Int) from (by rw [decide_eq_true hk]; decide)) c_9)
  refine f_aln 0 rfl hL rfl ?_
  refine m_gfr so0 rfl hw2 rfl (by decide) ?_
  refine f_iln 1 rfl hL rfl ?_
  refine f_iln 2 rfl hL rfl ?_
  refine m_k1 (t67_9 hn hp rx rk) hw2 hm2 rfl rfl rfl (m_ar so9 hw2 rfl) rfl (fun hc3 hw3 hm3 => ?_)
  refine f_if rfl (bI_r _) (fun c_9 => absurd (show ¬ (bI (decide (nO m 10 x = -9 ∧ ((0 ≤ k ∧ k < m 3 5) ∧ ¬ ((0 ≤ x ∧ x < m 3 6) ∧ iA (iR (m 9 5) (x)) (1) = 1) ∧ iA (iR (ft m x) (k)) (1) = 1) ∧ ¬ ((0 ≤ k ∧ k < m 3 5) ∧ iA (iR (m 9 4) (k)) (1) = 1) ∧ bC (wr m 10 k) < rm m k)) : Int) = (0 : Int) from c_9) (by rw [decide_eq_false h0]; exact fun z => z rfl)) (fun _ => ?_)
  refine f_bipush (n := -3) rfl (by decide) ?_
  exact f_ret1 rfl ⟨rfl, hw3, hm3⟩)
theorem t72_ok {m : Nat → Nat → Int} (hn : 0 ≤ m 3 5 ∧ m 3 5 ≤ 4) (hp : 0 ≤ m 3 6 ∧ m 3 6 ≤ 5) (a1 : 0 ≤ m 17 1 ∧ m 17 1 ≤ 13) (a2 : 0 ≤ m 17 2 ∧ m 17 2 ≤ 14) {x : Int} (rx : -2147483648 ≤ x ∧ x ≤ 2147483647) {k : Int} (rk : -2147483648 ≤ k ∧ k ≤ 2147483647) (hx : 0 ≤ x ∧ x < m 3 6) (hk : 0 ≤ k ∧ k < m 3 5) (h0 : nO m 10 x = -9 ∧ ((0 ≤ k ∧ k < m 3 5) ∧ ¬ ((0 ≤ x ∧ x < m 3 6) ∧ iA (iR (m 9 5) (x)) (1) = 1) ∧ iA (iR (ft m x) (k)) (1) = 1) ∧ ¬ ((0 ≤ k ∧ k < m 3 5) ∧ iA (iR (m 9 4) (k)) (1) = 1) ∧ bC (wr m 10 k) < rm m k) : h_M 72 [.ref 0, fi (x), fi (k)] m (some (fi (bC (wr (puC (reC m) 10 11 x k) 10 k)))) (puC (reC m) 10 11 x k) := h_M_of (R := ev_r72) rfl (fun hc hw hm => by
  have hL : f_L (lv_args 0 [.ref 0, fi (x), fi (k)]) [(0, .ref 0), (1, fi (x)), (2, fi (k))] := f_L_of rfl
  generalize lv_args 0 [.ref 0, fi (x), fi (k)] = L at hL
  show x_W none (1, 0, 3, 2, 10, 4, 86, 0, 0, ev_t72) 0 L [] hc 0 0 _
  have hR := gi_R hm
  refine f_aln 0 rfl hL rfl ?_
  refine m_gfr so0 rfl hw rfl (by decide) ?_
  refine f_iln 1 rfl hL rfl ?_
  refine m_k1 (t49 hp.2 rx) hw hm rfl rfl rfl (m_ar so3 hw rfl) rfl (fun hc1 hw1 hm1 => ?_)
  refine f_if rfl (bI_r _) (fun c_9 => absurd (show (bI (decide (0 ≤ x ∧ x < m 3 6)) : Int) = (0 : Int) from c_9) (by rw [decide_eq_true hx]; decide)) (fun _ => ?_)
  refine f_aln 0 rfl hL rfl ?_
  refine m_gfr so0 rfl hw1 rfl (by decide) ?_
  refine f_iln 2 rfl hL rfl ?_
  refine m_k1 (t40 hn.2 rk) hw1 hm1 rfl rfl rfl (m_ar so3 hw1 rfl) rfl (fun hc2 hw2 hm2 => ?_)
  refine f_if rfl (bI_r _) (fun _ => ?_) (fun c_9 => absurd (show ¬ (bI (decide (0 ≤ k ∧ k < m 3 5)) : Int) = (0 : Int) from (by rw [decide_eq_true hk]; decide)) c_9)
  refine f_aln 0 rfl hL rfl ?_
  refine m_gfr so0 rfl hw2 rfl (by decide) ?_
  refine f_iln 1 rfl hL rfl ?_
  refine f_iln 2 rfl hL rfl ?_
  refine m_k1 (t67_9 hn hp rx rk) hw2 hm2 rfl rfl rfl (m_ar so9 hw2 rfl) rfl (fun hc3 hw3 hm3 => ?_)
  refine f_if rfl (bI_r _) (fun _ => ?_) (fun c_9 => absurd (show ¬ (bI (decide (nO m 10 x = -9 ∧ ((0 ≤ k ∧ k < m 3 5) ∧ ¬ ((0 ≤ x ∧ x < m 3 6) ∧ iA (iR (m 9 5) (x)) (1) = 1) ∧ iA (iR (ft m x) (k)) (1) = 1) ∧ ¬ ((0 ≤ k ∧ k < m 3 5) ∧ iA (iR (m 9 4) (k)) (1) = 1) ∧ bC (wr m 10 k) < rm m k)) : Int) = (0 : Int) from (by rw [decide_eq_true h0]; decide)) c_9)
  refine f_aln 0 rfl hL rfl ?_
  refine m_gfr so0 rfl hw3 rfl (by decide) ?_
  refine f_aln 0 rfl hL rfl ?_
  refine m_gfr so0 rfl hw3 rfl (by decide) ?_
  refine m_k0 (t70 a1 a2) hw3 hm3 rfl rfl rfl (m_ar so17 hw3 rfl) rfl (fun hc4 hw4 hm4 => ?_)
  refine f_aln 0 rfl hL rfl ?_
  refine m_gfr so0 rfl hw4 rfl (by decide) ?_
  refine f_iln 1 rfl hL rfl ?_
  refine f_iln 2 rfl hL rfl ?_
  refine m_k0 (t71_9 (m := reC m) (by rw [reC_c a1 a2 (by omega)]; exact hp) rx rk) hw4 hm4 rfl rfl rfl (m_ar so9 hw4 rfl) rfl (fun hc5 hw5 hm5 => ?_)
  refine f_aln 0 rfl hL rfl ?_
  refine m_gfr so0 rfl hw5 rfl (by decide) ?_
  refine f_iln 2 rfl hL rfl ?_
  refine m_k1 (t43_9 rk) hw5 hm5 rfl rfl rfl (m_ar so9 hw5 rfl) rfl (fun hc6 hw6 hm6 => ?_)
  refine m_k1 (t65 (wr_r _ _ _)) hw6 hm6 rfl rfl rfl rfl rfl (fun hc7 hw7 hm7 => ?_)
  exact f_ret1 rfl ⟨rfl, hw7, hm7⟩)
theorem t80_un {m : Nat → Nat → Int} (hn : 0 ≤ m 55 0 ∧ m 55 0 ≤ 4) (hp : 0 ≤ m 55 1 ∧ m 55 1 ≤ 5) {x : Int} (rx : -2147483648 ≤ x ∧ x ≤ 2147483647) {k : Int} (rk : -2147483648 ≤ k ∧ k ≤ 2147483647) (h0 : ¬ ((0 ≤ x ∧ x < m 55 1) ∧ (0 ≤ k ∧ k < m 55 0))) : h_M 80 [.ref 55, fi (x), fi (k)] m (some (fi (-1))) m := h_M_of (R := ev_r80) rfl (fun hc hw hm => by
  have hL : f_L (lv_args 0 [.ref 55, fi (x), fi (k)]) [(0, .ref 55), (1, fi (x)), (2, fi (k))] := f_L_of rfl
  generalize lv_args 0 [.ref 55, fi (x), fi (k)] = L at hL
  show x_W none (1, 0, 3, 2, 11, 3, 67, 0, 0, ev_t80) 0 L [] hc 0 0 _
  have hR := gi_R hm
  refine f_aln 0 rfl hL rfl ?_
  refine f_iln 1 rfl hL rfl ?_
  refine m_k1 (t61 hp.1 hp.2 rx) hw hm rfl rfl rfl (m_ar so55 hw rfl) rfl (fun hc1 hw1 hm1 => ?_)
  refine f_if rfl (bI_r _) (fun c1 => ?_) (fun c1 => ?_)
  · have c1 : (bI (decide (0 ≤ x ∧ x < m 55 1)) : Int) = (0 : Int) := c1
    have c1 : ¬ (0 ≤ x ∧ x < m 55 1) := bI_f c1
    refine f_s [fi (-1)] rfl rfl ?_
    exact f_ret1 rfl ⟨rfl, hw1, hm1⟩
  · have c1 : ¬ ((bI (decide (0 ≤ x ∧ x < m 55 1)) : Int) = (0 : Int)) := c1
    have c1 : 0 ≤ x ∧ x < m 55 1 := bI_t c1
    refine f_aln 0 rfl hL rfl ?_
    refine f_iln 2 rfl hL rfl ?_
    refine m_k1 (t46 hn.1 hn.2 rk) hw1 hm1 rfl rfl rfl (m_ar so55 hw1 rfl) rfl (fun hc2 hw2 hm2 => ?_)
    refine f_if rfl (bI_r _) (fun c => absurd ⟨c1, bI_t c⟩ h0) (fun c2 => ?_)
    have c2 : ¬ (¬ (bI (decide (0 ≤ k ∧ k < m 55 0)) : Int) = (0 : Int)) := c2
    have c2 : ¬ (0 ≤ k ∧ k < m 55 0) := bI_n c2
    refine f_s [fi (-1)] rfl rfl ?_
    exact f_ret1 rfl ⟨rfl, hw2, hm2⟩)
theorem t80_st {m : Nat → Nat → Int} (hn : 0 ≤ m 55 0 ∧ m 55 0 ≤ 4) (hp : 0 ≤ m 55 1 ∧ m 55 1 ≤ 5) {x : Int} (rx : -2147483648 ≤ x ∧ x ≤ 2147483647) {k : Int} (rk : -2147483648 ≤ k ∧ k ≤ 2147483647) (hx : 0 ≤ x ∧ x < m 55 1) (hk : 0 ≤ k ∧ k < m 55 0) (h0 : ¬ (¬ iA (iR (m 61 16) (x)) (1) = 1 ∧ m 61 x.toNat = -9 ∧ ¬ iA (iR (m 61 15) (k)) (1) = 1 ∧ iA (iR (m 60 x.toNat) (k)) (1) = 1 ∧ onS (dw0 m k) < rmM m k)) : h_M 80 [.ref 55, fi (x), fi (k)] m (some (fi (-3))) m := h_M_of (R := ev_r80) rfl (fun hc hw hm => by
  have hL : f_L (lv_args 0 [.ref 55, fi (x), fi (k)]) [(0, .ref 55), (1, fi (x)), (2, fi (k))] := f_L_of rfl
  generalize lv_args 0 [.ref 55, fi (x), fi (k)] = L at hL
  show x_W none (1, 0, 3, 2, 11, 3, 67, 0, 0, ev_t80) 0 L [] hc 0 0 _
  have hR := gi_R hm
  have ez : (0 + x).toNat = x.toNat := by omega
  refine f_aln 0 rfl hL rfl ?_
  refine f_iln 1 rfl hL rfl ?_
  refine m_k1 (t61 hp.1 hp.2 rx) hw hm rfl rfl rfl (m_ar so55 hw rfl) rfl (fun hc1 hw1 hm1 => ?_)
  refine f_if rfl (bI_r _) (fun c_9 => absurd (show (bI (decide (0 ≤ x ∧ x < m 55 1)) : Int) = (0 : Int) from c_9) (by rw [decide_eq_true hx]; decide)) (fun _ => ?_)
  refine f_aln 0 rfl hL rfl ?_
  refine f_iln 2 rfl hL rfl ?_
  refine m_k1 (t46 hn.1 hn.2 rk) hw1 hm1 rfl rfl rfl (m_ar so55 hw1 rfl) rfl (fun hc2 hw2 hm2 => ?_)
  refine f_if rfl (bI_r _) (fun _ => ?_) (fun c_9 => absurd (show ¬ (bI (decide (0 ≤ k ∧ k < m 55 0)) : Int) = (0 : Int) from (by rw [decide_eq_true hk]; decide)) c_9)
  refine f_aln 0 rfl hL rfl ?_
  refine f_s [fi (0), .ref 55] rfl rfl ?_
  refine f_iln 1 rfl hL rfl ?_
  refine f_iln 2 rfl hL rfl ?_
  refine m_k1 (t77_0 hp (p := x) hx.1 (by omega) (k := k) hk.1 (by omega) (wv := m 61 x.toNat) (fv := m 60 x.toNat) (by rw [ez]) (hR 61 _) rfl (hR 60 _)) hw2 hm2 rfl rfl rfl (m_ar so55 hw2 rfl) rfl (fun hc3 hw3 hm3 => ?_)
  refine f_if rfl (bI_r _) (fun c_9 => absurd (show ¬ (bI (decide (¬ iA (iR (m 61 16) (x)) (1) = 1 ∧ m 61 x.toNat = -9 ∧ ¬ iA (iR (m 61 15) (k)) (1) = 1 ∧ iA (iR (m 60 x.toNat) (k)) (1) = 1 ∧ onS (dw0 m k) < rmM m k)) : Int) = (0 : Int) from c_9) (by rw [decide_eq_false h0]; exact fun z => z rfl)) (fun _ => ?_)
  refine f_bipush (n := -3) rfl (by decide) ?_
  exact f_ret1 rfl ⟨rfl, hw3, hm3⟩)
theorem t80_ok {m : Nat → Nat → Int} (hn : 0 ≤ m 55 0 ∧ m 55 0 ≤ 4) (hp : 0 ≤ m 55 1 ∧ m 55 1 ≤ 5) (x1 : 0 ≤ m 55 17 ∧ m 55 17 ≤ 13) (x2 : 0 ≤ m 55 16 ∧ m 55 16 ≤ 14) {x : Int} (rx : -2147483648 ≤ x ∧ x ≤ 2147483647) {k : Int} (rk : -2147483648 ≤ k ∧ k ≤ 2147483647) (hx : 0 ≤ x ∧ x < m 55 1) (hk : 0 ≤ k ∧ k < m 55 0) (h0 : ¬ iA (iR (m 61 16) (x)) (1) = 1 ∧ m 61 x.toNat = -9 ∧ ¬ iA (iR (m 61 15) (k)) (1) = 1 ∧ iA (iR (m 60 x.toNat) (k)) (1) = 1 ∧ onS (dw0 m k) < rmM m k) : h_M 80 [.ref 55, fi (x), fi (k)] m (some (fi (onS (dw0 (up (up (kaM m) 61 x.toNat (k)) 61 (5 + x).toNat 0) k)))) (up (up (kaM m) 61 x.toNat (k)) 61 (5 + x).toNat 0) := h_M_of (R := ev_r80) rfl (fun hc hw hm => by
  have hL : f_L (lv_args 0 [.ref 55, fi (x), fi (k)]) [(0, .ref 55), (1, fi (x)), (2, fi (k))] := f_L_of rfl
  generalize lv_args 0 [.ref 55, fi (x), fi (k)] = L at hL
  show x_W none (1, 0, 3, 2, 11, 3, 67, 0, 0, ev_t80) 0 L [] hc 0 0 _
  have hR := gi_R hm
  have ez : (0 + x).toNat = x.toNat := by omega
  refine f_aln 0 rfl hL rfl ?_
  refine f_iln 1 rfl hL rfl ?_
  refine m_k1 (t61 hp.1 hp.2 rx) hw hm rfl rfl rfl (m_ar so55 hw rfl) rfl (fun hc1 hw1 hm1 => ?_)
  refine f_if rfl (bI_r _) (fun c_9 => absurd (show (bI (decide (0 ≤ x ∧ x < m 55 1)) : Int) = (0 : Int) from c_9) (by rw [decide_eq_true hx]; decide)) (fun _ => ?_)
  refine f_aln 0 rfl hL rfl ?_
  refine f_iln 2 rfl hL rfl ?_
  refine m_k1 (t46 hn.1 hn.2 rk) hw1 hm1 rfl rfl rfl (m_ar so55 hw1 rfl) rfl (fun hc2 hw2 hm2 => ?_)
  refine f_if rfl (bI_r _) (fun _ => ?_) (fun c_9 => absurd (show ¬ (bI (decide (0 ≤ k ∧ k < m 55 0)) : Int) = (0 : Int) from (by rw [decide_eq_true hk]; decide)) c_9)
  refine f_aln 0 rfl hL rfl ?_
  refine f_s [fi (0), .ref 55] rfl rfl ?_
  refine f_iln 1 rfl hL rfl ?_
  refine f_iln 2 rfl hL rfl ?_
  refine m_k1 (t77_0 hp (p := x) hx.1 (by omega) (k := k) hk.1 (by omega) (wv := m 61 x.toNat) (fv := m 60 x.toNat) (by rw [ez]) (hR 61 _) rfl (hR 60 _)) hw2 hm2 rfl rfl rfl (m_ar so55 hw2 rfl) rfl (fun hc3 hw3 hm3 => ?_)
  refine f_if rfl (bI_r _) (fun _ => ?_) (fun c_9 => absurd (show ¬ (bI (decide (¬ iA (iR (m 61 16) (x)) (1) = 1 ∧ m 61 x.toNat = -9 ∧ ¬ iA (iR (m 61 15) (k)) (1) = 1 ∧ iA (iR (m 60 x.toNat) (k)) (1) = 1 ∧ onS (dw0 m k) < rmM m k)) : Int) = (0 : Int) from (by rw [decide_eq_true h0]; decide)) c_9)
  refine f_aln 0 rfl hL rfl ?_
  refine m_k0 (t78 x1 x2) hw3 hm3 rfl rfl rfl (m_ar so55 hw3 rfl) rfl (fun hc4 hw4 hm4 => ?_)
  refine f_aln 0 rfl hL rfl ?_
  refine f_s [fi (0), .ref 55] rfl rfl ?_
  refine f_iln 1 rfl hL rfl ?_
  refine f_iln 2 rfl hL rfl ?_
  refine m_k0 (show h_M 79 [.ref 55, fi (0), fi (x), fi (k)] (kaM m) none (up (up (kaM m) 61 x.toNat (k)) 61 (5 + x).toNat 0) from ez ▸ t79_0 (m := kaM m) (p := x) (k := k) hx.1 (by omega) rk) hw4 hm4 rfl rfl rfl (m_ar so55 hw4 rfl) rfl (fun hc5 hw5 hm5 => ?_)
  refine f_aln 0 rfl hL rfl ?_
  refine f_s [fi (0), .ref 55] rfl rfl ?_
  refine f_iln 2 rfl hL rfl ?_
  refine m_k1 (t47_0 (m := (up (up (kaM m) 61 x.toNat (k)) 61 (5 + x).toNat 0)) (by rw [up_nc (by decide), up_nc (by decide), kaM_c (by decide) (Or.inr ⟨by decide, by decide⟩)]; exact hp) rk) hw5 hm5 rfl rfl rfl (m_ar so55 hw5 rfl) rfl (fun hc6 hw6 hm6 => ?_)
  refine m_k1 (t75 (dw0_r _ _)) hw6 hm6 rfl rfl rfl rfl rfl (fun hc7 hw7 hm7 => ?_)
  exact f_ret1 rfl ⟨rfl, hw7, hm7⟩)
theorem t82_un {m : Nat → Nat → Int} (hp : 0 ≤ m 3 6 ∧ m 3 6 ≤ 5) {x : Int} (rx : -2147483648 ≤ x ∧ x ≤ 2147483647) (h0 : ¬ (0 ≤ x ∧ x < m 3 6)) : h_M 82 [.ref 0, fi (x)] m (some (fi (-1))) m := h_M_of (R := ev_r82) rfl (fun hc hw hm => by
  have hL : f_L (lv_args 0 [.ref 0, fi (x)]) [(0, .ref 0), (1, fi (x))] := f_L_of rfl
  generalize lv_args 0 [.ref 0, fi (x)] = L at hL
  show x_W none (1, 0, 3, 1, 10, 3, 68, 0, 0, ev_t82) 0 L [] hc 0 0 _
  have hR := gi_R hm
  refine f_aln 0 rfl hL rfl ?_
  refine m_gfr so0 rfl hw rfl (by decide) ?_
  refine f_iln 1 rfl hL rfl ?_
  refine m_k1 (t49 hp.2 rx) hw hm rfl rfl rfl (m_ar so3 hw rfl) rfl (fun hc1 hw1 hm1 => ?_)
  refine f_if rfl (bI_r _) (fun c_9 => absurd (show ¬ (bI (decide (0 ≤ x ∧ x < m 3 6)) : Int) = (0 : Int) from c_9) (by rw [decide_eq_false h0]; exact fun z => z rfl)) (fun _ => ?_)
  refine f_s [fi (-1)] rfl rfl ?_
  exact f_ret1 rfl ⟨rfl, hw1, hm1⟩)
theorem t82_st {m : Nat → Nat → Int} (hp : 0 ≤ m 3 6 ∧ m 3 6 ≤ 5) {x : Int} (rx : -2147483648 ≤ x ∧ x ≤ 2147483647) (hx : 0 ≤ x ∧ x < m 3 6) (h0 : nO m 10 x = -9) : h_M 82 [.ref 0, fi (x)] m (some (fi (-3))) m := h_M_of (R := ev_r82) rfl (fun hc hw hm => by
  have hL : f_L (lv_args 0 [.ref 0, fi (x)]) [(0, .ref 0), (1, fi (x))] := f_L_of rfl
  generalize lv_args 0 [.ref 0, fi (x)] = L at hL
  show x_W none (1, 0, 3, 1, 10, 3, 68, 0, 0, ev_t82) 0 L [] hc 0 0 _
  have hR := gi_R hm
  refine f_aln 0 rfl hL rfl ?_
  refine m_gfr so0 rfl hw rfl (by decide) ?_
  refine f_iln 1 rfl hL rfl ?_
  refine m_k1 (t49 hp.2 rx) hw hm rfl rfl rfl (m_ar so3 hw rfl) rfl (fun hc1 hw1 hm1 => ?_)
  refine f_if rfl (bI_r _) (fun _ => ?_) (fun c_9 => absurd (show ¬ (bI (decide (0 ≤ x ∧ x < m 3 6)) : Int) = (0 : Int) from (by rw [decide_eq_true hx]; decide)) c_9)
  refine f_aln 0 rfl hL rfl ?_
  refine m_gfr so0 rfl hw1 rfl (by decide) ?_
  refine f_iln 1 rfl hL rfl ?_
  refine m_k1 (t53_9 hp rx) hw1 hm1 rfl rfl rfl (m_ar so9 hw1 rfl) rfl (fun hc2 hw2 hm2 => ?_)
  refine f_istn [(2, fi (nO m 10 x)), (0, .ref 0), (1, fi (x))] rfl (by decide) hL rfl (fun L1 hL1 => ?_)
  refine f_iln 0 rfl hL1 rfl ?_
  refine f_bipush (n := -9) rfl (by decide) ?_
  refine f_ic rfl (nO_r hR 10 x) (by decide) (fun c_9 => absurd (show ¬ (nO m 10 x : Int) = (-9 : Int) from c_9) (fun z => z h0)) (fun _ => ?_)
  refine f_bipush (n := -3) rfl (by decide) ?_
  exact f_ret1 rfl ⟨rfl, hw2, hm2⟩)
theorem t82_ok {m : Nat → Nat → Int} (hp : 0 ≤ m 3 6 ∧ m 3 6 ≤ 5) (a1 : 0 ≤ m 17 1 ∧ m 17 1 ≤ 13) (a2 : 0 ≤ m 17 2 ∧ m 17 2 ≤ 14) {x : Int} (rx : -2147483648 ≤ x ∧ x ≤ 2147483647) (hx : 0 ≤ x ∧ x < m 3 6) (h0 : ¬ nO m 10 x = -9) : h_M 82 [.ref 0, fi (x)] m (some (fi (nO m 10 x))) (puC (reC m) 10 11 x (-9)) := h_M_of (R := ev_r82) rfl (fun hc hw hm => by
  have hL : f_L (lv_args 0 [.ref 0, fi (x)]) [(0, .ref 0), (1, fi (x))] := f_L_of rfl
  generalize lv_args 0 [.ref 0, fi (x)] = L at hL
  show x_W none (1, 0, 3, 1, 10, 3, 68, 0, 0, ev_t82) 0 L [] hc 0 0 _
  have hR := gi_R hm
  refine f_aln 0 rfl hL rfl ?_
  refine m_gfr so0 rfl hw rfl (by decide) ?_
  refine f_iln 1 rfl hL rfl ?_
  refine m_k1 (t49 hp.2 rx) hw hm rfl rfl rfl (m_ar so3 hw rfl) rfl (fun hc1 hw1 hm1 => ?_)
  refine f_if rfl (bI_r _) (fun _ => ?_) (fun c_9 => absurd (show ¬ (bI (decide (0 ≤ x ∧ x < m 3 6)) : Int) = (0 : Int) from (by rw [decide_eq_true hx]; decide)) c_9)
  refine f_aln 0 rfl hL rfl ?_
  refine m_gfr so0 rfl hw1 rfl (by decide) ?_
  refine f_iln 1 rfl hL rfl ?_
  refine m_k1 (t53_9 hp rx) hw1 hm1 rfl rfl rfl (m_ar so9 hw1 rfl) rfl (fun hc2 hw2 hm2 => ?_)
  refine f_istn [(2, fi (nO m 10 x)), (0, .ref 0), (1, fi (x))] rfl (by decide) hL rfl (fun L1 hL1 => ?_)
  refine f_iln 0 rfl hL1 rfl ?_
  refine f_bipush (n := -9) rfl (by decide) ?_
  refine f_ic rfl (nO_r hR 10 x) (by decide) (fun _ => ?_) (fun c_9 => absurd (show ¬ (nO m 10 x : Int) = (-9 : Int) from h0) c_9)
  refine f_aln 1 rfl hL1 rfl ?_
  refine m_gfr so0 rfl hw2 rfl (by decide) ?_
  refine f_aln 1 rfl hL1 rfl ?_
  refine m_gfr so0 rfl hw2 rfl (by decide) ?_
  refine m_k0 (t70 a1 a2) hw2 hm2 rfl rfl rfl (m_ar so17 hw2 rfl) rfl (fun hc3 hw3 hm3 => ?_)
  refine f_aln 1 rfl hL1 rfl ?_
  refine m_gfr so0 rfl hw3 rfl (by decide) ?_
  refine f_iln 2 rfl hL1 rfl ?_
  refine m_k0 (t81_9 (m := reC m) (by rw [reC_c a1 a2 (by omega)]; exact hp) rx) hw3 hm3 rfl rfl rfl (m_ar so9 hw3 rfl) rfl (fun hc4 hw4 hm4 => ?_)
  refine f_iln 0 rfl hL1 rfl ?_
  exact f_ret1 rfl ⟨rfl, hw4, hm4⟩)
theorem t83_un {m : Nat → Nat → Int} (hp : 0 ≤ m 55 1 ∧ m 55 1 ≤ 5) {x : Int} (rx : -2147483648 ≤ x ∧ x ≤ 2147483647) (h0 : ¬ (0 ≤ x ∧ x < m 55 1)) : h_M 83 [.ref 55, fi (x)] m (some (fi (-1))) m := h_M_of (R := ev_r83) rfl (fun hc hw hm => by
  have hL : f_L (lv_args 0 [.ref 55, fi (x)]) [(0, .ref 55), (1, fi (x))] := f_L_of rfl
  generalize lv_args 0 [.ref 55, fi (x)] = L at hL
  show x_W none (1, 0, 3, 1, 11, 2, 46, 0, 0, ev_t83) 0 L [] hc 0 0 _
  have hR := gi_R hm
  refine f_aln 0 rfl hL rfl ?_
  refine f_iln 1 rfl hL rfl ?_
  refine m_k1 (t61 hp.1 hp.2 rx) hw hm rfl rfl rfl (m_ar so55 hw rfl) rfl (fun hc1 hw1 hm1 => ?_)
  refine f_if rfl (bI_r _) (fun c_9 => absurd (show ¬ (bI (decide (0 ≤ x ∧ x < m 55 1)) : Int) = (0 : Int) from c_9) (by rw [decide_eq_false h0]; exact fun z => z rfl)) (fun _ => ?_)
  refine f_s [fi (-1)] rfl rfl ?_
  exact f_ret1 rfl ⟨rfl, hw1, hm1⟩)
theorem t83_st {m : Nat → Nat → Int} (hp : 0 ≤ m 55 1 ∧ m 55 1 ≤ 5) {x : Int} (rx : -2147483648 ≤ x ∧ x ≤ 2147483647) (hx : 0 ≤ x ∧ x < m 55 1) (h0 : m 61 x.toNat = -9) : h_M 83 [.ref 55, fi (x)] m (some (fi (-3))) m := h_M_of (R := ev_r83) rfl (fun hc hw hm => by
  have hL : f_L (lv_args 0 [.ref 55, fi (x)]) [(0, .ref 55), (1, fi (x))] := f_L_of rfl
  generalize lv_args 0 [.ref 55, fi (x)] = L at hL
  show x_W none (1, 0, 3, 1, 11, 2, 46, 0, 0, ev_t83) 0 L [] hc 0 0 _
  have hR := gi_R hm
  have ez : (0 + x).toNat = x.toNat := by omega
  refine f_aln 0 rfl hL rfl ?_
  refine f_iln 1 rfl hL rfl ?_
  refine m_k1 (t61 hp.1 hp.2 rx) hw hm rfl rfl rfl (m_ar so55 hw rfl) rfl (fun hc1 hw1 hm1 => ?_)
  refine f_if rfl (bI_r _) (fun _ => ?_) (fun c_9 => absurd (show ¬ (bI (decide (0 ≤ x ∧ x < m 55 1)) : Int) = (0 : Int) from (by rw [decide_eq_true hx]; decide)) c_9)
  refine f_aln 0 rfl hL rfl ?_
  refine m_gfr so55 rfl hw1 rfl (by decide) ?_
  refine f_iln 1 rfl hL rfl ?_
  refine m_ia sa61 (m 61 (x).toNat) rfl hw1 hm1 (by omega) (by omega) (by decide) rfl ?_
  refine f_bipush (n := -9) rfl (by decide) ?_
  refine f_ic rfl (hR 61 _) (by decide) (fun c_9 => absurd (show ¬ (m 61 (x).toNat : Int) = (-9 : Int) from c_9) (fun z => z h0)) (fun _ => ?_)
  refine f_bipush (n := -3) rfl (by decide) ?_
  exact f_ret1 rfl ⟨rfl, hw1, hm1⟩)
theorem t83_ok {m : Nat → Nat → Int} (hp : 0 ≤ m 55 1 ∧ m 55 1 ≤ 5) (x1 : 0 ≤ m 55 17 ∧ m 55 17 ≤ 13) (x2 : 0 ≤ m 55 16 ∧ m 55 16 ≤ 14) {x : Int} (rx : -2147483648 ≤ x ∧ x ≤ 2147483647) (hx : 0 ≤ x ∧ x < m 55 1) (h0 : ¬ m 61 x.toNat = -9) : h_M 83 [.ref 55, fi (x)] m (some (fi (m 61 x.toNat))) (up (up (kaM m) 61 x.toNat (-9)) 61 (5 + x).toNat 0) := h_M_of (R := ev_r83) rfl (fun hc hw hm => by
  have hL : f_L (lv_args 0 [.ref 55, fi (x)]) [(0, .ref 55), (1, fi (x))] := f_L_of rfl
  generalize lv_args 0 [.ref 55, fi (x)] = L at hL
  show x_W none (1, 0, 3, 1, 11, 2, 46, 0, 0, ev_t83) 0 L [] hc 0 0 _
  have hR := gi_R hm
  have ez : (0 + x).toNat = x.toNat := by omega
  refine f_aln 0 rfl hL rfl ?_
  refine f_iln 1 rfl hL rfl ?_
  refine m_k1 (t61 hp.1 hp.2 rx) hw hm rfl rfl rfl (m_ar so55 hw rfl) rfl (fun hc1 hw1 hm1 => ?_)
  refine f_if rfl (bI_r _) (fun _ => ?_) (fun c_9 => absurd (show ¬ (bI (decide (0 ≤ x ∧ x < m 55 1)) : Int) = (0 : Int) from (by rw [decide_eq_true hx]; decide)) c_9)
  refine f_aln 0 rfl hL rfl ?_
  refine m_gfr so55 rfl hw1 rfl (by decide) ?_
  refine f_iln 1 rfl hL rfl ?_
  refine m_ia sa61 (m 61 (x).toNat) rfl hw1 hm1 (by omega) (by omega) (by decide) rfl ?_
  refine f_bipush (n := -9) rfl (by decide) ?_
  refine f_ic rfl (hR 61 _) (by decide) (fun _ => ?_) (fun c_9 => absurd (show ¬ (m 61 (x).toNat : Int) = (-9 : Int) from h0) c_9)
  refine f_aln 0 rfl hL rfl ?_
  refine m_k0 (t78 x1 x2) hw1 hm1 rfl rfl rfl (m_ar so55 hw1 rfl) rfl (fun hc2 hw2 hm2 => ?_)
  have e61 : kaM m 61 x.toNat = m 61 x.toNat := kaM_c (by decide) (Or.inl (by decide))
  refine f_aln 0 rfl hL rfl ?_
  refine m_gfr so55 rfl hw2 rfl (by decide) ?_
  refine f_iln 1 rfl hL rfl ?_
  refine m_ia sa61 (m 61 (x).toNat) rfl hw2 hm2 (by omega) (by omega) (by decide) e61 ?_
  refine f_istn [(2, fi (m 61 (x).toNat)), (0, .ref 55), (1, fi (x))] rfl (by decide) hL rfl (fun L1 hL1 => ?_)
  refine f_aln 1 rfl hL1 rfl ?_
  refine f_s [fi (0), .ref 55] rfl rfl ?_
  refine f_iln 2 rfl hL1 rfl ?_
  refine f_bipush (n := -9) rfl (by decide) ?_
  refine m_k0 (show h_M 79 [.ref 55, fi (0), fi (x), fi (-9)] (kaM m) none (up (up (kaM m) 61 x.toNat (-9)) 61 (5 + x).toNat 0) from ez ▸ t79_0 (m := kaM m) (p := x) (k := -9) hx.1 (by omega) (by decide)) hw2 hm2 rfl rfl rfl (m_ar so55 hw2 rfl) rfl (fun hc3 hw3 hm3 => ?_)
  refine f_iln 0 rfl hL1 rfl ?_
  exact f_ret1 rfl ⟨rfl, hw3, hm3⟩)
theorem t94_un {m : Nat → Nat → Int} (hp : 0 ≤ m 3 6 ∧ m 3 6 ≤ 5) {x : Int} (rx : -2147483648 ≤ x ∧ x ≤ 2147483647) (h0 : ¬ (0 ≤ x ∧ x < m 3 6)) : h_M 94 [.ref 0, fi (x)] m (some (fi (-1))) m := h_M_of (R := ev_r94) rfl (fun hc hw hm => by
  have hL : f_L (lv_args 0 [.ref 0, fi (x)]) [(0, .ref 0), (1, fi (x))] := f_L_of rfl
  generalize lv_args 0 [.ref 0, fi (x)] = L at hL
  show x_W none (1, 0, 3, 1, 10, 4, 86, 0, 0, ev_t94) 0 L [] hc 0 0 _
  have hR := gi_R hm
  refine f_aln 0 rfl hL rfl ?_
  refine m_gfr so0 rfl hw rfl (by decide) ?_
  refine f_iln 1 rfl hL rfl ?_
  refine m_k1 (t49 hp.2 rx) hw hm rfl rfl rfl (m_ar so3 hw rfl) rfl (fun hc1 hw1 hm1 => ?_)
  refine f_if rfl (bI_r _) (fun c_9 => absurd (show ¬ (bI (decide (0 ≤ x ∧ x < m 3 6)) : Int) = (0 : Int) from c_9) (by rw [decide_eq_false h0]; exact fun z => z rfl)) (fun _ => ?_)
  refine f_s [fi (-1)] rfl rfl ?_
  exact f_ret1 rfl ⟨rfl, hw1, hm1⟩)
theorem t94_st {m : Nat → Nat → Int} (hp : 0 ≤ m 3 6 ∧ m 3 6 ≤ 5) {x : Int} (rx : -2147483648 ≤ x ∧ x ≤ 2147483647) (hx : 0 ≤ x ∧ x < m 3 6) (h0 : nO m 10 x = -9) : h_M 94 [.ref 0, fi (x)] m (some (fi (-3))) m := h_M_of (R := ev_r94) rfl (fun hc hw hm => by
  have hL : f_L (lv_args 0 [.ref 0, fi (x)]) [(0, .ref 0), (1, fi (x))] := f_L_of rfl
  generalize lv_args 0 [.ref 0, fi (x)] = L at hL
  show x_W none (1, 0, 3, 1, 10, 4, 86, 0, 0, ev_t94) 0 L [] hc 0 0 _
  have hR := gi_R hm
  refine f_aln 0 rfl hL rfl ?_
  refine m_gfr so0 rfl hw rfl (by decide) ?_
  refine f_iln 1 rfl hL rfl ?_
  refine m_k1 (t49 hp.2 rx) hw hm rfl rfl rfl (m_ar so3 hw rfl) rfl (fun hc1 hw1 hm1 => ?_)
  refine f_if rfl (bI_r _) (fun _ => ?_) (fun c_9 => absurd (show ¬ (bI (decide (0 ≤ x ∧ x < m 3 6)) : Int) = (0 : Int) from (by rw [decide_eq_true hx]; decide)) c_9)
  refine f_aln 0 rfl hL rfl ?_
  refine m_gfr so0 rfl hw1 rfl (by decide) ?_
  refine f_iln 1 rfl hL rfl ?_
  refine m_k1 (t53_9 hp rx) hw1 hm1 rfl rfl rfl (m_ar so9 hw1 rfl) rfl (fun hc2 hw2 hm2 => ?_)
  refine f_istn [(2, fi (nO m 10 x)), (0, .ref 0), (1, fi (x))] rfl (by decide) hL rfl (fun L1 hL1 => ?_)
  refine f_iln 0 rfl hL1 rfl ?_
  refine f_bipush (n := -9) rfl (by decide) ?_
  refine f_ic rfl (nO_r hR 10 x) (by decide) (fun c_9 => absurd (show ¬ (nO m 10 x : Int) = (-9 : Int) from c_9) (fun z => z h0)) (fun _ => ?_)
  refine f_bipush (n := -3) rfl (by decide) ?_
  exact f_ret1 rfl ⟨rfl, hw2, hm2⟩)
theorem t94_ok {m : Nat → Nat → Int} (hp : 0 ≤ m 3 6 ∧ m 3 6 ≤ 5) (a1 : 0 ≤ m 17 1 ∧ m 17 1 ≤ 13) (a2 : 0 ≤ m 17 2 ∧ m 17 2 ≤ 14) {x : Int} (rx : -2147483648 ≤ x ∧ x ≤ 2147483647) (hx : 0 ≤ x ∧ x < m 3 6) (h0 : ¬ nO m 10 x = -9) : h_M 94 [.ref 0, fi (x)] m (some (fi (nO m 10 x))) (roC (reC m) x) := h_M_of (R := ev_r94) rfl (fun hc hw hm => by
  have hL : f_L (lv_args 0 [.ref 0, fi (x)]) [(0, .ref 0), (1, fi (x))] := f_L_of rfl
  generalize lv_args 0 [.ref 0, fi (x)] = L at hL
  show x_W none (1, 0, 3, 1, 10, 4, 86, 0, 0, ev_t94) 0 L [] hc 0 0 _
  have hR := gi_R hm
  refine f_aln 0 rfl hL rfl ?_
  refine m_gfr so0 rfl hw rfl (by decide) ?_
  refine f_iln 1 rfl hL rfl ?_
  refine m_k1 (t49 hp.2 rx) hw hm rfl rfl rfl (m_ar so3 hw rfl) rfl (fun hc1 hw1 hm1 => ?_)
  refine f_if rfl (bI_r _) (fun _ => ?_) (fun c_9 => absurd (show ¬ (bI (decide (0 ≤ x ∧ x < m 3 6)) : Int) = (0 : Int) from (by rw [decide_eq_true hx]; decide)) c_9)
  refine f_aln 0 rfl hL rfl ?_
  refine m_gfr so0 rfl hw1 rfl (by decide) ?_
  refine f_iln 1 rfl hL rfl ?_
  refine m_k1 (t53_9 hp rx) hw1 hm1 rfl rfl rfl (m_ar so9 hw1 rfl) rfl (fun hc2 hw2 hm2 => ?_)
  refine f_istn [(2, fi (nO m 10 x)), (0, .ref 0), (1, fi (x))] rfl (by decide) hL rfl (fun L1 hL1 => ?_)
  refine f_iln 0 rfl hL1 rfl ?_
  refine f_bipush (n := -9) rfl (by decide) ?_
  refine f_ic rfl (nO_r hR 10 x) (by decide) (fun _ => ?_) (fun c_9 => absurd (show ¬ (nO m 10 x : Int) = (-9 : Int) from h0) c_9)
  refine f_aln 1 rfl hL1 rfl ?_
  refine m_gfr so0 rfl hw2 rfl (by decide) ?_
  refine f_aln 1 rfl hL1 rfl ?_
  refine m_gfr so0 rfl hw2 rfl (by decide) ?_
  refine m_k0 (t70 a1 a2) hw2 hm2 rfl rfl rfl (m_ar so17 hw2 rfl) rfl (fun hc3 hw3 hm3 => ?_)
  refine f_aln 1 rfl hL1 rfl ?_
  refine m_gfr so0 rfl hw3 rfl (by decide) ?_
  refine f_iln 2 rfl hL1 rfl ?_
  refine m_k0 (t93 (m := reC m) (by rw [reC_c a1 a2 (by omega)]; exact hp) rx (by unfold nO; rw [reC_c a1 a2 (by omega), reC_c a1 a2 (by omega)]; exact h0)) hw3 hm3 rfl rfl rfl (m_ar so9 hw3 rfl) rfl (fun hc4 hw4 hm4 => ?_)
  refine f_iln 0 rfl hL1 rfl ?_
  exact f_ret1 rfl ⟨rfl, hw4, hm4⟩)
theorem t95_un {m : Nat → Nat → Int} (hp : 0 ≤ m 55 1 ∧ m 55 1 ≤ 5) {x : Int} (rx : -2147483648 ≤ x ∧ x ≤ 2147483647) (h0 : ¬ (0 ≤ x ∧ x < m 55 1)) : h_M 95 [.ref 55, fi (x)] m (some (fi (-1))) m := h_M_of (R := ev_r95) rfl (fun hc hw hm => by
  have hL : f_L (lv_args 0 [.ref 55, fi (x)]) [(0, .ref 55), (1, fi (x))] := f_L_of rfl
  generalize lv_args 0 [.ref 55, fi (x)] = L at hL
  show x_W none (1, 0, 3, 1, 11, 2, 46, 0, 0, ev_t95) 0 L [] hc 0 0 _
  have hR := gi_R hm
  refine f_aln 0 rfl hL rfl ?_
  refine f_iln 1 rfl hL rfl ?_
  refine m_k1 (t61 hp.1 hp.2 rx) hw hm rfl rfl rfl (m_ar so55 hw rfl) rfl (fun hc1 hw1 hm1 => ?_)
  refine f_if rfl (bI_r _) (fun c_9 => absurd (show ¬ (bI (decide (0 ≤ x ∧ x < m 55 1)) : Int) = (0 : Int) from c_9) (by rw [decide_eq_false h0]; exact fun z => z rfl)) (fun _ => ?_)
  refine f_s [fi (-1)] rfl rfl ?_
  exact f_ret1 rfl ⟨rfl, hw1, hm1⟩)
theorem t95_st {m : Nat → Nat → Int} (hp : 0 ≤ m 55 1 ∧ m 55 1 ≤ 5) {x : Int} (rx : -2147483648 ≤ x ∧ x ≤ 2147483647) (hx : 0 ≤ x ∧ x < m 55 1) (h0 : m 61 x.toNat = -9) : h_M 95 [.ref 55, fi (x)] m (some (fi (-3))) m := h_M_of (R := ev_r95) rfl (fun hc hw hm => by
  have hL : f_L (lv_args 0 [.ref 55, fi (x)]) [(0, .ref 55), (1, fi (x))] := f_L_of rfl
  generalize lv_args 0 [.ref 55, fi (x)] = L at hL
  show x_W none (1, 0, 3, 1, 11, 2, 46, 0, 0, ev_t95) 0 L [] hc 0 0 _
  have hR := gi_R hm
  have ez : (0 + x).toNat = x.toNat := by omega
  refine f_aln 0 rfl hL rfl ?_
  refine f_iln 1 rfl hL rfl ?_
  refine m_k1 (t61 hp.1 hp.2 rx) hw hm rfl rfl rfl (m_ar so55 hw rfl) rfl (fun hc1 hw1 hm1 => ?_)
  refine f_if rfl (bI_r _) (fun _ => ?_) (fun c_9 => absurd (show ¬ (bI (decide (0 ≤ x ∧ x < m 55 1)) : Int) = (0 : Int) from (by rw [decide_eq_true hx]; decide)) c_9)
  refine f_aln 0 rfl hL rfl ?_
  refine m_gfr so55 rfl hw1 rfl (by decide) ?_
  refine f_iln 1 rfl hL rfl ?_
  refine m_ia sa61 (m 61 (x).toNat) rfl hw1 hm1 (by omega) (by omega) (by decide) rfl ?_
  refine f_bipush (n := -9) rfl (by decide) ?_
  refine f_ic rfl (hR 61 _) (by decide) (fun c_9 => absurd (show ¬ (m 61 (x).toNat : Int) = (-9 : Int) from c_9) (fun z => z h0)) (fun _ => ?_)
  refine f_bipush (n := -3) rfl (by decide) ?_
  exact f_ret1 rfl ⟨rfl, hw1, hm1⟩)
def roM (m : Nat → Nat → Int) (x : Int) : Nat → Nat → Int := (up (up (up (up (kaM m) 61 x.toNat (-9)) 61 (5 + x).toNat 0) 61 15 (iO (m 61 15) (iS (1) (m 61 (x).toNat)))) 61 16 (iO (m 61 16) (iS (1) (x))))
theorem t95_ok {m : Nat → Nat → Int} (hp : 0 ≤ m 55 1 ∧ m 55 1 ≤ 5) (x1 : 0 ≤ m 55 17 ∧ m 55 17 ≤ 13) (x2 : 0 ≤ m 55 16 ∧ m 55 16 ≤ 14) {x : Int} (rx : -2147483648 ≤ x ∧ x ≤ 2147483647) (hx : 0 ≤ x ∧ x < m 55 1) (h0 : ¬ m 61 x.toNat = -9) : h_M 95 [.ref 55, fi (x)] m (some (fi (m 61 x.toNat))) (roM m x) := h_M_of (R := ev_r95) rfl (fun hc hw hm => by
  have hL : f_L (lv_args 0 [.ref 55, fi (x)]) [(0, .ref 55), (1, fi (x))] := f_L_of rfl
  generalize lv_args 0 [.ref 55, fi (x)] = L at hL
  show x_W none (1, 0, 3, 1, 11, 2, 46, 0, 0, ev_t95) 0 L [] hc 0 0 _
  have hR := gi_R hm
  have ez : (0 + x).toNat = x.toNat := by omega
  refine f_aln 0 rfl hL rfl ?_
  refine f_iln 1 rfl hL rfl ?_
  refine m_k1 (t61 hp.1 hp.2 rx) hw hm rfl rfl rfl (m_ar so55 hw rfl) rfl (fun hc1 hw1 hm1 => ?_)
  refine f_if rfl (bI_r _) (fun _ => ?_) (fun c_9 => absurd (show ¬ (bI (decide (0 ≤ x ∧ x < m 55 1)) : Int) = (0 : Int) from (by rw [decide_eq_true hx]; decide)) c_9)
  refine f_aln 0 rfl hL rfl ?_
  refine m_gfr so55 rfl hw1 rfl (by decide) ?_
  refine f_iln 1 rfl hL rfl ?_
  refine m_ia sa61 (m 61 (x).toNat) rfl hw1 hm1 (by omega) (by omega) (by decide) rfl ?_
  refine f_bipush (n := -9) rfl (by decide) ?_
  refine f_ic rfl (hR 61 _) (by decide) (fun _ => ?_) (fun c_9 => absurd (show ¬ (m 61 (x).toNat : Int) = (-9 : Int) from h0) c_9)
  refine f_aln 0 rfl hL rfl ?_
  refine m_k0 (t78 x1 x2) hw1 hm1 rfl rfl rfl (m_ar so55 hw1 rfl) rfl (fun hc2 hw2 hm2 => ?_)
  have e61 : kaM m 61 x.toNat = m 61 x.toNat := kaM_c (by decide) (Or.inl (by decide))
  refine f_aln 0 rfl hL rfl ?_
  refine m_gfr so55 rfl hw2 rfl (by decide) ?_
  refine f_iln 1 rfl hL rfl ?_
  refine m_ia sa61 (m 61 (x).toNat) rfl hw2 hm2 (by omega) (by omega) (by decide) e61 ?_
  refine f_istn [(2, fi (m 61 (x).toNat)), (0, .ref 55), (1, fi (x))] rfl (by decide) hL rfl (fun L1 hL1 => ?_)
  refine f_aln 1 rfl hL1 rfl ?_
  refine f_s [fi (0), .ref 55] rfl rfl ?_
  refine f_iln 2 rfl hL1 rfl ?_
  refine f_bipush (n := -9) rfl (by decide) ?_
  refine m_k0 (show h_M 79 [.ref 55, fi (0), fi (x), fi (-9)] (kaM m) none (up (up (kaM m) 61 x.toNat (-9)) 61 (5 + x).toNat 0) from ez ▸ t79_0 (m := kaM m) (p := x) (k := -9) hx.1 (by omega) (by decide)) hw2 hm2 rfl rfl rfl (m_ar so55 hw2 rfl) rfl (fun hc3 hw3 hm3 => ?_)
  have e15 : (up (up (kaM m) 61 x.toNat (-9)) 61 (5 + x).toNat 0) 61 15 = m 61 15 := by rw [up_ne (by omega), up_ne (by omega)]; exact kaM_c (by decide) (Or.inl (by decide))
  have e16 : (up (up (up (kaM m) 61 x.toNat (-9)) 61 (5 + x).toNat 0) 61 15 (iO (m 61 15) (iS (1) (m 61 (x).toNat)))) 61 16 = m 61 16 := by rw [up_ne (by decide), up_ne (by omega), up_ne (by omega)]; exact kaM_c (by decide) (Or.inl (by decide))
  refine f_aln 1 rfl hL1 rfl ?_
  refine m_gfr so55 rfl hw3 rfl (by decide) ?_
  refine f_bipush (n := 15) rfl (by decide) ?_
  refine f_s [fi (15), .ref 61, fi (15), .ref 61] rfl rfl ?_
  refine m_ia sa61 (m 61 15) rfl hw3 hm3 (by omega) (by omega) (by decide) e15 ?_
  refine f_s [fi (1), fi (m 61 15), fi (15), .ref 61] rfl rfl ?_
  refine f_iln 0 rfl hL1 rfl ?_
  refine b_ishl rfl ?_
  refine b_ior rfl ?_
  refine m_ias sa61 rfl hw3 hm3 (by omega) (by omega) (by decide) iO_r (fun hc4 hw4 hm4 => ?_)
  refine f_aln 1 rfl hL1 rfl ?_
  refine m_gfr so55 rfl hw4 rfl (by decide) ?_
  refine f_bipush (n := 16) rfl (by decide) ?_
  refine f_s [fi (16), .ref 61, fi (16), .ref 61] rfl rfl ?_
  refine m_ia sa61 (m 61 16) rfl hw4 hm4 (by omega) (by omega) (by decide) e16 ?_
  refine f_s [fi (1), fi (m 61 16), fi (16), .ref 61] rfl rfl ?_
  refine f_iln 2 rfl hL1 rfl ?_
  refine b_ishl rfl ?_
  refine b_ior rfl ?_
  refine m_ias sa61 rfl hw4 hm4 (by omega) (by omega) (by decide) iO_r (fun hc5 hw5 hm5 => ?_)
  refine f_iln 0 rfl hL1 rfl ?_
  exact f_ret1 rfl ⟨rfl, hw5, hm5⟩)
theorem t89 {m : Nat → Nat → Int} (hn : 0 ≤ m 3 5 ∧ m 3 5 ≤ 4) (hp : 0 ≤ m 3 6 ∧ m 3 6 ≤ 5) (a1 : 0 ≤ m 17 1 ∧ m 17 1 ≤ 13) (a2 : 0 ≤ m 17 2 ∧ m 17 2 ≤ 14) : h_M 89 [.ref 0] m (some (fi (bC (iA (ngS (reC m) 9 ((reC m) 9 6)) (iX (sbS (reC m) 10) (-1)))))) (phC9 (reC m)) := h_M_of (R := ev_r89) rfl (fun hc hw hm => by
  have hL : f_L (lv_args 0 [.ref 0]) [(0, .ref 0)] := f_L_of rfl
  generalize lv_args 0 [.ref 0] = L at hL
  show x_W none (1, 0, 1, 0, 10, 5, 111, 0, 0, ev_t89) 0 L [] hc 0 0 _
  have hR := gi_R hm
  refine f_aln 0 rfl hL rfl ?_
  refine m_gfr so0 rfl hw rfl (by decide) ?_
  refine f_aln 0 rfl hL rfl ?_
  refine m_gfr so0 rfl hw rfl (by decide) ?_
  refine m_k0 (t70 a1 a2) hw hm rfl rfl rfl (m_ar so17 hw rfl) rfl (fun hc1 hw1 hm1 => ?_)
  refine f_aln 0 rfl hL rfl ?_
  refine m_gfr so0 rfl hw1 rfl (by decide) ?_
  refine m_k1 (t88_9 (m := reC m) (by rw [reC_c a1 a2 (by omega)]; exact hn) (by rw [reC_c a1 a2 (by omega)]; exact hp)) hw1 hm1 rfl rfl rfl (m_ar so9 hw1 rfl) rfl (fun hc2 hw2 hm2 => ?_)
  exact f_ret1 rfl ⟨rfl, hw2, hm2⟩)
theorem t92 {m : Nat → Nat → Int} (hJ : jM0 m) (x1 : 0 ≤ m 55 17 ∧ m 55 17 ≤ 13) (x2 : 0 ≤ m 55 16 ∧ m 55 16 ≤ 14) : h_M 92 [.ref 55] m (some (fi ((l1_0_0 (kaM m) 0).2))) (l1_0_0 (kaM m) 0).1 := h_M_of (R := ev_r92) rfl (fun hc hw hm => by
  have hL : f_L (lv_args 0 [.ref 55]) [(0, .ref 55)] := f_L_of rfl
  generalize lv_args 0 [.ref 55] = L at hL
  show x_W none (1, 0, 1, 0, 11, 4, 91, 0, 0, ev_t92) 0 L [] hc 0 0 _
  have hR := gi_R hm
  refine f_aln 0 rfl hL rfl ?_
  refine m_k0 (t78 x1 x2) hw hm rfl rfl rfl (m_ar so55 hw rfl) rfl (fun hc1 hw1 hm1 => ?_)
  refine f_aln 0 rfl hL rfl ?_
  refine f_s [fi (0), .ref 55] rfl rfl ?_
  have hJ9 : jM0 (kaM m) := ⟨by rw [kaM_c (by decide) (Or.inr ⟨by decide, by decide⟩)]; exact hJ.1, by rw [kaM_c (by decide) (Or.inr ⟨by decide, by decide⟩)]; exact hJ.2.1, fun i h1 h2 => by rw [kaM_c (by decide) (Or.inr ⟨by decide, by decide⟩)] at h2; rw [kaM_c (by decide) (Or.inl (by decide))]; exact hJ.2.2 i h1 h2⟩
  refine m_k1 (t91_0 (m := kaM m) hJ9) hw1 hm1 rfl rfl rfl (m_ar so55 hw1 rfl) rfl (fun hc2 hw2 hm2 => ?_)
  exact f_ret1 rfl ⟨rfl, hw2, hm2⟩)
theorem t99_no {m : Nat → Nat → Int} (a1 : 0 ≤ m 17 1 ∧ m 17 1 ≤ 13) (a2 : 0 ≤ m 17 2 ∧ m 17 2 ≤ 14) (h0 : m 17 2 < 1) : h_M 99 [.ref 0] m (some (fi (-3))) m := h_M_of (R := ev_r99) rfl (fun hc hw hm => by
  have hL : f_L (lv_args 0 [.ref 0]) [(0, .ref 0)] := f_L_of rfl
  generalize lv_args 0 [.ref 0] = L at hL
  show x_W none (1, 0, 1, 0, 10, 3, 68, 0, 0, ev_t99) 0 L [] hc 0 0 _
  have hR := gi_R hm
  refine f_aln 0 rfl hL rfl ?_
  refine m_gfr so0 rfl hw rfl (by decide) ?_
  refine f_aln 0 rfl hL rfl ?_
  refine m_gfr so0 rfl hw rfl (by decide) ?_
  refine m_k1 (t97_no a1 a2 h0) hw hm rfl rfl rfl (m_ar so17 hw rfl) rfl (fun hc1 hw1 hm1 => ?_)
  refine f_if rfl (by decide) (fun _ => ?_) (fun c_9 => absurd (show (0 : Int) = (0 : Int) from (by decide)) c_9)
  refine f_bipush (n := -3) rfl (by decide) ?_
  exact f_ret1 rfl ⟨rfl, hw1, hm1⟩)
theorem t99_ok {m : Nat → Nat → Int} (a1 : 0 ≤ m 17 1 ∧ m 17 1 ≤ 13) (a2 : 0 ≤ m 17 2 ∧ m 17 2 ≤ 14) (h0 : ¬ m 17 2 < 1) : h_M 99 [.ref 0] m (some (fi ((tbC m) 17 2))) (tbC m) := h_M_of (R := ev_r99) rfl (fun hc hw hm => by
  have hL : f_L (lv_args 0 [.ref 0]) [(0, .ref 0)] := f_L_of rfl
  generalize lv_args 0 [.ref 0] = L at hL
  show x_W none (1, 0, 1, 0, 10, 3, 68, 0, 0, ev_t99) 0 L [] hc 0 0 _
  have hR := gi_R hm
  refine f_aln 0 rfl hL rfl ?_
  refine m_gfr so0 rfl hw rfl (by decide) ?_
  refine f_aln 0 rfl hL rfl ?_
  refine m_gfr so0 rfl hw rfl (by decide) ?_
  refine m_k1 (t97_ok a1 a2 h0) hw hm rfl rfl rfl (m_ar so17 hw rfl) rfl (fun hc1 hw1 hm1 => ?_)
  refine f_if rfl (by decide) (fun c_9 => absurd (show (1 : Int) = (0 : Int) from c_9) (by decide)) (fun _ => ?_)
  refine f_aln 0 rfl hL rfl ?_
  refine m_gfr so0 rfl hw1 rfl (by decide) ?_
  refine m_k1 t98 hw1 hm1 rfl rfl rfl (m_ar so17 hw1 rfl) rfl (fun hc2 hw2 hm2 => ?_)
  refine f_goto rfl ?_
  exact f_ret1 rfl ⟨rfl, hw2, hm2⟩)
theorem t194_no {m : Nat → Nat → Int} {x : Int} (rx : -2147483648 ≤ x ∧ x ≤ 2147483647) (h0 : ¬ (0 ≤ x ∧ x < 2)) : h_M 194 [.ref 0, fi (x)] m (some (fi (-1))) m := h_M_of (R := ev_r194) rfl (fun hc hw hm => by
  have hL : f_L (lv_args 0 [.ref 0, fi (x)]) [(0, .ref 0), (1, fi (x))] := f_L_of rfl
  generalize lv_args 0 [.ref 0, fi (x)] = L at hL
  show x_W none (1, 0, 2, 1, 10, 3, 69, 0, 0, ev_t194) 0 L [] hc 0 0 _
  have hR := gi_R hm
  refine f_aln 0 rfl hL rfl ?_
  refine m_gfr so0 rfl hw rfl (by decide) ?_
  refine f_iln 1 rfl hL rfl ?_
  refine f_aln 0 rfl hL rfl ?_
  refine m_gfr so0 rfl hw rfl (by decide) ?_
  refine m_k1 (t192_no rx h0) hw hm rfl rfl rfl (m_ar so33 hw rfl) rfl (fun hc1 hw1 hm1 => ?_)
  refine f_if rfl (by decide) (fun _ => ?_) (fun c_9 => absurd (show (0 : Int) = (0 : Int) from (by decide)) c_9)
  refine f_s [fi (-1)] rfl rfl ?_
  exact f_ret1 rfl ⟨rfl, hw1, hm1⟩)
theorem t194_ok {m : Nat → Nat → Int} {x : Int} (rx : -2147483648 ≤ x ∧ x ≤ 2147483647) (h0 : 0 ≤ x ∧ x < 2) : h_M 194 [.ref 0, fi (x)] m (some (fi ((keC m x) 9 6))) (keC m x) := h_M_of (R := ev_r194) rfl (fun hc hw hm => by
  have hL : f_L (lv_args 0 [.ref 0, fi (x)]) [(0, .ref 0), (1, fi (x))] := f_L_of rfl
  generalize lv_args 0 [.ref 0, fi (x)] = L at hL
  show x_W none (1, 0, 2, 1, 10, 3, 69, 0, 0, ev_t194) 0 L [] hc 0 0 _
  have hR := gi_R hm
  refine f_aln 0 rfl hL rfl ?_
  refine m_gfr so0 rfl hw rfl (by decide) ?_
  refine f_iln 1 rfl hL rfl ?_
  refine f_aln 0 rfl hL rfl ?_
  refine m_gfr so0 rfl hw rfl (by decide) ?_
  refine m_k1 (t192_ok rx h0) hw hm rfl rfl rfl (m_ar so33 hw rfl) rfl (fun hc1 hw1 hm1 => ?_)
  refine f_if rfl (by decide) (fun c_9 => absurd (show (1 : Int) = (0 : Int) from c_9) (by decide)) (fun _ => ?_)
  refine f_aln 0 rfl hL rfl ?_
  refine m_gfr so0 rfl hw1 rfl (by decide) ?_
  refine m_k1 t193_9 hw1 hm1 rfl rfl rfl (m_ar so9 hw1 rfl) rfl (fun hc2 hw2 hm2 => ?_)
  refine f_goto rfl ?_
  exact f_ret1 rfl ⟨rfl, hw2, hm2⟩)
theorem t197_un {m : Nat → Nat → Int} {x : Int} (rx : -2147483648 ≤ x ∧ x ≤ 2147483647) (h0 : ¬ (0 ≤ x ∧ x < 2)) : h_M 197 [.ref 0, fi (x)] m (some (fi (-1))) m := h_M_of (R := ev_r197) rfl (fun hc hw hm => by
  have hL : f_L (lv_args 0 [.ref 0, fi (x)]) [(0, .ref 0), (1, fi (x))] := f_L_of rfl
  generalize lv_args 0 [.ref 0, fi (x)] = L at hL
  show x_W none (1, 0, 2, 1, 10, 3, 69, 0, 0, ev_t197) 0 L [] hc 0 0 _
  have hR := gi_R hm
  refine f_aln 0 rfl hL rfl ?_
  refine m_gfr so0 rfl hw rfl (by decide) ?_
  refine f_iln 1 rfl hL rfl ?_
  refine m_k1 (t191 rx) hw hm rfl rfl rfl (m_ar so33 hw rfl) rfl (fun hc1 hw1 hm1 => ?_)
  refine f_if rfl (bI_r _) (fun c_9 => absurd (show ¬ (bI (decide (0 ≤ x ∧ x < 2)) : Int) = (0 : Int) from c_9) (by rw [decide_eq_false h0]; exact fun z => z rfl)) (fun _ => ?_)
  refine f_s [fi (-1)] rfl rfl ?_
  exact f_ret1 rfl ⟨rfl, hw1, hm1⟩)
theorem t197_st {m : Nat → Nat → Int} {x : Int} (rx : -2147483648 ≤ x ∧ x ≤ 2147483647) (h0 : 0 ≤ x ∧ x < 2) (h1 : m 37 x.toNat = 0) : h_M 197 [.ref 0, fi (x)] m (some (fi (-3))) m := h_M_of (R := ev_r197) rfl (fun hc hw hm => by
  have hL : f_L (lv_args 0 [.ref 0, fi (x)]) [(0, .ref 0), (1, fi (x))] := f_L_of rfl
  generalize lv_args 0 [.ref 0, fi (x)] = L at hL
  show x_W none (1, 0, 2, 1, 10, 3, 69, 0, 0, ev_t197) 0 L [] hc 0 0 _
  have hR := gi_R hm
  refine f_aln 0 rfl hL rfl ?_
  refine m_gfr so0 rfl hw rfl (by decide) ?_
  refine f_iln 1 rfl hL rfl ?_
  refine m_k1 (t191 rx) hw hm rfl rfl rfl (m_ar so33 hw rfl) rfl (fun hc1 hw1 hm1 => ?_)
  refine f_if rfl (bI_r _) (fun _ => ?_) (fun c_9 => absurd (show ¬ (bI (decide (0 ≤ x ∧ x < 2)) : Int) = (0 : Int) from (by rw [decide_eq_true h0]; decide)) c_9)
  refine f_aln 0 rfl hL rfl ?_
  refine m_gfr so0 rfl hw1 rfl (by decide) ?_
  refine f_iln 1 rfl hL rfl ?_
  refine f_aln 0 rfl hL rfl ?_
  refine m_gfr so0 rfl hw1 rfl (by decide) ?_
  refine m_k1 (t196_no rx h0 (kv := m 37 x.toNat) rfl (hR _ _) h1) hw1 hm1 rfl rfl rfl (m_ar so33 hw1 rfl) rfl (fun hc2 hw2 hm2 => ?_)
  refine f_if rfl (by decide) (fun c_9 => absurd (show ¬ (0 : Int) = (0 : Int) from c_9) (by decide)) (fun _ => ?_)
  refine f_bipush (n := -3) rfl (by decide) ?_
  exact f_ret1 rfl ⟨rfl, hw2, hm2⟩)
theorem t197_ok {m : Nat → Nat → Int} {x : Int} (rx : -2147483648 ≤ x ∧ x ≤ 2147483647) (h0 : 0 ≤ x ∧ x < 2) (h1 : ¬ m 37 x.toNat = 0) : h_M 197 [.ref 0, fi (x)] m (some (fi ((agC m x) 9 6))) (agC m x) := h_M_of (R := ev_r197) rfl (fun hc hw hm => by
  have hL : f_L (lv_args 0 [.ref 0, fi (x)]) [(0, .ref 0), (1, fi (x))] := f_L_of rfl
  generalize lv_args 0 [.ref 0, fi (x)] = L at hL
  show x_W none (1, 0, 2, 1, 10, 3, 69, 0, 0, ev_t197) 0 L [] hc 0 0 _
  have hR := gi_R hm
  refine f_aln 0 rfl hL rfl ?_
  refine m_gfr so0 rfl hw rfl (by decide) ?_
  refine f_iln 1 rfl hL rfl ?_
  refine m_k1 (t191 rx) hw hm rfl rfl rfl (m_ar so33 hw rfl) rfl (fun hc1 hw1 hm1 => ?_)
  refine f_if rfl (bI_r _) (fun _ => ?_) (fun c_9 => absurd (show ¬ (bI (decide (0 ≤ x ∧ x < 2)) : Int) = (0 : Int) from (by rw [decide_eq_true h0]; decide)) c_9)
  refine f_aln 0 rfl hL rfl ?_
  refine m_gfr so0 rfl hw1 rfl (by decide) ?_
  refine f_iln 1 rfl hL rfl ?_
  refine f_aln 0 rfl hL rfl ?_
  refine m_gfr so0 rfl hw1 rfl (by decide) ?_
  refine m_k1 (t196_ok rx h0 (kv := m 37 x.toNat) rfl (hR _ _) h1) hw1 hm1 rfl rfl rfl (m_ar so33 hw1 rfl) rfl (fun hc2 hw2 hm2 => ?_)
  refine f_if rfl (by decide) (fun _ => ?_) (fun c_9 => absurd (show ¬ (1 : Int) = (0 : Int) from (by decide)) c_9)
  refine f_aln 0 rfl hL rfl ?_
  refine m_gfr so0 rfl hw2 rfl (by decide) ?_
  refine m_k0 t34 hw2 hm2 rfl rfl rfl (m_ar so17 hw2 rfl) rfl (fun hc3 hw3 hm3 => ?_)
  refine f_aln 0 rfl hL rfl ?_
  refine m_gfr so0 rfl hw3 rfl (by decide) ?_
  refine m_k1 t193_9 hw3 hm3 rfl rfl rfl (m_ar so9 hw3 rfl) rfl (fun hc4 hw4 hm4 => ?_)
  exact f_ret1 rfl ⟨rfl, hw4, hm4⟩)
def cnC (m : Nat → Nat → Int) (k : Int) : Int := if k = 0 then m 1 1 else if k = 1 then m 3 5 else if k = 2 then m 3 6 else if k = 3 then m 9 6 else if k = 4 then ngS m 9 (m 9 6) else if k = 5 then sbS m 10 else if k = 6 then ((((0 + (m 12 0)) + (m 12 1)) + (m 12 2)) + (m 12 3)) + (m 12 4) else if k = 7 then m 17 2 else if k = 8 then m 38 2 else -2
theorem t200 {m : Nat → Nat → Int} (hn : 0 ≤ m 3 5 ∧ m 3 5 ≤ 4) (hp : 0 ≤ m 3 6 ∧ m 3 6 ≤ 5) {k : Int} (rk : -2147483648 ≤ k ∧ k ≤ 2147483647) : h_M 200 [.ref 0, fi (k)] m (some (fi (cnC m k))) m := h_M_of (R := ev_r200) rfl (fun hc hw hm => by
  have hL : f_L (lv_args 0 [.ref 0, fi (k)]) [(0, .ref 0), (1, fi (k))] := f_L_of rfl
  generalize lv_args 0 [.ref 0, fi (k)] = L at hL
  show x_W none (1, 0, 2, 1, 10, 4, 89, 0, 0, ev_t200) 0 L [] hc 0 0 _
  have hR := gi_R hm
  refine f_iln 1 rfl hL rfl ?_
  have hts : k = 0 ∨ k = 1 ∨ k = 2 ∨ k = 3 ∨ k = 4 ∨ k = 5 ∨ k = 6 ∨ k = 7 ∨ k = 8 ∨ (k < 0 ∨ 8 < k) := by omega
  rcases hts with hk | hk | hk | hk | hk | hk | hk | hk | hk | hk
  · refine x_W_j (pc' := 52) (st' := []) rfl (by rw [hk]; rfl) ?_
    refine f_aln 0 rfl hL rfl ?_
    refine m_gfr so0 rfl hw rfl (by decide) ?_
    refine m_k1 t13 hw hm rfl rfl rfl (m_ar so1 hw rfl) rfl (fun hc1 hw1 hm1 => ?_)
    exact f_ret1 rfl ⟨by unfold cnC; rw [if_pos hk], hw1, hm1⟩
  · refine x_W_j (pc' := 60) (st' := []) rfl (by rw [hk]; rfl) ?_
    refine f_aln 0 rfl hL rfl ?_
    refine m_gfr so0 rfl hw rfl (by decide) ?_
    refine m_k1 t36 hw hm rfl rfl rfl (m_ar so3 hw rfl) rfl (fun hc2 hw2 hm2 => ?_)
    exact f_ret1 rfl ⟨by unfold cnC; rw [if_neg (by omega), if_pos hk], hw2, hm2⟩
  · refine x_W_j (pc' := 68) (st' := []) rfl (by rw [hk]; rfl) ?_
    refine f_aln 0 rfl hL rfl ?_
    refine m_gfr so0 rfl hw rfl (by decide) ?_
    refine m_k1 t37 hw hm rfl rfl rfl (m_ar so3 hw rfl) rfl (fun hc3 hw3 hm3 => ?_)
    exact f_ret1 rfl ⟨by unfold cnC; rw [if_neg (by omega), if_neg (by omega), if_pos hk], hw3, hm3⟩
  · refine x_W_j (pc' := 76) (st' := []) rfl (by rw [hk]; rfl) ?_
    refine f_aln 0 rfl hL rfl ?_
    refine m_gfr so0 rfl hw rfl (by decide) ?_
    refine m_k1 t193_9 hw hm rfl rfl rfl (m_ar so9 hw rfl) rfl (fun hc4 hw4 hm4 => ?_)
    exact f_ret1 rfl ⟨by unfold cnC; rw [if_neg (by omega), if_neg (by omega), if_neg (by omega), if_pos hk], hw4, hm4⟩
  · refine x_W_j (pc' := 84) (st' := []) rfl (by rw [hk]; rfl) ?_
    refine f_aln 0 rfl hL rfl ?_
    refine m_gfr so0 rfl hw rfl (by decide) ?_
    refine f_aln 0 rfl hL rfl ?_
    refine m_gfr so0 rfl hw rfl (by decide) ?_
    refine m_k1 t193_9 hw hm rfl rfl rfl (m_ar so9 hw rfl) rfl (fun hc5 hw5 hm5 => ?_)
    refine m_k1 (t86_9 hp (hR 9 6)) hw5 hm5 rfl rfl rfl (m_ar so9 hw5 rfl) rfl (fun hc6 hw6 hm6 => ?_)
    exact f_ret1 rfl ⟨by unfold cnC; rw [if_neg (by omega), if_neg (by omega), if_neg (by omega), if_neg (by omega), if_pos hk], hw6, hm6⟩
  · refine x_W_j (pc' := 99) (st' := []) rfl (by rw [hk]; rfl) ?_
    refine f_aln 0 rfl hL rfl ?_
    refine m_gfr so0 rfl hw rfl (by decide) ?_
    refine m_k1 (t57_9 hn) hw hm rfl rfl rfl (m_ar so9 hw rfl) rfl (fun hc7 hw7 hm7 => ?_)
    exact f_ret1 rfl ⟨by unfold cnC; rw [if_neg (by omega), if_neg (by omega), if_neg (by omega), if_neg (by omega), if_neg (by omega), if_pos hk], hw7, hm7⟩
  · refine x_W_j (pc' := 107) (st' := []) rfl (by rw [hk]; rfl) ?_
    refine f_aln 0 rfl hL rfl ?_
    refine m_gfr so0 rfl hw rfl (by decide) ?_
    refine m_k1 t199_9 hw hm rfl rfl rfl (m_ar so9 hw rfl) rfl (fun hc8 hw8 hm8 => ?_)
    exact f_ret1 rfl ⟨by unfold cnC; rw [if_neg (by omega), if_neg (by omega), if_neg (by omega), if_neg (by omega), if_neg (by omega), if_neg (by omega), if_pos hk], hw8, hm8⟩
  · refine x_W_j (pc' := 115) (st' := []) rfl (by rw [hk]; rfl) ?_
    refine f_aln 0 rfl hL rfl ?_
    refine m_gfr so0 rfl hw rfl (by decide) ?_
    refine m_k1 t98 hw hm rfl rfl rfl (m_ar so17 hw rfl) rfl (fun hc9 hw9 hm9 => ?_)
    exact f_ret1 rfl ⟨by unfold cnC; rw [if_neg (by omega), if_neg (by omega), if_neg (by omega), if_neg (by omega), if_neg (by omega), if_neg (by omega), if_neg (by omega), if_pos hk], hw9, hm9⟩
  · refine x_W_j (pc' := 123) (st' := []) rfl (by rw [hk]; rfl) ?_
    refine f_aln 0 rfl hL rfl ?_
    refine m_gfr so0 rfl hw rfl (by decide) ?_
    refine m_k1 t146 hw hm rfl rfl rfl (m_ar so38 hw rfl) rfl (fun hc10 hw10 hm10 => ?_)
    exact f_ret1 rfl ⟨by unfold cnC; rw [if_neg (by omega), if_neg (by omega), if_neg (by omega), if_neg (by omega), if_neg (by omega), if_neg (by omega), if_neg (by omega), if_neg (by omega), if_pos hk], hw10, hm10⟩
  · refine m_tsd (pc' := 131) rfl rk hk rfl ?_
    refine f_bipush (n := -2) rfl (by decide) ?_
    exact f_ret1 rfl ⟨by unfold cnC; rw [if_neg (by omega), if_neg (by omega), if_neg (by omega), if_neg (by omega), if_neg (by omega), if_neg (by omega), if_neg (by omega), if_neg (by omega), if_neg (by omega)], hw, hm⟩)
def as1 (m : Nat → Nat → Int) (x : Int) (i : Nat) (s a : Int) : Int := if x < m 55 1 then iO a (if ¬ iA (iR (m 61 16) x) 1 = 1 ∧ m 58 i ≤ m 61 17 ∧ m 61 17 ≤ m 59 i then s else 0) else a
def sy1 (m : Nat → Nat → Int) (x : Int) (i : Nat) (s a : Int) : Int := if x < m 55 1 then iO a (if ¬ sbM0 m (m 61 i) = 0 then s else 0) else a
def cnS (m : Nat → Nat → Int) (k a s : Int) : Int := if k = 0 then m 55 13 else if k = 1 then m 55 0 else if k = 2 then m 55 1 else if k = 3 then m 61 17 else if k = 4 then a else if k = 5 then s else if k = 6 then aw1 m 14 4 (aw1 m 13 3 (aw1 m 12 2 (aw1 m 11 1 (aw1 m 10 0 (0))))) else if k = 7 then m 55 16 else if k = 8 then m 55 21 else -2
def cnM (m : Nat → Nat → Int) (k : Int) : Int := cnS m k (as1 m 4 4 (iS 1 4) (as1 m 3 3 (iS 1 3) (as1 m 2 2 (iS 1 2) (as1 m 1 1 (iS 1 1) (as1 m 0 0 (iS 1 0) (0)))))) (sy1 m 4 4 (iS 1 4) (sy1 m 3 3 (iS 1 3) (sy1 m 2 2 (iS 1 2) (sy1 m 1 1 (iS 1 1) (sy1 m 0 0 (iS 1 0) (0))))))
set_option maxHeartbeats 1000000 in
theorem t201 {m : Nat → Nat → Int} (hJ : jM0 m) {k : Int} (rk : -2147483648 ≤ k ∧ k ≤ 2147483647) : h_M 201 [.ref 55, fi (k)] m (some (fi (cnM m k))) m := h_M_of (R := ev_r201) rfl (fun hc hw hm => by
  have hL : f_L (lv_args 0 [.ref 55, fi (k)]) [(0, .ref 55), (1, fi (k))] := f_L_of rfl
  generalize lv_args 0 [.ref 55, fi (k)] = L at hL
  show x_W none (1, 0, 5, 1, 11, 3, 66, 0, 0, ev_t201) 0 L [] hc 0 0 _
  have hR := gi_R hm
  have hn := hJ.1
  have hp := hJ.2.1
  have hK5 : ∀ (hc : ev_H) (a s : Int) (L : ev_L), y_in yGw hc → gi hc = m → f_L L [(4, fi (5)), (2, fi (a)), (3, fi (s)), (0, .ref 55), (1, fi (k))] → x_W none (1, 0, 5, 1, 11, 3, 66, 0, 0, ev_t201) 7 L [] hc 0 0 (fun r' h' => r' = some (fi (cnS m k (a) (s))) ∧ y_in yGw h' ∧ gi h' = m) := fun hc a s L hw hm hL => by
    refine f_il 0 rfl hL rfl ?_
    refine f_aln 3 rfl hL rfl ?_
    refine m_gfi so55 (m 55 1) rfl hw hm rfl rfl ?_
    refine f_ic rfl (by decide) (by omega) (fun _ => ?_) (fun c_9 => absurd (show (m 55 1 : Int) ≤ (5 : Int) from (by omega)) c_9)
    refine f_iln 4 rfl hL rfl ?_
    have hts : k = 0 ∨ k = 1 ∨ k = 2 ∨ k = 3 ∨ k = 4 ∨ k = 5 ∨ k = 6 ∨ k = 7 ∨ k = 8 ∨ (k < 0 ∨ 8 < k) := by omega
    rcases hts with hk | hk | hk | hk | hk | hk | hk | hk | hk | hk
    · refine x_W_j (pc' := 124) (st' := []) rfl (by rw [hk]; rfl) ?_
      refine f_aln 3 rfl hL rfl ?_
      refine m_gfi so55 (m 55 13) rfl hw hm rfl rfl ?_
      exact f_ret1 rfl ⟨by unfold cnS; rw [if_pos hk], hw, hm⟩
    · refine x_W_j (pc' := 129) (st' := []) rfl (by rw [hk]; rfl) ?_
      refine f_aln 3 rfl hL rfl ?_
      refine m_gfi so55 (m 55 0) rfl hw hm rfl rfl ?_
      exact f_ret1 rfl ⟨by unfold cnS; rw [if_neg (by omega), if_pos hk], hw, hm⟩
    · refine x_W_j (pc' := 134) (st' := []) rfl (by rw [hk]; rfl) ?_
      refine f_aln 3 rfl hL rfl ?_
      refine m_gfi so55 (m 55 1) rfl hw hm rfl rfl ?_
      exact f_ret1 rfl ⟨by unfold cnS; rw [if_neg (by omega), if_neg (by omega), if_pos hk], hw, hm⟩
    · refine x_W_j (pc' := 139) (st' := []) rfl (by rw [hk]; rfl) ?_
      refine f_aln 3 rfl hL rfl ?_
      refine m_gfr so55 rfl hw rfl (by decide) ?_
      refine f_bipush (n := 17) rfl (by decide) ?_
      refine m_ia sa61 (m 61 17) rfl hw hm (by omega) (by omega) (by decide) rfl ?_
      exact f_ret1 rfl ⟨by unfold cnS; rw [if_neg (by omega), if_neg (by omega), if_neg (by omega), if_pos hk], hw, hm⟩
    · refine x_W_j (pc' := 147) (st' := []) rfl (by rw [hk]; rfl) ?_
      refine f_iln 1 rfl hL rfl ?_
      exact f_ret1 rfl ⟨by unfold cnS; rw [if_neg (by omega), if_neg (by omega), if_neg (by omega), if_neg (by omega), if_pos hk], hw, hm⟩
    · refine x_W_j (pc' := 149) (st' := []) rfl (by rw [hk]; rfl) ?_
      refine f_iln 2 rfl hL rfl ?_
      exact f_ret1 rfl ⟨by unfold cnS; rw [if_neg (by omega), if_neg (by omega), if_neg (by omega), if_neg (by omega), if_neg (by omega), if_pos hk], hw, hm⟩
    · refine x_W_j (pc' := 151) (st' := []) rfl (by rw [hk]; rfl) ?_
      refine f_aln 3 rfl hL rfl ?_
      refine f_s [fi (0), .ref 55] rfl rfl ?_
      refine m_k1 (t189_0 hp) hw hm rfl rfl rfl (m_ar so55 hw rfl) rfl (fun hc1 hw1 hm1 => ?_)
      exact f_ret1 rfl ⟨by unfold cnS; rw [if_neg (by omega), if_neg (by omega), if_neg (by omega), if_neg (by omega), if_neg (by omega), if_neg (by omega), if_pos hk], hw1, hm1⟩
    · refine x_W_j (pc' := 157) (st' := []) rfl (by rw [hk]; rfl) ?_
      refine f_aln 3 rfl hL rfl ?_
      refine m_gfi so55 (m 55 16) rfl hw hm rfl rfl ?_
      exact f_ret1 rfl ⟨by unfold cnS; rw [if_neg (by omega), if_neg (by omega), if_neg (by omega), if_neg (by omega), if_neg (by omega), if_neg (by omega), if_neg (by omega), if_pos hk], hw, hm⟩
    · refine x_W_j (pc' := 162) (st' := []) rfl (by rw [hk]; rfl) ?_
      refine f_aln 3 rfl hL rfl ?_
      refine m_gfi so55 (m 55 21) rfl hw hm rfl rfl ?_
      exact f_ret1 rfl ⟨by unfold cnS; rw [if_neg (by omega), if_neg (by omega), if_neg (by omega), if_neg (by omega), if_neg (by omega), if_neg (by omega), if_neg (by omega), if_neg (by omega), if_pos hk], hw, hm⟩
    · refine m_tsd (pc' := 167) rfl rk hk rfl ?_
      refine f_bipush (n := -2) rfl (by decide) ?_
      exact f_ret1 rfl ⟨by unfold cnS; rw [if_neg (by omega), if_neg (by omega), if_neg (by omega), if_neg (by omega), if_neg (by omega), if_neg (by omega), if_neg (by omega), if_neg (by omega), if_neg (by omega)], hw, hm⟩
  have hK4 : ∀ (hc : ev_H) (a s : Int) (L : ev_L), y_in yGw hc → gi hc = m → f_L L [(4, fi (4)), (2, fi (a)), (3, fi (s)), (0, .ref 55), (1, fi (k))] → x_W none (1, 0, 5, 1, 11, 3, 66, 0, 0, ev_t201) 7 L [] hc 0 0 (fun r' h' => r' = some (fi (cnS m k (as1 m 4 4 (iS 1 4) (a)) (sy1 m 4 4 (iS 1 4) (s)))) ∧ y_in yGw h' ∧ gi h' = m) := fun hc a s L hw hm hL => by
    refine f_il 0 rfl hL rfl ?_
    refine f_aln 3 rfl hL rfl ?_
    refine m_gfi so55 (m 55 1) rfl hw hm rfl rfl ?_
    refine f_ic rfl (by decide) (by omega) (fun c1 => ?_) (fun c1 => ?_)
    · have c1 : (m 55 1 : Int) ≤ (4 : Int) := c1
      have e8 : as1 m 4 4 (iS 1 4) (a) = a := by unfold as1; rw [if_neg (by omega)]
      have e7 : sy1 m 4 4 (iS 1 4) (s) = s := by unfold sy1; rw [if_neg (by omega)]
      rw [e8, e7]
      refine f_iln 4 rfl hL rfl ?_
      have hts : k = 0 ∨ k = 1 ∨ k = 2 ∨ k = 3 ∨ k = 4 ∨ k = 5 ∨ k = 6 ∨ k = 7 ∨ k = 8 ∨ (k < 0 ∨ 8 < k) := by omega
      rcases hts with hk | hk | hk | hk | hk | hk | hk | hk | hk | hk
      · refine x_W_j (pc' := 124) (st' := []) rfl (by rw [hk]; rfl) ?_
        refine f_aln 3 rfl hL rfl ?_
        refine m_gfi so55 (m 55 13) rfl hw hm rfl rfl ?_
        exact f_ret1 rfl ⟨by unfold cnS; rw [if_pos hk], hw, hm⟩
      · refine x_W_j (pc' := 129) (st' := []) rfl (by rw [hk]; rfl) ?_
        refine f_aln 3 rfl hL rfl ?_
        refine m_gfi so55 (m 55 0) rfl hw hm rfl rfl ?_
        exact f_ret1 rfl ⟨by unfold cnS; rw [if_neg (by omega), if_pos hk], hw, hm⟩
      · refine x_W_j (pc' := 134) (st' := []) rfl (by rw [hk]; rfl) ?_
        refine f_aln 3 rfl hL rfl ?_
        refine m_gfi so55 (m 55 1) rfl hw hm rfl rfl ?_
        exact f_ret1 rfl ⟨by unfold cnS; rw [if_neg (by omega), if_neg (by omega), if_pos hk], hw, hm⟩
      · refine x_W_j (pc' := 139) (st' := []) rfl (by rw [hk]; rfl) ?_
        refine f_aln 3 rfl hL rfl ?_
        refine m_gfr so55 rfl hw rfl (by decide) ?_
        refine f_bipush (n := 17) rfl (by decide) ?_
        refine m_ia sa61 (m 61 17) rfl hw hm (by omega) (by omega) (by decide) rfl ?_
        exact f_ret1 rfl ⟨by unfold cnS; rw [if_neg (by omega), if_neg (by omega), if_neg (by omega), if_pos hk], hw, hm⟩
      · refine x_W_j (pc' := 147) (st' := []) rfl (by rw [hk]; rfl) ?_
        refine f_iln 1 rfl hL rfl ?_
        exact f_ret1 rfl ⟨by unfold cnS; rw [if_neg (by omega), if_neg (by omega), if_neg (by omega), if_neg (by omega), if_pos hk], hw, hm⟩
      · refine x_W_j (pc' := 149) (st' := []) rfl (by rw [hk]; rfl) ?_
        refine f_iln 2 rfl hL rfl ?_
        exact f_ret1 rfl ⟨by unfold cnS; rw [if_neg (by omega), if_neg (by omega), if_neg (by omega), if_neg (by omega), if_neg (by omega), if_pos hk], hw, hm⟩
      · refine x_W_j (pc' := 151) (st' := []) rfl (by rw [hk]; rfl) ?_
        refine f_aln 3 rfl hL rfl ?_
        refine f_s [fi (0), .ref 55] rfl rfl ?_
        refine m_k1 (t189_0 hp) hw hm rfl rfl rfl (m_ar so55 hw rfl) rfl (fun hc2 hw2 hm2 => ?_)
        exact f_ret1 rfl ⟨by unfold cnS; rw [if_neg (by omega), if_neg (by omega), if_neg (by omega), if_neg (by omega), if_neg (by omega), if_neg (by omega), if_pos hk], hw2, hm2⟩
      · refine x_W_j (pc' := 157) (st' := []) rfl (by rw [hk]; rfl) ?_
        refine f_aln 3 rfl hL rfl ?_
        refine m_gfi so55 (m 55 16) rfl hw hm rfl rfl ?_
        exact f_ret1 rfl ⟨by unfold cnS; rw [if_neg (by omega), if_neg (by omega), if_neg (by omega), if_neg (by omega), if_neg (by omega), if_neg (by omega), if_neg (by omega), if_pos hk], hw, hm⟩
      · refine x_W_j (pc' := 162) (st' := []) rfl (by rw [hk]; rfl) ?_
        refine f_aln 3 rfl hL rfl ?_
        refine m_gfi so55 (m 55 21) rfl hw hm rfl rfl ?_
        exact f_ret1 rfl ⟨by unfold cnS; rw [if_neg (by omega), if_neg (by omega), if_neg (by omega), if_neg (by omega), if_neg (by omega), if_neg (by omega), if_neg (by omega), if_neg (by omega), if_pos hk], hw, hm⟩
      · refine m_tsd (pc' := 167) rfl rk hk rfl ?_
        refine f_bipush (n := -2) rfl (by decide) ?_
        exact f_ret1 rfl ⟨by unfold cnS; rw [if_neg (by omega), if_neg (by omega), if_neg (by omega), if_neg (by omega), if_neg (by omega), if_neg (by omega), if_neg (by omega), if_neg (by omega), if_neg (by omega)], hw, hm⟩
    · have c1 : ¬ ((m 55 1 : Int) ≤ (4 : Int)) := c1
      have jv : m 61 4 = -9 ∨ (0 ≤ m 61 4 ∧ m 61 4 < 4) := by have := hJ.2.2 4 (by decide) (by omega); rw [Nat.zero_add] at this; exact this
      refine f_iln 1 rfl hL rfl ?_
      refine f_aln 3 rfl hL rfl ?_
      refine f_s [fi (0), .ref 55, fi (a)] rfl rfl ?_
      refine f_il 0 rfl hL rfl ?_
      refine f_aln 3 rfl hL rfl ?_
      refine m_gfr so55 rfl hw rfl (by decide) ?_
      refine f_bipush (n := 17) rfl (by decide) ?_
      refine m_ia sa61 (m 61 17) rfl hw hm (by omega) (by omega) (by decide) rfl ?_
      refine m_k1 (t90_0 (p := 4) (h := m 61 17) (by decide) (by decide) (hR 61 17) (fv := m 58 4) rfl (hR 58 4) (uv := m 59 4) rfl (hR 59 4)) hw hm rfl rfl rfl (m_ar so55 hw rfl) rfl (fun hc3 hw3 hm3 => ?_)
      refine f_if rfl (bI_r _) (fun c2 => ?_) (fun c2 => ?_)
      · have c2 : (bI (decide (¬ iA (iR (m 61 16) (4)) (1) = 1 ∧ m 58 4 ≤ m 61 17 ∧ m 61 17 ≤ m 59 4)) : Int) = (0 : Int) := c2
        have c2 : ¬ (¬ iA (iR (m 61 16) (4)) (1) = 1 ∧ m 58 4 ≤ m 61 17 ∧ m 61 17 ≤ m 59 4) := bI_f c2
        refine f_s [fi (0), fi (a)] rfl rfl ?_
        refine b_ior rfl ?_
        refine f_istn [(2, fi (iO (a) (0))), (4, fi (4)), (3, fi (s)), (0, .ref 55), (1, fi (k))] rfl (by decide) hL rfl (fun L1 hL1 => ?_)
        refine f_iln 2 rfl hL1 rfl ?_
        refine f_aln 3 rfl hL1 rfl ?_
        refine f_s [fi (0), .ref 55, fi (s)] rfl rfl ?_
        refine f_il 1 rfl hL1 rfl ?_
        refine m_k1 (t62_0 (p := 4) (wv := m 61 4) (kv := m 56 (m 61 4).toNat) hn hp (by decide) (by decide) rfl (hR 61 4) jv rfl (hR 56 _)) hw3 hm3 rfl rfl rfl (m_ar so55 hw3 rfl) rfl (fun hc4 hw4 hm4 => ?_)
        refine f_if rfl (by have := sbM0_01 m (m 61 4); omega) (fun c3 => ?_) (fun c3 => ?_)
        · have c3 : (sbM0 m (m 61 4) : Int) = (0 : Int) := c3
          refine f_s [fi (0), fi (s)] rfl rfl ?_
          refine b_ior rfl ?_
          refine f_istn [(3, fi (iO (s) (0))), (2, fi (iO (a) (0))), (4, fi (4)), (0, .ref 55), (1, fi (k))] rfl (by decide) hL1 rfl (fun L2 hL2 => ?_)
          refine f_inc 2 [(4, fi (5)), (3, fi (iO (s) (0))), (2, fi (iO (a) (0))), (0, .ref 55), (1, fi (k))] rfl (by decide) hL2 rfl rfl (fun L3 hL3 => ?_)
          refine f_goto rfl ?_
          have e9 : as1 m 4 4 (iS 1 4) a = iO (a) (0) := (if_pos (by omega)).trans (by rw [if_neg c2])
          have e6 : sy1 m 4 4 (iS 1 4) s = iO (s) (0) := (if_pos (by omega)).trans (by rw [if_neg (fun z => z c3)])
          rw [e9, e6]
          exact hK5 hc4 _ _ _ hw4 hm4 (hL3.sel [0, 2, 1, 3, 4] rfl)
        · have c3 : ¬ ((sbM0 m (m 61 4) : Int) = (0 : Int)) := c3
          refine f_s [fi (1), fi (s)] rfl rfl ?_
          refine f_il 1 rfl hL1 rfl ?_
          refine b_ishl rfl ?_
          refine f_goto rfl ?_
          refine b_ior rfl ?_
          refine f_istn [(3, fi (iO (s) (iS (1) (4)))), (2, fi (iO (a) (0))), (4, fi (4)), (0, .ref 55), (1, fi (k))] rfl (by decide) hL1 rfl (fun L4 hL4 => ?_)
          refine f_inc 2 [(4, fi (5)), (3, fi (iO (s) (iS (1) (4)))), (2, fi (iO (a) (0))), (0, .ref 55), (1, fi (k))] rfl (by decide) hL4 rfl rfl (fun L5 hL5 => ?_)
          refine f_goto rfl ?_
          have e9 : as1 m 4 4 (iS 1 4) a = iO (a) (0) := (if_pos (by omega)).trans (by rw [if_neg c2])
          have e6 : sy1 m 4 4 (iS 1 4) s = iO (s) (iS (1) (4)) := (if_pos (by omega)).trans (by rw [if_pos c3])
          rw [e9, e6]
          exact hK5 hc4 _ _ _ hw4 hm4 (hL5.sel [0, 2, 1, 3, 4] rfl)
      · have c2 : ¬ ((bI (decide (¬ iA (iR (m 61 16) (4)) (1) = 1 ∧ m 58 4 ≤ m 61 17 ∧ m 61 17 ≤ m 59 4)) : Int) = (0 : Int)) := c2
        have c2 : ¬ iA (iR (m 61 16) (4)) (1) = 1 ∧ m 58 4 ≤ m 61 17 ∧ m 61 17 ≤ m 59 4 := bI_t c2
        refine f_s [fi (1), fi (a)] rfl rfl ?_
        refine f_il 0 rfl hL rfl ?_
        refine b_ishl rfl ?_
        refine f_goto rfl ?_
        refine b_ior rfl ?_
        refine f_istn [(2, fi (iO (a) (iS (1) (4)))), (4, fi (4)), (3, fi (s)), (0, .ref 55), (1, fi (k))] rfl (by decide) hL rfl (fun L6 hL6 => ?_)
        refine f_iln 2 rfl hL6 rfl ?_
        refine f_aln 3 rfl hL6 rfl ?_
        refine f_s [fi (0), .ref 55, fi (s)] rfl rfl ?_
        refine f_il 1 rfl hL6 rfl ?_
        refine m_k1 (t62_0 (p := 4) (wv := m 61 4) (kv := m 56 (m 61 4).toNat) hn hp (by decide) (by decide) rfl (hR 61 4) jv rfl (hR 56 _)) hw3 hm3 rfl rfl rfl (m_ar so55 hw3 rfl) rfl (fun hc5 hw5 hm5 => ?_)
        refine f_if rfl (by have := sbM0_01 m (m 61 4); omega) (fun c3 => ?_) (fun c3 => ?_)
        · have c3 : (sbM0 m (m 61 4) : Int) = (0 : Int) := c3
          refine f_s [fi (0), fi (s)] rfl rfl ?_
          refine b_ior rfl ?_
          refine f_istn [(3, fi (iO (s) (0))), (2, fi (iO (a) (iS (1) (4)))), (4, fi (4)), (0, .ref 55), (1, fi (k))] rfl (by decide) hL6 rfl (fun L7 hL7 => ?_)
          refine f_inc 2 [(4, fi (5)), (3, fi (iO (s) (0))), (2, fi (iO (a) (iS (1) (4)))), (0, .ref 55), (1, fi (k))] rfl (by decide) hL7 rfl rfl (fun L8 hL8 => ?_)
          refine f_goto rfl ?_
          have e9 : as1 m 4 4 (iS 1 4) a = iO (a) (iS (1) (4)) := (if_pos (by omega)).trans (by rw [if_pos c2])
          have e6 : sy1 m 4 4 (iS 1 4) s = iO (s) (0) := (if_pos (by omega)).trans (by rw [if_neg (fun z => z c3)])
          rw [e9, e6]
          exact hK5 hc5 _ _ _ hw5 hm5 (hL8.sel [0, 2, 1, 3, 4] rfl)
        · have c3 : ¬ ((sbM0 m (m 61 4) : Int) = (0 : Int)) := c3
          refine f_s [fi (1), fi (s)] rfl rfl ?_
          refine f_il 1 rfl hL6 rfl ?_
          refine b_ishl rfl ?_
          refine f_goto rfl ?_
          refine b_ior rfl ?_
          refine f_istn [(3, fi (iO (s) (iS (1) (4)))), (2, fi (iO (a) (iS (1) (4)))), (4, fi (4)), (0, .ref 55), (1, fi (k))] rfl (by decide) hL6 rfl (fun L9 hL9 => ?_)
          refine f_inc 2 [(4, fi (5)), (3, fi (iO (s) (iS (1) (4)))), (2, fi (iO (a) (iS (1) (4)))), (0, .ref 55), (1, fi (k))] rfl (by decide) hL9 rfl rfl (fun L10 hL10 => ?_)
          refine f_goto rfl ?_
          have e9 : as1 m 4 4 (iS 1 4) a = iO (a) (iS (1) (4)) := (if_pos (by omega)).trans (by rw [if_pos c2])
          have e6 : sy1 m 4 4 (iS 1 4) s = iO (s) (iS (1) (4)) := (if_pos (by omega)).trans (by rw [if_pos c3])
          rw [e9, e6]
          exact hK5 hc5 _ _ _ hw5 hm5 (hL10.sel [0, 2, 1, 3, 4] rfl)
  have hK3 : ∀ (hc : ev_H) (a s : Int) (L : ev_L), y_in yGw hc → gi hc = m → f_L L [(4, fi (3)), (2, fi (a)), (3, fi (s)), (0, .ref 55), (1, fi (k))] → x_W none (1, 0, 5, 1, 11, 3, 66, 0, 0, ev_t201) 7 L [] hc 0 0 (fun r' h' => r' = some (fi (cnS m k (as1 m 4 4 (iS 1 4) (as1 m 3 3 (iS 1 3) (a))) (sy1 m 4 4 (iS 1 4) (sy1 m 3 3 (iS 1 3) (s))))) ∧ y_in yGw h' ∧ gi h' = m) := fun hc a s L hw hm hL => by
    refine f_il 0 rfl hL rfl ?_
    refine f_aln 3 rfl hL rfl ?_
    refine m_gfi so55 (m 55 1) rfl hw hm rfl rfl ?_
    refine f_ic rfl (by decide) (by omega) (fun c1 => ?_) (fun c1 => ?_)
    · have c1 : (m 55 1 : Int) ≤ (3 : Int) := c1
      have e8 : as1 m 4 4 (iS 1 4) (as1 m 3 3 (iS 1 3) (a)) = a := by unfold as1; rw [if_neg (by omega), if_neg (by omega)]
      have e7 : sy1 m 4 4 (iS 1 4) (sy1 m 3 3 (iS 1 3) (s)) = s := by unfold sy1; rw [if_neg (by omega), if_neg (by omega)]
      rw [e8, e7]
      refine f_iln 4 rfl hL rfl ?_
      have hts : k = 0 ∨ k = 1 ∨ k = 2 ∨ k = 3 ∨ k = 4 ∨ k = 5 ∨ k = 6 ∨ k = 7 ∨ k = 8 ∨ (k < 0 ∨ 8 < k) := by omega
      rcases hts with hk | hk | hk | hk | hk | hk | hk | hk | hk | hk
      · refine x_W_j (pc' := 124) (st' := []) rfl (by rw [hk]; rfl) ?_
        refine f_aln 3 rfl hL rfl ?_
        refine m_gfi so55 (m 55 13) rfl hw hm rfl rfl ?_
        exact f_ret1 rfl ⟨by unfold cnS; rw [if_pos hk], hw, hm⟩
      · refine x_W_j (pc' := 129) (st' := []) rfl (by rw [hk]; rfl) ?_
        refine f_aln 3 rfl hL rfl ?_
        refine m_gfi so55 (m 55 0) rfl hw hm rfl rfl ?_
        exact f_ret1 rfl ⟨by unfold cnS; rw [if_neg (by omega), if_pos hk], hw, hm⟩
      · refine x_W_j (pc' := 134) (st' := []) rfl (by rw [hk]; rfl) ?_
        refine f_aln 3 rfl hL rfl ?_
        refine m_gfi so55 (m 55 1) rfl hw hm rfl rfl ?_
        exact f_ret1 rfl ⟨by unfold cnS; rw [if_neg (by omega), if_neg (by omega), if_pos hk], hw, hm⟩
      · refine x_W_j (pc' := 139) (st' := []) rfl (by rw [hk]; rfl) ?_
        refine f_aln 3 rfl hL rfl ?_
        refine m_gfr so55 rfl hw rfl (by decide) ?_
        refine f_bipush (n := 17) rfl (by decide) ?_
        refine m_ia sa61 (m 61 17) rfl hw hm (by omega) (by omega) (by decide) rfl ?_
        exact f_ret1 rfl ⟨by unfold cnS; rw [if_neg (by omega), if_neg (by omega), if_neg (by omega), if_pos hk], hw, hm⟩
      · refine x_W_j (pc' := 147) (st' := []) rfl (by rw [hk]; rfl) ?_
        refine f_iln 1 rfl hL rfl ?_
        exact f_ret1 rfl ⟨by unfold cnS; rw [if_neg (by omega), if_neg (by omega), if_neg (by omega), if_neg (by omega), if_pos hk], hw, hm⟩
      · refine x_W_j (pc' := 149) (st' := []) rfl (by rw [hk]; rfl) ?_
        refine f_iln 2 rfl hL rfl ?_
        exact f_ret1 rfl ⟨by unfold cnS; rw [if_neg (by omega), if_neg (by omega), if_neg (by omega), if_neg (by omega), if_neg (by omega), if_pos hk], hw, hm⟩
      · refine x_W_j (pc' := 151) (st' := []) rfl (by rw [hk]; rfl) ?_
        refine f_aln 3 rfl hL rfl ?_
        refine f_s [fi (0), .ref 55] rfl rfl ?_
        refine m_k1 (t189_0 hp) hw hm rfl rfl rfl (m_ar so55 hw rfl) rfl (fun hc6 hw6 hm6 => ?_)
        exact f_ret1 rfl ⟨by unfold cnS; rw [if_neg (by omega), if_neg (by omega), if_neg (by omega), if_neg (by omega), if_neg (by omega), if_neg (by omega), if_pos hk], hw6, hm6⟩
      · refine x_W_j (pc' := 157) (st' := []) rfl (by rw [hk]; rfl) ?_
        refine f_aln 3 rfl hL rfl ?_
        refine m_gfi so55 (m 55 16) rfl hw hm rfl rfl ?_
        exact f_ret1 rfl ⟨by unfold cnS; rw [if_neg (by omega), if_neg (by omega), if_neg (by omega), if_neg (by omega), if_neg (by omega), if_neg (by omega), if_neg (by omega), if_pos hk], hw, hm⟩
      · refine x_W_j (pc' := 162) (st' := []) rfl (by rw [hk]; rfl) ?_
        refine f_aln 3 rfl hL rfl ?_
        refine m_gfi so55 (m 55 21) rfl hw hm rfl rfl ?_
        exact f_ret1 rfl ⟨by unfold cnS; rw [if_neg (by omega), if_neg (by omega), if_neg (by omega), if_neg (by omega), if_neg (by omega), if_neg (by omega), if_neg (by omega), if_neg (by omega), if_pos hk], hw, hm⟩
      · refine m_tsd (pc' := 167) rfl rk hk rfl ?_
        refine f_bipush (n := -2) rfl (by decide) ?_
        exact f_ret1 rfl ⟨by unfold cnS; rw [if_neg (by omega), if_neg (by omega), if_neg (by omega), if_neg (by omega), if_neg (by omega), if_neg (by omega), if_neg (by omega), if_neg (by omega), if_neg (by omega)], hw, hm⟩
    · have c1 : ¬ ((m 55 1 : Int) ≤ (3 : Int)) := c1
      have jv : m 61 3 = -9 ∨ (0 ≤ m 61 3 ∧ m 61 3 < 4) := by have := hJ.2.2 3 (by decide) (by omega); rw [Nat.zero_add] at this; exact this
      refine f_iln 1 rfl hL rfl ?_
      refine f_aln 3 rfl hL rfl ?_
      refine f_s [fi (0), .ref 55, fi (a)] rfl rfl ?_
      refine f_il 0 rfl hL rfl ?_
      refine f_aln 3 rfl hL rfl ?_
      refine m_gfr so55 rfl hw rfl (by decide) ?_
      refine f_bipush (n := 17) rfl (by decide) ?_
      refine m_ia sa61 (m 61 17) rfl hw hm (by omega) (by omega) (by decide) rfl ?_
      refine m_k1 (t90_0 (p := 3) (h := m 61 17) (by decide) (by decide) (hR 61 17) (fv := m 58 3) rfl (hR 58 3) (uv := m 59 3) rfl (hR 59 3)) hw hm rfl rfl rfl (m_ar so55 hw rfl) rfl (fun hc7 hw7 hm7 => ?_)
      refine f_if rfl (bI_r _) (fun c2 => ?_) (fun c2 => ?_)
      · have c2 : (bI (decide (¬ iA (iR (m 61 16) (3)) (1) = 1 ∧ m 58 3 ≤ m 61 17 ∧ m 61 17 ≤ m 59 3)) : Int) = (0 : Int) := c2
        have c2 : ¬ (¬ iA (iR (m 61 16) (3)) (1) = 1 ∧ m 58 3 ≤ m 61 17 ∧ m 61 17 ≤ m 59 3) := bI_f c2
        refine f_s [fi (0), fi (a)] rfl rfl ?_
        refine b_ior rfl ?_
        refine f_istn [(2, fi (iO (a) (0))), (4, fi (3)), (3, fi (s)), (0, .ref 55), (1, fi (k))] rfl (by decide) hL rfl (fun L11 hL11 => ?_)
        refine f_iln 2 rfl hL11 rfl ?_
        refine f_aln 3 rfl hL11 rfl ?_
        refine f_s [fi (0), .ref 55, fi (s)] rfl rfl ?_
        refine f_il 1 rfl hL11 rfl ?_
        refine m_k1 (t62_0 (p := 3) (wv := m 61 3) (kv := m 56 (m 61 3).toNat) hn hp (by decide) (by decide) rfl (hR 61 3) jv rfl (hR 56 _)) hw7 hm7 rfl rfl rfl (m_ar so55 hw7 rfl) rfl (fun hc8 hw8 hm8 => ?_)
        refine f_if rfl (by have := sbM0_01 m (m 61 3); omega) (fun c3 => ?_) (fun c3 => ?_)
        · have c3 : (sbM0 m (m 61 3) : Int) = (0 : Int) := c3
          refine f_s [fi (0), fi (s)] rfl rfl ?_
          refine b_ior rfl ?_
          refine f_istn [(3, fi (iO (s) (0))), (2, fi (iO (a) (0))), (4, fi (3)), (0, .ref 55), (1, fi (k))] rfl (by decide) hL11 rfl (fun L12 hL12 => ?_)
          refine f_inc 2 [(4, fi (4)), (3, fi (iO (s) (0))), (2, fi (iO (a) (0))), (0, .ref 55), (1, fi (k))] rfl (by decide) hL12 rfl rfl (fun L13 hL13 => ?_)
          refine f_goto rfl ?_
          have e9 : as1 m 3 3 (iS 1 3) a = iO (a) (0) := (if_pos (by omega)).trans (by rw [if_neg c2])
          have e6 : sy1 m 3 3 (iS 1 3) s = iO (s) (0) := (if_pos (by omega)).trans (by rw [if_neg (fun z => z c3)])
          rw [e9, e6]
          exact hK4 hc8 _ _ _ hw8 hm8 (hL13.sel [0, 2, 1, 3, 4] rfl)
        · have c3 : ¬ ((sbM0 m (m 61 3) : Int) = (0 : Int)) := c3
          refine f_s [fi (1), fi (s)] rfl rfl ?_
          refine f_il 1 rfl hL11 rfl ?_
          refine b_ishl rfl ?_
          refine f_goto rfl ?_
          refine b_ior rfl ?_
          refine f_istn [(3, fi (iO (s) (iS (1) (3)))), (2, fi (iO (a) (0))), (4, fi (3)), (0, .ref 55), (1, fi (k))] rfl (by decide) hL11 rfl (fun L14 hL14 => ?_)
          refine f_inc 2 [(4, fi (4)), (3, fi (iO (s) (iS (1) (3)))), (2, fi (iO (a) (0))), (0, .ref 55), (1, fi (k))] rfl (by decide) hL14 rfl rfl (fun L15 hL15 => ?_)
          refine f_goto rfl ?_
          have e9 : as1 m 3 3 (iS 1 3) a = iO (a) (0) := (if_pos (by omega)).trans (by rw [if_neg c2])
          have e6 : sy1 m 3 3 (iS 1 3) s = iO (s) (iS (1) (3)) := (if_pos (by omega)).trans (by rw [if_pos c3])
          rw [e9, e6]
          exact hK4 hc8 _ _ _ hw8 hm8 (hL15.sel [0, 2, 1, 3, 4] rfl)
      · have c2 : ¬ ((bI (decide (¬ iA (iR (m 61 16) (3)) (1) = 1 ∧ m 58 3 ≤ m 61 17 ∧ m 61 17 ≤ m 59 3)) : Int) = (0 : Int)) := c2
        have c2 : ¬ iA (iR (m 61 16) (3)) (1) = 1 ∧ m 58 3 ≤ m 61 17 ∧ m 61 17 ≤ m 59 3 := bI_t c2
        refine f_s [fi (1), fi (a)] rfl rfl ?_
        refine f_il 0 rfl hL rfl ?_
        refine b_ishl rfl ?_
        refine f_goto rfl ?_
        refine b_ior rfl ?_
        refine f_istn [(2, fi (iO (a) (iS (1) (3)))), (4, fi (3)), (3, fi (s)), (0, .ref 55), (1, fi (k))] rfl (by decide) hL rfl (fun L16 hL16 => ?_)
        refine f_iln 2 rfl hL16 rfl ?_
        refine f_aln 3 rfl hL16 rfl ?_
        refine f_s [fi (0), .ref 55, fi (s)] rfl rfl ?_
        refine f_il 1 rfl hL16 rfl ?_
        refine m_k1 (t62_0 (p := 3) (wv := m 61 3) (kv := m 56 (m 61 3).toNat) hn hp (by decide) (by decide) rfl (hR 61 3) jv rfl (hR 56 _)) hw7 hm7 rfl rfl rfl (m_ar so55 hw7 rfl) rfl (fun hc9 hw9 hm9 => ?_)
        refine f_if rfl (by have := sbM0_01 m (m 61 3); omega) (fun c3 => ?_) (fun c3 => ?_)
        · have c3 : (sbM0 m (m 61 3) : Int) = (0 : Int) := c3
          refine f_s [fi (0), fi (s)] rfl rfl ?_
          refine b_ior rfl ?_
          refine f_istn [(3, fi (iO (s) (0))), (2, fi (iO (a) (iS (1) (3)))), (4, fi (3)), (0, .ref 55), (1, fi (k))] rfl (by decide) hL16 rfl (fun L17 hL17 => ?_)
          refine f_inc 2 [(4, fi (4)), (3, fi (iO (s) (0))), (2, fi (iO (a) (iS (1) (3)))), (0, .ref 55), (1, fi (k))] rfl (by decide) hL17 rfl rfl (fun L18 hL18 => ?_)
          refine f_goto rfl ?_
          have e9 : as1 m 3 3 (iS 1 3) a = iO (a) (iS (1) (3)) := (if_pos (by omega)).trans (by rw [if_pos c2])
          have e6 : sy1 m 3 3 (iS 1 3) s = iO (s) (0) := (if_pos (by omega)).trans (by rw [if_neg (fun z => z c3)])
          rw [e9, e6]
          exact hK4 hc9 _ _ _ hw9 hm9 (hL18.sel [0, 2, 1, 3, 4] rfl)
        · have c3 : ¬ ((sbM0 m (m 61 3) : Int) = (0 : Int)) := c3
          refine f_s [fi (1), fi (s)] rfl rfl ?_
          refine f_il 1 rfl hL16 rfl ?_
          refine b_ishl rfl ?_
          refine f_goto rfl ?_
          refine b_ior rfl ?_
          refine f_istn [(3, fi (iO (s) (iS (1) (3)))), (2, fi (iO (a) (iS (1) (3)))), (4, fi (3)), (0, .ref 55), (1, fi (k))] rfl (by decide) hL16 rfl (fun L19 hL19 => ?_)
          refine f_inc 2 [(4, fi (4)), (3, fi (iO (s) (iS (1) (3)))), (2, fi (iO (a) (iS (1) (3)))), (0, .ref 55), (1, fi (k))] rfl (by decide) hL19 rfl rfl (fun L20 hL20 => ?_)
          refine f_goto rfl ?_
          have e9 : as1 m 3 3 (iS 1 3) a = iO (a) (iS (1) (3)) := (if_pos (by omega)).trans (by rw [if_pos c2])
          have e6 : sy1 m 3 3 (iS 1 3) s = iO (s) (iS (1) (3)) := (if_pos (by omega)).trans (by rw [if_pos c3])
          rw [e9, e6]
          exact hK4 hc9 _ _ _ hw9 hm9 (hL20.sel [0, 2, 1, 3, 4] rfl)
  have hK2 : ∀ (hc : ev_H) (a s : Int) (L : ev_L), y_in yGw hc → gi hc = m → f_L L [(4, fi (2)), (2, fi (a)), (3, fi (s)), (0, .ref 55), (1, fi (k))] → x_W none (1, 0, 5, 1, 11, 3, 66, 0, 0, ev_t201) 7 L [] hc 0 0 (fun r' h' => r' = some (fi (cnS m k (as1 m 4 4 (iS 1 4) (as1 m 3 3 (iS 1 3) (as1 m 2 2 (iS 1 2) (a)))) (sy1 m 4 4 (iS 1 4) (sy1 m 3 3 (iS 1 3) (sy1 m 2 2 (iS 1 2) (s)))))) ∧ y_in yGw h' ∧ gi h' = m) := fun hc a s L hw hm hL => by
    refine f_il 0 rfl hL rfl ?_
    refine f_aln 3 rfl hL rfl ?_
    refine m_gfi so55 (m 55 1) rfl hw hm rfl rfl ?_
    refine f_ic rfl (by decide) (by omega) (fun c1 => ?_) (fun c1 => ?_)
    · have c1 : (m 55 1 : Int) ≤ (2 : Int) := c1
      have e8 : as1 m 4 4 (iS 1 4) (as1 m 3 3 (iS 1 3) (as1 m 2 2 (iS 1 2) (a))) = a := by unfold as1; rw [if_neg (by omega), if_neg (by omega), if_neg (by omega)]
      have e7 : sy1 m 4 4 (iS 1 4) (sy1 m 3 3 (iS 1 3) (sy1 m 2 2 (iS 1 2) (s))) = s := by unfold sy1; rw [if_neg (by omega), if_neg (by omega), if_neg (by omega)]
      rw [e8, e7]
      refine f_iln 4 rfl hL rfl ?_
      have hts : k = 0 ∨ k = 1 ∨ k = 2 ∨ k = 3 ∨ k = 4 ∨ k = 5 ∨ k = 6 ∨ k = 7 ∨ k = 8 ∨ (k < 0 ∨ 8 < k) := by omega
      rcases hts with hk | hk | hk | hk | hk | hk | hk | hk | hk | hk
      · refine x_W_j (pc' := 124) (st' := []) rfl (by rw [hk]; rfl) ?_
        refine f_aln 3 rfl hL rfl ?_
        refine m_gfi so55 (m 55 13) rfl hw hm rfl rfl ?_
        exact f_ret1 rfl ⟨by unfold cnS; rw [if_pos hk], hw, hm⟩
      · refine x_W_j (pc' := 129) (st' := []) rfl (by rw [hk]; rfl) ?_
        refine f_aln 3 rfl hL rfl ?_
        refine m_gfi so55 (m 55 0) rfl hw hm rfl rfl ?_
        exact f_ret1 rfl ⟨by unfold cnS; rw [if_neg (by omega), if_pos hk], hw, hm⟩
      · refine x_W_j (pc' := 134) (st' := []) rfl (by rw [hk]; rfl) ?_
        refine f_aln 3 rfl hL rfl ?_
        refine m_gfi so55 (m 55 1) rfl hw hm rfl rfl ?_
        exact f_ret1 rfl ⟨by unfold cnS; rw [if_neg (by omega), if_neg (by omega), if_pos hk], hw, hm⟩
      · refine x_W_j (pc' := 139) (st' := []) rfl (by rw [hk]; rfl) ?_
        refine f_aln 3 rfl hL rfl ?_
        refine m_gfr so55 rfl hw rfl (by decide) ?_
        refine f_bipush (n := 17) rfl (by decide) ?_
        refine m_ia sa61 (m 61 17) rfl hw hm (by omega) (by omega) (by decide) rfl ?_
        exact f_ret1 rfl ⟨by unfold cnS; rw [if_neg (by omega), if_neg (by omega), if_neg (by omega), if_pos hk], hw, hm⟩
      · refine x_W_j (pc' := 147) (st' := []) rfl (by rw [hk]; rfl) ?_
        refine f_iln 1 rfl hL rfl ?_
        exact f_ret1 rfl ⟨by unfold cnS; rw [if_neg (by omega), if_neg (by omega), if_neg (by omega), if_neg (by omega), if_pos hk], hw, hm⟩
      · refine x_W_j (pc' := 149) (st' := []) rfl (by rw [hk]; rfl) ?_
        refine f_iln 2 rfl hL rfl ?_
        exact f_ret1 rfl ⟨by unfold cnS; rw [if_neg (by omega), if_neg (by omega), if_neg (by omega), if_neg (by omega), if_neg (by omega), if_pos hk], hw, hm⟩
      · refine x_W_j (pc' := 151) (st' := []) rfl (by rw [hk]; rfl) ?_
        refine f_aln 3 rfl hL rfl ?_
        refine f_s [fi (0), .ref 55] rfl rfl ?_
        refine m_k1 (t189_0 hp) hw hm rfl rfl rfl (m_ar so55 hw rfl) rfl (fun hc10 hw10 hm10 => ?_)
        exact f_ret1 rfl ⟨by unfold cnS; rw [if_neg (by omega), if_neg (by omega), if_neg (by omega), if_neg (by omega), if_neg (by omega), if_neg (by omega), if_pos hk], hw10, hm10⟩
      · refine x_W_j (pc' := 157) (st' := []) rfl (by rw [hk]; rfl) ?_
        refine f_aln 3 rfl hL rfl ?_
        refine m_gfi so55 (m 55 16) rfl hw hm rfl rfl ?_
        exact f_ret1 rfl ⟨by unfold cnS; rw [if_neg (by omega), if_neg (by omega), if_neg (by omega), if_neg (by omega), if_neg (by omega), if_neg (by omega), if_neg (by omega), if_pos hk], hw, hm⟩
      · refine x_W_j (pc' := 162) (st' := []) rfl (by rw [hk]; rfl) ?_
        refine f_aln 3 rfl hL rfl ?_
        refine m_gfi so55 (m 55 21) rfl hw hm rfl rfl ?_
        exact f_ret1 rfl ⟨by unfold cnS; rw [if_neg (by omega), if_neg (by omega), if_neg (by omega), if_neg (by omega), if_neg (by omega), if_neg (by omega), if_neg (by omega), if_neg (by omega), if_pos hk], hw, hm⟩
      · refine m_tsd (pc' := 167) rfl rk hk rfl ?_
        refine f_bipush (n := -2) rfl (by decide) ?_
        exact f_ret1 rfl ⟨by unfold cnS; rw [if_neg (by omega), if_neg (by omega), if_neg (by omega), if_neg (by omega), if_neg (by omega), if_neg (by omega), if_neg (by omega), if_neg (by omega), if_neg (by omega)], hw, hm⟩
    · have c1 : ¬ ((m 55 1 : Int) ≤ (2 : Int)) := c1
      have jv : m 61 2 = -9 ∨ (0 ≤ m 61 2 ∧ m 61 2 < 4) := by have := hJ.2.2 2 (by decide) (by omega); rw [Nat.zero_add] at this; exact this
      refine f_iln 1 rfl hL rfl ?_
      refine f_aln 3 rfl hL rfl ?_
      refine f_s [fi (0), .ref 55, fi (a)] rfl rfl ?_
      refine f_il 0 rfl hL rfl ?_
      refine f_aln 3 rfl hL rfl ?_
      refine m_gfr so55 rfl hw rfl (by decide) ?_
      refine f_bipush (n := 17) rfl (by decide) ?_
      refine m_ia sa61 (m 61 17) rfl hw hm (by omega) (by omega) (by decide) rfl ?_
      refine m_k1 (t90_0 (p := 2) (h := m 61 17) (by decide) (by decide) (hR 61 17) (fv := m 58 2) rfl (hR 58 2) (uv := m 59 2) rfl (hR 59 2)) hw hm rfl rfl rfl (m_ar so55 hw rfl) rfl (fun hc11 hw11 hm11 => ?_)
      refine f_if rfl (bI_r _) (fun c2 => ?_) (fun c2 => ?_)
      · have c2 : (bI (decide (¬ iA (iR (m 61 16) (2)) (1) = 1 ∧ m 58 2 ≤ m 61 17 ∧ m 61 17 ≤ m 59 2)) : Int) = (0 : Int) := c2
        have c2 : ¬ (¬ iA (iR (m 61 16) (2)) (1) = 1 ∧ m 58 2 ≤ m 61 17 ∧ m 61 17 ≤ m 59 2) := bI_f c2
        refine f_s [fi (0), fi (a)] rfl rfl ?_
        refine b_ior rfl ?_
        refine f_istn [(2, fi (iO (a) (0))), (4, fi (2)), (3, fi (s)), (0, .ref 55), (1, fi (k))] rfl (by decide) hL rfl (fun L21 hL21 => ?_)
        refine f_iln 2 rfl hL21 rfl ?_
        refine f_aln 3 rfl hL21 rfl ?_
        refine f_s [fi (0), .ref 55, fi (s)] rfl rfl ?_
        refine f_il 1 rfl hL21 rfl ?_
        refine m_k1 (t62_0 (p := 2) (wv := m 61 2) (kv := m 56 (m 61 2).toNat) hn hp (by decide) (by decide) rfl (hR 61 2) jv rfl (hR 56 _)) hw11 hm11 rfl rfl rfl (m_ar so55 hw11 rfl) rfl (fun hc12 hw12 hm12 => ?_)
        refine f_if rfl (by have := sbM0_01 m (m 61 2); omega) (fun c3 => ?_) (fun c3 => ?_)
        · have c3 : (sbM0 m (m 61 2) : Int) = (0 : Int) := c3
          refine f_s [fi (0), fi (s)] rfl rfl ?_
          refine b_ior rfl ?_
          refine f_istn [(3, fi (iO (s) (0))), (2, fi (iO (a) (0))), (4, fi (2)), (0, .ref 55), (1, fi (k))] rfl (by decide) hL21 rfl (fun L22 hL22 => ?_)
          refine f_inc 2 [(4, fi (3)), (3, fi (iO (s) (0))), (2, fi (iO (a) (0))), (0, .ref 55), (1, fi (k))] rfl (by decide) hL22 rfl rfl (fun L23 hL23 => ?_)
          refine f_goto rfl ?_
          have e9 : as1 m 2 2 (iS 1 2) a = iO (a) (0) := (if_pos (by omega)).trans (by rw [if_neg c2])
          have e6 : sy1 m 2 2 (iS 1 2) s = iO (s) (0) := (if_pos (by omega)).trans (by rw [if_neg (fun z => z c3)])
          rw [e9, e6]
          exact hK3 hc12 _ _ _ hw12 hm12 (hL23.sel [0, 2, 1, 3, 4] rfl)
        · have c3 : ¬ ((sbM0 m (m 61 2) : Int) = (0 : Int)) := c3
          refine f_s [fi (1), fi (s)] rfl rfl ?_
          refine f_il 1 rfl hL21 rfl ?_
          refine b_ishl rfl ?_
          refine f_goto rfl ?_
          refine b_ior rfl ?_
          refine f_istn [(3, fi (iO (s) (iS (1) (2)))), (2, fi (iO (a) (0))), (4, fi (2)), (0, .ref 55), (1, fi (k))] rfl (by decide) hL21 rfl (fun L24 hL24 => ?_)
          refine f_inc 2 [(4, fi (3)), (3, fi (iO (s) (iS (1) (2)))), (2, fi (iO (a) (0))), (0, .ref 55), (1, fi (k))] rfl (by decide) hL24 rfl rfl (fun L25 hL25 => ?_)
          refine f_goto rfl ?_
          have e9 : as1 m 2 2 (iS 1 2) a = iO (a) (0) := (if_pos (by omega)).trans (by rw [if_neg c2])
          have e6 : sy1 m 2 2 (iS 1 2) s = iO (s) (iS (1) (2)) := (if_pos (by omega)).trans (by rw [if_pos c3])
          rw [e9, e6]
          exact hK3 hc12 _ _ _ hw12 hm12 (hL25.sel [0, 2, 1, 3, 4] rfl)
      · have c2 : ¬ ((bI (decide (¬ iA (iR (m 61 16) (2)) (1) = 1 ∧ m 58 2 ≤ m 61 17 ∧ m 61 17 ≤ m 59 2)) : Int) = (0 : Int)) := c2
        have c2 : ¬ iA (iR (m 61 16) (2)) (1) = 1 ∧ m 58 2 ≤ m 61 17 ∧ m 61 17 ≤ m 59 2 := bI_t c2
        refine f_s [fi (1), fi (a)] rfl rfl ?_
        refine f_il 0 rfl hL rfl ?_
        refine b_ishl rfl ?_
        refine f_goto rfl ?_
        refine b_ior rfl ?_
        refine f_istn [(2, fi (iO (a) (iS (1) (2)))), (4, fi (2)), (3, fi (s)), (0, .ref 55), (1, fi (k))] rfl (by decide) hL rfl (fun L26 hL26 => ?_)
        refine f_iln 2 rfl hL26 rfl ?_
        refine f_aln 3 rfl hL26 rfl ?_
        refine f_s [fi (0), .ref 55, fi (s)] rfl rfl ?_
        refine f_il 1 rfl hL26 rfl ?_
        refine m_k1 (t62_0 (p := 2) (wv := m 61 2) (kv := m 56 (m 61 2).toNat) hn hp (by decide) (by decide) rfl (hR 61 2) jv rfl (hR 56 _)) hw11 hm11 rfl rfl rfl (m_ar so55 hw11 rfl) rfl (fun hc13 hw13 hm13 => ?_)
        refine f_if rfl (by have := sbM0_01 m (m 61 2); omega) (fun c3 => ?_) (fun c3 => ?_)
        · have c3 : (sbM0 m (m 61 2) : Int) = (0 : Int) := c3
          refine f_s [fi (0), fi (s)] rfl rfl ?_
          refine b_ior rfl ?_
          refine f_istn [(3, fi (iO (s) (0))), (2, fi (iO (a) (iS (1) (2)))), (4, fi (2)), (0, .ref 55), (1, fi (k))] rfl (by decide) hL26 rfl (fun L27 hL27 => ?_)
          refine f_inc 2 [(4, fi (3)), (3, fi (iO (s) (0))), (2, fi (iO (a) (iS (1) (2)))), (0, .ref 55), (1, fi (k))] rfl (by decide) hL27 rfl rfl (fun L28 hL28 => ?_)
          refine f_goto rfl ?_
          have e9 : as1 m 2 2 (iS 1 2) a = iO (a) (iS (1) (2)) := (if_pos (by omega)).trans (by rw [if_pos c2])
          have e6 : sy1 m 2 2 (iS 1 2) s = iO (s) (0) := (if_pos (by omega)).trans (by rw [if_neg (fun z => z c3)])
          rw [e9, e6]
          exact hK3 hc13 _ _ _ hw13 hm13 (hL28.sel [0, 2, 1, 3, 4] rfl)
        · have c3 : ¬ ((sbM0 m (m 61 2) : Int) = (0 : Int)) := c3
          refine f_s [fi (1), fi (s)] rfl rfl ?_
          refine f_il 1 rfl hL26 rfl ?_
          refine b_ishl rfl ?_
          refine f_goto rfl ?_
          refine b_ior rfl ?_
          refine f_istn [(3, fi (iO (s) (iS (1) (2)))), (2, fi (iO (a) (iS (1) (2)))), (4, fi (2)), (0, .ref 55), (1, fi (k))] rfl (by decide) hL26 rfl (fun L29 hL29 => ?_)
          refine f_inc 2 [(4, fi (3)), (3, fi (iO (s) (iS (1) (2)))), (2, fi (iO (a) (iS (1) (2)))), (0, .ref 55), (1, fi (k))] rfl (by decide) hL29 rfl rfl (fun L30 hL30 => ?_)
          refine f_goto rfl ?_
          have e9 : as1 m 2 2 (iS 1 2) a = iO (a) (iS (1) (2)) := (if_pos (by omega)).trans (by rw [if_pos c2])
          have e6 : sy1 m 2 2 (iS 1 2) s = iO (s) (iS (1) (2)) := (if_pos (by omega)).trans (by rw [if_pos c3])
          rw [e9, e6]
          exact hK3 hc13 _ _ _ hw13 hm13 (hL30.sel [0, 2, 1, 3, 4] rfl)
  have hK1 : ∀ (hc : ev_H) (a s : Int) (L : ev_L), y_in yGw hc → gi hc = m → f_L L [(4, fi (1)), (2, fi (a)), (3, fi (s)), (0, .ref 55), (1, fi (k))] → x_W none (1, 0, 5, 1, 11, 3, 66, 0, 0, ev_t201) 7 L [] hc 0 0 (fun r' h' => r' = some (fi (cnS m k (as1 m 4 4 (iS 1 4) (as1 m 3 3 (iS 1 3) (as1 m 2 2 (iS 1 2) (as1 m 1 1 (iS 1 1) (a))))) (sy1 m 4 4 (iS 1 4) (sy1 m 3 3 (iS 1 3) (sy1 m 2 2 (iS 1 2) (sy1 m 1 1 (iS 1 1) (s))))))) ∧ y_in yGw h' ∧ gi h' = m) := fun hc a s L hw hm hL => by
    refine f_il 0 rfl hL rfl ?_
    refine f_aln 3 rfl hL rfl ?_
    refine m_gfi so55 (m 55 1) rfl hw hm rfl rfl ?_
    refine f_ic rfl (by decide) (by omega) (fun c1 => ?_) (fun c1 => ?_)
    · have c1 : (m 55 1 : Int) ≤ (1 : Int) := c1
      have e8 : as1 m 4 4 (iS 1 4) (as1 m 3 3 (iS 1 3) (as1 m 2 2 (iS 1 2) (as1 m 1 1 (iS 1 1) (a)))) = a := by unfold as1; rw [if_neg (by omega), if_neg (by omega), if_neg (by omega), if_neg (by omega)]
      have e7 : sy1 m 4 4 (iS 1 4) (sy1 m 3 3 (iS 1 3) (sy1 m 2 2 (iS 1 2) (sy1 m 1 1 (iS 1 1) (s)))) = s := by unfold sy1; rw [if_neg (by omega), if_neg (by omega), if_neg (by omega), if_neg (by omega)]
      rw [e8, e7]
      refine f_iln 4 rfl hL rfl ?_
      have hts : k = 0 ∨ k = 1 ∨ k = 2 ∨ k = 3 ∨ k = 4 ∨ k = 5 ∨ k = 6 ∨ k = 7 ∨ k = 8 ∨ (k < 0 ∨ 8 < k) := by omega
      rcases hts with hk | hk | hk | hk | hk | hk | hk | hk | hk | hk
      · refine x_W_j (pc' := 124) (st' := []) rfl (by rw [hk]; rfl) ?_
        refine f_aln 3 rfl hL rfl ?_
        refine m_gfi so55 (m 55 13) rfl hw hm rfl rfl ?_
        exact f_ret1 rfl ⟨by unfold cnS; rw [if_pos hk], hw, hm⟩
      · refine x_W_j (pc' := 129) (st' := []) rfl (by rw [hk]; rfl) ?_
        refine f_aln 3 rfl hL rfl ?_
        refine m_gfi so55 (m 55 0) rfl hw hm rfl rfl ?_
        exact f_ret1 rfl ⟨by unfold cnS; rw [if_neg (by omega), if_pos hk], hw, hm⟩
      · refine x_W_j (pc' := 134) (st' := []) rfl (by rw [hk]; rfl) ?_
        refine f_aln 3 rfl hL rfl ?_
        refine m_gfi so55 (m 55 1) rfl hw hm rfl rfl ?_
        exact f_ret1 rfl ⟨by unfold cnS; rw [if_neg (by omega), if_neg (by omega), if_pos hk], hw, hm⟩
      · refine x_W_j (pc' := 139) (st' := []) rfl (by rw [hk]; rfl) ?_
        refine f_aln 3 rfl hL rfl ?_
        refine m_gfr so55 rfl hw rfl (by decide) ?_
        refine f_bipush (n := 17) rfl (by decide) ?_
        refine m_ia sa61 (m 61 17) rfl hw hm (by omega) (by omega) (by decide) rfl ?_
        exact f_ret1 rfl ⟨by unfold cnS; rw [if_neg (by omega), if_neg (by omega), if_neg (by omega), if_pos hk], hw, hm⟩
      · refine x_W_j (pc' := 147) (st' := []) rfl (by rw [hk]; rfl) ?_
        refine f_iln 1 rfl hL rfl ?_
        exact f_ret1 rfl ⟨by unfold cnS; rw [if_neg (by omega), if_neg (by omega), if_neg (by omega), if_neg (by omega), if_pos hk], hw, hm⟩
      · refine x_W_j (pc' := 149) (st' := []) rfl (by rw [hk]; rfl) ?_
        refine f_iln 2 rfl hL rfl ?_
        exact f_ret1 rfl ⟨by unfold cnS; rw [if_neg (by omega), if_neg (by omega), if_neg (by omega), if_neg (by omega), if_neg (by omega), if_pos hk], hw, hm⟩
      · refine x_W_j (pc' := 151) (st' := []) rfl (by rw [hk]; rfl) ?_
        refine f_aln 3 rfl hL rfl ?_
        refine f_s [fi (0), .ref 55] rfl rfl ?_
        refine m_k1 (t189_0 hp) hw hm rfl rfl rfl (m_ar so55 hw rfl) rfl (fun hc14 hw14 hm14 => ?_)
        exact f_ret1 rfl ⟨by unfold cnS; rw [if_neg (by omega), if_neg (by omega), if_neg (by omega), if_neg (by omega), if_neg (by omega), if_neg (by omega), if_pos hk], hw14, hm14⟩
      · refine x_W_j (pc' := 157) (st' := []) rfl (by rw [hk]; rfl) ?_
        refine f_aln 3 rfl hL rfl ?_
        refine m_gfi so55 (m 55 16) rfl hw hm rfl rfl ?_
        exact f_ret1 rfl ⟨by unfold cnS; rw [if_neg (by omega), if_neg (by omega), if_neg (by omega), if_neg (by omega), if_neg (by omega), if_neg (by omega), if_neg (by omega), if_pos hk], hw, hm⟩
      · refine x_W_j (pc' := 162) (st' := []) rfl (by rw [hk]; rfl) ?_
        refine f_aln 3 rfl hL rfl ?_
        refine m_gfi so55 (m 55 21) rfl hw hm rfl rfl ?_
        exact f_ret1 rfl ⟨by unfold cnS; rw [if_neg (by omega), if_neg (by omega), if_neg (by omega), if_neg (by omega), if_neg (by omega), if_neg (by omega), if_neg (by omega), if_neg (by omega), if_pos hk], hw, hm⟩
      · refine m_tsd (pc' := 167) rfl rk hk rfl ?_
        refine f_bipush (n := -2) rfl (by decide) ?_
        exact f_ret1 rfl ⟨by unfold cnS; rw [if_neg (by omega), if_neg (by omega), if_neg (by omega), if_neg (by omega), if_neg (by omega), if_neg (by omega), if_neg (by omega), if_neg (by omega), if_neg (by omega)], hw, hm⟩
    · have c1 : ¬ ((m 55 1 : Int) ≤ (1 : Int)) := c1
      have jv : m 61 1 = -9 ∨ (0 ≤ m 61 1 ∧ m 61 1 < 4) := by have := hJ.2.2 1 (by decide) (by omega); rw [Nat.zero_add] at this; exact this
      refine f_iln 1 rfl hL rfl ?_
      refine f_aln 3 rfl hL rfl ?_
      refine f_s [fi (0), .ref 55, fi (a)] rfl rfl ?_
      refine f_il 0 rfl hL rfl ?_
      refine f_aln 3 rfl hL rfl ?_
      refine m_gfr so55 rfl hw rfl (by decide) ?_
      refine f_bipush (n := 17) rfl (by decide) ?_
      refine m_ia sa61 (m 61 17) rfl hw hm (by omega) (by omega) (by decide) rfl ?_
      refine m_k1 (t90_0 (p := 1) (h := m 61 17) (by decide) (by decide) (hR 61 17) (fv := m 58 1) rfl (hR 58 1) (uv := m 59 1) rfl (hR 59 1)) hw hm rfl rfl rfl (m_ar so55 hw rfl) rfl (fun hc15 hw15 hm15 => ?_)
      refine f_if rfl (bI_r _) (fun c2 => ?_) (fun c2 => ?_)
      · have c2 : (bI (decide (¬ iA (iR (m 61 16) (1)) (1) = 1 ∧ m 58 1 ≤ m 61 17 ∧ m 61 17 ≤ m 59 1)) : Int) = (0 : Int) := c2
        have c2 : ¬ (¬ iA (iR (m 61 16) (1)) (1) = 1 ∧ m 58 1 ≤ m 61 17 ∧ m 61 17 ≤ m 59 1) := bI_f c2
        refine f_s [fi (0), fi (a)] rfl rfl ?_
        refine b_ior rfl ?_
        refine f_istn [(2, fi (iO (a) (0))), (4, fi (1)), (3, fi (s)), (0, .ref 55), (1, fi (k))] rfl (by decide) hL rfl (fun L31 hL31 => ?_)
        refine f_iln 2 rfl hL31 rfl ?_
        refine f_aln 3 rfl hL31 rfl ?_
        refine f_s [fi (0), .ref 55, fi (s)] rfl rfl ?_
        refine f_il 1 rfl hL31 rfl ?_
        refine m_k1 (t62_0 (p := 1) (wv := m 61 1) (kv := m 56 (m 61 1).toNat) hn hp (by decide) (by decide) rfl (hR 61 1) jv rfl (hR 56 _)) hw15 hm15 rfl rfl rfl (m_ar so55 hw15 rfl) rfl (fun hc16 hw16 hm16 => ?_)
        refine f_if rfl (by have := sbM0_01 m (m 61 1); omega) (fun c3 => ?_) (fun c3 => ?_)
        · have c3 : (sbM0 m (m 61 1) : Int) = (0 : Int) := c3
          refine f_s [fi (0), fi (s)] rfl rfl ?_
          refine b_ior rfl ?_
          refine f_istn [(3, fi (iO (s) (0))), (2, fi (iO (a) (0))), (4, fi (1)), (0, .ref 55), (1, fi (k))] rfl (by decide) hL31 rfl (fun L32 hL32 => ?_)
          refine f_inc 2 [(4, fi (2)), (3, fi (iO (s) (0))), (2, fi (iO (a) (0))), (0, .ref 55), (1, fi (k))] rfl (by decide) hL32 rfl rfl (fun L33 hL33 => ?_)
          refine f_goto rfl ?_
          have e9 : as1 m 1 1 (iS 1 1) a = iO (a) (0) := (if_pos (by omega)).trans (by rw [if_neg c2])
          have e6 : sy1 m 1 1 (iS 1 1) s = iO (s) (0) := (if_pos (by omega)).trans (by rw [if_neg (fun z => z c3)])
          rw [e9, e6]
          exact hK2 hc16 _ _ _ hw16 hm16 (hL33.sel [0, 2, 1, 3, 4] rfl)
        · have c3 : ¬ ((sbM0 m (m 61 1) : Int) = (0 : Int)) := c3
          refine f_s [fi (1), fi (s)] rfl rfl ?_
          refine f_il 1 rfl hL31 rfl ?_
          refine b_ishl rfl ?_
          refine f_goto rfl ?_
          refine b_ior rfl ?_
          refine f_istn [(3, fi (iO (s) (iS (1) (1)))), (2, fi (iO (a) (0))), (4, fi (1)), (0, .ref 55), (1, fi (k))] rfl (by decide) hL31 rfl (fun L34 hL34 => ?_)
          refine f_inc 2 [(4, fi (2)), (3, fi (iO (s) (iS (1) (1)))), (2, fi (iO (a) (0))), (0, .ref 55), (1, fi (k))] rfl (by decide) hL34 rfl rfl (fun L35 hL35 => ?_)
          refine f_goto rfl ?_
          have e9 : as1 m 1 1 (iS 1 1) a = iO (a) (0) := (if_pos (by omega)).trans (by rw [if_neg c2])
          have e6 : sy1 m 1 1 (iS 1 1) s = iO (s) (iS (1) (1)) := (if_pos (by omega)).trans (by rw [if_pos c3])
          rw [e9, e6]
          exact hK2 hc16 _ _ _ hw16 hm16 (hL35.sel [0, 2, 1, 3, 4] rfl)
      · have c2 : ¬ ((bI (decide (¬ iA (iR (m 61 16) (1)) (1) = 1 ∧ m 58 1 ≤ m 61 17 ∧ m 61 17 ≤ m 59 1)) : Int) = (0 : Int)) := c2
        have c2 : ¬ iA (iR (m 61 16) (1)) (1) = 1 ∧ m 58 1 ≤ m 61 17 ∧ m 61 17 ≤ m 59 1 := bI_t c2
        refine f_s [fi (1), fi (a)] rfl rfl ?_
        refine f_il 0 rfl hL rfl ?_
        refine b_ishl rfl ?_
        refine f_goto rfl ?_
        refine b_ior rfl ?_
        refine f_istn [(2, fi (iO (a) (iS (1) (1)))), (4, fi (1)), (3, fi (s)), (0, .ref 55), (1, fi (k))] rfl (by decide) hL rfl (fun L36 hL36 => ?_)
        refine f_iln 2 rfl hL36 rfl ?_
        refine f_aln 3 rfl hL36 rfl ?_
        refine f_s [fi (0), .ref 55, fi (s)] rfl rfl ?_
        refine f_il 1 rfl hL36 rfl ?_
        refine m_k1 (t62_0 (p := 1) (wv := m 61 1) (kv := m 56 (m 61 1).toNat) hn hp (by decide) (by decide) rfl (hR 61 1) jv rfl (hR 56 _)) hw15 hm15 rfl rfl rfl (m_ar so55 hw15 rfl) rfl (fun hc17 hw17 hm17 => ?_)
        refine f_if rfl (by have := sbM0_01 m (m 61 1); omega) (fun c3 => ?_) (fun c3 => ?_)
        · have c3 : (sbM0 m (m 61 1) : Int) = (0 : Int) := c3
          refine f_s [fi (0), fi (s)] rfl rfl ?_
          refine b_ior rfl ?_
          refine f_istn [(3, fi (iO (s) (0))), (2, fi (iO (a) (iS (1) (1)))), (4, fi (1)), (0, .ref 55), (1, fi (k))] rfl (by decide) hL36 rfl (fun L37 hL37 => ?_)
          refine f_inc 2 [(4, fi (2)), (3, fi (iO (s) (0))), (2, fi (iO (a) (iS (1) (1)))), (0, .ref 55), (1, fi (k))] rfl (by decide) hL37 rfl rfl (fun L38 hL38 => ?_)
          refine f_goto rfl ?_
          have e9 : as1 m 1 1 (iS 1 1) a = iO (a) (iS (1) (1)) := (if_pos (by omega)).trans (by rw [if_pos c2])
          have e6 : sy1 m 1 1 (iS 1 1) s = iO (s) (0) := (if_pos (by omega)).trans (by rw [if_neg (fun z => z c3)])
          rw [e9, e6]
          exact hK2 hc17 _ _ _ hw17 hm17 (hL38.sel [0, 2, 1, 3, 4] rfl)
        · have c3 : ¬ ((sbM0 m (m 61 1) : Int) = (0 : Int)) := c3
          refine f_s [fi (1), fi (s)] rfl rfl ?_
          refine f_il 1 rfl hL36 rfl ?_
          refine b_ishl rfl ?_
          refine f_goto rfl ?_
          refine b_ior rfl ?_
          refine f_istn [(3, fi (iO (s) (iS (1) (1)))), (2, fi (iO (a) (iS (1) (1)))), (4, fi (1)), (0, .ref 55), (1, fi (k))] rfl (by decide) hL36 rfl (fun L39 hL39 => ?_)
          refine f_inc 2 [(4, fi (2)), (3, fi (iO (s) (iS (1) (1)))), (2, fi (iO (a) (iS (1) (1)))), (0, .ref 55), (1, fi (k))] rfl (by decide) hL39 rfl rfl (fun L40 hL40 => ?_)
          refine f_goto rfl ?_
          have e9 : as1 m 1 1 (iS 1 1) a = iO (a) (iS (1) (1)) := (if_pos (by omega)).trans (by rw [if_pos c2])
          have e6 : sy1 m 1 1 (iS 1 1) s = iO (s) (iS (1) (1)) := (if_pos (by omega)).trans (by rw [if_pos c3])
          rw [e9, e6]
          exact hK2 hc17 _ _ _ hw17 hm17 (hL40.sel [0, 2, 1, 3, 4] rfl)
  have hK0 : ∀ (hc : ev_H) (a s : Int) (L : ev_L), y_in yGw hc → gi hc = m → f_L L [(4, fi (0)), (2, fi (a)), (3, fi (s)), (0, .ref 55), (1, fi (k))] → x_W none (1, 0, 5, 1, 11, 3, 66, 0, 0, ev_t201) 7 L [] hc 0 0 (fun r' h' => r' = some (fi (cnS m k (as1 m 4 4 (iS 1 4) (as1 m 3 3 (iS 1 3) (as1 m 2 2 (iS 1 2) (as1 m 1 1 (iS 1 1) (as1 m 0 0 (iS 1 0) (a)))))) (sy1 m 4 4 (iS 1 4) (sy1 m 3 3 (iS 1 3) (sy1 m 2 2 (iS 1 2) (sy1 m 1 1 (iS 1 1) (sy1 m 0 0 (iS 1 0) (s)))))))) ∧ y_in yGw h' ∧ gi h' = m) := fun hc a s L hw hm hL => by
    refine f_il 0 rfl hL rfl ?_
    refine f_aln 3 rfl hL rfl ?_
    refine m_gfi so55 (m 55 1) rfl hw hm rfl rfl ?_
    refine f_ic rfl (by decide) (by omega) (fun c1 => ?_) (fun c1 => ?_)
    · have c1 : (m 55 1 : Int) ≤ (0 : Int) := c1
      have e8 : as1 m 4 4 (iS 1 4) (as1 m 3 3 (iS 1 3) (as1 m 2 2 (iS 1 2) (as1 m 1 1 (iS 1 1) (as1 m 0 0 (iS 1 0) (a))))) = a := by unfold as1; rw [if_neg (by omega), if_neg (by omega), if_neg (by omega), if_neg (by omega), if_neg (by omega)]
      have e7 : sy1 m 4 4 (iS 1 4) (sy1 m 3 3 (iS 1 3) (sy1 m 2 2 (iS 1 2) (sy1 m 1 1 (iS 1 1) (sy1 m 0 0 (iS 1 0) (s))))) = s := by unfold sy1; rw [if_neg (by omega), if_neg (by omega), if_neg (by omega), if_neg (by omega), if_neg (by omega)]
      rw [e8, e7]
      refine f_iln 4 rfl hL rfl ?_
      have hts : k = 0 ∨ k = 1 ∨ k = 2 ∨ k = 3 ∨ k = 4 ∨ k = 5 ∨ k = 6 ∨ k = 7 ∨ k = 8 ∨ (k < 0 ∨ 8 < k) := by omega
      rcases hts with hk | hk | hk | hk | hk | hk | hk | hk | hk | hk
      · refine x_W_j (pc' := 124) (st' := []) rfl (by rw [hk]; rfl) ?_
        refine f_aln 3 rfl hL rfl ?_
        refine m_gfi so55 (m 55 13) rfl hw hm rfl rfl ?_
        exact f_ret1 rfl ⟨by unfold cnS; rw [if_pos hk], hw, hm⟩
      · refine x_W_j (pc' := 129) (st' := []) rfl (by rw [hk]; rfl) ?_
        refine f_aln 3 rfl hL rfl ?_
        refine m_gfi so55 (m 55 0) rfl hw hm rfl rfl ?_
        exact f_ret1 rfl ⟨by unfold cnS; rw [if_neg (by omega), if_pos hk], hw, hm⟩
      · refine x_W_j (pc' := 134) (st' := []) rfl (by rw [hk]; rfl) ?_
        refine f_aln 3 rfl hL rfl ?_
        refine m_gfi so55 (m 55 1) rfl hw hm rfl rfl ?_
        exact f_ret1 rfl ⟨by unfold cnS; rw [if_neg (by omega), if_neg (by omega), if_pos hk], hw, hm⟩
      · refine x_W_j (pc' := 139) (st' := []) rfl (by rw [hk]; rfl) ?_
        refine f_aln 3 rfl hL rfl ?_
        refine m_gfr so55 rfl hw rfl (by decide) ?_
        refine f_bipush (n := 17) rfl (by decide) ?_
        refine m_ia sa61 (m 61 17) rfl hw hm (by omega) (by omega) (by decide) rfl ?_
        exact f_ret1 rfl ⟨by unfold cnS; rw [if_neg (by omega), if_neg (by omega), if_neg (by omega), if_pos hk], hw, hm⟩
      · refine x_W_j (pc' := 147) (st' := []) rfl (by rw [hk]; rfl) ?_
        refine f_iln 1 rfl hL rfl ?_
        exact f_ret1 rfl ⟨by unfold cnS; rw [if_neg (by omega), if_neg (by omega), if_neg (by omega), if_neg (by omega), if_pos hk], hw, hm⟩
      · refine x_W_j (pc' := 149) (st' := []) rfl (by rw [hk]; rfl) ?_
        refine f_iln 2 rfl hL rfl ?_
        exact f_ret1 rfl ⟨by unfold cnS; rw [if_neg (by omega), if_neg (by omega), if_neg (by omega), if_neg (by omega), if_neg (by omega), if_pos hk], hw, hm⟩
      · refine x_W_j (pc' := 151) (st' := []) rfl (by rw [hk]; rfl) ?_
        refine f_aln 3 rfl hL rfl ?_
        refine f_s [fi (0), .ref 55] rfl rfl ?_
        refine m_k1 (t189_0 hp) hw hm rfl rfl rfl (m_ar so55 hw rfl) rfl (fun hc18 hw18 hm18 => ?_)
        exact f_ret1 rfl ⟨by unfold cnS; rw [if_neg (by omega), if_neg (by omega), if_neg (by omega), if_neg (by omega), if_neg (by omega), if_neg (by omega), if_pos hk], hw18, hm18⟩
      · refine x_W_j (pc' := 157) (st' := []) rfl (by rw [hk]; rfl) ?_
        refine f_aln 3 rfl hL rfl ?_
        refine m_gfi so55 (m 55 16) rfl hw hm rfl rfl ?_
        exact f_ret1 rfl ⟨by unfold cnS; rw [if_neg (by omega), if_neg (by omega), if_neg (by omega), if_neg (by omega), if_neg (by omega), if_neg (by omega), if_neg (by omega), if_pos hk], hw, hm⟩
      · refine x_W_j (pc' := 162) (st' := []) rfl (by rw [hk]; rfl) ?_
        refine f_aln 3 rfl hL rfl ?_
        refine m_gfi so55 (m 55 21) rfl hw hm rfl rfl ?_
        exact f_ret1 rfl ⟨by unfold cnS; rw [if_neg (by omega), if_neg (by omega), if_neg (by omega), if_neg (by omega), if_neg (by omega), if_neg (by omega), if_neg (by omega), if_neg (by omega), if_pos hk], hw, hm⟩
      · refine m_tsd (pc' := 167) rfl rk hk rfl ?_
        refine f_bipush (n := -2) rfl (by decide) ?_
        exact f_ret1 rfl ⟨by unfold cnS; rw [if_neg (by omega), if_neg (by omega), if_neg (by omega), if_neg (by omega), if_neg (by omega), if_neg (by omega), if_neg (by omega), if_neg (by omega), if_neg (by omega)], hw, hm⟩
    · have c1 : ¬ ((m 55 1 : Int) ≤ (0 : Int)) := c1
      have jv : m 61 0 = -9 ∨ (0 ≤ m 61 0 ∧ m 61 0 < 4) := by have := hJ.2.2 0 (by decide) (by omega); rw [Nat.zero_add] at this; exact this
      refine f_iln 1 rfl hL rfl ?_
      refine f_aln 3 rfl hL rfl ?_
      refine f_s [fi (0), .ref 55, fi (a)] rfl rfl ?_
      refine f_il 0 rfl hL rfl ?_
      refine f_aln 3 rfl hL rfl ?_
      refine m_gfr so55 rfl hw rfl (by decide) ?_
      refine f_bipush (n := 17) rfl (by decide) ?_
      refine m_ia sa61 (m 61 17) rfl hw hm (by omega) (by omega) (by decide) rfl ?_
      refine m_k1 (t90_0 (p := 0) (h := m 61 17) (by decide) (by decide) (hR 61 17) (fv := m 58 0) rfl (hR 58 0) (uv := m 59 0) rfl (hR 59 0)) hw hm rfl rfl rfl (m_ar so55 hw rfl) rfl (fun hc19 hw19 hm19 => ?_)
      refine f_if rfl (bI_r _) (fun c2 => ?_) (fun c2 => ?_)
      · have c2 : (bI (decide (¬ iA (iR (m 61 16) (0)) (1) = 1 ∧ m 58 0 ≤ m 61 17 ∧ m 61 17 ≤ m 59 0)) : Int) = (0 : Int) := c2
        have c2 : ¬ (¬ iA (iR (m 61 16) (0)) (1) = 1 ∧ m 58 0 ≤ m 61 17 ∧ m 61 17 ≤ m 59 0) := bI_f c2
        refine f_s [fi (0), fi (a)] rfl rfl ?_
        refine b_ior rfl ?_
        refine f_istn [(2, fi (iO (a) (0))), (4, fi (0)), (3, fi (s)), (0, .ref 55), (1, fi (k))] rfl (by decide) hL rfl (fun L41 hL41 => ?_)
        refine f_iln 2 rfl hL41 rfl ?_
        refine f_aln 3 rfl hL41 rfl ?_
        refine f_s [fi (0), .ref 55, fi (s)] rfl rfl ?_
        refine f_il 1 rfl hL41 rfl ?_
        refine m_k1 (t62_0 (p := 0) (wv := m 61 0) (kv := m 56 (m 61 0).toNat) hn hp (by decide) (by decide) rfl (hR 61 0) jv rfl (hR 56 _)) hw19 hm19 rfl rfl rfl (m_ar so55 hw19 rfl) rfl (fun hc20 hw20 hm20 => ?_)
        refine f_if rfl (by have := sbM0_01 m (m 61 0); omega) (fun c3 => ?_) (fun c3 => ?_)
        · have c3 : (sbM0 m (m 61 0) : Int) = (0 : Int) := c3
          refine f_s [fi (0), fi (s)] rfl rfl ?_
          refine b_ior rfl ?_
          refine f_istn [(3, fi (iO (s) (0))), (2, fi (iO (a) (0))), (4, fi (0)), (0, .ref 55), (1, fi (k))] rfl (by decide) hL41 rfl (fun L42 hL42 => ?_)
          refine f_inc 2 [(4, fi (1)), (3, fi (iO (s) (0))), (2, fi (iO (a) (0))), (0, .ref 55), (1, fi (k))] rfl (by decide) hL42 rfl rfl (fun L43 hL43 => ?_)
          refine f_goto rfl ?_
          have e9 : as1 m 0 0 (iS 1 0) a = iO (a) (0) := (if_pos (by omega)).trans (by rw [if_neg c2])
          have e6 : sy1 m 0 0 (iS 1 0) s = iO (s) (0) := (if_pos (by omega)).trans (by rw [if_neg (fun z => z c3)])
          rw [e9, e6]
          exact hK1 hc20 _ _ _ hw20 hm20 (hL43.sel [0, 2, 1, 3, 4] rfl)
        · have c3 : ¬ ((sbM0 m (m 61 0) : Int) = (0 : Int)) := c3
          refine f_s [fi (1), fi (s)] rfl rfl ?_
          refine f_il 1 rfl hL41 rfl ?_
          refine b_ishl rfl ?_
          refine f_goto rfl ?_
          refine b_ior rfl ?_
          refine f_istn [(3, fi (iO (s) (iS (1) (0)))), (2, fi (iO (a) (0))), (4, fi (0)), (0, .ref 55), (1, fi (k))] rfl (by decide) hL41 rfl (fun L44 hL44 => ?_)
          refine f_inc 2 [(4, fi (1)), (3, fi (iO (s) (iS (1) (0)))), (2, fi (iO (a) (0))), (0, .ref 55), (1, fi (k))] rfl (by decide) hL44 rfl rfl (fun L45 hL45 => ?_)
          refine f_goto rfl ?_
          have e9 : as1 m 0 0 (iS 1 0) a = iO (a) (0) := (if_pos (by omega)).trans (by rw [if_neg c2])
          have e6 : sy1 m 0 0 (iS 1 0) s = iO (s) (iS (1) (0)) := (if_pos (by omega)).trans (by rw [if_pos c3])
          rw [e9, e6]
          exact hK1 hc20 _ _ _ hw20 hm20 (hL45.sel [0, 2, 1, 3, 4] rfl)
      · have c2 : ¬ ((bI (decide (¬ iA (iR (m 61 16) (0)) (1) = 1 ∧ m 58 0 ≤ m 61 17 ∧ m 61 17 ≤ m 59 0)) : Int) = (0 : Int)) := c2
        have c2 : ¬ iA (iR (m 61 16) (0)) (1) = 1 ∧ m 58 0 ≤ m 61 17 ∧ m 61 17 ≤ m 59 0 := bI_t c2
        refine f_s [fi (1), fi (a)] rfl rfl ?_
        refine f_il 0 rfl hL rfl ?_
        refine b_ishl rfl ?_
        refine f_goto rfl ?_
        refine b_ior rfl ?_
        refine f_istn [(2, fi (iO (a) (iS (1) (0)))), (4, fi (0)), (3, fi (s)), (0, .ref 55), (1, fi (k))] rfl (by decide) hL rfl (fun L46 hL46 => ?_)
        refine f_iln 2 rfl hL46 rfl ?_
        refine f_aln 3 rfl hL46 rfl ?_
        refine f_s [fi (0), .ref 55, fi (s)] rfl rfl ?_
        refine f_il 1 rfl hL46 rfl ?_
        refine m_k1 (t62_0 (p := 0) (wv := m 61 0) (kv := m 56 (m 61 0).toNat) hn hp (by decide) (by decide) rfl (hR 61 0) jv rfl (hR 56 _)) hw19 hm19 rfl rfl rfl (m_ar so55 hw19 rfl) rfl (fun hc21 hw21 hm21 => ?_)
        refine f_if rfl (by have := sbM0_01 m (m 61 0); omega) (fun c3 => ?_) (fun c3 => ?_)
        · have c3 : (sbM0 m (m 61 0) : Int) = (0 : Int) := c3
          refine f_s [fi (0), fi (s)] rfl rfl ?_
          refine b_ior rfl ?_
          refine f_istn [(3, fi (iO (s) (0))), (2, fi (iO (a) (iS (1) (0)))), (4, fi (0)), (0, .ref 55), (1, fi (k))] rfl (by decide) hL46 rfl (fun L47 hL47 => ?_)
          refine f_inc 2 [(4, fi (1)), (3, fi (iO (s) (0))), (2, fi (iO (a) (iS (1) (0)))), (0, .ref 55), (1, fi (k))] rfl (by decide) hL47 rfl rfl (fun L48 hL48 => ?_)
          refine f_goto rfl ?_
          have e9 : as1 m 0 0 (iS 1 0) a = iO (a) (iS (1) (0)) := (if_pos (by omega)).trans (by rw [if_pos c2])
          have e6 : sy1 m 0 0 (iS 1 0) s = iO (s) (0) := (if_pos (by omega)).trans (by rw [if_neg (fun z => z c3)])
          rw [e9, e6]
          exact hK1 hc21 _ _ _ hw21 hm21 (hL48.sel [0, 2, 1, 3, 4] rfl)
        · have c3 : ¬ ((sbM0 m (m 61 0) : Int) = (0 : Int)) := c3
          refine f_s [fi (1), fi (s)] rfl rfl ?_
          refine f_il 1 rfl hL46 rfl ?_
          refine b_ishl rfl ?_
          refine f_goto rfl ?_
          refine b_ior rfl ?_
          refine f_istn [(3, fi (iO (s) (iS (1) (0)))), (2, fi (iO (a) (iS (1) (0)))), (4, fi (0)), (0, .ref 55), (1, fi (k))] rfl (by decide) hL46 rfl (fun L49 hL49 => ?_)
          refine f_inc 2 [(4, fi (1)), (3, fi (iO (s) (iS (1) (0)))), (2, fi (iO (a) (iS (1) (0)))), (0, .ref 55), (1, fi (k))] rfl (by decide) hL49 rfl rfl (fun L50 hL50 => ?_)
          refine f_goto rfl ?_
          have e9 : as1 m 0 0 (iS 1 0) a = iO (a) (iS (1) (0)) := (if_pos (by omega)).trans (by rw [if_pos c2])
          have e6 : sy1 m 0 0 (iS 1 0) s = iO (s) (iS (1) (0)) := (if_pos (by omega)).trans (by rw [if_pos c3])
          rw [e9, e6]
          exact hK1 hc21 _ _ _ hw21 hm21 (hL50.sel [0, 2, 1, 3, 4] rfl)
  refine f_s [fi (0)] rfl rfl ?_
  refine f_istn [(2, fi (0)), (0, .ref 55), (1, fi (k))] rfl (by decide) hL rfl (fun L51 hL51 => ?_)
  refine f_s [fi (0)] rfl rfl ?_
  refine f_istn [(3, fi (0)), (2, fi (0)), (0, .ref 55), (1, fi (k))] rfl (by decide) hL51 rfl (fun L52 hL52 => ?_)
  refine f_s [fi (0)] rfl rfl ?_
  refine f_ist [(4, fi (0)), (3, fi (0)), (2, fi (0)), (0, .ref 55), (1, fi (k))] rfl (by decide) hL52 rfl (fun L53 hL53 => ?_)
  exact hK0 hc 0 0 _ hw hm (hL53.sel [0, 2, 1, 3, 4] rfl))
