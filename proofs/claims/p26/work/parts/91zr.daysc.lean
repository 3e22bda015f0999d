/-! days: what a day does to the numbers -/
def cpC (m : Nat → Nat → Int) : Nat → Nat → Int := (up (up (up (cpy (cpy (cpy m 10 0 14 0 5) 11 0 15 0 5) 12 0 16 0 5) 13 4 (m 9 4)) 13 5 (m 9 5)) 13 6 (m 9 6))
theorem t136 {m : Nat → Nat → Int} : h_M 136 [.ref 13, .ref 9] m none (cpC m) := h_M_of (R := ev_r136) rfl (fun hc hw hm => by
  have hL : f_L (lv_args 0 [.ref 13, .ref 9]) [(0, .ref 13), (1, .ref 9)] := f_L_of rfl
  generalize lv_args 0 [.ref 13, .ref 9] = L at hL
  show x_W none (0, 0, 2, 1, 7, 1, 26, 0, 0, ev_t136) 0 L [] hc 0 0 _
  have hR := gi_R hm
  refine f_aln 1 rfl hL rfl ?_
  refine m_gfr so9 rfl hw rfl (by decide) ?_
  refine f_s [fi (0), .ref 10] rfl rfl ?_
  refine f_aln 0 rfl hL rfl ?_
  refine m_gfr so13 rfl hw rfl (by decide) ?_
  refine f_s [fi (0), .ref 14, fi (0), .ref 10] rfl rfl ?_
  refine f_s [fi (5), fi (0), .ref 14, fi (0), .ref 10] rfl rfl ?_
  refine m_cp sa10 sa14 rfl rfl hw hm (by decide) (by decide) (by decide) (by decide) (by decide) (by decide) (by decide) (by decide) (by decide) (fun hc1 hw1 hm1 => ?_)
  refine f_aln 1 rfl hL rfl ?_
  refine m_gfr so9 rfl hw1 rfl (by decide) ?_
  refine f_s [fi (0), .ref 11] rfl rfl ?_
  refine f_aln 0 rfl hL rfl ?_
  refine m_gfr so13 rfl hw1 rfl (by decide) ?_
  refine f_s [fi (0), .ref 15, fi (0), .ref 11] rfl rfl ?_
  refine f_s [fi (5), fi (0), .ref 15, fi (0), .ref 11] rfl rfl ?_
  refine m_cp sa11 sa15 rfl rfl hw1 hm1 (by decide) (by decide) (by decide) (by decide) (by decide) (by decide) (by decide) (by decide) (by decide) (fun hc2 hw2 hm2 => ?_)
  refine f_aln 1 rfl hL rfl ?_
  refine m_gfr so9 rfl hw2 rfl (by decide) ?_
  refine f_s [fi (0), .ref 12] rfl rfl ?_
  refine f_aln 0 rfl hL rfl ?_
  refine m_gfr so13 rfl hw2 rfl (by decide) ?_
  refine f_s [fi (0), .ref 16, fi (0), .ref 12] rfl rfl ?_
  refine f_s [fi (5), fi (0), .ref 16, fi (0), .ref 12] rfl rfl ?_
  refine m_cp sa12 sa16 rfl rfl hw2 hm2 (by decide) (by decide) (by decide) (by decide) (by decide) (by decide) (by decide) (by decide) (by decide) (fun hc3 hw3 hm3 => ?_)
  refine f_aln 0 rfl hL rfl ?_
  refine f_aln 1 rfl hL rfl ?_
  refine m_gfi so9 (m 9 4) rfl hw3 hm3 rfl rfl ?_
  refine m_pf so13 rfl hw3 hm3 rfl rfl (hR 9 4) (fun hc4 hw4 hm4 => ?_)
  refine f_aln 0 rfl hL rfl ?_
  refine f_aln 1 rfl hL rfl ?_
  refine m_gfi so9 (m 9 5) rfl hw4 hm4 rfl rfl ?_
  refine m_pf so13 rfl hw4 hm4 rfl rfl (hR 9 5) (fun hc5 hw5 hm5 => ?_)
  refine f_aln 0 rfl hL rfl ?_
  refine f_aln 1 rfl hL rfl ?_
  refine m_gfi so9 (m 9 6) rfl hw5 hm5 rfl rfl ?_
  refine m_pf so13 rfl hw5 hm5 rfl rfl (hR 9 6) (fun hc6 hw6 hm6 => ?_)
  exact m_ret0 rfl ⟨rfl, hw6, hm6⟩)
def haC (m : Nat → Nat → Int) (x : Int) : Nat → Nat → Int := if nO m 14 x = -9 then m else puC m 14 15 x (-9)
abbrev caC (m : Nat → Nat → Int) (x k : Int) : Prop := nO m 14 x = -9 ∧ ((0 ≤ k ∧ k < m 3 5) ∧ ¬ ((0 ≤ x ∧ x < m 3 6) ∧ iA (iR (m 13 5) (x)) (1) = 1) ∧ iA (iR (ft m x) (k)) (1) = 1) ∧ ¬ ((0 ≤ k ∧ k < m 3 5) ∧ iA (iR (m 13 4) (k)) (1) = 1) ∧ bC (wr m 14 k) < rm m k
theorem t137 {m : Nat → Nat → Int} (hp : 0 ≤ m 3 6 ∧ m 3 6 ≤ 5) {x : Int} (rx : -2147483648 ≤ x ∧ x ≤ 2147483647) : h_M 137 [.ref 13, fi (x)] m (some (fi (bI (decide (¬ nO m 14 x = -9))))) (haC m x) := h_M_of (R := ev_r137) rfl (fun hc hw hm => by
  have hL : f_L (lv_args 0 [.ref 13, fi (x)]) [(0, .ref 13), (1, fi (x))] := f_L_of rfl
  generalize lv_args 0 [.ref 13, fi (x)] = L at hL
  show x_W none (2, 0, 3, 1, 7, 3, 64, 0, 0, ev_t137) 0 L [] hc 0 0 _
  have hR := gi_R hm
  refine f_aln 0 rfl hL rfl ?_
  refine f_iln 1 rfl hL rfl ?_
  refine m_k1 (t53_13 hp rx) hw hm rfl rfl rfl (m_ar so13 hw rfl) rfl (fun hc1 hw1 hm1 => ?_)
  refine f_bipush (n := -9) rfl (by decide) ?_
  refine f_ic rfl (nO_r hR 14 x) (by decide) (fun c1 => ?_) (fun c1 => ?_)
  · have c1 : (nO m 14 x : Int) = (-9 : Int) := c1
    refine f_s [fi (0)] rfl rfl ?_
    refine f_istn [(2, fi (0)), (0, .ref 13), (1, fi (x))] rfl (by decide) hL rfl (fun L1 hL1 => ?_)
    refine f_iln 0 rfl hL1 rfl ?_
    refine f_if rfl (by decide) (fun _ => ?_) (fun c_9 => absurd (show (0 : Int) = (0 : Int) from (by decide)) c_9)
    refine f_iln 0 rfl hL1 rfl ?_
    exact f_ret2 rfl (Or.inl rfl) ⟨by rw [decide_eq_false (fun z => z c1)]; rfl, hw1, hm1.trans (if_pos c1).symm⟩
  · have c1 : ¬ ((nO m 14 x : Int) = (-9 : Int)) := c1
    refine f_s [fi (1)] rfl rfl ?_
    refine f_goto rfl ?_
    refine f_istn [(2, fi (1)), (0, .ref 13), (1, fi (x))] rfl (by decide) hL rfl (fun L2 hL2 => ?_)
    refine f_iln 0 rfl hL2 rfl ?_
    refine f_if rfl (by decide) (fun c_9 => absurd (show (1 : Int) = (0 : Int) from c_9) (by decide)) (fun _ => ?_)
    refine f_aln 1 rfl hL2 rfl ?_
    refine f_iln 2 rfl hL2 rfl ?_
    refine m_k0 (t81_13 hp rx) hw1 hm1 rfl rfl rfl (m_ar so13 hw1 rfl) rfl (fun hc2 hw2 hm2 => ?_)
    refine f_iln 0 rfl hL2 rfl ?_
    exact f_ret2 rfl (Or.inr rfl) ⟨by rw [decide_eq_true c1]; rfl, hw2, hm2.trans (if_neg c1).symm⟩)
def taC (m : Nat → Nat → Int) (x k : Int) : Nat → Nat → Int := if caC m x k then puC m 14 15 x k else m
theorem t138 {m : Nat → Nat → Int} (hn : 0 ≤ m 3 5 ∧ m 3 5 ≤ 4) (hp : 0 ≤ m 3 6 ∧ m 3 6 ≤ 5) {x : Int} (rx : -2147483648 ≤ x ∧ x ≤ 2147483647) {k : Int} (rk : -2147483648 ≤ k ∧ k ≤ 2147483647) : h_M 138 [.ref 13, fi (x), fi (k)] m (some (fi (bI (decide (nO m 14 x = -9 ∧ ((0 ≤ k ∧ k < m 3 5) ∧ ¬ ((0 ≤ x ∧ x < m 3 6) ∧ iA (iR (m 13 5) (x)) (1) = 1) ∧ iA (iR (ft m x) (k)) (1) = 1) ∧ ¬ ((0 ≤ k ∧ k < m 3 5) ∧ iA (iR (m 13 4) (k)) (1) = 1) ∧ bC (wr m 14 k) < rm m k))))) (taC m x k) := h_M_of (R := ev_r138) rfl (fun hc hw hm => by
  have hL : f_L (lv_args 0 [.ref 13, fi (x), fi (k)]) [(0, .ref 13), (1, fi (x)), (2, fi (k))] := f_L_of rfl
  generalize lv_args 0 [.ref 13, fi (x), fi (k)] = L at hL
  show x_W none (2, 0, 4, 2, 7, 4, 86, 0, 0, ev_t138) 0 L [] hc 0 0 _
  have hR := gi_R hm
  refine f_aln 0 rfl hL rfl ?_
  refine f_iln 1 rfl hL rfl ?_
  refine f_iln 2 rfl hL rfl ?_
  refine m_k1 (t67_13 hn hp rx rk) hw hm rfl rfl rfl (m_ar so13 hw rfl) rfl (fun hc1 hw1 hm1 => ?_)
  refine f_istn [(3, fi (bI (decide (nO m 14 x = -9 ∧ ((0 ≤ k ∧ k < m 3 5) ∧ ¬ ((0 ≤ x ∧ x < m 3 6) ∧ iA (iR (m 13 5) (x)) (1) = 1) ∧ iA (iR (ft m x) (k)) (1) = 1) ∧ ¬ ((0 ≤ k ∧ k < m 3 5) ∧ iA (iR (m 13 4) (k)) (1) = 1) ∧ bC (wr m 14 k) < rm m k)))), (0, .ref 13), (1, fi (x)), (2, fi (k))] rfl (by decide) hL rfl (fun L1 hL1 => ?_)
  refine f_iln 0 rfl hL1 rfl ?_
  refine f_if rfl (bI_r _) (fun c1 => ?_) (fun c1 => ?_)
  · have c1 : (bI (decide (nO m 14 x = -9 ∧ ((0 ≤ k ∧ k < m 3 5) ∧ ¬ ((0 ≤ x ∧ x < m 3 6) ∧ iA (iR (m 13 5) (x)) (1) = 1) ∧ iA (iR (ft m x) (k)) (1) = 1) ∧ ¬ ((0 ≤ k ∧ k < m 3 5) ∧ iA (iR (m 13 4) (k)) (1) = 1) ∧ bC (wr m 14 k) < rm m k)) : Int) = (0 : Int) := c1
    have c1 : ¬ (nO m 14 x = -9 ∧ ((0 ≤ k ∧ k < m 3 5) ∧ ¬ ((0 ≤ x ∧ x < m 3 6) ∧ iA (iR (m 13 5) (x)) (1) = 1) ∧ iA (iR (ft m x) (k)) (1) = 1) ∧ ¬ ((0 ≤ k ∧ k < m 3 5) ∧ iA (iR (m 13 4) (k)) (1) = 1) ∧ bC (wr m 14 k) < rm m k) := bI_f c1
    refine f_iln 0 rfl hL1 rfl ?_
    exact f_ret2 rfl (bI_01 _) ⟨rfl, hw1, hm1.trans (if_neg c1).symm⟩
  · have c1 : ¬ ((bI (decide (nO m 14 x = -9 ∧ ((0 ≤ k ∧ k < m 3 5) ∧ ¬ ((0 ≤ x ∧ x < m 3 6) ∧ iA (iR (m 13 5) (x)) (1) = 1) ∧ iA (iR (ft m x) (k)) (1) = 1) ∧ ¬ ((0 ≤ k ∧ k < m 3 5) ∧ iA (iR (m 13 4) (k)) (1) = 1) ∧ bC (wr m 14 k) < rm m k)) : Int) = (0 : Int)) := c1
    have c1 : nO m 14 x = -9 ∧ ((0 ≤ k ∧ k < m 3 5) ∧ ¬ ((0 ≤ x ∧ x < m 3 6) ∧ iA (iR (m 13 5) (x)) (1) = 1) ∧ iA (iR (ft m x) (k)) (1) = 1) ∧ ¬ ((0 ≤ k ∧ k < m 3 5) ∧ iA (iR (m 13 4) (k)) (1) = 1) ∧ bC (wr m 14 k) < rm m k := bI_t c1
    refine f_aln 1 rfl hL1 rfl ?_
    refine f_iln 2 rfl hL1 rfl ?_
    refine f_iln 3 rfl hL1 rfl ?_
    refine m_k0 (t71_13 hp rx rk) hw1 hm1 rfl rfl rfl (m_ar so13 hw1 rfl) rfl (fun hc2 hw2 hm2 => ?_)
    refine f_iln 0 rfl hL1 rfl ?_
    exact f_ret2 rfl (bI_01 _) ⟨rfl, hw2, hm2.trans (if_pos c1).symm⟩)
def acC (m : Nat → Nat → Int) (v : Int) : Nat → Nat → Int := if v / 5 < 4 then taC m (v % 5) (v / 5) else if v / 5 = 5 then haC m (v % 5) else m
theorem t187 {m : Nat → Nat → Int} (hn : 0 ≤ m 3 5 ∧ m 3 5 ≤ 4) (hp : 0 ≤ m 3 6 ∧ m 3 6 ≤ 5) {v : Int} (hv : 0 ≤ v ∧ v ≤ 29) : h_M 187 [.ref 0, fi (v)] m none (acC m v) := h_M_of (R := ev_r187) rfl (fun hc hw hm => by
  have hL : f_L (lv_args 0 [.ref 0, fi (v)]) [(0, .ref 0), (1, fi (v))] := f_L_of rfl
  generalize lv_args 0 [.ref 0, fi (v)] = L at hL
  show x_W none (0, 0, 4, 1, 10, 5, 109, 0, 0, ev_t187) 0 L [] hc 0 0 _
  have hR := gi_R hm
  refine f_iln 1 rfl hL rfl ?_
  refine f_s [fi (5), fi (v)] rfl rfl ?_
  refine f_irem rfl (by omega) (by omega) (by decide) (by decide) ?_
  refine f_istn [(2, fi ((v) % (5))), (0, .ref 0), (1, fi (v))] rfl (by decide) hL rfl (fun L1 hL1 => ?_)
  refine f_iln 2 rfl hL1 rfl ?_
  refine f_s [fi (5), fi (v)] rfl rfl ?_
  refine f_idiv rfl (by omega) (by omega) (by decide) (by decide) ?_
  refine b_eq (x := v / 5) (Int.tdiv_eq_ediv_of_nonneg hv.1) ?_
  refine f_istn [(3, fi (v / 5)), (2, fi ((v) % (5))), (0, .ref 0), (1, fi (v))] rfl (by decide) hL1 rfl (fun L2 hL2 => ?_)
  refine f_iln 0 rfl hL2 rfl ?_
  refine f_s [fi (4), fi (v / 5)] rfl rfl ?_
  refine f_ic rfl (by omega) (by decide) (fun c1 => ?_) (fun c1 => ?_)
  · have c1 : (4 : Int) ≤ (v / 5 : Int) := c1
    refine f_iln 0 rfl hL2 rfl ?_
    refine f_s [fi (5), fi (v / 5)] rfl rfl ?_
    refine f_ic rfl (by omega) (by decide) (fun c2 => ?_) (fun c2 => ?_)
    · have c2 : ¬ (v / 5 : Int) = (5 : Int) := c2
      exact m_ret0 rfl ⟨rfl, hw, hm.trans ((if_neg (by omega)).trans (if_neg (by omega))).symm⟩
    · have c2 : ¬ (¬ (v / 5 : Int) = (5 : Int)) := c2
      refine f_aln 2 rfl hL2 rfl ?_
      refine m_gfr so0 rfl hw rfl (by decide) ?_
      refine f_iln 1 rfl hL2 rfl ?_
      refine m_k1 (t137 (x := v % 5) hp (by omega)) hw hm rfl rfl rfl (m_ar so13 hw rfl) rfl (fun hc1 hw1 hm1 => ?_)
      refine f_s [] rfl rfl ?_
      exact m_ret0 rfl ⟨rfl, hw1, hm1.trans ((if_neg (by omega)).trans (if_pos (by omega))).symm⟩
  · have c1 : ¬ ((4 : Int) ≤ (v / 5 : Int)) := c1
    refine f_aln 2 rfl hL2 rfl ?_
    refine m_gfr so0 rfl hw rfl (by decide) ?_
    refine f_iln 1 rfl hL2 rfl ?_
    refine f_iln 0 rfl hL2 rfl ?_
    refine m_k1 (t138 (x := v % 5) (k := v / 5) hn hp (by omega) (by omega)) hw hm rfl rfl rfl (m_ar so13 hw rfl) rfl (fun hc2 hw2 hm2 => ?_)
    refine f_s [] rfl rfl ?_
    refine f_goto rfl ?_
    exact m_ret0 rfl ⟨rfl, hw2, hm2.trans (if_pos (by omega)).symm⟩)
def laT (m : Nat → Nat → Int) : Nat → Nat → Int := (up (up (up (up (up (up (up (up (up (up (up (up (up (up (up (up (up (up m 61 18 (m 61 0)) 61 19 (m 61 1)) 61 20 (m 61 2)) 61 21 (m 61 3)) 61 22 (m 61 4)) 61 23 (m 61 5)) 61 24 (m 61 6)) 61 25 (m 61 7)) 61 26 (m 61 8)) 61 27 (m 61 9)) 61 28 (m 61 10)) 61 29 (m 61 11)) 61 30 (m 61 12)) 61 31 (m 61 13)) 61 32 (m 61 14)) 61 33 (m 61 15)) 61 34 (m 61 16)) 61 35 (m 61 17))
theorem t141 {m : Nat → Nat → Int} : h_M 141 [.ref 55] m none (laT m) := h_M_of (R := ev_r141) rfl (fun hc hw hm => by
  have hL : f_L (lv_args 0 [.ref 55]) [(0, .ref 55)] := f_L_of rfl
  generalize lv_args 0 [.ref 55] = L at hL
  show x_W none (0, 0, 2, 0, 11, 0, 0, 0, 0, ev_t141) 0 L [] hc 0 0 _
  have hR := gi_R hm
  refine f_s [fi (0)] rfl rfl ?_
  refine f_istn [(1, fi (0)), (0, .ref 55)] rfl (by decide) hL rfl (fun L1 hL1 => ?_)
  refine f_iln 0 rfl hL1 rfl ?_
  refine f_bipush (n := 18) rfl (by decide) ?_
  refine f_ic rfl (by decide) (by decide) (fun c_9 => absurd (show (18 : Int) ≤ (0 : Int) from c_9) (by decide)) (fun _ => ?_)
  refine f_aln 1 rfl hL1 rfl ?_
  refine m_gfr so55 rfl hw rfl (by decide) ?_
  refine f_bipush (n := 18) rfl (by decide) ?_
  refine f_iln 0 rfl hL1 rfl ?_
  refine f_iadd rfl ?_
  refine b_eq (x := 18) (by decide) ?_
  refine f_aln 1 rfl hL1 rfl ?_
  refine m_gfr so55 rfl hw rfl (by decide) ?_
  refine f_iln 0 rfl hL1 rfl ?_
  refine m_ia sa61 (m 61 0) rfl hw hm (by omega) (by omega) (by decide) rfl ?_
  refine m_ias sa61 rfl hw hm (by omega) (by omega) (by decide) (hR 61 0) (fun hc1 hw1 hm1 => ?_)
  refine f_inc 0 [(1, fi (1)), (0, .ref 55)] rfl (by decide) hL1 rfl rfl (fun L2 hL2 => ?_)
  refine f_goto rfl ?_
  refine f_iln 0 rfl hL2 rfl ?_
  refine f_bipush (n := 18) rfl (by decide) ?_
  refine f_ic rfl (by decide) (by decide) (fun c_9 => absurd (show (18 : Int) ≤ (1 : Int) from c_9) (by decide)) (fun _ => ?_)
  refine f_aln 1 rfl hL2 rfl ?_
  refine m_gfr so55 rfl hw1 rfl (by decide) ?_
  refine f_bipush (n := 18) rfl (by decide) ?_
  refine f_iln 0 rfl hL2 rfl ?_
  refine f_iadd rfl ?_
  refine b_eq (x := 19) (by decide) ?_
  refine f_aln 1 rfl hL2 rfl ?_
  refine m_gfr so55 rfl hw1 rfl (by decide) ?_
  refine f_iln 0 rfl hL2 rfl ?_
  refine m_ia sa61 (m 61 1) rfl hw1 hm1 (by omega) (by omega) (by decide) rfl ?_
  refine m_ias sa61 rfl hw1 hm1 (by omega) (by omega) (by decide) (hR 61 1) (fun hc2 hw2 hm2 => ?_)
  refine f_inc 0 [(1, fi (2)), (0, .ref 55)] rfl (by decide) hL2 rfl rfl (fun L3 hL3 => ?_)
  refine f_goto rfl ?_
  refine f_iln 0 rfl hL3 rfl ?_
  refine f_bipush (n := 18) rfl (by decide) ?_
  refine f_ic rfl (by decide) (by decide) (fun c_9 => absurd (show (18 : Int) ≤ (2 : Int) from c_9) (by decide)) (fun _ => ?_)
  refine f_aln 1 rfl hL3 rfl ?_
  refine m_gfr so55 rfl hw2 rfl (by decide) ?_
  refine f_bipush (n := 18) rfl (by decide) ?_
  refine f_iln 0 rfl hL3 rfl ?_
  refine f_iadd rfl ?_
  refine b_eq (x := 20) (by decide) ?_
  refine f_aln 1 rfl hL3 rfl ?_
  refine m_gfr so55 rfl hw2 rfl (by decide) ?_
  refine f_iln 0 rfl hL3 rfl ?_
  refine m_ia sa61 (m 61 2) rfl hw2 hm2 (by omega) (by omega) (by decide) rfl ?_
  refine m_ias sa61 rfl hw2 hm2 (by omega) (by omega) (by decide) (hR 61 2) (fun hc3 hw3 hm3 => ?_)
  refine f_inc 0 [(1, fi (3)), (0, .ref 55)] rfl (by decide) hL3 rfl rfl (fun L4 hL4 => ?_)
  refine f_goto rfl ?_
  refine f_iln 0 rfl hL4 rfl ?_
  refine f_bipush (n := 18) rfl (by decide) ?_
  refine f_ic rfl (by decide) (by decide) (fun c_9 => absurd (show (18 : Int) ≤ (3 : Int) from c_9) (by decide)) (fun _ => ?_)
  refine f_aln 1 rfl hL4 rfl ?_
  refine m_gfr so55 rfl hw3 rfl (by decide) ?_
  refine f_bipush (n := 18) rfl (by decide) ?_
  refine f_iln 0 rfl hL4 rfl ?_
  refine f_iadd rfl ?_
  refine b_eq (x := 21) (by decide) ?_
  refine f_aln 1 rfl hL4 rfl ?_
  refine m_gfr so55 rfl hw3 rfl (by decide) ?_
  refine f_iln 0 rfl hL4 rfl ?_
  refine m_ia sa61 (m 61 3) rfl hw3 hm3 (by omega) (by omega) (by decide) rfl ?_
  refine m_ias sa61 rfl hw3 hm3 (by omega) (by omega) (by decide) (hR 61 3) (fun hc4 hw4 hm4 => ?_)
  refine f_inc 0 [(1, fi (4)), (0, .ref 55)] rfl (by decide) hL4 rfl rfl (fun L5 hL5 => ?_)
  refine f_goto rfl ?_
  refine f_iln 0 rfl hL5 rfl ?_
  refine f_bipush (n := 18) rfl (by decide) ?_
  refine f_ic rfl (by decide) (by decide) (fun c_9 => absurd (show (18 : Int) ≤ (4 : Int) from c_9) (by decide)) (fun _ => ?_)
  refine f_aln 1 rfl hL5 rfl ?_
  refine m_gfr so55 rfl hw4 rfl (by decide) ?_
  refine f_bipush (n := 18) rfl (by decide) ?_
  refine f_iln 0 rfl hL5 rfl ?_
  refine f_iadd rfl ?_
  refine b_eq (x := 22) (by decide) ?_
  refine f_aln 1 rfl hL5 rfl ?_
  refine m_gfr so55 rfl hw4 rfl (by decide) ?_
  refine f_iln 0 rfl hL5 rfl ?_
  refine m_ia sa61 (m 61 4) rfl hw4 hm4 (by omega) (by omega) (by decide) rfl ?_
  refine m_ias sa61 rfl hw4 hm4 (by omega) (by omega) (by decide) (hR 61 4) (fun hc5 hw5 hm5 => ?_)
  refine f_inc 0 [(1, fi (5)), (0, .ref 55)] rfl (by decide) hL5 rfl rfl (fun L6 hL6 => ?_)
  refine f_goto rfl ?_
  refine f_iln 0 rfl hL6 rfl ?_
  refine f_bipush (n := 18) rfl (by decide) ?_
  refine f_ic rfl (by decide) (by decide) (fun c_9 => absurd (show (18 : Int) ≤ (5 : Int) from c_9) (by decide)) (fun _ => ?_)
  refine f_aln 1 rfl hL6 rfl ?_
  refine m_gfr so55 rfl hw5 rfl (by decide) ?_
  refine f_bipush (n := 18) rfl (by decide) ?_
  refine f_iln 0 rfl hL6 rfl ?_
  refine f_iadd rfl ?_
  refine b_eq (x := 23) (by decide) ?_
  refine f_aln 1 rfl hL6 rfl ?_
  refine m_gfr so55 rfl hw5 rfl (by decide) ?_
  refine f_iln 0 rfl hL6 rfl ?_
  refine m_ia sa61 (m 61 5) rfl hw5 hm5 (by omega) (by omega) (by decide) rfl ?_
  refine m_ias sa61 rfl hw5 hm5 (by omega) (by omega) (by decide) (hR 61 5) (fun hc6 hw6 hm6 => ?_)
  refine f_inc 0 [(1, fi (6)), (0, .ref 55)] rfl (by decide) hL6 rfl rfl (fun L7 hL7 => ?_)
  refine f_goto rfl ?_
  refine f_iln 0 rfl hL7 rfl ?_
  refine f_bipush (n := 18) rfl (by decide) ?_
  refine f_ic rfl (by decide) (by decide) (fun c_9 => absurd (show (18 : Int) ≤ (6 : Int) from c_9) (by decide)) (fun _ => ?_)
  refine f_aln 1 rfl hL7 rfl ?_
  refine m_gfr so55 rfl hw6 rfl (by decide) ?_
  refine f_bipush (n := 18) rfl (by decide) ?_
  refine f_iln 0 rfl hL7 rfl ?_
  refine f_iadd rfl ?_
  refine b_eq (x := 24) (by decide) ?_
  refine f_aln 1 rfl hL7 rfl ?_
  refine m_gfr so55 rfl hw6 rfl (by decide) ?_
  refine f_iln 0 rfl hL7 rfl ?_
  refine m_ia sa61 (m 61 6) rfl hw6 hm6 (by omega) (by omega) (by decide) rfl ?_
  refine m_ias sa61 rfl hw6 hm6 (by omega) (by omega) (by decide) (hR 61 6) (fun hc7 hw7 hm7 => ?_)
  refine f_inc 0 [(1, fi (7)), (0, .ref 55)] rfl (by decide) hL7 rfl rfl (fun L8 hL8 => ?_)
  refine f_goto rfl ?_
  refine f_iln 0 rfl hL8 rfl ?_
  refine f_bipush (n := 18) rfl (by decide) ?_
  refine f_ic rfl (by decide) (by decide) (fun c_9 => absurd (show (18 : Int) ≤ (7 : Int) from c_9) (by decide)) (fun _ => ?_)
  refine f_aln 1 rfl hL8 rfl ?_
  refine m_gfr so55 rfl hw7 rfl (by decide) ?_
  refine f_bipush (n := 18) rfl (by decide) ?_
  refine f_iln 0 rfl hL8 rfl ?_
  refine f_iadd rfl ?_
  refine b_eq (x := 25) (by decide) ?_
  refine f_aln 1 rfl hL8 rfl ?_
  refine m_gfr so55 rfl hw7 rfl (by decide) ?_
  refine f_iln 0 rfl hL8 rfl ?_
  refine m_ia sa61 (m 61 7) rfl hw7 hm7 (by omega) (by omega) (by decide) rfl ?_
  refine m_ias sa61 rfl hw7 hm7 (by omega) (by omega) (by decide) (hR 61 7) (fun hc8 hw8 hm8 => ?_)
  refine f_inc 0 [(1, fi (8)), (0, .ref 55)] rfl (by decide) hL8 rfl rfl (fun L9 hL9 => ?_)
  refine f_goto rfl ?_
  refine f_iln 0 rfl hL9 rfl ?_
  refine f_bipush (n := 18) rfl (by decide) ?_
  refine f_ic rfl (by decide) (by decide) (fun c_9 => absurd (show (18 : Int) ≤ (8 : Int) from c_9) (by decide)) (fun _ => ?_)
  refine f_aln 1 rfl hL9 rfl ?_
  refine m_gfr so55 rfl hw8 rfl (by decide) ?_
  refine f_bipush (n := 18) rfl (by decide) ?_
  refine f_iln 0 rfl hL9 rfl ?_
  refine f_iadd rfl ?_
  refine b_eq (x := 26) (by decide) ?_
  refine f_aln 1 rfl hL9 rfl ?_
  refine m_gfr so55 rfl hw8 rfl (by decide) ?_
  refine f_iln 0 rfl hL9 rfl ?_
  refine m_ia sa61 (m 61 8) rfl hw8 hm8 (by omega) (by omega) (by decide) rfl ?_
  refine m_ias sa61 rfl hw8 hm8 (by omega) (by omega) (by decide) (hR 61 8) (fun hc9 hw9 hm9 => ?_)
  refine f_inc 0 [(1, fi (9)), (0, .ref 55)] rfl (by decide) hL9 rfl rfl (fun L10 hL10 => ?_)
  refine f_goto rfl ?_
  refine f_iln 0 rfl hL10 rfl ?_
  refine f_bipush (n := 18) rfl (by decide) ?_
  refine f_ic rfl (by decide) (by decide) (fun c_9 => absurd (show (18 : Int) ≤ (9 : Int) from c_9) (by decide)) (fun _ => ?_)
  refine f_aln 1 rfl hL10 rfl ?_
  refine m_gfr so55 rfl hw9 rfl (by decide) ?_
  refine f_bipush (n := 18) rfl (by decide) ?_
  refine f_iln 0 rfl hL10 rfl ?_
  refine f_iadd rfl ?_
  refine b_eq (x := 27) (by decide) ?_
  refine f_aln 1 rfl hL10 rfl ?_
  refine m_gfr so55 rfl hw9 rfl (by decide) ?_
  refine f_iln 0 rfl hL10 rfl ?_
  refine m_ia sa61 (m 61 9) rfl hw9 hm9 (by omega) (by omega) (by decide) rfl ?_
  refine m_ias sa61 rfl hw9 hm9 (by omega) (by omega) (by decide) (hR 61 9) (fun hc10 hw10 hm10 => ?_)
  refine f_inc 0 [(1, fi (10)), (0, .ref 55)] rfl (by decide) hL10 rfl rfl (fun L11 hL11 => ?_)
  refine f_goto rfl ?_
  refine f_iln 0 rfl hL11 rfl ?_
  refine f_bipush (n := 18) rfl (by decide) ?_
  refine f_ic rfl (by decide) (by decide) (fun c_9 => absurd (show (18 : Int) ≤ (10 : Int) from c_9) (by decide)) (fun _ => ?_)
  refine f_aln 1 rfl hL11 rfl ?_
  refine m_gfr so55 rfl hw10 rfl (by decide) ?_
  refine f_bipush (n := 18) rfl (by decide) ?_
  refine f_iln 0 rfl hL11 rfl ?_
  refine f_iadd rfl ?_
  refine b_eq (x := 28) (by decide) ?_
  refine f_aln 1 rfl hL11 rfl ?_
  refine m_gfr so55 rfl hw10 rfl (by decide) ?_
  refine f_iln 0 rfl hL11 rfl ?_
  refine m_ia sa61 (m 61 10) rfl hw10 hm10 (by omega) (by omega) (by decide) rfl ?_
  refine m_ias sa61 rfl hw10 hm10 (by omega) (by omega) (by decide) (hR 61 10) (fun hc11 hw11 hm11 => ?_)
  refine f_inc 0 [(1, fi (11)), (0, .ref 55)] rfl (by decide) hL11 rfl rfl (fun L12 hL12 => ?_)
  refine f_goto rfl ?_
  refine f_iln 0 rfl hL12 rfl ?_
  refine f_bipush (n := 18) rfl (by decide) ?_
  refine f_ic rfl (by decide) (by decide) (fun c_9 => absurd (show (18 : Int) ≤ (11 : Int) from c_9) (by decide)) (fun _ => ?_)
  refine f_aln 1 rfl hL12 rfl ?_
  refine m_gfr so55 rfl hw11 rfl (by decide) ?_
  refine f_bipush (n := 18) rfl (by decide) ?_
  refine f_iln 0 rfl hL12 rfl ?_
  refine f_iadd rfl ?_
  refine b_eq (x := 29) (by decide) ?_
  refine f_aln 1 rfl hL12 rfl ?_
  refine m_gfr so55 rfl hw11 rfl (by decide) ?_
  refine f_iln 0 rfl hL12 rfl ?_
  refine m_ia sa61 (m 61 11) rfl hw11 hm11 (by omega) (by omega) (by decide) rfl ?_
  refine m_ias sa61 rfl hw11 hm11 (by omega) (by omega) (by decide) (hR 61 11) (fun hc12 hw12 hm12 => ?_)
  refine f_inc 0 [(1, fi (12)), (0, .ref 55)] rfl (by decide) hL12 rfl rfl (fun L13 hL13 => ?_)
  refine f_goto rfl ?_
  refine f_iln 0 rfl hL13 rfl ?_
  refine f_bipush (n := 18) rfl (by decide) ?_
  refine f_ic rfl (by decide) (by decide) (fun c_9 => absurd (show (18 : Int) ≤ (12 : Int) from c_9) (by decide)) (fun _ => ?_)
  refine f_aln 1 rfl hL13 rfl ?_
  refine m_gfr so55 rfl hw12 rfl (by decide) ?_
  refine f_bipush (n := 18) rfl (by decide) ?_
  refine f_iln 0 rfl hL13 rfl ?_
  refine f_iadd rfl ?_
  refine b_eq (x := 30) (by decide) ?_
  refine f_aln 1 rfl hL13 rfl ?_
  refine m_gfr so55 rfl hw12 rfl (by decide) ?_
  refine f_iln 0 rfl hL13 rfl ?_
  refine m_ia sa61 (m 61 12) rfl hw12 hm12 (by omega) (by omega) (by decide) rfl ?_
  refine m_ias sa61 rfl hw12 hm12 (by omega) (by omega) (by decide) (hR 61 12) (fun hc13 hw13 hm13 => ?_)
  refine f_inc 0 [(1, fi (13)), (0, .ref 55)] rfl (by decide) hL13 rfl rfl (fun L14 hL14 => ?_)
  refine f_goto rfl ?_
  refine f_iln 0 rfl hL14 rfl ?_
  refine f_bipush (n := 18) rfl (by decide) ?_
  refine f_ic rfl (by decide) (by decide) (fun c_9 => absurd (show (18 : Int) ≤ (13 : Int) from c_9) (by decide)) (fun _ => ?_)
  refine f_aln 1 rfl hL14 rfl ?_
  refine m_gfr so55 rfl hw13 rfl (by decide) ?_
  refine f_bipush (n := 18) rfl (by decide) ?_
  refine f_iln 0 rfl hL14 rfl ?_
  refine f_iadd rfl ?_
  refine b_eq (x := 31) (by decide) ?_
  refine f_aln 1 rfl hL14 rfl ?_
  refine m_gfr so55 rfl hw13 rfl (by decide) ?_
  refine f_iln 0 rfl hL14 rfl ?_
  refine m_ia sa61 (m 61 13) rfl hw13 hm13 (by omega) (by omega) (by decide) rfl ?_
  refine m_ias sa61 rfl hw13 hm13 (by omega) (by omega) (by decide) (hR 61 13) (fun hc14 hw14 hm14 => ?_)
  refine f_inc 0 [(1, fi (14)), (0, .ref 55)] rfl (by decide) hL14 rfl rfl (fun L15 hL15 => ?_)
  refine f_goto rfl ?_
  refine f_iln 0 rfl hL15 rfl ?_
  refine f_bipush (n := 18) rfl (by decide) ?_
  refine f_ic rfl (by decide) (by decide) (fun c_9 => absurd (show (18 : Int) ≤ (14 : Int) from c_9) (by decide)) (fun _ => ?_)
  refine f_aln 1 rfl hL15 rfl ?_
  refine m_gfr so55 rfl hw14 rfl (by decide) ?_
  refine f_bipush (n := 18) rfl (by decide) ?_
  refine f_iln 0 rfl hL15 rfl ?_
  refine f_iadd rfl ?_
  refine b_eq (x := 32) (by decide) ?_
  refine f_aln 1 rfl hL15 rfl ?_
  refine m_gfr so55 rfl hw14 rfl (by decide) ?_
  refine f_iln 0 rfl hL15 rfl ?_
  refine m_ia sa61 (m 61 14) rfl hw14 hm14 (by omega) (by omega) (by decide) rfl ?_
  refine m_ias sa61 rfl hw14 hm14 (by omega) (by omega) (by decide) (hR 61 14) (fun hc15 hw15 hm15 => ?_)
  refine f_inc 0 [(1, fi (15)), (0, .ref 55)] rfl (by decide) hL15 rfl rfl (fun L16 hL16 => ?_)
  refine f_goto rfl ?_
  refine f_iln 0 rfl hL16 rfl ?_
  refine f_bipush (n := 18) rfl (by decide) ?_
  refine f_ic rfl (by decide) (by decide) (fun c_9 => absurd (show (18 : Int) ≤ (15 : Int) from c_9) (by decide)) (fun _ => ?_)
  refine f_aln 1 rfl hL16 rfl ?_
  refine m_gfr so55 rfl hw15 rfl (by decide) ?_
  refine f_bipush (n := 18) rfl (by decide) ?_
  refine f_iln 0 rfl hL16 rfl ?_
  refine f_iadd rfl ?_
  refine b_eq (x := 33) (by decide) ?_
  refine f_aln 1 rfl hL16 rfl ?_
  refine m_gfr so55 rfl hw15 rfl (by decide) ?_
  refine f_iln 0 rfl hL16 rfl ?_
  refine m_ia sa61 (m 61 15) rfl hw15 hm15 (by omega) (by omega) (by decide) rfl ?_
  refine m_ias sa61 rfl hw15 hm15 (by omega) (by omega) (by decide) (hR 61 15) (fun hc16 hw16 hm16 => ?_)
  refine f_inc 0 [(1, fi (16)), (0, .ref 55)] rfl (by decide) hL16 rfl rfl (fun L17 hL17 => ?_)
  refine f_goto rfl ?_
  refine f_iln 0 rfl hL17 rfl ?_
  refine f_bipush (n := 18) rfl (by decide) ?_
  refine f_ic rfl (by decide) (by decide) (fun c_9 => absurd (show (18 : Int) ≤ (16 : Int) from c_9) (by decide)) (fun _ => ?_)
  refine f_aln 1 rfl hL17 rfl ?_
  refine m_gfr so55 rfl hw16 rfl (by decide) ?_
  refine f_bipush (n := 18) rfl (by decide) ?_
  refine f_iln 0 rfl hL17 rfl ?_
  refine f_iadd rfl ?_
  refine b_eq (x := 34) (by decide) ?_
  refine f_aln 1 rfl hL17 rfl ?_
  refine m_gfr so55 rfl hw16 rfl (by decide) ?_
  refine f_iln 0 rfl hL17 rfl ?_
  refine m_ia sa61 (m 61 16) rfl hw16 hm16 (by omega) (by omega) (by decide) rfl ?_
  refine m_ias sa61 rfl hw16 hm16 (by omega) (by omega) (by decide) (hR 61 16) (fun hc17 hw17 hm17 => ?_)
  refine f_inc 0 [(1, fi (17)), (0, .ref 55)] rfl (by decide) hL17 rfl rfl (fun L18 hL18 => ?_)
  refine f_goto rfl ?_
  refine f_iln 0 rfl hL18 rfl ?_
  refine f_bipush (n := 18) rfl (by decide) ?_
  refine f_ic rfl (by decide) (by decide) (fun c_9 => absurd (show (18 : Int) ≤ (17 : Int) from c_9) (by decide)) (fun _ => ?_)
  refine f_aln 1 rfl hL18 rfl ?_
  refine m_gfr so55 rfl hw17 rfl (by decide) ?_
  refine f_bipush (n := 18) rfl (by decide) ?_
  refine f_iln 0 rfl hL18 rfl ?_
  refine f_iadd rfl ?_
  refine b_eq (x := 35) (by decide) ?_
  refine f_aln 1 rfl hL18 rfl ?_
  refine m_gfr so55 rfl hw17 rfl (by decide) ?_
  refine f_iln 0 rfl hL18 rfl ?_
  refine m_ia sa61 (m 61 17) rfl hw17 hm17 (by omega) (by omega) (by decide) rfl ?_
  refine m_ias sa61 rfl hw17 hm17 (by omega) (by omega) (by decide) (hR 61 17) (fun hc18 hw18 hm18 => ?_)
  refine f_inc 0 [(1, fi (18)), (0, .ref 55)] rfl (by decide) hL18 rfl rfl (fun L19 hL19 => ?_)
  refine f_goto rfl ?_
  refine f_iln 0 rfl hL19 rfl ?_
  refine f_bipush (n := 18) rfl (by decide) ?_
  refine f_ic rfl (by decide) (by decide) (fun _ => ?_) (fun c_9 => absurd (show (18 : Int) ≤ (18 : Int) from (by decide)) c_9)
  exact m_ret0 rfl ⟨rfl, hw18, hm18⟩)
