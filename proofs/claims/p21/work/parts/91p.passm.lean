/-! passOn of the reference -/
def jM0 (m : Nat → Nat → Int) : Prop := (0 ≤ m 55 0 ∧ m 55 0 ≤ 4) ∧ (0 ≤ m 55 1 ∧ m 55 1 ≤ 5) ∧ ∀ i : Nat, i < 5 → (i : Int) < m 55 1 → (m 61 (0 + i) = -9 ∨ (0 ≤ m 61 (0 + i) ∧ m 61 (0 + i) < 4))
theorem jM0_up {m : Nat → Nat → Int} (h : jM0 m) {a : Nat} {v : Int} (ha : a < 0 ∨ 5 ≤ a) : jM0 (up m 61 a v) := by
  refine ⟨by rw [up_nc (by decide)]; exact h.1, by rw [up_nc (by decide)]; exact h.2.1, fun i hi hp => ?_⟩
  rw [up_nc (by decide)] at hp
  rw [up_ne (by omega)]
  exact h.2.2 i hi hp
theorem jM0_n {m : Nat → Nat → Int} (h : jM0 m) {a : Nat} : jM0 (up m 61 a (-9)) := by
  refine ⟨by rw [up_nc (by decide)]; exact h.1, by rw [up_nc (by decide)]; exact h.2.1, fun i hi hp => ?_⟩
  rw [up_nc (by decide)] at hp
  by_cases e : 0 + i = a
  · rw [e, up_eq]; exact Or.inl rfl
  · rw [up_ne (fun z => e z.2)]
    exact h.2.2 i hi hp
def wt0 (m : Nat → Nat → Int) (x : Int) (i j : Nat) : Int := if (¬ iA (iR (m 61 16) x) 1 = 1 ∧ m 58 i ≤ m 61 17 ∧ m 61 17 ≤ m 59 i) ∧ sbM0 m (m 61 j) = 0 then 1 else 0
def pw0 (m : Nat → Nat → Int) (j l : Nat) : Nat → Nat → Int := if m 61 j = -9 then m else if m 56 (m 61 j).toNat = 3 ∧ 2 < i32w (m 61 l + 1) then up (up (up m 61 l (i32w (m 61 l + 1))) 61 j (-9)) 61 l 0 else up m 61 l (i32w (m 61 l + 1))
def pf0 (m : Nat → Nat → Int) : Nat → Nat → Int := up m 61 17 (i32w (m 61 17 + 1))
def l2_0_5 (m : Nat → Nat → Int) : Nat → Nat → Int := pf0 m
def l2_0_4 (m : Nat → Nat → Int) : Nat → Nat → Int := if 4 < m 55 1 then l2_0_5 (pw0 m 4 9) else pf0 m
theorem l2_0_4_o {m : Nat → Nat → Int} (h : ¬ 4 < m 55 1) : l2_0_4 m = pf0 m := if_neg h
theorem l2_0_4_t {m : Nat → Nat → Int} (h : 4 < m 55 1) {m' : Nat → Nat → Int} (e : pw0 m 4 9 = m') : l2_0_4 m = l2_0_5 m' := (if_pos h).trans (by rw [e])
def l2_0_3 (m : Nat → Nat → Int) : Nat → Nat → Int := if 3 < m 55 1 then l2_0_4 (pw0 m 3 8) else pf0 m
theorem l2_0_3_o {m : Nat → Nat → Int} (h : ¬ 3 < m 55 1) : l2_0_3 m = pf0 m := if_neg h
theorem l2_0_3_t {m : Nat → Nat → Int} (h : 3 < m 55 1) {m' : Nat → Nat → Int} (e : pw0 m 3 8 = m') : l2_0_3 m = l2_0_4 m' := (if_pos h).trans (by rw [e])
def l2_0_2 (m : Nat → Nat → Int) : Nat → Nat → Int := if 2 < m 55 1 then l2_0_3 (pw0 m 2 7) else pf0 m
theorem l2_0_2_o {m : Nat → Nat → Int} (h : ¬ 2 < m 55 1) : l2_0_2 m = pf0 m := if_neg h
theorem l2_0_2_t {m : Nat → Nat → Int} (h : 2 < m 55 1) {m' : Nat → Nat → Int} (e : pw0 m 2 7 = m') : l2_0_2 m = l2_0_3 m' := (if_pos h).trans (by rw [e])
def l2_0_1 (m : Nat → Nat → Int) : Nat → Nat → Int := if 1 < m 55 1 then l2_0_2 (pw0 m 1 6) else pf0 m
theorem l2_0_1_o {m : Nat → Nat → Int} (h : ¬ 1 < m 55 1) : l2_0_1 m = pf0 m := if_neg h
theorem l2_0_1_t {m : Nat → Nat → Int} (h : 1 < m 55 1) {m' : Nat → Nat → Int} (e : pw0 m 1 6 = m') : l2_0_1 m = l2_0_2 m' := (if_pos h).trans (by rw [e])
def l2_0_0 (m : Nat → Nat → Int) : Nat → Nat → Int := if 0 < m 55 1 then l2_0_1 (pw0 m 0 5) else pf0 m
theorem l2_0_0_o {m : Nat → Nat → Int} (h : ¬ 0 < m 55 1) : l2_0_0 m = pf0 m := if_neg h
theorem l2_0_0_t {m : Nat → Nat → Int} (h : 0 < m 55 1) {m' : Nat → Nat → Int} (e : pw0 m 0 5 = m') : l2_0_0 m = l2_0_1 m' := (if_pos h).trans (by rw [e])
def l1_0_5 (m : Nat → Nat → Int) (b : Int) : (Nat → Nat → Int) × Int := (l2_0_0 m, b)
def l1_0_4 (m : Nat → Nat → Int) (b : Int) : (Nat → Nat → Int) × Int := if 4 < m 55 1 then l1_0_5 (up m 61 14 (i32w (m 61 14 + wt0 m 4 4 4))) (b + wt0 m 4 4 4) else (l2_0_0 m, b)
theorem l1_0_4_o {m : Nat → Nat → Int} {b : Int} (h : ¬ 4 < m 55 1) : l1_0_4 m b = (l2_0_0 m, b) := if_neg h
theorem l1_0_4_t {m : Nat → Nat → Int} {b w : Int} (h : 4 < m 55 1) (e : wt0 m 4 4 4 = w) : l1_0_4 m b = l1_0_5 (up m 61 14 (i32w (m 61 14 + w))) (b + w) := (if_pos h).trans (by rw [e])
def l1_0_3 (m : Nat → Nat → Int) (b : Int) : (Nat → Nat → Int) × Int := if 3 < m 55 1 then l1_0_4 (up m 61 13 (i32w (m 61 13 + wt0 m 3 3 3))) (b + wt0 m 3 3 3) else (l2_0_0 m, b)
theorem l1_0_3_o {m : Nat → Nat → Int} {b : Int} (h : ¬ 3 < m 55 1) : l1_0_3 m b = (l2_0_0 m, b) := if_neg h
theorem l1_0_3_t {m : Nat → Nat → Int} {b w : Int} (h : 3 < m 55 1) (e : wt0 m 3 3 3 = w) : l1_0_3 m b = l1_0_4 (up m 61 13 (i32w (m 61 13 + w))) (b + w) := (if_pos h).trans (by rw [e])
def l1_0_2 (m : Nat → Nat → Int) (b : Int) : (Nat → Nat → Int) × Int := if 2 < m 55 1 then l1_0_3 (up m 61 12 (i32w (m 61 12 + wt0 m 2 2 2))) (b + wt0 m 2 2 2) else (l2_0_0 m, b)
theorem l1_0_2_o {m : Nat → Nat → Int} {b : Int} (h : ¬ 2 < m 55 1) : l1_0_2 m b = (l2_0_0 m, b) := if_neg h
theorem l1_0_2_t {m : Nat → Nat → Int} {b w : Int} (h : 2 < m 55 1) (e : wt0 m 2 2 2 = w) : l1_0_2 m b = l1_0_3 (up m 61 12 (i32w (m 61 12 + w))) (b + w) := (if_pos h).trans (by rw [e])
def l1_0_1 (m : Nat → Nat → Int) (b : Int) : (Nat → Nat → Int) × Int := if 1 < m 55 1 then l1_0_2 (up m 61 11 (i32w (m 61 11 + wt0 m 1 1 1))) (b + wt0 m 1 1 1) else (l2_0_0 m, b)
theorem l1_0_1_o {m : Nat → Nat → Int} {b : Int} (h : ¬ 1 < m 55 1) : l1_0_1 m b = (l2_0_0 m, b) := if_neg h
theorem l1_0_1_t {m : Nat → Nat → Int} {b w : Int} (h : 1 < m 55 1) (e : wt0 m 1 1 1 = w) : l1_0_1 m b = l1_0_2 (up m 61 11 (i32w (m 61 11 + w))) (b + w) := (if_pos h).trans (by rw [e])
def l1_0_0 (m : Nat → Nat → Int) (b : Int) : (Nat → Nat → Int) × Int := if 0 < m 55 1 then l1_0_1 (up m 61 10 (i32w (m 61 10 + wt0 m 0 0 0))) (b + wt0 m 0 0 0) else (l2_0_0 m, b)
theorem l1_0_0_o {m : Nat → Nat → Int} {b : Int} (h : ¬ 0 < m 55 1) : l1_0_0 m b = (l2_0_0 m, b) := if_neg h
theorem l1_0_0_t {m : Nat → Nat → Int} {b w : Int} (h : 0 < m 55 1) (e : wt0 m 0 0 0 = w) : l1_0_0 m b = l1_0_1 (up m 61 10 (i32w (m 61 10 + w))) (b + w) := (if_pos h).trans (by rw [e])
set_option maxHeartbeats 1000000 in
theorem t91_0 {m : Nat → Nat → Int} (hJ : jM0 m) : h_M 91 [.ref 55, fi (0)] m (some (fi ((l1_0_0 m 0).2))) (l1_0_0 m 0).1 := h_M_of (R := ev_r91) rfl (fun hc hw hm => by
  have hL : f_L (lv_args 0 [.ref 55, fi (0)]) [(0, .ref 55), (1, fi (0))] := f_L_of rfl
  generalize lv_args 0 [.ref 55, fi (0)] = L at hL
  show x_W none (1, 0, 6, 1, 11, 3, 66, 0, 0, ev_t91) 0 L [] hc 0 0 _
  have hR := gi_R hm
  have hJ5 : ∀ (m : Nat → Nat → Int) (hc : ev_H) (b : Int) (L : ev_L), y_in yGw hc → gi hc = m → jM0 m → f_L L [(4, fi (5)), (3, fi (b)), (0, .ref 55), (1, fi (0)), (2, fi (0))] → x_W none (1, 0, 6, 1, 11, 3, 66, 0, 0, ev_t91) 102 L [] hc 0 0 (fun r' h' => r' = some (fi b) ∧ y_in yGw h' ∧ gi h' = l2_0_5 m) := fun m hc b L hw hm hJ hL => by
    have hR := gi_R hm
    have hn := hJ.1
    have hp := hJ.2.1
    refine f_il 0 rfl hL rfl ?_
    refine f_aln 2 rfl hL rfl ?_
    refine m_gfi so55 (m 55 1) rfl hw hm rfl rfl ?_
    refine f_ic rfl (by decide) (by omega) (fun _ => ?_) (fun c_9 => absurd (show (m 55 1 : Int) ≤ (5 : Int) from (by omega)) c_9)
    refine f_aln 2 rfl hL rfl ?_
    refine m_gfr so55 rfl hw rfl (by decide) ?_
    refine f_iln 4 rfl hL rfl ?_
    refine f_bipush (n := 17) rfl (by decide) ?_
    refine f_iadd rfl ?_
    refine b_eq (x := 17) (by decide) ?_
    refine f_s [fi (17), .ref 61, fi (17), .ref 61] rfl rfl ?_
    refine m_ia sa61 (m 61 17) rfl hw hm (by omega) (by omega) (by decide) rfl ?_
    refine f_s [fi (1), fi (m 61 17), fi (17), .ref 61] rfl rfl ?_
    refine f_iadd rfl ?_
    refine b_w ?_
    refine m_ias sa61 rfl hw hm (by omega) (by omega) (by decide) i32w_r (fun hc1 hw1 hm1 => ?_)
    refine f_iln 1 rfl hL rfl ?_
    exact f_ret1 rfl ⟨rfl, hw1, by rw [hm1]; rfl⟩
  have hJ4 : ∀ (m : Nat → Nat → Int) (hc : ev_H) (b : Int) (L : ev_L), y_in yGw hc → gi hc = m → jM0 m → f_L L [(4, fi (4)), (3, fi (b)), (0, .ref 55), (1, fi (0)), (2, fi (0))] → x_W none (1, 0, 6, 1, 11, 3, 66, 0, 0, ev_t91) 102 L [] hc 0 0 (fun r' h' => r' = some (fi b) ∧ y_in yGw h' ∧ gi h' = l2_0_4 m) := fun m hc b L hw hm hJ hL => by
    have hR := gi_R hm
    have hn := hJ.1
    have hp := hJ.2.1
    refine f_il 0 rfl hL rfl ?_
    refine f_aln 2 rfl hL rfl ?_
    refine m_gfi so55 (m 55 1) rfl hw hm rfl rfl ?_
    refine f_ic rfl (by decide) (by omega) (fun c1 => ?_) (fun c1 => ?_)
    · have c1 : (m 55 1 : Int) ≤ (4 : Int) := c1
      refine f_aln 2 rfl hL rfl ?_
      refine m_gfr so55 rfl hw rfl (by decide) ?_
      refine f_iln 4 rfl hL rfl ?_
      refine f_bipush (n := 17) rfl (by decide) ?_
      refine f_iadd rfl ?_
      refine b_eq (x := 17) (by decide) ?_
      refine f_s [fi (17), .ref 61, fi (17), .ref 61] rfl rfl ?_
      refine m_ia sa61 (m 61 17) rfl hw hm (by omega) (by omega) (by decide) rfl ?_
      refine f_s [fi (1), fi (m 61 17), fi (17), .ref 61] rfl rfl ?_
      refine f_iadd rfl ?_
      refine b_w ?_
      refine m_ias sa61 rfl hw hm (by omega) (by omega) (by decide) i32w_r (fun hc2 hw2 hm2 => ?_)
      refine f_iln 1 rfl hL rfl ?_
      exact f_ret1 rfl ⟨rfl, hw2, by rw [hm2]; exact (l2_0_4_o (by omega)).symm⟩
    · have c1 : ¬ ((m 55 1 : Int) ≤ (4 : Int)) := c1
      have jv : m 61 4 = -9 ∨ (0 ≤ m 61 4 ∧ m 61 4 < 4) := hJ.2.2 4 (by decide) (by omega)
      refine f_aln 2 rfl hL rfl ?_
      refine m_gfr so55 rfl hw rfl (by decide) ?_
      refine f_iln 4 rfl hL rfl ?_
      refine f_il 0 rfl hL rfl ?_
      refine f_iadd rfl ?_
      refine b_eq (x := 4) (by decide) ?_
      refine m_ia sa61 (m 61 4) rfl hw hm (by omega) (by omega) (by decide) rfl ?_
      refine f_bipush (n := -9) rfl (by decide) ?_
      refine f_ic rfl (hR 61 4) (by decide) (fun c2 => ?_) (fun c2 => ?_)
      · have c2 : (m 61 4 : Int) = (-9 : Int) := c2
        refine f_inc 0 [(4, fi (5)), (3, fi (b)), (0, .ref 55), (1, fi (0)), (2, fi (0))] rfl (by decide) hL rfl rfl (fun L1 hL1 => ?_)
        refine f_goto rfl ?_
        have e9 : pw0 m 4 9 = m := by unfold pw0; rw [if_pos (by omega)]
        rw [l2_0_4_t (by omega) e9]
        exact hJ5 _ hc b _ hw hm hJ (hL1.sel [0, 1, 2, 3, 4] rfl)
      · have c2 : ¬ ((m 61 4 : Int) = (-9 : Int)) := c2
        refine f_aln 2 rfl hL rfl ?_
        refine m_gfr so55 rfl hw rfl (by decide) ?_
        refine f_iln 4 rfl hL rfl ?_
        refine f_s [fi (5), fi (0), .ref 61] rfl rfl ?_
        refine f_iadd rfl ?_
        refine b_eq (x := 5) (by decide) ?_
        refine f_il 0 rfl hL rfl ?_
        refine f_iadd rfl ?_
        refine b_eq (x := 9) (by decide) ?_
        refine f_s [fi (9), .ref 61, fi (9), .ref 61] rfl rfl ?_
        refine m_ia sa61 (m 61 9) rfl hw hm (by omega) (by omega) (by decide) rfl ?_
        refine f_s [fi (1), fi (m 61 9), fi (9), .ref 61] rfl rfl ?_
        refine f_iadd rfl ?_
        refine b_w ?_
        refine m_ias sa61 rfl hw hm (by omega) (by omega) (by decide) i32w_r (fun hc3 hw3 hm3 => ?_)
        refine f_aln 2 rfl hL rfl ?_
        refine m_gfr so55 rfl hw3 rfl (by decide) ?_
        refine f_aln 2 rfl hL rfl ?_
        refine m_gfr so55 rfl hw3 rfl (by decide) ?_
        refine f_iln 4 rfl hL rfl ?_
        refine f_il 0 rfl hL rfl ?_
        refine f_iadd rfl ?_
        refine b_eq (x := 4) (by decide) ?_
        refine m_ia sa61 (m 61 4) rfl hw3 hm3 (by omega) (by omega) (by decide) rfl ?_
        refine m_ia sa56 (m 56 (m 61 4).toNat) rfl hw3 hm3 (by omega) (by omega) (by decide) rfl ?_
        refine f_s [fi (3), fi (m 56 (m 61 4).toNat)] rfl rfl ?_
        refine f_ic rfl (hR _ _) (by decide) (fun c3 => ?_) (fun c3 => ?_)
        · have c3 : ¬ (m 56 (m 61 4).toNat : Int) = (3 : Int) := c3
          refine f_inc 0 [(4, fi (5)), (3, fi (b)), (0, .ref 55), (1, fi (0)), (2, fi (0))] rfl (by decide) hL rfl rfl (fun L2 hL2 => ?_)
          refine f_goto rfl ?_
          have e9 : pw0 m 4 9 = (up m 61 9 (i32w ((m 61 9) + 1))) := by unfold pw0; rw [if_neg (by omega), if_neg (by omega)]
          rw [l2_0_4_t (by omega) e9]
          exact hJ5 _ hc3 b _ hw3 hm3 (jM0_up hJ (by omega)) (hL2.sel [0, 1, 2, 3, 4] rfl)
        · have c3 : ¬ (¬ (m 56 (m 61 4).toNat : Int) = (3 : Int)) := c3
          refine f_aln 2 rfl hL rfl ?_
          refine m_gfr so55 rfl hw3 rfl (by decide) ?_
          refine f_iln 4 rfl hL rfl ?_
          refine f_s [fi (5), fi (0), .ref 61] rfl rfl ?_
          refine f_iadd rfl ?_
          refine b_eq (x := 5) (by decide) ?_
          refine f_il 0 rfl hL rfl ?_
          refine f_iadd rfl ?_
          refine b_eq (x := 9) (by decide) ?_
          refine m_ia sa61 (i32w ((m 61 9) + 1)) rfl hw3 hm3 (by omega) (by omega) (by decide) rfl ?_
          refine f_s [fi (2), fi (i32w ((m 61 9) + 1))] rfl rfl ?_
          refine f_ic rfl i32w_r (by decide) (fun c4 => ?_) (fun c4 => ?_)
          · have c4 : (i32w ((m 61 9) + 1) : Int) ≤ (2 : Int) := c4
            refine f_inc 0 [(4, fi (5)), (3, fi (b)), (0, .ref 55), (1, fi (0)), (2, fi (0))] rfl (by decide) hL rfl rfl (fun L3 hL3 => ?_)
            refine f_goto rfl ?_
            have e9 : pw0 m 4 9 = (up m 61 9 (i32w ((m 61 9) + 1))) := by unfold pw0; rw [if_neg (by omega), if_neg (by omega)]
            rw [l2_0_4_t (by omega) e9]
            exact hJ5 _ hc3 b _ hw3 hm3 (jM0_up hJ (by omega)) (hL3.sel [0, 1, 2, 3, 4] rfl)
          · have c4 : ¬ ((i32w ((m 61 9) + 1) : Int) ≤ (2 : Int)) := c4
            refine f_aln 2 rfl hL rfl ?_
            refine f_iln 3 rfl hL rfl ?_
            refine f_il 0 rfl hL rfl ?_
            refine f_bipush (n := -9) rfl (by decide) ?_
            refine m_k0 (show h_M 79 [.ref 55, fi (0), fi (4), fi (-9)] (up m 61 9 (i32w ((m 61 9) + 1))) none (up (up (up m 61 9 (i32w ((m 61 9) + 1))) 61 4 (-9)) 61 9 0) from t79_0 (m := (up m 61 9 (i32w ((m 61 9) + 1)))) (p := 4) (k := -9) (by decide) (by decide) (by decide)) hw3 hm3 rfl rfl rfl (m_ar so55 hw3 rfl) rfl (fun hc4 hw4 hm4 => ?_)
            refine f_inc 0 [(4, fi (5)), (3, fi (b)), (0, .ref 55), (1, fi (0)), (2, fi (0))] rfl (by decide) hL rfl rfl (fun L4 hL4 => ?_)
            refine f_goto rfl ?_
            have e9 : pw0 m 4 9 = (up (up (up m 61 9 (i32w ((m 61 9) + 1))) 61 4 (-9)) 61 9 (0)) := by unfold pw0; rw [if_neg (by omega), if_pos (by omega)]
            rw [l2_0_4_t (by omega) e9]
            exact hJ5 _ hc4 b _ hw4 hm4 (jM0_up (jM0_n (jM0_up hJ (by omega))) (by omega)) (hL4.sel [0, 1, 2, 3, 4] rfl)
  have hJ3 : ∀ (m : Nat → Nat → Int) (hc : ev_H) (b : Int) (L : ev_L), y_in yGw hc → gi hc = m → jM0 m → f_L L [(4, fi (3)), (3, fi (b)), (0, .ref 55), (1, fi (0)), (2, fi (0))] → x_W none (1, 0, 6, 1, 11, 3, 66, 0, 0, ev_t91) 102 L [] hc 0 0 (fun r' h' => r' = some (fi b) ∧ y_in yGw h' ∧ gi h' = l2_0_3 m) := fun m hc b L hw hm hJ hL => by
    have hR := gi_R hm
    have hn := hJ.1
    have hp := hJ.2.1
    refine f_il 0 rfl hL rfl ?_
    refine f_aln 2 rfl hL rfl ?_
    refine m_gfi so55 (m 55 1) rfl hw hm rfl rfl ?_
    refine f_ic rfl (by decide) (by omega) (fun c1 => ?_) (fun c1 => ?_)
    · have c1 : (m 55 1 : Int) ≤ (3 : Int) := c1
      refine f_aln 2 rfl hL rfl ?_
      refine m_gfr so55 rfl hw rfl (by decide) ?_
      refine f_iln 4 rfl hL rfl ?_
      refine f_bipush (n := 17) rfl (by decide) ?_
      refine f_iadd rfl ?_
      refine b_eq (x := 17) (by decide) ?_
      refine f_s [fi (17), .ref 61, fi (17), .ref 61] rfl rfl ?_
      refine m_ia sa61 (m 61 17) rfl hw hm (by omega) (by omega) (by decide) rfl ?_
      refine f_s [fi (1), fi (m 61 17), fi (17), .ref 61] rfl rfl ?_
      refine f_iadd rfl ?_
      refine b_w ?_
      refine m_ias sa61 rfl hw hm (by omega) (by omega) (by decide) i32w_r (fun hc5 hw5 hm5 => ?_)
      refine f_iln 1 rfl hL rfl ?_
      exact f_ret1 rfl ⟨rfl, hw5, by rw [hm5]; exact (l2_0_3_o (by omega)).symm⟩
    · have c1 : ¬ ((m 55 1 : Int) ≤ (3 : Int)) := c1
      have jv : m 61 3 = -9 ∨ (0 ≤ m 61 3 ∧ m 61 3 < 4) := hJ.2.2 3 (by decide) (by omega)
      refine f_aln 2 rfl hL rfl ?_
      refine m_gfr so55 rfl hw rfl (by decide) ?_
      refine f_iln 4 rfl hL rfl ?_
      refine f_il 0 rfl hL rfl ?_
      refine f_iadd rfl ?_
      refine b_eq (x := 3) (by decide) ?_
      refine m_ia sa61 (m 61 3) rfl hw hm (by omega) (by omega) (by decide) rfl ?_
      refine f_bipush (n := -9) rfl (by decide) ?_
      refine f_ic rfl (hR 61 3) (by decide) (fun c2 => ?_) (fun c2 => ?_)
      · have c2 : (m 61 3 : Int) = (-9 : Int) := c2
        refine f_inc 0 [(4, fi (4)), (3, fi (b)), (0, .ref 55), (1, fi (0)), (2, fi (0))] rfl (by decide) hL rfl rfl (fun L5 hL5 => ?_)
        refine f_goto rfl ?_
        have e9 : pw0 m 3 8 = m := by unfold pw0; rw [if_pos (by omega)]
        rw [l2_0_3_t (by omega) e9]
        exact hJ4 _ hc b _ hw hm hJ (hL5.sel [0, 1, 2, 3, 4] rfl)
      · have c2 : ¬ ((m 61 3 : Int) = (-9 : Int)) := c2
        refine f_aln 2 rfl hL rfl ?_
        refine m_gfr so55 rfl hw rfl (by decide) ?_
        refine f_iln 4 rfl hL rfl ?_
        refine f_s [fi (5), fi (0), .ref 61] rfl rfl ?_
        refine f_iadd rfl ?_
        refine b_eq (x := 5) (by decide) ?_
        refine f_il 0 rfl hL rfl ?_
        refine f_iadd rfl ?_
        refine b_eq (x := 8) (by decide) ?_
        refine f_s [fi (8), .ref 61, fi (8), .ref 61] rfl rfl ?_
        refine m_ia sa61 (m 61 8) rfl hw hm (by omega) (by omega) (by decide) rfl ?_
        refine f_s [fi (1), fi (m 61 8), fi (8), .ref 61] rfl rfl ?_
        refine f_iadd rfl ?_
        refine b_w ?_
        refine m_ias sa61 rfl hw hm (by omega) (by omega) (by decide) i32w_r (fun hc6 hw6 hm6 => ?_)
        refine f_aln 2 rfl hL rfl ?_
        refine m_gfr so55 rfl hw6 rfl (by decide) ?_
        refine f_aln 2 rfl hL rfl ?_
        refine m_gfr so55 rfl hw6 rfl (by decide) ?_
        refine f_iln 4 rfl hL rfl ?_
        refine f_il 0 rfl hL rfl ?_
        refine f_iadd rfl ?_
        refine b_eq (x := 3) (by decide) ?_
        refine m_ia sa61 (m 61 3) rfl hw6 hm6 (by omega) (by omega) (by decide) rfl ?_
        refine m_ia sa56 (m 56 (m 61 3).toNat) rfl hw6 hm6 (by omega) (by omega) (by decide) rfl ?_
        refine f_s [fi (3), fi (m 56 (m 61 3).toNat)] rfl rfl ?_
        refine f_ic rfl (hR _ _) (by decide) (fun c3 => ?_) (fun c3 => ?_)
        · have c3 : ¬ (m 56 (m 61 3).toNat : Int) = (3 : Int) := c3
          refine f_inc 0 [(4, fi (4)), (3, fi (b)), (0, .ref 55), (1, fi (0)), (2, fi (0))] rfl (by decide) hL rfl rfl (fun L6 hL6 => ?_)
          refine f_goto rfl ?_
          have e9 : pw0 m 3 8 = (up m 61 8 (i32w ((m 61 8) + 1))) := by unfold pw0; rw [if_neg (by omega), if_neg (by omega)]
          rw [l2_0_3_t (by omega) e9]
          exact hJ4 _ hc6 b _ hw6 hm6 (jM0_up hJ (by omega)) (hL6.sel [0, 1, 2, 3, 4] rfl)
        · have c3 : ¬ (¬ (m 56 (m 61 3).toNat : Int) = (3 : Int)) := c3
          refine f_aln 2 rfl hL rfl ?_
          refine m_gfr so55 rfl hw6 rfl (by decide) ?_
          refine f_iln 4 rfl hL rfl ?_
          refine f_s [fi (5), fi (0), .ref 61] rfl rfl ?_
          refine f_iadd rfl ?_
          refine b_eq (x := 5) (by decide) ?_
          refine f_il 0 rfl hL rfl ?_
          refine f_iadd rfl ?_
          refine b_eq (x := 8) (by decide) ?_
          refine m_ia sa61 (i32w ((m 61 8) + 1)) rfl hw6 hm6 (by omega) (by omega) (by decide) rfl ?_
          refine f_s [fi (2), fi (i32w ((m 61 8) + 1))] rfl rfl ?_
          refine f_ic rfl i32w_r (by decide) (fun c4 => ?_) (fun c4 => ?_)
          · have c4 : (i32w ((m 61 8) + 1) : Int) ≤ (2 : Int) := c4
            refine f_inc 0 [(4, fi (4)), (3, fi (b)), (0, .ref 55), (1, fi (0)), (2, fi (0))] rfl (by decide) hL rfl rfl (fun L7 hL7 => ?_)
            refine f_goto rfl ?_
            have e9 : pw0 m 3 8 = (up m 61 8 (i32w ((m 61 8) + 1))) := by unfold pw0; rw [if_neg (by omega), if_neg (by omega)]
            rw [l2_0_3_t (by omega) e9]
            exact hJ4 _ hc6 b _ hw6 hm6 (jM0_up hJ (by omega)) (hL7.sel [0, 1, 2, 3, 4] rfl)
          · have c4 : ¬ ((i32w ((m 61 8) + 1) : Int) ≤ (2 : Int)) := c4
            refine f_aln 2 rfl hL rfl ?_
            refine f_iln 3 rfl hL rfl ?_
            refine f_il 0 rfl hL rfl ?_
            refine f_bipush (n := -9) rfl (by decide) ?_
            refine m_k0 (show h_M 79 [.ref 55, fi (0), fi (3), fi (-9)] (up m 61 8 (i32w ((m 61 8) + 1))) none (up (up (up m 61 8 (i32w ((m 61 8) + 1))) 61 3 (-9)) 61 8 0) from t79_0 (m := (up m 61 8 (i32w ((m 61 8) + 1)))) (p := 3) (k := -9) (by decide) (by decide) (by decide)) hw6 hm6 rfl rfl rfl (m_ar so55 hw6 rfl) rfl (fun hc7 hw7 hm7 => ?_)
            refine f_inc 0 [(4, fi (4)), (3, fi (b)), (0, .ref 55), (1, fi (0)), (2, fi (0))] rfl (by decide) hL rfl rfl (fun L8 hL8 => ?_)
            refine f_goto rfl ?_
            have e9 : pw0 m 3 8 = (up (up (up m 61 8 (i32w ((m 61 8) + 1))) 61 3 (-9)) 61 8 (0)) := by unfold pw0; rw [if_neg (by omega), if_pos (by omega)]
            rw [l2_0_3_t (by omega) e9]
            exact hJ4 _ hc7 b _ hw7 hm7 (jM0_up (jM0_n (jM0_up hJ (by omega))) (by omega)) (hL8.sel [0, 1, 2, 3, 4] rfl)
  have hJ2 : ∀ (m : Nat → Nat → Int) (hc : ev_H) (b : Int) (L : ev_L), y_in yGw hc → gi hc = m → jM0 m → f_L L [(4, fi (2)), (3, fi (b)), (0, .ref 55), (1, fi (0)), (2, fi (0))] → x_W none (1, 0, 6, 1, 11, 3, 66, 0, 0, ev_t91) 102 L [] hc 0 0 (fun r' h' => r' = some (fi b) ∧ y_in yGw h' ∧ gi h' = l2_0_2 m) := fun m hc b L hw hm hJ hL => by
    have hR := gi_R hm
    have hn := hJ.1
    have hp := hJ.2.1
    refine f_il 0 rfl hL rfl ?_
    refine f_aln 2 rfl hL rfl ?_
    refine m_gfi so55 (m 55 1) rfl hw hm rfl rfl ?_
    refine f_ic rfl (by decide) (by omega) (fun c1 => ?_) (fun c1 => ?_)
    · have c1 : (m 55 1 : Int) ≤ (2 : Int) := c1
      refine f_aln 2 rfl hL rfl ?_
      refine m_gfr so55 rfl hw rfl (by decide) ?_
      refine f_iln 4 rfl hL rfl ?_
      refine f_bipush (n := 17) rfl (by decide) ?_
      refine f_iadd rfl ?_
      refine b_eq (x := 17) (by decide) ?_
      refine f_s [fi (17), .ref 61, fi (17), .ref 61] rfl rfl ?_
      refine m_ia sa61 (m 61 17) rfl hw hm (by omega) (by omega) (by decide) rfl ?_
      refine f_s [fi (1), fi (m 61 17), fi (17), .ref 61] rfl rfl ?_
      refine f_iadd rfl ?_
      refine b_w ?_
      refine m_ias sa61 rfl hw hm (by omega) (by omega) (by decide) i32w_r (fun hc8 hw8 hm8 => ?_)
      refine f_iln 1 rfl hL rfl ?_
      exact f_ret1 rfl ⟨rfl, hw8, by rw [hm8]; exact (l2_0_2_o (by omega)).symm⟩
    · have c1 : ¬ ((m 55 1 : Int) ≤ (2 : Int)) := c1
      have jv : m 61 2 = -9 ∨ (0 ≤ m 61 2 ∧ m 61 2 < 4) := hJ.2.2 2 (by decide) (by omega)
      refine f_aln 2 rfl hL rfl ?_
      refine m_gfr so55 rfl hw rfl (by decide) ?_
      refine f_iln 4 rfl hL rfl ?_
      refine f_il 0 rfl hL rfl ?_
      refine f_iadd rfl ?_
      refine b_eq (x := 2) (by decide) ?_
      refine m_ia sa61 (m 61 2) rfl hw hm (by omega) (by omega) (by decide) rfl ?_
      refine f_bipush (n := -9) rfl (by decide) ?_
      refine f_ic rfl (hR 61 2) (by decide) (fun c2 => ?_) (fun c2 => ?_)
      · have c2 : (m 61 2 : Int) = (-9 : Int) := c2
        refine f_inc 0 [(4, fi (3)), (3, fi (b)), (0, .ref 55), (1, fi (0)), (2, fi (0))] rfl (by decide) hL rfl rfl (fun L9 hL9 => ?_)
        refine f_goto rfl ?_
        have e9 : pw0 m 2 7 = m := by unfold pw0; rw [if_pos (by omega)]
        rw [l2_0_2_t (by omega) e9]
        exact hJ3 _ hc b _ hw hm hJ (hL9.sel [0, 1, 2, 3, 4] rfl)
      · have c2 : ¬ ((m 61 2 : Int) = (-9 : Int)) := c2
        refine f_aln 2 rfl hL rfl ?_
        refine m_gfr so55 rfl hw rfl (by decide) ?_
        refine f_iln 4 rfl hL rfl ?_
        refine f_s [fi (5), fi (0), .ref 61] rfl rfl ?_
        refine f_iadd rfl ?_
        refine b_eq (x := 5) (by decide) ?_
        refine f_il 0 rfl hL rfl ?_
        refine f_iadd rfl ?_
        refine b_eq (x := 7) (by decide) ?_
        refine f_s [fi (7), .ref 61, fi (7), .ref 61] rfl rfl ?_
        refine m_ia sa61 (m 61 7) rfl hw hm (by omega) (by omega) (by decide) rfl ?_
        refine f_s [fi (1), fi (m 61 7), fi (7), .ref 61] rfl rfl ?_
        refine f_iadd rfl ?_
        refine b_w ?_
        refine m_ias sa61 rfl hw hm (by omega) (by omega) (by decide) i32w_r (fun hc9 hw9 hm9 => ?_)
        refine f_aln 2 rfl hL rfl ?_
        refine m_gfr so55 rfl hw9 rfl (by decide) ?_
        refine f_aln 2 rfl hL rfl ?_
        refine m_gfr so55 rfl hw9 rfl (by decide) ?_
        refine f_iln 4 rfl hL rfl ?_
        refine f_il 0 rfl hL rfl ?_
        refine f_iadd rfl ?_
        refine b_eq (x := 2) (by decide) ?_
        refine m_ia sa61 (m 61 2) rfl hw9 hm9 (by omega) (by omega) (by decide) rfl ?_
        refine m_ia sa56 (m 56 (m 61 2).toNat) rfl hw9 hm9 (by omega) (by omega) (by decide) rfl ?_
        refine f_s [fi (3), fi (m 56 (m 61 2).toNat)] rfl rfl ?_
        refine f_ic rfl (hR _ _) (by decide) (fun c3 => ?_) (fun c3 => ?_)
        · have c3 : ¬ (m 56 (m 61 2).toNat : Int) = (3 : Int) := c3
          refine f_inc 0 [(4, fi (3)), (3, fi (b)), (0, .ref 55), (1, fi (0)), (2, fi (0))] rfl (by decide) hL rfl rfl (fun L10 hL10 => ?_)
          refine f_goto rfl ?_
          have e9 : pw0 m 2 7 = (up m 61 7 (i32w ((m 61 7) + 1))) := by unfold pw0; rw [if_neg (by omega), if_neg (by omega)]
          rw [l2_0_2_t (by omega) e9]
          exact hJ3 _ hc9 b _ hw9 hm9 (jM0_up hJ (by omega)) (hL10.sel [0, 1, 2, 3, 4] rfl)
        · have c3 : ¬ (¬ (m 56 (m 61 2).toNat : Int) = (3 : Int)) := c3
          refine f_aln 2 rfl hL rfl ?_
          refine m_gfr so55 rfl hw9 rfl (by decide) ?_
          refine f_iln 4 rfl hL rfl ?_
          refine f_s [fi (5), fi (0), .ref 61] rfl rfl ?_
          refine f_iadd rfl ?_
          refine b_eq (x := 5) (by decide) ?_
          refine f_il 0 rfl hL rfl ?_
          refine f_iadd rfl ?_
          refine b_eq (x := 7) (by decide) ?_
          refine m_ia sa61 (i32w ((m 61 7) + 1)) rfl hw9 hm9 (by omega) (by omega) (by decide) rfl ?_
          refine f_s [fi (2), fi (i32w ((m 61 7) + 1))] rfl rfl ?_
          refine f_ic rfl i32w_r (by decide) (fun c4 => ?_) (fun c4 => ?_)
          · have c4 : (i32w ((m 61 7) + 1) : Int) ≤ (2 : Int) := c4
            refine f_inc 0 [(4, fi (3)), (3, fi (b)), (0, .ref 55), (1, fi (0)), (2, fi (0))] rfl (by decide) hL rfl rfl (fun L11 hL11 => ?_)
            refine f_goto rfl ?_
            have e9 : pw0 m 2 7 = (up m 61 7 (i32w ((m 61 7) + 1))) := by unfold pw0; rw [if_neg (by omega), if_neg (by omega)]
            rw [l2_0_2_t (by omega) e9]
            exact hJ3 _ hc9 b _ hw9 hm9 (jM0_up hJ (by omega)) (hL11.sel [0, 1, 2, 3, 4] rfl)
          · have c4 : ¬ ((i32w ((m 61 7) + 1) : Int) ≤ (2 : Int)) := c4
            refine f_aln 2 rfl hL rfl ?_
            refine f_iln 3 rfl hL rfl ?_
            refine f_il 0 rfl hL rfl ?_
            refine f_bipush (n := -9) rfl (by decide) ?_
            refine m_k0 (show h_M 79 [.ref 55, fi (0), fi (2), fi (-9)] (up m 61 7 (i32w ((m 61 7) + 1))) none (up (up (up m 61 7 (i32w ((m 61 7) + 1))) 61 2 (-9)) 61 7 0) from t79_0 (m := (up m 61 7 (i32w ((m 61 7) + 1)))) (p := 2) (k := -9) (by decide) (by decide) (by decide)) hw9 hm9 rfl rfl rfl (m_ar so55 hw9 rfl) rfl (fun hc10 hw10 hm10 => ?_)
            refine f_inc 0 [(4, fi (3)), (3, fi (b)), (0, .ref 55), (1, fi (0)), (2, fi (0))] rfl (by decide) hL rfl rfl (fun L12 hL12 => ?_)
            refine f_goto rfl ?_
            have e9 : pw0 m 2 7 = (up (up (up m 61 7 (i32w ((m 61 7) + 1))) 61 2 (-9)) 61 7 (0)) := by unfold pw0; rw [if_neg (by omega), if_pos (by omega)]
            rw [l2_0_2_t (by omega) e9]
            exact hJ3 _ hc10 b _ hw10 hm10 (jM0_up (jM0_n (jM0_up hJ (by omega))) (by omega)) (hL12.sel [0, 1, 2, 3, 4] rfl)
  have hJ1 : ∀ (m : Nat → Nat → Int) (hc : ev_H) (b : Int) (L : ev_L), y_in yGw hc → gi hc = m → jM0 m → f_L L [(4, fi (1)), (3, fi (b)), (0, .ref 55), (1, fi (0)), (2, fi (0))] → x_W none (1, 0, 6, 1, 11, 3, 66, 0, 0, ev_t91) 102 L [] hc 0 0 (fun r' h' => r' = some (fi b) ∧ y_in yGw h' ∧ gi h' = l2_0_1 m) := fun m hc b L hw hm hJ hL => by
    have hR := gi_R hm
    have hn := hJ.1
    have hp := hJ.2.1
    refine f_il 0 rfl hL rfl ?_
    refine f_aln 2 rfl hL rfl ?_
    refine m_gfi so55 (m 55 1) rfl hw hm rfl rfl ?_
    refine f_ic rfl (by decide) (by omega) (fun c1 => ?_) (fun c1 => ?_)
    · have c1 : (m 55 1 : Int) ≤ (1 : Int) := c1
      refine f_aln 2 rfl hL rfl ?_
      refine m_gfr so55 rfl hw rfl (by decide) ?_
      refine f_iln 4 rfl hL rfl ?_
      refine f_bipush (n := 17) rfl (by decide) ?_
      refine f_iadd rfl ?_
      refine b_eq (x := 17) (by decide) ?_
      refine f_s [fi (17), .ref 61, fi (17), .ref 61] rfl rfl ?_
      refine m_ia sa61 (m 61 17) rfl hw hm (by omega) (by omega) (by decide) rfl ?_
      refine f_s [fi (1), fi (m 61 17), fi (17), .ref 61] rfl rfl ?_
      refine f_iadd rfl ?_
      refine b_w ?_
      refine m_ias sa61 rfl hw hm (by omega) (by omega) (by decide) i32w_r (fun hc11 hw11 hm11 => ?_)
      refine f_iln 1 rfl hL rfl ?_
      exact f_ret1 rfl ⟨rfl, hw11, by rw [hm11]; exact (l2_0_1_o (by omega)).symm⟩
    · have c1 : ¬ ((m 55 1 : Int) ≤ (1 : Int)) := c1
      have jv : m 61 1 = -9 ∨ (0 ≤ m 61 1 ∧ m 61 1 < 4) := hJ.2.2 1 (by decide) (by omega)
      refine f_aln 2 rfl hL rfl ?_
      refine m_gfr so55 rfl hw rfl (by decide) ?_
      refine f_iln 4 rfl hL rfl ?_
      refine f_il 0 rfl hL rfl ?_
      refine f_iadd rfl ?_
      refine b_eq (x := 1) (by decide) ?_
      refine m_ia sa61 (m 61 1) rfl hw hm (by omega) (by omega) (by decide) rfl ?_
      refine f_bipush (n := -9) rfl (by decide) ?_
      refine f_ic rfl (hR 61 1) (by decide) (fun c2 => ?_) (fun c2 => ?_)
      · have c2 : (m 61 1 : Int) = (-9 : Int) := c2
        refine f_inc 0 [(4, fi (2)), (3, fi (b)), (0, .ref 55), (1, fi (0)), (2, fi (0))] rfl (by decide) hL rfl rfl (fun L13 hL13 => ?_)
        refine f_goto rfl ?_
        have e9 : pw0 m 1 6 = m := by unfold pw0; rw [if_pos (by omega)]
        rw [l2_0_1_t (by omega) e9]
        exact hJ2 _ hc b _ hw hm hJ (hL13.sel [0, 1, 2, 3, 4] rfl)
      · have c2 : ¬ ((m 61 1 : Int) = (-9 : Int)) := c2
        refine f_aln 2 rfl hL rfl ?_
        refine m_gfr so55 rfl hw rfl (by decide) ?_
        refine f_iln 4 rfl hL rfl ?_
        refine f_s [fi (5), fi (0), .ref 61] rfl rfl ?_
        refine f_iadd rfl ?_
        refine b_eq (x := 5) (by decide) ?_
        refine f_il 0 rfl hL rfl ?_
        refine f_iadd rfl ?_
        refine b_eq (x := 6) (by decide) ?_
        refine f_s [fi (6), .ref 61, fi (6), .ref 61] rfl rfl ?_
        refine m_ia sa61 (m 61 6) rfl hw hm (by omega) (by omega) (by decide) rfl ?_
        refine f_s [fi (1), fi (m 61 6), fi (6), .ref 61] rfl rfl ?_
        refine f_iadd rfl ?_
        refine b_w ?_
        refine m_ias sa61 rfl hw hm (by omega) (by omega) (by decide) i32w_r (fun hc12 hw12 hm12 => ?_)
        refine f_aln 2 rfl hL rfl ?_
        refine m_gfr so55 rfl hw12 rfl (by decide) ?_
        refine f_aln 2 rfl hL rfl ?_
        refine m_gfr so55 rfl hw12 rfl (by decide) ?_
        refine f_iln 4 rfl hL rfl ?_
        refine f_il 0 rfl hL rfl ?_
        refine f_iadd rfl ?_
        refine b_eq (x := 1) (by decide) ?_
        refine m_ia sa61 (m 61 1) rfl hw12 hm12 (by omega) (by omega) (by decide) rfl ?_
        refine m_ia sa56 (m 56 (m 61 1).toNat) rfl hw12 hm12 (by omega) (by omega) (by decide) rfl ?_
        refine f_s [fi (3), fi (m 56 (m 61 1).toNat)] rfl rfl ?_
        refine f_ic rfl (hR _ _) (by decide) (fun c3 => ?_) (fun c3 => ?_)
        · have c3 : ¬ (m 56 (m 61 1).toNat : Int) = (3 : Int) := c3
          refine f_inc 0 [(4, fi (2)), (3, fi (b)), (0, .ref 55), (1, fi (0)), (2, fi (0))] rfl (by decide) hL rfl rfl (fun L14 hL14 => ?_)
          refine f_goto rfl ?_
          have e9 : pw0 m 1 6 = (up m 61 6 (i32w ((m 61 6) + 1))) := by unfold pw0; rw [if_neg (by omega), if_neg (by omega)]
          rw [l2_0_1_t (by omega) e9]
          exact hJ2 _ hc12 b _ hw12 hm12 (jM0_up hJ (by omega)) (hL14.sel [0, 1, 2, 3, 4] rfl)
        · have c3 : ¬ (¬ (m 56 (m 61 1).toNat : Int) = (3 : Int)) := c3
          refine f_aln 2 rfl hL rfl ?_
          refine m_gfr so55 rfl hw12 rfl (by decide) ?_
          refine f_iln 4 rfl hL rfl ?_
          refine f_s [fi (5), fi (0), .ref 61] rfl rfl ?_
          refine f_iadd rfl ?_
          refine b_eq (x := 5) (by decide) ?_
          refine f_il 0 rfl hL rfl ?_
          refine f_iadd rfl ?_
          refine b_eq (x := 6) (by decide) ?_
          refine m_ia sa61 (i32w ((m 61 6) + 1)) rfl hw12 hm12 (by omega) (by omega) (by decide) rfl ?_
          refine f_s [fi (2), fi (i32w ((m 61 6) + 1))] rfl rfl ?_
          refine f_ic rfl i32w_r (by decide) (fun c4 => ?_) (fun c4 => ?_)
          · have c4 : (i32w ((m 61 6) + 1) : Int) ≤ (2 : Int) := c4
            refine f_inc 0 [(4, fi (2)), (3, fi (b)), (0, .ref 55), (1, fi (0)), (2, fi (0))] rfl (by decide) hL rfl rfl (fun L15 hL15 => ?_)
            refine f_goto rfl ?_
            have e9 : pw0 m 1 6 = (up m 61 6 (i32w ((m 61 6) + 1))) := by unfold pw0; rw [if_neg (by omega), if_neg (by omega)]
            rw [l2_0_1_t (by omega) e9]
            exact hJ2 _ hc12 b _ hw12 hm12 (jM0_up hJ (by omega)) (hL15.sel [0, 1, 2, 3, 4] rfl)
          · have c4 : ¬ ((i32w ((m 61 6) + 1) : Int) ≤ (2 : Int)) := c4
            refine f_aln 2 rfl hL rfl ?_
            refine f_iln 3 rfl hL rfl ?_
            refine f_il 0 rfl hL rfl ?_
            refine f_bipush (n := -9) rfl (by decide) ?_
            refine m_k0 (show h_M 79 [.ref 55, fi (0), fi (1), fi (-9)] (up m 61 6 (i32w ((m 61 6) + 1))) none (up (up (up m 61 6 (i32w ((m 61 6) + 1))) 61 1 (-9)) 61 6 0) from t79_0 (m := (up m 61 6 (i32w ((m 61 6) + 1)))) (p := 1) (k := -9) (by decide) (by decide) (by decide)) hw12 hm12 rfl rfl rfl (m_ar so55 hw12 rfl) rfl (fun hc13 hw13 hm13 => ?_)
            refine f_inc 0 [(4, fi (2)), (3, fi (b)), (0, .ref 55), (1, fi (0)), (2, fi (0))] rfl (by decide) hL rfl rfl (fun L16 hL16 => ?_)
            refine f_goto rfl ?_
            have e9 : pw0 m 1 6 = (up (up (up m 61 6 (i32w ((m 61 6) + 1))) 61 1 (-9)) 61 6 (0)) := by unfold pw0; rw [if_neg (by omega), if_pos (by omega)]
            rw [l2_0_1_t (by omega) e9]
            exact hJ2 _ hc13 b _ hw13 hm13 (jM0_up (jM0_n (jM0_up hJ (by omega))) (by omega)) (hL16.sel [0, 1, 2, 3, 4] rfl)
  have hJ0 : ∀ (m : Nat → Nat → Int) (hc : ev_H) (b : Int) (L : ev_L), y_in yGw hc → gi hc = m → jM0 m → f_L L [(4, fi (0)), (3, fi (b)), (0, .ref 55), (1, fi (0)), (2, fi (0))] → x_W none (1, 0, 6, 1, 11, 3, 66, 0, 0, ev_t91) 102 L [] hc 0 0 (fun r' h' => r' = some (fi b) ∧ y_in yGw h' ∧ gi h' = l2_0_0 m) := fun m hc b L hw hm hJ hL => by
    have hR := gi_R hm
    have hn := hJ.1
    have hp := hJ.2.1
    refine f_il 0 rfl hL rfl ?_
    refine f_aln 2 rfl hL rfl ?_
    refine m_gfi so55 (m 55 1) rfl hw hm rfl rfl ?_
    refine f_ic rfl (by decide) (by omega) (fun c1 => ?_) (fun c1 => ?_)
    · have c1 : (m 55 1 : Int) ≤ (0 : Int) := c1
      refine f_aln 2 rfl hL rfl ?_
      refine m_gfr so55 rfl hw rfl (by decide) ?_
      refine f_iln 4 rfl hL rfl ?_
      refine f_bipush (n := 17) rfl (by decide) ?_
      refine f_iadd rfl ?_
      refine b_eq (x := 17) (by decide) ?_
      refine f_s [fi (17), .ref 61, fi (17), .ref 61] rfl rfl ?_
      refine m_ia sa61 (m 61 17) rfl hw hm (by omega) (by omega) (by decide) rfl ?_
      refine f_s [fi (1), fi (m 61 17), fi (17), .ref 61] rfl rfl ?_
      refine f_iadd rfl ?_
      refine b_w ?_
      refine m_ias sa61 rfl hw hm (by omega) (by omega) (by decide) i32w_r (fun hc14 hw14 hm14 => ?_)
      refine f_iln 1 rfl hL rfl ?_
      exact f_ret1 rfl ⟨rfl, hw14, by rw [hm14]; exact (l2_0_0_o (by omega)).symm⟩
    · have c1 : ¬ ((m 55 1 : Int) ≤ (0 : Int)) := c1
      have jv : m 61 0 = -9 ∨ (0 ≤ m 61 0 ∧ m 61 0 < 4) := hJ.2.2 0 (by decide) (by omega)
      refine f_aln 2 rfl hL rfl ?_
      refine m_gfr so55 rfl hw rfl (by decide) ?_
      refine f_iln 4 rfl hL rfl ?_
      refine f_il 0 rfl hL rfl ?_
      refine f_iadd rfl ?_
      refine b_eq (x := 0) (by decide) ?_
      refine m_ia sa61 (m 61 0) rfl hw hm (by omega) (by omega) (by decide) rfl ?_
      refine f_bipush (n := -9) rfl (by decide) ?_
      refine f_ic rfl (hR 61 0) (by decide) (fun c2 => ?_) (fun c2 => ?_)
      · have c2 : (m 61 0 : Int) = (-9 : Int) := c2
        refine f_inc 0 [(4, fi (1)), (3, fi (b)), (0, .ref 55), (1, fi (0)), (2, fi (0))] rfl (by decide) hL rfl rfl (fun L17 hL17 => ?_)
        refine f_goto rfl ?_
        have e9 : pw0 m 0 5 = m := by unfold pw0; rw [if_pos (by omega)]
        rw [l2_0_0_t (by omega) e9]
        exact hJ1 _ hc b _ hw hm hJ (hL17.sel [0, 1, 2, 3, 4] rfl)
      · have c2 : ¬ ((m 61 0 : Int) = (-9 : Int)) := c2
        refine f_aln 2 rfl hL rfl ?_
        refine m_gfr so55 rfl hw rfl (by decide) ?_
        refine f_iln 4 rfl hL rfl ?_
        refine f_s [fi (5), fi (0), .ref 61] rfl rfl ?_
        refine f_iadd rfl ?_
        refine b_eq (x := 5) (by decide) ?_
        refine f_il 0 rfl hL rfl ?_
        refine f_iadd rfl ?_
        refine b_eq (x := 5) (by decide) ?_
        refine f_s [fi (5), .ref 61, fi (5), .ref 61] rfl rfl ?_
        refine m_ia sa61 (m 61 5) rfl hw hm (by omega) (by omega) (by decide) rfl ?_
        refine f_s [fi (1), fi (m 61 5), fi (5), .ref 61] rfl rfl ?_
        refine f_iadd rfl ?_
        refine b_w ?_
        refine m_ias sa61 rfl hw hm (by omega) (by omega) (by decide) i32w_r (fun hc15 hw15 hm15 => ?_)
        refine f_aln 2 rfl hL rfl ?_
        refine m_gfr so55 rfl hw15 rfl (by decide) ?_
        refine f_aln 2 rfl hL rfl ?_
        refine m_gfr so55 rfl hw15 rfl (by decide) ?_
        refine f_iln 4 rfl hL rfl ?_
        refine f_il 0 rfl hL rfl ?_
        refine f_iadd rfl ?_
        refine b_eq (x := 0) (by decide) ?_
        refine m_ia sa61 (m 61 0) rfl hw15 hm15 (by omega) (by omega) (by decide) rfl ?_
        refine m_ia sa56 (m 56 (m 61 0).toNat) rfl hw15 hm15 (by omega) (by omega) (by decide) rfl ?_
        refine f_s [fi (3), fi (m 56 (m 61 0).toNat)] rfl rfl ?_
        refine f_ic rfl (hR _ _) (by decide) (fun c3 => ?_) (fun c3 => ?_)
        · have c3 : ¬ (m 56 (m 61 0).toNat : Int) = (3 : Int) := c3
          refine f_inc 0 [(4, fi (1)), (3, fi (b)), (0, .ref 55), (1, fi (0)), (2, fi (0))] rfl (by decide) hL rfl rfl (fun L18 hL18 => ?_)
          refine f_goto rfl ?_
          have e9 : pw0 m 0 5 = (up m 61 5 (i32w ((m 61 5) + 1))) := by unfold pw0; rw [if_neg (by omega), if_neg (by omega)]
          rw [l2_0_0_t (by omega) e9]
          exact hJ1 _ hc15 b _ hw15 hm15 (jM0_up hJ (by omega)) (hL18.sel [0, 1, 2, 3, 4] rfl)
        · have c3 : ¬ (¬ (m 56 (m 61 0).toNat : Int) = (3 : Int)) := c3
          refine f_aln 2 rfl hL rfl ?_
          refine m_gfr so55 rfl hw15 rfl (by decide) ?_
          refine f_iln 4 rfl hL rfl ?_
          refine f_s [fi (5), fi (0), .ref 61] rfl rfl ?_
          refine f_iadd rfl ?_
          refine b_eq (x := 5) (by decide) ?_
          refine f_il 0 rfl hL rfl ?_
          refine f_iadd rfl ?_
          refine b_eq (x := 5) (by decide) ?_
          refine m_ia sa61 (i32w ((m 61 5) + 1)) rfl hw15 hm15 (by omega) (by omega) (by decide) rfl ?_
          refine f_s [fi (2), fi (i32w ((m 61 5) + 1))] rfl rfl ?_
          refine f_ic rfl i32w_r (by decide) (fun c4 => ?_) (fun c4 => ?_)
          · have c4 : (i32w ((m 61 5) + 1) : Int) ≤ (2 : Int) := c4
            refine f_inc 0 [(4, fi (1)), (3, fi (b)), (0, .ref 55), (1, fi (0)), (2, fi (0))] rfl (by decide) hL rfl rfl (fun L19 hL19 => ?_)
            refine f_goto rfl ?_
            have e9 : pw0 m 0 5 = (up m 61 5 (i32w ((m 61 5) + 1))) := by unfold pw0; rw [if_neg (by omega), if_neg (by omega)]
            rw [l2_0_0_t (by omega) e9]
            exact hJ1 _ hc15 b _ hw15 hm15 (jM0_up hJ (by omega)) (hL19.sel [0, 1, 2, 3, 4] rfl)
          · have c4 : ¬ ((i32w ((m 61 5) + 1) : Int) ≤ (2 : Int)) := c4
            refine f_aln 2 rfl hL rfl ?_
            refine f_iln 3 rfl hL rfl ?_
            refine f_il 0 rfl hL rfl ?_
            refine f_bipush (n := -9) rfl (by decide) ?_
            refine m_k0 (show h_M 79 [.ref 55, fi (0), fi (0), fi (-9)] (up m 61 5 (i32w ((m 61 5) + 1))) none (up (up (up m 61 5 (i32w ((m 61 5) + 1))) 61 0 (-9)) 61 5 0) from t79_0 (m := (up m 61 5 (i32w ((m 61 5) + 1)))) (p := 0) (k := -9) (by decide) (by decide) (by decide)) hw15 hm15 rfl rfl rfl (m_ar so55 hw15 rfl) rfl (fun hc16 hw16 hm16 => ?_)
            refine f_inc 0 [(4, fi (1)), (3, fi (b)), (0, .ref 55), (1, fi (0)), (2, fi (0))] rfl (by decide) hL rfl rfl (fun L20 hL20 => ?_)
            refine f_goto rfl ?_
            have e9 : pw0 m 0 5 = (up (up (up m 61 5 (i32w ((m 61 5) + 1))) 61 0 (-9)) 61 5 (0)) := by unfold pw0; rw [if_neg (by omega), if_pos (by omega)]
            rw [l2_0_0_t (by omega) e9]
            exact hJ1 _ hc16 b _ hw16 hm16 (jM0_up (jM0_n (jM0_up hJ (by omega))) (by omega)) (hL20.sel [0, 1, 2, 3, 4] rfl)
  have hK5 : ∀ (m : Nat → Nat → Int) (hc : ev_H) (b : Int) (L : ev_L), y_in yGw hc → gi hc = m → jM0 m → f_L L [(4, fi (5)), (3, fi (b)), (0, .ref 55), (1, fi (0)), (2, fi (0))] → x_W none (1, 0, 6, 1, 11, 3, 66, 0, 0, ev_t91) 10 L [] hc 0 0 (fun r' h' => r' = some (fi (l1_0_5 m b).2) ∧ y_in yGw h' ∧ gi h' = (l1_0_5 m b).1) := fun m hc b L hw hm hJ hL => by
    have hR := gi_R hm
    have hn := hJ.1
    have hp := hJ.2.1
    refine f_il 0 rfl hL rfl ?_
    refine f_aln 2 rfl hL rfl ?_
    refine m_gfi so55 (m 55 1) rfl hw hm rfl rfl ?_
    refine f_ic rfl (by decide) (by omega) (fun _ => ?_) (fun c_9 => absurd (show (m 55 1 : Int) ≤ (5 : Int) from (by omega)) c_9)
    refine f_s [fi (0)] rfl rfl ?_
    refine f_ist [(4, fi (0)), (3, fi (b)), (0, .ref 55), (1, fi (0)), (2, fi (0))] rfl (by decide) hL rfl (fun L21 hL21 => ?_)
    exact hJ0 _ hc b _ hw hm hJ (hL21.sel [0, 1, 2, 3, 4] rfl)
  have hK4 : ∀ (m : Nat → Nat → Int) (hc : ev_H) (b : Int) (L : ev_L), y_in yGw hc → gi hc = m → jM0 m → f_L L [(4, fi (4)), (3, fi (b)), (0, .ref 55), (1, fi (0)), (2, fi (0))] → x_W none (1, 0, 6, 1, 11, 3, 66, 0, 0, ev_t91) 10 L [] hc 0 0 (fun r' h' => r' = some (fi (l1_0_4 m b).2) ∧ y_in yGw h' ∧ gi h' = (l1_0_4 m b).1) := fun m hc b L hw hm hJ hL => by
    have hR := gi_R hm
    have hn := hJ.1
    have hp := hJ.2.1
    refine f_il 0 rfl hL rfl ?_
    refine f_aln 2 rfl hL rfl ?_
    refine m_gfi so55 (m 55 1) rfl hw hm rfl rfl ?_
    refine f_ic rfl (by decide) (by omega) (fun c1 => ?_) (fun c1 => ?_)
    · have c1 : (m 55 1 : Int) ≤ (4 : Int) := c1
      rw [l1_0_4_o (by omega)]
      refine f_s [fi (0)] rfl rfl ?_
      refine f_ist [(4, fi (0)), (3, fi (b)), (0, .ref 55), (1, fi (0)), (2, fi (0))] rfl (by decide) hL rfl (fun L22 hL22 => ?_)
      exact hJ0 _ hc b _ hw hm hJ (hL22.sel [0, 1, 2, 3, 4] rfl)
    · have c1 : ¬ ((m 55 1 : Int) ≤ (4 : Int)) := c1
      have jv : m 61 4 = -9 ∨ (0 ≤ m 61 4 ∧ m 61 4 < 4) := hJ.2.2 4 (by decide) (by omega)
      refine f_aln 2 rfl hL rfl ?_
      refine f_iln 3 rfl hL rfl ?_
      refine f_il 0 rfl hL rfl ?_
      refine f_aln 2 rfl hL rfl ?_
      refine m_gfr so55 rfl hw rfl (by decide) ?_
      refine f_iln 4 rfl hL rfl ?_
      refine f_bipush (n := 17) rfl (by decide) ?_
      refine f_iadd rfl ?_
      refine b_eq (x := 17) (by decide) ?_
      refine m_ia sa61 (m 61 17) rfl hw hm (by omega) (by omega) (by decide) rfl ?_
      refine m_k1 (t90_0 (p := 4) (h := m 61 17) (by decide) (by decide) (hR 61 17) (fv := m 58 4) rfl (hR 58 4) (uv := m 59 4) rfl (hR 59 4)) hw hm rfl rfl rfl (m_ar so55 hw rfl) rfl (fun hc17 hw17 hm17 => ?_)
      refine f_if rfl (bI_r _) (fun c2 => ?_) (fun c2 => ?_)
      · have c2 : (bI (decide (¬ iA (iR (m 61 16) (4)) (1) = 1 ∧ m 58 4 ≤ m 61 17 ∧ m 61 17 ≤ m 59 4)) : Int) = (0 : Int) := c2
        have c2 : ¬ (¬ iA (iR (m 61 16) (4)) (1) = 1 ∧ m 58 4 ≤ m 61 17 ∧ m 61 17 ≤ m 59 4) := bI_f c2
        refine f_s [fi (0)] rfl rfl ?_
        refine f_ist [(5, fi (0)), (4, fi (4)), (3, fi (b)), (0, .ref 55), (1, fi (0)), (2, fi (0))] rfl (by decide) hL rfl (fun L23 hL23 => ?_)
        refine f_aln 3 rfl hL23 rfl ?_
        refine m_gfr so55 rfl hw17 rfl (by decide) ?_
        refine f_iln 5 rfl hL23 rfl ?_
        refine f_bipush (n := 10) rfl (by decide) ?_
        refine f_iadd rfl ?_
        refine b_eq (x := 10) (by decide) ?_
        refine f_il 1 rfl hL23 rfl ?_
        refine f_iadd rfl ?_
        refine b_eq (x := 14) (by decide) ?_
        refine f_s [fi (14), .ref 61, fi (14), .ref 61] rfl rfl ?_
        refine m_ia sa61 (m 61 14) rfl hw17 hm17 (by omega) (by omega) (by decide) rfl ?_
        refine f_il 0 rfl hL23 rfl ?_
        refine f_if rfl (by decide) (fun _ => ?_) (fun c_9 => absurd (show (0 : Int) = (0 : Int) from (by decide)) c_9)
        refine f_s [fi (0), fi (m 61 14), fi (14), .ref 61] rfl rfl ?_
        refine f_iadd rfl ?_
        refine b_w ?_
        refine m_ias sa61 rfl hw17 hm17 (by omega) (by omega) (by decide) i32w_r (fun hc18 hw18 hm18 => ?_)
        refine f_iln 2 rfl hL23 rfl ?_
        refine f_il 0 rfl hL23 rfl ?_
        refine f_if rfl (by decide) (fun _ => ?_) (fun c_9 => absurd (show (0 : Int) = (0 : Int) from (by decide)) c_9)
        refine f_s [fi (0), fi (b)] rfl rfl ?_
        refine f_iadd rfl ?_
        refine f_istn [(3, fi (b + 0)), (5, fi (0)), (4, fi (4)), (0, .ref 55), (1, fi (0)), (2, fi (0))] rfl (by decide) hL23 rfl (fun L24 hL24 => ?_)
        refine f_inc 2 [(4, fi (5)), (3, fi (b + 0)), (5, fi (0)), (0, .ref 55), (1, fi (0)), (2, fi (0))] rfl (by decide) hL24 rfl rfl (fun L25 hL25 => ?_)
        refine f_goto rfl ?_
        have e9 : wt0 m 4 4 4 = 0 := if_neg (fun z => c2 z.1)
        rw [l1_0_4_t (by omega) e9]
        exact hK5 _ hc18 (b + 0) _ hw18 hm18 (jM0_up hJ (by omega)) (hL25.sel [0, 1, 3, 4, 5] rfl)
      · have c2 : ¬ ((bI (decide (¬ iA (iR (m 61 16) (4)) (1) = 1 ∧ m 58 4 ≤ m 61 17 ∧ m 61 17 ≤ m 59 4)) : Int) = (0 : Int)) := c2
        have c2 : ¬ iA (iR (m 61 16) (4)) (1) = 1 ∧ m 58 4 ≤ m 61 17 ∧ m 61 17 ≤ m 59 4 := bI_t c2
        refine f_aln 2 rfl hL rfl ?_
        refine f_iln 3 rfl hL rfl ?_
        refine f_il 0 rfl hL rfl ?_
        refine m_k1 (t62_0 (p := 4) (wv := m 61 4) (kv := m 56 (m 61 4).toNat) hn hp (by decide) (by decide) rfl (hR 61 4) jv rfl (hR 56 _)) hw17 hm17 rfl rfl rfl (m_ar so55 hw17 rfl) rfl (fun hc19 hw19 hm19 => ?_)
        refine f_if rfl (by have := sbM0_01 m (m 61 4); omega) (fun c3 => ?_) (fun c3 => ?_)
        · have c3 : ¬ (sbM0 m (m 61 4) : Int) = (0 : Int) := c3
          refine f_s [fi (0)] rfl rfl ?_
          refine f_ist [(5, fi (0)), (4, fi (4)), (3, fi (b)), (0, .ref 55), (1, fi (0)), (2, fi (0))] rfl (by decide) hL rfl (fun L26 hL26 => ?_)
          refine f_aln 3 rfl hL26 rfl ?_
          refine m_gfr so55 rfl hw19 rfl (by decide) ?_
          refine f_iln 5 rfl hL26 rfl ?_
          refine f_bipush (n := 10) rfl (by decide) ?_
          refine f_iadd rfl ?_
          refine b_eq (x := 10) (by decide) ?_
          refine f_il 1 rfl hL26 rfl ?_
          refine f_iadd rfl ?_
          refine b_eq (x := 14) (by decide) ?_
          refine f_s [fi (14), .ref 61, fi (14), .ref 61] rfl rfl ?_
          refine m_ia sa61 (m 61 14) rfl hw19 hm19 (by omega) (by omega) (by decide) rfl ?_
          refine f_il 0 rfl hL26 rfl ?_
          refine f_if rfl (by decide) (fun _ => ?_) (fun c_9 => absurd (show (0 : Int) = (0 : Int) from (by decide)) c_9)
          refine f_s [fi (0), fi (m 61 14), fi (14), .ref 61] rfl rfl ?_
          refine f_iadd rfl ?_
          refine b_w ?_
          refine m_ias sa61 rfl hw19 hm19 (by omega) (by omega) (by decide) i32w_r (fun hc20 hw20 hm20 => ?_)
          refine f_iln 2 rfl hL26 rfl ?_
          refine f_il 0 rfl hL26 rfl ?_
          refine f_if rfl (by decide) (fun _ => ?_) (fun c_9 => absurd (show (0 : Int) = (0 : Int) from (by decide)) c_9)
          refine f_s [fi (0), fi (b)] rfl rfl ?_
          refine f_iadd rfl ?_
          refine f_istn [(3, fi (b + 0)), (5, fi (0)), (4, fi (4)), (0, .ref 55), (1, fi (0)), (2, fi (0))] rfl (by decide) hL26 rfl (fun L27 hL27 => ?_)
          refine f_inc 2 [(4, fi (5)), (3, fi (b + 0)), (5, fi (0)), (0, .ref 55), (1, fi (0)), (2, fi (0))] rfl (by decide) hL27 rfl rfl (fun L28 hL28 => ?_)
          refine f_goto rfl ?_
          have e9 : wt0 m 4 4 4 = 0 := if_neg (fun z => c3 z.2)
          rw [l1_0_4_t (by omega) e9]
          exact hK5 _ hc20 (b + 0) _ hw20 hm20 (jM0_up hJ (by omega)) (hL28.sel [0, 1, 3, 4, 5] rfl)
        · have c3 : ¬ (¬ (sbM0 m (m 61 4) : Int) = (0 : Int)) := c3
          refine f_s [fi (1)] rfl rfl ?_
          refine f_goto rfl ?_
          refine f_ist [(5, fi (1)), (4, fi (4)), (3, fi (b)), (0, .ref 55), (1, fi (0)), (2, fi (0))] rfl (by decide) hL rfl (fun L29 hL29 => ?_)
          refine f_aln 3 rfl hL29 rfl ?_
          refine m_gfr so55 rfl hw19 rfl (by decide) ?_
          refine f_iln 5 rfl hL29 rfl ?_
          refine f_bipush (n := 10) rfl (by decide) ?_
          refine f_iadd rfl ?_
          refine b_eq (x := 10) (by decide) ?_
          refine f_il 1 rfl hL29 rfl ?_
          refine f_iadd rfl ?_
          refine b_eq (x := 14) (by decide) ?_
          refine f_s [fi (14), .ref 61, fi (14), .ref 61] rfl rfl ?_
          refine m_ia sa61 (m 61 14) rfl hw19 hm19 (by omega) (by omega) (by decide) rfl ?_
          refine f_il 0 rfl hL29 rfl ?_
          refine f_if rfl (by decide) (fun c_9 => absurd (show (1 : Int) = (0 : Int) from c_9) (by decide)) (fun _ => ?_)
          refine f_s [fi (1), fi (m 61 14), fi (14), .ref 61] rfl rfl ?_
          refine f_goto rfl ?_
          refine f_iadd rfl ?_
          refine b_w ?_
          refine m_ias sa61 rfl hw19 hm19 (by omega) (by omega) (by decide) i32w_r (fun hc21 hw21 hm21 => ?_)
          refine f_iln 2 rfl hL29 rfl ?_
          refine f_il 0 rfl hL29 rfl ?_
          refine f_if rfl (by decide) (fun c_9 => absurd (show (1 : Int) = (0 : Int) from c_9) (by decide)) (fun _ => ?_)
          refine f_s [fi (1), fi (b)] rfl rfl ?_
          refine f_goto rfl ?_
          refine f_iadd rfl ?_
          refine f_istn [(3, fi (b + 1)), (5, fi (1)), (4, fi (4)), (0, .ref 55), (1, fi (0)), (2, fi (0))] rfl (by decide) hL29 rfl (fun L30 hL30 => ?_)
          refine f_inc 2 [(4, fi (5)), (3, fi (b + 1)), (5, fi (1)), (0, .ref 55), (1, fi (0)), (2, fi (0))] rfl (by decide) hL30 rfl rfl (fun L31 hL31 => ?_)
          refine f_goto rfl ?_
          have e9 : wt0 m 4 4 4 = 1 := if_pos ⟨c2, by omega⟩
          rw [l1_0_4_t (by omega) e9]
          exact hK5 _ hc21 (b + 1) _ hw21 hm21 (jM0_up hJ (by omega)) (hL31.sel [0, 1, 3, 4, 5] rfl)
  have hK3 : ∀ (m : Nat → Nat → Int) (hc : ev_H) (b : Int) (L : ev_L), y_in yGw hc → gi hc = m → jM0 m → f_L L [(4, fi (3)), (3, fi (b)), (0, .ref 55), (1, fi (0)), (2, fi (0))] → x_W none (1, 0, 6, 1, 11, 3, 66, 0, 0, ev_t91) 10 L [] hc 0 0 (fun r' h' => r' = some (fi (l1_0_3 m b).2) ∧ y_in yGw h' ∧ gi h' = (l1_0_3 m b).1) := fun m hc b L hw hm hJ hL => by
    have hR := gi_R hm
    have hn := hJ.1
    have hp := hJ.2.1
    refine f_il 0 rfl hL rfl ?_
    refine f_aln 2 rfl hL rfl ?_
    refine m_gfi so55 (m 55 1) rfl hw hm rfl rfl ?_
    refine f_ic rfl (by decide) (by omega) (fun c1 => ?_) (fun c1 => ?_)
    · have c1 : (m 55 1 : Int) ≤ (3 : Int) := c1
      rw [l1_0_3_o (by omega)]
      refine f_s [fi (0)] rfl rfl ?_
      refine f_ist [(4, fi (0)), (3, fi (b)), (0, .ref 55), (1, fi (0)), (2, fi (0))] rfl (by decide) hL rfl (fun L32 hL32 => ?_)
      exact hJ0 _ hc b _ hw hm hJ (hL32.sel [0, 1, 2, 3, 4] rfl)
    · have c1 : ¬ ((m 55 1 : Int) ≤ (3 : Int)) := c1
      have jv : m 61 3 = -9 ∨ (0 ≤ m 61 3 ∧ m 61 3 < 4) := hJ.2.2 3 (by decide) (by omega)
      refine f_aln 2 rfl hL rfl ?_
      refine f_iln 3 rfl hL rfl ?_
      refine f_il 0 rfl hL rfl ?_
      refine f_aln 2 rfl hL rfl ?_
      refine m_gfr so55 rfl hw rfl (by decide) ?_
      refine f_iln 4 rfl hL rfl ?_
      refine f_bipush (n := 17) rfl (by decide) ?_
      refine f_iadd rfl ?_
      refine b_eq (x := 17) (by decide) ?_
      refine m_ia sa61 (m 61 17) rfl hw hm (by omega) (by omega) (by decide) rfl ?_
      refine m_k1 (t90_0 (p := 3) (h := m 61 17) (by decide) (by decide) (hR 61 17) (fv := m 58 3) rfl (hR 58 3) (uv := m 59 3) rfl (hR 59 3)) hw hm rfl rfl rfl (m_ar so55 hw rfl) rfl (fun hc22 hw22 hm22 => ?_)
      refine f_if rfl (bI_r _) (fun c2 => ?_) (fun c2 => ?_)
      · have c2 : (bI (decide (¬ iA (iR (m 61 16) (3)) (1) = 1 ∧ m 58 3 ≤ m 61 17 ∧ m 61 17 ≤ m 59 3)) : Int) = (0 : Int) := c2
        have c2 : ¬ (¬ iA (iR (m 61 16) (3)) (1) = 1 ∧ m 58 3 ≤ m 61 17 ∧ m 61 17 ≤ m 59 3) := bI_f c2
        refine f_s [fi (0)] rfl rfl ?_
        refine f_ist [(5, fi (0)), (4, fi (3)), (3, fi (b)), (0, .ref 55), (1, fi (0)), (2, fi (0))] rfl (by decide) hL rfl (fun L33 hL33 => ?_)
        refine f_aln 3 rfl hL33 rfl ?_
        refine m_gfr so55 rfl hw22 rfl (by decide) ?_
        refine f_iln 5 rfl hL33 rfl ?_
        refine f_bipush (n := 10) rfl (by decide) ?_
        refine f_iadd rfl ?_
        refine b_eq (x := 10) (by decide) ?_
        refine f_il 1 rfl hL33 rfl ?_
        refine f_iadd rfl ?_
        refine b_eq (x := 13) (by decide) ?_
        refine f_s [fi (13), .ref 61, fi (13), .ref 61] rfl rfl ?_
        refine m_ia sa61 (m 61 13) rfl hw22 hm22 (by omega) (by omega) (by decide) rfl ?_
        refine f_il 0 rfl hL33 rfl ?_
        refine f_if rfl (by decide) (fun _ => ?_) (fun c_9 => absurd (show (0 : Int) = (0 : Int) from (by decide)) c_9)
        refine f_s [fi (0), fi (m 61 13), fi (13), .ref 61] rfl rfl ?_
        refine f_iadd rfl ?_
        refine b_w ?_
        refine m_ias sa61 rfl hw22 hm22 (by omega) (by omega) (by decide) i32w_r (fun hc23 hw23 hm23 => ?_)
        refine f_iln 2 rfl hL33 rfl ?_
        refine f_il 0 rfl hL33 rfl ?_
        refine f_if rfl (by decide) (fun _ => ?_) (fun c_9 => absurd (show (0 : Int) = (0 : Int) from (by decide)) c_9)
        refine f_s [fi (0), fi (b)] rfl rfl ?_
        refine f_iadd rfl ?_
        refine f_istn [(3, fi (b + 0)), (5, fi (0)), (4, fi (3)), (0, .ref 55), (1, fi (0)), (2, fi (0))] rfl (by decide) hL33 rfl (fun L34 hL34 => ?_)
        refine f_inc 2 [(4, fi (4)), (3, fi (b + 0)), (5, fi (0)), (0, .ref 55), (1, fi (0)), (2, fi (0))] rfl (by decide) hL34 rfl rfl (fun L35 hL35 => ?_)
        refine f_goto rfl ?_
        have e9 : wt0 m 3 3 3 = 0 := if_neg (fun z => c2 z.1)
        rw [l1_0_3_t (by omega) e9]
        exact hK4 _ hc23 (b + 0) _ hw23 hm23 (jM0_up hJ (by omega)) (hL35.sel [0, 1, 3, 4, 5] rfl)
      · have c2 : ¬ ((bI (decide (¬ iA (iR (m 61 16) (3)) (1) = 1 ∧ m 58 3 ≤ m 61 17 ∧ m 61 17 ≤ m 59 3)) : Int) = (0 : Int)) := c2
        have c2 : ¬ iA (iR (m 61 16) (3)) (1) = 1 ∧ m 58 3 ≤ m 61 17 ∧ m 61 17 ≤ m 59 3 := bI_t c2
        refine f_aln 2 rfl hL rfl ?_
        refine f_iln 3 rfl hL rfl ?_
        refine f_il 0 rfl hL rfl ?_
        refine m_k1 (t62_0 (p := 3) (wv := m 61 3) (kv := m 56 (m 61 3).toNat) hn hp (by decide) (by decide) rfl (hR 61 3) jv rfl (hR 56 _)) hw22 hm22 rfl rfl rfl (m_ar so55 hw22 rfl) rfl (fun hc24 hw24 hm24 => ?_)
        refine f_if rfl (by have := sbM0_01 m (m 61 3); omega) (fun c3 => ?_) (fun c3 => ?_)
        · have c3 : ¬ (sbM0 m (m 61 3) : Int) = (0 : Int) := c3
          refine f_s [fi (0)] rfl rfl ?_
          refine f_ist [(5, fi (0)), (4, fi (3)), (3, fi (b)), (0, .ref 55), (1, fi (0)), (2, fi (0))] rfl (by decide) hL rfl (fun L36 hL36 => ?_)
          refine f_aln 3 rfl hL36 rfl ?_
          refine m_gfr so55 rfl hw24 rfl (by decide) ?_
          refine f_iln 5 rfl hL36 rfl ?_
          refine f_bipush (n := 10) rfl (by decide) ?_
          refine f_iadd rfl ?_
          refine b_eq (x := 10) (by decide) ?_
          refine f_il 1 rfl hL36 rfl ?_
          refine f_iadd rfl ?_
          refine b_eq (x := 13) (by decide) ?_
          refine f_s [fi (13), .ref 61, fi (13), .ref 61] rfl rfl ?_
          refine m_ia sa61 (m 61 13) rfl hw24 hm24 (by omega) (by omega) (by decide) rfl ?_
          refine f_il 0 rfl hL36 rfl ?_
          refine f_if rfl (by decide) (fun _ => ?_) (fun c_9 => absurd (show (0 : Int) = (0 : Int) from (by decide)) c_9)
          refine f_s [fi (0), fi (m 61 13), fi (13), .ref 61] rfl rfl ?_
          refine f_iadd rfl ?_
          refine b_w ?_
          refine m_ias sa61 rfl hw24 hm24 (by omega) (by omega) (by decide) i32w_r (fun hc25 hw25 hm25 => ?_)
          refine f_iln 2 rfl hL36 rfl ?_
          refine f_il 0 rfl hL36 rfl ?_
          refine f_if rfl (by decide) (fun _ => ?_) (fun c_9 => absurd (show (0 : Int) = (0 : Int) from (by decide)) c_9)
          refine f_s [fi (0), fi (b)] rfl rfl ?_
          refine f_iadd rfl ?_
          refine f_istn [(3, fi (b + 0)), (5, fi (0)), (4, fi (3)), (0, .ref 55), (1, fi (0)), (2, fi (0))] rfl (by decide) hL36 rfl (fun L37 hL37 => ?_)
          refine f_inc 2 [(4, fi (4)), (3, fi (b + 0)), (5, fi (0)), (0, .ref 55), (1, fi (0)), (2, fi (0))] rfl (by decide) hL37 rfl rfl (fun L38 hL38 => ?_)
          refine f_goto rfl ?_
          have e9 : wt0 m 3 3 3 = 0 := if_neg (fun z => c3 z.2)
          rw [l1_0_3_t (by omega) e9]
          exact hK4 _ hc25 (b + 0) _ hw25 hm25 (jM0_up hJ (by omega)) (hL38.sel [0, 1, 3, 4, 5] rfl)
        · have c3 : ¬ (¬ (sbM0 m (m 61 3) : Int) = (0 : Int)) := c3
          refine f_s [fi (1)] rfl rfl ?_
          refine f_goto rfl ?_
          refine f_ist [(5, fi (1)), (4, fi (3)), (3, fi (b)), (0, .ref 55), (1, fi (0)), (2, fi (0))] rfl (by decide) hL rfl (fun L39 hL39 => ?_)
          refine f_aln 3 rfl hL39 rfl ?_
          refine m_gfr so55 rfl hw24 rfl (by decide) ?_
          refine f_iln 5 rfl hL39 rfl ?_
          refine f_bipush (n := 10) rfl (by decide) ?_
          refine f_iadd rfl ?_
          refine b_eq (x := 10) (by decide) ?_
          refine f_il 1 rfl hL39 rfl ?_
          refine f_iadd rfl ?_
          refine b_eq (x := 13) (by decide) ?_
          refine f_s [fi (13), .ref 61, fi (13), .ref 61] rfl rfl ?_
          refine m_ia sa61 (m 61 13) rfl hw24 hm24 (by omega) (by omega) (by decide) rfl ?_
          refine f_il 0 rfl hL39 rfl ?_
          refine f_if rfl (by decide) (fun c_9 => absurd (show (1 : Int) = (0 : Int) from c_9) (by decide)) (fun _ => ?_)
          refine f_s [fi (1), fi (m 61 13), fi (13), .ref 61] rfl rfl ?_
          refine f_goto rfl ?_
          refine f_iadd rfl ?_
          refine b_w ?_
          refine m_ias sa61 rfl hw24 hm24 (by omega) (by omega) (by decide) i32w_r (fun hc26 hw26 hm26 => ?_)
          refine f_iln 2 rfl hL39 rfl ?_
          refine f_il 0 rfl hL39 rfl ?_
          refine f_if rfl (by decide) (fun c_9 => absurd (show (1 : Int) = (0 : Int) from c_9) (by decide)) (fun _ => ?_)
          refine f_s [fi (1), fi (b)] rfl rfl ?_
          refine f_goto rfl ?_
          refine f_iadd rfl ?_
          refine f_istn [(3, fi (b + 1)), (5, fi (1)), (4, fi (3)), (0, .ref 55), (1, fi (0)), (2, fi (0))] rfl (by decide) hL39 rfl (fun L40 hL40 => ?_)
          refine f_inc 2 [(4, fi (4)), (3, fi (b + 1)), (5, fi (1)), (0, .ref 55), (1, fi (0)), (2, fi (0))] rfl (by decide) hL40 rfl rfl (fun L41 hL41 => ?_)
          refine f_goto rfl ?_
          have e9 : wt0 m 3 3 3 = 1 := if_pos ⟨c2, by omega⟩
          rw [l1_0_3_t (by omega) e9]
          exact hK4 _ hc26 (b + 1) _ hw26 hm26 (jM0_up hJ (by omega)) (hL41.sel [0, 1, 3, 4, 5] rfl)
  have hK2 : ∀ (m : Nat → Nat → Int) (hc : ev_H) (b : Int) (L : ev_L), y_in yGw hc → gi hc = m → jM0 m → f_L L [(4, fi (2)), (3, fi (b)), (0, .ref 55), (1, fi (0)), (2, fi (0))] → x_W none (1, 0, 6, 1, 11, 3, 66, 0, 0, ev_t91) 10 L [] hc 0 0 (fun r' h' => r' = some (fi (l1_0_2 m b).2) ∧ y_in yGw h' ∧ gi h' = (l1_0_2 m b).1) := fun m hc b L hw hm hJ hL => by
    have hR := gi_R hm
    have hn := hJ.1
    have hp := hJ.2.1
    refine f_il 0 rfl hL rfl ?_
    refine f_aln 2 rfl hL rfl ?_
    refine m_gfi so55 (m 55 1) rfl hw hm rfl rfl ?_
    refine f_ic rfl (by decide) (by omega) (fun c1 => ?_) (fun c1 => ?_)
    · have c1 : (m 55 1 : Int) ≤ (2 : Int) := c1
      rw [l1_0_2_o (by omega)]
      refine f_s [fi (0)] rfl rfl ?_
      refine f_ist [(4, fi (0)), (3, fi (b)), (0, .ref 55), (1, fi (0)), (2, fi (0))] rfl (by decide) hL rfl (fun L42 hL42 => ?_)
      exact hJ0 _ hc b _ hw hm hJ (hL42.sel [0, 1, 2, 3, 4] rfl)
    · have c1 : ¬ ((m 55 1 : Int) ≤ (2 : Int)) := c1
      have jv : m 61 2 = -9 ∨ (0 ≤ m 61 2 ∧ m 61 2 < 4) := hJ.2.2 2 (by decide) (by omega)
      refine f_aln 2 rfl hL rfl ?_
      refine f_iln 3 rfl hL rfl ?_
      refine f_il 0 rfl hL rfl ?_
      refine f_aln 2 rfl hL rfl ?_
      refine m_gfr so55 rfl hw rfl (by decide) ?_
      refine f_iln 4 rfl hL rfl ?_
      refine f_bipush (n := 17) rfl (by decide) ?_
      refine f_iadd rfl ?_
      refine b_eq (x := 17) (by decide) ?_
      refine m_ia sa61 (m 61 17) rfl hw hm (by omega) (by omega) (by decide) rfl ?_
      refine m_k1 (t90_0 (p := 2) (h := m 61 17) (by decide) (by decide) (hR 61 17) (fv := m 58 2) rfl (hR 58 2) (uv := m 59 2) rfl (hR 59 2)) hw hm rfl rfl rfl (m_ar so55 hw rfl) rfl (fun hc27 hw27 hm27 => ?_)
      refine f_if rfl (bI_r _) (fun c2 => ?_) (fun c2 => ?_)
      · have c2 : (bI (decide (¬ iA (iR (m 61 16) (2)) (1) = 1 ∧ m 58 2 ≤ m 61 17 ∧ m 61 17 ≤ m 59 2)) : Int) = (0 : Int) := c2
        have c2 : ¬ (¬ iA (iR (m 61 16) (2)) (1) = 1 ∧ m 58 2 ≤ m 61 17 ∧ m 61 17 ≤ m 59 2) := bI_f c2
        refine f_s [fi (0)] rfl rfl ?_
        refine f_ist [(5, fi (0)), (4, fi (2)), (3, fi (b)), (0, .ref 55), (1, fi (0)), (2, fi (0))] rfl (by decide) hL rfl (fun L43 hL43 => ?_)
        refine f_aln 3 rfl hL43 rfl ?_
        refine m_gfr so55 rfl hw27 rfl (by decide) ?_
        refine f_iln 5 rfl hL43 rfl ?_
        refine f_bipush (n := 10) rfl (by decide) ?_
        refine f_iadd rfl ?_
        refine b_eq (x := 10) (by decide) ?_
        refine f_il 1 rfl hL43 rfl ?_
        refine f_iadd rfl ?_
        refine b_eq (x := 12) (by decide) ?_
        refine f_s [fi (12), .ref 61, fi (12), .ref 61] rfl rfl ?_
        refine m_ia sa61 (m 61 12) rfl hw27 hm27 (by omega) (by omega) (by decide) rfl ?_
        refine f_il 0 rfl hL43 rfl ?_
        refine f_if rfl (by decide) (fun _ => ?_) (fun c_9 => absurd (show (0 : Int) = (0 : Int) from (by decide)) c_9)
        refine f_s [fi (0), fi (m 61 12), fi (12), .ref 61] rfl rfl ?_
        refine f_iadd rfl ?_
        refine b_w ?_
        refine m_ias sa61 rfl hw27 hm27 (by omega) (by omega) (by decide) i32w_r (fun hc28 hw28 hm28 => ?_)
        refine f_iln 2 rfl hL43 rfl ?_
        refine f_il 0 rfl hL43 rfl ?_
        refine f_if rfl (by decide) (fun _ => ?_) (fun c_9 => absurd (show (0 : Int) = (0 : Int) from (by decide)) c_9)
        refine f_s [fi (0), fi (b)] rfl rfl ?_
        refine f_iadd rfl ?_
        refine f_istn [(3, fi (b + 0)), (5, fi (0)), (4, fi (2)), (0, .ref 55), (1, fi (0)), (2, fi (0))] rfl (by decide) hL43 rfl (fun L44 hL44 => ?_)
        refine f_inc 2 [(4, fi (3)), (3, fi (b + 0)), (5, fi (0)), (0, .ref 55), (1, fi (0)), (2, fi (0))] rfl (by decide) hL44 rfl rfl (fun L45 hL45 => ?_)
        refine f_goto rfl ?_
        have e9 : wt0 m 2 2 2 = 0 := if_neg (fun z => c2 z.1)
        rw [l1_0_2_t (by omega) e9]
        exact hK3 _ hc28 (b + 0) _ hw28 hm28 (jM0_up hJ (by omega)) (hL45.sel [0, 1, 3, 4, 5] rfl)
      · have c2 : ¬ ((bI (decide (¬ iA (iR (m 61 16) (2)) (1) = 1 ∧ m 58 2 ≤ m 61 17 ∧ m 61 17 ≤ m 59 2)) : Int) = (0 : Int)) := c2
        have c2 : ¬ iA (iR (m 61 16) (2)) (1) = 1 ∧ m 58 2 ≤ m 61 17 ∧ m 61 17 ≤ m 59 2 := bI_t c2
        refine f_aln 2 rfl hL rfl ?_
        refine f_iln 3 rfl hL rfl ?_
        refine f_il 0 rfl hL rfl ?_
        refine m_k1 (t62_0 (p := 2) (wv := m 61 2) (kv := m 56 (m 61 2).toNat) hn hp (by decide) (by decide) rfl (hR 61 2) jv rfl (hR 56 _)) hw27 hm27 rfl rfl rfl (m_ar so55 hw27 rfl) rfl (fun hc29 hw29 hm29 => ?_)
        refine f_if rfl (by have := sbM0_01 m (m 61 2); omega) (fun c3 => ?_) (fun c3 => ?_)
        · have c3 : ¬ (sbM0 m (m 61 2) : Int) = (0 : Int) := c3
          refine f_s [fi (0)] rfl rfl ?_
          refine f_ist [(5, fi (0)), (4, fi (2)), (3, fi (b)), (0, .ref 55), (1, fi (0)), (2, fi (0))] rfl (by decide) hL rfl (fun L46 hL46 => ?_)
          refine f_aln 3 rfl hL46 rfl ?_
          refine m_gfr so55 rfl hw29 rfl (by decide) ?_
          refine f_iln 5 rfl hL46 rfl ?_
          refine f_bipush (n := 10) rfl (by decide) ?_
          refine f_iadd rfl ?_
          refine b_eq (x := 10) (by decide) ?_
          refine f_il 1 rfl hL46 rfl ?_
          refine f_iadd rfl ?_
          refine b_eq (x := 12) (by decide) ?_
          refine f_s [fi (12), .ref 61, fi (12), .ref 61] rfl rfl ?_
          refine m_ia sa61 (m 61 12) rfl hw29 hm29 (by omega) (by omega) (by decide) rfl ?_
          refine f_il 0 rfl hL46 rfl ?_
          refine f_if rfl (by decide) (fun _ => ?_) (fun c_9 => absurd (show (0 : Int) = (0 : Int) from (by decide)) c_9)
          refine f_s [fi (0), fi (m 61 12), fi (12), .ref 61] rfl rfl ?_
          refine f_iadd rfl ?_
          refine b_w ?_
          refine m_ias sa61 rfl hw29 hm29 (by omega) (by omega) (by decide) i32w_r (fun hc30 hw30 hm30 => ?_)
          refine f_iln 2 rfl hL46 rfl ?_
          refine f_il 0 rfl hL46 rfl ?_
          refine f_if rfl (by decide) (fun _ => ?_) (fun c_9 => absurd (show (0 : Int) = (0 : Int) from (by decide)) c_9)
          refine f_s [fi (0), fi (b)] rfl rfl ?_
          refine f_iadd rfl ?_
          refine f_istn [(3, fi (b + 0)), (5, fi (0)), (4, fi (2)), (0, .ref 55), (1, fi (0)), (2, fi (0))] rfl (by decide) hL46 rfl (fun L47 hL47 => ?_)
          refine f_inc 2 [(4, fi (3)), (3, fi (b + 0)), (5, fi (0)), (0, .ref 55), (1, fi (0)), (2, fi (0))] rfl (by decide) hL47 rfl rfl (fun L48 hL48 => ?_)
          refine f_goto rfl ?_
          have e9 : wt0 m 2 2 2 = 0 := if_neg (fun z => c3 z.2)
          rw [l1_0_2_t (by omega) e9]
          exact hK3 _ hc30 (b + 0) _ hw30 hm30 (jM0_up hJ (by omega)) (hL48.sel [0, 1, 3, 4, 5] rfl)
        · have c3 : ¬ (¬ (sbM0 m (m 61 2) : Int) = (0 : Int)) := c3
          refine f_s [fi (1)] rfl rfl ?_
          refine f_goto rfl ?_
          refine f_ist [(5, fi (1)), (4, fi (2)), (3, fi (b)), (0, .ref 55), (1, fi (0)), (2, fi (0))] rfl (by decide) hL rfl (fun L49 hL49 => ?_)
          refine f_aln 3 rfl hL49 rfl ?_
          refine m_gfr so55 rfl hw29 rfl (by decide) ?_
          refine f_iln 5 rfl hL49 rfl ?_
          refine f_bipush (n := 10) rfl (by decide) ?_
          refine f_iadd rfl ?_
          refine b_eq (x := 10) (by decide) ?_
          refine f_il 1 rfl hL49 rfl ?_
          refine f_iadd rfl ?_
          refine b_eq (x := 12) (by decide) ?_
          refine f_s [fi (12), .ref 61, fi (12), .ref 61] rfl rfl ?_
          refine m_ia sa61 (m 61 12) rfl hw29 hm29 (by omega) (by omega) (by decide) rfl ?_
          refine f_il 0 rfl hL49 rfl ?_
          refine f_if rfl (by decide) (fun c_9 => absurd (show (1 : Int) = (0 : Int) from c_9) (by decide)) (fun _ => ?_)
          refine f_s [fi (1), fi (m 61 12), fi (12), .ref 61] rfl rfl ?_
          refine f_goto rfl ?_
          refine f_iadd rfl ?_
          refine b_w ?_
          refine m_ias sa61 rfl hw29 hm29 (by omega) (by omega) (by decide) i32w_r (fun hc31 hw31 hm31 => ?_)
          refine f_iln 2 rfl hL49 rfl ?_
          refine f_il 0 rfl hL49 rfl ?_
          refine f_if rfl (by decide) (fun c_9 => absurd (show (1 : Int) = (0 : Int) from c_9) (by decide)) (fun _ => ?_)
          refine f_s [fi (1), fi (b)] rfl rfl ?_
          refine f_goto rfl ?_
          refine f_iadd rfl ?_
          refine f_istn [(3, fi (b + 1)), (5, fi (1)), (4, fi (2)), (0, .ref 55), (1, fi (0)), (2, fi (0))] rfl (by decide) hL49 rfl (fun L50 hL50 => ?_)
          refine f_inc 2 [(4, fi (3)), (3, fi (b + 1)), (5, fi (1)), (0, .ref 55), (1, fi (0)), (2, fi (0))] rfl (by decide) hL50 rfl rfl (fun L51 hL51 => ?_)
          refine f_goto rfl ?_
          have e9 : wt0 m 2 2 2 = 1 := if_pos ⟨c2, by omega⟩
          rw [l1_0_2_t (by omega) e9]
          exact hK3 _ hc31 (b + 1) _ hw31 hm31 (jM0_up hJ (by omega)) (hL51.sel [0, 1, 3, 4, 5] rfl)
  have hK1 : ∀ (m : Nat → Nat → Int) (hc : ev_H) (b : Int) (L : ev_L), y_in yGw hc → gi hc = m → jM0 m → f_L L [(4, fi (1)), (3, fi (b)), (0, .ref 55), (1, fi (0)), (2, fi (0))] → x_W none (1, 0, 6, 1, 11, 3, 66, 0, 0, ev_t91) 10 L [] hc 0 0 (fun r' h' => r' = some (fi (l1_0_1 m b).2) ∧ y_in yGw h' ∧ gi h' = (l1_0_1 m b).1) := fun m hc b L hw hm hJ hL => by
    have hR := gi_R hm
    have hn := hJ.1
    have hp := hJ.2.1
    refine f_il 0 rfl hL rfl ?_
    refine f_aln 2 rfl hL rfl ?_
    refine m_gfi so55 (m 55 1) rfl hw hm rfl rfl ?_
    refine f_ic rfl (by decide) (by omega) (fun c1 => ?_) (fun c1 => ?_)
    · have c1 : (m 55 1 : Int) ≤ (1 : Int) := c1
      rw [l1_0_1_o (by omega)]
      refine f_s [fi (0)] rfl rfl ?_
      refine f_ist [(4, fi (0)), (3, fi (b)), (0, .ref 55), (1, fi (0)), (2, fi (0))] rfl (by decide) hL rfl (fun L52 hL52 => ?_)
      exact hJ0 _ hc b _ hw hm hJ (hL52.sel [0, 1, 2, 3, 4] rfl)
    · have c1 : ¬ ((m 55 1 : Int) ≤ (1 : Int)) := c1
      have jv : m 61 1 = -9 ∨ (0 ≤ m 61 1 ∧ m 61 1 < 4) := hJ.2.2 1 (by decide) (by omega)
      refine f_aln 2 rfl hL rfl ?_
      refine f_iln 3 rfl hL rfl ?_
      refine f_il 0 rfl hL rfl ?_
      refine f_aln 2 rfl hL rfl ?_
      refine m_gfr so55 rfl hw rfl (by decide) ?_
      refine f_iln 4 rfl hL rfl ?_
      refine f_bipush (n := 17) rfl (by decide) ?_
      refine f_iadd rfl ?_
      refine b_eq (x := 17) (by decide) ?_
      refine m_ia sa61 (m 61 17) rfl hw hm (by omega) (by omega) (by decide) rfl ?_
      refine m_k1 (t90_0 (p := 1) (h := m 61 17) (by decide) (by decide) (hR 61 17) (fv := m 58 1) rfl (hR 58 1) (uv := m 59 1) rfl (hR 59 1)) hw hm rfl rfl rfl (m_ar so55 hw rfl) rfl (fun hc32 hw32 hm32 => ?_)
      refine f_if rfl (bI_r _) (fun c2 => ?_) (fun c2 => ?_)
      · have c2 : (bI (decide (¬ iA (iR (m 61 16) (1)) (1) = 1 ∧ m 58 1 ≤ m 61 17 ∧ m 61 17 ≤ m 59 1)) : Int) = (0 : Int) := c2
        have c2 : ¬ (¬ iA (iR (m 61 16) (1)) (1) = 1 ∧ m 58 1 ≤ m 61 17 ∧ m 61 17 ≤ m 59 1) := bI_f c2
        refine f_s [fi (0)] rfl rfl ?_
        refine f_ist [(5, fi (0)), (4, fi (1)), (3, fi (b)), (0, .ref 55), (1, fi (0)), (2, fi (0))] rfl (by decide) hL rfl (fun L53 hL53 => ?_)
        refine f_aln 3 rfl hL53 rfl ?_
        refine m_gfr so55 rfl hw32 rfl (by decide) ?_
        refine f_iln 5 rfl hL53 rfl ?_
        refine f_bipush (n := 10) rfl (by decide) ?_
        refine f_iadd rfl ?_
        refine b_eq (x := 10) (by decide) ?_
        refine f_il 1 rfl hL53 rfl ?_
        refine f_iadd rfl ?_
        refine b_eq (x := 11) (by decide) ?_
        refine f_s [fi (11), .ref 61, fi (11), .ref 61] rfl rfl ?_
        refine m_ia sa61 (m 61 11) rfl hw32 hm32 (by omega) (by omega) (by decide) rfl ?_
        refine f_il 0 rfl hL53 rfl ?_
        refine f_if rfl (by decide) (fun _ => ?_) (fun c_9 => absurd (show (0 : Int) = (0 : Int) from (by decide)) c_9)
        refine f_s [fi (0), fi (m 61 11), fi (11), .ref 61] rfl rfl ?_
        refine f_iadd rfl ?_
        refine b_w ?_
        refine m_ias sa61 rfl hw32 hm32 (by omega) (by omega) (by decide) i32w_r (fun hc33 hw33 hm33 => ?_)
        refine f_iln 2 rfl hL53 rfl ?_
        refine f_il 0 rfl hL53 rfl ?_
        refine f_if rfl (by decide) (fun _ => ?_) (fun c_9 => absurd (show (0 : Int) = (0 : Int) from (by decide)) c_9)
        refine f_s [fi (0), fi (b)] rfl rfl ?_
        refine f_iadd rfl ?_
        refine f_istn [(3, fi (b + 0)), (5, fi (0)), (4, fi (1)), (0, .ref 55), (1, fi (0)), (2, fi (0))] rfl (by decide) hL53 rfl (fun L54 hL54 => ?_)
        refine f_inc 2 [(4, fi (2)), (3, fi (b + 0)), (5, fi (0)), (0, .ref 55), (1, fi (0)), (2, fi (0))] rfl (by decide) hL54 rfl rfl (fun L55 hL55 => ?_)
        refine f_goto rfl ?_
        have e9 : wt0 m 1 1 1 = 0 := if_neg (fun z => c2 z.1)
        rw [l1_0_1_t (by omega) e9]
        exact hK2 _ hc33 (b + 0) _ hw33 hm33 (jM0_up hJ (by omega)) (hL55.sel [0, 1, 3, 4, 5] rfl)
      · have c2 : ¬ ((bI (decide (¬ iA (iR (m 61 16) (1)) (1) = 1 ∧ m 58 1 ≤ m 61 17 ∧ m 61 17 ≤ m 59 1)) : Int) = (0 : Int)) := c2
        have c2 : ¬ iA (iR (m 61 16) (1)) (1) = 1 ∧ m 58 1 ≤ m 61 17 ∧ m 61 17 ≤ m 59 1 := bI_t c2
        refine f_aln 2 rfl hL rfl ?_
        refine f_iln 3 rfl hL rfl ?_
        refine f_il 0 rfl hL rfl ?_
        refine m_k1 (t62_0 (p := 1) (wv := m 61 1) (kv := m 56 (m 61 1).toNat) hn hp (by decide) (by decide) rfl (hR 61 1) jv rfl (hR 56 _)) hw32 hm32 rfl rfl rfl (m_ar so55 hw32 rfl) rfl (fun hc34 hw34 hm34 => ?_)
        refine f_if rfl (by have := sbM0_01 m (m 61 1); omega) (fun c3 => ?_) (fun c3 => ?_)
        · have c3 : ¬ (sbM0 m (m 61 1) : Int) = (0 : Int) := c3
          refine f_s [fi (0)] rfl rfl ?_
          refine f_ist [(5, fi (0)), (4, fi (1)), (3, fi (b)), (0, .ref 55), (1, fi (0)), (2, fi (0))] rfl (by decide) hL rfl (fun L56 hL56 => ?_)
          refine f_aln 3 rfl hL56 rfl ?_
          refine m_gfr so55 rfl hw34 rfl (by decide) ?_
          refine f_iln 5 rfl hL56 rfl ?_
          refine f_bipush (n := 10) rfl (by decide) ?_
          refine f_iadd rfl ?_
          refine b_eq (x := 10) (by decide) ?_
          refine f_il 1 rfl hL56 rfl ?_
          refine f_iadd rfl ?_
          refine b_eq (x := 11) (by decide) ?_
          refine f_s [fi (11), .ref 61, fi (11), .ref 61] rfl rfl ?_
          refine m_ia sa61 (m 61 11) rfl hw34 hm34 (by omega) (by omega) (by decide) rfl ?_
          refine f_il 0 rfl hL56 rfl ?_
          refine f_if rfl (by decide) (fun _ => ?_) (fun c_9 => absurd (show (0 : Int) = (0 : Int) from (by decide)) c_9)
          refine f_s [fi (0), fi (m 61 11), fi (11), .ref 61] rfl rfl ?_
          refine f_iadd rfl ?_
          refine b_w ?_
          refine m_ias sa61 rfl hw34 hm34 (by omega) (by omega) (by decide) i32w_r (fun hc35 hw35 hm35 => ?_)
          refine f_iln 2 rfl hL56 rfl ?_
          refine f_il 0 rfl hL56 rfl ?_
          refine f_if rfl (by decide) (fun _ => ?_) (fun c_9 => absurd (show (0 : Int) = (0 : Int) from (by decide)) c_9)
          refine f_s [fi (0), fi (b)] rfl rfl ?_
          refine f_iadd rfl ?_
          refine f_istn [(3, fi (b + 0)), (5, fi (0)), (4, fi (1)), (0, .ref 55), (1, fi (0)), (2, fi (0))] rfl (by decide) hL56 rfl (fun L57 hL57 => ?_)
          refine f_inc 2 [(4, fi (2)), (3, fi (b + 0)), (5, fi (0)), (0, .ref 55), (1, fi (0)), (2, fi (0))] rfl (by decide) hL57 rfl rfl (fun L58 hL58 => ?_)
          refine f_goto rfl ?_
          have e9 : wt0 m 1 1 1 = 0 := if_neg (fun z => c3 z.2)
          rw [l1_0_1_t (by omega) e9]
          exact hK2 _ hc35 (b + 0) _ hw35 hm35 (jM0_up hJ (by omega)) (hL58.sel [0, 1, 3, 4, 5] rfl)
        · have c3 : ¬ (¬ (sbM0 m (m 61 1) : Int) = (0 : Int)) := c3
          refine f_s [fi (1)] rfl rfl ?_
          refine f_goto rfl ?_
          refine f_ist [(5, fi (1)), (4, fi (1)), (3, fi (b)), (0, .ref 55), (1, fi (0)), (2, fi (0))] rfl (by decide) hL rfl (fun L59 hL59 => ?_)
          refine f_aln 3 rfl hL59 rfl ?_
          refine m_gfr so55 rfl hw34 rfl (by decide) ?_
          refine f_iln 5 rfl hL59 rfl ?_
          refine f_bipush (n := 10) rfl (by decide) ?_
          refine f_iadd rfl ?_
          refine b_eq (x := 10) (by decide) ?_
          refine f_il 1 rfl hL59 rfl ?_
          refine f_iadd rfl ?_
          refine b_eq (x := 11) (by decide) ?_
          refine f_s [fi (11), .ref 61, fi (11), .ref 61] rfl rfl ?_
          refine m_ia sa61 (m 61 11) rfl hw34 hm34 (by omega) (by omega) (by decide) rfl ?_
          refine f_il 0 rfl hL59 rfl ?_
          refine f_if rfl (by decide) (fun c_9 => absurd (show (1 : Int) = (0 : Int) from c_9) (by decide)) (fun _ => ?_)
          refine f_s [fi (1), fi (m 61 11), fi (11), .ref 61] rfl rfl ?_
          refine f_goto rfl ?_
          refine f_iadd rfl ?_
          refine b_w ?_
          refine m_ias sa61 rfl hw34 hm34 (by omega) (by omega) (by decide) i32w_r (fun hc36 hw36 hm36 => ?_)
          refine f_iln 2 rfl hL59 rfl ?_
          refine f_il 0 rfl hL59 rfl ?_
          refine f_if rfl (by decide) (fun c_9 => absurd (show (1 : Int) = (0 : Int) from c_9) (by decide)) (fun _ => ?_)
          refine f_s [fi (1), fi (b)] rfl rfl ?_
          refine f_goto rfl ?_
          refine f_iadd rfl ?_
          refine f_istn [(3, fi (b + 1)), (5, fi (1)), (4, fi (1)), (0, .ref 55), (1, fi (0)), (2, fi (0))] rfl (by decide) hL59 rfl (fun L60 hL60 => ?_)
          refine f_inc 2 [(4, fi (2)), (3, fi (b + 1)), (5, fi (1)), (0, .ref 55), (1, fi (0)), (2, fi (0))] rfl (by decide) hL60 rfl rfl (fun L61 hL61 => ?_)
          refine f_goto rfl ?_
          have e9 : wt0 m 1 1 1 = 1 := if_pos ⟨c2, by omega⟩
          rw [l1_0_1_t (by omega) e9]
          exact hK2 _ hc36 (b + 1) _ hw36 hm36 (jM0_up hJ (by omega)) (hL61.sel [0, 1, 3, 4, 5] rfl)
  have hK0 : ∀ (m : Nat → Nat → Int) (hc : ev_H) (b : Int) (L : ev_L), y_in yGw hc → gi hc = m → jM0 m → f_L L [(4, fi (0)), (3, fi (b)), (0, .ref 55), (1, fi (0)), (2, fi (0))] → x_W none (1, 0, 6, 1, 11, 3, 66, 0, 0, ev_t91) 10 L [] hc 0 0 (fun r' h' => r' = some (fi (l1_0_0 m b).2) ∧ y_in yGw h' ∧ gi h' = (l1_0_0 m b).1) := fun m hc b L hw hm hJ hL => by
    have hR := gi_R hm
    have hn := hJ.1
    have hp := hJ.2.1
    refine f_il 0 rfl hL rfl ?_
    refine f_aln 2 rfl hL rfl ?_
    refine m_gfi so55 (m 55 1) rfl hw hm rfl rfl ?_
    refine f_ic rfl (by decide) (by omega) (fun c1 => ?_) (fun c1 => ?_)
    · have c1 : (m 55 1 : Int) ≤ (0 : Int) := c1
      rw [l1_0_0_o (by omega)]
      refine f_s [fi (0)] rfl rfl ?_
      refine f_ist [(4, fi (0)), (3, fi (b)), (0, .ref 55), (1, fi (0)), (2, fi (0))] rfl (by decide) hL rfl (fun L62 hL62 => ?_)
      exact hJ0 _ hc b _ hw hm hJ (hL62.sel [0, 1, 2, 3, 4] rfl)
    · have c1 : ¬ ((m 55 1 : Int) ≤ (0 : Int)) := c1
      have jv : m 61 0 = -9 ∨ (0 ≤ m 61 0 ∧ m 61 0 < 4) := hJ.2.2 0 (by decide) (by omega)
      refine f_aln 2 rfl hL rfl ?_
      refine f_iln 3 rfl hL rfl ?_
      refine f_il 0 rfl hL rfl ?_
      refine f_aln 2 rfl hL rfl ?_
      refine m_gfr so55 rfl hw rfl (by decide) ?_
      refine f_iln 4 rfl hL rfl ?_
      refine f_bipush (n := 17) rfl (by decide) ?_
      refine f_iadd rfl ?_
      refine b_eq (x := 17) (by decide) ?_
      refine m_ia sa61 (m 61 17) rfl hw hm (by omega) (by omega) (by decide) rfl ?_
      refine m_k1 (t90_0 (p := 0) (h := m 61 17) (by decide) (by decide) (hR 61 17) (fv := m 58 0) rfl (hR 58 0) (uv := m 59 0) rfl (hR 59 0)) hw hm rfl rfl rfl (m_ar so55 hw rfl) rfl (fun hc37 hw37 hm37 => ?_)
      refine f_if rfl (bI_r _) (fun c2 => ?_) (fun c2 => ?_)
      · have c2 : (bI (decide (¬ iA (iR (m 61 16) (0)) (1) = 1 ∧ m 58 0 ≤ m 61 17 ∧ m 61 17 ≤ m 59 0)) : Int) = (0 : Int) := c2
        have c2 : ¬ (¬ iA (iR (m 61 16) (0)) (1) = 1 ∧ m 58 0 ≤ m 61 17 ∧ m 61 17 ≤ m 59 0) := bI_f c2
        refine f_s [fi (0)] rfl rfl ?_
        refine f_ist [(5, fi (0)), (4, fi (0)), (3, fi (b)), (0, .ref 55), (1, fi (0)), (2, fi (0))] rfl (by decide) hL rfl (fun L63 hL63 => ?_)
        refine f_aln 3 rfl hL63 rfl ?_
        refine m_gfr so55 rfl hw37 rfl (by decide) ?_
        refine f_iln 5 rfl hL63 rfl ?_
        refine f_bipush (n := 10) rfl (by decide) ?_
        refine f_iadd rfl ?_
        refine b_eq (x := 10) (by decide) ?_
        refine f_il 1 rfl hL63 rfl ?_
        refine f_iadd rfl ?_
        refine b_eq (x := 10) (by decide) ?_
        refine f_s [fi (10), .ref 61, fi (10), .ref 61] rfl rfl ?_
        refine m_ia sa61 (m 61 10) rfl hw37 hm37 (by omega) (by omega) (by decide) rfl ?_
        refine f_il 0 rfl hL63 rfl ?_
        refine f_if rfl (by decide) (fun _ => ?_) (fun c_9 => absurd (show (0 : Int) = (0 : Int) from (by decide)) c_9)
        refine f_s [fi (0), fi (m 61 10), fi (10), .ref 61] rfl rfl ?_
        refine f_iadd rfl ?_
        refine b_w ?_
        refine m_ias sa61 rfl hw37 hm37 (by omega) (by omega) (by decide) i32w_r (fun hc38 hw38 hm38 => ?_)
        refine f_iln 2 rfl hL63 rfl ?_
        refine f_il 0 rfl hL63 rfl ?_
        refine f_if rfl (by decide) (fun _ => ?_) (fun c_9 => absurd (show (0 : Int) = (0 : Int) from (by decide)) c_9)
        refine f_s [fi (0), fi (b)] rfl rfl ?_
        refine f_iadd rfl ?_
        refine f_istn [(3, fi (b + 0)), (5, fi (0)), (4, fi (0)), (0, .ref 55), (1, fi (0)), (2, fi (0))] rfl (by decide) hL63 rfl (fun L64 hL64 => ?_)
        refine f_inc 2 [(4, fi (1)), (3, fi (b + 0)), (5, fi (0)), (0, .ref 55), (1, fi (0)), (2, fi (0))] rfl (by decide) hL64 rfl rfl (fun L65 hL65 => ?_)
        refine f_goto rfl ?_
        have e9 : wt0 m 0 0 0 = 0 := if_neg (fun z => c2 z.1)
        rw [l1_0_0_t (by omega) e9]
        exact hK1 _ hc38 (b + 0) _ hw38 hm38 (jM0_up hJ (by omega)) (hL65.sel [0, 1, 3, 4, 5] rfl)
      · have c2 : ¬ ((bI (decide (¬ iA (iR (m 61 16) (0)) (1) = 1 ∧ m 58 0 ≤ m 61 17 ∧ m 61 17 ≤ m 59 0)) : Int) = (0 : Int)) := c2
        have c2 : ¬ iA (iR (m 61 16) (0)) (1) = 1 ∧ m 58 0 ≤ m 61 17 ∧ m 61 17 ≤ m 59 0 := bI_t c2
        refine f_aln 2 rfl hL rfl ?_
        refine f_iln 3 rfl hL rfl ?_
        refine f_il 0 rfl hL rfl ?_
        refine m_k1 (t62_0 (p := 0) (wv := m 61 0) (kv := m 56 (m 61 0).toNat) hn hp (by decide) (by decide) rfl (hR 61 0) jv rfl (hR 56 _)) hw37 hm37 rfl rfl rfl (m_ar so55 hw37 rfl) rfl (fun hc39 hw39 hm39 => ?_)
        refine f_if rfl (by have := sbM0_01 m (m 61 0); omega) (fun c3 => ?_) (fun c3 => ?_)
        · have c3 : ¬ (sbM0 m (m 61 0) : Int) = (0 : Int) := c3
          refine f_s [fi (0)] rfl rfl ?_
          refine f_ist [(5, fi (0)), (4, fi (0)), (3, fi (b)), (0, .ref 55), (1, fi (0)), (2, fi (0))] rfl (by decide) hL rfl (fun L66 hL66 => ?_)
          refine f_aln 3 rfl hL66 rfl ?_
          refine m_gfr so55 rfl hw39 rfl (by decide) ?_
          refine f_iln 5 rfl hL66 rfl ?_
          refine f_bipush (n := 10) rfl (by decide) ?_
          refine f_iadd rfl ?_
          refine b_eq (x := 10) (by decide) ?_
          refine f_il 1 rfl hL66 rfl ?_
          refine f_iadd rfl ?_
          refine b_eq (x := 10) (by decide) ?_
          refine f_s [fi (10), .ref 61, fi (10), .ref 61] rfl rfl ?_
          refine m_ia sa61 (m 61 10) rfl hw39 hm39 (by omega) (by omega) (by decide) rfl ?_
          refine f_il 0 rfl hL66 rfl ?_
          refine f_if rfl (by decide) (fun _ => ?_) (fun c_9 => absurd (show (0 : Int) = (0 : Int) from (by decide)) c_9)
          refine f_s [fi (0), fi (m 61 10), fi (10), .ref 61] rfl rfl ?_
          refine f_iadd rfl ?_
          refine b_w ?_
          refine m_ias sa61 rfl hw39 hm39 (by omega) (by omega) (by decide) i32w_r (fun hc40 hw40 hm40 => ?_)
          refine f_iln 2 rfl hL66 rfl ?_
          refine f_il 0 rfl hL66 rfl ?_
          refine f_if rfl (by decide) (fun _ => ?_) (fun c_9 => absurd (show (0 : Int) = (0 : Int) from (by decide)) c_9)
          refine f_s [fi (0), fi (b)] rfl rfl ?_
          refine f_iadd rfl ?_
          refine f_istn [(3, fi (b + 0)), (5, fi (0)), (4, fi (0)), (0, .ref 55), (1, fi (0)), (2, fi (0))] rfl (by decide) hL66 rfl (fun L67 hL67 => ?_)
          refine f_inc 2 [(4, fi (1)), (3, fi (b + 0)), (5, fi (0)), (0, .ref 55), (1, fi (0)), (2, fi (0))] rfl (by decide) hL67 rfl rfl (fun L68 hL68 => ?_)
          refine f_goto rfl ?_
          have e9 : wt0 m 0 0 0 = 0 := if_neg (fun z => c3 z.2)
          rw [l1_0_0_t (by omega) e9]
          exact hK1 _ hc40 (b + 0) _ hw40 hm40 (jM0_up hJ (by omega)) (hL68.sel [0, 1, 3, 4, 5] rfl)
        · have c3 : ¬ (¬ (sbM0 m (m 61 0) : Int) = (0 : Int)) := c3
          refine f_s [fi (1)] rfl rfl ?_
          refine f_goto rfl ?_
          refine f_ist [(5, fi (1)), (4, fi (0)), (3, fi (b)), (0, .ref 55), (1, fi (0)), (2, fi (0))] rfl (by decide) hL rfl (fun L69 hL69 => ?_)
          refine f_aln 3 rfl hL69 rfl ?_
          refine m_gfr so55 rfl hw39 rfl (by decide) ?_
          refine f_iln 5 rfl hL69 rfl ?_
          refine f_bipush (n := 10) rfl (by decide) ?_
          refine f_iadd rfl ?_
          refine b_eq (x := 10) (by decide) ?_
          refine f_il 1 rfl hL69 rfl ?_
          refine f_iadd rfl ?_
          refine b_eq (x := 10) (by decide) ?_
          refine f_s [fi (10), .ref 61, fi (10), .ref 61] rfl rfl ?_
          refine m_ia sa61 (m 61 10) rfl hw39 hm39 (by omega) (by omega) (by decide) rfl ?_
          refine f_il 0 rfl hL69 rfl ?_
          refine f_if rfl (by decide) (fun c_9 => absurd (show (1 : Int) = (0 : Int) from c_9) (by decide)) (fun _ => ?_)
          refine f_s [fi (1), fi (m 61 10), fi (10), .ref 61] rfl rfl ?_
          refine f_goto rfl ?_
          refine f_iadd rfl ?_
          refine b_w ?_
          refine m_ias sa61 rfl hw39 hm39 (by omega) (by omega) (by decide) i32w_r (fun hc41 hw41 hm41 => ?_)
          refine f_iln 2 rfl hL69 rfl ?_
          refine f_il 0 rfl hL69 rfl ?_
          refine f_if rfl (by decide) (fun c_9 => absurd (show (1 : Int) = (0 : Int) from c_9) (by decide)) (fun _ => ?_)
          refine f_s [fi (1), fi (b)] rfl rfl ?_
          refine f_goto rfl ?_
          refine f_iadd rfl ?_
          refine f_istn [(3, fi (b + 1)), (5, fi (1)), (4, fi (0)), (0, .ref 55), (1, fi (0)), (2, fi (0))] rfl (by decide) hL69 rfl (fun L70 hL70 => ?_)
          refine f_inc 2 [(4, fi (1)), (3, fi (b + 1)), (5, fi (1)), (0, .ref 55), (1, fi (0)), (2, fi (0))] rfl (by decide) hL70 rfl rfl (fun L71 hL71 => ?_)
          refine f_goto rfl ?_
          have e9 : wt0 m 0 0 0 = 1 := if_pos ⟨c2, by omega⟩
          rw [l1_0_0_t (by omega) e9]
          exact hK1 _ hc41 (b + 1) _ hw41 hm41 (jM0_up hJ (by omega)) (hL71.sel [0, 1, 3, 4, 5] rfl)
  refine f_bipush (n := 18) rfl (by decide) ?_
  refine f_iln 1 rfl hL rfl ?_
  refine f_imul rfl ?_
  refine b_eq (x := 0) (by decide) ?_
  refine f_istn [(2, fi (0)), (0, .ref 55), (1, fi (0))] rfl (by decide) hL rfl (fun L72 hL72 => ?_)
  refine f_s [fi (0)] rfl rfl ?_
  refine f_istn [(3, fi (0)), (2, fi (0)), (0, .ref 55), (1, fi (0))] rfl (by decide) hL72 rfl (fun L73 hL73 => ?_)
  refine f_s [fi (0)] rfl rfl ?_
  refine f_ist [(4, fi (0)), (3, fi (0)), (2, fi (0)), (0, .ref 55), (1, fi (0))] rfl (by decide) hL73 rfl (fun L74 hL74 => ?_)
  exact hK0 m hc 0 _ hw hm hJ (hL74.sel [0, 1, 3, 4, 2] rfl))
def aw1 (m : Nat → Nat → Int) (i : Nat) (p b : Int) : Int := if p < m 55 1 then b + m 61 i else b
theorem t189_0 {m : Nat → Nat → Int} (hp : 0 ≤ m 55 1 ∧ m 55 1 ≤ 5) : h_M 189 [.ref 55, fi (0)] m (some (fi (aw1 m 14 4 (aw1 m 13 3 (aw1 m 12 2 (aw1 m 11 1 (aw1 m 10 0 (0)))))))) m := h_M_of (R := ev_r189) rfl (fun hc hw hm => by
  have hL : f_L (lv_args 0 [.ref 55, fi (0)]) [(0, .ref 55), (1, fi (0))] := f_L_of rfl
  generalize lv_args 0 [.ref 55, fi (0)] = L at hL
  show x_W none (1, 0, 4, 1, 11, 0, 0, 0, 0, ev_t189) 0 L [] hc 0 0 _
  have hR := gi_R hm
  have hK5 : ∀ (hc : ev_H) (b : Int) (L : ev_L), y_in yGw hc → gi hc = m → f_L L [(3, fi (5)), (2, fi (b)), (0, .ref 55), (1, fi (0))] → x_W none (1, 0, 4, 1, 11, 0, 0, 0, 0, ev_t189) 4 L [] hc 0 0 (fun r' h' => r' = some (fi (b)) ∧ y_in yGw h' ∧ gi h' = m) := fun hc b L hw hm hL => by
    refine f_iln 0 rfl hL rfl ?_
    refine f_aln 2 rfl hL rfl ?_
    refine m_gfi so55 (m 55 1) rfl hw hm rfl rfl ?_
    refine f_ic rfl (by decide) (by omega) (fun _ => ?_) (fun c_9 => absurd (show (m 55 1 : Int) ≤ (5 : Int) from (by omega)) c_9)
    refine f_iln 1 rfl hL rfl ?_
    exact f_ret1 rfl ⟨rfl, hw, hm⟩
  have hK4 : ∀ (hc : ev_H) (b : Int) (L : ev_L), y_in yGw hc → gi hc = m → f_L L [(3, fi (4)), (2, fi (b)), (0, .ref 55), (1, fi (0))] → x_W none (1, 0, 4, 1, 11, 0, 0, 0, 0, ev_t189) 4 L [] hc 0 0 (fun r' h' => r' = some (fi (aw1 m 14 4 (b))) ∧ y_in yGw h' ∧ gi h' = m) := fun hc b L hw hm hL => by
    refine f_iln 0 rfl hL rfl ?_
    refine f_aln 2 rfl hL rfl ?_
    refine m_gfi so55 (m 55 1) rfl hw hm rfl rfl ?_
    refine f_ic rfl (by decide) (by omega) (fun c1 => ?_) (fun c1 => ?_)
    · have c1 : (m 55 1 : Int) ≤ (4 : Int) := c1
      have e8 : aw1 m 14 4 (b) = b := by unfold aw1; rw [if_neg (by omega)]
      rw [e8]
      refine f_iln 1 rfl hL rfl ?_
      exact f_ret1 rfl ⟨rfl, hw, hm⟩
    · have c1 : ¬ ((m 55 1 : Int) ≤ (4 : Int)) := c1
      refine f_iln 1 rfl hL rfl ?_
      refine f_aln 2 rfl hL rfl ?_
      refine m_gfr so55 rfl hw rfl (by decide) ?_
      refine f_bipush (n := 18) rfl (by decide) ?_
      refine f_iln 3 rfl hL rfl ?_
      refine f_imul rfl ?_
      refine b_eq (x := 0) (by decide) ?_
      refine f_bipush (n := 10) rfl (by decide) ?_
      refine f_iadd rfl ?_
      refine b_eq (x := 10) (by decide) ?_
      refine f_iln 0 rfl hL rfl ?_
      refine f_iadd rfl ?_
      refine b_eq (x := 14) (by decide) ?_
      refine m_ia sa61 (m 61 14) rfl hw hm (by omega) (by omega) (by decide) rfl ?_
      refine f_iadd rfl ?_
      refine f_istn [(2, fi (b + (m 61 14))), (3, fi (4)), (0, .ref 55), (1, fi (0))] rfl (by decide) hL rfl (fun L1 hL1 => ?_)
      refine f_inc 1 [(3, fi (5)), (2, fi (b + (m 61 14))), (0, .ref 55), (1, fi (0))] rfl (by decide) hL1 rfl rfl (fun L2 hL2 => ?_)
      refine f_goto rfl ?_
      have e9 : aw1 m 14 4 b = b + (m 61 14) := if_pos (by omega)
      rw [e9]
      exact hK5 hc _ _ hw hm (hL2.sel [0, 1, 2, 3] rfl)
  have hK3 : ∀ (hc : ev_H) (b : Int) (L : ev_L), y_in yGw hc → gi hc = m → f_L L [(3, fi (3)), (2, fi (b)), (0, .ref 55), (1, fi (0))] → x_W none (1, 0, 4, 1, 11, 0, 0, 0, 0, ev_t189) 4 L [] hc 0 0 (fun r' h' => r' = some (fi (aw1 m 14 4 (aw1 m 13 3 (b)))) ∧ y_in yGw h' ∧ gi h' = m) := fun hc b L hw hm hL => by
    refine f_iln 0 rfl hL rfl ?_
    refine f_aln 2 rfl hL rfl ?_
    refine m_gfi so55 (m 55 1) rfl hw hm rfl rfl ?_
    refine f_ic rfl (by decide) (by omega) (fun c1 => ?_) (fun c1 => ?_)
    · have c1 : (m 55 1 : Int) ≤ (3 : Int) := c1
      have e8 : aw1 m 14 4 (aw1 m 13 3 (b)) = b := by unfold aw1; rw [if_neg (by omega), if_neg (by omega)]
      rw [e8]
      refine f_iln 1 rfl hL rfl ?_
      exact f_ret1 rfl ⟨rfl, hw, hm⟩
    · have c1 : ¬ ((m 55 1 : Int) ≤ (3 : Int)) := c1
      refine f_iln 1 rfl hL rfl ?_
      refine f_aln 2 rfl hL rfl ?_
      refine m_gfr so55 rfl hw rfl (by decide) ?_
      refine f_bipush (n := 18) rfl (by decide) ?_
      refine f_iln 3 rfl hL rfl ?_
      refine f_imul rfl ?_
      refine b_eq (x := 0) (by decide) ?_
      refine f_bipush (n := 10) rfl (by decide) ?_
      refine f_iadd rfl ?_
      refine b_eq (x := 10) (by decide) ?_
      refine f_iln 0 rfl hL rfl ?_
      refine f_iadd rfl ?_
      refine b_eq (x := 13) (by decide) ?_
      refine m_ia sa61 (m 61 13) rfl hw hm (by omega) (by omega) (by decide) rfl ?_
      refine f_iadd rfl ?_
      refine f_istn [(2, fi (b + (m 61 13))), (3, fi (3)), (0, .ref 55), (1, fi (0))] rfl (by decide) hL rfl (fun L3 hL3 => ?_)
      refine f_inc 1 [(3, fi (4)), (2, fi (b + (m 61 13))), (0, .ref 55), (1, fi (0))] rfl (by decide) hL3 rfl rfl (fun L4 hL4 => ?_)
      refine f_goto rfl ?_
      have e9 : aw1 m 13 3 b = b + (m 61 13) := if_pos (by omega)
      rw [e9]
      exact hK4 hc _ _ hw hm (hL4.sel [0, 1, 2, 3] rfl)
  have hK2 : ∀ (hc : ev_H) (b : Int) (L : ev_L), y_in yGw hc → gi hc = m → f_L L [(3, fi (2)), (2, fi (b)), (0, .ref 55), (1, fi (0))] → x_W none (1, 0, 4, 1, 11, 0, 0, 0, 0, ev_t189) 4 L [] hc 0 0 (fun r' h' => r' = some (fi (aw1 m 14 4 (aw1 m 13 3 (aw1 m 12 2 (b))))) ∧ y_in yGw h' ∧ gi h' = m) := fun hc b L hw hm hL => by
    refine f_iln 0 rfl hL rfl ?_
    refine f_aln 2 rfl hL rfl ?_
    refine m_gfi so55 (m 55 1) rfl hw hm rfl rfl ?_
    refine f_ic rfl (by decide) (by omega) (fun c1 => ?_) (fun c1 => ?_)
    · have c1 : (m 55 1 : Int) ≤ (2 : Int) := c1
      have e8 : aw1 m 14 4 (aw1 m 13 3 (aw1 m 12 2 (b))) = b := by unfold aw1; rw [if_neg (by omega), if_neg (by omega), if_neg (by omega)]
      rw [e8]
      refine f_iln 1 rfl hL rfl ?_
      exact f_ret1 rfl ⟨rfl, hw, hm⟩
    · have c1 : ¬ ((m 55 1 : Int) ≤ (2 : Int)) := c1
      refine f_iln 1 rfl hL rfl ?_
      refine f_aln 2 rfl hL rfl ?_
      refine m_gfr so55 rfl hw rfl (by decide) ?_
      refine f_bipush (n := 18) rfl (by decide) ?_
      refine f_iln 3 rfl hL rfl ?_
      refine f_imul rfl ?_
      refine b_eq (x := 0) (by decide) ?_
      refine f_bipush (n := 10) rfl (by decide) ?_
      refine f_iadd rfl ?_
      refine b_eq (x := 10) (by decide) ?_
      refine f_iln 0 rfl hL rfl ?_
      refine f_iadd rfl ?_
      refine b_eq (x := 12) (by decide) ?_
      refine m_ia sa61 (m 61 12) rfl hw hm (by omega) (by omega) (by decide) rfl ?_
      refine f_iadd rfl ?_
      refine f_istn [(2, fi (b + (m 61 12))), (3, fi (2)), (0, .ref 55), (1, fi (0))] rfl (by decide) hL rfl (fun L5 hL5 => ?_)
      refine f_inc 1 [(3, fi (3)), (2, fi (b + (m 61 12))), (0, .ref 55), (1, fi (0))] rfl (by decide) hL5 rfl rfl (fun L6 hL6 => ?_)
      refine f_goto rfl ?_
      have e9 : aw1 m 12 2 b = b + (m 61 12) := if_pos (by omega)
      rw [e9]
      exact hK3 hc _ _ hw hm (hL6.sel [0, 1, 2, 3] rfl)
  have hK1 : ∀ (hc : ev_H) (b : Int) (L : ev_L), y_in yGw hc → gi hc = m → f_L L [(3, fi (1)), (2, fi (b)), (0, .ref 55), (1, fi (0))] → x_W none (1, 0, 4, 1, 11, 0, 0, 0, 0, ev_t189) 4 L [] hc 0 0 (fun r' h' => r' = some (fi (aw1 m 14 4 (aw1 m 13 3 (aw1 m 12 2 (aw1 m 11 1 (b)))))) ∧ y_in yGw h' ∧ gi h' = m) := fun hc b L hw hm hL => by
    refine f_iln 0 rfl hL rfl ?_
    refine f_aln 2 rfl hL rfl ?_
    refine m_gfi so55 (m 55 1) rfl hw hm rfl rfl ?_
    refine f_ic rfl (by decide) (by omega) (fun c1 => ?_) (fun c1 => ?_)
    · have c1 : (m 55 1 : Int) ≤ (1 : Int) := c1
      have e8 : aw1 m 14 4 (aw1 m 13 3 (aw1 m 12 2 (aw1 m 11 1 (b)))) = b := by unfold aw1; rw [if_neg (by omega), if_neg (by omega), if_neg (by omega), if_neg (by omega)]
      rw [e8]
      refine f_iln 1 rfl hL rfl ?_
      exact f_ret1 rfl ⟨rfl, hw, hm⟩
    · have c1 : ¬ ((m 55 1 : Int) ≤ (1 : Int)) := c1
      refine f_iln 1 rfl hL rfl ?_
      refine f_aln 2 rfl hL rfl ?_
      refine m_gfr so55 rfl hw rfl (by decide) ?_
      refine f_bipush (n := 18) rfl (by decide) ?_
      refine f_iln 3 rfl hL rfl ?_
      refine f_imul rfl ?_
      refine b_eq (x := 0) (by decide) ?_
      refine f_bipush (n := 10) rfl (by decide) ?_
      refine f_iadd rfl ?_
      refine b_eq (x := 10) (by decide) ?_
      refine f_iln 0 rfl hL rfl ?_
      refine f_iadd rfl ?_
      refine b_eq (x := 11) (by decide) ?_
      refine m_ia sa61 (m 61 11) rfl hw hm (by omega) (by omega) (by decide) rfl ?_
      refine f_iadd rfl ?_
      refine f_istn [(2, fi (b + (m 61 11))), (3, fi (1)), (0, .ref 55), (1, fi (0))] rfl (by decide) hL rfl (fun L7 hL7 => ?_)
      refine f_inc 1 [(3, fi (2)), (2, fi (b + (m 61 11))), (0, .ref 55), (1, fi (0))] rfl (by decide) hL7 rfl rfl (fun L8 hL8 => ?_)
      refine f_goto rfl ?_
      have e9 : aw1 m 11 1 b = b + (m 61 11) := if_pos (by omega)
      rw [e9]
      exact hK2 hc _ _ hw hm (hL8.sel [0, 1, 2, 3] rfl)
  have hK0 : ∀ (hc : ev_H) (b : Int) (L : ev_L), y_in yGw hc → gi hc = m → f_L L [(3, fi (0)), (2, fi (b)), (0, .ref 55), (1, fi (0))] → x_W none (1, 0, 4, 1, 11, 0, 0, 0, 0, ev_t189) 4 L [] hc 0 0 (fun r' h' => r' = some (fi (aw1 m 14 4 (aw1 m 13 3 (aw1 m 12 2 (aw1 m 11 1 (aw1 m 10 0 (b))))))) ∧ y_in yGw h' ∧ gi h' = m) := fun hc b L hw hm hL => by
    refine f_iln 0 rfl hL rfl ?_
    refine f_aln 2 rfl hL rfl ?_
    refine m_gfi so55 (m 55 1) rfl hw hm rfl rfl ?_
    refine f_ic rfl (by decide) (by omega) (fun c1 => ?_) (fun c1 => ?_)
    · have c1 : (m 55 1 : Int) ≤ (0 : Int) := c1
      have e8 : aw1 m 14 4 (aw1 m 13 3 (aw1 m 12 2 (aw1 m 11 1 (aw1 m 10 0 (b))))) = b := by unfold aw1; rw [if_neg (by omega), if_neg (by omega), if_neg (by omega), if_neg (by omega), if_neg (by omega)]
      rw [e8]
      refine f_iln 1 rfl hL rfl ?_
      exact f_ret1 rfl ⟨rfl, hw, hm⟩
    · have c1 : ¬ ((m 55 1 : Int) ≤ (0 : Int)) := c1
      refine f_iln 1 rfl hL rfl ?_
      refine f_aln 2 rfl hL rfl ?_
      refine m_gfr so55 rfl hw rfl (by decide) ?_
      refine f_bipush (n := 18) rfl (by decide) ?_
      refine f_iln 3 rfl hL rfl ?_
      refine f_imul rfl ?_
      refine b_eq (x := 0) (by decide) ?_
      refine f_bipush (n := 10) rfl (by decide) ?_
      refine f_iadd rfl ?_
      refine b_eq (x := 10) (by decide) ?_
      refine f_iln 0 rfl hL rfl ?_
      refine f_iadd rfl ?_
      refine b_eq (x := 10) (by decide) ?_
      refine m_ia sa61 (m 61 10) rfl hw hm (by omega) (by omega) (by decide) rfl ?_
      refine f_iadd rfl ?_
      refine f_istn [(2, fi (b + (m 61 10))), (3, fi (0)), (0, .ref 55), (1, fi (0))] rfl (by decide) hL rfl (fun L9 hL9 => ?_)
      refine f_inc 1 [(3, fi (1)), (2, fi (b + (m 61 10))), (0, .ref 55), (1, fi (0))] rfl (by decide) hL9 rfl rfl (fun L10 hL10 => ?_)
      refine f_goto rfl ?_
      have e9 : aw1 m 10 0 b = b + (m 61 10) := if_pos (by omega)
      rw [e9]
      exact hK1 hc _ _ hw hm (hL10.sel [0, 1, 2, 3] rfl)
  refine f_s [fi (0)] rfl rfl ?_
  refine f_istn [(2, fi (0)), (0, .ref 55), (1, fi (0))] rfl (by decide) hL rfl (fun L11 hL11 => ?_)
  refine f_s [fi (0)] rfl rfl ?_
  refine f_istn [(3, fi (0)), (2, fi (0)), (0, .ref 55), (1, fi (0))] rfl (by decide) hL11 rfl (fun L12 hL12 => ?_)
  exact hK0 hc 0 _ hw hm (hL12.sel [0, 1, 2, 3] rfl))
def jM18 (m : Nat → Nat → Int) : Prop := (0 ≤ m 55 0 ∧ m 55 0 ≤ 4) ∧ (0 ≤ m 55 1 ∧ m 55 1 ≤ 5) ∧ ∀ i : Nat, i < 5 → (i : Int) < m 55 1 → (m 61 (18 + i) = -9 ∨ (0 ≤ m 61 (18 + i) ∧ m 61 (18 + i) < 4))
theorem jM18_up {m : Nat → Nat → Int} (h : jM18 m) {a : Nat} {v : Int} (ha : a < 18 ∨ 23 ≤ a) : jM18 (up m 61 a v) := by
  refine ⟨by rw [up_nc (by decide)]; exact h.1, by rw [up_nc (by decide)]; exact h.2.1, fun i hi hp => ?_⟩
  rw [up_nc (by decide)] at hp
  rw [up_ne (by omega)]
  exact h.2.2 i hi hp
theorem jM18_n {m : Nat → Nat → Int} (h : jM18 m) {a : Nat} : jM18 (up m 61 a (-9)) := by
  refine ⟨by rw [up_nc (by decide)]; exact h.1, by rw [up_nc (by decide)]; exact h.2.1, fun i hi hp => ?_⟩
  rw [up_nc (by decide)] at hp
  by_cases e : 18 + i = a
  · rw [e, up_eq]; exact Or.inl rfl
  · rw [up_ne (fun z => e z.2)]
    exact h.2.2 i hi hp
def wt18 (m : Nat → Nat → Int) (x : Int) (i j : Nat) : Int := if (¬ iA (iR (m 61 34) x) 1 = 1 ∧ m 58 i ≤ m 61 35 ∧ m 61 35 ≤ m 59 i) ∧ sbM18 m (m 61 j) = 0 then 1 else 0
def pw18 (m : Nat → Nat → Int) (j l : Nat) : Nat → Nat → Int := if m 61 j = -9 then m else if m 56 (m 61 j).toNat = 3 ∧ 2 < i32w (m 61 l + 1) then up (up (up m 61 l (i32w (m 61 l + 1))) 61 j (-9)) 61 l 0 else up m 61 l (i32w (m 61 l + 1))
def pf18 (m : Nat → Nat → Int) : Nat → Nat → Int := up m 61 35 (i32w (m 61 35 + 1))
def l2_18_5 (m : Nat → Nat → Int) : Nat → Nat → Int := pf18 m
def l2_18_4 (m : Nat → Nat → Int) : Nat → Nat → Int := if 4 < m 55 1 then l2_18_5 (pw18 m 22 27) else pf18 m
theorem l2_18_4_o {m : Nat → Nat → Int} (h : ¬ 4 < m 55 1) : l2_18_4 m = pf18 m := if_neg h
theorem l2_18_4_t {m : Nat → Nat → Int} (h : 4 < m 55 1) {m' : Nat → Nat → Int} (e : pw18 m 22 27 = m') : l2_18_4 m = l2_18_5 m' := (if_pos h).trans (by rw [e])
def l2_18_3 (m : Nat → Nat → Int) : Nat → Nat → Int := if 3 < m 55 1 then l2_18_4 (pw18 m 21 26) else pf18 m
theorem l2_18_3_o {m : Nat → Nat → Int} (h : ¬ 3 < m 55 1) : l2_18_3 m = pf18 m := if_neg h
theorem l2_18_3_t {m : Nat → Nat → Int} (h : 3 < m 55 1) {m' : Nat → Nat → Int} (e : pw18 m 21 26 = m') : l2_18_3 m = l2_18_4 m' := (if_pos h).trans (by rw [e])
def l2_18_2 (m : Nat → Nat → Int) : Nat → Nat → Int := if 2 < m 55 1 then l2_18_3 (pw18 m 20 25) else pf18 m
theorem l2_18_2_o {m : Nat → Nat → Int} (h : ¬ 2 < m 55 1) : l2_18_2 m = pf18 m := if_neg h
theorem l2_18_2_t {m : Nat → Nat → Int} (h : 2 < m 55 1) {m' : Nat → Nat → Int} (e : pw18 m 20 25 = m') : l2_18_2 m = l2_18_3 m' := (if_pos h).trans (by rw [e])
def l2_18_1 (m : Nat → Nat → Int) : Nat → Nat → Int := if 1 < m 55 1 then l2_18_2 (pw18 m 19 24) else pf18 m
theorem l2_18_1_o {m : Nat → Nat → Int} (h : ¬ 1 < m 55 1) : l2_18_1 m = pf18 m := if_neg h
theorem l2_18_1_t {m : Nat → Nat → Int} (h : 1 < m 55 1) {m' : Nat → Nat → Int} (e : pw18 m 19 24 = m') : l2_18_1 m = l2_18_2 m' := (if_pos h).trans (by rw [e])
def l2_18_0 (m : Nat → Nat → Int) : Nat → Nat → Int := if 0 < m 55 1 then l2_18_1 (pw18 m 18 23) else pf18 m
theorem l2_18_0_o {m : Nat → Nat → Int} (h : ¬ 0 < m 55 1) : l2_18_0 m = pf18 m := if_neg h
theorem l2_18_0_t {m : Nat → Nat → Int} (h : 0 < m 55 1) {m' : Nat → Nat → Int} (e : pw18 m 18 23 = m') : l2_18_0 m = l2_18_1 m' := (if_pos h).trans (by rw [e])
def l1_18_5 (m : Nat → Nat → Int) (b : Int) : (Nat → Nat → Int) × Int := (l2_18_0 m, b)
def l1_18_4 (m : Nat → Nat → Int) (b : Int) : (Nat → Nat → Int) × Int := if 4 < m 55 1 then l1_18_5 (up m 61 32 (i32w (m 61 32 + wt18 m 4 4 22))) (b + wt18 m 4 4 22) else (l2_18_0 m, b)
theorem l1_18_4_o {m : Nat → Nat → Int} {b : Int} (h : ¬ 4 < m 55 1) : l1_18_4 m b = (l2_18_0 m, b) := if_neg h
theorem l1_18_4_t {m : Nat → Nat → Int} {b w : Int} (h : 4 < m 55 1) (e : wt18 m 4 4 22 = w) : l1_18_4 m b = l1_18_5 (up m 61 32 (i32w (m 61 32 + w))) (b + w) := (if_pos h).trans (by rw [e])
def l1_18_3 (m : Nat → Nat → Int) (b : Int) : (Nat → Nat → Int) × Int := if 3 < m 55 1 then l1_18_4 (up m 61 31 (i32w (m 61 31 + wt18 m 3 3 21))) (b + wt18 m 3 3 21) else (l2_18_0 m, b)
theorem l1_18_3_o {m : Nat → Nat → Int} {b : Int} (h : ¬ 3 < m 55 1) : l1_18_3 m b = (l2_18_0 m, b) := if_neg h
theorem l1_18_3_t {m : Nat → Nat → Int} {b w : Int} (h : 3 < m 55 1) (e : wt18 m 3 3 21 = w) : l1_18_3 m b = l1_18_4 (up m 61 31 (i32w (m 61 31 + w))) (b + w) := (if_pos h).trans (by rw [e])
def l1_18_2 (m : Nat → Nat → Int) (b : Int) : (Nat → Nat → Int) × Int := if 2 < m 55 1 then l1_18_3 (up m 61 30 (i32w (m 61 30 + wt18 m 2 2 20))) (b + wt18 m 2 2 20) else (l2_18_0 m, b)
theorem l1_18_2_o {m : Nat → Nat → Int} {b : Int} (h : ¬ 2 < m 55 1) : l1_18_2 m b = (l2_18_0 m, b) := if_neg h
theorem l1_18_2_t {m : Nat → Nat → Int} {b w : Int} (h : 2 < m 55 1) (e : wt18 m 2 2 20 = w) : l1_18_2 m b = l1_18_3 (up m 61 30 (i32w (m 61 30 + w))) (b + w) := (if_pos h).trans (by rw [e])
def l1_18_1 (m : Nat → Nat → Int) (b : Int) : (Nat → Nat → Int) × Int := if 1 < m 55 1 then l1_18_2 (up m 61 29 (i32w (m 61 29 + wt18 m 1 1 19))) (b + wt18 m 1 1 19) else (l2_18_0 m, b)
theorem l1_18_1_o {m : Nat → Nat → Int} {b : Int} (h : ¬ 1 < m 55 1) : l1_18_1 m b = (l2_18_0 m, b) := if_neg h
theorem l1_18_1_t {m : Nat → Nat → Int} {b w : Int} (h : 1 < m 55 1) (e : wt18 m 1 1 19 = w) : l1_18_1 m b = l1_18_2 (up m 61 29 (i32w (m 61 29 + w))) (b + w) := (if_pos h).trans (by rw [e])
def l1_18_0 (m : Nat → Nat → Int) (b : Int) : (Nat → Nat → Int) × Int := if 0 < m 55 1 then l1_18_1 (up m 61 28 (i32w (m 61 28 + wt18 m 0 0 18))) (b + wt18 m 0 0 18) else (l2_18_0 m, b)
theorem l1_18_0_o {m : Nat → Nat → Int} {b : Int} (h : ¬ 0 < m 55 1) : l1_18_0 m b = (l2_18_0 m, b) := if_neg h
theorem l1_18_0_t {m : Nat → Nat → Int} {b w : Int} (h : 0 < m 55 1) (e : wt18 m 0 0 18 = w) : l1_18_0 m b = l1_18_1 (up m 61 28 (i32w (m 61 28 + w))) (b + w) := (if_pos h).trans (by rw [e])
set_option maxHeartbeats 1000000 in
theorem t91_1 {m : Nat → Nat → Int} (hJ : jM18 m) : h_M 91 [.ref 55, fi (1)] m (some (fi ((l1_18_0 m 0).2))) (l1_18_0 m 0).1 := h_M_of (R := ev_r91) rfl (fun hc hw hm => by
  have hL : f_L (lv_args 0 [.ref 55, fi (1)]) [(0, .ref 55), (1, fi (1))] := f_L_of rfl
  generalize lv_args 0 [.ref 55, fi (1)] = L at hL
  show x_W none (1, 0, 6, 1, 11, 3, 66, 0, 0, ev_t91) 0 L [] hc 0 0 _
  have hR := gi_R hm
  have hJ5 : ∀ (m : Nat → Nat → Int) (hc : ev_H) (b : Int) (L : ev_L), y_in yGw hc → gi hc = m → jM18 m → f_L L [(4, fi (5)), (3, fi (b)), (0, .ref 55), (1, fi (1)), (2, fi (18))] → x_W none (1, 0, 6, 1, 11, 3, 66, 0, 0, ev_t91) 102 L [] hc 0 0 (fun r' h' => r' = some (fi b) ∧ y_in yGw h' ∧ gi h' = l2_18_5 m) := fun m hc b L hw hm hJ hL => by
    have hR := gi_R hm
    have hn := hJ.1
    have hp := hJ.2.1
    refine f_il 0 rfl hL rfl ?_
    refine f_aln 2 rfl hL rfl ?_
    refine m_gfi so55 (m 55 1) rfl hw hm rfl rfl ?_
    refine f_ic rfl (by decide) (by omega) (fun _ => ?_) (fun c_9 => absurd (show (m 55 1 : Int) ≤ (5 : Int) from (by omega)) c_9)
    refine f_aln 2 rfl hL rfl ?_
    refine m_gfr so55 rfl hw rfl (by decide) ?_
    refine f_iln 4 rfl hL rfl ?_
    refine f_bipush (n := 17) rfl (by decide) ?_
    refine f_iadd rfl ?_
    refine b_eq (x := 35) (by decide) ?_
    refine f_s [fi (35), .ref 61, fi (35), .ref 61] rfl rfl ?_
    refine m_ia sa61 (m 61 35) rfl hw hm (by omega) (by omega) (by decide) rfl ?_
    refine f_s [fi (1), fi (m 61 35), fi (35), .ref 61] rfl rfl ?_
    refine f_iadd rfl ?_
    refine b_w ?_
    refine m_ias sa61 rfl hw hm (by omega) (by omega) (by decide) i32w_r (fun hc1 hw1 hm1 => ?_)
    refine f_iln 1 rfl hL rfl ?_
    exact f_ret1 rfl ⟨rfl, hw1, by rw [hm1]; rfl⟩
  have hJ4 : ∀ (m : Nat → Nat → Int) (hc : ev_H) (b : Int) (L : ev_L), y_in yGw hc → gi hc = m → jM18 m → f_L L [(4, fi (4)), (3, fi (b)), (0, .ref 55), (1, fi (1)), (2, fi (18))] → x_W none (1, 0, 6, 1, 11, 3, 66, 0, 0, ev_t91) 102 L [] hc 0 0 (fun r' h' => r' = some (fi b) ∧ y_in yGw h' ∧ gi h' = l2_18_4 m) := fun m hc b L hw hm hJ hL => by
    have hR := gi_R hm
    have hn := hJ.1
    have hp := hJ.2.1
    refine f_il 0 rfl hL rfl ?_
    refine f_aln 2 rfl hL rfl ?_
    refine m_gfi so55 (m 55 1) rfl hw hm rfl rfl ?_
    refine f_ic rfl (by decide) (by omega) (fun c1 => ?_) (fun c1 => ?_)
    · have c1 : (m 55 1 : Int) ≤ (4 : Int) := c1
      refine f_aln 2 rfl hL rfl ?_
      refine m_gfr so55 rfl hw rfl (by decide) ?_
      refine f_iln 4 rfl hL rfl ?_
      refine f_bipush (n := 17) rfl (by decide) ?_
      refine f_iadd rfl ?_
      refine b_eq (x := 35) (by decide) ?_
      refine f_s [fi (35), .ref 61, fi (35), .ref 61] rfl rfl ?_
      refine m_ia sa61 (m 61 35) rfl hw hm (by omega) (by omega) (by decide) rfl ?_
      refine f_s [fi (1), fi (m 61 35), fi (35), .ref 61] rfl rfl ?_
      refine f_iadd rfl ?_
      refine b_w ?_
      refine m_ias sa61 rfl hw hm (by omega) (by omega) (by decide) i32w_r (fun hc2 hw2 hm2 => ?_)
      refine f_iln 1 rfl hL rfl ?_
      exact f_ret1 rfl ⟨rfl, hw2, by rw [hm2]; exact (l2_18_4_o (by omega)).symm⟩
    · have c1 : ¬ ((m 55 1 : Int) ≤ (4 : Int)) := c1
      have jv : m 61 22 = -9 ∨ (0 ≤ m 61 22 ∧ m 61 22 < 4) := hJ.2.2 4 (by decide) (by omega)
      refine f_aln 2 rfl hL rfl ?_
      refine m_gfr so55 rfl hw rfl (by decide) ?_
      refine f_iln 4 rfl hL rfl ?_
      refine f_il 0 rfl hL rfl ?_
      refine f_iadd rfl ?_
      refine b_eq (x := 22) (by decide) ?_
      refine m_ia sa61 (m 61 22) rfl hw hm (by omega) (by omega) (by decide) rfl ?_
      refine f_bipush (n := -9) rfl (by decide) ?_
      refine f_ic rfl (hR 61 22) (by decide) (fun c2 => ?_) (fun c2 => ?_)
      · have c2 : (m 61 22 : Int) = (-9 : Int) := c2
        refine f_inc 0 [(4, fi (5)), (3, fi (b)), (0, .ref 55), (1, fi (1)), (2, fi (18))] rfl (by decide) hL rfl rfl (fun L1 hL1 => ?_)
        refine f_goto rfl ?_
        have e9 : pw18 m 22 27 = m := by unfold pw18; rw [if_pos (by omega)]
        rw [l2_18_4_t (by omega) e9]
        exact hJ5 _ hc b _ hw hm hJ (hL1.sel [0, 1, 2, 3, 4] rfl)
      · have c2 : ¬ ((m 61 22 : Int) = (-9 : Int)) := c2
        refine f_aln 2 rfl hL rfl ?_
        refine m_gfr so55 rfl hw rfl (by decide) ?_
        refine f_iln 4 rfl hL rfl ?_
        refine f_s [fi (5), fi (18), .ref 61] rfl rfl ?_
        refine f_iadd rfl ?_
        refine b_eq (x := 23) (by decide) ?_
        refine f_il 0 rfl hL rfl ?_
        refine f_iadd rfl ?_
        refine b_eq (x := 27) (by decide) ?_
        refine f_s [fi (27), .ref 61, fi (27), .ref 61] rfl rfl ?_
        refine m_ia sa61 (m 61 27) rfl hw hm (by omega) (by omega) (by decide) rfl ?_
        refine f_s [fi (1), fi (m 61 27), fi (27), .ref 61] rfl rfl ?_
        refine f_iadd rfl ?_
        refine b_w ?_
        refine m_ias sa61 rfl hw hm (by omega) (by omega) (by decide) i32w_r (fun hc3 hw3 hm3 => ?_)
        refine f_aln 2 rfl hL rfl ?_
        refine m_gfr so55 rfl hw3 rfl (by decide) ?_
        refine f_aln 2 rfl hL rfl ?_
        refine m_gfr so55 rfl hw3 rfl (by decide) ?_
        refine f_iln 4 rfl hL rfl ?_
        refine f_il 0 rfl hL rfl ?_
        refine f_iadd rfl ?_
        refine b_eq (x := 22) (by decide) ?_
        refine m_ia sa61 (m 61 22) rfl hw3 hm3 (by omega) (by omega) (by decide) rfl ?_
        refine m_ia sa56 (m 56 (m 61 22).toNat) rfl hw3 hm3 (by omega) (by omega) (by decide) rfl ?_
        refine f_s [fi (3), fi (m 56 (m 61 22).toNat)] rfl rfl ?_
        refine f_ic rfl (hR _ _) (by decide) (fun c3 => ?_) (fun c3 => ?_)
        · have c3 : ¬ (m 56 (m 61 22).toNat : Int) = (3 : Int) := c3
          refine f_inc 0 [(4, fi (5)), (3, fi (b)), (0, .ref 55), (1, fi (1)), (2, fi (18))] rfl (by decide) hL rfl rfl (fun L2 hL2 => ?_)
          refine f_goto rfl ?_
          have e9 : pw18 m 22 27 = (up m 61 27 (i32w ((m 61 27) + 1))) := by unfold pw18; rw [if_neg (by omega), if_neg (by omega)]
          rw [l2_18_4_t (by omega) e9]
          exact hJ5 _ hc3 b _ hw3 hm3 (jM18_up hJ (by omega)) (hL2.sel [0, 1, 2, 3, 4] rfl)
        · have c3 : ¬ (¬ (m 56 (m 61 22).toNat : Int) = (3 : Int)) := c3
          refine f_aln 2 rfl hL rfl ?_
          refine m_gfr so55 rfl hw3 rfl (by decide) ?_
          refine f_iln 4 rfl hL rfl ?_
          refine f_s [fi (5), fi (18), .ref 61] rfl rfl ?_
          refine f_iadd rfl ?_
          refine b_eq (x := 23) (by decide) ?_
          refine f_il 0 rfl hL rfl ?_
          refine f_iadd rfl ?_
          refine b_eq (x := 27) (by decide) ?_
          refine m_ia sa61 (i32w ((m 61 27) + 1)) rfl hw3 hm3 (by omega) (by omega) (by decide) rfl ?_
          refine f_s [fi (2), fi (i32w ((m 61 27) + 1))] rfl rfl ?_
          refine f_ic rfl i32w_r (by decide) (fun c4 => ?_) (fun c4 => ?_)
          · have c4 : (i32w ((m 61 27) + 1) : Int) ≤ (2 : Int) := c4
            refine f_inc 0 [(4, fi (5)), (3, fi (b)), (0, .ref 55), (1, fi (1)), (2, fi (18))] rfl (by decide) hL rfl rfl (fun L3 hL3 => ?_)
            refine f_goto rfl ?_
            have e9 : pw18 m 22 27 = (up m 61 27 (i32w ((m 61 27) + 1))) := by unfold pw18; rw [if_neg (by omega), if_neg (by omega)]
            rw [l2_18_4_t (by omega) e9]
            exact hJ5 _ hc3 b _ hw3 hm3 (jM18_up hJ (by omega)) (hL3.sel [0, 1, 2, 3, 4] rfl)
          · have c4 : ¬ ((i32w ((m 61 27) + 1) : Int) ≤ (2 : Int)) := c4
            refine f_aln 2 rfl hL rfl ?_
            refine f_iln 3 rfl hL rfl ?_
            refine f_il 0 rfl hL rfl ?_
            refine f_bipush (n := -9) rfl (by decide) ?_
            refine m_k0 (show h_M 79 [.ref 55, fi (1), fi (4), fi (-9)] (up m 61 27 (i32w ((m 61 27) + 1))) none (up (up (up m 61 27 (i32w ((m 61 27) + 1))) 61 22 (-9)) 61 27 0) from t79_1 (m := (up m 61 27 (i32w ((m 61 27) + 1)))) (p := 4) (k := -9) (by decide) (by decide) (by decide)) hw3 hm3 rfl rfl rfl (m_ar so55 hw3 rfl) rfl (fun hc4 hw4 hm4 => ?_)
            refine f_inc 0 [(4, fi (5)), (3, fi (b)), (0, .ref 55), (1, fi (1)), (2, fi (18))] rfl (by decide) hL rfl rfl (fun L4 hL4 => ?_)
            refine f_goto rfl ?_
            have e9 : pw18 m 22 27 = (up (up (up m 61 27 (i32w ((m 61 27) + 1))) 61 22 (-9)) 61 27 (0)) := by unfold pw18; rw [if_neg (by omega), if_pos (by omega)]
            rw [l2_18_4_t (by omega) e9]
            exact hJ5 _ hc4 b _ hw4 hm4 (jM18_up (jM18_n (jM18_up hJ (by omega))) (by omega)) (hL4.sel [0, 1, 2, 3, 4] rfl)
  have hJ3 : ∀ (m : Nat → Nat → Int) (hc : ev_H) (b : Int) (L : ev_L), y_in yGw hc → gi hc = m → jM18 m → f_L L [(4, fi (3)), (3, fi (b)), (0, .ref 55), (1, fi (1)), (2, fi (18))] → x_W none (1, 0, 6, 1, 11, 3, 66, 0, 0, ev_t91) 102 L [] hc 0 0 (fun r' h' => r' = some (fi b) ∧ y_in yGw h' ∧ gi h' = l2_18_3 m) := fun m hc b L hw hm hJ hL => by
    have hR := gi_R hm
    have hn := hJ.1
    have hp := hJ.2.1
    refine f_il 0 rfl hL rfl ?_
    refine f_aln 2 rfl hL rfl ?_
    refine m_gfi so55 (m 55 1) rfl hw hm rfl rfl ?_
    refine f_ic rfl (by decide) (by omega) (fun c1 => ?_) (fun c1 => ?_)
    · have c1 : (m 55 1 : Int) ≤ (3 : Int) := c1
      refine f_aln 2 rfl hL rfl ?_
      refine m_gfr so55 rfl hw rfl (by decide) ?_
      refine f_iln 4 rfl hL rfl ?_
      refine f_bipush (n := 17) rfl (by decide) ?_
      refine f_iadd rfl ?_
      refine b_eq (x := 35) (by decide) ?_
      refine f_s [fi (35), .ref 61, fi (35), .ref 61] rfl rfl ?_
      refine m_ia sa61 (m 61 35) rfl hw hm (by omega) (by omega) (by decide) rfl ?_
      refine f_s [fi (1), fi (m 61 35), fi (35), .ref 61] rfl rfl ?_
      refine f_iadd rfl ?_
      refine b_w ?_
      refine m_ias sa61 rfl hw hm (by omega) (by omega) (by decide) i32w_r (fun hc5 hw5 hm5 => ?_)
      refine f_iln 1 rfl hL rfl ?_
      exact f_ret1 rfl ⟨rfl, hw5, by rw [hm5]; exact (l2_18_3_o (by omega)).symm⟩
    · have c1 : ¬ ((m 55 1 : Int) ≤ (3 : Int)) := c1
      have jv : m 61 21 = -9 ∨ (0 ≤ m 61 21 ∧ m 61 21 < 4) := hJ.2.2 3 (by decide) (by omega)
      refine f_aln 2 rfl hL rfl ?_
      refine m_gfr so55 rfl hw rfl (by decide) ?_
      refine f_iln 4 rfl hL rfl ?_
      refine f_il 0 rfl hL rfl ?_
      refine f_iadd rfl ?_
      refine b_eq (x := 21) (by decide) ?_
      refine m_ia sa61 (m 61 21) rfl hw hm (by omega) (by omega) (by decide) rfl ?_
      refine f_bipush (n := -9) rfl (by decide) ?_
      refine f_ic rfl (hR 61 21) (by decide) (fun c2 => ?_) (fun c2 => ?_)
      · have c2 : (m 61 21 : Int) = (-9 : Int) := c2
        refine f_inc 0 [(4, fi (4)), (3, fi (b)), (0, .ref 55), (1, fi (1)), (2, fi (18))] rfl (by decide) hL rfl rfl (fun L5 hL5 => ?_)
        refine f_goto rfl ?_
        have e9 : pw18 m 21 26 = m := by unfold pw18; rw [if_pos (by omega)]
        rw [l2_18_3_t (by omega) e9]
        exact hJ4 _ hc b _ hw hm hJ (hL5.sel [0, 1, 2, 3, 4] rfl)
      · have c2 : ¬ ((m 61 21 : Int) = (-9 : Int)) := c2
        refine f_aln 2 rfl hL rfl ?_
        refine m_gfr so55 rfl hw rfl (by decide) ?_
        refine f_iln 4 rfl hL rfl ?_
        refine f_s [fi (5), fi (18), .ref 61] rfl rfl ?_
        refine f_iadd rfl ?_
        refine b_eq (x := 23) (by decide) ?_
        refine f_il 0 rfl hL rfl ?_
        refine f_iadd rfl ?_
        refine b_eq (x := 26) (by decide) ?_
        refine f_s [fi (26), .ref 61, fi (26), .ref 61] rfl rfl ?_
        refine m_ia sa61 (m 61 26) rfl hw hm (by omega) (by omega) (by decide) rfl ?_
        refine f_s [fi (1), fi (m 61 26), fi (26), .ref 61] rfl rfl ?_
        refine f_iadd rfl ?_
        refine b_w ?_
        refine m_ias sa61 rfl hw hm (by omega) (by omega) (by decide) i32w_r (fun hc6 hw6 hm6 => ?_)
        refine f_aln 2 rfl hL rfl ?_
        refine m_gfr so55 rfl hw6 rfl (by decide) ?_
        refine f_aln 2 rfl hL rfl ?_
        refine m_gfr so55 rfl hw6 rfl (by decide) ?_
        refine f_iln 4 rfl hL rfl ?_
        refine f_il 0 rfl hL rfl ?_
        refine f_iadd rfl ?_
        refine b_eq (x := 21) (by decide) ?_
        refine m_ia sa61 (m 61 21) rfl hw6 hm6 (by omega) (by omega) (by decide) rfl ?_
        refine m_ia sa56 (m 56 (m 61 21).toNat) rfl hw6 hm6 (by omega) (by omega) (by decide) rfl ?_
        refine f_s [fi (3), fi (m 56 (m 61 21).toNat)] rfl rfl ?_
        refine f_ic rfl (hR _ _) (by decide) (fun c3 => ?_) (fun c3 => ?_)
        · have c3 : ¬ (m 56 (m 61 21).toNat : Int) = (3 : Int) := c3
          refine f_inc 0 [(4, fi (4)), (3, fi (b)), (0, .ref 55), (1, fi (1)), (2, fi (18))] rfl (by decide) hL rfl rfl (fun L6 hL6 => ?_)
          refine f_goto rfl ?_
          have e9 : pw18 m 21 26 = (up m 61 26 (i32w ((m 61 26) + 1))) := by unfold pw18; rw [if_neg (by omega), if_neg (by omega)]
          rw [l2_18_3_t (by omega) e9]
          exact hJ4 _ hc6 b _ hw6 hm6 (jM18_up hJ (by omega)) (hL6.sel [0, 1, 2, 3, 4] rfl)
        · have c3 : ¬ (¬ (m 56 (m 61 21).toNat : Int) = (3 : Int)) := c3
          refine f_aln 2 rfl hL rfl ?_
          refine m_gfr so55 rfl hw6 rfl (by decide) ?_
          refine f_iln 4 rfl hL rfl ?_
          refine f_s [fi (5), fi (18), .ref 61] rfl rfl ?_
          refine f_iadd rfl ?_
          refine b_eq (x := 23) (by decide) ?_
          refine f_il 0 rfl hL rfl ?_
          refine f_iadd rfl ?_
          refine b_eq (x := 26) (by decide) ?_
          refine m_ia sa61 (i32w ((m 61 26) + 1)) rfl hw6 hm6 (by omega) (by omega) (by decide) rfl ?_
          refine f_s [fi (2), fi (i32w ((m 61 26) + 1))] rfl rfl ?_
          refine f_ic rfl i32w_r (by decide) (fun c4 => ?_) (fun c4 => ?_)
          · have c4 : (i32w ((m 61 26) + 1) : Int) ≤ (2 : Int) := c4
            refine f_inc 0 [(4, fi (4)), (3, fi (b)), (0, .ref 55), (1, fi (1)), (2, fi (18))] rfl (by decide) hL rfl rfl (fun L7 hL7 => ?_)
            refine f_goto rfl ?_
            have e9 : pw18 m 21 26 = (up m 61 26 (i32w ((m 61 26) + 1))) := by unfold pw18; rw [if_neg (by omega), if_neg (by omega)]
            rw [l2_18_3_t (by omega) e9]
            exact hJ4 _ hc6 b _ hw6 hm6 (jM18_up hJ (by omega)) (hL7.sel [0, 1, 2, 3, 4] rfl)
          · have c4 : ¬ ((i32w ((m 61 26) + 1) : Int) ≤ (2 : Int)) := c4
            refine f_aln 2 rfl hL rfl ?_
            refine f_iln 3 rfl hL rfl ?_
            refine f_il 0 rfl hL rfl ?_
            refine f_bipush (n := -9) rfl (by decide) ?_
            refine m_k0 (show h_M 79 [.ref 55, fi (1), fi (3), fi (-9)] (up m 61 26 (i32w ((m 61 26) + 1))) none (up (up (up m 61 26 (i32w ((m 61 26) + 1))) 61 21 (-9)) 61 26 0) from t79_1 (m := (up m 61 26 (i32w ((m 61 26) + 1)))) (p := 3) (k := -9) (by decide) (by decide) (by decide)) hw6 hm6 rfl rfl rfl (m_ar so55 hw6 rfl) rfl (fun hc7 hw7 hm7 => ?_)
            refine f_inc 0 [(4, fi (4)), (3, fi (b)), (0, .ref 55), (1, fi (1)), (2, fi (18))] rfl (by decide) hL rfl rfl (fun L8 hL8 => ?_)
            refine f_goto rfl ?_
            have e9 : pw18 m 21 26 = (up (up (up m 61 26 (i32w ((m 61 26) + 1))) 61 21 (-9)) 61 26 (0)) := by unfold pw18; rw [if_neg (by omega), if_pos (by omega)]
            rw [l2_18_3_t (by omega) e9]
            exact hJ4 _ hc7 b _ hw7 hm7 (jM18_up (jM18_n (jM18_up hJ (by omega))) (by omega)) (hL8.sel [0, 1, 2, 3, 4] rfl)
  have hJ2 : ∀ (m : Nat → Nat → Int) (hc : ev_H) (b : Int) (L : ev_L), y_in yGw hc → gi hc = m → jM18 m → f_L L [(4, fi (2)), (3, fi (b)), (0, .ref 55), (1, fi (1)), (2, fi (18))] → x_W none (1, 0, 6, 1, 11, 3, 66, 0, 0, ev_t91) 102 L [] hc 0 0 (fun r' h' => r' = some (fi b) ∧ y_in yGw h' ∧ gi h' = l2_18_2 m) := fun m hc b L hw hm hJ hL => by
    have hR := gi_R hm
    have hn := hJ.1
    have hp := hJ.2.1
    refine f_il 0 rfl hL rfl ?_
    refine f_aln 2 rfl hL rfl ?_
    refine m_gfi so55 (m 55 1) rfl hw hm rfl rfl ?_
    refine f_ic rfl (by decide) (by omega) (fun c1 => ?_) (fun c1 => ?_)
    · have c1 : (m 55 1 : Int) ≤ (2 : Int) := c1
      refine f_aln 2 rfl hL rfl ?_
      refine m_gfr so55 rfl hw rfl (by decide) ?_
      refine f_iln 4 rfl hL rfl ?_
      refine f_bipush (n := 17) rfl (by decide) ?_
      refine f_iadd rfl ?_
      refine b_eq (x := 35) (by decide) ?_
      refine f_s [fi (35), .ref 61, fi (35), .ref 61] rfl rfl ?_
      refine m_ia sa61 (m 61 35) rfl hw hm (by omega) (by omega) (by decide) rfl ?_
      refine f_s [fi (1), fi (m 61 35), fi (35), .ref 61] rfl rfl ?_
      refine f_iadd rfl ?_
      refine b_w ?_
      refine m_ias sa61 rfl hw hm (by omega) (by omega) (by decide) i32w_r (fun hc8 hw8 hm8 => ?_)
      refine f_iln 1 rfl hL rfl ?_
      exact f_ret1 rfl ⟨rfl, hw8, by rw [hm8]; exact (l2_18_2_o (by omega)).symm⟩
    · have c1 : ¬ ((m 55 1 : Int) ≤ (2 : Int)) := c1
      have jv : m 61 20 = -9 ∨ (0 ≤ m 61 20 ∧ m 61 20 < 4) := hJ.2.2 2 (by decide) (by omega)
      refine f_aln 2 rfl hL rfl ?_
      refine m_gfr so55 rfl hw rfl (by decide) ?_
      refine f_iln 4 rfl hL rfl ?_
      refine f_il 0 rfl hL rfl ?_
      refine f_iadd rfl ?_
      refine b_eq (x := 20) (by decide) ?_
      refine m_ia sa61 (m 61 20) rfl hw hm (by omega) (by omega) (by decide) rfl ?_
      refine f_bipush (n := -9) rfl (by decide) ?_
      refine f_ic rfl (hR 61 20) (by decide) (fun c2 => ?_) (fun c2 => ?_)
      · have c2 : (m 61 20 : Int) = (-9 : Int) := c2
        refine f_inc 0 [(4, fi (3)), (3, fi (b)), (0, .ref 55), (1, fi (1)), (2, fi (18))] rfl (by decide) hL rfl rfl (fun L9 hL9 => ?_)
        refine f_goto rfl ?_
        have e9 : pw18 m 20 25 = m := by unfold pw18; rw [if_pos (by omega)]
        rw [l2_18_2_t (by omega) e9]
        exact hJ3 _ hc b _ hw hm hJ (hL9.sel [0, 1, 2, 3, 4] rfl)
      · have c2 : ¬ ((m 61 20 : Int) = (-9 : Int)) := c2
        refine f_aln 2 rfl hL rfl ?_
        refine m_gfr so55 rfl hw rfl (by decide) ?_
        refine f_iln 4 rfl hL rfl ?_
        refine f_s [fi (5), fi (18), .ref 61] rfl rfl ?_
        refine f_iadd rfl ?_
        refine b_eq (x := 23) (by decide) ?_
        refine f_il 0 rfl hL rfl ?_
        refine f_iadd rfl ?_
        refine b_eq (x := 25) (by decide) ?_
        refine f_s [fi (25), .ref 61, fi (25), .ref 61] rfl rfl ?_
        refine m_ia sa61 (m 61 25) rfl hw hm (by omega) (by omega) (by decide) rfl ?_
        refine f_s [fi (1), fi (m 61 25), fi (25), .ref 61] rfl rfl ?_
        refine f_iadd rfl ?_
        refine b_w ?_
        refine m_ias sa61 rfl hw hm (by omega) (by omega) (by decide) i32w_r (fun hc9 hw9 hm9 => ?_)
        refine f_aln 2 rfl hL rfl ?_
        refine m_gfr so55 rfl hw9 rfl (by decide) ?_
        refine f_aln 2 rfl hL rfl ?_
        refine m_gfr so55 rfl hw9 rfl (by decide) ?_
        refine f_iln 4 rfl hL rfl ?_
        refine f_il 0 rfl hL rfl ?_
        refine f_iadd rfl ?_
        refine b_eq (x := 20) (by decide) ?_
        refine m_ia sa61 (m 61 20) rfl hw9 hm9 (by omega) (by omega) (by decide) rfl ?_
        refine m_ia sa56 (m 56 (m 61 20).toNat) rfl hw9 hm9 (by omega) (by omega) (by decide) rfl ?_
        refine f_s [fi (3), fi (m 56 (m 61 20).toNat)] rfl rfl ?_
        refine f_ic rfl (hR _ _) (by decide) (fun c3 => ?_) (fun c3 => ?_)
        · have c3 : ¬ (m 56 (m 61 20).toNat : Int) = (3 : Int) := c3
          refine f_inc 0 [(4, fi (3)), (3, fi (b)), (0, .ref 55), (1, fi (1)), (2, fi (18))] rfl (by decide) hL rfl rfl (fun L10 hL10 => ?_)
          refine f_goto rfl ?_
          have e9 : pw18 m 20 25 = (up m 61 25 (i32w ((m 61 25) + 1))) := by unfold pw18; rw [if_neg (by omega), if_neg (by omega)]
          rw [l2_18_2_t (by omega) e9]
          exact hJ3 _ hc9 b _ hw9 hm9 (jM18_up hJ (by omega)) (hL10.sel [0, 1, 2, 3, 4] rfl)
        · have c3 : ¬ (¬ (m 56 (m 61 20).toNat : Int) = (3 : Int)) := c3
          refine f_aln 2 rfl hL rfl ?_
          refine m_gfr so55 rfl hw9 rfl (by decide) ?_
          refine f_iln 4 rfl hL rfl ?_
          refine f_s [fi (5), fi (18), .ref 61] rfl rfl ?_
          refine f_iadd rfl ?_
          refine b_eq (x := 23) (by decide) ?_
          refine f_il 0 rfl hL rfl ?_
          refine f_iadd rfl ?_
          refine b_eq (x := 25) (by decide) ?_
          refine m_ia sa61 (i32w ((m 61 25) + 1)) rfl hw9 hm9 (by omega) (by omega) (by decide) rfl ?_
          refine f_s [fi (2), fi (i32w ((m 61 25) + 1))] rfl rfl ?_
          refine f_ic rfl i32w_r (by decide) (fun c4 => ?_) (fun c4 => ?_)
          · have c4 : (i32w ((m 61 25) + 1) : Int) ≤ (2 : Int) := c4
            refine f_inc 0 [(4, fi (3)), (3, fi (b)), (0, .ref 55), (1, fi (1)), (2, fi (18))] rfl (by decide) hL rfl rfl (fun L11 hL11 => ?_)
            refine f_goto rfl ?_
            have e9 : pw18 m 20 25 = (up m 61 25 (i32w ((m 61 25) + 1))) := by unfold pw18; rw [if_neg (by omega), if_neg (by omega)]
            rw [l2_18_2_t (by omega) e9]
            exact hJ3 _ hc9 b _ hw9 hm9 (jM18_up hJ (by omega)) (hL11.sel [0, 1, 2, 3, 4] rfl)
          · have c4 : ¬ ((i32w ((m 61 25) + 1) : Int) ≤ (2 : Int)) := c4
            refine f_aln 2 rfl hL rfl ?_
            refine f_iln 3 rfl hL rfl ?_
            refine f_il 0 rfl hL rfl ?_
            refine f_bipush (n := -9) rfl (by decide) ?_
            refine m_k0 (show h_M 79 [.ref 55, fi (1), fi (2), fi (-9)] (up m 61 25 (i32w ((m 61 25) + 1))) none (up (up (up m 61 25 (i32w ((m 61 25) + 1))) 61 20 (-9)) 61 25 0) from t79_1 (m := (up m 61 25 (i32w ((m 61 25) + 1)))) (p := 2) (k := -9) (by decide) (by decide) (by decide)) hw9 hm9 rfl rfl rfl (m_ar so55 hw9 rfl) rfl (fun hc10 hw10 hm10 => ?_)
            refine f_inc 0 [(4, fi (3)), (3, fi (b)), (0, .ref 55), (1, fi (1)), (2, fi (18))] rfl (by decide) hL rfl rfl (fun L12 hL12 => ?_)
            refine f_goto rfl ?_
            have e9 : pw18 m 20 25 = (up (up (up m 61 25 (i32w ((m 61 25) + 1))) 61 20 (-9)) 61 25 (0)) := by unfold pw18; rw [if_neg (by omega), if_pos (by omega)]
            rw [l2_18_2_t (by omega) e9]
            exact hJ3 _ hc10 b _ hw10 hm10 (jM18_up (jM18_n (jM18_up hJ (by omega))) (by omega)) (hL12.sel [0, 1, 2, 3, 4] rfl)
  have hJ1 : ∀ (m : Nat → Nat → Int) (hc : ev_H) (b : Int) (L : ev_L), y_in yGw hc → gi hc = m → jM18 m → f_L L [(4, fi (1)), (3, fi (b)), (0, .ref 55), (1, fi (1)), (2, fi (18))] → x_W none (1, 0, 6, 1, 11, 3, 66, 0, 0, ev_t91) 102 L [] hc 0 0 (fun r' h' => r' = some (fi b) ∧ y_in yGw h' ∧ gi h' = l2_18_1 m) := fun m hc b L hw hm hJ hL => by
    have hR := gi_R hm
    have hn := hJ.1
    have hp := hJ.2.1
    refine f_il 0 rfl hL rfl ?_
    refine f_aln 2 rfl hL rfl ?_
    refine m_gfi so55 (m 55 1) rfl hw hm rfl rfl ?_
    refine f_ic rfl (by decide) (by omega) (fun c1 => ?_) (fun c1 => ?_)
    · have c1 : (m 55 1 : Int) ≤ (1 : Int) := c1
      refine f_aln 2 rfl hL rfl ?_
      refine m_gfr so55 rfl hw rfl (by decide) ?_
      refine f_iln 4 rfl hL rfl ?_
      refine f_bipush (n := 17) rfl (by decide) ?_
      refine f_iadd rfl ?_
      refine b_eq (x := 35) (by decide) ?_
      refine f_s [fi (35), .ref 61, fi (35), .ref 61] rfl rfl ?_
      refine m_ia sa61 (m 61 35) rfl hw hm (by omega) (by omega) (by decide) rfl ?_
      refine f_s [fi (1), fi (m 61 35), fi (35), .ref 61] rfl rfl ?_
      refine f_iadd rfl ?_
      refine b_w ?_
      refine m_ias sa61 rfl hw hm (by omega) (by omega) (by decide) i32w_r (fun hc11 hw11 hm11 => ?_)
      refine f_iln 1 rfl hL rfl ?_
      exact f_ret1 rfl ⟨rfl, hw11, by rw [hm11]; exact (l2_18_1_o (by omega)).symm⟩
    · have c1 : ¬ ((m 55 1 : Int) ≤ (1 : Int)) := c1
      have jv : m 61 19 = -9 ∨ (0 ≤ m 61 19 ∧ m 61 19 < 4) := hJ.2.2 1 (by decide) (by omega)
      refine f_aln 2 rfl hL rfl ?_
      refine m_gfr so55 rfl hw rfl (by decide) ?_
      refine f_iln 4 rfl hL rfl ?_
      refine f_il 0 rfl hL rfl ?_
      refine f_iadd rfl ?_
      refine b_eq (x := 19) (by decide) ?_
      refine m_ia sa61 (m 61 19) rfl hw hm (by omega) (by omega) (by decide) rfl ?_
      refine f_bipush (n := -9) rfl (by decide) ?_
      refine f_ic rfl (hR 61 19) (by decide) (fun c2 => ?_) (fun c2 => ?_)
      · have c2 : (m 61 19 : Int) = (-9 : Int) := c2
        refine f_inc 0 [(4, fi (2)), (3, fi (b)), (0, .ref 55), (1, fi (1)), (2, fi (18))] rfl (by decide) hL rfl rfl (fun L13 hL13 => ?_)
        refine f_goto rfl ?_
        have e9 : pw18 m 19 24 = m := by unfold pw18; rw [if_pos (by omega)]
        rw [l2_18_1_t (by omega) e9]
        exact hJ2 _ hc b _ hw hm hJ (hL13.sel [0, 1, 2, 3, 4] rfl)
      · have c2 : ¬ ((m 61 19 : Int) = (-9 : Int)) := c2
        refine f_aln 2 rfl hL rfl ?_
        refine m_gfr so55 rfl hw rfl (by decide) ?_
        refine f_iln 4 rfl hL rfl ?_
        refine f_s [fi (5), fi (18), .ref 61] rfl rfl ?_
        refine f_iadd rfl ?_
        refine b_eq (x := 23) (by decide) ?_
        refine f_il 0 rfl hL rfl ?_
        refine f_iadd rfl ?_
        refine b_eq (x := 24) (by decide) ?_
        refine f_s [fi (24), .ref 61, fi (24), .ref 61] rfl rfl ?_
        refine m_ia sa61 (m 61 24) rfl hw hm (by omega) (by omega) (by decide) rfl ?_
        refine f_s [fi (1), fi (m 61 24), fi (24), .ref 61] rfl rfl ?_
        refine f_iadd rfl ?_
        refine b_w ?_
        refine m_ias sa61 rfl hw hm (by omega) (by omega) (by decide) i32w_r (fun hc12 hw12 hm12 => ?_)
        refine f_aln 2 rfl hL rfl ?_
        refine m_gfr so55 rfl hw12 rfl (by decide) ?_
        refine f_aln 2 rfl hL rfl ?_
        refine m_gfr so55 rfl hw12 rfl (by decide) ?_
        refine f_iln 4 rfl hL rfl ?_
        refine f_il 0 rfl hL rfl ?_
        refine f_iadd rfl ?_
        refine b_eq (x := 19) (by decide) ?_
        refine m_ia sa61 (m 61 19) rfl hw12 hm12 (by omega) (by omega) (by decide) rfl ?_
        refine m_ia sa56 (m 56 (m 61 19).toNat) rfl hw12 hm12 (by omega) (by omega) (by decide) rfl ?_
        refine f_s [fi (3), fi (m 56 (m 61 19).toNat)] rfl rfl ?_
        refine f_ic rfl (hR _ _) (by decide) (fun c3 => ?_) (fun c3 => ?_)
        · have c3 : ¬ (m 56 (m 61 19).toNat : Int) = (3 : Int) := c3
          refine f_inc 0 [(4, fi (2)), (3, fi (b)), (0, .ref 55), (1, fi (1)), (2, fi (18))] rfl (by decide) hL rfl rfl (fun L14 hL14 => ?_)
          refine f_goto rfl ?_
          have e9 : pw18 m 19 24 = (up m 61 24 (i32w ((m 61 24) + 1))) := by unfold pw18; rw [if_neg (by omega), if_neg (by omega)]
          rw [l2_18_1_t (by omega) e9]
          exact hJ2 _ hc12 b _ hw12 hm12 (jM18_up hJ (by omega)) (hL14.sel [0, 1, 2, 3, 4] rfl)
        · have c3 : ¬ (¬ (m 56 (m 61 19).toNat : Int) = (3 : Int)) := c3
          refine f_aln 2 rfl hL rfl ?_
          refine m_gfr so55 rfl hw12 rfl (by decide) ?_
          refine f_iln 4 rfl hL rfl ?_
          refine f_s [fi (5), fi (18), .ref 61] rfl rfl ?_
          refine f_iadd rfl ?_
          refine b_eq (x := 23) (by decide) ?_
          refine f_il 0 rfl hL rfl ?_
          refine f_iadd rfl ?_
          refine b_eq (x := 24) (by decide) ?_
          refine m_ia sa61 (i32w ((m 61 24) + 1)) rfl hw12 hm12 (by omega) (by omega) (by decide) rfl ?_
          refine f_s [fi (2), fi (i32w ((m 61 24) + 1))] rfl rfl ?_
          refine f_ic rfl i32w_r (by decide) (fun c4 => ?_) (fun c4 => ?_)
          · have c4 : (i32w ((m 61 24) + 1) : Int) ≤ (2 : Int) := c4
            refine f_inc 0 [(4, fi (2)), (3, fi (b)), (0, .ref 55), (1, fi (1)), (2, fi (18))] rfl (by decide) hL rfl rfl (fun L15 hL15 => ?_)
            refine f_goto rfl ?_
            have e9 : pw18 m 19 24 = (up m 61 24 (i32w ((m 61 24) + 1))) := by unfold pw18; rw [if_neg (by omega), if_neg (by omega)]
            rw [l2_18_1_t (by omega) e9]
            exact hJ2 _ hc12 b _ hw12 hm12 (jM18_up hJ (by omega)) (hL15.sel [0, 1, 2, 3, 4] rfl)
          · have c4 : ¬ ((i32w ((m 61 24) + 1) : Int) ≤ (2 : Int)) := c4
            refine f_aln 2 rfl hL rfl ?_
            refine f_iln 3 rfl hL rfl ?_
            refine f_il 0 rfl hL rfl ?_
            refine f_bipush (n := -9) rfl (by decide) ?_
            refine m_k0 (show h_M 79 [.ref 55, fi (1), fi (1), fi (-9)] (up m 61 24 (i32w ((m 61 24) + 1))) none (up (up (up m 61 24 (i32w ((m 61 24) + 1))) 61 19 (-9)) 61 24 0) from t79_1 (m := (up m 61 24 (i32w ((m 61 24) + 1)))) (p := 1) (k := -9) (by decide) (by decide) (by decide)) hw12 hm12 rfl rfl rfl (m_ar so55 hw12 rfl) rfl (fun hc13 hw13 hm13 => ?_)
            refine f_inc 0 [(4, fi (2)), (3, fi (b)), (0, .ref 55), (1, fi (1)), (2, fi (18))] rfl (by decide) hL rfl rfl (fun L16 hL16 => ?_)
            refine f_goto rfl ?_
            have e9 : pw18 m 19 24 = (up (up (up m 61 24 (i32w ((m 61 24) + 1))) 61 19 (-9)) 61 24 (0)) := by unfold pw18; rw [if_neg (by omega), if_pos (by omega)]
            rw [l2_18_1_t (by omega) e9]
            exact hJ2 _ hc13 b _ hw13 hm13 (jM18_up (jM18_n (jM18_up hJ (by omega))) (by omega)) (hL16.sel [0, 1, 2, 3, 4] rfl)
  have hJ0 : ∀ (m : Nat → Nat → Int) (hc : ev_H) (b : Int) (L : ev_L), y_in yGw hc → gi hc = m → jM18 m → f_L L [(4, fi (0)), (3, fi (b)), (0, .ref 55), (1, fi (1)), (2, fi (18))] → x_W none (1, 0, 6, 1, 11, 3, 66, 0, 0, ev_t91) 102 L [] hc 0 0 (fun r' h' => r' = some (fi b) ∧ y_in yGw h' ∧ gi h' = l2_18_0 m) := fun m hc b L hw hm hJ hL => by
    have hR := gi_R hm
    have hn := hJ.1
    have hp := hJ.2.1
    refine f_il 0 rfl hL rfl ?_
    refine f_aln 2 rfl hL rfl ?_
    refine m_gfi so55 (m 55 1) rfl hw hm rfl rfl ?_
    refine f_ic rfl (by decide) (by omega) (fun c1 => ?_) (fun c1 => ?_)
    · have c1 : (m 55 1 : Int) ≤ (0 : Int) := c1
      refine f_aln 2 rfl hL rfl ?_
      refine m_gfr so55 rfl hw rfl (by decide) ?_
      refine f_iln 4 rfl hL rfl ?_
      refine f_bipush (n := 17) rfl (by decide) ?_
      refine f_iadd rfl ?_
      refine b_eq (x := 35) (by decide) ?_
      refine f_s [fi (35), .ref 61, fi (35), .ref 61] rfl rfl ?_
      refine m_ia sa61 (m 61 35) rfl hw hm (by omega) (by omega) (by decide) rfl ?_
      refine f_s [fi (1), fi (m 61 35), fi (35), .ref 61] rfl rfl ?_
      refine f_iadd rfl ?_
      refine b_w ?_
      refine m_ias sa61 rfl hw hm (by omega) (by omega) (by decide) i32w_r (fun hc14 hw14 hm14 => ?_)
      refine f_iln 1 rfl hL rfl ?_
      exact f_ret1 rfl ⟨rfl, hw14, by rw [hm14]; exact (l2_18_0_o (by omega)).symm⟩
    · have c1 : ¬ ((m 55 1 : Int) ≤ (0 : Int)) := c1
      have jv : m 61 18 = -9 ∨ (0 ≤ m 61 18 ∧ m 61 18 < 4) := hJ.2.2 0 (by decide) (by omega)
      refine f_aln 2 rfl hL rfl ?_
      refine m_gfr so55 rfl hw rfl (by decide) ?_
      refine f_iln 4 rfl hL rfl ?_
      refine f_il 0 rfl hL rfl ?_
      refine f_iadd rfl ?_
      refine b_eq (x := 18) (by decide) ?_
      refine m_ia sa61 (m 61 18) rfl hw hm (by omega) (by omega) (by decide) rfl ?_
      refine f_bipush (n := -9) rfl (by decide) ?_
      refine f_ic rfl (hR 61 18) (by decide) (fun c2 => ?_) (fun c2 => ?_)
      · have c2 : (m 61 18 : Int) = (-9 : Int) := c2
        refine f_inc 0 [(4, fi (1)), (3, fi (b)), (0, .ref 55), (1, fi (1)), (2, fi (18))] rfl (by decide) hL rfl rfl (fun L17 hL17 => ?_)
        refine f_goto rfl ?_
        have e9 : pw18 m 18 23 = m := by unfold pw18; rw [if_pos (by omega)]
        rw [l2_18_0_t (by omega) e9]
        exact hJ1 _ hc b _ hw hm hJ (hL17.sel [0, 1, 2, 3, 4] rfl)
      · have c2 : ¬ ((m 61 18 : Int) = (-9 : Int)) := c2
        refine f_aln 2 rfl hL rfl ?_
        refine m_gfr so55 rfl hw rfl (by decide) ?_
        refine f_iln 4 rfl hL rfl ?_
        refine f_s [fi (5), fi (18), .ref 61] rfl rfl ?_
        refine f_iadd rfl ?_
        refine b_eq (x := 23) (by decide) ?_
        refine f_il 0 rfl hL rfl ?_
        refine f_iadd rfl ?_
        refine b_eq (x := 23) (by decide) ?_
        refine f_s [fi (23), .ref 61, fi (23), .ref 61] rfl rfl ?_
        refine m_ia sa61 (m 61 23) rfl hw hm (by omega) (by omega) (by decide) rfl ?_
        refine f_s [fi (1), fi (m 61 23), fi (23), .ref 61] rfl rfl ?_
        refine f_iadd rfl ?_
        refine b_w ?_
        refine m_ias sa61 rfl hw hm (by omega) (by omega) (by decide) i32w_r (fun hc15 hw15 hm15 => ?_)
        refine f_aln 2 rfl hL rfl ?_
        refine m_gfr so55 rfl hw15 rfl (by decide) ?_
        refine f_aln 2 rfl hL rfl ?_
        refine m_gfr so55 rfl hw15 rfl (by decide) ?_
        refine f_iln 4 rfl hL rfl ?_
        refine f_il 0 rfl hL rfl ?_
        refine f_iadd rfl ?_
        refine b_eq (x := 18) (by decide) ?_
        refine m_ia sa61 (m 61 18) rfl hw15 hm15 (by omega) (by omega) (by decide) rfl ?_
        refine m_ia sa56 (m 56 (m 61 18).toNat) rfl hw15 hm15 (by omega) (by omega) (by decide) rfl ?_
        refine f_s [fi (3), fi (m 56 (m 61 18).toNat)] rfl rfl ?_
        refine f_ic rfl (hR _ _) (by decide) (fun c3 => ?_) (fun c3 => ?_)
        · have c3 : ¬ (m 56 (m 61 18).toNat : Int) = (3 : Int) := c3
          refine f_inc 0 [(4, fi (1)), (3, fi (b)), (0, .ref 55), (1, fi (1)), (2, fi (18))] rfl (by decide) hL rfl rfl (fun L18 hL18 => ?_)
          refine f_goto rfl ?_
          have e9 : pw18 m 18 23 = (up m 61 23 (i32w ((m 61 23) + 1))) := by unfold pw18; rw [if_neg (by omega), if_neg (by omega)]
          rw [l2_18_0_t (by omega) e9]
          exact hJ1 _ hc15 b _ hw15 hm15 (jM18_up hJ (by omega)) (hL18.sel [0, 1, 2, 3, 4] rfl)
        · have c3 : ¬ (¬ (m 56 (m 61 18).toNat : Int) = (3 : Int)) := c3
          refine f_aln 2 rfl hL rfl ?_
          refine m_gfr so55 rfl hw15 rfl (by decide) ?_
          refine f_iln 4 rfl hL rfl ?_
          refine f_s [fi (5), fi (18), .ref 61] rfl rfl ?_
          refine f_iadd rfl ?_
          refine b_eq (x := 23) (by decide) ?_
          refine f_il 0 rfl hL rfl ?_
          refine f_iadd rfl ?_
          refine b_eq (x := 23) (by decide) ?_
          refine m_ia sa61 (i32w ((m 61 23) + 1)) rfl hw15 hm15 (by omega) (by omega) (by decide) rfl ?_
          refine f_s [fi (2), fi (i32w ((m 61 23) + 1))] rfl rfl ?_
          refine f_ic rfl i32w_r (by decide) (fun c4 => ?_) (fun c4 => ?_)
          · have c4 : (i32w ((m 61 23) + 1) : Int) ≤ (2 : Int) := c4
            refine f_inc 0 [(4, fi (1)), (3, fi (b)), (0, .ref 55), (1, fi (1)), (2, fi (18))] rfl (by decide) hL rfl rfl (fun L19 hL19 => ?_)
            refine f_goto rfl ?_
            have e9 : pw18 m 18 23 = (up m 61 23 (i32w ((m 61 23) + 1))) := by unfold pw18; rw [if_neg (by omega), if_neg (by omega)]
            rw [l2_18_0_t (by omega) e9]
            exact hJ1 _ hc15 b _ hw15 hm15 (jM18_up hJ (by omega)) (hL19.sel [0, 1, 2, 3, 4] rfl)
          · have c4 : ¬ ((i32w ((m 61 23) + 1) : Int) ≤ (2 : Int)) := c4
            refine f_aln 2 rfl hL rfl ?_
            refine f_iln 3 rfl hL rfl ?_
            refine f_il 0 rfl hL rfl ?_
            refine f_bipush (n := -9) rfl (by decide) ?_
            refine m_k0 (show h_M 79 [.ref 55, fi (1), fi (0), fi (-9)] (up m 61 23 (i32w ((m 61 23) + 1))) none (up (up (up m 61 23 (i32w ((m 61 23) + 1))) 61 18 (-9)) 61 23 0) from t79_1 (m := (up m 61 23 (i32w ((m 61 23) + 1)))) (p := 0) (k := -9) (by decide) (by decide) (by decide)) hw15 hm15 rfl rfl rfl (m_ar so55 hw15 rfl) rfl (fun hc16 hw16 hm16 => ?_)
            refine f_inc 0 [(4, fi (1)), (3, fi (b)), (0, .ref 55), (1, fi (1)), (2, fi (18))] rfl (by decide) hL rfl rfl (fun L20 hL20 => ?_)
            refine f_goto rfl ?_
            have e9 : pw18 m 18 23 = (up (up (up m 61 23 (i32w ((m 61 23) + 1))) 61 18 (-9)) 61 23 (0)) := by unfold pw18; rw [if_neg (by omega), if_pos (by omega)]
            rw [l2_18_0_t (by omega) e9]
            exact hJ1 _ hc16 b _ hw16 hm16 (jM18_up (jM18_n (jM18_up hJ (by omega))) (by omega)) (hL20.sel [0, 1, 2, 3, 4] rfl)
  have hK5 : ∀ (m : Nat → Nat → Int) (hc : ev_H) (b : Int) (L : ev_L), y_in yGw hc → gi hc = m → jM18 m → f_L L [(4, fi (5)), (3, fi (b)), (0, .ref 55), (1, fi (1)), (2, fi (18))] → x_W none (1, 0, 6, 1, 11, 3, 66, 0, 0, ev_t91) 10 L [] hc 0 0 (fun r' h' => r' = some (fi (l1_18_5 m b).2) ∧ y_in yGw h' ∧ gi h' = (l1_18_5 m b).1) := fun m hc b L hw hm hJ hL => by
    have hR := gi_R hm
    have hn := hJ.1
    have hp := hJ.2.1
    refine f_il 0 rfl hL rfl ?_
    refine f_aln 2 rfl hL rfl ?_
    refine m_gfi so55 (m 55 1) rfl hw hm rfl rfl ?_
    refine f_ic rfl (by decide) (by omega) (fun _ => ?_) (fun c_9 => absurd (show (m 55 1 : Int) ≤ (5 : Int) from (by omega)) c_9)
    refine f_s [fi (0)] rfl rfl ?_
    refine f_ist [(4, fi (0)), (3, fi (b)), (0, .ref 55), (1, fi (1)), (2, fi (18))] rfl (by decide) hL rfl (fun L21 hL21 => ?_)
    exact hJ0 _ hc b _ hw hm hJ (hL21.sel [0, 1, 2, 3, 4] rfl)
  have hK4 : ∀ (m : Nat → Nat → Int) (hc : ev_H) (b : Int) (L : ev_L), y_in yGw hc → gi hc = m → jM18 m → f_L L [(4, fi (4)), (3, fi (b)), (0, .ref 55), (1, fi (1)), (2, fi (18))] → x_W none (1, 0, 6, 1, 11, 3, 66, 0, 0, ev_t91) 10 L [] hc 0 0 (fun r' h' => r' = some (fi (l1_18_4 m b).2) ∧ y_in yGw h' ∧ gi h' = (l1_18_4 m b).1) := fun m hc b L hw hm hJ hL => by
    have hR := gi_R hm
    have hn := hJ.1
    have hp := hJ.2.1
    refine f_il 0 rfl hL rfl ?_
    refine f_aln 2 rfl hL rfl ?_
    refine m_gfi so55 (m 55 1) rfl hw hm rfl rfl ?_
    refine f_ic rfl (by decide) (by omega) (fun c1 => ?_) (fun c1 => ?_)
    · have c1 : (m 55 1 : Int) ≤ (4 : Int) := c1
      rw [l1_18_4_o (by omega)]
      refine f_s [fi (0)] rfl rfl ?_
      refine f_ist [(4, fi (0)), (3, fi (b)), (0, .ref 55), (1, fi (1)), (2, fi (18))] rfl (by decide) hL rfl (fun L22 hL22 => ?_)
      exact hJ0 _ hc b _ hw hm hJ (hL22.sel [0, 1, 2, 3, 4] rfl)
    · have c1 : ¬ ((m 55 1 : Int) ≤ (4 : Int)) := c1
      have jv : m 61 22 = -9 ∨ (0 ≤ m 61 22 ∧ m 61 22 < 4) := hJ.2.2 4 (by decide) (by omega)
      refine f_aln 2 rfl hL rfl ?_
      refine f_iln 3 rfl hL rfl ?_
      refine f_il 0 rfl hL rfl ?_
      refine f_aln 2 rfl hL rfl ?_
      refine m_gfr so55 rfl hw rfl (by decide) ?_
      refine f_iln 4 rfl hL rfl ?_
      refine f_bipush (n := 17) rfl (by decide) ?_
      refine f_iadd rfl ?_
      refine b_eq (x := 35) (by decide) ?_
      refine m_ia sa61 (m 61 35) rfl hw hm (by omega) (by omega) (by decide) rfl ?_
      refine m_k1 (t90_1 (p := 4) (h := m 61 35) (by decide) (by decide) (hR 61 35) (fv := m 58 4) rfl (hR 58 4) (uv := m 59 4) rfl (hR 59 4)) hw hm rfl rfl rfl (m_ar so55 hw rfl) rfl (fun hc17 hw17 hm17 => ?_)
      refine f_if rfl (bI_r _) (fun c2 => ?_) (fun c2 => ?_)
      · have c2 : (bI (decide (¬ iA (iR (m 61 34) (4)) (1) = 1 ∧ m 58 4 ≤ m 61 35 ∧ m 61 35 ≤ m 59 4)) : Int) = (0 : Int) := c2
        have c2 : ¬ (¬ iA (iR (m 61 34) (4)) (1) = 1 ∧ m 58 4 ≤ m 61 35 ∧ m 61 35 ≤ m 59 4) := bI_f c2
        refine f_s [fi (0)] rfl rfl ?_
        refine f_ist [(5, fi (0)), (4, fi (4)), (3, fi (b)), (0, .ref 55), (1, fi (1)), (2, fi (18))] rfl (by decide) hL rfl (fun L23 hL23 => ?_)
        refine f_aln 3 rfl hL23 rfl ?_
        refine m_gfr so55 rfl hw17 rfl (by decide) ?_
        refine f_iln 5 rfl hL23 rfl ?_
        refine f_bipush (n := 10) rfl (by decide) ?_
        refine f_iadd rfl ?_
        refine b_eq (x := 28) (by decide) ?_
        refine f_il 1 rfl hL23 rfl ?_
        refine f_iadd rfl ?_
        refine b_eq (x := 32) (by decide) ?_
        refine f_s [fi (32), .ref 61, fi (32), .ref 61] rfl rfl ?_
        refine m_ia sa61 (m 61 32) rfl hw17 hm17 (by omega) (by omega) (by decide) rfl ?_
        refine f_il 0 rfl hL23 rfl ?_
        refine f_if rfl (by decide) (fun _ => ?_) (fun c_9 => absurd (show (0 : Int) = (0 : Int) from (by decide)) c_9)
        refine f_s [fi (0), fi (m 61 32), fi (32), .ref 61] rfl rfl ?_
        refine f_iadd rfl ?_
        refine b_w ?_
        refine m_ias sa61 rfl hw17 hm17 (by omega) (by omega) (by decide) i32w_r (fun hc18 hw18 hm18 => ?_)
        refine f_iln 2 rfl hL23 rfl ?_
        refine f_il 0 rfl hL23 rfl ?_
        refine f_if rfl (by decide) (fun _ => ?_) (fun c_9 => absurd (show (0 : Int) = (0 : Int) from (by decide)) c_9)
        refine f_s [fi (0), fi (b)] rfl rfl ?_
        refine f_iadd rfl ?_
        refine f_istn [(3, fi (b + 0)), (5, fi (0)), (4, fi (4)), (0, .ref 55), (1, fi (1)), (2, fi (18))] rfl (by decide) hL23 rfl (fun L24 hL24 => ?_)
        refine f_inc 2 [(4, fi (5)), (3, fi (b + 0)), (5, fi (0)), (0, .ref 55), (1, fi (1)), (2, fi (18))] rfl (by decide) hL24 rfl rfl (fun L25 hL25 => ?_)
        refine f_goto rfl ?_
        have e9 : wt18 m 4 4 22 = 0 := if_neg (fun z => c2 z.1)
        rw [l1_18_4_t (by omega) e9]
        exact hK5 _ hc18 (b + 0) _ hw18 hm18 (jM18_up hJ (by omega)) (hL25.sel [0, 1, 3, 4, 5] rfl)
      · have c2 : ¬ ((bI (decide (¬ iA (iR (m 61 34) (4)) (1) = 1 ∧ m 58 4 ≤ m 61 35 ∧ m 61 35 ≤ m 59 4)) : Int) = (0 : Int)) := c2
        have c2 : ¬ iA (iR (m 61 34) (4)) (1) = 1 ∧ m 58 4 ≤ m 61 35 ∧ m 61 35 ≤ m 59 4 := bI_t c2
        refine f_aln 2 rfl hL rfl ?_
        refine f_iln 3 rfl hL rfl ?_
        refine f_il 0 rfl hL rfl ?_
        refine m_k1 (t62_1 (p := 4) (wv := m 61 22) (kv := m 56 (m 61 22).toNat) hn hp (by decide) (by decide) rfl (hR 61 22) jv rfl (hR 56 _)) hw17 hm17 rfl rfl rfl (m_ar so55 hw17 rfl) rfl (fun hc19 hw19 hm19 => ?_)
        refine f_if rfl (by have := sbM18_01 m (m 61 22); omega) (fun c3 => ?_) (fun c3 => ?_)
        · have c3 : ¬ (sbM18 m (m 61 22) : Int) = (0 : Int) := c3
          refine f_s [fi (0)] rfl rfl ?_
          refine f_ist [(5, fi (0)), (4, fi (4)), (3, fi (b)), (0, .ref 55), (1, fi (1)), (2, fi (18))] rfl (by decide) hL rfl (fun L26 hL26 => ?_)
          refine f_aln 3 rfl hL26 rfl ?_
          refine m_gfr so55 rfl hw19 rfl (by decide) ?_
          refine f_iln 5 rfl hL26 rfl ?_
          refine f_bipush (n := 10) rfl (by decide) ?_
          refine f_iadd rfl ?_
          refine b_eq (x := 28) (by decide) ?_
          refine f_il 1 rfl hL26 rfl ?_
          refine f_iadd rfl ?_
          refine b_eq (x := 32) (by decide) ?_
          refine f_s [fi (32), .ref 61, fi (32), .ref 61] rfl rfl ?_
          refine m_ia sa61 (m 61 32) rfl hw19 hm19 (by omega) (by omega) (by decide) rfl ?_
          refine f_il 0 rfl hL26 rfl ?_
          refine f_if rfl (by decide) (fun _ => ?_) (fun c_9 => absurd (show (0 : Int) = (0 : Int) from (by decide)) c_9)
          refine f_s [fi (0), fi (m 61 32), fi (32), .ref 61] rfl rfl ?_
          refine f_iadd rfl ?_
          refine b_w ?_
          refine m_ias sa61 rfl hw19 hm19 (by omega) (by omega) (by decide) i32w_r (fun hc20 hw20 hm20 => ?_)
          refine f_iln 2 rfl hL26 rfl ?_
          refine f_il 0 rfl hL26 rfl ?_
          refine f_if rfl (by decide) (fun _ => ?_) (fun c_9 => absurd (show (0 : Int) = (0 : Int) from (by decide)) c_9)
          refine f_s [fi (0), fi (b)] rfl rfl ?_
          refine f_iadd rfl ?_
          refine f_istn [(3, fi (b + 0)), (5, fi (0)), (4, fi (4)), (0, .ref 55), (1, fi (1)), (2, fi (18))] rfl (by decide) hL26 rfl (fun L27 hL27 => ?_)
          refine f_inc 2 [(4, fi (5)), (3, fi (b + 0)), (5, fi (0)), (0, .ref 55), (1, fi (1)), (2, fi (18))] rfl (by decide) hL27 rfl rfl (fun L28 hL28 => ?_)
          refine f_goto rfl ?_
          have e9 : wt18 m 4 4 22 = 0 := if_neg (fun z => c3 z.2)
          rw [l1_18_4_t (by omega) e9]
          exact hK5 _ hc20 (b + 0) _ hw20 hm20 (jM18_up hJ (by omega)) (hL28.sel [0, 1, 3, 4, 5] rfl)
        · have c3 : ¬ (¬ (sbM18 m (m 61 22) : Int) = (0 : Int)) := c3
          refine f_s [fi (1)] rfl rfl ?_
          refine f_goto rfl ?_
          refine f_ist [(5, fi (1)), (4, fi (4)), (3, fi (b)), (0, .ref 55), (1, fi (1)), (2, fi (18))] rfl (by decide) hL rfl (fun L29 hL29 => ?_)
          refine f_aln 3 rfl hL29 rfl ?_
          refine m_gfr so55 rfl hw19 rfl (by decide) ?_
          refine f_iln 5 rfl hL29 rfl ?_
          refine f_bipush (n := 10) rfl (by decide) ?_
          refine f_iadd rfl ?_
          refine b_eq (x := 28) (by decide) ?_
          refine f_il 1 rfl hL29 rfl ?_
          refine f_iadd rfl ?_
          refine b_eq (x := 32) (by decide) ?_
          refine f_s [fi (32), .ref 61, fi (32), .ref 61] rfl rfl ?_
          refine m_ia sa61 (m 61 32) rfl hw19 hm19 (by omega) (by omega) (by decide) rfl ?_
          refine f_il 0 rfl hL29 rfl ?_
          refine f_if rfl (by decide) (fun c_9 => absurd (show (1 : Int) = (0 : Int) from c_9) (by decide)) (fun _ => ?_)
          refine f_s [fi (1), fi (m 61 32), fi (32), .ref 61] rfl rfl ?_
          refine f_goto rfl ?_
          refine f_iadd rfl ?_
          refine b_w ?_
          refine m_ias sa61 rfl hw19 hm19 (by omega) (by omega) (by decide) i32w_r (fun hc21 hw21 hm21 => ?_)
          refine f_iln 2 rfl hL29 rfl ?_
          refine f_il 0 rfl hL29 rfl ?_
          refine f_if rfl (by decide) (fun c_9 => absurd (show (1 : Int) = (0 : Int) from c_9) (by decide)) (fun _ => ?_)
          refine f_s [fi (1), fi (b)] rfl rfl ?_
          refine f_goto rfl ?_
          refine f_iadd rfl ?_
          refine f_istn [(3, fi (b + 1)), (5, fi (1)), (4, fi (4)), (0, .ref 55), (1, fi (1)), (2, fi (18))] rfl (by decide) hL29 rfl (fun L30 hL30 => ?_)
          refine f_inc 2 [(4, fi (5)), (3, fi (b + 1)), (5, fi (1)), (0, .ref 55), (1, fi (1)), (2, fi (18))] rfl (by decide) hL30 rfl rfl (fun L31 hL31 => ?_)
          refine f_goto rfl ?_
          have e9 : wt18 m 4 4 22 = 1 := if_pos ⟨c2, by omega⟩
          rw [l1_18_4_t (by omega) e9]
          exact hK5 _ hc21 (b + 1) _ hw21 hm21 (jM18_up hJ (by omega)) (hL31.sel [0, 1, 3, 4, 5] rfl)
  have hK3 : ∀ (m : Nat → Nat → Int) (hc : ev_H) (b : Int) (L : ev_L), y_in yGw hc → gi hc = m → jM18 m → f_L L [(4, fi (3)), (3, fi (b)), (0, .ref 55), (1, fi (1)), (2, fi (18))] → x_W none (1, 0, 6, 1, 11, 3, 66, 0, 0, ev_t91) 10 L [] hc 0 0 (fun r' h' => r' = some (fi (l1_18_3 m b).2) ∧ y_in yGw h' ∧ gi h' = (l1_18_3 m b).1) := fun m hc b L hw hm hJ hL => by
    have hR := gi_R hm
    have hn := hJ.1
    have hp := hJ.2.1
    refine f_il 0 rfl hL rfl ?_
    refine f_aln 2 rfl hL rfl ?_
    refine m_gfi so55 (m 55 1) rfl hw hm rfl rfl ?_
    refine f_ic rfl (by decide) (by omega) (fun c1 => ?_) (fun c1 => ?_)
    · have c1 : (m 55 1 : Int) ≤ (3 : Int) := c1
      rw [l1_18_3_o (by omega)]
      refine f_s [fi (0)] rfl rfl ?_
      refine f_ist [(4, fi (0)), (3, fi (b)), (0, .ref 55), (1, fi (1)), (2, fi (18))] rfl (by decide) hL rfl (fun L32 hL32 => ?_)
      exact hJ0 _ hc b _ hw hm hJ (hL32.sel [0, 1, 2, 3, 4] rfl)
    · have c1 : ¬ ((m 55 1 : Int) ≤ (3 : Int)) := c1
      have jv : m 61 21 = -9 ∨ (0 ≤ m 61 21 ∧ m 61 21 < 4) := hJ.2.2 3 (by decide) (by omega)
      refine f_aln 2 rfl hL rfl ?_
      refine f_iln 3 rfl hL rfl ?_
      refine f_il 0 rfl hL rfl ?_
      refine f_aln 2 rfl hL rfl ?_
      refine m_gfr so55 rfl hw rfl (by decide) ?_
      refine f_iln 4 rfl hL rfl ?_
      refine f_bipush (n := 17) rfl (by decide) ?_
      refine f_iadd rfl ?_
      refine b_eq (x := 35) (by decide) ?_
      refine m_ia sa61 (m 61 35) rfl hw hm (by omega) (by omega) (by decide) rfl ?_
      refine m_k1 (t90_1 (p := 3) (h := m 61 35) (by decide) (by decide) (hR 61 35) (fv := m 58 3) rfl (hR 58 3) (uv := m 59 3) rfl (hR 59 3)) hw hm rfl rfl rfl (m_ar so55 hw rfl) rfl (fun hc22 hw22 hm22 => ?_)
      refine f_if rfl (bI_r _) (fun c2 => ?_) (fun c2 => ?_)
      · have c2 : (bI (decide (¬ iA (iR (m 61 34) (3)) (1) = 1 ∧ m 58 3 ≤ m 61 35 ∧ m 61 35 ≤ m 59 3)) : Int) = (0 : Int) := c2
        have c2 : ¬ (¬ iA (iR (m 61 34) (3)) (1) = 1 ∧ m 58 3 ≤ m 61 35 ∧ m 61 35 ≤ m 59 3) := bI_f c2
        refine f_s [fi (0)] rfl rfl ?_
        refine f_ist [(5, fi (0)), (4, fi (3)), (3, fi (b)), (0, .ref 55), (1, fi (1)), (2, fi (18))] rfl (by decide) hL rfl (fun L33 hL33 => ?_)
        refine f_aln 3 rfl hL33 rfl ?_
        refine m_gfr so55 rfl hw22 rfl (by decide) ?_
        refine f_iln 5 rfl hL33 rfl ?_
        refine f_bipush (n := 10) rfl (by decide) ?_
        refine f_iadd rfl ?_
        refine b_eq (x := 28) (by decide) ?_
        refine f_il 1 rfl hL33 rfl ?_
        refine f_iadd rfl ?_
        refine b_eq (x := 31) (by decide) ?_
        refine f_s [fi (31), .ref 61, fi (31), .ref 61] rfl rfl ?_
        refine m_ia sa61 (m 61 31) rfl hw22 hm22 (by omega) (by omega) (by decide) rfl ?_
        refine f_il 0 rfl hL33 rfl ?_
        refine f_if rfl (by decide) (fun _ => ?_) (fun c_9 => absurd (show (0 : Int) = (0 : Int) from (by decide)) c_9)
        refine f_s [fi (0), fi (m 61 31), fi (31), .ref 61] rfl rfl ?_
        refine f_iadd rfl ?_
        refine b_w ?_
        refine m_ias sa61 rfl hw22 hm22 (by omega) (by omega) (by decide) i32w_r (fun hc23 hw23 hm23 => ?_)
        refine f_iln 2 rfl hL33 rfl ?_
        refine f_il 0 rfl hL33 rfl ?_
        refine f_if rfl (by decide) (fun _ => ?_) (fun c_9 => absurd (show (0 : Int) = (0 : Int) from (by decide)) c_9)
        refine f_s [fi (0), fi (b)] rfl rfl ?_
        refine f_iadd rfl ?_
        refine f_istn [(3, fi (b + 0)), (5, fi (0)), (4, fi (3)), (0, .ref 55), (1, fi (1)), (2, fi (18))] rfl (by decide) hL33 rfl (fun L34 hL34 => ?_)
        refine f_inc 2 [(4, fi (4)), (3, fi (b + 0)), (5, fi (0)), (0, .ref 55), (1, fi (1)), (2, fi (18))] rfl (by decide) hL34 rfl rfl (fun L35 hL35 => ?_)
        refine f_goto rfl ?_
        have e9 : wt18 m 3 3 21 = 0 := if_neg (fun z => c2 z.1)
        rw [l1_18_3_t (by omega) e9]
        exact hK4 _ hc23 (b + 0) _ hw23 hm23 (jM18_up hJ (by omega)) (hL35.sel [0, 1, 3, 4, 5] rfl)
      · have c2 : ¬ ((bI (decide (¬ iA (iR (m 61 34) (3)) (1) = 1 ∧ m 58 3 ≤ m 61 35 ∧ m 61 35 ≤ m 59 3)) : Int) = (0 : Int)) := c2
        have c2 : ¬ iA (iR (m 61 34) (3)) (1) = 1 ∧ m 58 3 ≤ m 61 35 ∧ m 61 35 ≤ m 59 3 := bI_t c2
        refine f_aln 2 rfl hL rfl ?_
        refine f_iln 3 rfl hL rfl ?_
        refine f_il 0 rfl hL rfl ?_
        refine m_k1 (t62_1 (p := 3) (wv := m 61 21) (kv := m 56 (m 61 21).toNat) hn hp (by decide) (by decide) rfl (hR 61 21) jv rfl (hR 56 _)) hw22 hm22 rfl rfl rfl (m_ar so55 hw22 rfl) rfl (fun hc24 hw24 hm24 => ?_)
        refine f_if rfl (by have := sbM18_01 m (m 61 21); omega) (fun c3 => ?_) (fun c3 => ?_)
        · have c3 : ¬ (sbM18 m (m 61 21) : Int) = (0 : Int) := c3
          refine f_s [fi (0)] rfl rfl ?_
          refine f_ist [(5, fi (0)), (4, fi (3)), (3, fi (b)), (0, .ref 55), (1, fi (1)), (2, fi (18))] rfl (by decide) hL rfl (fun L36 hL36 => ?_)
          refine f_aln 3 rfl hL36 rfl ?_
          refine m_gfr so55 rfl hw24 rfl (by decide) ?_
          refine f_iln 5 rfl hL36 rfl ?_
          refine f_bipush (n := 10) rfl (by decide) ?_
          refine f_iadd rfl ?_
          refine b_eq (x := 28) (by decide) ?_
          refine f_il 1 rfl hL36 rfl ?_
          refine f_iadd rfl ?_
          refine b_eq (x := 31) (by decide) ?_
          refine f_s [fi (31), .ref 61, fi (31), .ref 61] rfl rfl ?_
          refine m_ia sa61 (m 61 31) rfl hw24 hm24 (by omega) (by omega) (by decide) rfl ?_
          refine f_il 0 rfl hL36 rfl ?_
          refine f_if rfl (by decide) (fun _ => ?_) (fun c_9 => absurd (show (0 : Int) = (0 : Int) from (by decide)) c_9)
          refine f_s [fi (0), fi (m 61 31), fi (31), .ref 61] rfl rfl ?_
          refine f_iadd rfl ?_
          refine b_w ?_
          refine m_ias sa61 rfl hw24 hm24 (by omega) (by omega) (by decide) i32w_r (fun hc25 hw25 hm25 => ?_)
          refine f_iln 2 rfl hL36 rfl ?_
          refine f_il 0 rfl hL36 rfl ?_
          refine f_if rfl (by decide) (fun _ => ?_) (fun c_9 => absurd (show (0 : Int) = (0 : Int) from (by decide)) c_9)
          refine f_s [fi (0), fi (b)] rfl rfl ?_
          refine f_iadd rfl ?_
          refine f_istn [(3, fi (b + 0)), (5, fi (0)), (4, fi (3)), (0, .ref 55), (1, fi (1)), (2, fi (18))] rfl (by decide) hL36 rfl (fun L37 hL37 => ?_)
          refine f_inc 2 [(4, fi (4)), (3, fi (b + 0)), (5, fi (0)), (0, .ref 55), (1, fi (1)), (2, fi (18))] rfl (by decide) hL37 rfl rfl (fun L38 hL38 => ?_)
          refine f_goto rfl ?_
          have e9 : wt18 m 3 3 21 = 0 := if_neg (fun z => c3 z.2)
          rw [l1_18_3_t (by omega) e9]
          exact hK4 _ hc25 (b + 0) _ hw25 hm25 (jM18_up hJ (by omega)) (hL38.sel [0, 1, 3, 4, 5] rfl)
        · have c3 : ¬ (¬ (sbM18 m (m 61 21) : Int) = (0 : Int)) := c3
          refine f_s [fi (1)] rfl rfl ?_
          refine f_goto rfl ?_
          refine f_ist [(5, fi (1)), (4, fi (3)), (3, fi (b)), (0, .ref 55), (1, fi (1)), (2, fi (18))] rfl (by decide) hL rfl (fun L39 hL39 => ?_)
          refine f_aln 3 rfl hL39 rfl ?_
          refine m_gfr so55 rfl hw24 rfl (by decide) ?_
          refine f_iln 5 rfl hL39 rfl ?_
          refine f_bipush (n := 10) rfl (by decide) ?_
          refine f_iadd rfl ?_
          refine b_eq (x := 28) (by decide) ?_
          refine f_il 1 rfl hL39 rfl ?_
          refine f_iadd rfl ?_
          refine b_eq (x := 31) (by decide) ?_
          refine f_s [fi (31), .ref 61, fi (31), .ref 61] rfl rfl ?_
          refine m_ia sa61 (m 61 31) rfl hw24 hm24 (by omega) (by omega) (by decide) rfl ?_
          refine f_il 0 rfl hL39 rfl ?_
          refine f_if rfl (by decide) (fun c_9 => absurd (show (1 : Int) = (0 : Int) from c_9) (by decide)) (fun _ => ?_)
          refine f_s [fi (1), fi (m 61 31), fi (31), .ref 61] rfl rfl ?_
          refine f_goto rfl ?_
          refine f_iadd rfl ?_
          refine b_w ?_
          refine m_ias sa61 rfl hw24 hm24 (by omega) (by omega) (by decide) i32w_r (fun hc26 hw26 hm26 => ?_)
          refine f_iln 2 rfl hL39 rfl ?_
          refine f_il 0 rfl hL39 rfl ?_
          refine f_if rfl (by decide) (fun c_9 => absurd (show (1 : Int) = (0 : Int) from c_9) (by decide)) (fun _ => ?_)
          refine f_s [fi (1), fi (b)] rfl rfl ?_
          refine f_goto rfl ?_
          refine f_iadd rfl ?_
          refine f_istn [(3, fi (b + 1)), (5, fi (1)), (4, fi (3)), (0, .ref 55), (1, fi (1)), (2, fi (18))] rfl (by decide) hL39 rfl (fun L40 hL40 => ?_)
          refine f_inc 2 [(4, fi (4)), (3, fi (b + 1)), (5, fi (1)), (0, .ref 55), (1, fi (1)), (2, fi (18))] rfl (by decide) hL40 rfl rfl (fun L41 hL41 => ?_)
          refine f_goto rfl ?_
          have e9 : wt18 m 3 3 21 = 1 := if_pos ⟨c2, by omega⟩
          rw [l1_18_3_t (by omega) e9]
          exact hK4 _ hc26 (b + 1) _ hw26 hm26 (jM18_up hJ (by omega)) (hL41.sel [0, 1, 3, 4, 5] rfl)
  have hK2 : ∀ (m : Nat → Nat → Int) (hc : ev_H) (b : Int) (L : ev_L), y_in yGw hc → gi hc = m → jM18 m → f_L L [(4, fi (2)), (3, fi (b)), (0, .ref 55), (1, fi (1)), (2, fi (18))] → x_W none (1, 0, 6, 1, 11, 3, 66, 0, 0, ev_t91) 10 L [] hc 0 0 (fun r' h' => r' = some (fi (l1_18_2 m b).2) ∧ y_in yGw h' ∧ gi h' = (l1_18_2 m b).1) := fun m hc b L hw hm hJ hL => by
    have hR := gi_R hm
    have hn := hJ.1
    have hp := hJ.2.1
    refine f_il 0 rfl hL rfl ?_
    refine f_aln 2 rfl hL rfl ?_
    refine m_gfi so55 (m 55 1) rfl hw hm rfl rfl ?_
    refine f_ic rfl (by decide) (by omega) (fun c1 => ?_) (fun c1 => ?_)
    · have c1 : (m 55 1 : Int) ≤ (2 : Int) := c1
      rw [l1_18_2_o (by omega)]
      refine f_s [fi (0)] rfl rfl ?_
      refine f_ist [(4, fi (0)), (3, fi (b)), (0, .ref 55), (1, fi (1)), (2, fi (18))] rfl (by decide) hL rfl (fun L42 hL42 => ?_)
      exact hJ0 _ hc b _ hw hm hJ (hL42.sel [0, 1, 2, 3, 4] rfl)
    · have c1 : ¬ ((m 55 1 : Int) ≤ (2 : Int)) := c1
      have jv : m 61 20 = -9 ∨ (0 ≤ m 61 20 ∧ m 61 20 < 4) := hJ.2.2 2 (by decide) (by omega)
      refine f_aln 2 rfl hL rfl ?_
      refine f_iln 3 rfl hL rfl ?_
      refine f_il 0 rfl hL rfl ?_
      refine f_aln 2 rfl hL rfl ?_
      refine m_gfr so55 rfl hw rfl (by decide) ?_
      refine f_iln 4 rfl hL rfl ?_
      refine f_bipush (n := 17) rfl (by decide) ?_
      refine f_iadd rfl ?_
      refine b_eq (x := 35) (by decide) ?_
      refine m_ia sa61 (m 61 35) rfl hw hm (by omega) (by omega) (by decide) rfl ?_
      refine m_k1 (t90_1 (p := 2) (h := m 61 35) (by decide) (by decide) (hR 61 35) (fv := m 58 2) rfl (hR 58 2) (uv := m 59 2) rfl (hR 59 2)) hw hm rfl rfl rfl (m_ar so55 hw rfl) rfl (fun hc27 hw27 hm27 => ?_)
      refine f_if rfl (bI_r _) (fun c2 => ?_) (fun c2 => ?_)
      · have c2 : (bI (decide (¬ iA (iR (m 61 34) (2)) (1) = 1 ∧ m 58 2 ≤ m 61 35 ∧ m 61 35 ≤ m 59 2)) : Int) = (0 : Int) := c2
        have c2 : ¬ (¬ iA (iR (m 61 34) (2)) (1) = 1 ∧ m 58 2 ≤ m 61 35 ∧ m 61 35 ≤ m 59 2) := bI_f c2
        refine f_s [fi (0)] rfl rfl ?_
        refine f_ist [(5, fi (0)), (4, fi (2)), (3, fi (b)), (0, .ref 55), (1, fi (1)), (2, fi (18))] rfl (by decide) hL rfl (fun L43 hL43 => ?_)
        refine f_aln 3 rfl hL43 rfl ?_
        refine m_gfr so55 rfl hw27 rfl (by decide) ?_
        refine f_iln 5 rfl hL43 rfl ?_
        refine f_bipush (n := 10) rfl (by decide) ?_
        refine f_iadd rfl ?_
        refine b_eq (x := 28) (by decide) ?_
        refine f_il 1 rfl hL43 rfl ?_
        refine f_iadd rfl ?_
        refine b_eq (x := 30) (by decide) ?_
        refine f_s [fi (30), .ref 61, fi (30), .ref 61] rfl rfl ?_
        refine m_ia sa61 (m 61 30) rfl hw27 hm27 (by omega) (by omega) (by decide) rfl ?_
        refine f_il 0 rfl hL43 rfl ?_
        refine f_if rfl (by decide) (fun _ => ?_) (fun c_9 => absurd (show (0 : Int) = (0 : Int) from (by decide)) c_9)
        refine f_s [fi (0), fi (m 61 30), fi (30), .ref 61] rfl rfl ?_
        refine f_iadd rfl ?_
        refine b_w ?_
        refine m_ias sa61 rfl hw27 hm27 (by omega) (by omega) (by decide) i32w_r (fun hc28 hw28 hm28 => ?_)
        refine f_iln 2 rfl hL43 rfl ?_
        refine f_il 0 rfl hL43 rfl ?_
        refine f_if rfl (by decide) (fun _ => ?_) (fun c_9 => absurd (show (0 : Int) = (0 : Int) from (by decide)) c_9)
        refine f_s [fi (0), fi (b)] rfl rfl ?_
        refine f_iadd rfl ?_
        refine f_istn [(3, fi (b + 0)), (5, fi (0)), (4, fi (2)), (0, .ref 55), (1, fi (1)), (2, fi (18))] rfl (by decide) hL43 rfl (fun L44 hL44 => ?_)
        refine f_inc 2 [(4, fi (3)), (3, fi (b + 0)), (5, fi (0)), (0, .ref 55), (1, fi (1)), (2, fi (18))] rfl (by decide) hL44 rfl rfl (fun L45 hL45 => ?_)
        refine f_goto rfl ?_
        have e9 : wt18 m 2 2 20 = 0 := if_neg (fun z => c2 z.1)
        rw [l1_18_2_t (by omega) e9]
        exact hK3 _ hc28 (b + 0) _ hw28 hm28 (jM18_up hJ (by omega)) (hL45.sel [0, 1, 3, 4, 5] rfl)
      · have c2 : ¬ ((bI (decide (¬ iA (iR (m 61 34) (2)) (1) = 1 ∧ m 58 2 ≤ m 61 35 ∧ m 61 35 ≤ m 59 2)) : Int) = (0 : Int)) := c2
        have c2 : ¬ iA (iR (m 61 34) (2)) (1) = 1 ∧ m 58 2 ≤ m 61 35 ∧ m 61 35 ≤ m 59 2 := bI_t c2
        refine f_aln 2 rfl hL rfl ?_
        refine f_iln 3 rfl hL rfl ?_
        refine f_il 0 rfl hL rfl ?_
        refine m_k1 (t62_1 (p := 2) (wv := m 61 20) (kv := m 56 (m 61 20).toNat) hn hp (by decide) (by decide) rfl (hR 61 20) jv rfl (hR 56 _)) hw27 hm27 rfl rfl rfl (m_ar so55 hw27 rfl) rfl (fun hc29 hw29 hm29 => ?_)
        refine f_if rfl (by have := sbM18_01 m (m 61 20); omega) (fun c3 => ?_) (fun c3 => ?_)
        · have c3 : ¬ (sbM18 m (m 61 20) : Int) = (0 : Int) := c3
          refine f_s [fi (0)] rfl rfl ?_
          refine f_ist [(5, fi (0)), (4, fi (2)), (3, fi (b)), (0, .ref 55), (1, fi (1)), (2, fi (18))] rfl (by decide) hL rfl (fun L46 hL46 => ?_)
          refine f_aln 3 rfl hL46 rfl ?_
          refine m_gfr so55 rfl hw29 rfl (by decide) ?_
          refine f_iln 5 rfl hL46 rfl ?_
          refine f_bipush (n := 10) rfl (by decide) ?_
          refine f_iadd rfl ?_
          refine b_eq (x := 28) (by decide) ?_
          refine f_il 1 rfl hL46 rfl ?_
          refine f_iadd rfl ?_
          refine b_eq (x := 30) (by decide) ?_
          refine f_s [fi (30), .ref 61, fi (30), .ref 61] rfl rfl ?_
          refine m_ia sa61 (m 61 30) rfl hw29 hm29 (by omega) (by omega) (by decide) rfl ?_
          refine f_il 0 rfl hL46 rfl ?_
          refine f_if rfl (by decide) (fun _ => ?_) (fun c_9 => absurd (show (0 : Int) = (0 : Int) from (by decide)) c_9)
          refine f_s [fi (0), fi (m 61 30), fi (30), .ref 61] rfl rfl ?_
          refine f_iadd rfl ?_
          refine b_w ?_
          refine m_ias sa61 rfl hw29 hm29 (by omega) (by omega) (by decide) i32w_r (fun hc30 hw30 hm30 => ?_)
          refine f_iln 2 rfl hL46 rfl ?_
          refine f_il 0 rfl hL46 rfl ?_
          refine f_if rfl (by decide) (fun _ => ?_) (fun c_9 => absurd (show (0 : Int) = (0 : Int) from (by decide)) c_9)
          refine f_s [fi (0), fi (b)] rfl rfl ?_
          refine f_iadd rfl ?_
          refine f_istn [(3, fi (b + 0)), (5, fi (0)), (4, fi (2)), (0, .ref 55), (1, fi (1)), (2, fi (18))] rfl (by decide) hL46 rfl (fun L47 hL47 => ?_)
          refine f_inc 2 [(4, fi (3)), (3, fi (b + 0)), (5, fi (0)), (0, .ref 55), (1, fi (1)), (2, fi (18))] rfl (by decide) hL47 rfl rfl (fun L48 hL48 => ?_)
          refine f_goto rfl ?_
          have e9 : wt18 m 2 2 20 = 0 := if_neg (fun z => c3 z.2)
          rw [l1_18_2_t (by omega) e9]
          exact hK3 _ hc30 (b + 0) _ hw30 hm30 (jM18_up hJ (by omega)) (hL48.sel [0, 1, 3, 4, 5] rfl)
        · have c3 : ¬ (¬ (sbM18 m (m 61 20) : Int) = (0 : Int)) := c3
          refine f_s [fi (1)] rfl rfl ?_
          refine f_goto rfl ?_
          refine f_ist [(5, fi (1)), (4, fi (2)), (3, fi (b)), (0, .ref 55), (1, fi (1)), (2, fi (18))] rfl (by decide) hL rfl (fun L49 hL49 => ?_)
          refine f_aln 3 rfl hL49 rfl ?_
          refine m_gfr so55 rfl hw29 rfl (by decide) ?_
          refine f_iln 5 rfl hL49 rfl ?_
          refine f_bipush (n := 10) rfl (by decide) ?_
          refine f_iadd rfl ?_
          refine b_eq (x := 28) (by decide) ?_
          refine f_il 1 rfl hL49 rfl ?_
          refine f_iadd rfl ?_
          refine b_eq (x := 30) (by decide) ?_
          refine f_s [fi (30), .ref 61, fi (30), .ref 61] rfl rfl ?_
          refine m_ia sa61 (m 61 30) rfl hw29 hm29 (by omega) (by omega) (by decide) rfl ?_
          refine f_il 0 rfl hL49 rfl ?_
          refine f_if rfl (by decide) (fun c_9 => absurd (show (1 : Int) = (0 : Int) from c_9) (by decide)) (fun _ => ?_)
          refine f_s [fi (1), fi (m 61 30), fi (30), .ref 61] rfl rfl ?_
          refine f_goto rfl ?_
          refine f_iadd rfl ?_
          refine b_w ?_
          refine m_ias sa61 rfl hw29 hm29 (by omega) (by omega) (by decide) i32w_r (fun hc31 hw31 hm31 => ?_)
          refine f_iln 2 rfl hL49 rfl ?_
          refine f_il 0 rfl hL49 rfl ?_
          refine f_if rfl (by decide) (fun c_9 => absurd (show (1 : Int) = (0 : Int) from c_9) (by decide)) (fun _ => ?_)
          refine f_s [fi (1), fi (b)] rfl rfl ?_
          refine f_goto rfl ?_
          refine f_iadd rfl ?_
          refine f_istn [(3, fi (b + 1)), (5, fi (1)), (4, fi (2)), (0, .ref 55), (1, fi (1)), (2, fi (18))] rfl (by decide) hL49 rfl (fun L50 hL50 => ?_)
          refine f_inc 2 [(4, fi (3)), (3, fi (b + 1)), (5, fi (1)), (0, .ref 55), (1, fi (1)), (2, fi (18))] rfl (by decide) hL50 rfl rfl (fun L51 hL51 => ?_)
          refine f_goto rfl ?_
          have e9 : wt18 m 2 2 20 = 1 := if_pos ⟨c2, by omega⟩
          rw [l1_18_2_t (by omega) e9]
          exact hK3 _ hc31 (b + 1) _ hw31 hm31 (jM18_up hJ (by omega)) (hL51.sel [0, 1, 3, 4, 5] rfl)
  have hK1 : ∀ (m : Nat → Nat → Int) (hc : ev_H) (b : Int) (L : ev_L), y_in yGw hc → gi hc = m → jM18 m → f_L L [(4, fi (1)), (3, fi (b)), (0, .ref 55), (1, fi (1)), (2, fi (18))] → x_W none (1, 0, 6, 1, 11, 3, 66, 0, 0, ev_t91) 10 L [] hc 0 0 (fun r' h' => r' = some (fi (l1_18_1 m b).2) ∧ y_in yGw h' ∧ gi h' = (l1_18_1 m b).1) := fun m hc b L hw hm hJ hL => by
    have hR := gi_R hm
    have hn := hJ.1
    have hp := hJ.2.1
    refine f_il 0 rfl hL rfl ?_
    refine f_aln 2 rfl hL rfl ?_
    refine m_gfi so55 (m 55 1) rfl hw hm rfl rfl ?_
    refine f_ic rfl (by decide) (by omega) (fun c1 => ?_) (fun c1 => ?_)
    · have c1 : (m 55 1 : Int) ≤ (1 : Int) := c1
      rw [l1_18_1_o (by omega)]
      refine f_s [fi (0)] rfl rfl ?_
      refine f_ist [(4, fi (0)), (3, fi (b)), (0, .ref 55), (1, fi (1)), (2, fi (18))] rfl (by decide) hL rfl (fun L52 hL52 => ?_)
      exact hJ0 _ hc b _ hw hm hJ (hL52.sel [0, 1, 2, 3, 4] rfl)
    · have c1 : ¬ ((m 55 1 : Int) ≤ (1 : Int)) := c1
      have jv : m 61 19 = -9 ∨ (0 ≤ m 61 19 ∧ m 61 19 < 4) := hJ.2.2 1 (by decide) (by omega)
      refine f_aln 2 rfl hL rfl ?_
      refine f_iln 3 rfl hL rfl ?_
      refine f_il 0 rfl hL rfl ?_
      refine f_aln 2 rfl hL rfl ?_
      refine m_gfr so55 rfl hw rfl (by decide) ?_
      refine f_iln 4 rfl hL rfl ?_
      refine f_bipush (n := 17) rfl (by decide) ?_
      refine f_iadd rfl ?_
      refine b_eq (x := 35) (by decide) ?_
      refine m_ia sa61 (m 61 35) rfl hw hm (by omega) (by omega) (by decide) rfl ?_
      refine m_k1 (t90_1 (p := 1) (h := m 61 35) (by decide) (by decide) (hR 61 35) (fv := m 58 1) rfl (hR 58 1) (uv := m 59 1) rfl (hR 59 1)) hw hm rfl rfl rfl (m_ar so55 hw rfl) rfl (fun hc32 hw32 hm32 => ?_)
      refine f_if rfl (bI_r _) (fun c2 => ?_) (fun c2 => ?_)
      · have c2 : (bI (decide (¬ iA (iR (m 61 34) (1)) (1) = 1 ∧ m 58 1 ≤ m 61 35 ∧ m 61 35 ≤ m 59 1)) : Int) = (0 : Int) := c2
        have c2 : ¬ (¬ iA (iR (m 61 34) (1)) (1) = 1 ∧ m 58 1 ≤ m 61 35 ∧ m 61 35 ≤ m 59 1) := bI_f c2
        refine f_s [fi (0)] rfl rfl ?_
        refine f_ist [(5, fi (0)), (4, fi (1)), (3, fi (b)), (0, .ref 55), (1, fi (1)), (2, fi (18))] rfl (by decide) hL rfl (fun L53 hL53 => ?_)
        refine f_aln 3 rfl hL53 rfl ?_
        refine m_gfr so55 rfl hw32 rfl (by decide) ?_
        refine f_iln 5 rfl hL53 rfl ?_
        refine f_bipush (n := 10) rfl (by decide) ?_
        refine f_iadd rfl ?_
        refine b_eq (x := 28) (by decide) ?_
        refine f_il 1 rfl hL53 rfl ?_
        refine f_iadd rfl ?_
        refine b_eq (x := 29) (by decide) ?_
        refine f_s [fi (29), .ref 61, fi (29), .ref 61] rfl rfl ?_
        refine m_ia sa61 (m 61 29) rfl hw32 hm32 (by omega) (by omega) (by decide) rfl ?_
        refine f_il 0 rfl hL53 rfl ?_
        refine f_if rfl (by decide) (fun _ => ?_) (fun c_9 => absurd (show (0 : Int) = (0 : Int) from (by decide)) c_9)
        refine f_s [fi (0), fi (m 61 29), fi (29), .ref 61] rfl rfl ?_
        refine f_iadd rfl ?_
        refine b_w ?_
        refine m_ias sa61 rfl hw32 hm32 (by omega) (by omega) (by decide) i32w_r (fun hc33 hw33 hm33 => ?_)
        refine f_iln 2 rfl hL53 rfl ?_
        refine f_il 0 rfl hL53 rfl ?_
        refine f_if rfl (by decide) (fun _ => ?_) (fun c_9 => absurd (show (0 : Int) = (0 : Int) from (by decide)) c_9)
        refine f_s [fi (0), fi (b)] rfl rfl ?_
        refine f_iadd rfl ?_
        refine f_istn [(3, fi (b + 0)), (5, fi (0)), (4, fi (1)), (0, .ref 55), (1, fi (1)), (2, fi (18))] rfl (by decide) hL53 rfl (fun L54 hL54 => ?_)
        refine f_inc 2 [(4, fi (2)), (3, fi (b + 0)), (5, fi (0)), (0, .ref 55), (1, fi (1)), (2, fi (18))] rfl (by decide) hL54 rfl rfl (fun L55 hL55 => ?_)
        refine f_goto rfl ?_
        have e9 : wt18 m 1 1 19 = 0 := if_neg (fun z => c2 z.1)
        rw [l1_18_1_t (by omega) e9]
        exact hK2 _ hc33 (b + 0) _ hw33 hm33 (jM18_up hJ (by omega)) (hL55.sel [0, 1, 3, 4, 5] rfl)
      · have c2 : ¬ ((bI (decide (¬ iA (iR (m 61 34) (1)) (1) = 1 ∧ m 58 1 ≤ m 61 35 ∧ m 61 35 ≤ m 59 1)) : Int) = (0 : Int)) := c2
        have c2 : ¬ iA (iR (m 61 34) (1)) (1) = 1 ∧ m 58 1 ≤ m 61 35 ∧ m 61 35 ≤ m 59 1 := bI_t c2
        refine f_aln 2 rfl hL rfl ?_
        refine f_iln 3 rfl hL rfl ?_
        refine f_il 0 rfl hL rfl ?_
        refine m_k1 (t62_1 (p := 1) (wv := m 61 19) (kv := m 56 (m 61 19).toNat) hn hp (by decide) (by decide) rfl (hR 61 19) jv rfl (hR 56 _)) hw32 hm32 rfl rfl rfl (m_ar so55 hw32 rfl) rfl (fun hc34 hw34 hm34 => ?_)
        refine f_if rfl (by have := sbM18_01 m (m 61 19); omega) (fun c3 => ?_) (fun c3 => ?_)
        · have c3 : ¬ (sbM18 m (m 61 19) : Int) = (0 : Int) := c3
          refine f_s [fi (0)] rfl rfl ?_
          refine f_ist [(5, fi (0)), (4, fi (1)), (3, fi (b)), (0, .ref 55), (1, fi (1)), (2, fi (18))] rfl (by decide) hL rfl (fun L56 hL56 => ?_)
          refine f_aln 3 rfl hL56 rfl ?_
          refine m_gfr so55 rfl hw34 rfl (by decide) ?_
          refine f_iln 5 rfl hL56 rfl ?_
          refine f_bipush (n := 10) rfl (by decide) ?_
          refine f_iadd rfl ?_
          refine b_eq (x := 28) (by decide) ?_
          refine f_il 1 rfl hL56 rfl ?_
          refine f_iadd rfl ?_
          refine b_eq (x := 29) (by decide) ?_
          refine f_s [fi (29), .ref 61, fi (29), .ref 61] rfl rfl ?_
          refine m_ia sa61 (m 61 29) rfl hw34 hm34 (by omega) (by omega) (by decide) rfl ?_
          refine f_il 0 rfl hL56 rfl ?_
          refine f_if rfl (by decide) (fun _ => ?_) (fun c_9 => absurd (show (0 : Int) = (0 : Int) from (by decide)) c_9)
          refine f_s [fi (0), fi (m 61 29), fi (29), .ref 61] rfl rfl ?_
          refine f_iadd rfl ?_
          refine b_w ?_
          refine m_ias sa61 rfl hw34 hm34 (by omega) (by omega) (by decide) i32w_r (fun hc35 hw35 hm35 => ?_)
          refine f_iln 2 rfl hL56 rfl ?_
          refine f_il 0 rfl hL56 rfl ?_
          refine f_if rfl (by decide) (fun _ => ?_) (fun c_9 => absurd (show (0 : Int) = (0 : Int) from (by decide)) c_9)
          refine f_s [fi (0), fi (b)] rfl rfl ?_
          refine f_iadd rfl ?_
          refine f_istn [(3, fi (b + 0)), (5, fi (0)), (4, fi (1)), (0, .ref 55), (1, fi (1)), (2, fi (18))] rfl (by decide) hL56 rfl (fun L57 hL57 => ?_)
          refine f_inc 2 [(4, fi (2)), (3, fi (b + 0)), (5, fi (0)), (0, .ref 55), (1, fi (1)), (2, fi (18))] rfl (by decide) hL57 rfl rfl (fun L58 hL58 => ?_)
          refine f_goto rfl ?_
          have e9 : wt18 m 1 1 19 = 0 := if_neg (fun z => c3 z.2)
          rw [l1_18_1_t (by omega) e9]
          exact hK2 _ hc35 (b + 0) _ hw35 hm35 (jM18_up hJ (by omega)) (hL58.sel [0, 1, 3, 4, 5] rfl)
        · have c3 : ¬ (¬ (sbM18 m (m 61 19) : Int) = (0 : Int)) := c3
          refine f_s [fi (1)] rfl rfl ?_
          refine f_goto rfl ?_
          refine f_ist [(5, fi (1)), (4, fi (1)), (3, fi (b)), (0, .ref 55), (1, fi (1)), (2, fi (18))] rfl (by decide) hL rfl (fun L59 hL59 => ?_)
          refine f_aln 3 rfl hL59 rfl ?_
          refine m_gfr so55 rfl hw34 rfl (by decide) ?_
          refine f_iln 5 rfl hL59 rfl ?_
          refine f_bipush (n := 10) rfl (by decide) ?_
          refine f_iadd rfl ?_
          refine b_eq (x := 28) (by decide) ?_
          refine f_il 1 rfl hL59 rfl ?_
          refine f_iadd rfl ?_
          refine b_eq (x := 29) (by decide) ?_
          refine f_s [fi (29), .ref 61, fi (29), .ref 61] rfl rfl ?_
          refine m_ia sa61 (m 61 29) rfl hw34 hm34 (by omega) (by omega) (by decide) rfl ?_
          refine f_il 0 rfl hL59 rfl ?_
          refine f_if rfl (by decide) (fun c_9 => absurd (show (1 : Int) = (0 : Int) from c_9) (by decide)) (fun _ => ?_)
          refine f_s [fi (1), fi (m 61 29), fi (29), .ref 61] rfl rfl ?_
          refine f_goto rfl ?_
          refine f_iadd rfl ?_
          refine b_w ?_
          refine m_ias sa61 rfl hw34 hm34 (by omega) (by omega) (by decide) i32w_r (fun hc36 hw36 hm36 => ?_)
          refine f_iln 2 rfl hL59 rfl ?_
          refine f_il 0 rfl hL59 rfl ?_
          refine f_if rfl (by decide) (fun c_9 => absurd (show (1 : Int) = (0 : Int) from c_9) (by decide)) (fun _ => ?_)
          refine f_s [fi (1), fi (b)] rfl rfl ?_
          refine f_goto rfl ?_
          refine f_iadd rfl ?_
          refine f_istn [(3, fi (b + 1)), (5, fi (1)), (4, fi (1)), (0, .ref 55), (1, fi (1)), (2, fi (18))] rfl (by decide) hL59 rfl (fun L60 hL60 => ?_)
          refine f_inc 2 [(4, fi (2)), (3, fi (b + 1)), (5, fi (1)), (0, .ref 55), (1, fi (1)), (2, fi (18))] rfl (by decide) hL60 rfl rfl (fun L61 hL61 => ?_)
          refine f_goto rfl ?_
          have e9 : wt18 m 1 1 19 = 1 := if_pos ⟨c2, by omega⟩
          rw [l1_18_1_t (by omega) e9]
          exact hK2 _ hc36 (b + 1) _ hw36 hm36 (jM18_up hJ (by omega)) (hL61.sel [0, 1, 3, 4, 5] rfl)
  have hK0 : ∀ (m : Nat → Nat → Int) (hc : ev_H) (b : Int) (L : ev_L), y_in yGw hc → gi hc = m → jM18 m → f_L L [(4, fi (0)), (3, fi (b)), (0, .ref 55), (1, fi (1)), (2, fi (18))] → x_W none (1, 0, 6, 1, 11, 3, 66, 0, 0, ev_t91) 10 L [] hc 0 0 (fun r' h' => r' = some (fi (l1_18_0 m b).2) ∧ y_in yGw h' ∧ gi h' = (l1_18_0 m b).1) := fun m hc b L hw hm hJ hL => by
    have hR := gi_R hm
    have hn := hJ.1
    have hp := hJ.2.1
    refine f_il 0 rfl hL rfl ?_
    refine f_aln 2 rfl hL rfl ?_
    refine m_gfi so55 (m 55 1) rfl hw hm rfl rfl ?_
    refine f_ic rfl (by decide) (by omega) (fun c1 => ?_) (fun c1 => ?_)
    · have c1 : (m 55 1 : Int) ≤ (0 : Int) := c1
      rw [l1_18_0_o (by omega)]
      refine f_s [fi (0)] rfl rfl ?_
      refine f_ist [(4, fi (0)), (3, fi (b)), (0, .ref 55), (1, fi (1)), (2, fi (18))] rfl (by decide) hL rfl (fun L62 hL62 => ?_)
      exact hJ0 _ hc b _ hw hm hJ (hL62.sel [0, 1, 2, 3, 4] rfl)
    · have c1 : ¬ ((m 55 1 : Int) ≤ (0 : Int)) := c1
      have jv : m 61 18 = -9 ∨ (0 ≤ m 61 18 ∧ m 61 18 < 4) := hJ.2.2 0 (by decide) (by omega)
      refine f_aln 2 rfl hL rfl ?_
      refine f_iln 3 rfl hL rfl ?_
      refine f_il 0 rfl hL rfl ?_
      refine f_aln 2 rfl hL rfl ?_
      refine m_gfr so55 rfl hw rfl (by decide) ?_
      refine f_iln 4 rfl hL rfl ?_
      refine f_bipush (n := 17) rfl (by decide) ?_
      refine f_iadd rfl ?_
      refine b_eq (x := 35) (by decide) ?_
      refine m_ia sa61 (m 61 35) rfl hw hm (by omega) (by omega) (by decide) rfl ?_
      refine m_k1 (t90_1 (p := 0) (h := m 61 35) (by decide) (by decide) (hR 61 35) (fv := m 58 0) rfl (hR 58 0) (uv := m 59 0) rfl (hR 59 0)) hw hm rfl rfl rfl (m_ar so55 hw rfl) rfl (fun hc37 hw37 hm37 => ?_)
      refine f_if rfl (bI_r _) (fun c2 => ?_) (fun c2 => ?_)
      · have c2 : (bI (decide (¬ iA (iR (m 61 34) (0)) (1) = 1 ∧ m 58 0 ≤ m 61 35 ∧ m 61 35 ≤ m 59 0)) : Int) = (0 : Int) := c2
        have c2 : ¬ (¬ iA (iR (m 61 34) (0)) (1) = 1 ∧ m 58 0 ≤ m 61 35 ∧ m 61 35 ≤ m 59 0) := bI_f c2
        refine f_s [fi (0)] rfl rfl ?_
        refine f_ist [(5, fi (0)), (4, fi (0)), (3, fi (b)), (0, .ref 55), (1, fi (1)), (2, fi (18))] rfl (by decide) hL rfl (fun L63 hL63 => ?_)
        refine f_aln 3 rfl hL63 rfl ?_
        refine m_gfr so55 rfl hw37 rfl (by decide) ?_
        refine f_iln 5 rfl hL63 rfl ?_
        refine f_bipush (n := 10) rfl (by decide) ?_
        refine f_iadd rfl ?_
        refine b_eq (x := 28) (by decide) ?_
        refine f_il 1 rfl hL63 rfl ?_
        refine f_iadd rfl ?_
        refine b_eq (x := 28) (by decide) ?_
        refine f_s [fi (28), .ref 61, fi (28), .ref 61] rfl rfl ?_
        refine m_ia sa61 (m 61 28) rfl hw37 hm37 (by omega) (by omega) (by decide) rfl ?_
        refine f_il 0 rfl hL63 rfl ?_
        refine f_if rfl (by decide) (fun _ => ?_) (fun c_9 => absurd (show (0 : Int) = (0 : Int) from (by decide)) c_9)
        refine f_s [fi (0), fi (m 61 28), fi (28), .ref 61] rfl rfl ?_
        refine f_iadd rfl ?_
        refine b_w ?_
        refine m_ias sa61 rfl hw37 hm37 (by omega) (by omega) (by decide) i32w_r (fun hc38 hw38 hm38 => ?_)
        refine f_iln 2 rfl hL63 rfl ?_
        refine f_il 0 rfl hL63 rfl ?_
        refine f_if rfl (by decide) (fun _ => ?_) (fun c_9 => absurd (show (0 : Int) = (0 : Int) from (by decide)) c_9)
        refine f_s [fi (0), fi (b)] rfl rfl ?_
        refine f_iadd rfl ?_
        refine f_istn [(3, fi (b + 0)), (5, fi (0)), (4, fi (0)), (0, .ref 55), (1, fi (1)), (2, fi (18))] rfl (by decide) hL63 rfl (fun L64 hL64 => ?_)
        refine f_inc 2 [(4, fi (1)), (3, fi (b + 0)), (5, fi (0)), (0, .ref 55), (1, fi (1)), (2, fi (18))] rfl (by decide) hL64 rfl rfl (fun L65 hL65 => ?_)
        refine f_goto rfl ?_
        have e9 : wt18 m 0 0 18 = 0 := if_neg (fun z => c2 z.1)
        rw [l1_18_0_t (by omega) e9]
        exact hK1 _ hc38 (b + 0) _ hw38 hm38 (jM18_up hJ (by omega)) (hL65.sel [0, 1, 3, 4, 5] rfl)
      · have c2 : ¬ ((bI (decide (¬ iA (iR (m 61 34) (0)) (1) = 1 ∧ m 58 0 ≤ m 61 35 ∧ m 61 35 ≤ m 59 0)) : Int) = (0 : Int)) := c2
        have c2 : ¬ iA (iR (m 61 34) (0)) (1) = 1 ∧ m 58 0 ≤ m 61 35 ∧ m 61 35 ≤ m 59 0 := bI_t c2
        refine f_aln 2 rfl hL rfl ?_
        refine f_iln 3 rfl hL rfl ?_
        refine f_il 0 rfl hL rfl ?_
        refine m_k1 (t62_1 (p := 0) (wv := m 61 18) (kv := m 56 (m 61 18).toNat) hn hp (by decide) (by decide) rfl (hR 61 18) jv rfl (hR 56 _)) hw37 hm37 rfl rfl rfl (m_ar so55 hw37 rfl) rfl (fun hc39 hw39 hm39 => ?_)
        refine f_if rfl (by have := sbM18_01 m (m 61 18); omega) (fun c3 => ?_) (fun c3 => ?_)
        · have c3 : ¬ (sbM18 m (m 61 18) : Int) = (0 : Int) := c3
          refine f_s [fi (0)] rfl rfl ?_
          refine f_ist [(5, fi (0)), (4, fi (0)), (3, fi (b)), (0, .ref 55), (1, fi (1)), (2, fi (18))] rfl (by decide) hL rfl (fun L66 hL66 => ?_)
          refine f_aln 3 rfl hL66 rfl ?_
          refine m_gfr so55 rfl hw39 rfl (by decide) ?_
          refine f_iln 5 rfl hL66 rfl ?_
          refine f_bipush (n := 10) rfl (by decide) ?_
          refine f_iadd rfl ?_
          refine b_eq (x := 28) (by decide) ?_
          refine f_il 1 rfl hL66 rfl ?_
          refine f_iadd rfl ?_
          refine b_eq (x := 28) (by decide) ?_
          refine f_s [fi (28), .ref 61, fi (28), .ref 61] rfl rfl ?_
          refine m_ia sa61 (m 61 28) rfl hw39 hm39 (by omega) (by omega) (by decide) rfl ?_
          refine f_il 0 rfl hL66 rfl ?_
          refine f_if rfl (by decide) (fun _ => ?_) (fun c_9 => absurd (show (0 : Int) = (0 : Int) from (by decide)) c_9)
          refine f_s [fi (0), fi (m 61 28), fi (28), .ref 61] rfl rfl ?_
          refine f_iadd rfl ?_
          refine b_w ?_
          refine m_ias sa61 rfl hw39 hm39 (by omega) (by omega) (by decide) i32w_r (fun hc40 hw40 hm40 => ?_)
          refine f_iln 2 rfl hL66 rfl ?_
          refine f_il 0 rfl hL66 rfl ?_
          refine f_if rfl (by decide) (fun _ => ?_) (fun c_9 => absurd (show (0 : Int) = (0 : Int) from (by decide)) c_9)
          refine f_s [fi (0), fi (b)] rfl rfl ?_
          refine f_iadd rfl ?_
          refine f_istn [(3, fi (b + 0)), (5, fi (0)), (4, fi (0)), (0, .ref 55), (1, fi (1)), (2, fi (18))] rfl (by decide) hL66 rfl (fun L67 hL67 => ?_)
          refine f_inc 2 [(4, fi (1)), (3, fi (b + 0)), (5, fi (0)), (0, .ref 55), (1, fi (1)), (2, fi (18))] rfl (by decide) hL67 rfl rfl (fun L68 hL68 => ?_)
          refine f_goto rfl ?_
          have e9 : wt18 m 0 0 18 = 0 := if_neg (fun z => c3 z.2)
          rw [l1_18_0_t (by omega) e9]
          exact hK1 _ hc40 (b + 0) _ hw40 hm40 (jM18_up hJ (by omega)) (hL68.sel [0, 1, 3, 4, 5] rfl)
        · have c3 : ¬ (¬ (sbM18 m (m 61 18) : Int) = (0 : Int)) := c3
          refine f_s [fi (1)] rfl rfl ?_
          refine f_goto rfl ?_
          refine f_ist [(5, fi (1)), (4, fi (0)), (3, fi (b)), (0, .ref 55), (1, fi (1)), (2, fi (18))] rfl (by decide) hL rfl (fun L69 hL69 => ?_)
          refine f_aln 3 rfl hL69 rfl ?_
          refine m_gfr so55 rfl hw39 rfl (by decide) ?_
          refine f_iln 5 rfl hL69 rfl ?_
          refine f_bipush (n := 10) rfl (by decide) ?_
          refine f_iadd rfl ?_
          refine b_eq (x := 28) (by decide) ?_
          refine f_il 1 rfl hL69 rfl ?_
          refine f_iadd rfl ?_
          refine b_eq (x := 28) (by decide) ?_
          refine f_s [fi (28), .ref 61, fi (28), .ref 61] rfl rfl ?_
          refine m_ia sa61 (m 61 28) rfl hw39 hm39 (by omega) (by omega) (by decide) rfl ?_
          refine f_il 0 rfl hL69 rfl ?_
          refine f_if rfl (by decide) (fun c_9 => absurd (show (1 : Int) = (0 : Int) from c_9) (by decide)) (fun _ => ?_)
          refine f_s [fi (1), fi (m 61 28), fi (28), .ref 61] rfl rfl ?_
          refine f_goto rfl ?_
          refine f_iadd rfl ?_
          refine b_w ?_
          refine m_ias sa61 rfl hw39 hm39 (by omega) (by omega) (by decide) i32w_r (fun hc41 hw41 hm41 => ?_)
          refine f_iln 2 rfl hL69 rfl ?_
          refine f_il 0 rfl hL69 rfl ?_
          refine f_if rfl (by decide) (fun c_9 => absurd (show (1 : Int) = (0 : Int) from c_9) (by decide)) (fun _ => ?_)
          refine f_s [fi (1), fi (b)] rfl rfl ?_
          refine f_goto rfl ?_
          refine f_iadd rfl ?_
          refine f_istn [(3, fi (b + 1)), (5, fi (1)), (4, fi (0)), (0, .ref 55), (1, fi (1)), (2, fi (18))] rfl (by decide) hL69 rfl (fun L70 hL70 => ?_)
          refine f_inc 2 [(4, fi (1)), (3, fi (b + 1)), (5, fi (1)), (0, .ref 55), (1, fi (1)), (2, fi (18))] rfl (by decide) hL70 rfl rfl (fun L71 hL71 => ?_)
          refine f_goto rfl ?_
          have e9 : wt18 m 0 0 18 = 1 := if_pos ⟨c2, by omega⟩
          rw [l1_18_0_t (by omega) e9]
          exact hK1 _ hc41 (b + 1) _ hw41 hm41 (jM18_up hJ (by omega)) (hL71.sel [0, 1, 3, 4, 5] rfl)
  refine f_bipush (n := 18) rfl (by decide) ?_
  refine f_iln 1 rfl hL rfl ?_
  refine f_imul rfl ?_
  refine b_eq (x := 18) (by decide) ?_
  refine f_istn [(2, fi (18)), (0, .ref 55), (1, fi (1))] rfl (by decide) hL rfl (fun L72 hL72 => ?_)
  refine f_s [fi (0)] rfl rfl ?_
  refine f_istn [(3, fi (0)), (2, fi (18)), (0, .ref 55), (1, fi (1))] rfl (by decide) hL72 rfl (fun L73 hL73 => ?_)
  refine f_s [fi (0)] rfl rfl ?_
  refine f_ist [(4, fi (0)), (3, fi (0)), (2, fi (18)), (0, .ref 55), (1, fi (1))] rfl (by decide) hL73 rfl (fun L74 hL74 => ?_)
  exact hK0 m hc 0 _ hw hm hJ (hL74.sel [0, 1, 3, 4, 2] rfl))
theorem t189_1 {m : Nat → Nat → Int} (hp : 0 ≤ m 55 1 ∧ m 55 1 ≤ 5) : h_M 189 [.ref 55, fi (1)] m (some (fi (aw1 m 32 4 (aw1 m 31 3 (aw1 m 30 2 (aw1 m 29 1 (aw1 m 28 0 (0)))))))) m := h_M_of (R := ev_r189) rfl (fun hc hw hm => by
  have hL : f_L (lv_args 0 [.ref 55, fi (1)]) [(0, .ref 55), (1, fi (1))] := f_L_of rfl
  generalize lv_args 0 [.ref 55, fi (1)] = L at hL
  show x_W none (1, 0, 4, 1, 11, 0, 0, 0, 0, ev_t189) 0 L [] hc 0 0 _
  have hR := gi_R hm
  have hK5 : ∀ (hc : ev_H) (b : Int) (L : ev_L), y_in yGw hc → gi hc = m → f_L L [(3, fi (5)), (2, fi (b)), (0, .ref 55), (1, fi (1))] → x_W none (1, 0, 4, 1, 11, 0, 0, 0, 0, ev_t189) 4 L [] hc 0 0 (fun r' h' => r' = some (fi (b)) ∧ y_in yGw h' ∧ gi h' = m) := fun hc b L hw hm hL => by
    refine f_iln 0 rfl hL rfl ?_
    refine f_aln 2 rfl hL rfl ?_
    refine m_gfi so55 (m 55 1) rfl hw hm rfl rfl ?_
    refine f_ic rfl (by decide) (by omega) (fun _ => ?_) (fun c_9 => absurd (show (m 55 1 : Int) ≤ (5 : Int) from (by omega)) c_9)
    refine f_iln 1 rfl hL rfl ?_
    exact f_ret1 rfl ⟨rfl, hw, hm⟩
  have hK4 : ∀ (hc : ev_H) (b : Int) (L : ev_L), y_in yGw hc → gi hc = m → f_L L [(3, fi (4)), (2, fi (b)), (0, .ref 55), (1, fi (1))] → x_W none (1, 0, 4, 1, 11, 0, 0, 0, 0, ev_t189) 4 L [] hc 0 0 (fun r' h' => r' = some (fi (aw1 m 32 4 (b))) ∧ y_in yGw h' ∧ gi h' = m) := fun hc b L hw hm hL => by
    refine f_iln 0 rfl hL rfl ?_
    refine f_aln 2 rfl hL rfl ?_
    refine m_gfi so55 (m 55 1) rfl hw hm rfl rfl ?_
    refine f_ic rfl (by decide) (by omega) (fun c1 => ?_) (fun c1 => ?_)
    · have c1 : (m 55 1 : Int) ≤ (4 : Int) := c1
      have e8 : aw1 m 32 4 (b) = b := by unfold aw1; rw [if_neg (by omega)]
      rw [e8]
      refine f_iln 1 rfl hL rfl ?_
      exact f_ret1 rfl ⟨rfl, hw, hm⟩
    · have c1 : ¬ ((m 55 1 : Int) ≤ (4 : Int)) := c1
      refine f_iln 1 rfl hL rfl ?_
      refine f_aln 2 rfl hL rfl ?_
      refine m_gfr so55 rfl hw rfl (by decide) ?_
      refine f_bipush (n := 18) rfl (by decide) ?_
      refine f_iln 3 rfl hL rfl ?_
      refine f_imul rfl ?_
      refine b_eq (x := 18) (by decide) ?_
      refine f_bipush (n := 10) rfl (by decide) ?_
      refine f_iadd rfl ?_
      refine b_eq (x := 28) (by decide) ?_
      refine f_iln 0 rfl hL rfl ?_
      refine f_iadd rfl ?_
      refine b_eq (x := 32) (by decide) ?_
      refine m_ia sa61 (m 61 32) rfl hw hm (by omega) (by omega) (by decide) rfl ?_
      refine f_iadd rfl ?_
      refine f_istn [(2, fi (b + (m 61 32))), (3, fi (4)), (0, .ref 55), (1, fi (1))] rfl (by decide) hL rfl (fun L1 hL1 => ?_)
      refine f_inc 1 [(3, fi (5)), (2, fi (b + (m 61 32))), (0, .ref 55), (1, fi (1))] rfl (by decide) hL1 rfl rfl (fun L2 hL2 => ?_)
      refine f_goto rfl ?_
      have e9 : aw1 m 32 4 b = b + (m 61 32) := if_pos (by omega)
      rw [e9]
      exact hK5 hc _ _ hw hm (hL2.sel [0, 1, 2, 3] rfl)
  have hK3 : ∀ (hc : ev_H) (b : Int) (L : ev_L), y_in yGw hc → gi hc = m → f_L L [(3, fi (3)), (2, fi (b)), (0, .ref 55), (1, fi (1))] → x_W none (1, 0, 4, 1, 11, 0, 0, 0, 0, ev_t189) 4 L [] hc 0 0 (fun r' h' => r' = some (fi (aw1 m 32 4 (aw1 m 31 3 (b)))) ∧ y_in yGw h' ∧ gi h' = m) := fun hc b L hw hm hL => by
    refine f_iln 0 rfl hL rfl ?_
    refine f_aln 2 rfl hL rfl ?_
    refine m_gfi so55 (m 55 1) rfl hw hm rfl rfl ?_
    refine f_ic rfl (by decide) (by omega) (fun c1 => ?_) (fun c1 => ?_)
    · have c1 : (m 55 1 : Int) ≤ (3 : Int) := c1
      have e8 : aw1 m 32 4 (aw1 m 31 3 (b)) = b := by unfold aw1; rw [if_neg (by omega), if_neg (by omega)]
      rw [e8]
      refine f_iln 1 rfl hL rfl ?_
      exact f_ret1 rfl ⟨rfl, hw, hm⟩
    · have c1 : ¬ ((m 55 1 : Int) ≤ (3 : Int)) := c1
      refine f_iln 1 rfl hL rfl ?_
      refine f_aln 2 rfl hL rfl ?_
      refine m_gfr so55 rfl hw rfl (by decide) ?_
      refine f_bipush (n := 18) rfl (by decide) ?_
      refine f_iln 3 rfl hL rfl ?_
      refine f_imul rfl ?_
      refine b_eq (x := 18) (by decide) ?_
      refine f_bipush (n := 10) rfl (by decide) ?_
      refine f_iadd rfl ?_
      refine b_eq (x := 28) (by decide) ?_
      refine f_iln 0 rfl hL rfl ?_
      refine f_iadd rfl ?_
      refine b_eq (x := 31) (by decide) ?_
      refine m_ia sa61 (m 61 31) rfl hw hm (by omega) (by omega) (by decide) rfl ?_
      refine f_iadd rfl ?_
      refine f_istn [(2, fi (b + (m 61 31))), (3, fi (3)), (0, .ref 55), (1, fi (1))] rfl (by decide) hL rfl (fun L3 hL3 => ?_)
      refine f_inc 1 [(3, fi (4)), (2, fi (b + (m 61 31))), (0, .ref 55), (1, fi (1))] rfl (by decide) hL3 rfl rfl (fun L4 hL4 => ?_)
      refine f_goto rfl ?_
      have e9 : aw1 m 31 3 b = b + (m 61 31) := if_pos (by omega)
      rw [e9]
      exact hK4 hc _ _ hw hm (hL4.sel [0, 1, 2, 3] rfl)
  have hK2 : ∀ (hc : ev_H) (b : Int) (L : ev_L), y_in yGw hc → gi hc = m → f_L L [(3, fi (2)), (2, fi (b)), (0, .ref 55), (1, fi (1))] → x_W none (1, 0, 4, 1, 11, 0, 0, 0, 0, ev_t189) 4 L [] hc 0 0 (fun r' h' => r' = some (fi (aw1 m 32 4 (aw1 m 31 3 (aw1 m 30 2 (b))))) ∧ y_in yGw h' ∧ gi h' = m) := fun hc b L hw hm hL => by
    refine f_iln 0 rfl hL rfl ?_
    refine f_aln 2 rfl hL rfl ?_
    refine m_gfi so55 (m 55 1) rfl hw hm rfl rfl ?_
    refine f_ic rfl (by decide) (by omega) (fun c1 => ?_) (fun c1 => ?_)
    · have c1 : (m 55 1 : Int) ≤ (2 : Int) := c1
      have e8 : aw1 m 32 4 (aw1 m 31 3 (aw1 m 30 2 (b))) = b := by unfold aw1; rw [if_neg (by omega), if_neg (by omega), if_neg (by omega)]
      rw [e8]
      refine f_iln 1 rfl hL rfl ?_
      exact f_ret1 rfl ⟨rfl, hw, hm⟩
    · have c1 : ¬ ((m 55 1 : Int) ≤ (2 : Int)) := c1
      refine f_iln 1 rfl hL rfl ?_
      refine f_aln 2 rfl hL rfl ?_
      refine m_gfr so55 rfl hw rfl (by decide) ?_
      refine f_bipush (n := 18) rfl (by decide) ?_
      refine f_iln 3 rfl hL rfl ?_
      refine f_imul rfl ?_
      refine b_eq (x := 18) (by decide) ?_
      refine f_bipush (n := 10) rfl (by decide) ?_
      refine f_iadd rfl ?_
      refine b_eq (x := 28) (by decide) ?_
      refine f_iln 0 rfl hL rfl ?_
      refine f_iadd rfl ?_
      refine b_eq (x := 30) (by decide) ?_
      refine m_ia sa61 (m 61 30) rfl hw hm (by omega) (by omega) (by decide) rfl ?_
      refine f_iadd rfl ?_
      refine f_istn [(2, fi (b + (m 61 30))), (3, fi (2)), (0, .ref 55), (1, fi (1))] rfl (by decide) hL rfl (fun L5 hL5 => ?_)
      refine f_inc 1 [(3, fi (3)), (2, fi (b + (m 61 30))), (0, .ref 55), (1, fi (1))] rfl (by decide) hL5 rfl rfl (fun L6 hL6 => ?_)
      refine f_goto rfl ?_
      have e9 : aw1 m 30 2 b = b + (m 61 30) := if_pos (by omega)
      rw [e9]
      exact hK3 hc _ _ hw hm (hL6.sel [0, 1, 2, 3] rfl)
  have hK1 : ∀ (hc : ev_H) (b : Int) (L : ev_L), y_in yGw hc → gi hc = m → f_L L [(3, fi (1)), (2, fi (b)), (0, .ref 55), (1, fi (1))] → x_W none (1, 0, 4, 1, 11, 0, 0, 0, 0, ev_t189) 4 L [] hc 0 0 (fun r' h' => r' = some (fi (aw1 m 32 4 (aw1 m 31 3 (aw1 m 30 2 (aw1 m 29 1 (b)))))) ∧ y_in yGw h' ∧ gi h' = m) := fun hc b L hw hm hL => by
    refine f_iln 0 rfl hL rfl ?_
    refine f_aln 2 rfl hL rfl ?_
    refine m_gfi so55 (m 55 1) rfl hw hm rfl rfl ?_
    refine f_ic rfl (by decide) (by omega) (fun c1 => ?_) (fun c1 => ?_)
    · have c1 : (m 55 1 : Int) ≤ (1 : Int) := c1
      have e8 : aw1 m 32 4 (aw1 m 31 3 (aw1 m 30 2 (aw1 m 29 1 (b)))) = b := by unfold aw1; rw [if_neg (by omega), if_neg (by omega), if_neg (by omega), if_neg (by omega)]
      rw [e8]
      refine f_iln 1 rfl hL rfl ?_
      exact f_ret1 rfl ⟨rfl, hw, hm⟩
    · have c1 : ¬ ((m 55 1 : Int) ≤ (1 : Int)) := c1
      refine f_iln 1 rfl hL rfl ?_
      refine f_aln 2 rfl hL rfl ?_
      refine m_gfr so55 rfl hw rfl (by decide) ?_
      refine f_bipush (n := 18) rfl (by decide) ?_
      refine f_iln 3 rfl hL rfl ?_
      refine f_imul rfl ?_
      refine b_eq (x := 18) (by decide) ?_
      refine f_bipush (n := 10) rfl (by decide) ?_
      refine f_iadd rfl ?_
      refine b_eq (x := 28) (by decide) ?_
      refine f_iln 0 rfl hL rfl ?_
      refine f_iadd rfl ?_
      refine b_eq (x := 29) (by decide) ?_
      refine m_ia sa61 (m 61 29) rfl hw hm (by omega) (by omega) (by decide) rfl ?_
      refine f_iadd rfl ?_
      refine f_istn [(2, fi (b + (m 61 29))), (3, fi (1)), (0, .ref 55), (1, fi (1))] rfl (by decide) hL rfl (fun L7 hL7 => ?_)
      refine f_inc 1 [(3, fi (2)), (2, fi (b + (m 61 29))), (0, .ref 55), (1, fi (1))] rfl (by decide) hL7 rfl rfl (fun L8 hL8 => ?_)
      refine f_goto rfl ?_
      have e9 : aw1 m 29 1 b = b + (m 61 29) := if_pos (by omega)
      rw [e9]
      exact hK2 hc _ _ hw hm (hL8.sel [0, 1, 2, 3] rfl)
  have hK0 : ∀ (hc : ev_H) (b : Int) (L : ev_L), y_in yGw hc → gi hc = m → f_L L [(3, fi (0)), (2, fi (b)), (0, .ref 55), (1, fi (1))] → x_W none (1, 0, 4, 1, 11, 0, 0, 0, 0, ev_t189) 4 L [] hc 0 0 (fun r' h' => r' = some (fi (aw1 m 32 4 (aw1 m 31 3 (aw1 m 30 2 (aw1 m 29 1 (aw1 m 28 0 (b))))))) ∧ y_in yGw h' ∧ gi h' = m) := fun hc b L hw hm hL => by
    refine f_iln 0 rfl hL rfl ?_
    refine f_aln 2 rfl hL rfl ?_
    refine m_gfi so55 (m 55 1) rfl hw hm rfl rfl ?_
    refine f_ic rfl (by decide) (by omega) (fun c1 => ?_) (fun c1 => ?_)
    · have c1 : (m 55 1 : Int) ≤ (0 : Int) := c1
      have e8 : aw1 m 32 4 (aw1 m 31 3 (aw1 m 30 2 (aw1 m 29 1 (aw1 m 28 0 (b))))) = b := by unfold aw1; rw [if_neg (by omega), if_neg (by omega), if_neg (by omega), if_neg (by omega), if_neg (by omega)]
      rw [e8]
      refine f_iln 1 rfl hL rfl ?_
      exact f_ret1 rfl ⟨rfl, hw, hm⟩
    · have c1 : ¬ ((m 55 1 : Int) ≤ (0 : Int)) := c1
      refine f_iln 1 rfl hL rfl ?_
      refine f_aln 2 rfl hL rfl ?_
      refine m_gfr so55 rfl hw rfl (by decide) ?_
      refine f_bipush (n := 18) rfl (by decide) ?_
      refine f_iln 3 rfl hL rfl ?_
      refine f_imul rfl ?_
      refine b_eq (x := 18) (by decide) ?_
      refine f_bipush (n := 10) rfl (by decide) ?_
      refine f_iadd rfl ?_
      refine b_eq (x := 28) (by decide) ?_
      refine f_iln 0 rfl hL rfl ?_
      refine f_iadd rfl ?_
      refine b_eq (x := 28) (by decide) ?_
      refine m_ia sa61 (m 61 28) rfl hw hm (by omega) (by omega) (by decide) rfl ?_
      refine f_iadd rfl ?_
      refine f_istn [(2, fi (b + (m 61 28))), (3, fi (0)), (0, .ref 55), (1, fi (1))] rfl (by decide) hL rfl (fun L9 hL9 => ?_)
      refine f_inc 1 [(3, fi (1)), (2, fi (b + (m 61 28))), (0, .ref 55), (1, fi (1))] rfl (by decide) hL9 rfl rfl (fun L10 hL10 => ?_)
      refine f_goto rfl ?_
      have e9 : aw1 m 28 0 b = b + (m 61 28) := if_pos (by omega)
      rw [e9]
      exact hK1 hc _ _ hw hm (hL10.sel [0, 1, 2, 3] rfl)
  refine f_s [fi (0)] rfl rfl ?_
  refine f_istn [(2, fi (0)), (0, .ref 55), (1, fi (1))] rfl (by decide) hL rfl (fun L11 hL11 => ?_)
  refine f_s [fi (0)] rfl rfl ?_
  refine f_istn [(3, fi (0)), (2, fi (0)), (0, .ref 55), (1, fi (1))] rfl (by decide) hL11 rfl (fun L12 hL12 => ?_)
  exact hK0 hc 0 _ hw hm (hL12.sel [0, 1, 2, 3] rfl))
