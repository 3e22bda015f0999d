/-! who there is; see, deed, forget of both -/
theorem t40 {m : Nat → Nat → Int} (n2 : m 3 5 ≤ 4) {x : Int} (rx : -2147483648 ≤ x ∧ x ≤ 2147483647) : h_M 40 [.ref 3, fi (x)] m (some (fi (bI (decide (0 ≤ x ∧ x < m 3 5))))) m := h_M_of (R := ev_r40) rfl (fun hc hw hm => by
  have hL : f_L (lv_args 0 [.ref 3, fi (x)]) [(0, .ref 3), (1, fi (x))] := f_L_of rfl
  generalize lv_args 0 [.ref 3, fi (x)] = L at hL
  show x_W none (2, 0, 2, 1, 5, 0, 0, 0, 0, ev_t40) 0 L [] hc 0 0 _
  have hR := gi_R hm
  refine f_iln 1 rfl hL rfl ?_
  refine f_if rfl (by omega) (fun c1 => ?_) (fun c1 => ?_)
  · have c1 : (x : Int) < (0 : Int) := c1
    refine f_s [fi (0)] rfl rfl ?_
    exact f_ret2 rfl (Or.inl rfl) ⟨by rw [decide_eq_false (by omega)]; rfl, hw, hm⟩
  · have c1 : ¬ ((x : Int) < (0 : Int)) := c1
    refine f_iln 1 rfl hL rfl ?_
    refine f_aln 0 rfl hL rfl ?_
    refine m_gfi so3 (m 3 5) rfl hw hm rfl rfl ?_
    refine f_ic rfl (by omega) (hR _ _) (fun c2 => ?_) (fun c2 => ?_)
    · have c2 : (m 3 5 : Int) ≤ (x : Int) := c2
      refine f_s [fi (0)] rfl rfl ?_
      exact f_ret2 rfl (Or.inl rfl) ⟨by rw [decide_eq_false (by omega)]; rfl, hw, hm⟩
    · have c2 : ¬ ((m 3 5 : Int) ≤ (x : Int)) := c2
      refine f_iln 1 rfl hL rfl ?_
      refine f_s [fi (4), fi (x)] rfl rfl ?_
      refine f_ic rfl (by omega) (by omega) (fun c_9 => absurd (show (4 : Int) ≤ (x : Int) from c_9) (by omega)) (fun _ => ?_)
      refine f_s [fi (1)] rfl rfl ?_
      refine f_goto rfl ?_
      exact f_ret2 rfl (Or.inr rfl) ⟨by rw [decide_eq_true (by omega)]; rfl, hw, hm⟩)
theorem t49 {m : Nat → Nat → Int} (n2 : m 3 6 ≤ 5) {x : Int} (rx : -2147483648 ≤ x ∧ x ≤ 2147483647) : h_M 49 [.ref 3, fi (x)] m (some (fi (bI (decide (0 ≤ x ∧ x < m 3 6))))) m := h_M_of (R := ev_r49) rfl (fun hc hw hm => by
  have hL : f_L (lv_args 0 [.ref 3, fi (x)]) [(0, .ref 3), (1, fi (x))] := f_L_of rfl
  generalize lv_args 0 [.ref 3, fi (x)] = L at hL
  show x_W none (2, 0, 2, 1, 5, 0, 0, 0, 0, ev_t49) 0 L [] hc 0 0 _
  have hR := gi_R hm
  refine f_iln 1 rfl hL rfl ?_
  refine f_if rfl (by omega) (fun c1 => ?_) (fun c1 => ?_)
  · have c1 : (x : Int) < (0 : Int) := c1
    refine f_s [fi (0)] rfl rfl ?_
    exact f_ret2 rfl (Or.inl rfl) ⟨by rw [decide_eq_false (by omega)]; rfl, hw, hm⟩
  · have c1 : ¬ ((x : Int) < (0 : Int)) := c1
    refine f_iln 1 rfl hL rfl ?_
    refine f_aln 0 rfl hL rfl ?_
    refine m_gfi so3 (m 3 6) rfl hw hm rfl rfl ?_
    refine f_ic rfl (by omega) (hR _ _) (fun c2 => ?_) (fun c2 => ?_)
    · have c2 : (m 3 6 : Int) ≤ (x : Int) := c2
      refine f_s [fi (0)] rfl rfl ?_
      exact f_ret2 rfl (Or.inl rfl) ⟨by rw [decide_eq_false (by omega)]; rfl, hw, hm⟩
    · have c2 : ¬ ((m 3 6 : Int) ≤ (x : Int)) := c2
      refine f_iln 1 rfl hL rfl ?_
      refine f_s [fi (5), fi (x)] rfl rfl ?_
      refine f_ic rfl (by omega) (by omega) (fun c_9 => absurd (show (5 : Int) ≤ (x : Int) from c_9) (by omega)) (fun _ => ?_)
      refine f_s [fi (1)] rfl rfl ?_
      refine f_goto rfl ?_
      exact f_ret2 rfl (Or.inr rfl) ⟨by rw [decide_eq_true (by omega)]; rfl, hw, hm⟩)
theorem t101 {m : Nat → Nat → Int} {x : Int} (rx : -2147483648 ≤ x ∧ x ≤ 2147483647) : h_M 101 [fi (x)] m (some (fi (bI (decide (0 ≤ x ∧ x < 10))))) m := h_M_of (R := ev_r101) rfl (fun hc hw hm => by
  have hL : f_L (lv_args 0 [fi (x)]) [(0, fi (x))] := f_L_of rfl
  generalize lv_args 0 [fi (x)] = L at hL
  show x_W none (2, 0, 1, 1, 0, 0, 0, 0, 0, ev_t101) 0 L [] hc 0 0 _
  have hR := gi_R hm
  refine f_iln 0 rfl hL rfl ?_
  refine f_if rfl (by omega) (fun c1 => ?_) (fun c1 => ?_)
  · have c1 : (x : Int) < (0 : Int) := c1
    refine f_s [fi (0)] rfl rfl ?_
    exact f_ret2 rfl (Or.inl rfl) ⟨by rw [decide_eq_false (by omega)]; rfl, hw, hm⟩
  · have c1 : ¬ ((x : Int) < (0 : Int)) := c1
    refine f_iln 0 rfl hL rfl ?_
    refine f_bipush (n := 10) rfl (by decide) ?_
    refine f_ic rfl (by omega) (by omega) (fun c2 => ?_) (fun c2 => ?_)
    · have c2 : (10 : Int) ≤ (x : Int) := c2
      refine f_s [fi (0)] rfl rfl ?_
      exact f_ret2 rfl (Or.inl rfl) ⟨by rw [decide_eq_false (by omega)]; rfl, hw, hm⟩
    · have c2 : ¬ ((10 : Int) ≤ (x : Int)) := c2
      refine f_s [fi (1)] rfl rfl ?_
      refine f_goto rfl ?_
      exact f_ret2 rfl (Or.inr rfl) ⟨by rw [decide_eq_true (by omega)]; rfl, hw, hm⟩)
theorem t_in {m : Nat → Nat → Int} (x y z : Int) (hx : -9223372036854775808 ≤ x ∧ x ≤ 9223372036854775807) (hy : -9223372036854775808 ≤ y ∧ y ≤ 9223372036854775807) (hz : -9223372036854775808 ≤ z ∧ z ≤ 9223372036854775807) : h_M 15 [fl x, fl y, fl z] m (some (fi (bI (decide (y ≤ x ∧ x ≤ z))))) m := by
  have h := hM15 (m := m) x y z hx hy hz
  have e : bI (decide (y ≤ x ∧ x ≤ z)) = if y ≤ x ∧ x ≤ z then 1 else 0 := by
    by_cases c : y ≤ x ∧ x ≤ z
    · rw [if_pos c, decide_eq_true c]; rfl
    · rw [if_neg c, decide_eq_false c]; rfl
  rw [e]
  exact h
theorem t46 {m : Nat → Nat → Int} (n1 : 0 ≤ m 55 0) (n2 : m 55 0 ≤ 4) {x : Int} (rx : -2147483648 ≤ x ∧ x ≤ 2147483647) : h_M 46 [.ref 55, fi (x)] m (some (fi (bI (decide (0 ≤ x ∧ x < m 55 0))))) m := h_M_of (R := ev_r46) rfl (fun hc hw hm => by
  have hL : f_L (lv_args 0 [.ref 55, fi (x)]) [(0, .ref 55), (1, fi (x))] := f_L_of rfl
  generalize lv_args 0 [.ref 55, fi (x)] = L at hL
  show x_W none (2, 0, 2, 1, 11, 1, 25, 0, 0, ev_t46) 0 L [] hc 0 0 _
  have hR := gi_R hm
  refine f_iln 1 rfl hL rfl ?_
  refine f_i2l rfl (by omega) ?_
  refine f_s [fl (0), fl (x)] rfl rfl ?_
  refine f_aln 0 rfl hL rfl ?_
  refine m_gfi so55 (m 55 0) rfl hw hm rfl rfl ?_
  refine f_s [fi (1), fi (m 55 0), fl (0), fl (x)] rfl rfl ?_
  refine f_isub rfl ?_
  refine f_i2l rfl (by omega) ?_
  refine m_k1 (t_in x 0 (m 55 0 - 1) (by omega) (by decide) (by omega)) hw hm rfl rfl rfl rfl rfl (fun hc1 hw1 hm1 => ?_)
  exact f_ret2 rfl (bI_01 _) ⟨by rw [show (decide (0 ≤ x ∧ x ≤ m 55 0 - 1)) = decide (0 ≤ x ∧ x < m 55 0) from by congr 1; exact propext (by omega)], hw1, hm1⟩)
theorem t61 {m : Nat → Nat → Int} (n1 : 0 ≤ m 55 1) (n2 : m 55 1 ≤ 5) {x : Int} (rx : -2147483648 ≤ x ∧ x ≤ 2147483647) : h_M 61 [.ref 55, fi (x)] m (some (fi (bI (decide (0 ≤ x ∧ x < m 55 1))))) m := h_M_of (R := ev_r61) rfl (fun hc hw hm => by
  have hL : f_L (lv_args 0 [.ref 55, fi (x)]) [(0, .ref 55), (1, fi (x))] := f_L_of rfl
  generalize lv_args 0 [.ref 55, fi (x)] = L at hL
  show x_W none (2, 0, 2, 1, 11, 1, 25, 0, 0, ev_t61) 0 L [] hc 0 0 _
  have hR := gi_R hm
  refine f_iln 1 rfl hL rfl ?_
  refine f_i2l rfl (by omega) ?_
  refine f_s [fl (0), fl (x)] rfl rfl ?_
  refine f_aln 0 rfl hL rfl ?_
  refine m_gfi so55 (m 55 1) rfl hw hm rfl rfl ?_
  refine f_s [fi (1), fi (m 55 1), fl (0), fl (x)] rfl rfl ?_
  refine f_isub rfl ?_
  refine f_i2l rfl (by omega) ?_
  refine m_k1 (t_in x 0 (m 55 1 - 1) (by omega) (by decide) (by omega)) hw hm rfl rfl rfl rfl rfl (fun hc1 hw1 hm1 => ?_)
  exact f_ret2 rfl (bI_01 _) ⟨by rw [show (decide (0 ≤ x ∧ x ≤ m 55 1 - 1)) = decide (0 ≤ x ∧ x < m 55 1) from by congr 1; exact propext (by omega)], hw1, hm1⟩)
theorem t146 {m : Nat → Nat → Int} : h_M 146 [.ref 38] m (some (fi (m 38 2))) m := h_M_of (R := ev_r146) rfl (fun hc hw hm => by
  have hL : f_L (lv_args 0 [.ref 38]) [(0, .ref 38)] := f_L_of rfl
  generalize lv_args 0 [.ref 38] = L at hL
  show x_W none (1, 0, 1, 0, 3, 0, 0, 0, 0, ev_t146) 0 L [] hc 0 0 _
  have hR := gi_R hm
  refine f_aln 0 rfl hL rfl ?_
  refine m_gfi so38 (m 38 2) rfl hw hm rfl rfl ?_
  exact f_ret1 rfl ⟨rfl, hw, hm⟩)
theorem t144_39_full {m : Nat → Nat → Int} (c1 : 0 ≤ m 38 2) (c2 : m 38 2 ≤ 6) (hs : ¬ m 38 2 < 6) {x : Int} (rx : -2147483648 ≤ x ∧ x ≤ 2147483647) {h : Int} (rh : -2147483648 ≤ h ∧ h ≤ 2147483647) : h_M 144 [.ref 38, .ref 39, fi (x), fi (h)] m (some (fi (0))) m := h_M_of (R := ev_r144) rfl (fun hc hw hm => by
  have hL : f_L (lv_args 0 [.ref 38, .ref 39, fi (x), fi (h)]) [(0, .ref 38), (1, .ref 39), (2, fi (x)), (3, fi (h))] := f_L_of rfl
  generalize lv_args 0 [.ref 38, .ref 39, fi (x), fi (h)] = L at hL
  show x_W none (2, 0, 4, 3, 3, 0, 0, 0, 0, ev_t144) 0 L [] hc 0 0 _
  have hR := gi_R hm
  refine f_aln 0 rfl hL rfl ?_
  refine m_gfi so38 (m 38 2) rfl hw hm rfl rfl ?_
  refine f_bipush (n := 6) rfl (by decide) ?_
  refine f_ic rfl (by omega) (by omega) (fun _ => ?_) (fun c_9 => absurd (show (6 : Int) ≤ (m 38 2 : Int) from (by omega)) c_9)
  refine f_s [fi (0)] rfl rfl ?_
  exact f_ret2 rfl (Or.inl rfl) ⟨rfl, hw, hm⟩)
theorem t144_39_ok {m : Nat → Nat → Int} (c1 : 0 ≤ m 38 2) (c2 : m 38 2 ≤ 6) (hs : m 38 2 < 6) {x : Int} (rx : -2147483648 ≤ x ∧ x ≤ 2147483647) (x1 : 0 ≤ x) (x2 : x < 5) {h : Int} (rh : -2147483648 ≤ h ∧ h ≤ 2147483647) : h_M 144 [.ref 38, .ref 39, fi (x), fi (h)] m (some (fi (1))) (up (up m 39 (x).toNat (iO (m 39 (x).toNat) (iS (1) (h)))) 38 2 ((m 38 2) + 1)) := h_M_of (R := ev_r144) rfl (fun hc hw hm => by
  have hL : f_L (lv_args 0 [.ref 38, .ref 39, fi (x), fi (h)]) [(0, .ref 38), (1, .ref 39), (2, fi (x)), (3, fi (h))] := f_L_of rfl
  generalize lv_args 0 [.ref 38, .ref 39, fi (x), fi (h)] = L at hL
  show x_W none (2, 0, 4, 3, 3, 0, 0, 0, 0, ev_t144) 0 L [] hc 0 0 _
  have hR := gi_R hm
  refine f_aln 0 rfl hL rfl ?_
  refine m_gfi so38 (m 38 2) rfl hw hm rfl rfl ?_
  refine f_bipush (n := 6) rfl (by decide) ?_
  refine f_ic rfl (by omega) (by omega) (fun c_9 => absurd (show (6 : Int) ≤ (m 38 2 : Int) from c_9) (by omega)) (fun _ => ?_)
  refine f_iln 2 rfl hL rfl ?_
  refine f_if rfl (by omega) (fun c_9 => absurd (show (x : Int) < (0 : Int) from c_9) (by omega)) (fun _ => ?_)
  refine f_iln 2 rfl hL rfl ?_
  refine f_aln 1 rfl hL rfl ?_
  refine m_al sa39 rfl hw (by decide) ?_
  refine f_ic rfl (by omega) (by omega) (fun _ => ?_) (fun c_9 => absurd (show (x : Int) < (5 : Int) from (by omega)) c_9)
  refine f_aln 1 rfl hL rfl ?_
  refine f_iln 2 rfl hL rfl ?_
  refine f_s [fi (x), .ref 39, fi (x), .ref 39] rfl rfl ?_
  refine m_ia sa39 (m 39 (x).toNat) rfl hw hm (by omega) (by omega) (by decide) rfl ?_
  refine f_s [fi (1), fi (m 39 (x).toNat), fi (x), .ref 39] rfl rfl ?_
  refine f_iln 3 rfl hL rfl ?_
  refine b_ishl rfl ?_
  refine b_ior rfl ?_
  refine m_ias sa39 rfl hw hm (by omega) (by omega) (by decide) iO_r (fun hc1 hw1 hm1 => ?_)
  refine f_aln 0 rfl hL rfl ?_
  refine f_s [.ref 38, .ref 38] rfl rfl ?_
  refine m_gfi so38 (m 38 2) rfl hw1 hm1 rfl rfl ?_
  refine f_s [fi (1), fi (m 38 2), .ref 38] rfl rfl ?_
  refine f_iadd rfl ?_
  refine m_pf so38 rfl hw1 hm1 rfl rfl (by omega) (fun hc2 hw2 hm2 => ?_)
  refine f_s [fi (1)] rfl rfl ?_
  exact f_ret2 rfl (Or.inr rfl) ⟨rfl, hw2, hm2⟩)
theorem t145_full {m : Nat → Nat → Int} (c1 : 0 ≤ m 38 2) (c2 : m 38 2 ≤ 6) (hs : ¬ m 38 2 < 6) {x : Int} (rx : -2147483648 ≤ x ∧ x ≤ 2147483647) {h : Int} (rh : -2147483648 ≤ h ∧ h ≤ 2147483647) : h_M 145 [.ref 38, fi (x), fi (h)] m (some (fi (0))) m := h_M_of (R := ev_r145) rfl (fun hc hw hm => by
  have hL : f_L (lv_args 0 [.ref 38, fi (x), fi (h)]) [(0, .ref 38), (1, fi (x)), (2, fi (h))] := f_L_of rfl
  generalize lv_args 0 [.ref 38, fi (x), fi (h)] = L at hL
  show x_W none (2, 0, 3, 2, 3, 1, 23, 0, 0, ev_t145) 0 L [] hc 0 0 _
  have hR := gi_R hm
  refine f_aln 0 rfl hL rfl ?_
  refine f_aln 0 rfl hL rfl ?_
  refine m_gfr so38 rfl hw rfl (by decide) ?_
  refine f_iln 1 rfl hL rfl ?_
  refine f_iln 2 rfl hL rfl ?_
  refine m_k1 (t144_39_full c1 c2 hs rx rh) hw hm rfl rfl rfl (m_ar so38 hw rfl) rfl (fun hc1 hw1 hm1 => ?_)
  exact f_ret2 rfl (Or.inl rfl) ⟨rfl, hw1, hm1⟩)
theorem t145_ok {m : Nat → Nat → Int} (c1 : 0 ≤ m 38 2) (c2 : m 38 2 ≤ 6) (hs : m 38 2 < 6) {x : Int} (rx : -2147483648 ≤ x ∧ x ≤ 2147483647) (x1 : 0 ≤ x) (x2 : x < 5) {h : Int} (rh : -2147483648 ≤ h ∧ h ≤ 2147483647) : h_M 145 [.ref 38, fi (x), fi (h)] m (some (fi (1))) (up (up m 39 (x).toNat (iO (m 39 (x).toNat) (iS (1) (h)))) 38 2 ((m 38 2) + 1)) := h_M_of (R := ev_r145) rfl (fun hc hw hm => by
  have hL : f_L (lv_args 0 [.ref 38, fi (x), fi (h)]) [(0, .ref 38), (1, fi (x)), (2, fi (h))] := f_L_of rfl
  generalize lv_args 0 [.ref 38, fi (x), fi (h)] = L at hL
  show x_W none (2, 0, 3, 2, 3, 1, 23, 0, 0, ev_t145) 0 L [] hc 0 0 _
  have hR := gi_R hm
  refine f_aln 0 rfl hL rfl ?_
  refine f_aln 0 rfl hL rfl ?_
  refine m_gfr so38 rfl hw rfl (by decide) ?_
  refine f_iln 1 rfl hL rfl ?_
  refine f_iln 2 rfl hL rfl ?_
  refine m_k1 (t144_39_ok c1 c2 hs rx x1 x2 rh) hw hm rfl rfl rfl (m_ar so38 hw rfl) rfl (fun hc1 hw1 hm1 => ?_)
  exact f_ret2 rfl (Or.inr rfl) ⟨rfl, hw1, hm1⟩)
theorem t147_unk {m : Nat → Nat → Int} (n2 : m 3 6 ≤ 5) (c1 : 0 ≤ m 38 2) (c2 : m 38 2 ≤ 6) {x : Int} (rx : -2147483648 ≤ x ∧ x ≤ 2147483647) {h : Int} (rh : -2147483648 ≤ h ∧ h ≤ 2147483647) (hp : ¬ (0 ≤ x ∧ x < m 3 6)) : h_M 147 [.ref 0, fi (x), fi (h)] m (some (fi (-1))) m := h_M_of (R := ev_r147) rfl (fun hc hw hm => by
  have hL : f_L (lv_args 0 [.ref 0, fi (x), fi (h)]) [(0, .ref 0), (1, fi (x)), (2, fi (h))] := f_L_of rfl
  generalize lv_args 0 [.ref 0, fi (x), fi (h)] = L at hL
  show x_W none (1, 0, 3, 2, 10, 2, 45, 0, 0, ev_t147) 0 L [] hc 0 0 _
  have hR := gi_R hm
  refine f_aln 0 rfl hL rfl ?_
  refine m_gfr so0 rfl hw rfl (by decide) ?_
  refine f_iln 1 rfl hL rfl ?_
  refine m_k1 (t49 n2 rx) hw hm rfl rfl rfl (m_ar so3 hw rfl) rfl (fun hc1 hw1 hm1 => ?_)
  refine f_if rfl (bI_r _) (fun c_9 => absurd (show ¬ (bI (decide (0 ≤ x ∧ x < m 3 6)) : Int) = (0 : Int) from c_9) (by rw [decide_eq_false hp]; exact fun z => z rfl)) (fun _ => ?_)
  refine f_s [fi (-1)] rfl rfl ?_
  exact f_ret1 rfl ⟨rfl, hw1, hm1⟩)
theorem t147_out {m : Nat → Nat → Int} (n2 : m 3 6 ≤ 5) (c1 : 0 ≤ m 38 2) (c2 : m 38 2 ≤ 6) {x : Int} (rx : -2147483648 ≤ x ∧ x ≤ 2147483647) {h : Int} (rh : -2147483648 ≤ h ∧ h ≤ 2147483647) (hp : 0 ≤ x ∧ x < m 3 6) (hh : ¬ (0 ≤ h ∧ h < 10)) : h_M 147 [.ref 0, fi (x), fi (h)] m (some (fi (-2))) m := h_M_of (R := ev_r147) rfl (fun hc hw hm => by
  have hL : f_L (lv_args 0 [.ref 0, fi (x), fi (h)]) [(0, .ref 0), (1, fi (x)), (2, fi (h))] := f_L_of rfl
  generalize lv_args 0 [.ref 0, fi (x), fi (h)] = L at hL
  show x_W none (1, 0, 3, 2, 10, 2, 45, 0, 0, ev_t147) 0 L [] hc 0 0 _
  have hR := gi_R hm
  refine f_aln 0 rfl hL rfl ?_
  refine m_gfr so0 rfl hw rfl (by decide) ?_
  refine f_iln 1 rfl hL rfl ?_
  refine m_k1 (t49 n2 rx) hw hm rfl rfl rfl (m_ar so3 hw rfl) rfl (fun hc1 hw1 hm1 => ?_)
  refine f_if rfl (bI_r _) (fun _ => ?_) (fun c_9 => absurd (show ¬ (bI (decide (0 ≤ x ∧ x < m 3 6)) : Int) = (0 : Int) from (by rw [decide_eq_true hp]; decide)) c_9)
  refine f_iln 2 rfl hL rfl ?_
  refine m_k1 (t101 rh) hw1 hm1 rfl rfl rfl rfl rfl (fun hc2 hw2 hm2 => ?_)
  refine f_if rfl (bI_r _) (fun c_9 => absurd (show ¬ (bI (decide (0 ≤ h ∧ h < 10)) : Int) = (0 : Int) from c_9) (by rw [decide_eq_false hh]; exact fun z => z rfl)) (fun _ => ?_)
  refine f_bipush (n := -2) rfl (by decide) ?_
  exact f_ret1 rfl ⟨rfl, hw2, hm2⟩)
theorem t147_full {m : Nat → Nat → Int} (n2 : m 3 6 ≤ 5) (c1 : 0 ≤ m 38 2) (c2 : m 38 2 ≤ 6) {x : Int} (rx : -2147483648 ≤ x ∧ x ≤ 2147483647) {h : Int} (rh : -2147483648 ≤ h ∧ h ≤ 2147483647) (hp : 0 ≤ x ∧ x < m 3 6) (hh : 0 ≤ h ∧ h < 10) (hs : ¬ m 38 2 < 6) : h_M 147 [.ref 0, fi (x), fi (h)] m (some (fi (-4))) m := h_M_of (R := ev_r147) rfl (fun hc hw hm => by
  have hL : f_L (lv_args 0 [.ref 0, fi (x), fi (h)]) [(0, .ref 0), (1, fi (x)), (2, fi (h))] := f_L_of rfl
  generalize lv_args 0 [.ref 0, fi (x), fi (h)] = L at hL
  show x_W none (1, 0, 3, 2, 10, 2, 45, 0, 0, ev_t147) 0 L [] hc 0 0 _
  have hR := gi_R hm
  refine f_aln 0 rfl hL rfl ?_
  refine m_gfr so0 rfl hw rfl (by decide) ?_
  refine f_iln 1 rfl hL rfl ?_
  refine m_k1 (t49 n2 rx) hw hm rfl rfl rfl (m_ar so3 hw rfl) rfl (fun hc1 hw1 hm1 => ?_)
  refine f_if rfl (bI_r _) (fun _ => ?_) (fun c_9 => absurd (show ¬ (bI (decide (0 ≤ x ∧ x < m 3 6)) : Int) = (0 : Int) from (by rw [decide_eq_true hp]; decide)) c_9)
  refine f_iln 2 rfl hL rfl ?_
  refine m_k1 (t101 rh) hw1 hm1 rfl rfl rfl rfl rfl (fun hc2 hw2 hm2 => ?_)
  refine f_if rfl (bI_r _) (fun _ => ?_) (fun c_9 => absurd (show ¬ (bI (decide (0 ≤ h ∧ h < 10)) : Int) = (0 : Int) from (by rw [decide_eq_true hh]; decide)) c_9)
  refine f_aln 0 rfl hL rfl ?_
  refine m_gfr so0 rfl hw2 rfl (by decide) ?_
  refine f_iln 1 rfl hL rfl ?_
  refine f_iln 2 rfl hL rfl ?_
  refine m_k1 (t145_full c1 c2 hs rx rh) hw2 hm2 rfl rfl rfl (m_ar so38 hw2 rfl) rfl (fun hc3 hw3 hm3 => ?_)
  refine f_if rfl (by decide) (fun _ => ?_) (fun c_9 => absurd (show (0 : Int) = (0 : Int) from (by decide)) c_9)
  refine f_bipush (n := -4) rfl (by decide) ?_
  exact f_ret1 rfl ⟨rfl, hw3, hm3⟩)
theorem t147_ok {m : Nat → Nat → Int} (n2 : m 3 6 ≤ 5) (c1 : 0 ≤ m 38 2) (c2 : m 38 2 ≤ 6) {x : Int} (rx : -2147483648 ≤ x ∧ x ≤ 2147483647) {h : Int} (rh : -2147483648 ≤ h ∧ h ≤ 2147483647) (hp : 0 ≤ x ∧ x < m 3 6) (hh : 0 ≤ h ∧ h < 10) (hs : m 38 2 < 6) : h_M 147 [.ref 0, fi (x), fi (h)] m (some (fi ((m 38 2) + 1))) (up (up m 39 (x).toNat (iO (m 39 (x).toNat) (iS (1) (h)))) 38 2 ((m 38 2) + 1)) := h_M_of (R := ev_r147) rfl (fun hc hw hm => by
  have hL : f_L (lv_args 0 [.ref 0, fi (x), fi (h)]) [(0, .ref 0), (1, fi (x)), (2, fi (h))] := f_L_of rfl
  generalize lv_args 0 [.ref 0, fi (x), fi (h)] = L at hL
  show x_W none (1, 0, 3, 2, 10, 2, 45, 0, 0, ev_t147) 0 L [] hc 0 0 _
  have hR := gi_R hm
  refine f_aln 0 rfl hL rfl ?_
  refine m_gfr so0 rfl hw rfl (by decide) ?_
  refine f_iln 1 rfl hL rfl ?_
  refine m_k1 (t49 n2 rx) hw hm rfl rfl rfl (m_ar so3 hw rfl) rfl (fun hc1 hw1 hm1 => ?_)
  refine f_if rfl (bI_r _) (fun _ => ?_) (fun c_9 => absurd (show ¬ (bI (decide (0 ≤ x ∧ x < m 3 6)) : Int) = (0 : Int) from (by rw [decide_eq_true hp]; decide)) c_9)
  refine f_iln 2 rfl hL rfl ?_
  refine m_k1 (t101 rh) hw1 hm1 rfl rfl rfl rfl rfl (fun hc2 hw2 hm2 => ?_)
  refine f_if rfl (bI_r _) (fun _ => ?_) (fun c_9 => absurd (show ¬ (bI (decide (0 ≤ h ∧ h < 10)) : Int) = (0 : Int) from (by rw [decide_eq_true hh]; decide)) c_9)
  refine f_aln 0 rfl hL rfl ?_
  refine m_gfr so0 rfl hw2 rfl (by decide) ?_
  refine f_iln 1 rfl hL rfl ?_
  refine f_iln 2 rfl hL rfl ?_
  refine m_k1 (t145_ok c1 c2 hs rx hp.1 (by omega) rh) hw2 hm2 rfl rfl rfl (m_ar so38 hw2 rfl) rfl (fun hc3 hw3 hm3 => ?_)
  refine f_if rfl (by decide) (fun c_9 => absurd (show (1 : Int) = (0 : Int) from c_9) (by decide)) (fun _ => ?_)
  refine f_aln 0 rfl hL rfl ?_
  refine m_gfr so0 rfl hw3 rfl (by decide) ?_
  refine m_k1 t146 hw3 hm3 rfl rfl rfl (m_ar so38 hw3 rfl) rfl (fun hc4 hw4 hm4 => ?_)
  refine f_goto rfl ?_
  exact f_ret1 rfl ⟨rfl, hw4, hm4⟩)
theorem t144_40_full {m : Nat → Nat → Int} (c1 : 0 ≤ m 38 2) (c2 : m 38 2 ≤ 6) (hs : ¬ m 38 2 < 6) {x : Int} (rx : -2147483648 ≤ x ∧ x ≤ 2147483647) {h : Int} (rh : -2147483648 ≤ h ∧ h ≤ 2147483647) : h_M 144 [.ref 38, .ref 40, fi (x), fi (h)] m (some (fi (0))) m := h_M_of (R := ev_r144) rfl (fun hc hw hm => by
  have hL : f_L (lv_args 0 [.ref 38, .ref 40, fi (x), fi (h)]) [(0, .ref 38), (1, .ref 40), (2, fi (x)), (3, fi (h))] := f_L_of rfl
  generalize lv_args 0 [.ref 38, .ref 40, fi (x), fi (h)] = L at hL
  show x_W none (2, 0, 4, 3, 3, 0, 0, 0, 0, ev_t144) 0 L [] hc 0 0 _
  have hR := gi_R hm
  refine f_aln 0 rfl hL rfl ?_
  refine m_gfi so38 (m 38 2) rfl hw hm rfl rfl ?_
  refine f_bipush (n := 6) rfl (by decide) ?_
  refine f_ic rfl (by omega) (by omega) (fun _ => ?_) (fun c_9 => absurd (show (6 : Int) ≤ (m 38 2 : Int) from (by omega)) c_9)
  refine f_s [fi (0)] rfl rfl ?_
  exact f_ret2 rfl (Or.inl rfl) ⟨rfl, hw, hm⟩)
theorem t144_40_ok {m : Nat → Nat → Int} (c1 : 0 ≤ m 38 2) (c2 : m 38 2 ≤ 6) (hs : m 38 2 < 6) {x : Int} (rx : -2147483648 ≤ x ∧ x ≤ 2147483647) (x1 : 0 ≤ x) (x2 : x < 4) {h : Int} (rh : -2147483648 ≤ h ∧ h ≤ 2147483647) : h_M 144 [.ref 38, .ref 40, fi (x), fi (h)] m (some (fi (1))) (up (up m 40 (x).toNat (iO (m 40 (x).toNat) (iS (1) (h)))) 38 2 ((m 38 2) + 1)) := h_M_of (R := ev_r144) rfl (fun hc hw hm => by
  have hL : f_L (lv_args 0 [.ref 38, .ref 40, fi (x), fi (h)]) [(0, .ref 38), (1, .ref 40), (2, fi (x)), (3, fi (h))] := f_L_of rfl
  generalize lv_args 0 [.ref 38, .ref 40, fi (x), fi (h)] = L at hL
  show x_W none (2, 0, 4, 3, 3, 0, 0, 0, 0, ev_t144) 0 L [] hc 0 0 _
  have hR := gi_R hm
  refine f_aln 0 rfl hL rfl ?_
  refine m_gfi so38 (m 38 2) rfl hw hm rfl rfl ?_
  refine f_bipush (n := 6) rfl (by decide) ?_
  refine f_ic rfl (by omega) (by omega) (fun c_9 => absurd (show (6 : Int) ≤ (m 38 2 : Int) from c_9) (by omega)) (fun _ => ?_)
  refine f_iln 2 rfl hL rfl ?_
  refine f_if rfl (by omega) (fun c_9 => absurd (show (x : Int) < (0 : Int) from c_9) (by omega)) (fun _ => ?_)
  refine f_iln 2 rfl hL rfl ?_
  refine f_aln 1 rfl hL rfl ?_
  refine m_al sa40 rfl hw (by decide) ?_
  refine f_ic rfl (by omega) (by omega) (fun _ => ?_) (fun c_9 => absurd (show (x : Int) < (4 : Int) from (by omega)) c_9)
  refine f_aln 1 rfl hL rfl ?_
  refine f_iln 2 rfl hL rfl ?_
  refine f_s [fi (x), .ref 40, fi (x), .ref 40] rfl rfl ?_
  refine m_ia sa40 (m 40 (x).toNat) rfl hw hm (by omega) (by omega) (by decide) rfl ?_
  refine f_s [fi (1), fi (m 40 (x).toNat), fi (x), .ref 40] rfl rfl ?_
  refine f_iln 3 rfl hL rfl ?_
  refine b_ishl rfl ?_
  refine b_ior rfl ?_
  refine m_ias sa40 rfl hw hm (by omega) (by omega) (by decide) iO_r (fun hc1 hw1 hm1 => ?_)
  refine f_aln 0 rfl hL rfl ?_
  refine f_s [.ref 38, .ref 38] rfl rfl ?_
  refine m_gfi so38 (m 38 2) rfl hw1 hm1 rfl rfl ?_
  refine f_s [fi (1), fi (m 38 2), .ref 38] rfl rfl ?_
  refine f_iadd rfl ?_
  refine m_pf so38 rfl hw1 hm1 rfl rfl (by omega) (fun hc2 hw2 hm2 => ?_)
  refine f_s [fi (1)] rfl rfl ?_
  exact f_ret2 rfl (Or.inr rfl) ⟨rfl, hw2, hm2⟩)
theorem t150_full {m : Nat → Nat → Int} (c1 : 0 ≤ m 38 2) (c2 : m 38 2 ≤ 6) (hs : ¬ m 38 2 < 6) {x : Int} (rx : -2147483648 ≤ x ∧ x ≤ 2147483647) {h : Int} (rh : -2147483648 ≤ h ∧ h ≤ 2147483647) : h_M 150 [.ref 38, fi (x), fi (h)] m (some (fi (0))) m := h_M_of (R := ev_r150) rfl (fun hc hw hm => by
  have hL : f_L (lv_args 0 [.ref 38, fi (x), fi (h)]) [(0, .ref 38), (1, fi (x)), (2, fi (h))] := f_L_of rfl
  generalize lv_args 0 [.ref 38, fi (x), fi (h)] = L at hL
  show x_W none (2, 0, 3, 2, 3, 1, 23, 0, 0, ev_t150) 0 L [] hc 0 0 _
  have hR := gi_R hm
  refine f_aln 0 rfl hL rfl ?_
  refine f_aln 0 rfl hL rfl ?_
  refine m_gfr so38 rfl hw rfl (by decide) ?_
  refine f_iln 1 rfl hL rfl ?_
  refine f_iln 2 rfl hL rfl ?_
  refine m_k1 (t144_40_full c1 c2 hs rx rh) hw hm rfl rfl rfl (m_ar so38 hw rfl) rfl (fun hc1 hw1 hm1 => ?_)
  exact f_ret2 rfl (Or.inl rfl) ⟨rfl, hw1, hm1⟩)
theorem t150_ok {m : Nat → Nat → Int} (c1 : 0 ≤ m 38 2) (c2 : m 38 2 ≤ 6) (hs : m 38 2 < 6) {x : Int} (rx : -2147483648 ≤ x ∧ x ≤ 2147483647) (x1 : 0 ≤ x) (x2 : x < 4) {h : Int} (rh : -2147483648 ≤ h ∧ h ≤ 2147483647) : h_M 150 [.ref 38, fi (x), fi (h)] m (some (fi (1))) (up (up m 40 (x).toNat (iO (m 40 (x).toNat) (iS (1) (h)))) 38 2 ((m 38 2) + 1)) := h_M_of (R := ev_r150) rfl (fun hc hw hm => by
  have hL : f_L (lv_args 0 [.ref 38, fi (x), fi (h)]) [(0, .ref 38), (1, fi (x)), (2, fi (h))] := f_L_of rfl
  generalize lv_args 0 [.ref 38, fi (x), fi (h)] = L at hL
  show x_W none (2, 0, 3, 2, 3, 1, 23, 0, 0, ev_t150) 0 L [] hc 0 0 _
  have hR := gi_R hm
  refine f_aln 0 rfl hL rfl ?_
  refine f_aln 0 rfl hL rfl ?_
  refine m_gfr so38 rfl hw rfl (by decide) ?_
  refine f_iln 1 rfl hL rfl ?_
  refine f_iln 2 rfl hL rfl ?_
  refine m_k1 (t144_40_ok c1 c2 hs rx x1 x2 rh) hw hm rfl rfl rfl (m_ar so38 hw rfl) rfl (fun hc1 hw1 hm1 => ?_)
  exact f_ret2 rfl (Or.inr rfl) ⟨rfl, hw1, hm1⟩)
theorem t151_unk {m : Nat → Nat → Int} (n2 : m 3 5 ≤ 4) (c1 : 0 ≤ m 38 2) (c2 : m 38 2 ≤ 6) {x : Int} (rx : -2147483648 ≤ x ∧ x ≤ 2147483647) {h : Int} (rh : -2147483648 ≤ h ∧ h ≤ 2147483647) (hp : ¬ (0 ≤ x ∧ x < m 3 5)) : h_M 151 [.ref 0, fi (x), fi (h)] m (some (fi (-1))) m := h_M_of (R := ev_r151) rfl (fun hc hw hm => by
  have hL : f_L (lv_args 0 [.ref 0, fi (x), fi (h)]) [(0, .ref 0), (1, fi (x)), (2, fi (h))] := f_L_of rfl
  generalize lv_args 0 [.ref 0, fi (x), fi (h)] = L at hL
  show x_W none (1, 0, 3, 2, 10, 2, 45, 0, 0, ev_t151) 0 L [] hc 0 0 _
  have hR := gi_R hm
  refine f_aln 0 rfl hL rfl ?_
  refine m_gfr so0 rfl hw rfl (by decide) ?_
  refine f_iln 1 rfl hL rfl ?_
  refine m_k1 (t40 n2 rx) hw hm rfl rfl rfl (m_ar so3 hw rfl) rfl (fun hc1 hw1 hm1 => ?_)
  refine f_if rfl (bI_r _) (fun c_9 => absurd (show ¬ (bI (decide (0 ≤ x ∧ x < m 3 5)) : Int) = (0 : Int) from c_9) (by rw [decide_eq_false hp]; exact fun z => z rfl)) (fun _ => ?_)
  refine f_s [fi (-1)] rfl rfl ?_
  exact f_ret1 rfl ⟨rfl, hw1, hm1⟩)
theorem t151_out {m : Nat → Nat → Int} (n2 : m 3 5 ≤ 4) (c1 : 0 ≤ m 38 2) (c2 : m 38 2 ≤ 6) {x : Int} (rx : -2147483648 ≤ x ∧ x ≤ 2147483647) {h : Int} (rh : -2147483648 ≤ h ∧ h ≤ 2147483647) (hp : 0 ≤ x ∧ x < m 3 5) (hh : ¬ (0 ≤ h ∧ h < 10)) : h_M 151 [.ref 0, fi (x), fi (h)] m (some (fi (-2))) m := h_M_of (R := ev_r151) rfl (fun hc hw hm => by
  have hL : f_L (lv_args 0 [.ref 0, fi (x), fi (h)]) [(0, .ref 0), (1, fi (x)), (2, fi (h))] := f_L_of rfl
  generalize lv_args 0 [.ref 0, fi (x), fi (h)] = L at hL
  show x_W none (1, 0, 3, 2, 10, 2, 45, 0, 0, ev_t151) 0 L [] hc 0 0 _
  have hR := gi_R hm
  refine f_aln 0 rfl hL rfl ?_
  refine m_gfr so0 rfl hw rfl (by decide) ?_
  refine f_iln 1 rfl hL rfl ?_
  refine m_k1 (t40 n2 rx) hw hm rfl rfl rfl (m_ar so3 hw rfl) rfl (fun hc1 hw1 hm1 => ?_)
  refine f_if rfl (bI_r _) (fun _ => ?_) (fun c_9 => absurd (show ¬ (bI (decide (0 ≤ x ∧ x < m 3 5)) : Int) = (0 : Int) from (by rw [decide_eq_true hp]; decide)) c_9)
  refine f_iln 2 rfl hL rfl ?_
  refine m_k1 (t101 rh) hw1 hm1 rfl rfl rfl rfl rfl (fun hc2 hw2 hm2 => ?_)
  refine f_if rfl (bI_r _) (fun c_9 => absurd (show ¬ (bI (decide (0 ≤ h ∧ h < 10)) : Int) = (0 : Int) from c_9) (by rw [decide_eq_false hh]; exact fun z => z rfl)) (fun _ => ?_)
  refine f_bipush (n := -2) rfl (by decide) ?_
  exact f_ret1 rfl ⟨rfl, hw2, hm2⟩)
theorem t151_full {m : Nat → Nat → Int} (n2 : m 3 5 ≤ 4) (c1 : 0 ≤ m 38 2) (c2 : m 38 2 ≤ 6) {x : Int} (rx : -2147483648 ≤ x ∧ x ≤ 2147483647) {h : Int} (rh : -2147483648 ≤ h ∧ h ≤ 2147483647) (hp : 0 ≤ x ∧ x < m 3 5) (hh : 0 ≤ h ∧ h < 10) (hs : ¬ m 38 2 < 6) : h_M 151 [.ref 0, fi (x), fi (h)] m (some (fi (-4))) m := h_M_of (R := ev_r151) rfl (fun hc hw hm => by
  have hL : f_L (lv_args 0 [.ref 0, fi (x), fi (h)]) [(0, .ref 0), (1, fi (x)), (2, fi (h))] := f_L_of rfl
  generalize lv_args 0 [.ref 0, fi (x), fi (h)] = L at hL
  show x_W none (1, 0, 3, 2, 10, 2, 45, 0, 0, ev_t151) 0 L [] hc 0 0 _
  have hR := gi_R hm
  refine f_aln 0 rfl hL rfl ?_
  refine m_gfr so0 rfl hw rfl (by decide) ?_
  refine f_iln 1 rfl hL rfl ?_
  refine m_k1 (t40 n2 rx) hw hm rfl rfl rfl (m_ar so3 hw rfl) rfl (fun hc1 hw1 hm1 => ?_)
  refine f_if rfl (bI_r _) (fun _ => ?_) (fun c_9 => absurd (show ¬ (bI (decide (0 ≤ x ∧ x < m 3 5)) : Int) = (0 : Int) from (by rw [decide_eq_true hp]; decide)) c_9)
  refine f_iln 2 rfl hL rfl ?_
  refine m_k1 (t101 rh) hw1 hm1 rfl rfl rfl rfl rfl (fun hc2 hw2 hm2 => ?_)
  refine f_if rfl (bI_r _) (fun _ => ?_) (fun c_9 => absurd (show ¬ (bI (decide (0 ≤ h ∧ h < 10)) : Int) = (0 : Int) from (by rw [decide_eq_true hh]; decide)) c_9)
  refine f_aln 0 rfl hL rfl ?_
  refine m_gfr so0 rfl hw2 rfl (by decide) ?_
  refine f_iln 1 rfl hL rfl ?_
  refine f_iln 2 rfl hL rfl ?_
  refine m_k1 (t150_full c1 c2 hs rx rh) hw2 hm2 rfl rfl rfl (m_ar so38 hw2 rfl) rfl (fun hc3 hw3 hm3 => ?_)
  refine f_if rfl (by decide) (fun _ => ?_) (fun c_9 => absurd (show (0 : Int) = (0 : Int) from (by decide)) c_9)
  refine f_bipush (n := -4) rfl (by decide) ?_
  exact f_ret1 rfl ⟨rfl, hw3, hm3⟩)
theorem t151_ok {m : Nat → Nat → Int} (n2 : m 3 5 ≤ 4) (c1 : 0 ≤ m 38 2) (c2 : m 38 2 ≤ 6) {x : Int} (rx : -2147483648 ≤ x ∧ x ≤ 2147483647) {h : Int} (rh : -2147483648 ≤ h ∧ h ≤ 2147483647) (hp : 0 ≤ x ∧ x < m 3 5) (hh : 0 ≤ h ∧ h < 10) (hs : m 38 2 < 6) : h_M 151 [.ref 0, fi (x), fi (h)] m (some (fi ((m 38 2) + 1))) (up (up m 40 (x).toNat (iO (m 40 (x).toNat) (iS (1) (h)))) 38 2 ((m 38 2) + 1)) := h_M_of (R := ev_r151) rfl (fun hc hw hm => by
  have hL : f_L (lv_args 0 [.ref 0, fi (x), fi (h)]) [(0, .ref 0), (1, fi (x)), (2, fi (h))] := f_L_of rfl
  generalize lv_args 0 [.ref 0, fi (x), fi (h)] = L at hL
  show x_W none (1, 0, 3, 2, 10, 2, 45, 0, 0, ev_t151) 0 L [] hc 0 0 _
  have hR := gi_R hm
  refine f_aln 0 rfl hL rfl ?_
  refine m_gfr so0 rfl hw rfl (by decide) ?_
  refine f_iln 1 rfl hL rfl ?_
  refine m_k1 (t40 n2 rx) hw hm rfl rfl rfl (m_ar so3 hw rfl) rfl (fun hc1 hw1 hm1 => ?_)
  refine f_if rfl (bI_r _) (fun _ => ?_) (fun c_9 => absurd (show ¬ (bI (decide (0 ≤ x ∧ x < m 3 5)) : Int) = (0 : Int) from (by rw [decide_eq_true hp]; decide)) c_9)
  refine f_iln 2 rfl hL rfl ?_
  refine m_k1 (t101 rh) hw1 hm1 rfl rfl rfl rfl rfl (fun hc2 hw2 hm2 => ?_)
  refine f_if rfl (bI_r _) (fun _ => ?_) (fun c_9 => absurd (show ¬ (bI (decide (0 ≤ h ∧ h < 10)) : Int) = (0 : Int) from (by rw [decide_eq_true hh]; decide)) c_9)
  refine f_aln 0 rfl hL rfl ?_
  refine m_gfr so0 rfl hw2 rfl (by decide) ?_
  refine f_iln 1 rfl hL rfl ?_
  refine f_iln 2 rfl hL rfl ?_
  refine m_k1 (t150_ok c1 c2 hs rx hp.1 (by omega) rh) hw2 hm2 rfl rfl rfl (m_ar so38 hw2 rfl) rfl (fun hc3 hw3 hm3 => ?_)
  refine f_if rfl (by decide) (fun c_9 => absurd (show (1 : Int) = (0 : Int) from c_9) (by decide)) (fun _ => ?_)
  refine f_aln 0 rfl hL rfl ?_
  refine m_gfr so0 rfl hw3 rfl (by decide) ?_
  refine m_k1 t146 hw3 hm3 rfl rfl rfl (m_ar so38 hw3 rfl) rfl (fun hc4 hw4 hm4 => ?_)
  refine f_goto rfl ?_
  exact f_ret1 rfl ⟨rfl, hw4, hm4⟩)
theorem t148_full {m : Nat → Nat → Int} (c1 : 0 ≤ m 55 21) (c2 : m 55 21 ≤ 6) (hs : m 55 21 = 6) {x : Int} (rx : -2147483648 ≤ x ∧ x ≤ 2147483647) {h : Int} (rh : -2147483648 ≤ h ∧ h ≤ 2147483647) : h_M 148 [.ref 55, fi (x), fi (h)] m (some (fi (-4))) m := h_M_of (R := ev_r148) rfl (fun hc hw hm => by
  have hL : f_L (lv_args 0 [.ref 55, fi (x), fi (h)]) [(0, .ref 55), (1, fi (x)), (2, fi (h))] := f_L_of rfl
  generalize lv_args 0 [.ref 55, fi (x), fi (h)] = L at hL
  show x_W none (1, 0, 3, 2, 11, 0, 0, 0, 0, ev_t148) 0 L [] hc 0 0 _
  have hR := gi_R hm
  refine f_aln 0 rfl hL rfl ?_
  refine m_gfi so55 (m 55 21) rfl hw hm rfl rfl ?_
  refine f_bipush (n := 6) rfl (by decide) ?_
  refine f_ic rfl (by omega) (by omega) (fun c_9 => absurd (show ¬ (m 55 21 : Int) = (6 : Int) from c_9) (fun z => z hs)) (fun _ => ?_)
  refine f_bipush (n := -4) rfl (by decide) ?_
  exact f_ret1 rfl ⟨rfl, hw, hm⟩)
theorem t148_ok {m : Nat → Nat → Int} (c1 : 0 ≤ m 55 21) (c2 : m 55 21 ≤ 6) (hs : m 55 21 < 6) {x : Int} (rx : -2147483648 ≤ x ∧ x ≤ 2147483647) {h : Int} (rh : -2147483648 ≤ h ∧ h ≤ 2147483647) : h_M 148 [.ref 55, fi (x), fi (h)] m (some (fi ((m 55 21) + 1))) (up (up (up m 67 (m 55 21).toNat (x)) 68 (m 55 21).toNat (h)) 55 21 ((m 55 21) + 1)) := h_M_of (R := ev_r148) rfl (fun hc hw hm => by
  have hL : f_L (lv_args 0 [.ref 55, fi (x), fi (h)]) [(0, .ref 55), (1, fi (x)), (2, fi (h))] := f_L_of rfl
  generalize lv_args 0 [.ref 55, fi (x), fi (h)] = L at hL
  show x_W none (1, 0, 3, 2, 11, 0, 0, 0, 0, ev_t148) 0 L [] hc 0 0 _
  have hR := gi_R hm
  refine f_aln 0 rfl hL rfl ?_
  refine m_gfi so55 (m 55 21) rfl hw hm rfl rfl ?_
  refine f_bipush (n := 6) rfl (by decide) ?_
  refine f_ic rfl (by omega) (by omega) (fun _ => ?_) (fun c_9 => absurd (show ¬ (m 55 21 : Int) = (6 : Int) from (by omega)) c_9)
  refine f_aln 0 rfl hL rfl ?_
  refine m_gfr so55 rfl hw rfl (by decide) ?_
  refine f_aln 0 rfl hL rfl ?_
  refine m_gfi so55 (m 55 21) rfl hw hm rfl rfl ?_
  refine f_iln 1 rfl hL rfl ?_
  refine m_ias sa67 rfl hw hm (by omega) (by omega) (by decide) (by omega) (fun hc1 hw1 hm1 => ?_)
  refine f_aln 0 rfl hL rfl ?_
  refine m_gfr so55 rfl hw1 rfl (by decide) ?_
  refine f_aln 0 rfl hL rfl ?_
  refine m_gfi so55 (m 55 21) rfl hw1 hm1 rfl rfl ?_
  refine f_iln 2 rfl hL rfl ?_
  refine m_ias sa68 rfl hw1 hm1 (by omega) (by omega) (by decide) (by omega) (fun hc2 hw2 hm2 => ?_)
  refine f_aln 0 rfl hL rfl ?_
  refine f_s [.ref 55, .ref 55] rfl rfl ?_
  refine m_gfi so55 (m 55 21) rfl hw2 hm2 rfl rfl ?_
  refine f_s [fi (1), fi (m 55 21), .ref 55] rfl rfl ?_
  refine f_iadd rfl ?_
  refine m_pf so55 rfl hw2 hm2 rfl rfl (by omega) (fun hc3 hw3 hm3 => ?_)
  refine f_aln 0 rfl hL rfl ?_
  refine m_gfi so55 ((m 55 21) + 1) rfl hw3 hm3 rfl rfl ?_
  exact f_ret1 rfl ⟨rfl, hw3, hm3⟩)
theorem t149_unk {m : Nat → Nat → Int} (n1 : 0 ≤ m 55 1) (n2 : m 55 1 ≤ 5) (c1 : 0 ≤ m 55 21) (c2 : m 55 21 ≤ 6) {x : Int} (rx : -2147483648 ≤ x ∧ x ≤ 2147483647) {h : Int} (rh : -2147483648 ≤ h ∧ h ≤ 2147483647) (hp : ¬ (0 ≤ x ∧ x < m 55 1)) : h_M 149 [.ref 55, fi (x), fi (h)] m (some (fi (-1))) m := h_M_of (R := ev_r149) rfl (fun hc hw hm => by
  have hL : f_L (lv_args 0 [.ref 55, fi (x), fi (h)]) [(0, .ref 55), (1, fi (x)), (2, fi (h))] := f_L_of rfl
  generalize lv_args 0 [.ref 55, fi (x), fi (h)] = L at hL
  show x_W none (1, 0, 3, 2, 11, 2, 46, 0, 0, ev_t149) 0 L [] hc 0 0 _
  have hR := gi_R hm
  refine f_aln 0 rfl hL rfl ?_
  refine f_iln 1 rfl hL rfl ?_
  refine m_k1 (t61 n1 n2 rx) hw hm rfl rfl rfl (m_ar so55 hw rfl) rfl (fun hc1 hw1 hm1 => ?_)
  refine f_if rfl (bI_r _) (fun c_9 => absurd (show ¬ (bI (decide (0 ≤ x ∧ x < m 55 1)) : Int) = (0 : Int) from c_9) (by rw [decide_eq_false hp]; exact fun z => z rfl)) (fun _ => ?_)
  refine f_s [fi (-1)] rfl rfl ?_
  exact f_ret1 rfl ⟨rfl, hw1, hm1⟩)
theorem t149_out {m : Nat → Nat → Int} (n1 : 0 ≤ m 55 1) (n2 : m 55 1 ≤ 5) (c1 : 0 ≤ m 55 21) (c2 : m 55 21 ≤ 6) {x : Int} (rx : -2147483648 ≤ x ∧ x ≤ 2147483647) {h : Int} (rh : -2147483648 ≤ h ∧ h ≤ 2147483647) (hp : 0 ≤ x ∧ x < m 55 1) (hh : ¬ (0 ≤ h ∧ h < 10)) : h_M 149 [.ref 55, fi (x), fi (h)] m (some (fi (-2))) m := h_M_of (R := ev_r149) rfl (fun hc hw hm => by
  have hL : f_L (lv_args 0 [.ref 55, fi (x), fi (h)]) [(0, .ref 55), (1, fi (x)), (2, fi (h))] := f_L_of rfl
  generalize lv_args 0 [.ref 55, fi (x), fi (h)] = L at hL
  show x_W none (1, 0, 3, 2, 11, 2, 46, 0, 0, ev_t149) 0 L [] hc 0 0 _
  have hR := gi_R hm
  refine f_aln 0 rfl hL rfl ?_
  refine f_iln 1 rfl hL rfl ?_
  refine m_k1 (t61 n1 n2 rx) hw hm rfl rfl rfl (m_ar so55 hw rfl) rfl (fun hc1 hw1 hm1 => ?_)
  refine f_if rfl (bI_r _) (fun _ => ?_) (fun c_9 => absurd (show ¬ (bI (decide (0 ≤ x ∧ x < m 55 1)) : Int) = (0 : Int) from (by rw [decide_eq_true hp]; decide)) c_9)
  refine f_iln 2 rfl hL rfl ?_
  refine f_i2l rfl (by omega) ?_
  refine f_s [fl (0), fl (h)] rfl rfl ?_
  refine f_ldc2 (9) rfl rfl ?_
  refine m_k1 (t_in h 0 9 (by omega) (by decide) (by decide)) hw1 hm1 rfl rfl rfl rfl rfl (fun hc2 hw2 hm2 => ?_)
  refine f_if rfl (bI_r _) (fun _ => ?_) (fun c_9 => absurd (show (bI (decide (0 ≤ h ∧ h ≤ 9)) : Int) = (0 : Int) from (by rw [decide_eq_false (by omega)]; rfl)) c_9)
  refine f_bipush (n := -2) rfl (by decide) ?_
  exact f_ret1 rfl ⟨rfl, hw2, hm2⟩)
theorem t149_full {m : Nat → Nat → Int} (n1 : 0 ≤ m 55 1) (n2 : m 55 1 ≤ 5) (c1 : 0 ≤ m 55 21) (c2 : m 55 21 ≤ 6) {x : Int} (rx : -2147483648 ≤ x ∧ x ≤ 2147483647) {h : Int} (rh : -2147483648 ≤ h ∧ h ≤ 2147483647) (hp : 0 ≤ x ∧ x < m 55 1) (hh : 0 ≤ h ∧ h < 10) (hs : m 55 21 = 6) : h_M 149 [.ref 55, fi (x), fi (h)] m (some (fi (-4))) m := h_M_of (R := ev_r149) rfl (fun hc hw hm => by
  have hL : f_L (lv_args 0 [.ref 55, fi (x), fi (h)]) [(0, .ref 55), (1, fi (x)), (2, fi (h))] := f_L_of rfl
  generalize lv_args 0 [.ref 55, fi (x), fi (h)] = L at hL
  show x_W none (1, 0, 3, 2, 11, 2, 46, 0, 0, ev_t149) 0 L [] hc 0 0 _
  have hR := gi_R hm
  refine f_aln 0 rfl hL rfl ?_
  refine f_iln 1 rfl hL rfl ?_
  refine m_k1 (t61 n1 n2 rx) hw hm rfl rfl rfl (m_ar so55 hw rfl) rfl (fun hc1 hw1 hm1 => ?_)
  refine f_if rfl (bI_r _) (fun _ => ?_) (fun c_9 => absurd (show ¬ (bI (decide (0 ≤ x ∧ x < m 55 1)) : Int) = (0 : Int) from (by rw [decide_eq_true hp]; decide)) c_9)
  refine f_iln 2 rfl hL rfl ?_
  refine f_i2l rfl (by omega) ?_
  refine f_s [fl (0), fl (h)] rfl rfl ?_
  refine f_ldc2 (9) rfl rfl ?_
  refine m_k1 (t_in h 0 9 (by omega) (by decide) (by decide)) hw1 hm1 rfl rfl rfl rfl rfl (fun hc2 hw2 hm2 => ?_)
  refine f_if rfl (bI_r _) (fun c_9 => absurd (show (bI (decide (0 ≤ h ∧ h ≤ 9)) : Int) = (0 : Int) from c_9) (by rw [decide_eq_true (by omega)]; decide)) (fun _ => ?_)
  refine f_aln 0 rfl hL rfl ?_
  refine f_iln 1 rfl hL rfl ?_
  refine f_iln 2 rfl hL rfl ?_
  refine m_k1 (t148_full (x := x) c1 c2 hs (by omega) rh) hw2 hm2 rfl rfl rfl (m_ar so55 hw2 rfl) rfl (fun hc3 hw3 hm3 => ?_)
  refine f_goto rfl ?_
  exact f_ret1 rfl ⟨rfl, hw3, hm3⟩)
theorem t149_ok {m : Nat → Nat → Int} (n1 : 0 ≤ m 55 1) (n2 : m 55 1 ≤ 5) (c1 : 0 ≤ m 55 21) (c2 : m 55 21 ≤ 6) {x : Int} (rx : -2147483648 ≤ x ∧ x ≤ 2147483647) {h : Int} (rh : -2147483648 ≤ h ∧ h ≤ 2147483647) (hp : 0 ≤ x ∧ x < m 55 1) (hh : 0 ≤ h ∧ h < 10) (hs : m 55 21 < 6) : h_M 149 [.ref 55, fi (x), fi (h)] m (some (fi ((m 55 21) + 1))) (up (up (up m 67 (m 55 21).toNat (x)) 68 (m 55 21).toNat (h)) 55 21 ((m 55 21) + 1)) := h_M_of (R := ev_r149) rfl (fun hc hw hm => by
  have hL : f_L (lv_args 0 [.ref 55, fi (x), fi (h)]) [(0, .ref 55), (1, fi (x)), (2, fi (h))] := f_L_of rfl
  generalize lv_args 0 [.ref 55, fi (x), fi (h)] = L at hL
  show x_W none (1, 0, 3, 2, 11, 2, 46, 0, 0, ev_t149) 0 L [] hc 0 0 _
  have hR := gi_R hm
  refine f_aln 0 rfl hL rfl ?_
  refine f_iln 1 rfl hL rfl ?_
  refine m_k1 (t61 n1 n2 rx) hw hm rfl rfl rfl (m_ar so55 hw rfl) rfl (fun hc1 hw1 hm1 => ?_)
  refine f_if rfl (bI_r _) (fun _ => ?_) (fun c_9 => absurd (show ¬ (bI (decide (0 ≤ x ∧ x < m 55 1)) : Int) = (0 : Int) from (by rw [decide_eq_true hp]; decide)) c_9)
  refine f_iln 2 rfl hL rfl ?_
  refine f_i2l rfl (by omega) ?_
  refine f_s [fl (0), fl (h)] rfl rfl ?_
  refine f_ldc2 (9) rfl rfl ?_
  refine m_k1 (t_in h 0 9 (by omega) (by decide) (by decide)) hw1 hm1 rfl rfl rfl rfl rfl (fun hc2 hw2 hm2 => ?_)
  refine f_if rfl (bI_r _) (fun c_9 => absurd (show (bI (decide (0 ≤ h ∧ h ≤ 9)) : Int) = (0 : Int) from c_9) (by rw [decide_eq_true (by omega)]; decide)) (fun _ => ?_)
  refine f_aln 0 rfl hL rfl ?_
  refine f_iln 1 rfl hL rfl ?_
  refine f_iln 2 rfl hL rfl ?_
  refine m_k1 (t148_ok (x := x) c1 c2 hs (by omega) rh) hw2 hm2 rfl rfl rfl (m_ar so55 hw2 rfl) rfl (fun hc3 hw3 hm3 => ?_)
  refine f_goto rfl ?_
  exact f_ret1 rfl ⟨rfl, hw3, hm3⟩)
theorem t152_unk {m : Nat → Nat → Int} (n1 : 0 ≤ m 55 0) (n2 : m 55 0 ≤ 4) (c1 : 0 ≤ m 55 21) (c2 : m 55 21 ≤ 6) {x : Int} (rx : -2147483648 ≤ x ∧ x ≤ 2147483647) {h : Int} (rh : -2147483648 ≤ h ∧ h ≤ 2147483647) (hp : ¬ (0 ≤ x ∧ x < m 55 0)) : h_M 152 [.ref 55, fi (x), fi (h)] m (some (fi (-1))) m := h_M_of (R := ev_r152) rfl (fun hc hw hm => by
  have hL : f_L (lv_args 0 [.ref 55, fi (x), fi (h)]) [(0, .ref 55), (1, fi (x)), (2, fi (h))] := f_L_of rfl
  generalize lv_args 0 [.ref 55, fi (x), fi (h)] = L at hL
  show x_W none (1, 0, 3, 2, 11, 2, 46, 0, 0, ev_t152) 0 L [] hc 0 0 _
  have hR := gi_R hm
  refine f_aln 0 rfl hL rfl ?_
  refine f_iln 1 rfl hL rfl ?_
  refine m_k1 (t46 n1 n2 rx) hw hm rfl rfl rfl (m_ar so55 hw rfl) rfl (fun hc1 hw1 hm1 => ?_)
  refine f_if rfl (bI_r _) (fun c_9 => absurd (show ¬ (bI (decide (0 ≤ x ∧ x < m 55 0)) : Int) = (0 : Int) from c_9) (by rw [decide_eq_false hp]; exact fun z => z rfl)) (fun _ => ?_)
  refine f_s [fi (-1)] rfl rfl ?_
  exact f_ret1 rfl ⟨rfl, hw1, hm1⟩)
theorem t152_out {m : Nat → Nat → Int} (n1 : 0 ≤ m 55 0) (n2 : m 55 0 ≤ 4) (c1 : 0 ≤ m 55 21) (c2 : m 55 21 ≤ 6) {x : Int} (rx : -2147483648 ≤ x ∧ x ≤ 2147483647) {h : Int} (rh : -2147483648 ≤ h ∧ h ≤ 2147483647) (hp : 0 ≤ x ∧ x < m 55 0) (hh : ¬ (0 ≤ h ∧ h < 10)) : h_M 152 [.ref 55, fi (x), fi (h)] m (some (fi (-2))) m := h_M_of (R := ev_r152) rfl (fun hc hw hm => by
  have hL : f_L (lv_args 0 [.ref 55, fi (x), fi (h)]) [(0, .ref 55), (1, fi (x)), (2, fi (h))] := f_L_of rfl
  generalize lv_args 0 [.ref 55, fi (x), fi (h)] = L at hL
  show x_W none (1, 0, 3, 2, 11, 2, 46, 0, 0, ev_t152) 0 L [] hc 0 0 _
  have hR := gi_R hm
  refine f_aln 0 rfl hL rfl ?_
  refine f_iln 1 rfl hL rfl ?_
  refine m_k1 (t46 n1 n2 rx) hw hm rfl rfl rfl (m_ar so55 hw rfl) rfl (fun hc1 hw1 hm1 => ?_)
  refine f_if rfl (bI_r _) (fun _ => ?_) (fun c_9 => absurd (show ¬ (bI (decide (0 ≤ x ∧ x < m 55 0)) : Int) = (0 : Int) from (by rw [decide_eq_true hp]; decide)) c_9)
  refine f_iln 2 rfl hL rfl ?_
  refine f_i2l rfl (by omega) ?_
  refine f_s [fl (0), fl (h)] rfl rfl ?_
  refine f_ldc2 (9) rfl rfl ?_
  refine m_k1 (t_in h 0 9 (by omega) (by decide) (by decide)) hw1 hm1 rfl rfl rfl rfl rfl (fun hc2 hw2 hm2 => ?_)
  refine f_if rfl (bI_r _) (fun _ => ?_) (fun c_9 => absurd (show (bI (decide (0 ≤ h ∧ h ≤ 9)) : Int) = (0 : Int) from (by rw [decide_eq_false (by omega)]; rfl)) c_9)
  refine f_bipush (n := -2) rfl (by decide) ?_
  exact f_ret1 rfl ⟨rfl, hw2, hm2⟩)
theorem t152_full {m : Nat → Nat → Int} (n1 : 0 ≤ m 55 0) (n2 : m 55 0 ≤ 4) (c1 : 0 ≤ m 55 21) (c2 : m 55 21 ≤ 6) {x : Int} (rx : -2147483648 ≤ x ∧ x ≤ 2147483647) {h : Int} (rh : -2147483648 ≤ h ∧ h ≤ 2147483647) (hp : 0 ≤ x ∧ x < m 55 0) (hh : 0 ≤ h ∧ h < 10) (hs : m 55 21 = 6) : h_M 152 [.ref 55, fi (x), fi (h)] m (some (fi (-4))) m := h_M_of (R := ev_r152) rfl (fun hc hw hm => by
  have hL : f_L (lv_args 0 [.ref 55, fi (x), fi (h)]) [(0, .ref 55), (1, fi (x)), (2, fi (h))] := f_L_of rfl
  generalize lv_args 0 [.ref 55, fi (x), fi (h)] = L at hL
  show x_W none (1, 0, 3, 2, 11, 2, 46, 0, 0, ev_t152) 0 L [] hc 0 0 _
  have hR := gi_R hm
  refine f_aln 0 rfl hL rfl ?_
  refine f_iln 1 rfl hL rfl ?_
  refine m_k1 (t46 n1 n2 rx) hw hm rfl rfl rfl (m_ar so55 hw rfl) rfl (fun hc1 hw1 hm1 => ?_)
  refine f_if rfl (bI_r _) (fun _ => ?_) (fun c_9 => absurd (show ¬ (bI (decide (0 ≤ x ∧ x < m 55 0)) : Int) = (0 : Int) from (by rw [decide_eq_true hp]; decide)) c_9)
  refine f_iln 2 rfl hL rfl ?_
  refine f_i2l rfl (by omega) ?_
  refine f_s [fl (0), fl (h)] rfl rfl ?_
  refine f_ldc2 (9) rfl rfl ?_
  refine m_k1 (t_in h 0 9 (by omega) (by decide) (by decide)) hw1 hm1 rfl rfl rfl rfl rfl (fun hc2 hw2 hm2 => ?_)
  refine f_if rfl (bI_r _) (fun c_9 => absurd (show (bI (decide (0 ≤ h ∧ h ≤ 9)) : Int) = (0 : Int) from c_9) (by rw [decide_eq_true (by omega)]; decide)) (fun _ => ?_)
  refine f_aln 0 rfl hL rfl ?_
  refine f_s [fi (5), .ref 55] rfl rfl ?_
  refine f_iln 1 rfl hL rfl ?_
  refine f_iadd rfl ?_
  refine f_iln 2 rfl hL rfl ?_
  refine m_k1 (t148_full (x := 5 + x) c1 c2 hs (by omega) rh) hw2 hm2 rfl rfl rfl (m_ar so55 hw2 rfl) rfl (fun hc3 hw3 hm3 => ?_)
  refine f_goto rfl ?_
  exact f_ret1 rfl ⟨rfl, hw3, hm3⟩)
theorem t152_ok {m : Nat → Nat → Int} (n1 : 0 ≤ m 55 0) (n2 : m 55 0 ≤ 4) (c1 : 0 ≤ m 55 21) (c2 : m 55 21 ≤ 6) {x : Int} (rx : -2147483648 ≤ x ∧ x ≤ 2147483647) {h : Int} (rh : -2147483648 ≤ h ∧ h ≤ 2147483647) (hp : 0 ≤ x ∧ x < m 55 0) (hh : 0 ≤ h ∧ h < 10) (hs : m 55 21 < 6) : h_M 152 [.ref 55, fi (x), fi (h)] m (some (fi ((m 55 21) + 1))) (up (up (up m 67 (m 55 21).toNat (5 + x)) 68 (m 55 21).toNat (h)) 55 21 ((m 55 21) + 1)) := h_M_of (R := ev_r152) rfl (fun hc hw hm => by
  have hL : f_L (lv_args 0 [.ref 55, fi (x), fi (h)]) [(0, .ref 55), (1, fi (x)), (2, fi (h))] := f_L_of rfl
  generalize lv_args 0 [.ref 55, fi (x), fi (h)] = L at hL
  show x_W none (1, 0, 3, 2, 11, 2, 46, 0, 0, ev_t152) 0 L [] hc 0 0 _
  have hR := gi_R hm
  refine f_aln 0 rfl hL rfl ?_
  refine f_iln 1 rfl hL rfl ?_
  refine m_k1 (t46 n1 n2 rx) hw hm rfl rfl rfl (m_ar so55 hw rfl) rfl (fun hc1 hw1 hm1 => ?_)
  refine f_if rfl (bI_r _) (fun _ => ?_) (fun c_9 => absurd (show ¬ (bI (decide (0 ≤ x ∧ x < m 55 0)) : Int) = (0 : Int) from (by rw [decide_eq_true hp]; decide)) c_9)
  refine f_iln 2 rfl hL rfl ?_
  refine f_i2l rfl (by omega) ?_
  refine f_s [fl (0), fl (h)] rfl rfl ?_
  refine f_ldc2 (9) rfl rfl ?_
  refine m_k1 (t_in h 0 9 (by omega) (by decide) (by decide)) hw1 hm1 rfl rfl rfl rfl rfl (fun hc2 hw2 hm2 => ?_)
  refine f_if rfl (bI_r _) (fun c_9 => absurd (show (bI (decide (0 ≤ h ∧ h ≤ 9)) : Int) = (0 : Int) from c_9) (by rw [decide_eq_true (by omega)]; decide)) (fun _ => ?_)
  refine f_aln 0 rfl hL rfl ?_
  refine f_s [fi (5), .ref 55] rfl rfl ?_
  refine f_iln 1 rfl hL rfl ?_
  refine f_iadd rfl ?_
  refine f_iln 2 rfl hL rfl ?_
  refine m_k1 (t148_ok (x := 5 + x) c1 c2 hs (by omega) rh) hw2 hm2 rfl rfl rfl (m_ar so55 hw2 rfl) rfl (fun hc3 hw3 hm3 => ?_)
  refine f_goto rfl ?_
  exact f_ret1 rfl ⟨rfl, hw3, hm3⟩)
theorem t2_39 {m : Nat → Nat → Int} {v : Int} (rv : -2147483648 ≤ v ∧ v ≤ 2147483647) : h_M 2 [.ref 39, fi (v)] m none (up (up (up (up (up m 39 0 (v)) 39 1 (v)) 39 2 (v)) 39 3 (v)) 39 4 (v)) := h_M_of (R := ev_r2) rfl (fun hc hw hm => by
  have hL : f_L (lv_args 0 [.ref 39, fi (v)]) [(0, .ref 39), (1, fi (v))] := f_L_of rfl
  generalize lv_args 0 [.ref 39, fi (v)] = L at hL
  show x_W none (0, 0, 4, 2, 0, 0, 0, 0, 0, ev_t2) 0 L [] hc 0 0 _
  have hR := gi_R hm
  refine f_s [fi (0)] rfl rfl ?_
  refine f_istn [(2, fi (0)), (0, .ref 39), (1, fi (v))] rfl (by decide) hL rfl (fun L1 hL1 => ?_)
  refine f_aln 1 rfl hL1 rfl ?_
  refine m_al sa39 rfl hw (by decide) ?_
  refine f_istn [(3, fi (5)), (2, fi (0)), (0, .ref 39), (1, fi (v))] rfl (by decide) hL1 rfl (fun L2 hL2 => ?_)
  refine f_iln 1 rfl hL2 rfl ?_
  refine f_iln 0 rfl hL2 rfl ?_
  refine f_ic rfl (by decide) (by decide) (fun c_9 => absurd (show (5 : Int) ≤ (0 : Int) from c_9) (by decide)) (fun _ => ?_)
  refine f_aln 2 rfl hL2 rfl ?_
  refine f_iln 1 rfl hL2 rfl ?_
  refine f_iln 3 rfl hL2 rfl ?_
  refine m_ias sa39 rfl hw hm (by omega) (by omega) (by decide) (by omega) (fun hc1 hw1 hm1 => ?_)
  refine f_inc 1 [(2, fi (1)), (3, fi (5)), (0, .ref 39), (1, fi (v))] rfl (by decide) hL2 rfl rfl (fun L3 hL3 => ?_)
  refine f_goto rfl ?_
  refine f_iln 0 rfl hL3 rfl ?_
  refine f_iln 1 rfl hL3 rfl ?_
  refine f_ic rfl (by decide) (by decide) (fun c_9 => absurd (show (5 : Int) ≤ (1 : Int) from c_9) (by decide)) (fun _ => ?_)
  refine f_aln 2 rfl hL3 rfl ?_
  refine f_iln 0 rfl hL3 rfl ?_
  refine f_iln 3 rfl hL3 rfl ?_
  refine m_ias sa39 rfl hw1 hm1 (by omega) (by omega) (by decide) (by omega) (fun hc2 hw2 hm2 => ?_)
  refine f_inc 0 [(2, fi (2)), (3, fi (5)), (0, .ref 39), (1, fi (v))] rfl (by decide) hL3 rfl rfl (fun L4 hL4 => ?_)
  refine f_goto rfl ?_
  refine f_iln 0 rfl hL4 rfl ?_
  refine f_iln 1 rfl hL4 rfl ?_
  refine f_ic rfl (by decide) (by decide) (fun c_9 => absurd (show (5 : Int) ≤ (2 : Int) from c_9) (by decide)) (fun _ => ?_)
  refine f_aln 2 rfl hL4 rfl ?_
  refine f_iln 0 rfl hL4 rfl ?_
  refine f_iln 3 rfl hL4 rfl ?_
  refine m_ias sa39 rfl hw2 hm2 (by omega) (by omega) (by decide) (by omega) (fun hc3 hw3 hm3 => ?_)
  refine f_inc 0 [(2, fi (3)), (3, fi (5)), (0, .ref 39), (1, fi (v))] rfl (by decide) hL4 rfl rfl (fun L5 hL5 => ?_)
  refine f_goto rfl ?_
  refine f_iln 0 rfl hL5 rfl ?_
  refine f_iln 1 rfl hL5 rfl ?_
  refine f_ic rfl (by decide) (by decide) (fun c_9 => absurd (show (5 : Int) ≤ (3 : Int) from c_9) (by decide)) (fun _ => ?_)
  refine f_aln 2 rfl hL5 rfl ?_
  refine f_iln 0 rfl hL5 rfl ?_
  refine f_iln 3 rfl hL5 rfl ?_
  refine m_ias sa39 rfl hw3 hm3 (by omega) (by omega) (by decide) (by omega) (fun hc4 hw4 hm4 => ?_)
  refine f_inc 0 [(2, fi (4)), (3, fi (5)), (0, .ref 39), (1, fi (v))] rfl (by decide) hL5 rfl rfl (fun L6 hL6 => ?_)
  refine f_goto rfl ?_
  refine f_iln 0 rfl hL6 rfl ?_
  refine f_iln 1 rfl hL6 rfl ?_
  refine f_ic rfl (by decide) (by decide) (fun c_9 => absurd (show (5 : Int) ≤ (4 : Int) from c_9) (by decide)) (fun _ => ?_)
  refine f_aln 2 rfl hL6 rfl ?_
  refine f_iln 0 rfl hL6 rfl ?_
  refine f_iln 3 rfl hL6 rfl ?_
  refine m_ias sa39 rfl hw4 hm4 (by omega) (by omega) (by decide) (by omega) (fun hc5 hw5 hm5 => ?_)
  refine f_inc 0 [(2, fi (5)), (3, fi (5)), (0, .ref 39), (1, fi (v))] rfl (by decide) hL6 rfl rfl (fun L7 hL7 => ?_)
  refine f_goto rfl ?_
  refine f_iln 0 rfl hL7 rfl ?_
  refine f_iln 1 rfl hL7 rfl ?_
  refine f_ic rfl (by decide) (by decide) (fun _ => ?_) (fun c_9 => absurd (show (5 : Int) ≤ (5 : Int) from (by decide)) c_9)
  exact m_ret0 rfl ⟨rfl, hw5, hm5⟩)
theorem t2_40 {m : Nat → Nat → Int} {v : Int} (rv : -2147483648 ≤ v ∧ v ≤ 2147483647) : h_M 2 [.ref 40, fi (v)] m none (up (up (up (up m 40 0 (v)) 40 1 (v)) 40 2 (v)) 40 3 (v)) := h_M_of (R := ev_r2) rfl (fun hc hw hm => by
  have hL : f_L (lv_args 0 [.ref 40, fi (v)]) [(0, .ref 40), (1, fi (v))] := f_L_of rfl
  generalize lv_args 0 [.ref 40, fi (v)] = L at hL
  show x_W none (0, 0, 4, 2, 0, 0, 0, 0, 0, ev_t2) 0 L [] hc 0 0 _
  have hR := gi_R hm
  refine f_s [fi (0)] rfl rfl ?_
  refine f_istn [(2, fi (0)), (0, .ref 40), (1, fi (v))] rfl (by decide) hL rfl (fun L1 hL1 => ?_)
  refine f_aln 1 rfl hL1 rfl ?_
  refine m_al sa40 rfl hw (by decide) ?_
  refine f_istn [(3, fi (4)), (2, fi (0)), (0, .ref 40), (1, fi (v))] rfl (by decide) hL1 rfl (fun L2 hL2 => ?_)
  refine f_iln 1 rfl hL2 rfl ?_
  refine f_iln 0 rfl hL2 rfl ?_
  refine f_ic rfl (by decide) (by decide) (fun c_9 => absurd (show (4 : Int) ≤ (0 : Int) from c_9) (by decide)) (fun _ => ?_)
  refine f_aln 2 rfl hL2 rfl ?_
  refine f_iln 1 rfl hL2 rfl ?_
  refine f_iln 3 rfl hL2 rfl ?_
  refine m_ias sa40 rfl hw hm (by omega) (by omega) (by decide) (by omega) (fun hc1 hw1 hm1 => ?_)
  refine f_inc 1 [(2, fi (1)), (3, fi (4)), (0, .ref 40), (1, fi (v))] rfl (by decide) hL2 rfl rfl (fun L3 hL3 => ?_)
  refine f_goto rfl ?_
  refine f_iln 0 rfl hL3 rfl ?_
  refine f_iln 1 rfl hL3 rfl ?_
  refine f_ic rfl (by decide) (by decide) (fun c_9 => absurd (show (4 : Int) ≤ (1 : Int) from c_9) (by decide)) (fun _ => ?_)
  refine f_aln 2 rfl hL3 rfl ?_
  refine f_iln 0 rfl hL3 rfl ?_
  refine f_iln 3 rfl hL3 rfl ?_
  refine m_ias sa40 rfl hw1 hm1 (by omega) (by omega) (by decide) (by omega) (fun hc2 hw2 hm2 => ?_)
  refine f_inc 0 [(2, fi (2)), (3, fi (4)), (0, .ref 40), (1, fi (v))] rfl (by decide) hL3 rfl rfl (fun L4 hL4 => ?_)
  refine f_goto rfl ?_
  refine f_iln 0 rfl hL4 rfl ?_
  refine f_iln 1 rfl hL4 rfl ?_
  refine f_ic rfl (by decide) (by decide) (fun c_9 => absurd (show (4 : Int) ≤ (2 : Int) from c_9) (by decide)) (fun _ => ?_)
  refine f_aln 2 rfl hL4 rfl ?_
  refine f_iln 0 rfl hL4 rfl ?_
  refine f_iln 3 rfl hL4 rfl ?_
  refine m_ias sa40 rfl hw2 hm2 (by omega) (by omega) (by decide) (by omega) (fun hc3 hw3 hm3 => ?_)
  refine f_inc 0 [(2, fi (3)), (3, fi (4)), (0, .ref 40), (1, fi (v))] rfl (by decide) hL4 rfl rfl (fun L5 hL5 => ?_)
  refine f_goto rfl ?_
  refine f_iln 0 rfl hL5 rfl ?_
  refine f_iln 1 rfl hL5 rfl ?_
  refine f_ic rfl (by decide) (by decide) (fun c_9 => absurd (show (4 : Int) ≤ (3 : Int) from c_9) (by decide)) (fun _ => ?_)
  refine f_aln 2 rfl hL5 rfl ?_
  refine f_iln 0 rfl hL5 rfl ?_
  refine f_iln 3 rfl hL5 rfl ?_
  refine m_ias sa40 rfl hw3 hm3 (by omega) (by omega) (by decide) (by omega) (fun hc4 hw4 hm4 => ?_)
  refine f_inc 0 [(2, fi (4)), (3, fi (4)), (0, .ref 40), (1, fi (v))] rfl (by decide) hL5 rfl rfl (fun L6 hL6 => ?_)
  refine f_goto rfl ?_
  refine f_iln 0 rfl hL6 rfl ?_
  refine f_iln 1 rfl hL6 rfl ?_
  refine f_ic rfl (by decide) (by decide) (fun _ => ?_) (fun c_9 => absurd (show (4 : Int) ≤ (4 : Int) from (by decide)) c_9)
  exact m_ret0 rfl ⟨rfl, hw4, hm4⟩)
theorem t153 {m : Nat → Nat → Int} : h_M 153 [.ref 38] m (some (fi (m 38 2))) (up (up (up (up (up (up (up (up (up (up m 39 0 (0)) 39 1 (0)) 39 2 (0)) 39 3 (0)) 39 4 (0)) 40 0 (0)) 40 1 (0)) 40 2 (0)) 40 3 (0)) 38 2 (0)) := h_M_of (R := ev_r153) rfl (fun hc hw hm => by
  have hL : f_L (lv_args 0 [.ref 38]) [(0, .ref 38)] := f_L_of rfl
  generalize lv_args 0 [.ref 38] = L at hL
  show x_W none (1, 0, 2, 0, 3, 1, 23, 0, 0, ev_t153) 0 L [] hc 0 0 _
  have hR := gi_R hm
  refine f_aln 0 rfl hL rfl ?_
  refine m_gfi so38 (m 38 2) rfl hw hm rfl rfl ?_
  refine f_istn [(1, fi (m 38 2)), (0, .ref 38)] rfl (by decide) hL rfl (fun L1 hL1 => ?_)
  refine f_aln 1 rfl hL1 rfl ?_
  refine m_gfr so38 rfl hw rfl (by decide) ?_
  refine f_s [fi (0), .ref 39] rfl rfl ?_
  refine m_k0 (t2_39 (v := 0) (by decide)) hw hm rfl rfl rfl rfl rfl (fun hc1 hw1 hm1 => ?_)
  refine f_aln 1 rfl hL1 rfl ?_
  refine m_gfr so38 rfl hw1 rfl (by decide) ?_
  refine f_s [fi (0), .ref 40] rfl rfl ?_
  refine m_k0 (t2_40 (v := 0) (by decide)) hw1 hm1 rfl rfl rfl rfl rfl (fun hc2 hw2 hm2 => ?_)
  refine f_aln 1 rfl hL1 rfl ?_
  refine f_s [fi (0), .ref 38] rfl rfl ?_
  refine m_pf so38 rfl hw2 hm2 rfl rfl (by decide) (fun hc3 hw3 hm3 => ?_)
  refine f_iln 0 rfl hL1 rfl ?_
  exact f_ret1 rfl ⟨rfl, hw3, hm3⟩)
theorem t154 {m : Nat → Nat → Int} : h_M 154 [.ref 0] m (some (fi (m 38 2))) (up (up (up (up (up (up (up (up (up (up m 39 0 (0)) 39 1 (0)) 39 2 (0)) 39 3 (0)) 39 4 (0)) 40 0 (0)) 40 1 (0)) 40 2 (0)) 40 3 (0)) 38 2 (0)) := h_M_of (R := ev_r154) rfl (fun hc hw hm => by
  have hL : f_L (lv_args 0 [.ref 0]) [(0, .ref 0)] := f_L_of rfl
  generalize lv_args 0 [.ref 0] = L at hL
  show x_W none (1, 0, 1, 0, 10, 2, 44, 0, 0, ev_t154) 0 L [] hc 0 0 _
  have hR := gi_R hm
  refine f_aln 0 rfl hL rfl ?_
  refine m_gfr so0 rfl hw rfl (by decide) ?_
  refine m_k1 t153 hw hm rfl rfl rfl (m_ar so38 hw rfl) rfl (fun hc1 hw1 hm1 => ?_)
  exact f_ret1 rfl ⟨rfl, hw1, hm1⟩)
theorem t155 {m : Nat → Nat → Int} : h_M 155 [.ref 55] m (some (fi (m 55 21))) (up m 55 21 (0)) := h_M_of (R := ev_r155) rfl (fun hc hw hm => by
  have hL : f_L (lv_args 0 [.ref 55]) [(0, .ref 55)] := f_L_of rfl
  generalize lv_args 0 [.ref 55] = L at hL
  show x_W none (1, 0, 2, 0, 11, 0, 0, 0, 0, ev_t155) 0 L [] hc 0 0 _
  have hR := gi_R hm
  refine f_aln 0 rfl hL rfl ?_
  refine m_gfi so55 (m 55 21) rfl hw hm rfl rfl ?_
  refine f_istn [(1, fi (m 55 21)), (0, .ref 55)] rfl (by decide) hL rfl (fun L1 hL1 => ?_)
  refine f_aln 1 rfl hL1 rfl ?_
  refine f_s [fi (0), .ref 55] rfl rfl ?_
  refine m_pf so55 rfl hw hm rfl rfl (by decide) (fun hc1 hw1 hm1 => ?_)
  refine f_iln 0 rfl hL1 rfl ?_
  exact f_ret1 rfl ⟨rfl, hw1, hm1⟩)
/-- as many clues -/
def CR (m : Nat → Nat → Int) : Prop := m 38 2 = m 55 21
def CR_FP : yMd := [(38, 2, 2), (55, 21, 21)]
theorem CR_keep {m m' : Nat → Nat → Int} (h : g_agree CR_FP m m') (hC : CR m) : CR m' := by
  have e1 : m' 38 2 = m 38 2 := h.at 0 rfl 2 (by decide) (by decide)
  have e2 : m' 55 21 = m 55 21 := h.at 1 rfl 21 (by decide) (by decide)
  show m' 38 2 = m' 55 21
  rw [e1, e2]
  exact hC
theorem g_cl {hc : ev_H} (hin : y_in yG hc) : 0 ≤ gi hc 38 2 ∧ gi hc 38 2 ≤ 6 := g_rf (lo := 0) (hi := 6) hin rfl rfl rfl
theorem g_tl {hc : ev_H} (hin : y_in yG hc) : 0 ≤ gi hc 55 21 ∧ gi hc 55 21 ≤ 6 := g_rf (lo := 0) (hi := 6) hin rfl rfl rfl
theorem g_nm {hc : ev_H} (hin : y_in yG hc) : 0 ≤ gi hc 3 5 ∧ gi hc 3 5 ≤ 4 := g_rf (lo := 0) (hi := 4) hin rfl rfl rfl
theorem g_pp {hc : ev_H} (hin : y_in yG hc) : 0 ≤ gi hc 3 6 ∧ gi hc 3 6 ≤ 5 := g_rf (lo := 0) (hi := 5) hin rfl rfl rfl
theorem g_nmM {hc : ev_H} (hin : y_in yG hc) : 0 ≤ gi hc 55 0 ∧ gi hc 55 0 ≤ 4 := g_rf (lo := 0) (hi := 4) hin rfl rfl rfl
theorem g_ppM {hc : ev_H} (hin : y_in yG hc) : 0 ≤ gi hc 55 1 ∧ gi hc 55 1 ≤ 5 := g_rf (lo := 0) (hi := 5) hin rfl rfl rfl
theorem g_args3' {x y : Int} {q : Nat} : y_args [(2, Int.ofNat q, Int.ofNat q, false), (0, Int.negSucc 2147483647, Int.ofNat 2147483647, false), (0, Int.negSucc 2147483647, Int.ofNat 2147483647, false)] [.ref q, fi x, fi y] := f_args_c f_rAr (f_args_c f_rAi (f_args_c f_rAi f_args_n))
theorem CR_see {hc : ev_H} (hin : y_in yG hc) (hN : NR (gi hc)) (hC : CR (gi hc)) {x h : Int} (rx : -2147483648 ≤ x ∧ x ≤ 2147483647) (rh : -2147483648 ≤ h ∧ h ≤ 2147483647) : ∃ rr hc1 fs1 hc2, (-2147483648 ≤ rr ∧ rr ≤ 2147483647) ∧ f_M 147 [.ref 0, fi x, fi h] hc (some (fi rr)) hc1 ∧ hc1[55]? = some (.inr (.inr (10, fs1))) ∧ f_M 149 [.ref 55, fi x, fi h] hc1 (some (fi rr)) hc2 ∧ y_in yG hc2 ∧ CR (gi hc2) ∧ y_un yct147_0.2.2 hc hc1 ∧ y_un yct149_0.2.2 hc1 hc2 := by
  have hw := y_win hin
  have a1 := g_cl hin
  have a2 := g_tl hin
  have a3 := g_pp hin
  have a4 := g_ppM hin
  have hN := hN.2
  have hC : gi hc 38 2 = gi hc 55 21 := hC
  have core : ∃ rr hc1 hc2, (-2147483648 ≤ rr ∧ rr ≤ 2147483647) ∧ f_M 147 [.ref 0, fi x, fi h] hc (some (fi rr)) hc1 ∧ f_M 149 [.ref 55, fi x, fi h] hc1 (some (fi rr)) hc2 ∧ CR (gi hc2) := by
    by_cases hp : 0 ≤ x ∧ x < gi hc 3 6
    · have hp' : 0 ≤ x ∧ x < gi hc 55 1 := by omega
      by_cases hh : 0 ≤ h ∧ h < 10
      · by_cases hs : gi hc 38 2 < 6
        · obtain ⟨hc1, m1, hw1, e1⟩ := t147_ok (m := gi hc) a3.2 a1.1 a1.2 rx rh hp hh hs hc hw rfl
          have e21 : gi hc1 55 21 = gi hc 55 21 := by rw [e1]; rfl
          have ef : gi hc1 55 1 = gi hc 55 1 := by rw [e1]; rfl
          obtain ⟨hc2, m2, hw2, e2⟩ := t149_ok (m := gi hc1) (by omega) (by omega) (by omega) (by omega) rx rh (by omega) hh (by omega) hc1 hw1 rfl
          refine ⟨gi hc 38 2 + 1, hc1, hc2, by omega, m1, by rw [show gi hc 38 2 + 1 = gi hc1 55 21 + 1 by omega]; exact m2, ?_⟩
          have b1 : gi hc2 38 2 = gi hc 38 2 + 1 := by rw [e2]; show gi hc1 38 2 = _; rw [e1]; rfl
          have b2 : gi hc2 55 21 = gi hc1 55 21 + 1 := by rw [e2]; rfl
          show gi hc2 38 2 = gi hc2 55 21
          omega
        · obtain ⟨hc1, m1, hw1, e1⟩ := t147_full (m := gi hc) a3.2 a1.1 a1.2 rx rh hp hh hs hc hw rfl
          obtain ⟨hc2, m2, hw2, e2⟩ := t149_full (m := gi hc1) (by rw [e1]; omega) (by rw [e1]; omega) (by rw [e1]; omega) (by rw [e1]; omega) rx rh (by rw [e1]; omega) hh (by rw [e1]; omega) hc1 hw1 rfl
          exact ⟨-4, hc1, hc2, by decide, m1, m2, by rw [e2, e1]; exact hC⟩
      · obtain ⟨hc1, m1, hw1, e1⟩ := t147_out (m := gi hc) a3.2 a1.1 a1.2 rx rh hp hh hc hw rfl
        obtain ⟨hc2, m2, hw2, e2⟩ := t149_out (m := gi hc1) (by rw [e1]; omega) (by rw [e1]; omega) (by rw [e1]; omega) (by rw [e1]; omega) rx rh (by rw [e1]; omega) hh hc1 hw1 rfl
        exact ⟨-2, hc1, hc2, by decide, m1, m2, by rw [e2, e1]; exact hC⟩
    · obtain ⟨hc1, m1, hw1, e1⟩ := t147_unk (m := gi hc) a3.2 a1.1 a1.2 rx rh hp hc hw rfl
      obtain ⟨hc2, m2, hw2, e2⟩ := t149_unk (m := gi hc1) (by rw [e1]; omega) (by rw [e1]; omega) (by rw [e1]; omega) (by rw [e1]; omega) rx rh (by rw [e1]; omega) hc1 hw1 rfl
      exact ⟨-1, hc1, hc2, by decide, m1, m2, by rw [e2, e1]; exact hC⟩
  obtain ⟨rr, hc1, hc2, r0, m1, m2, cr⟩ := core
  obtain ⟨hin1, hun1⟩ := f_Mu (R := ev_r147) rfl yc147_0 hin g_args3' m1
  obtain ⟨hin2, hun2⟩ := f_Mu (R := ev_r149) rfl yc149_0 hin1 g_args3' m2
  obtain ⟨fs1, q55⟩ := g_55 hin1
  exact ⟨rr, hc1, fs1, hc2, r0, m1, q55, m2, hin2, cr, hun1, hun2⟩
theorem CR_deed {hc : ev_H} (hin : y_in yG hc) (hN : NR (gi hc)) (hC : CR (gi hc)) {x h : Int} (rx : -2147483648 ≤ x ∧ x ≤ 2147483647) (rh : -2147483648 ≤ h ∧ h ≤ 2147483647) : ∃ rr hc1 fs1 hc2, (-2147483648 ≤ rr ∧ rr ≤ 2147483647) ∧ f_M 151 [.ref 0, fi x, fi h] hc (some (fi rr)) hc1 ∧ hc1[55]? = some (.inr (.inr (10, fs1))) ∧ f_M 152 [.ref 55, fi x, fi h] hc1 (some (fi rr)) hc2 ∧ y_in yG hc2 ∧ CR (gi hc2) ∧ y_un yct151_0.2.2 hc hc1 ∧ y_un yct152_0.2.2 hc1 hc2 := by
  have hw := y_win hin
  have a1 := g_cl hin
  have a2 := g_tl hin
  have a3 := g_nm hin
  have a4 := g_nmM hin
  have hN := hN.1
  have hC : gi hc 38 2 = gi hc 55 21 := hC
  have core : ∃ rr hc1 hc2, (-2147483648 ≤ rr ∧ rr ≤ 2147483647) ∧ f_M 151 [.ref 0, fi x, fi h] hc (some (fi rr)) hc1 ∧ f_M 152 [.ref 55, fi x, fi h] hc1 (some (fi rr)) hc2 ∧ CR (gi hc2) := by
    by_cases hp : 0 ≤ x ∧ x < gi hc 3 5
    · have hp' : 0 ≤ x ∧ x < gi hc 55 0 := by omega
      by_cases hh : 0 ≤ h ∧ h < 10
      · by_cases hs : gi hc 38 2 < 6
        · obtain ⟨hc1, m1, hw1, e1⟩ := t151_ok (m := gi hc) a3.2 a1.1 a1.2 rx rh hp hh hs hc hw rfl
          have e21 : gi hc1 55 21 = gi hc 55 21 := by rw [e1]; rfl
          have ef : gi hc1 55 0 = gi hc 55 0 := by rw [e1]; rfl
          obtain ⟨hc2, m2, hw2, e2⟩ := t152_ok (m := gi hc1) (by omega) (by omega) (by omega) (by omega) rx rh (by omega) hh (by omega) hc1 hw1 rfl
          refine ⟨gi hc 38 2 + 1, hc1, hc2, by omega, m1, by rw [show gi hc 38 2 + 1 = gi hc1 55 21 + 1 by omega]; exact m2, ?_⟩
          have b1 : gi hc2 38 2 = gi hc 38 2 + 1 := by rw [e2]; show gi hc1 38 2 = _; rw [e1]; rfl
          have b2 : gi hc2 55 21 = gi hc1 55 21 + 1 := by rw [e2]; rfl
          show gi hc2 38 2 = gi hc2 55 21
          omega
        · obtain ⟨hc1, m1, hw1, e1⟩ := t151_full (m := gi hc) a3.2 a1.1 a1.2 rx rh hp hh hs hc hw rfl
          obtain ⟨hc2, m2, hw2, e2⟩ := t152_full (m := gi hc1) (by rw [e1]; omega) (by rw [e1]; omega) (by rw [e1]; omega) (by rw [e1]; omega) rx rh (by rw [e1]; omega) hh (by rw [e1]; omega) hc1 hw1 rfl
          exact ⟨-4, hc1, hc2, by decide, m1, m2, by rw [e2, e1]; exact hC⟩
      · obtain ⟨hc1, m1, hw1, e1⟩ := t151_out (m := gi hc) a3.2 a1.1 a1.2 rx rh hp hh hc hw rfl
        obtain ⟨hc2, m2, hw2, e2⟩ := t152_out (m := gi hc1) (by rw [e1]; omega) (by rw [e1]; omega) (by rw [e1]; omega) (by rw [e1]; omega) rx rh (by rw [e1]; omega) hh hc1 hw1 rfl
        exact ⟨-2, hc1, hc2, by decide, m1, m2, by rw [e2, e1]; exact hC⟩
    · obtain ⟨hc1, m1, hw1, e1⟩ := t151_unk (m := gi hc) a3.2 a1.1 a1.2 rx rh hp hc hw rfl
      obtain ⟨hc2, m2, hw2, e2⟩ := t152_unk (m := gi hc1) (by rw [e1]; omega) (by rw [e1]; omega) (by rw [e1]; omega) (by rw [e1]; omega) rx rh (by rw [e1]; omega) hc1 hw1 rfl
      exact ⟨-1, hc1, hc2, by decide, m1, m2, by rw [e2, e1]; exact hC⟩
  obtain ⟨rr, hc1, hc2, r0, m1, m2, cr⟩ := core
  obtain ⟨hin1, hun1⟩ := f_Mu (R := ev_r151) rfl yc151_0 hin g_args3' m1
  obtain ⟨hin2, hun2⟩ := f_Mu (R := ev_r152) rfl yc152_0 hin1 g_args3' m2
  obtain ⟨fs1, q55⟩ := g_55 hin1
  exact ⟨rr, hc1, fs1, hc2, r0, m1, q55, m2, hin2, cr, hun1, hun2⟩
theorem CR_forget {hc : ev_H} (hin : y_in yG hc) (hC : CR (gi hc)) : ∃ rr hc1 fs1 hc2, (-2147483648 ≤ rr ∧ rr ≤ 2147483647) ∧ f_M 154 [.ref 0] hc (some (fi rr)) hc1 ∧ hc1[55]? = some (.inr (.inr (10, fs1))) ∧ f_M 155 [.ref 55] hc1 (some (fi rr)) hc2 ∧ y_in yG hc2 ∧ CR (gi hc2) ∧ y_un yct154_0.2.2 hc hc1 ∧ y_un yct155_0.2.2 hc1 hc2 := by
  have hw := y_win hin
  have a1 := g_cl hin
  have hC : gi hc 38 2 = gi hc 55 21 := hC
  obtain ⟨hc1, m1, hw1, e1⟩ := t154 (m := gi hc) hc hw rfl
  have e21 : gi hc1 55 21 = gi hc 55 21 := by rw [e1]; rfl
  obtain ⟨hc2, m2, hw2, e2⟩ := t155 (m := gi hc1) hc1 hw1 rfl
  obtain ⟨hin1, hun1⟩ := f_Mu (R := ev_r154) rfl yc154_0 hin g_args1' m1
  obtain ⟨hin2, hun2⟩ := f_Mu (R := ev_r155) rfl yc155_0 hin1 g_args1' m2
  obtain ⟨fs1, q55⟩ := g_55 hin1
  refine ⟨gi hc 38 2, hc1, fs1, hc2, by omega, m1, q55, by rw [hC, ← e21]; exact m2, hin2, ?_, hun1, hun2⟩
  have b1 : gi hc2 38 2 = 0 := by rw [e2]; show gi hc1 38 2 = _; rw [e1]; rfl
  have b2 : gi hc2 55 21 = 0 := by rw [e2]; rfl
  show gi hc2 38 2 = gi hc2 55 21
  omega
