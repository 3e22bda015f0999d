/-! the scene of the class: what is asked of it -/
def kd (m : Nat → Nat → Int) (x : Int) : Int := if 0 ≤ x ∧ x < m 3 5 then m 4 x.toNat else 0
def wo (m : Nat → Nat → Int) (x : Int) : Int := if 0 ≤ x ∧ x < m 3 5 then m 5 x.toNat else 0
def aH (m : Nat → Nat → Int) (c : Nat) (x : Int) : Int := if 0 ≤ x ∧ x < m 3 6 then m c x.toNat else 0
def ft (m : Nat → Nat → Int) (x : Int) : Int := if 0 ≤ x ∧ x < m 3 6 then iA (m 8 x.toNat) (iS 1 (m 3 5) - 1) else 0
def nO (m : Nat → Nat → Int) (w : Nat) (x : Int) : Int := if 0 ≤ x ∧ x < m 3 6 then m w x.toNat else -9
def rm (m : Nat → Nat → Int) (x : Int) : Int := if kd m x = 2 then 2 else 1
def wr1 (m : Nat → Nat → Int) (w : Nat) (k : Int) (p : Nat) (s : Int) (b : Int) : Int := if m w p = k then iO b s else b
def wr (m : Nat → Nat → Int) (w : Nat) (k : Int) : Int := wr1 m w k 4 (iS 1 4) (wr1 m w k 3 (iS 1 3) (wr1 m w k 2 (iS 1 2) (wr1 m w k 1 (iS 1 1) (wr1 m w k 0 (iS 1 0) 0))))
def hv1 (m : Nat → Nat → Int) (w p : Nat) (b : Int) : Int := if ¬ m w p = -9 ∧ kd m (m w p) = 1 then iO b (iS 1 (m w p)) else b
def hwS (m : Nat → Nat → Int) (w : Nat) : Int := hv1 m w 4 (hv1 m w 3 (hv1 m w 2 (hv1 m w 1 (hv1 m w 0 0))))
def sb1 (m : Nat → Nat → Int) (w : Nat) (h : Int) (p : Nat) (s b : Int) : Int := if ¬ m w p = -9 ∧ (¬ kd m (m w p) = 1 ∨ ¬ iA h (iX (iS 1 (m w p)) (-1)) = 0) then iO b s else b
def sbS (m : Nat → Nat → Int) (w : Nat) : Int := sb1 m w (hwS m w) 4 (iS 1 4) (sb1 m w (hwS m w) 3 (iS 1 3) (sb1 m w (hwS m w) 2 (iS 1 2) (sb1 m w (hwS m w) 1 (iS 1 1) (sb1 m w (hwS m w) 0 (iS 1 0) 0))))
theorem kd_r {m : Nat → Nat → Int} (hR : ∀ q i, -2147483648 ≤ m q i ∧ m q i ≤ 2147483647) (x : Int) : -2147483648 ≤ kd m x ∧ kd m x ≤ 2147483647 := by
  unfold kd
  split
  · exact hR _ _
  · decide
theorem nO_r {m : Nat → Nat → Int} (hR : ∀ q i, -2147483648 ≤ m q i ∧ m q i ≤ 2147483647) (w : Nat) (x : Int) : -2147483648 ≤ nO m w x ∧ nO m w x ≤ 2147483647 := by
  unfold nO
  split
  · exact hR _ _
  · decide
theorem rm_r {m : Nat → Nat → Int} (x : Int) : 1 ≤ rm m x ∧ rm m x ≤ 2 := by
  unfold rm
  split <;> decide
theorem t41 {m : Nat → Nat → Int} (h9 : 0 ≤ m 3 5 ∧ m 3 5 ≤ 4) {x : Int} (rx : -2147483648 ≤ x ∧ x ≤ 2147483647) : h_M 41 [.ref 3, fi (x)] m (some (fi (kd m x))) m := h_M_of (R := ev_r41) rfl (fun hc hw hm => by
  have hL : f_L (lv_args 0 [.ref 3, fi (x)]) [(0, .ref 3), (1, fi (x))] := f_L_of rfl
  generalize lv_args 0 [.ref 3, fi (x)] = L at hL
  show x_W none (1, 0, 2, 1, 5, 1, 21, 0, 0, ev_t41) 0 L [] hc 0 0 _
  have hR := gi_R hm
  refine f_aln 0 rfl hL rfl ?_
  refine f_iln 1 rfl hL rfl ?_
  refine m_k1 (t40 h9.2 rx) hw hm rfl rfl rfl (m_ar so3 hw rfl) rfl (fun hc1 hw1 hm1 => ?_)
  refine f_if rfl (bI_r _) (fun c1 => ?_) (fun c1 => ?_)
  · have c1 : (bI (decide (0 ≤ x ∧ x < m 3 5)) : Int) = (0 : Int) := c1
    have c1 : ¬ (0 ≤ x ∧ x < m 3 5) := bI_f c1
    refine f_s [fi (0)] rfl rfl ?_
    exact f_ret1 rfl ⟨by unfold kd; rw [if_neg c1], hw1, hm1⟩
  · have c1 : ¬ ((bI (decide (0 ≤ x ∧ x < m 3 5)) : Int) = (0 : Int)) := c1
    have c1 : 0 ≤ x ∧ x < m 3 5 := bI_t c1
    refine f_aln 0 rfl hL rfl ?_
    refine m_gfr so3 rfl hw1 rfl (by decide) ?_
    refine f_iln 1 rfl hL rfl ?_
    refine m_ia sa4 (m 4 (x).toNat) rfl hw1 hm1 (by omega) (by omega) (by decide) rfl ?_
    refine f_goto rfl ?_
    exact f_ret1 rfl ⟨by unfold kd; rw [if_pos c1], hw1, hm1⟩)
theorem t42 {m : Nat → Nat → Int} (h9 : 0 ≤ m 3 5 ∧ m 3 5 ≤ 4) {x : Int} (rx : -2147483648 ≤ x ∧ x ≤ 2147483647) : h_M 42 [.ref 3, fi (x)] m (some (fi (wo m x))) m := h_M_of (R := ev_r42) rfl (fun hc hw hm => by
  have hL : f_L (lv_args 0 [.ref 3, fi (x)]) [(0, .ref 3), (1, fi (x))] := f_L_of rfl
  generalize lv_args 0 [.ref 3, fi (x)] = L at hL
  show x_W none (1, 0, 2, 1, 5, 1, 21, 0, 0, ev_t42) 0 L [] hc 0 0 _
  have hR := gi_R hm
  refine f_aln 0 rfl hL rfl ?_
  refine f_iln 1 rfl hL rfl ?_
  refine m_k1 (t40 h9.2 rx) hw hm rfl rfl rfl (m_ar so3 hw rfl) rfl (fun hc1 hw1 hm1 => ?_)
  refine f_if rfl (bI_r _) (fun c1 => ?_) (fun c1 => ?_)
  · have c1 : (bI (decide (0 ≤ x ∧ x < m 3 5)) : Int) = (0 : Int) := c1
    have c1 : ¬ (0 ≤ x ∧ x < m 3 5) := bI_f c1
    refine f_s [fi (0)] rfl rfl ?_
    exact f_ret1 rfl ⟨by unfold wo; rw [if_neg c1], hw1, hm1⟩
  · have c1 : ¬ ((bI (decide (0 ≤ x ∧ x < m 3 5)) : Int) = (0 : Int)) := c1
    have c1 : 0 ≤ x ∧ x < m 3 5 := bI_t c1
    refine f_aln 0 rfl hL rfl ?_
    refine m_gfr so3 rfl hw1 rfl (by decide) ?_
    refine f_iln 1 rfl hL rfl ?_
    refine m_ia sa5 (m 5 (x).toNat) rfl hw1 hm1 (by omega) (by omega) (by decide) rfl ?_
    refine f_goto rfl ?_
    exact f_ret1 rfl ⟨by unfold wo; rw [if_pos c1], hw1, hm1⟩)
theorem t50 {m : Nat → Nat → Int} (h9 : 0 ≤ m 3 6 ∧ m 3 6 ≤ 5) {x : Int} (rx : -2147483648 ≤ x ∧ x ≤ 2147483647) : h_M 50 [.ref 3, fi (x)] m (some (fi (aH m 6 x))) m := h_M_of (R := ev_r50) rfl (fun hc hw hm => by
  have hL : f_L (lv_args 0 [.ref 3, fi (x)]) [(0, .ref 3), (1, fi (x))] := f_L_of rfl
  generalize lv_args 0 [.ref 3, fi (x)] = L at hL
  show x_W none (1, 0, 2, 1, 5, 1, 21, 0, 0, ev_t50) 0 L [] hc 0 0 _
  have hR := gi_R hm
  refine f_aln 0 rfl hL rfl ?_
  refine f_iln 1 rfl hL rfl ?_
  refine m_k1 (t49 h9.2 rx) hw hm rfl rfl rfl (m_ar so3 hw rfl) rfl (fun hc1 hw1 hm1 => ?_)
  refine f_if rfl (bI_r _) (fun c1 => ?_) (fun c1 => ?_)
  · have c1 : (bI (decide (0 ≤ x ∧ x < m 3 6)) : Int) = (0 : Int) := c1
    have c1 : ¬ (0 ≤ x ∧ x < m 3 6) := bI_f c1
    refine f_s [fi (0)] rfl rfl ?_
    exact f_ret1 rfl ⟨by unfold aH; rw [if_neg c1], hw1, hm1⟩
  · have c1 : ¬ ((bI (decide (0 ≤ x ∧ x < m 3 6)) : Int) = (0 : Int)) := c1
    have c1 : 0 ≤ x ∧ x < m 3 6 := bI_t c1
    refine f_aln 0 rfl hL rfl ?_
    refine m_gfr so3 rfl hw1 rfl (by decide) ?_
    refine f_iln 1 rfl hL rfl ?_
    refine m_ia sa6 (m 6 (x).toNat) rfl hw1 hm1 (by omega) (by omega) (by decide) rfl ?_
    refine f_goto rfl ?_
    exact f_ret1 rfl ⟨by unfold aH; rw [if_pos c1], hw1, hm1⟩)
theorem t51 {m : Nat → Nat → Int} (h9 : 0 ≤ m 3 6 ∧ m 3 6 ≤ 5) {x : Int} (rx : -2147483648 ≤ x ∧ x ≤ 2147483647) : h_M 51 [.ref 3, fi (x)] m (some (fi (aH m 7 x))) m := h_M_of (R := ev_r51) rfl (fun hc hw hm => by
  have hL : f_L (lv_args 0 [.ref 3, fi (x)]) [(0, .ref 3), (1, fi (x))] := f_L_of rfl
  generalize lv_args 0 [.ref 3, fi (x)] = L at hL
  show x_W none (1, 0, 2, 1, 5, 1, 21, 0, 0, ev_t51) 0 L [] hc 0 0 _
  have hR := gi_R hm
  refine f_aln 0 rfl hL rfl ?_
  refine f_iln 1 rfl hL rfl ?_
  refine m_k1 (t49 h9.2 rx) hw hm rfl rfl rfl (m_ar so3 hw rfl) rfl (fun hc1 hw1 hm1 => ?_)
  refine f_if rfl (bI_r _) (fun c1 => ?_) (fun c1 => ?_)
  · have c1 : (bI (decide (0 ≤ x ∧ x < m 3 6)) : Int) = (0 : Int) := c1
    have c1 : ¬ (0 ≤ x ∧ x < m 3 6) := bI_f c1
    refine f_s [fi (0)] rfl rfl ?_
    exact f_ret1 rfl ⟨by unfold aH; rw [if_neg c1], hw1, hm1⟩
  · have c1 : ¬ ((bI (decide (0 ≤ x ∧ x < m 3 6)) : Int) = (0 : Int)) := c1
    have c1 : 0 ≤ x ∧ x < m 3 6 := bI_t c1
    refine f_aln 0 rfl hL rfl ?_
    refine m_gfr so3 rfl hw1 rfl (by decide) ?_
    refine f_iln 1 rfl hL rfl ?_
    refine m_ia sa7 (m 7 (x).toNat) rfl hw1 hm1 (by omega) (by omega) (by decide) rfl ?_
    refine f_goto rfl ?_
    exact f_ret1 rfl ⟨by unfold aH; rw [if_pos c1], hw1, hm1⟩)
theorem t52 {m : Nat → Nat → Int} (h9 : 0 ≤ m 3 6 ∧ m 3 6 ≤ 5) {x : Int} (rx : -2147483648 ≤ x ∧ x ≤ 2147483647) : h_M 52 [.ref 3, fi (x)] m (some (fi (ft m x))) m := h_M_of (R := ev_r52) rfl (fun hc hw hm => by
  have hL : f_L (lv_args 0 [.ref 3, fi (x)]) [(0, .ref 3), (1, fi (x))] := f_L_of rfl
  generalize lv_args 0 [.ref 3, fi (x)] = L at hL
  show x_W none (1, 0, 2, 1, 5, 1, 21, 0, 0, ev_t52) 0 L [] hc 0 0 _
  have hR := gi_R hm
  refine f_aln 0 rfl hL rfl ?_
  refine f_iln 1 rfl hL rfl ?_
  refine m_k1 (t49 h9.2 rx) hw hm rfl rfl rfl (m_ar so3 hw rfl) rfl (fun hc1 hw1 hm1 => ?_)
  refine f_if rfl (bI_r _) (fun c1 => ?_) (fun c1 => ?_)
  · have c1 : (bI (decide (0 ≤ x ∧ x < m 3 6)) : Int) = (0 : Int) := c1
    have c1 : ¬ (0 ≤ x ∧ x < m 3 6) := bI_f c1
    refine f_s [fi (0)] rfl rfl ?_
    exact f_ret1 rfl ⟨by unfold ft; rw [if_neg c1], hw1, hm1⟩
  · have c1 : ¬ ((bI (decide (0 ≤ x ∧ x < m 3 6)) : Int) = (0 : Int)) := c1
    have c1 : 0 ≤ x ∧ x < m 3 6 := bI_t c1
    refine f_aln 0 rfl hL rfl ?_
    refine m_gfr so3 rfl hw1 rfl (by decide) ?_
    refine f_iln 1 rfl hL rfl ?_
    refine m_ia sa8 (m 8 (x).toNat) rfl hw1 hm1 (by omega) (by omega) (by decide) rfl ?_
    refine f_s [fi (1), fi (m 8 (x).toNat)] rfl rfl ?_
    refine f_aln 0 rfl hL rfl ?_
    refine m_gfi so3 (m 3 5) rfl hw1 hm1 rfl rfl ?_
    refine b_ishl rfl ?_
    refine f_s [fi (1), fi (iS (1) (m 3 5)), fi (m 8 (x).toNat)] rfl rfl ?_
    refine f_isub rfl ?_
    refine b_iand rfl ?_
    refine f_goto rfl ?_
    exact f_ret1 rfl ⟨by unfold ft; rw [if_pos c1], hw1, hm1⟩)
theorem t66 {m : Nat → Nat → Int} (h9 : 0 ≤ m 3 5 ∧ m 3 5 ≤ 4) {x : Int} (rx : -2147483648 ≤ x ∧ x ≤ 2147483647) : h_M 66 [.ref 3, fi (x)] m (some (fi (rm m x))) m := h_M_of (R := ev_r66) rfl (fun hc hw hm => by
  have hL : f_L (lv_args 0 [.ref 3, fi (x)]) [(0, .ref 3), (1, fi (x))] := f_L_of rfl
  generalize lv_args 0 [.ref 3, fi (x)] = L at hL
  show x_W none (1, 0, 2, 1, 5, 2, 42, 0, 0, ev_t66) 0 L [] hc 0 0 _
  have hR := gi_R hm
  refine f_aln 0 rfl hL rfl ?_
  refine f_iln 1 rfl hL rfl ?_
  refine m_k1 (t41 h9 rx) hw hm rfl rfl rfl (m_ar so3 hw rfl) rfl (fun hc1 hw1 hm1 => ?_)
  refine f_s [fi (2), fi (kd m x)] rfl rfl ?_
  refine f_ic rfl (kd_r hR x) (by decide) (fun c1 => ?_) (fun c1 => ?_)
  · have c1 : ¬ (kd m x : Int) = (2 : Int) := c1
    refine f_s [fi (1)] rfl rfl ?_
    exact f_ret1 rfl ⟨by unfold rm; rw [if_neg c1], hw1, hm1⟩
  · have c1 : ¬ (¬ (kd m x : Int) = (2 : Int)) := c1
    refine f_s [fi (2)] rfl rfl ?_
    refine f_goto rfl ?_
    exact f_ret1 rfl ⟨by unfold rm; rw [if_pos (by omega)], hw1, hm1⟩)
def bC (x : Int) : Int := iA (((iA (((iA (x - (iA (iU (x) (1)) (1431655765))) (858993459)) + (iA (iU (x - (iA (iU (x) (1)) (1431655765))) (2)) (858993459))) + (iU ((iA (x - (iA (iU (x) (1)) (1431655765))) (858993459)) + (iA (iU (x - (iA (iU (x) (1)) (1431655765))) (2)) (858993459))) (4))) (252645135)) + (iU (iA (((iA (x - (iA (iU (x) (1)) (1431655765))) (858993459)) + (iA (iU (x - (iA (iU (x) (1)) (1431655765))) (2)) (858993459))) + (iU ((iA (x - (iA (iU (x) (1)) (1431655765))) (858993459)) + (iA (iU (x - (iA (iU (x) (1)) (1431655765))) (2)) (858993459))) (4))) (252645135)) (8))) + (iU ((iA (((iA (x - (iA (iU (x) (1)) (1431655765))) (858993459)) + (iA (iU (x - (iA (iU (x) (1)) (1431655765))) (2)) (858993459))) + (iU ((iA (x - (iA (iU (x) (1)) (1431655765))) (858993459)) + (iA (iU (x - (iA (iU (x) (1)) (1431655765))) (2)) (858993459))) (4))) (252645135)) + (iU (iA (((iA (x - (iA (iU (x) (1)) (1431655765))) (858993459)) + (iA (iU (x - (iA (iU (x) (1)) (1431655765))) (2)) (858993459))) + (iU ((iA (x - (iA (iU (x) (1)) (1431655765))) (858993459)) + (iA (iU (x - (iA (iU (x) (1)) (1431655765))) (2)) (858993459))) (4))) (252645135)) (8))) (16))) (63)
theorem t65 {m : Nat → Nat → Int} {x : Int} (rx : -2147483648 ≤ x ∧ x ≤ 2147483647) : h_M 65 [fi (x)] m (some (fi (bC x))) m := h_M_of (R := ev_r65) rfl (fun hc hw hm => by
  have hL : f_L (lv_args 0 [fi (x)]) [(0, fi (x))] := f_L_of rfl
  generalize lv_args 0 [fi (x)] = L at hL
  show x_W none (1, 0, 1, 1, 0, 0, 0, 0, 0, ev_t65) 0 L [] hc 0 0 _
  have hR := gi_R hm
  refine f_iln 0 rfl hL rfl ?_
  refine f_iln 0 rfl hL rfl ?_
  refine f_s [fi (1), fi (x), fi (x)] rfl rfl ?_
  refine b_iushr rfl ?_
  refine b_ldc (1431655765) rfl rfl ?_
  refine b_iand rfl ?_
  refine f_isub rfl ?_
  refine f_istn [(0, fi (x - (iA (iU (x) (1)) (1431655765))))] rfl (by decide) hL rfl (fun L1 hL1 => ?_)
  refine f_iln 0 rfl hL1 rfl ?_
  refine b_ldc (858993459) rfl rfl ?_
  refine b_iand rfl ?_
  refine f_iln 0 rfl hL1 rfl ?_
  refine f_s [fi (2), fi (x - (iA (iU (x) (1)) (1431655765))), fi (iA (x - (iA (iU (x) (1)) (1431655765))) (858993459))] rfl rfl ?_
  refine b_iushr rfl ?_
  refine b_ldc (858993459) rfl rfl ?_
  refine b_iand rfl ?_
  refine f_iadd rfl ?_
  refine f_istn [(0, fi ((iA (x - (iA (iU (x) (1)) (1431655765))) (858993459)) + (iA (iU (x - (iA (iU (x) (1)) (1431655765))) (2)) (858993459))))] rfl (by decide) hL1 rfl (fun L2 hL2 => ?_)
  refine f_iln 0 rfl hL2 rfl ?_
  refine f_iln 0 rfl hL2 rfl ?_
  refine f_s [fi (4), fi ((iA (x - (iA (iU (x) (1)) (1431655765))) (858993459)) + (iA (iU (x - (iA (iU (x) (1)) (1431655765))) (2)) (858993459))), fi ((iA (x - (iA (iU (x) (1)) (1431655765))) (858993459)) + (iA (iU (x - (iA (iU (x) (1)) (1431655765))) (2)) (858993459)))] rfl rfl ?_
  refine b_iushr rfl ?_
  refine f_iadd rfl ?_
  refine b_ldc (252645135) rfl rfl ?_
  refine b_iand rfl ?_
  refine f_istn [(0, fi (iA (((iA (x - (iA (iU (x) (1)) (1431655765))) (858993459)) + (iA (iU (x - (iA (iU (x) (1)) (1431655765))) (2)) (858993459))) + (iU ((iA (x - (iA (iU (x) (1)) (1431655765))) (858993459)) + (iA (iU (x - (iA (iU (x) (1)) (1431655765))) (2)) (858993459))) (4))) (252645135)))] rfl (by decide) hL2 rfl (fun L3 hL3 => ?_)
  refine f_iln 0 rfl hL3 rfl ?_
  refine f_iln 0 rfl hL3 rfl ?_
  refine f_bipush (n := 8) rfl (by decide) ?_
  refine b_iushr rfl ?_
  refine f_iadd rfl ?_
  refine f_istn [(0, fi ((iA (((iA (x - (iA (iU (x) (1)) (1431655765))) (858993459)) + (iA (iU (x - (iA (iU (x) (1)) (1431655765))) (2)) (858993459))) + (iU ((iA (x - (iA (iU (x) (1)) (1431655765))) (858993459)) + (iA (iU (x - (iA (iU (x) (1)) (1431655765))) (2)) (858993459))) (4))) (252645135)) + (iU (iA (((iA (x - (iA (iU (x) (1)) (1431655765))) (858993459)) + (iA (iU (x - (iA (iU (x) (1)) (1431655765))) (2)) (858993459))) + (iU ((iA (x - (iA (iU (x) (1)) (1431655765))) (858993459)) + (iA (iU (x - (iA (iU (x) (1)) (1431655765))) (2)) (858993459))) (4))) (252645135)) (8))))] rfl (by decide) hL3 rfl (fun L4 hL4 => ?_)
  refine f_iln 0 rfl hL4 rfl ?_
  refine f_iln 0 rfl hL4 rfl ?_
  refine f_bipush (n := 16) rfl (by decide) ?_
  refine b_iushr rfl ?_
  refine f_iadd rfl ?_
  refine f_istn [(0, fi (((iA (((iA (x - (iA (iU (x) (1)) (1431655765))) (858993459)) + (iA (iU (x - (iA (iU (x) (1)) (1431655765))) (2)) (858993459))) + (iU ((iA (x - (iA (iU (x) (1)) (1431655765))) (858993459)) + (iA (iU (x - (iA (iU (x) (1)) (1431655765))) (2)) (858993459))) (4))) (252645135)) + (iU (iA (((iA (x - (iA (iU (x) (1)) (1431655765))) (858993459)) + (iA (iU (x - (iA (iU (x) (1)) (1431655765))) (2)) (858993459))) + (iU ((iA (x - (iA (iU (x) (1)) (1431655765))) (858993459)) + (iA (iU (x - (iA (iU (x) (1)) (1431655765))) (2)) (858993459))) (4))) (252645135)) (8))) + (iU ((iA (((iA (x - (iA (iU (x) (1)) (1431655765))) (858993459)) + (iA (iU (x - (iA (iU (x) (1)) (1431655765))) (2)) (858993459))) + (iU ((iA (x - (iA (iU (x) (1)) (1431655765))) (858993459)) + (iA (iU (x - (iA (iU (x) (1)) (1431655765))) (2)) (858993459))) (4))) (252645135)) + (iU (iA (((iA (x - (iA (iU (x) (1)) (1431655765))) (858993459)) + (iA (iU (x - (iA (iU (x) (1)) (1431655765))) (2)) (858993459))) + (iU ((iA (x - (iA (iU (x) (1)) (1431655765))) (858993459)) + (iA (iU (x - (iA (iU (x) (1)) (1431655765))) (2)) (858993459))) (4))) (252645135)) (8))) (16))))] rfl (by decide) hL4 rfl (fun L5 hL5 => ?_)
  refine f_iln 0 rfl hL5 rfl ?_
  refine f_bipush (n := 63) rfl (by decide) ?_
  refine b_iand rfl ?_
  exact f_ret1 rfl ⟨rfl, hw, hm⟩)
theorem t43_9 {m : Nat → Nat → Int} {k : Int} (rk : -2147483648 ≤ k ∧ k ≤ 2147483647) : h_M 43 [.ref 9, fi (k)] m (some (fi (wr m 10 k))) m := h_M_of (R := ev_r43) rfl (fun hc hw hm => by
  have hL : f_L (lv_args 0 [.ref 9, fi (k)]) [(0, .ref 9), (1, fi (k))] := f_L_of rfl
  generalize lv_args 0 [.ref 9, fi (k)] = L at hL
  show x_W none (1, 0, 4, 1, 7, 0, 0, 0, 0, ev_t43) 0 L [] hc 0 0 _
  have hR := gi_R hm
  have hK5 : ∀ (hc : ev_H) (b : Int) (L : ev_L), y_in yGw hc → gi hc = m → (-2147483648 ≤ b ∧ b ≤ 2147483647) → f_L L [(3, fi (5)), (2, fi (b)), (0, .ref 9), (1, fi (k))] → x_W none (1, 0, 4, 1, 7, 0, 0, 0, 0, ev_t43) 4 L [] hc 0 0 (fun r' h' => r' = some (fi (b)) ∧ y_in yGw h' ∧ gi h' = m) := fun hc b L hw hm rb hL => by
    refine f_iln 0 rfl hL rfl ?_
    refine f_s [fi (5), fi (5)] rfl rfl ?_
    refine f_ic rfl (by decide) (by decide) (fun _ => ?_) (fun c_9 => absurd (show (5 : Int) ≤ (5 : Int) from (by decide)) c_9)
    refine f_iln 1 rfl hL rfl ?_
    exact f_ret1 rfl ⟨rfl, hw, hm⟩
  have hK4 : ∀ (hc : ev_H) (b : Int) (L : ev_L), y_in yGw hc → gi hc = m → (-2147483648 ≤ b ∧ b ≤ 2147483647) → f_L L [(3, fi (4)), (2, fi (b)), (0, .ref 9), (1, fi (k))] → x_W none (1, 0, 4, 1, 7, 0, 0, 0, 0, ev_t43) 4 L [] hc 0 0 (fun r' h' => r' = some (fi (wr1 m 10 k 4 (iS 1 4) (b))) ∧ y_in yGw h' ∧ gi h' = m) := fun hc b L hw hm rb hL => by
    refine f_iln 0 rfl hL rfl ?_
    refine f_s [fi (5), fi (4)] rfl rfl ?_
    refine f_ic rfl (by decide) (by decide) (fun c_9 => absurd (show (5 : Int) ≤ (4 : Int) from c_9) (by decide)) (fun _ => ?_)
    refine f_aln 2 rfl hL rfl ?_
    refine m_gfr so9 rfl hw rfl (by decide) ?_
    refine f_iln 0 rfl hL rfl ?_
    refine m_ia sa10 (m 10 4) rfl hw hm (by omega) (by omega) (by decide) rfl ?_
    refine f_iln 3 rfl hL rfl ?_
    refine f_ic rfl (hR 10 4) rk (fun c1 => ?_) (fun c1 => ?_)
    · have c1 : ¬ (m 10 4 : Int) = (k : Int) := c1
      refine f_inc 0 [(3, fi (5)), (2, fi (b)), (0, .ref 9), (1, fi (k))] rfl (by decide) hL rfl rfl (fun L1 hL1 => ?_)
      refine f_goto rfl ?_
      have e9 : wr1 m 10 k 4 (iS 1 4) b = b := if_neg (by omega)
      rw [e9]
      exact hK5 hc (b) _ hw hm rb (hL1.sel [0, 1, 2, 3] rfl)
    · have c1 : ¬ (¬ (m 10 4 : Int) = (k : Int)) := c1
      refine f_iln 1 rfl hL rfl ?_
      refine f_s [fi (1), fi (b)] rfl rfl ?_
      refine f_iln 0 rfl hL rfl ?_
      refine b_ishl rfl ?_
      refine b_ior rfl ?_
      refine f_istn [(2, fi (iO (b) (iS (1) (4)))), (3, fi (4)), (0, .ref 9), (1, fi (k))] rfl (by decide) hL rfl (fun L2 hL2 => ?_)
      refine f_inc 1 [(3, fi (5)), (2, fi (iO (b) (iS (1) (4)))), (0, .ref 9), (1, fi (k))] rfl (by decide) hL2 rfl rfl (fun L3 hL3 => ?_)
      refine f_goto rfl ?_
      have e9 : wr1 m 10 k 4 (iS 1 4) b = iO (b) (iS (1) (4)) := if_pos (by omega)
      rw [e9]
      exact hK5 hc (iO (b) (iS (1) (4))) _ hw hm iO_r (hL3.sel [0, 1, 2, 3] rfl)
  have hK3 : ∀ (hc : ev_H) (b : Int) (L : ev_L), y_in yGw hc → gi hc = m → (-2147483648 ≤ b ∧ b ≤ 2147483647) → f_L L [(3, fi (3)), (2, fi (b)), (0, .ref 9), (1, fi (k))] → x_W none (1, 0, 4, 1, 7, 0, 0, 0, 0, ev_t43) 4 L [] hc 0 0 (fun r' h' => r' = some (fi (wr1 m 10 k 4 (iS 1 4) (wr1 m 10 k 3 (iS 1 3) (b)))) ∧ y_in yGw h' ∧ gi h' = m) := fun hc b L hw hm rb hL => by
    refine f_iln 0 rfl hL rfl ?_
    refine f_s [fi (5), fi (3)] rfl rfl ?_
    refine f_ic rfl (by decide) (by decide) (fun c_9 => absurd (show (5 : Int) ≤ (3 : Int) from c_9) (by decide)) (fun _ => ?_)
    refine f_aln 2 rfl hL rfl ?_
    refine m_gfr so9 rfl hw rfl (by decide) ?_
    refine f_iln 0 rfl hL rfl ?_
    refine m_ia sa10 (m 10 3) rfl hw hm (by omega) (by omega) (by decide) rfl ?_
    refine f_iln 3 rfl hL rfl ?_
    refine f_ic rfl (hR 10 3) rk (fun c1 => ?_) (fun c1 => ?_)
    · have c1 : ¬ (m 10 3 : Int) = (k : Int) := c1
      refine f_inc 0 [(3, fi (4)), (2, fi (b)), (0, .ref 9), (1, fi (k))] rfl (by decide) hL rfl rfl (fun L4 hL4 => ?_)
      refine f_goto rfl ?_
      have e9 : wr1 m 10 k 3 (iS 1 3) b = b := if_neg (by omega)
      rw [e9]
      exact hK4 hc (b) _ hw hm rb (hL4.sel [0, 1, 2, 3] rfl)
    · have c1 : ¬ (¬ (m 10 3 : Int) = (k : Int)) := c1
      refine f_iln 1 rfl hL rfl ?_
      refine f_s [fi (1), fi (b)] rfl rfl ?_
      refine f_iln 0 rfl hL rfl ?_
      refine b_ishl rfl ?_
      refine b_ior rfl ?_
      refine f_istn [(2, fi (iO (b) (iS (1) (3)))), (3, fi (3)), (0, .ref 9), (1, fi (k))] rfl (by decide) hL rfl (fun L5 hL5 => ?_)
      refine f_inc 1 [(3, fi (4)), (2, fi (iO (b) (iS (1) (3)))), (0, .ref 9), (1, fi (k))] rfl (by decide) hL5 rfl rfl (fun L6 hL6 => ?_)
      refine f_goto rfl ?_
      have e9 : wr1 m 10 k 3 (iS 1 3) b = iO (b) (iS (1) (3)) := if_pos (by omega)
      rw [e9]
      exact hK4 hc (iO (b) (iS (1) (3))) _ hw hm iO_r (hL6.sel [0, 1, 2, 3] rfl)
  have hK2 : ∀ (hc : ev_H) (b : Int) (L : ev_L), y_in yGw hc → gi hc = m → (-2147483648 ≤ b ∧ b ≤ 2147483647) → f_L L [(3, fi (2)), (2, fi (b)), (0, .ref 9), (1, fi (k))] → x_W none (1, 0, 4, 1, 7, 0, 0, 0, 0, ev_t43) 4 L [] hc 0 0 (fun r' h' => r' = some (fi (wr1 m 10 k 4 (iS 1 4) (wr1 m 10 k 3 (iS 1 3) (wr1 m 10 k 2 (iS 1 2) (b))))) ∧ y_in yGw h' ∧ gi h' = m) := fun hc b L hw hm rb hL => by
    refine f_iln 0 rfl hL rfl ?_
    refine f_s [fi (5), fi (2)] rfl rfl ?_
    refine f_ic rfl (by decide) (by decide) (fun c_9 => absurd (show (5 : Int) ≤ (2 : Int) from c_9) (by decide)) (fun _ => ?_)
    refine f_aln 2 rfl hL rfl ?_
    refine m_gfr so9 rfl hw rfl (by decide) ?_
    refine f_iln 0 rfl hL rfl ?_
    refine m_ia sa10 (m 10 2) rfl hw hm (by omega) (by omega) (by decide) rfl ?_
    refine f_iln 3 rfl hL rfl ?_
    refine f_ic rfl (hR 10 2) rk (fun c1 => ?_) (fun c1 => ?_)
    · have c1 : ¬ (m 10 2 : Int) = (k : Int) := c1
      refine f_inc 0 [(3, fi (3)), (2, fi (b)), (0, .ref 9), (1, fi (k))] rfl (by decide) hL rfl rfl (fun L7 hL7 => ?_)
      refine f_goto rfl ?_
      have e9 : wr1 m 10 k 2 (iS 1 2) b = b := if_neg (by omega)
      rw [e9]
      exact hK3 hc (b) _ hw hm rb (hL7.sel [0, 1, 2, 3] rfl)
    · have c1 : ¬ (¬ (m 10 2 : Int) = (k : Int)) := c1
      refine f_iln 1 rfl hL rfl ?_
      refine f_s [fi (1), fi (b)] rfl rfl ?_
      refine f_iln 0 rfl hL rfl ?_
      refine b_ishl rfl ?_
      refine b_ior rfl ?_
      refine f_istn [(2, fi (iO (b) (iS (1) (2)))), (3, fi (2)), (0, .ref 9), (1, fi (k))] rfl (by decide) hL rfl (fun L8 hL8 => ?_)
      refine f_inc 1 [(3, fi (3)), (2, fi (iO (b) (iS (1) (2)))), (0, .ref 9), (1, fi (k))] rfl (by decide) hL8 rfl rfl (fun L9 hL9 => ?_)
      refine f_goto rfl ?_
      have e9 : wr1 m 10 k 2 (iS 1 2) b = iO (b) (iS (1) (2)) := if_pos (by omega)
      rw [e9]
      exact hK3 hc (iO (b) (iS (1) (2))) _ hw hm iO_r (hL9.sel [0, 1, 2, 3] rfl)
  have hK1 : ∀ (hc : ev_H) (b : Int) (L : ev_L), y_in yGw hc → gi hc = m → (-2147483648 ≤ b ∧ b ≤ 2147483647) → f_L L [(3, fi (1)), (2, fi (b)), (0, .ref 9), (1, fi (k))] → x_W none (1, 0, 4, 1, 7, 0, 0, 0, 0, ev_t43) 4 L [] hc 0 0 (fun r' h' => r' = some (fi (wr1 m 10 k 4 (iS 1 4) (wr1 m 10 k 3 (iS 1 3) (wr1 m 10 k 2 (iS 1 2) (wr1 m 10 k 1 (iS 1 1) (b)))))) ∧ y_in yGw h' ∧ gi h' = m) := fun hc b L hw hm rb hL => by
    refine f_iln 0 rfl hL rfl ?_
    refine f_s [fi (5), fi (1)] rfl rfl ?_
    refine f_ic rfl (by decide) (by decide) (fun c_9 => absurd (show (5 : Int) ≤ (1 : Int) from c_9) (by decide)) (fun _ => ?_)
    refine f_aln 2 rfl hL rfl ?_
    refine m_gfr so9 rfl hw rfl (by decide) ?_
    refine f_iln 0 rfl hL rfl ?_
    refine m_ia sa10 (m 10 1) rfl hw hm (by omega) (by omega) (by decide) rfl ?_
    refine f_iln 3 rfl hL rfl ?_
    refine f_ic rfl (hR 10 1) rk (fun c1 => ?_) (fun c1 => ?_)
    · have c1 : ¬ (m 10 1 : Int) = (k : Int) := c1
      refine f_inc 0 [(3, fi (2)), (2, fi (b)), (0, .ref 9), (1, fi (k))] rfl (by decide) hL rfl rfl (fun L10 hL10 => ?_)
      refine f_goto rfl ?_
      have e9 : wr1 m 10 k 1 (iS 1 1) b = b := if_neg (by omega)
      rw [e9]
      exact hK2 hc (b) _ hw hm rb (hL10.sel [0, 1, 2, 3] rfl)
    · have c1 : ¬ (¬ (m 10 1 : Int) = (k : Int)) := c1
      refine f_iln 1 rfl hL rfl ?_
      refine f_s [fi (1), fi (b)] rfl rfl ?_
      refine f_iln 0 rfl hL rfl ?_
      refine b_ishl rfl ?_
      refine b_ior rfl ?_
      refine f_istn [(2, fi (iO (b) (iS (1) (1)))), (3, fi (1)), (0, .ref 9), (1, fi (k))] rfl (by decide) hL rfl (fun L11 hL11 => ?_)
      refine f_inc 1 [(3, fi (2)), (2, fi (iO (b) (iS (1) (1)))), (0, .ref 9), (1, fi (k))] rfl (by decide) hL11 rfl rfl (fun L12 hL12 => ?_)
      refine f_goto rfl ?_
      have e9 : wr1 m 10 k 1 (iS 1 1) b = iO (b) (iS (1) (1)) := if_pos (by omega)
      rw [e9]
      exact hK2 hc (iO (b) (iS (1) (1))) _ hw hm iO_r (hL12.sel [0, 1, 2, 3] rfl)
  have hK0 : ∀ (hc : ev_H) (b : Int) (L : ev_L), y_in yGw hc → gi hc = m → (-2147483648 ≤ b ∧ b ≤ 2147483647) → f_L L [(3, fi (0)), (2, fi (b)), (0, .ref 9), (1, fi (k))] → x_W none (1, 0, 4, 1, 7, 0, 0, 0, 0, ev_t43) 4 L [] hc 0 0 (fun r' h' => r' = some (fi (wr1 m 10 k 4 (iS 1 4) (wr1 m 10 k 3 (iS 1 3) (wr1 m 10 k 2 (iS 1 2) (wr1 m 10 k 1 (iS 1 1) (wr1 m 10 k 0 (iS 1 0) (b))))))) ∧ y_in yGw h' ∧ gi h' = m) := fun hc b L hw hm rb hL => by
    refine f_iln 0 rfl hL rfl ?_
    refine f_s [fi (5), fi (0)] rfl rfl ?_
    refine f_ic rfl (by decide) (by decide) (fun c_9 => absurd (show (5 : Int) ≤ (0 : Int) from c_9) (by decide)) (fun _ => ?_)
    refine f_aln 2 rfl hL rfl ?_
    refine m_gfr so9 rfl hw rfl (by decide) ?_
    refine f_iln 0 rfl hL rfl ?_
    refine m_ia sa10 (m 10 0) rfl hw hm (by omega) (by omega) (by decide) rfl ?_
    refine f_iln 3 rfl hL rfl ?_
    refine f_ic rfl (hR 10 0) rk (fun c1 => ?_) (fun c1 => ?_)
    · have c1 : ¬ (m 10 0 : Int) = (k : Int) := c1
      refine f_inc 0 [(3, fi (1)), (2, fi (b)), (0, .ref 9), (1, fi (k))] rfl (by decide) hL rfl rfl (fun L13 hL13 => ?_)
      refine f_goto rfl ?_
      have e9 : wr1 m 10 k 0 (iS 1 0) b = b := if_neg (by omega)
      rw [e9]
      exact hK1 hc (b) _ hw hm rb (hL13.sel [0, 1, 2, 3] rfl)
    · have c1 : ¬ (¬ (m 10 0 : Int) = (k : Int)) := c1
      refine f_iln 1 rfl hL rfl ?_
      refine f_s [fi (1), fi (b)] rfl rfl ?_
      refine f_iln 0 rfl hL rfl ?_
      refine b_ishl rfl ?_
      refine b_ior rfl ?_
      refine f_istn [(2, fi (iO (b) (iS (1) (0)))), (3, fi (0)), (0, .ref 9), (1, fi (k))] rfl (by decide) hL rfl (fun L14 hL14 => ?_)
      refine f_inc 1 [(3, fi (1)), (2, fi (iO (b) (iS (1) (0)))), (0, .ref 9), (1, fi (k))] rfl (by decide) hL14 rfl rfl (fun L15 hL15 => ?_)
      refine f_goto rfl ?_
      have e9 : wr1 m 10 k 0 (iS 1 0) b = iO (b) (iS (1) (0)) := if_pos (by omega)
      rw [e9]
      exact hK1 hc (iO (b) (iS (1) (0))) _ hw hm iO_r (hL15.sel [0, 1, 2, 3] rfl)
  refine f_s [fi (0)] rfl rfl ?_
  refine f_istn [(2, fi (0)), (0, .ref 9), (1, fi (k))] rfl (by decide) hL rfl (fun L16 hL16 => ?_)
  refine f_s [fi (0)] rfl rfl ?_
  refine f_istn [(3, fi (0)), (2, fi (0)), (0, .ref 9), (1, fi (k))] rfl (by decide) hL16 rfl (fun L17 hL17 => ?_)
  exact hK0 hc 0 _ hw hm (by decide) (hL17.sel [0, 1, 2, 3] rfl))
theorem t44_9 {m : Nat → Nat → Int} (h9 : 0 ≤ m 3 5 ∧ m 3 5 ≤ 4) {x : Int} (rx : -2147483648 ≤ x ∧ x ≤ 2147483647) : h_M 44 [.ref 9, fi (x)] m (some (fi (bI (decide ((0 ≤ x ∧ x < m 3 5) ∧ iA (iR (m 9 4) (x)) (1) = 1))))) m := h_M_of (R := ev_r44) rfl (fun hc hw hm => by
  have hL : f_L (lv_args 0 [.ref 9, fi (x)]) [(0, .ref 9), (1, fi (x))] := f_L_of rfl
  generalize lv_args 0 [.ref 9, fi (x)] = L at hL
  show x_W none (2, 0, 2, 1, 7, 1, 21, 0, 0, ev_t44) 0 L [] hc 0 0 _
  have hR := gi_R hm
  refine f_aln 0 rfl hL rfl ?_
  refine m_gfr so9 rfl hw rfl (by decide) ?_
  refine f_iln 1 rfl hL rfl ?_
  refine m_k1 (t40 h9.2 rx) hw hm rfl rfl rfl (m_ar so3 hw rfl) rfl (fun hc1 hw1 hm1 => ?_)
  refine f_if rfl (bI_r _) (fun c1 => ?_) (fun c1 => ?_)
  · have c1 : (bI (decide (0 ≤ x ∧ x < m 3 5)) : Int) = (0 : Int) := c1
    have c1 : ¬ (0 ≤ x ∧ x < m 3 5) := bI_f c1
    refine f_s [fi (0)] rfl rfl ?_
    exact f_ret2 rfl (Or.inl rfl) ⟨by rw [decide_eq_false (by omega)]; rfl, hw1, hm1⟩
  · have c1 : ¬ ((bI (decide (0 ≤ x ∧ x < m 3 5)) : Int) = (0 : Int)) := c1
    have c1 : 0 ≤ x ∧ x < m 3 5 := bI_t c1
    refine f_aln 0 rfl hL rfl ?_
    refine m_gfi so9 (m 9 4) rfl hw1 hm1 rfl rfl ?_
    refine f_iln 1 rfl hL rfl ?_
    refine b_ishr rfl ?_
    refine f_s [fi (1), fi (iR (m 9 4) (x))] rfl rfl ?_
    refine b_iand rfl ?_
    refine f_s [fi (1), fi (iA (iR (m 9 4) (x)) (1))] rfl rfl ?_
    refine f_ic rfl iA_r (by decide) (fun c2 => ?_) (fun c2 => ?_)
    · have c2 : ¬ (iA (iR (m 9 4) (x)) (1) : Int) = (1 : Int) := c2
      refine f_s [fi (0)] rfl rfl ?_
      exact f_ret2 rfl (Or.inl rfl) ⟨by rw [decide_eq_false (by omega)]; rfl, hw1, hm1⟩
    · have c2 : ¬ (¬ (iA (iR (m 9 4) (x)) (1) : Int) = (1 : Int)) := c2
      refine f_s [fi (1)] rfl rfl ?_
      refine f_goto rfl ?_
      exact f_ret2 rfl (Or.inr rfl) ⟨by rw [decide_eq_true (by omega)]; rfl, hw1, hm1⟩)
theorem t59_9 {m : Nat → Nat → Int} (h9 : 0 ≤ m 3 6 ∧ m 3 6 ≤ 5) {x : Int} (rx : -2147483648 ≤ x ∧ x ≤ 2147483647) : h_M 59 [.ref 9, fi (x)] m (some (fi (bI (decide ((0 ≤ x ∧ x < m 3 6) ∧ iA (iR (m 9 5) (x)) (1) = 1))))) m := h_M_of (R := ev_r59) rfl (fun hc hw hm => by
  have hL : f_L (lv_args 0 [.ref 9, fi (x)]) [(0, .ref 9), (1, fi (x))] := f_L_of rfl
  generalize lv_args 0 [.ref 9, fi (x)] = L at hL
  show x_W none (2, 0, 2, 1, 7, 1, 21, 0, 0, ev_t59) 0 L [] hc 0 0 _
  have hR := gi_R hm
  refine f_aln 0 rfl hL rfl ?_
  refine m_gfr so9 rfl hw rfl (by decide) ?_
  refine f_iln 1 rfl hL rfl ?_
  refine m_k1 (t49 h9.2 rx) hw hm rfl rfl rfl (m_ar so3 hw rfl) rfl (fun hc1 hw1 hm1 => ?_)
  refine f_if rfl (bI_r _) (fun c1 => ?_) (fun c1 => ?_)
  · have c1 : (bI (decide (0 ≤ x ∧ x < m 3 6)) : Int) = (0 : Int) := c1
    have c1 : ¬ (0 ≤ x ∧ x < m 3 6) := bI_f c1
    refine f_s [fi (0)] rfl rfl ?_
    exact f_ret2 rfl (Or.inl rfl) ⟨by rw [decide_eq_false (by omega)]; rfl, hw1, hm1⟩
  · have c1 : ¬ ((bI (decide (0 ≤ x ∧ x < m 3 6)) : Int) = (0 : Int)) := c1
    have c1 : 0 ≤ x ∧ x < m 3 6 := bI_t c1
    refine f_aln 0 rfl hL rfl ?_
    refine m_gfi so9 (m 9 5) rfl hw1 hm1 rfl rfl ?_
    refine f_iln 1 rfl hL rfl ?_
    refine b_ishr rfl ?_
    refine f_s [fi (1), fi (iR (m 9 5) (x))] rfl rfl ?_
    refine b_iand rfl ?_
    refine f_s [fi (1), fi (iA (iR (m 9 5) (x)) (1))] rfl rfl ?_
    refine f_ic rfl iA_r (by decide) (fun c2 => ?_) (fun c2 => ?_)
    · have c2 : ¬ (iA (iR (m 9 5) (x)) (1) : Int) = (1 : Int) := c2
      refine f_s [fi (0)] rfl rfl ?_
      exact f_ret2 rfl (Or.inl rfl) ⟨by rw [decide_eq_false (by omega)]; rfl, hw1, hm1⟩
    · have c2 : ¬ (¬ (iA (iR (m 9 5) (x)) (1) : Int) = (1 : Int)) := c2
      refine f_s [fi (1)] rfl rfl ?_
      refine f_goto rfl ?_
      exact f_ret2 rfl (Or.inr rfl) ⟨by rw [decide_eq_true (by omega)]; rfl, hw1, hm1⟩)
theorem t53_9 {m : Nat → Nat → Int} (hp : 0 ≤ m 3 6 ∧ m 3 6 ≤ 5) {x : Int} (rx : -2147483648 ≤ x ∧ x ≤ 2147483647) : h_M 53 [.ref 9, fi (x)] m (some (fi (nO m 10 x))) m := h_M_of (R := ev_r53) rfl (fun hc hw hm => by
  have hL : f_L (lv_args 0 [.ref 9, fi (x)]) [(0, .ref 9), (1, fi (x))] := f_L_of rfl
  generalize lv_args 0 [.ref 9, fi (x)] = L at hL
  show x_W none (1, 0, 2, 1, 7, 1, 21, 0, 0, ev_t53) 0 L [] hc 0 0 _
  have hR := gi_R hm
  refine f_aln 0 rfl hL rfl ?_
  refine m_gfr so9 rfl hw rfl (by decide) ?_
  refine f_iln 1 rfl hL rfl ?_
  refine m_k1 (t49 hp.2 rx) hw hm rfl rfl rfl (m_ar so3 hw rfl) rfl (fun hc1 hw1 hm1 => ?_)
  refine f_if rfl (bI_r _) (fun c1 => ?_) (fun c1 => ?_)
  · have c1 : (bI (decide (0 ≤ x ∧ x < m 3 6)) : Int) = (0 : Int) := c1
    have c1 : ¬ (0 ≤ x ∧ x < m 3 6) := bI_f c1
    refine f_bipush (n := -9) rfl (by decide) ?_
    exact f_ret1 rfl ⟨by unfold nO; rw [if_neg c1], hw1, hm1⟩
  · have c1 : ¬ ((bI (decide (0 ≤ x ∧ x < m 3 6)) : Int) = (0 : Int)) := c1
    have c1 : 0 ≤ x ∧ x < m 3 6 := bI_t c1
    refine f_aln 0 rfl hL rfl ?_
    refine m_gfr so9 rfl hw1 rfl (by decide) ?_
    refine f_iln 1 rfl hL rfl ?_
    refine m_ia sa10 (m 10 (x).toNat) rfl hw1 hm1 (by omega) (by omega) (by decide) rfl ?_
    refine f_goto rfl ?_
    exact f_ret1 rfl ⟨by unfold nO; rw [if_pos c1], hw1, hm1⟩)
theorem t54_9 {m : Nat → Nat → Int} (hp : 0 ≤ m 3 6 ∧ m 3 6 ≤ 5) {x : Int} (rx : -2147483648 ≤ x ∧ x ≤ 2147483647) : h_M 54 [.ref 9, fi (x)] m (some (fi (aH m 11 x))) m := h_M_of (R := ev_r54) rfl (fun hc hw hm => by
  have hL : f_L (lv_args 0 [.ref 9, fi (x)]) [(0, .ref 9), (1, fi (x))] := f_L_of rfl
  generalize lv_args 0 [.ref 9, fi (x)] = L at hL
  show x_W none (1, 0, 2, 1, 7, 1, 21, 0, 0, ev_t54) 0 L [] hc 0 0 _
  have hR := gi_R hm
  refine f_aln 0 rfl hL rfl ?_
  refine m_gfr so9 rfl hw rfl (by decide) ?_
  refine f_iln 1 rfl hL rfl ?_
  refine m_k1 (t49 hp.2 rx) hw hm rfl rfl rfl (m_ar so3 hw rfl) rfl (fun hc1 hw1 hm1 => ?_)
  refine f_if rfl (bI_r _) (fun c1 => ?_) (fun c1 => ?_)
  · have c1 : (bI (decide (0 ≤ x ∧ x < m 3 6)) : Int) = (0 : Int) := c1
    have c1 : ¬ (0 ≤ x ∧ x < m 3 6) := bI_f c1
    refine f_s [fi (0)] rfl rfl ?_
    exact f_ret1 rfl ⟨by unfold aH; rw [if_neg c1], hw1, hm1⟩
  · have c1 : ¬ ((bI (decide (0 ≤ x ∧ x < m 3 6)) : Int) = (0 : Int)) := c1
    have c1 : 0 ≤ x ∧ x < m 3 6 := bI_t c1
    refine f_aln 0 rfl hL rfl ?_
    refine m_gfr so9 rfl hw1 rfl (by decide) ?_
    refine f_iln 1 rfl hL rfl ?_
    refine m_ia sa11 (m 11 (x).toNat) rfl hw1 hm1 (by omega) (by omega) (by decide) rfl ?_
    refine f_goto rfl ?_
    exact f_ret1 rfl ⟨by unfold aH; rw [if_pos c1], hw1, hm1⟩)
theorem t55_9 {m : Nat → Nat → Int} (hp : 0 ≤ m 3 6 ∧ m 3 6 ≤ 5) {x : Int} (rx : -2147483648 ≤ x ∧ x ≤ 2147483647) : h_M 55 [.ref 9, fi (x)] m (some (fi (aH m 12 x))) m := h_M_of (R := ev_r55) rfl (fun hc hw hm => by
  have hL : f_L (lv_args 0 [.ref 9, fi (x)]) [(0, .ref 9), (1, fi (x))] := f_L_of rfl
  generalize lv_args 0 [.ref 9, fi (x)] = L at hL
  show x_W none (1, 0, 2, 1, 7, 1, 21, 0, 0, ev_t55) 0 L [] hc 0 0 _
  have hR := gi_R hm
  refine f_aln 0 rfl hL rfl ?_
  refine m_gfr so9 rfl hw rfl (by decide) ?_
  refine f_iln 1 rfl hL rfl ?_
  refine m_k1 (t49 hp.2 rx) hw hm rfl rfl rfl (m_ar so3 hw rfl) rfl (fun hc1 hw1 hm1 => ?_)
  refine f_if rfl (bI_r _) (fun c1 => ?_) (fun c1 => ?_)
  · have c1 : (bI (decide (0 ≤ x ∧ x < m 3 6)) : Int) = (0 : Int) := c1
    have c1 : ¬ (0 ≤ x ∧ x < m 3 6) := bI_f c1
    refine f_s [fi (0)] rfl rfl ?_
    exact f_ret1 rfl ⟨by unfold aH; rw [if_neg c1], hw1, hm1⟩
  · have c1 : ¬ ((bI (decide (0 ≤ x ∧ x < m 3 6)) : Int) = (0 : Int)) := c1
    have c1 : 0 ≤ x ∧ x < m 3 6 := bI_t c1
    refine f_aln 0 rfl hL rfl ?_
    refine m_gfr so9 rfl hw1 rfl (by decide) ?_
    refine f_iln 1 rfl hL rfl ?_
    refine m_ia sa12 (m 12 (x).toNat) rfl hw1 hm1 (by omega) (by omega) (by decide) rfl ?_
    refine f_goto rfl ?_
    exact f_ret1 rfl ⟨by unfold aH; rw [if_pos c1], hw1, hm1⟩)
theorem t56_9 {m : Nat → Nat → Int} (hn : 0 ≤ m 3 5 ∧ m 3 5 ≤ 4) : h_M 56 [.ref 9] m (some (fi (hwS m 10))) m := h_M_of (R := ev_r56) rfl (fun hc hw hm => by
  have hL : f_L (lv_args 0 [.ref 9]) [(0, .ref 9)] := f_L_of rfl
  generalize lv_args 0 [.ref 9] = L at hL
  show x_W none (1, 0, 4, 0, 7, 2, 42, 0, 0, ev_t56) 0 L [] hc 0 0 _
  have hR := gi_R hm
  have hK5 : ∀ (hc : ev_H) (b : Int) (L : ev_L), y_in yGw hc → gi hc = m → (-2147483648 ≤ b ∧ b ≤ 2147483647) → f_L L [(2, fi (5)), (1, fi (b)), (0, .ref 9)] → x_W none (1, 0, 4, 0, 7, 2, 42, 0, 0, ev_t56) 4 L [] hc 0 0 (fun r' h' => r' = some (fi (b)) ∧ y_in yGw h' ∧ gi h' = m) := fun hc b L hw hm rb hL => by
    refine f_iln 0 rfl hL rfl ?_
    refine f_s [fi (5), fi (5)] rfl rfl ?_
    refine f_ic rfl (by decide) (by decide) (fun _ => ?_) (fun c_9 => absurd (show (5 : Int) ≤ (5 : Int) from (by decide)) c_9)
    refine f_iln 1 rfl hL rfl ?_
    exact f_ret1 rfl ⟨rfl, hw, hm⟩
  have hK4 : ∀ (hc : ev_H) (b : Int) (L : ev_L), y_in yGw hc → gi hc = m → (-2147483648 ≤ b ∧ b ≤ 2147483647) → f_L L [(2, fi (4)), (1, fi (b)), (0, .ref 9)] → x_W none (1, 0, 4, 0, 7, 2, 42, 0, 0, ev_t56) 4 L [] hc 0 0 (fun r' h' => r' = some (fi (hv1 m 10 4 (b))) ∧ y_in yGw h' ∧ gi h' = m) := fun hc b L hw hm rb hL => by
    refine f_iln 0 rfl hL rfl ?_
    refine f_s [fi (5), fi (4)] rfl rfl ?_
    refine f_ic rfl (by decide) (by decide) (fun c_9 => absurd (show (5 : Int) ≤ (4 : Int) from c_9) (by decide)) (fun _ => ?_)
    refine f_aln 2 rfl hL rfl ?_
    refine m_gfr so9 rfl hw rfl (by decide) ?_
    refine f_iln 0 rfl hL rfl ?_
    refine m_ia sa10 (m 10 4) rfl hw hm (by omega) (by omega) (by decide) rfl ?_
    refine f_istn [(3, fi (m 10 4)), (2, fi (4)), (1, fi (b)), (0, .ref 9)] rfl (by decide) hL rfl (fun L1 hL1 => ?_)
    refine f_iln 0 rfl hL1 rfl ?_
    refine f_bipush (n := -9) rfl (by decide) ?_
    refine f_ic rfl (hR 10 4) (by decide) (fun c1 => ?_) (fun c1 => ?_)
    · have c1 : (m 10 4 : Int) = (-9 : Int) := c1
      refine f_inc 1 [(2, fi (5)), (3, fi (m 10 4)), (1, fi (b)), (0, .ref 9)] rfl (by decide) hL1 rfl rfl (fun L2 hL2 => ?_)
      refine f_goto rfl ?_
      have e9 : hv1 m 10 4 b = b := if_neg (by omega)
      rw [e9]
      exact hK5 hc (b) _ hw hm rb (hL2.sel [0, 2, 3] rfl)
    · have c1 : ¬ ((m 10 4 : Int) = (-9 : Int)) := c1
      refine f_aln 3 rfl hL1 rfl ?_
      refine m_gfr so9 rfl hw rfl (by decide) ?_
      refine f_iln 0 rfl hL1 rfl ?_
      refine m_k1 (t41 hn (hR 10 4)) hw hm rfl rfl rfl (m_ar so3 hw rfl) rfl (fun hc1 hw1 hm1 => ?_)
      refine f_s [fi (1), fi (kd m (m 10 4))] rfl rfl ?_
      refine f_ic rfl (kd_r hR _) (by decide) (fun c2 => ?_) (fun c2 => ?_)
      · have c2 : ¬ (kd m (m 10 4) : Int) = (1 : Int) := c2
        refine f_inc 1 [(2, fi (5)), (3, fi (m 10 4)), (1, fi (b)), (0, .ref 9)] rfl (by decide) hL1 rfl rfl (fun L3 hL3 => ?_)
        refine f_goto rfl ?_
        have e9 : hv1 m 10 4 b = b := if_neg (by omega)
        rw [e9]
        exact hK5 hc1 (b) _ hw1 hm1 rb (hL3.sel [0, 2, 3] rfl)
      · have c2 : ¬ (¬ (kd m (m 10 4) : Int) = (1 : Int)) := c2
        refine f_iln 2 rfl hL1 rfl ?_
        refine f_s [fi (1), fi (b)] rfl rfl ?_
        refine f_iln 0 rfl hL1 rfl ?_
        refine b_ishl rfl ?_
        refine b_ior rfl ?_
        refine f_istn [(1, fi (iO (b) (iS (1) (m 10 4)))), (3, fi (m 10 4)), (2, fi (4)), (0, .ref 9)] rfl (by decide) hL1 rfl (fun L4 hL4 => ?_)
        refine f_inc 2 [(2, fi (5)), (1, fi (iO (b) (iS (1) (m 10 4)))), (3, fi (m 10 4)), (0, .ref 9)] rfl (by decide) hL4 rfl rfl (fun L5 hL5 => ?_)
        refine f_goto rfl ?_
        have e9 : hv1 m 10 4 b = iO (b) (iS (1) (m 10 4)) := if_pos (by omega)
        rw [e9]
        exact hK5 hc1 (iO (b) (iS (1) (m 10 4))) _ hw1 hm1 iO_r (hL5.sel [0, 1, 3] rfl)
  have hK3 : ∀ (hc : ev_H) (b : Int) (L : ev_L), y_in yGw hc → gi hc = m → (-2147483648 ≤ b ∧ b ≤ 2147483647) → f_L L [(2, fi (3)), (1, fi (b)), (0, .ref 9)] → x_W none (1, 0, 4, 0, 7, 2, 42, 0, 0, ev_t56) 4 L [] hc 0 0 (fun r' h' => r' = some (fi (hv1 m 10 4 (hv1 m 10 3 (b)))) ∧ y_in yGw h' ∧ gi h' = m) := fun hc b L hw hm rb hL => by
    refine f_iln 0 rfl hL rfl ?_
    refine f_s [fi (5), fi (3)] rfl rfl ?_
    refine f_ic rfl (by decide) (by decide) (fun c_9 => absurd (show (5 : Int) ≤ (3 : Int) from c_9) (by decide)) (fun _ => ?_)
    refine f_aln 2 rfl hL rfl ?_
    refine m_gfr so9 rfl hw rfl (by decide) ?_
    refine f_iln 0 rfl hL rfl ?_
    refine m_ia sa10 (m 10 3) rfl hw hm (by omega) (by omega) (by decide) rfl ?_
    refine f_istn [(3, fi (m 10 3)), (2, fi (3)), (1, fi (b)), (0, .ref 9)] rfl (by decide) hL rfl (fun L6 hL6 => ?_)
    refine f_iln 0 rfl hL6 rfl ?_
    refine f_bipush (n := -9) rfl (by decide) ?_
    refine f_ic rfl (hR 10 3) (by decide) (fun c1 => ?_) (fun c1 => ?_)
    · have c1 : (m 10 3 : Int) = (-9 : Int) := c1
      refine f_inc 1 [(2, fi (4)), (3, fi (m 10 3)), (1, fi (b)), (0, .ref 9)] rfl (by decide) hL6 rfl rfl (fun L7 hL7 => ?_)
      refine f_goto rfl ?_
      have e9 : hv1 m 10 3 b = b := if_neg (by omega)
      rw [e9]
      exact hK4 hc (b) _ hw hm rb (hL7.sel [0, 2, 3] rfl)
    · have c1 : ¬ ((m 10 3 : Int) = (-9 : Int)) := c1
      refine f_aln 3 rfl hL6 rfl ?_
      refine m_gfr so9 rfl hw rfl (by decide) ?_
      refine f_iln 0 rfl hL6 rfl ?_
      refine m_k1 (t41 hn (hR 10 3)) hw hm rfl rfl rfl (m_ar so3 hw rfl) rfl (fun hc2 hw2 hm2 => ?_)
      refine f_s [fi (1), fi (kd m (m 10 3))] rfl rfl ?_
      refine f_ic rfl (kd_r hR _) (by decide) (fun c2 => ?_) (fun c2 => ?_)
      · have c2 : ¬ (kd m (m 10 3) : Int) = (1 : Int) := c2
        refine f_inc 1 [(2, fi (4)), (3, fi (m 10 3)), (1, fi (b)), (0, .ref 9)] rfl (by decide) hL6 rfl rfl (fun L8 hL8 => ?_)
        refine f_goto rfl ?_
        have e9 : hv1 m 10 3 b = b := if_neg (by omega)
        rw [e9]
        exact hK4 hc2 (b) _ hw2 hm2 rb (hL8.sel [0, 2, 3] rfl)
      · have c2 : ¬ (¬ (kd m (m 10 3) : Int) = (1 : Int)) := c2
        refine f_iln 2 rfl hL6 rfl ?_
        refine f_s [fi (1), fi (b)] rfl rfl ?_
        refine f_iln 0 rfl hL6 rfl ?_
        refine b_ishl rfl ?_
        refine b_ior rfl ?_
        refine f_istn [(1, fi (iO (b) (iS (1) (m 10 3)))), (3, fi (m 10 3)), (2, fi (3)), (0, .ref 9)] rfl (by decide) hL6 rfl (fun L9 hL9 => ?_)
        refine f_inc 2 [(2, fi (4)), (1, fi (iO (b) (iS (1) (m 10 3)))), (3, fi (m 10 3)), (0, .ref 9)] rfl (by decide) hL9 rfl rfl (fun L10 hL10 => ?_)
        refine f_goto rfl ?_
        have e9 : hv1 m 10 3 b = iO (b) (iS (1) (m 10 3)) := if_pos (by omega)
        rw [e9]
        exact hK4 hc2 (iO (b) (iS (1) (m 10 3))) _ hw2 hm2 iO_r (hL10.sel [0, 1, 3] rfl)
  have hK2 : ∀ (hc : ev_H) (b : Int) (L : ev_L), y_in yGw hc → gi hc = m → (-2147483648 ≤ b ∧ b ≤ 2147483647) → f_L L [(2, fi (2)), (1, fi (b)), (0, .ref 9)] → x_W none (1, 0, 4, 0, 7, 2, 42, 0, 0, ev_t56) 4 L [] hc 0 0 (fun r' h' => r' = some (fi (hv1 m 10 4 (hv1 m 10 3 (hv1 m 10 2 (b))))) ∧ y_in yGw h' ∧ gi h' = m) := fun hc b L hw hm rb hL => by
    refine f_iln 0 rfl hL rfl ?_
    refine f_s [fi (5), fi (2)] rfl rfl ?_
    refine f_ic rfl (by decide) (by decide) (fun c_9 => absurd (show (5 : Int) ≤ (2 : Int) from c_9) (by decide)) (fun _ => ?_)
    refine f_aln 2 rfl hL rfl ?_
    refine m_gfr so9 rfl hw rfl (by decide) ?_
    refine f_iln 0 rfl hL rfl ?_
    refine m_ia sa10 (m 10 2) rfl hw hm (by omega) (by omega) (by decide) rfl ?_
    refine f_istn [(3, fi (m 10 2)), (2, fi (2)), (1, fi (b)), (0, .ref 9)] rfl (by decide) hL rfl (fun L11 hL11 => ?_)
    refine f_iln 0 rfl hL11 rfl ?_
    refine f_bipush (n := -9) rfl (by decide) ?_
    refine f_ic rfl (hR 10 2) (by decide) (fun c1 => ?_) (fun c1 => ?_)
    · have c1 : (m 10 2 : Int) = (-9 : Int) := c1
      refine f_inc 1 [(2, fi (3)), (3, fi (m 10 2)), (1, fi (b)), (0, .ref 9)] rfl (by decide) hL11 rfl rfl (fun L12 hL12 => ?_)
      refine f_goto rfl ?_
      have e9 : hv1 m 10 2 b = b := if_neg (by omega)
      rw [e9]
      exact hK3 hc (b) _ hw hm rb (hL12.sel [0, 2, 3] rfl)
    · have c1 : ¬ ((m 10 2 : Int) = (-9 : Int)) := c1
      refine f_aln 3 rfl hL11 rfl ?_
      refine m_gfr so9 rfl hw rfl (by decide) ?_
      refine f_iln 0 rfl hL11 rfl ?_
      refine m_k1 (t41 hn (hR 10 2)) hw hm rfl rfl rfl (m_ar so3 hw rfl) rfl (fun hc3 hw3 hm3 => ?_)
      refine f_s [fi (1), fi (kd m (m 10 2))] rfl rfl ?_
      refine f_ic rfl (kd_r hR _) (by decide) (fun c2 => ?_) (fun c2 => ?_)
      · have c2 : ¬ (kd m (m 10 2) : Int) = (1 : Int) := c2
        refine f_inc 1 [(2, fi (3)), (3, fi (m 10 2)), (1, fi (b)), (0, .ref 9)] rfl (by decide) hL11 rfl rfl (fun L13 hL13 => ?_)
        refine f_goto rfl ?_
        have e9 : hv1 m 10 2 b = b := if_neg (by omega)
        rw [e9]
        exact hK3 hc3 (b) _ hw3 hm3 rb (hL13.sel [0, 2, 3] rfl)
      · have c2 : ¬ (¬ (kd m (m 10 2) : Int) = (1 : Int)) := c2
        refine f_iln 2 rfl hL11 rfl ?_
        refine f_s [fi (1), fi (b)] rfl rfl ?_
        refine f_iln 0 rfl hL11 rfl ?_
        refine b_ishl rfl ?_
        refine b_ior rfl ?_
        refine f_istn [(1, fi (iO (b) (iS (1) (m 10 2)))), (3, fi (m 10 2)), (2, fi (2)), (0, .ref 9)] rfl (by decide) hL11 rfl (fun L14 hL14 => ?_)
        refine f_inc 2 [(2, fi (3)), (1, fi (iO (b) (iS (1) (m 10 2)))), (3, fi (m 10 2)), (0, .ref 9)] rfl (by decide) hL14 rfl rfl (fun L15 hL15 => ?_)
        refine f_goto rfl ?_
        have e9 : hv1 m 10 2 b = iO (b) (iS (1) (m 10 2)) := if_pos (by omega)
        rw [e9]
        exact hK3 hc3 (iO (b) (iS (1) (m 10 2))) _ hw3 hm3 iO_r (hL15.sel [0, 1, 3] rfl)
  have hK1 : ∀ (hc : ev_H) (b : Int) (L : ev_L), y_in yGw hc → gi hc = m → (-2147483648 ≤ b ∧ b ≤ 2147483647) → f_L L [(2, fi (1)), (1, fi (b)), (0, .ref 9)] → x_W none (1, 0, 4, 0, 7, 2, 42, 0, 0, ev_t56) 4 L [] hc 0 0 (fun r' h' => r' = some (fi (hv1 m 10 4 (hv1 m 10 3 (hv1 m 10 2 (hv1 m 10 1 (b)))))) ∧ y_in yGw h' ∧ gi h' = m) := fun hc b L hw hm rb hL => by
    refine f_iln 0 rfl hL rfl ?_
    refine f_s [fi (5), fi (1)] rfl rfl ?_
    refine f_ic rfl (by decide) (by decide) (fun c_9 => absurd (show (5 : Int) ≤ (1 : Int) from c_9) (by decide)) (fun _ => ?_)
    refine f_aln 2 rfl hL rfl ?_
    refine m_gfr so9 rfl hw rfl (by decide) ?_
    refine f_iln 0 rfl hL rfl ?_
    refine m_ia sa10 (m 10 1) rfl hw hm (by omega) (by omega) (by decide) rfl ?_
    refine f_istn [(3, fi (m 10 1)), (2, fi (1)), (1, fi (b)), (0, .ref 9)] rfl (by decide) hL rfl (fun L16 hL16 => ?_)
    refine f_iln 0 rfl hL16 rfl ?_
    refine f_bipush (n := -9) rfl (by decide) ?_
    refine f_ic rfl (hR 10 1) (by decide) (fun c1 => ?_) (fun c1 => ?_)
    · have c1 : (m 10 1 : Int) = (-9 : Int) := c1
      refine f_inc 1 [(2, fi (2)), (3, fi (m 10 1)), (1, fi (b)), (0, .ref 9)] rfl (by decide) hL16 rfl rfl (fun L17 hL17 => ?_)
      refine f_goto rfl ?_
      have e9 : hv1 m 10 1 b = b := if_neg (by omega)
      rw [e9]
      exact hK2 hc (b) _ hw hm rb (hL17.sel [0, 2, 3] rfl)
    · have c1 : ¬ ((m 10 1 : Int) = (-9 : Int)) := c1
      refine f_aln 3 rfl hL16 rfl ?_
      refine m_gfr so9 rfl hw rfl (by decide) ?_
      refine f_iln 0 rfl hL16 rfl ?_
      refine m_k1 (t41 hn (hR 10 1)) hw hm rfl rfl rfl (m_ar so3 hw rfl) rfl (fun hc4 hw4 hm4 => ?_)
      refine f_s [fi (1), fi (kd m (m 10 1))] rfl rfl ?_
      refine f_ic rfl (kd_r hR _) (by decide) (fun c2 => ?_) (fun c2 => ?_)
      · have c2 : ¬ (kd m (m 10 1) : Int) = (1 : Int) := c2
        refine f_inc 1 [(2, fi (2)), (3, fi (m 10 1)), (1, fi (b)), (0, .ref 9)] rfl (by decide) hL16 rfl rfl (fun L18 hL18 => ?_)
        refine f_goto rfl ?_
        have e9 : hv1 m 10 1 b = b := if_neg (by omega)
        rw [e9]
        exact hK2 hc4 (b) _ hw4 hm4 rb (hL18.sel [0, 2, 3] rfl)
      · have c2 : ¬ (¬ (kd m (m 10 1) : Int) = (1 : Int)) := c2
        refine f_iln 2 rfl hL16 rfl ?_
        refine f_s [fi (1), fi (b)] rfl rfl ?_
        refine f_iln 0 rfl hL16 rfl ?_
        refine b_ishl rfl ?_
        refine b_ior rfl ?_
        refine f_istn [(1, fi (iO (b) (iS (1) (m 10 1)))), (3, fi (m 10 1)), (2, fi (1)), (0, .ref 9)] rfl (by decide) hL16 rfl (fun L19 hL19 => ?_)
        refine f_inc 2 [(2, fi (2)), (1, fi (iO (b) (iS (1) (m 10 1)))), (3, fi (m 10 1)), (0, .ref 9)] rfl (by decide) hL19 rfl rfl (fun L20 hL20 => ?_)
        refine f_goto rfl ?_
        have e9 : hv1 m 10 1 b = iO (b) (iS (1) (m 10 1)) := if_pos (by omega)
        rw [e9]
        exact hK2 hc4 (iO (b) (iS (1) (m 10 1))) _ hw4 hm4 iO_r (hL20.sel [0, 1, 3] rfl)
  have hK0 : ∀ (hc : ev_H) (b : Int) (L : ev_L), y_in yGw hc → gi hc = m → (-2147483648 ≤ b ∧ b ≤ 2147483647) → f_L L [(2, fi (0)), (1, fi (b)), (0, .ref 9)] → x_W none (1, 0, 4, 0, 7, 2, 42, 0, 0, ev_t56) 4 L [] hc 0 0 (fun r' h' => r' = some (fi (hv1 m 10 4 (hv1 m 10 3 (hv1 m 10 2 (hv1 m 10 1 (hv1 m 10 0 (b))))))) ∧ y_in yGw h' ∧ gi h' = m) := fun hc b L hw hm rb hL => by
    refine f_iln 0 rfl hL rfl ?_
    refine f_s [fi (5), fi (0)] rfl rfl ?_
    refine f_ic rfl (by decide) (by decide) (fun c_9 => absurd (show (5 : Int) ≤ (0 : Int) from c_9) (by decide)) (fun _ => ?_)
    refine f_aln 2 rfl hL rfl ?_
    refine m_gfr so9 rfl hw rfl (by decide) ?_
    refine f_iln 0 rfl hL rfl ?_
    refine m_ia sa10 (m 10 0) rfl hw hm (by omega) (by omega) (by decide) rfl ?_
    refine f_istn [(3, fi (m 10 0)), (2, fi (0)), (1, fi (b)), (0, .ref 9)] rfl (by decide) hL rfl (fun L21 hL21 => ?_)
    refine f_iln 0 rfl hL21 rfl ?_
    refine f_bipush (n := -9) rfl (by decide) ?_
    refine f_ic rfl (hR 10 0) (by decide) (fun c1 => ?_) (fun c1 => ?_)
    · have c1 : (m 10 0 : Int) = (-9 : Int) := c1
      refine f_inc 1 [(2, fi (1)), (3, fi (m 10 0)), (1, fi (b)), (0, .ref 9)] rfl (by decide) hL21 rfl rfl (fun L22 hL22 => ?_)
      refine f_goto rfl ?_
      have e9 : hv1 m 10 0 b = b := if_neg (by omega)
      rw [e9]
      exact hK1 hc (b) _ hw hm rb (hL22.sel [0, 2, 3] rfl)
    · have c1 : ¬ ((m 10 0 : Int) = (-9 : Int)) := c1
      refine f_aln 3 rfl hL21 rfl ?_
      refine m_gfr so9 rfl hw rfl (by decide) ?_
      refine f_iln 0 rfl hL21 rfl ?_
      refine m_k1 (t41 hn (hR 10 0)) hw hm rfl rfl rfl (m_ar so3 hw rfl) rfl (fun hc5 hw5 hm5 => ?_)
      refine f_s [fi (1), fi (kd m (m 10 0))] rfl rfl ?_
      refine f_ic rfl (kd_r hR _) (by decide) (fun c2 => ?_) (fun c2 => ?_)
      · have c2 : ¬ (kd m (m 10 0) : Int) = (1 : Int) := c2
        refine f_inc 1 [(2, fi (1)), (3, fi (m 10 0)), (1, fi (b)), (0, .ref 9)] rfl (by decide) hL21 rfl rfl (fun L23 hL23 => ?_)
        refine f_goto rfl ?_
        have e9 : hv1 m 10 0 b = b := if_neg (by omega)
        rw [e9]
        exact hK1 hc5 (b) _ hw5 hm5 rb (hL23.sel [0, 2, 3] rfl)
      · have c2 : ¬ (¬ (kd m (m 10 0) : Int) = (1 : Int)) := c2
        refine f_iln 2 rfl hL21 rfl ?_
        refine f_s [fi (1), fi (b)] rfl rfl ?_
        refine f_iln 0 rfl hL21 rfl ?_
        refine b_ishl rfl ?_
        refine b_ior rfl ?_
        refine f_istn [(1, fi (iO (b) (iS (1) (m 10 0)))), (3, fi (m 10 0)), (2, fi (0)), (0, .ref 9)] rfl (by decide) hL21 rfl (fun L24 hL24 => ?_)
        refine f_inc 2 [(2, fi (1)), (1, fi (iO (b) (iS (1) (m 10 0)))), (3, fi (m 10 0)), (0, .ref 9)] rfl (by decide) hL24 rfl rfl (fun L25 hL25 => ?_)
        refine f_goto rfl ?_
        have e9 : hv1 m 10 0 b = iO (b) (iS (1) (m 10 0)) := if_pos (by omega)
        rw [e9]
        exact hK1 hc5 (iO (b) (iS (1) (m 10 0))) _ hw5 hm5 iO_r (hL25.sel [0, 1, 3] rfl)
  refine f_s [fi (0)] rfl rfl ?_
  refine f_istn [(1, fi (0)), (0, .ref 9)] rfl (by decide) hL rfl (fun L26 hL26 => ?_)
  refine f_s [fi (0)] rfl rfl ?_
  refine f_istn [(2, fi (0)), (1, fi (0)), (0, .ref 9)] rfl (by decide) hL26 rfl (fun L27 hL27 => ?_)
  exact hK0 hc 0 _ hw hm (by decide) (hL27.sel [0, 1, 2] rfl))
theorem t57_9 {m : Nat → Nat → Int} (hn : 0 ≤ m 3 5 ∧ m 3 5 ≤ 4) : h_M 57 [.ref 9] m (some (fi (sbS m 10))) m := h_M_of (R := ev_r57) rfl (fun hc hw hm => by
  have hL : f_L (lv_args 0 [.ref 9]) [(0, .ref 9)] := f_L_of rfl
  generalize lv_args 0 [.ref 9] = L at hL
  show x_W none (1, 0, 5, 0, 7, 3, 65, 0, 0, ev_t57) 0 L [] hc 0 0 _
  have hR := gi_R hm
  refine f_aln 0 rfl hL rfl ?_
  refine m_k1 (t56_9 hn) hw hm rfl rfl rfl (m_ar so9 hw rfl) rfl (fun hc1 hw1 hm1 => ?_)
  have hK5 : ∀ (hc : ev_H) (b : Int) (L : ev_L), y_in yGw hc → gi hc = m → (-2147483648 ≤ b ∧ b ≤ 2147483647) → f_L L [(3, fi (5)), (2, fi (b)), (0, .ref 9), (1, fi (hwS m 10))] → x_W none (1, 0, 5, 0, 7, 3, 65, 0, 0, ev_t57) 9 L [] hc 0 0 (fun r' h' => r' = some (fi (b)) ∧ y_in yGw h' ∧ gi h' = m) := fun hc b L hw hm rb hL => by
    refine f_iln 0 rfl hL rfl ?_
    refine f_s [fi (5), fi (5)] rfl rfl ?_
    refine f_ic rfl (by decide) (by decide) (fun _ => ?_) (fun c_9 => absurd (show (5 : Int) ≤ (5 : Int) from (by decide)) c_9)
    refine f_iln 1 rfl hL rfl ?_
    exact f_ret1 rfl ⟨rfl, hw, hm⟩
  have hK4 : ∀ (hc : ev_H) (b : Int) (L : ev_L), y_in yGw hc → gi hc = m → (-2147483648 ≤ b ∧ b ≤ 2147483647) → f_L L [(3, fi (4)), (2, fi (b)), (0, .ref 9), (1, fi (hwS m 10))] → x_W none (1, 0, 5, 0, 7, 3, 65, 0, 0, ev_t57) 9 L [] hc 0 0 (fun r' h' => r' = some (fi (sb1 m 10 (hwS m 10) 4 (iS 1 4) (b))) ∧ y_in yGw h' ∧ gi h' = m) := fun hc b L hw hm rb hL => by
    refine f_iln 0 rfl hL rfl ?_
    refine f_s [fi (5), fi (4)] rfl rfl ?_
    refine f_ic rfl (by decide) (by decide) (fun c_9 => absurd (show (5 : Int) ≤ (4 : Int) from c_9) (by decide)) (fun _ => ?_)
    refine f_aln 2 rfl hL rfl ?_
    refine m_gfr so9 rfl hw rfl (by decide) ?_
    refine f_iln 0 rfl hL rfl ?_
    refine m_ia sa10 (m 10 4) rfl hw hm (by omega) (by omega) (by decide) rfl ?_
    refine f_ist [(4, fi (m 10 4)), (3, fi (4)), (2, fi (b)), (0, .ref 9), (1, fi (hwS m 10))] rfl (by decide) hL rfl (fun L1 hL1 => ?_)
    refine f_il 0 rfl hL1 rfl ?_
    refine f_bipush (n := -9) rfl (by decide) ?_
    refine f_ic rfl (hR 10 4) (by decide) (fun c1 => ?_) (fun c1 => ?_)
    · have c1 : (m 10 4 : Int) = (-9 : Int) := c1
      refine f_inc 1 [(3, fi (5)), (4, fi (m 10 4)), (2, fi (b)), (0, .ref 9), (1, fi (hwS m 10))] rfl (by decide) hL1 rfl rfl (fun L2 hL2 => ?_)
      refine f_goto rfl ?_
      have e9 : sb1 m 10 (hwS m 10) 4 (iS 1 4) b = b := if_neg (by omega)
      rw [e9]
      exact hK5 hc (b) _ hw hm rb (hL2.sel [0, 2, 3, 4] rfl)
    · have c1 : ¬ ((m 10 4 : Int) = (-9 : Int)) := c1
      refine f_aln 3 rfl hL1 rfl ?_
      refine m_gfr so9 rfl hw rfl (by decide) ?_
      refine f_il 0 rfl hL1 rfl ?_
      refine m_k1 (t41 hn (hR 10 4)) hw hm rfl rfl rfl (m_ar so3 hw rfl) rfl (fun hc2 hw2 hm2 => ?_)
      refine f_s [fi (1), fi (kd m (m 10 4))] rfl rfl ?_
      refine f_ic rfl (kd_r hR _) (by decide) (fun c2 => ?_) (fun c2 => ?_)
      · have c2 : ¬ (kd m (m 10 4) : Int) = (1 : Int) := c2
        refine f_iln 2 rfl hL1 rfl ?_
        refine f_s [fi (1), fi (b)] rfl rfl ?_
        refine f_iln 1 rfl hL1 rfl ?_
        refine b_ishl rfl ?_
        refine b_ior rfl ?_
        refine f_istn [(2, fi (iO (b) (iS (1) (4)))), (4, fi (m 10 4)), (3, fi (4)), (0, .ref 9), (1, fi (hwS m 10))] rfl (by decide) hL1 rfl (fun L3 hL3 => ?_)
        refine f_inc 2 [(3, fi (5)), (2, fi (iO (b) (iS (1) (4)))), (4, fi (m 10 4)), (0, .ref 9), (1, fi (hwS m 10))] rfl (by decide) hL3 rfl rfl (fun L4 hL4 => ?_)
        refine f_goto rfl ?_
        have e9 : sb1 m 10 (hwS m 10) 4 (iS 1 4) b = iO (b) (iS (1) (4)) := if_pos (by omega)
        rw [e9]
        exact hK5 hc2 (iO (b) (iS (1) (4))) _ hw2 hm2 iO_r (hL4.sel [0, 1, 3, 4] rfl)
      · have c2 : ¬ (¬ (kd m (m 10 4) : Int) = (1 : Int)) := c2
        refine f_iln 4 rfl hL1 rfl ?_
        refine f_s [fi (1), fi (hwS m 10)] rfl rfl ?_
        refine f_il 0 rfl hL1 rfl ?_
        refine b_ishl rfl ?_
        refine f_s [fi (-1), fi (iS (1) (m 10 4)), fi (hwS m 10)] rfl rfl ?_
        refine b_ixor rfl ?_
        refine b_iand rfl ?_
        refine f_if rfl iA_r (fun c3 => ?_) (fun c3 => ?_)
        · have c3 : (iA (hwS m 10) (iX (iS (1) (m 10 4)) (-1)) : Int) = (0 : Int) := c3
          refine f_inc 1 [(3, fi (5)), (4, fi (m 10 4)), (2, fi (b)), (0, .ref 9), (1, fi (hwS m 10))] rfl (by decide) hL1 rfl rfl (fun L5 hL5 => ?_)
          refine f_goto rfl ?_
          have e9 : sb1 m 10 (hwS m 10) 4 (iS 1 4) b = b := if_neg (by omega)
          rw [e9]
          exact hK5 hc2 (b) _ hw2 hm2 rb (hL5.sel [0, 2, 3, 4] rfl)
        · have c3 : ¬ ((iA (hwS m 10) (iX (iS (1) (m 10 4)) (-1)) : Int) = (0 : Int)) := c3
          refine f_iln 2 rfl hL1 rfl ?_
          refine f_s [fi (1), fi (b)] rfl rfl ?_
          refine f_iln 1 rfl hL1 rfl ?_
          refine b_ishl rfl ?_
          refine b_ior rfl ?_
          refine f_istn [(2, fi (iO (b) (iS (1) (4)))), (4, fi (m 10 4)), (3, fi (4)), (0, .ref 9), (1, fi (hwS m 10))] rfl (by decide) hL1 rfl (fun L6 hL6 => ?_)
          refine f_inc 2 [(3, fi (5)), (2, fi (iO (b) (iS (1) (4)))), (4, fi (m 10 4)), (0, .ref 9), (1, fi (hwS m 10))] rfl (by decide) hL6 rfl rfl (fun L7 hL7 => ?_)
          refine f_goto rfl ?_
          have e9 : sb1 m 10 (hwS m 10) 4 (iS 1 4) b = iO (b) (iS (1) (4)) := if_pos (by omega)
          rw [e9]
          exact hK5 hc2 (iO (b) (iS (1) (4))) _ hw2 hm2 iO_r (hL7.sel [0, 1, 3, 4] rfl)
  have hK3 : ∀ (hc : ev_H) (b : Int) (L : ev_L), y_in yGw hc → gi hc = m → (-2147483648 ≤ b ∧ b ≤ 2147483647) → f_L L [(3, fi (3)), (2, fi (b)), (0, .ref 9), (1, fi (hwS m 10))] → x_W none (1, 0, 5, 0, 7, 3, 65, 0, 0, ev_t57) 9 L [] hc 0 0 (fun r' h' => r' = some (fi (sb1 m 10 (hwS m 10) 4 (iS 1 4) (sb1 m 10 (hwS m 10) 3 (iS 1 3) (b)))) ∧ y_in yGw h' ∧ gi h' = m) := fun hc b L hw hm rb hL => by
    refine f_iln 0 rfl hL rfl ?_
    refine f_s [fi (5), fi (3)] rfl rfl ?_
    refine f_ic rfl (by decide) (by decide) (fun c_9 => absurd (show (5 : Int) ≤ (3 : Int) from c_9) (by decide)) (fun _ => ?_)
    refine f_aln 2 rfl hL rfl ?_
    refine m_gfr so9 rfl hw rfl (by decide) ?_
    refine f_iln 0 rfl hL rfl ?_
    refine m_ia sa10 (m 10 3) rfl hw hm (by omega) (by omega) (by decide) rfl ?_
    refine f_ist [(4, fi (m 10 3)), (3, fi (3)), (2, fi (b)), (0, .ref 9), (1, fi (hwS m 10))] rfl (by decide) hL rfl (fun L8 hL8 => ?_)
    refine f_il 0 rfl hL8 rfl ?_
    refine f_bipush (n := -9) rfl (by decide) ?_
    refine f_ic rfl (hR 10 3) (by decide) (fun c1 => ?_) (fun c1 => ?_)
    · have c1 : (m 10 3 : Int) = (-9 : Int) := c1
      refine f_inc 1 [(3, fi (4)), (4, fi (m 10 3)), (2, fi (b)), (0, .ref 9), (1, fi (hwS m 10))] rfl (by decide) hL8 rfl rfl (fun L9 hL9 => ?_)
      refine f_goto rfl ?_
      have e9 : sb1 m 10 (hwS m 10) 3 (iS 1 3) b = b := if_neg (by omega)
      rw [e9]
      exact hK4 hc (b) _ hw hm rb (hL9.sel [0, 2, 3, 4] rfl)
    · have c1 : ¬ ((m 10 3 : Int) = (-9 : Int)) := c1
      refine f_aln 3 rfl hL8 rfl ?_
      refine m_gfr so9 rfl hw rfl (by decide) ?_
      refine f_il 0 rfl hL8 rfl ?_
      refine m_k1 (t41 hn (hR 10 3)) hw hm rfl rfl rfl (m_ar so3 hw rfl) rfl (fun hc3 hw3 hm3 => ?_)
      refine f_s [fi (1), fi (kd m (m 10 3))] rfl rfl ?_
      refine f_ic rfl (kd_r hR _) (by decide) (fun c2 => ?_) (fun c2 => ?_)
      · have c2 : ¬ (kd m (m 10 3) : Int) = (1 : Int) := c2
        refine f_iln 2 rfl hL8 rfl ?_
        refine f_s [fi (1), fi (b)] rfl rfl ?_
        refine f_iln 1 rfl hL8 rfl ?_
        refine b_ishl rfl ?_
        refine b_ior rfl ?_
        refine f_istn [(2, fi (iO (b) (iS (1) (3)))), (4, fi (m 10 3)), (3, fi (3)), (0, .ref 9), (1, fi (hwS m 10))] rfl (by decide) hL8 rfl (fun L10 hL10 => ?_)
        refine f_inc 2 [(3, fi (4)), (2, fi (iO (b) (iS (1) (3)))), (4, fi (m 10 3)), (0, .ref 9), (1, fi (hwS m 10))] rfl (by decide) hL10 rfl rfl (fun L11 hL11 => ?_)
        refine f_goto rfl ?_
        have e9 : sb1 m 10 (hwS m 10) 3 (iS 1 3) b = iO (b) (iS (1) (3)) := if_pos (by omega)
        rw [e9]
        exact hK4 hc3 (iO (b) (iS (1) (3))) _ hw3 hm3 iO_r (hL11.sel [0, 1, 3, 4] rfl)
      · have c2 : ¬ (¬ (kd m (m 10 3) : Int) = (1 : Int)) := c2
        refine f_iln 4 rfl hL8 rfl ?_
        refine f_s [fi (1), fi (hwS m 10)] rfl rfl ?_
        refine f_il 0 rfl hL8 rfl ?_
        refine b_ishl rfl ?_
        refine f_s [fi (-1), fi (iS (1) (m 10 3)), fi (hwS m 10)] rfl rfl ?_
        refine b_ixor rfl ?_
        refine b_iand rfl ?_
        refine f_if rfl iA_r (fun c3 => ?_) (fun c3 => ?_)
        · have c3 : (iA (hwS m 10) (iX (iS (1) (m 10 3)) (-1)) : Int) = (0 : Int) := c3
          refine f_inc 1 [(3, fi (4)), (4, fi (m 10 3)), (2, fi (b)), (0, .ref 9), (1, fi (hwS m 10))] rfl (by decide) hL8 rfl rfl (fun L12 hL12 => ?_)
          refine f_goto rfl ?_
          have e9 : sb1 m 10 (hwS m 10) 3 (iS 1 3) b = b := if_neg (by omega)
          rw [e9]
          exact hK4 hc3 (b) _ hw3 hm3 rb (hL12.sel [0, 2, 3, 4] rfl)
        · have c3 : ¬ ((iA (hwS m 10) (iX (iS (1) (m 10 3)) (-1)) : Int) = (0 : Int)) := c3
          refine f_iln 2 rfl hL8 rfl ?_
          refine f_s [fi (1), fi (b)] rfl rfl ?_
          refine f_iln 1 rfl hL8 rfl ?_
          refine b_ishl rfl ?_
          refine b_ior rfl ?_
          refine f_istn [(2, fi (iO (b) (iS (1) (3)))), (4, fi (m 10 3)), (3, fi (3)), (0, .ref 9), (1, fi (hwS m 10))] rfl (by decide) hL8 rfl (fun L13 hL13 => ?_)
          refine f_inc 2 [(3, fi (4)), (2, fi (iO (b) (iS (1) (3)))), (4, fi (m 10 3)), (0, .ref 9), (1, fi (hwS m 10))] rfl (by decide) hL13 rfl rfl (fun L14 hL14 => ?_)
          refine f_goto rfl ?_
          have e9 : sb1 m 10 (hwS m 10) 3 (iS 1 3) b = iO (b) (iS (1) (3)) := if_pos (by omega)
          rw [e9]
          exact hK4 hc3 (iO (b) (iS (1) (3))) _ hw3 hm3 iO_r (hL14.sel [0, 1, 3, 4] rfl)
  have hK2 : ∀ (hc : ev_H) (b : Int) (L : ev_L), y_in yGw hc → gi hc = m → (-2147483648 ≤ b ∧ b ≤ 2147483647) → f_L L [(3, fi (2)), (2, fi (b)), (0, .ref 9), (1, fi (hwS m 10))] → x_W none (1, 0, 5, 0, 7, 3, 65, 0, 0, ev_t57) 9 L [] hc 0 0 (fun r' h' => r' = some (fi (sb1 m 10 (hwS m 10) 4 (iS 1 4) (sb1 m 10 (hwS m 10) 3 (iS 1 3) (sb1 m 10 (hwS m 10) 2 (iS 1 2) (b))))) ∧ y_in yGw h' ∧ gi h' = m) := fun hc b L hw hm rb hL => by
    refine f_iln 0 rfl hL rfl ?_
    refine f_s [fi (5), fi (2)] rfl rfl ?_
    refine f_ic rfl (by decide) (by decide) (fun c_9 => absurd (show (5 : Int) ≤ (2 : Int) from c_9) (by decide)) (fun _ => ?_)
    refine f_aln 2 rfl hL rfl ?_
    refine m_gfr so9 rfl hw rfl (by decide) ?_
    refine f_iln 0 rfl hL rfl ?_
    refine m_ia sa10 (m 10 2) rfl hw hm (by omega) (by omega) (by decide) rfl ?_
    refine f_ist [(4, fi (m 10 2)), (3, fi (2)), (2, fi (b)), (0, .ref 9), (1, fi (hwS m 10))] rfl (by decide) hL rfl (fun L15 hL15 => ?_)
    refine f_il 0 rfl hL15 rfl ?_
    refine f_bipush (n := -9) rfl (by decide) ?_
    refine f_ic rfl (hR 10 2) (by decide) (fun c1 => ?_) (fun c1 => ?_)
    · have c1 : (m 10 2 : Int) = (-9 : Int) := c1
      refine f_inc 1 [(3, fi (3)), (4, fi (m 10 2)), (2, fi (b)), (0, .ref 9), (1, fi (hwS m 10))] rfl (by decide) hL15 rfl rfl (fun L16 hL16 => ?_)
      refine f_goto rfl ?_
      have e9 : sb1 m 10 (hwS m 10) 2 (iS 1 2) b = b := if_neg (by omega)
      rw [e9]
      exact hK3 hc (b) _ hw hm rb (hL16.sel [0, 2, 3, 4] rfl)
    · have c1 : ¬ ((m 10 2 : Int) = (-9 : Int)) := c1
      refine f_aln 3 rfl hL15 rfl ?_
      refine m_gfr so9 rfl hw rfl (by decide) ?_
      refine f_il 0 rfl hL15 rfl ?_
      refine m_k1 (t41 hn (hR 10 2)) hw hm rfl rfl rfl (m_ar so3 hw rfl) rfl (fun hc4 hw4 hm4 => ?_)
      refine f_s [fi (1), fi (kd m (m 10 2))] rfl rfl ?_
      refine f_ic rfl (kd_r hR _) (by decide) (fun c2 => ?_) (fun c2 => ?_)
      · have c2 : ¬ (kd m (m 10 2) : Int) = (1 : Int) := c2
        refine f_iln 2 rfl hL15 rfl ?_
        refine f_s [fi (1), fi (b)] rfl rfl ?_
        refine f_iln 1 rfl hL15 rfl ?_
        refine b_ishl rfl ?_
        refine b_ior rfl ?_
        refine f_istn [(2, fi (iO (b) (iS (1) (2)))), (4, fi (m 10 2)), (3, fi (2)), (0, .ref 9), (1, fi (hwS m 10))] rfl (by decide) hL15 rfl (fun L17 hL17 => ?_)
        refine f_inc 2 [(3, fi (3)), (2, fi (iO (b) (iS (1) (2)))), (4, fi (m 10 2)), (0, .ref 9), (1, fi (hwS m 10))] rfl (by decide) hL17 rfl rfl (fun L18 hL18 => ?_)
        refine f_goto rfl ?_
        have e9 : sb1 m 10 (hwS m 10) 2 (iS 1 2) b = iO (b) (iS (1) (2)) := if_pos (by omega)
        rw [e9]
        exact hK3 hc4 (iO (b) (iS (1) (2))) _ hw4 hm4 iO_r (hL18.sel [0, 1, 3, 4] rfl)
      · have c2 : ¬ (¬ (kd m (m 10 2) : Int) = (1 : Int)) := c2
        refine f_iln 4 rfl hL15 rfl ?_
        refine f_s [fi (1), fi (hwS m 10)] rfl rfl ?_
        refine f_il 0 rfl hL15 rfl ?_
        refine b_ishl rfl ?_
        refine f_s [fi (-1), fi (iS (1) (m 10 2)), fi (hwS m 10)] rfl rfl ?_
        refine b_ixor rfl ?_
        refine b_iand rfl ?_
        refine f_if rfl iA_r (fun c3 => ?_) (fun c3 => ?_)
        · have c3 : (iA (hwS m 10) (iX (iS (1) (m 10 2)) (-1)) : Int) = (0 : Int) := c3
          refine f_inc 1 [(3, fi (3)), (4, fi (m 10 2)), (2, fi (b)), (0, .ref 9), (1, fi (hwS m 10))] rfl (by decide) hL15 rfl rfl (fun L19 hL19 => ?_)
          refine f_goto rfl ?_
          have e9 : sb1 m 10 (hwS m 10) 2 (iS 1 2) b = b := if_neg (by omega)
          rw [e9]
          exact hK3 hc4 (b) _ hw4 hm4 rb (hL19.sel [0, 2, 3, 4] rfl)
        · have c3 : ¬ ((iA (hwS m 10) (iX (iS (1) (m 10 2)) (-1)) : Int) = (0 : Int)) := c3
          refine f_iln 2 rfl hL15 rfl ?_
          refine f_s [fi (1), fi (b)] rfl rfl ?_
          refine f_iln 1 rfl hL15 rfl ?_
          refine b_ishl rfl ?_
          refine b_ior rfl ?_
          refine f_istn [(2, fi (iO (b) (iS (1) (2)))), (4, fi (m 10 2)), (3, fi (2)), (0, .ref 9), (1, fi (hwS m 10))] rfl (by decide) hL15 rfl (fun L20 hL20 => ?_)
          refine f_inc 2 [(3, fi (3)), (2, fi (iO (b) (iS (1) (2)))), (4, fi (m 10 2)), (0, .ref 9), (1, fi (hwS m 10))] rfl (by decide) hL20 rfl rfl (fun L21 hL21 => ?_)
          refine f_goto rfl ?_
          have e9 : sb1 m 10 (hwS m 10) 2 (iS 1 2) b = iO (b) (iS (1) (2)) := if_pos (by omega)
          rw [e9]
          exact hK3 hc4 (iO (b) (iS (1) (2))) _ hw4 hm4 iO_r (hL21.sel [0, 1, 3, 4] rfl)
  have hK1 : ∀ (hc : ev_H) (b : Int) (L : ev_L), y_in yGw hc → gi hc = m → (-2147483648 ≤ b ∧ b ≤ 2147483647) → f_L L [(3, fi (1)), (2, fi (b)), (0, .ref 9), (1, fi (hwS m 10))] → x_W none (1, 0, 5, 0, 7, 3, 65, 0, 0, ev_t57) 9 L [] hc 0 0 (fun r' h' => r' = some (fi (sb1 m 10 (hwS m 10) 4 (iS 1 4) (sb1 m 10 (hwS m 10) 3 (iS 1 3) (sb1 m 10 (hwS m 10) 2 (iS 1 2) (sb1 m 10 (hwS m 10) 1 (iS 1 1) (b)))))) ∧ y_in yGw h' ∧ gi h' = m) := fun hc b L hw hm rb hL => by
    refine f_iln 0 rfl hL rfl ?_
    refine f_s [fi (5), fi (1)] rfl rfl ?_
    refine f_ic rfl (by decide) (by decide) (fun c_9 => absurd (show (5 : Int) ≤ (1 : Int) from c_9) (by decide)) (fun _ => ?_)
    refine f_aln 2 rfl hL rfl ?_
    refine m_gfr so9 rfl hw rfl (by decide) ?_
    refine f_iln 0 rfl hL rfl ?_
    refine m_ia sa10 (m 10 1) rfl hw hm (by omega) (by omega) (by decide) rfl ?_
    refine f_ist [(4, fi (m 10 1)), (3, fi (1)), (2, fi (b)), (0, .ref 9), (1, fi (hwS m 10))] rfl (by decide) hL rfl (fun L22 hL22 => ?_)
    refine f_il 0 rfl hL22 rfl ?_
    refine f_bipush (n := -9) rfl (by decide) ?_
    refine f_ic rfl (hR 10 1) (by decide) (fun c1 => ?_) (fun c1 => ?_)
    · have c1 : (m 10 1 : Int) = (-9 : Int) := c1
      refine f_inc 1 [(3, fi (2)), (4, fi (m 10 1)), (2, fi (b)), (0, .ref 9), (1, fi (hwS m 10))] rfl (by decide) hL22 rfl rfl (fun L23 hL23 => ?_)
      refine f_goto rfl ?_
      have e9 : sb1 m 10 (hwS m 10) 1 (iS 1 1) b = b := if_neg (by omega)
      rw [e9]
      exact hK2 hc (b) _ hw hm rb (hL23.sel [0, 2, 3, 4] rfl)
    · have c1 : ¬ ((m 10 1 : Int) = (-9 : Int)) := c1
      refine f_aln 3 rfl hL22 rfl ?_
      refine m_gfr so9 rfl hw rfl (by decide) ?_
      refine f_il 0 rfl hL22 rfl ?_
      refine m_k1 (t41 hn (hR 10 1)) hw hm rfl rfl rfl (m_ar so3 hw rfl) rfl (fun hc5 hw5 hm5 => ?_)
      refine f_s [fi (1), fi (kd m (m 10 1))] rfl rfl ?_
      refine f_ic rfl (kd_r hR _) (by decide) (fun c2 => ?_) (fun c2 => ?_)
      · have c2 : ¬ (kd m (m 10 1) : Int) = (1 : Int) := c2
        refine f_iln 2 rfl hL22 rfl ?_
        refine f_s [fi (1), fi (b)] rfl rfl ?_
        refine f_iln 1 rfl hL22 rfl ?_
        refine b_ishl rfl ?_
        refine b_ior rfl ?_
        refine f_istn [(2, fi (iO (b) (iS (1) (1)))), (4, fi (m 10 1)), (3, fi (1)), (0, .ref 9), (1, fi (hwS m 10))] rfl (by decide) hL22 rfl (fun L24 hL24 => ?_)
        refine f_inc 2 [(3, fi (2)), (2, fi (iO (b) (iS (1) (1)))), (4, fi (m 10 1)), (0, .ref 9), (1, fi (hwS m 10))] rfl (by decide) hL24 rfl rfl (fun L25 hL25 => ?_)
        refine f_goto rfl ?_
        have e9 : sb1 m 10 (hwS m 10) 1 (iS 1 1) b = iO (b) (iS (1) (1)) := if_pos (by omega)
        rw [e9]
        exact hK2 hc5 (iO (b) (iS (1) (1))) _ hw5 hm5 iO_r (hL25.sel [0, 1, 3, 4] rfl)
      · have c2 : ¬ (¬ (kd m (m 10 1) : Int) = (1 : Int)) := c2
        refine f_iln 4 rfl hL22 rfl ?_
        refine f_s [fi (1), fi (hwS m 10)] rfl rfl ?_
        refine f_il 0 rfl hL22 rfl ?_
        refine b_ishl rfl ?_
        refine f_s [fi (-1), fi (iS (1) (m 10 1)), fi (hwS m 10)] rfl rfl ?_
        refine b_ixor rfl ?_
        refine b_iand rfl ?_
        refine f_if rfl iA_r (fun c3 => ?_) (fun c3 => ?_)
        · have c3 : (iA (hwS m 10) (iX (iS (1) (m 10 1)) (-1)) : Int) = (0 : Int) := c3
          refine f_inc 1 [(3, fi (2)), (4, fi (m 10 1)), (2, fi (b)), (0, .ref 9), (1, fi (hwS m 10))] rfl (by decide) hL22 rfl rfl (fun L26 hL26 => ?_)
          refine f_goto rfl ?_
          have e9 : sb1 m 10 (hwS m 10) 1 (iS 1 1) b = b := if_neg (by omega)
          rw [e9]
          exact hK2 hc5 (b) _ hw5 hm5 rb (hL26.sel [0, 2, 3, 4] rfl)
        · have c3 : ¬ ((iA (hwS m 10) (iX (iS (1) (m 10 1)) (-1)) : Int) = (0 : Int)) := c3
          refine f_iln 2 rfl hL22 rfl ?_
          refine f_s [fi (1), fi (b)] rfl rfl ?_
          refine f_iln 1 rfl hL22 rfl ?_
          refine b_ishl rfl ?_
          refine b_ior rfl ?_
          refine f_istn [(2, fi (iO (b) (iS (1) (1)))), (4, fi (m 10 1)), (3, fi (1)), (0, .ref 9), (1, fi (hwS m 10))] rfl (by decide) hL22 rfl (fun L27 hL27 => ?_)
          refine f_inc 2 [(3, fi (2)), (2, fi (iO (b) (iS (1) (1)))), (4, fi (m 10 1)), (0, .ref 9), (1, fi (hwS m 10))] rfl (by decide) hL27 rfl rfl (fun L28 hL28 => ?_)
          refine f_goto rfl ?_
          have e9 : sb1 m 10 (hwS m 10) 1 (iS 1 1) b = iO (b) (iS (1) (1)) := if_pos (by omega)
          rw [e9]
          exact hK2 hc5 (iO (b) (iS (1) (1))) _ hw5 hm5 iO_r (hL28.sel [0, 1, 3, 4] rfl)
  have hK0 : ∀ (hc : ev_H) (b : Int) (L : ev_L), y_in yGw hc → gi hc = m → (-2147483648 ≤ b ∧ b ≤ 2147483647) → f_L L [(3, fi (0)), (2, fi (b)), (0, .ref 9), (1, fi (hwS m 10))] → x_W none (1, 0, 5, 0, 7, 3, 65, 0, 0, ev_t57) 9 L [] hc 0 0 (fun r' h' => r' = some (fi (sb1 m 10 (hwS m 10) 4 (iS 1 4) (sb1 m 10 (hwS m 10) 3 (iS 1 3) (sb1 m 10 (hwS m 10) 2 (iS 1 2) (sb1 m 10 (hwS m 10) 1 (iS 1 1) (sb1 m 10 (hwS m 10) 0 (iS 1 0) (b))))))) ∧ y_in yGw h' ∧ gi h' = m) := fun hc b L hw hm rb hL => by
    refine f_iln 0 rfl hL rfl ?_
    refine f_s [fi (5), fi (0)] rfl rfl ?_
    refine f_ic rfl (by decide) (by decide) (fun c_9 => absurd (show (5 : Int) ≤ (0 : Int) from c_9) (by decide)) (fun _ => ?_)
    refine f_aln 2 rfl hL rfl ?_
    refine m_gfr so9 rfl hw rfl (by decide) ?_
    refine f_iln 0 rfl hL rfl ?_
    refine m_ia sa10 (m 10 0) rfl hw hm (by omega) (by omega) (by decide) rfl ?_
    refine f_ist [(4, fi (m 10 0)), (3, fi (0)), (2, fi (b)), (0, .ref 9), (1, fi (hwS m 10))] rfl (by decide) hL rfl (fun L29 hL29 => ?_)
    refine f_il 0 rfl hL29 rfl ?_
    refine f_bipush (n := -9) rfl (by decide) ?_
    refine f_ic rfl (hR 10 0) (by decide) (fun c1 => ?_) (fun c1 => ?_)
    · have c1 : (m 10 0 : Int) = (-9 : Int) := c1
      refine f_inc 1 [(3, fi (1)), (4, fi (m 10 0)), (2, fi (b)), (0, .ref 9), (1, fi (hwS m 10))] rfl (by decide) hL29 rfl rfl (fun L30 hL30 => ?_)
      refine f_goto rfl ?_
      have e9 : sb1 m 10 (hwS m 10) 0 (iS 1 0) b = b := if_neg (by omega)
      rw [e9]
      exact hK1 hc (b) _ hw hm rb (hL30.sel [0, 2, 3, 4] rfl)
    · have c1 : ¬ ((m 10 0 : Int) = (-9 : Int)) := c1
      refine f_aln 3 rfl hL29 rfl ?_
      refine m_gfr so9 rfl hw rfl (by decide) ?_
      refine f_il 0 rfl hL29 rfl ?_
      refine m_k1 (t41 hn (hR 10 0)) hw hm rfl rfl rfl (m_ar so3 hw rfl) rfl (fun hc6 hw6 hm6 => ?_)
      refine f_s [fi (1), fi (kd m (m 10 0))] rfl rfl ?_
      refine f_ic rfl (kd_r hR _) (by decide) (fun c2 => ?_) (fun c2 => ?_)
      · have c2 : ¬ (kd m (m 10 0) : Int) = (1 : Int) := c2
        refine f_iln 2 rfl hL29 rfl ?_
        refine f_s [fi (1), fi (b)] rfl rfl ?_
        refine f_iln 1 rfl hL29 rfl ?_
        refine b_ishl rfl ?_
        refine b_ior rfl ?_
        refine f_istn [(2, fi (iO (b) (iS (1) (0)))), (4, fi (m 10 0)), (3, fi (0)), (0, .ref 9), (1, fi (hwS m 10))] rfl (by decide) hL29 rfl (fun L31 hL31 => ?_)
        refine f_inc 2 [(3, fi (1)), (2, fi (iO (b) (iS (1) (0)))), (4, fi (m 10 0)), (0, .ref 9), (1, fi (hwS m 10))] rfl (by decide) hL31 rfl rfl (fun L32 hL32 => ?_)
        refine f_goto rfl ?_
        have e9 : sb1 m 10 (hwS m 10) 0 (iS 1 0) b = iO (b) (iS (1) (0)) := if_pos (by omega)
        rw [e9]
        exact hK1 hc6 (iO (b) (iS (1) (0))) _ hw6 hm6 iO_r (hL32.sel [0, 1, 3, 4] rfl)
      · have c2 : ¬ (¬ (kd m (m 10 0) : Int) = (1 : Int)) := c2
        refine f_iln 4 rfl hL29 rfl ?_
        refine f_s [fi (1), fi (hwS m 10)] rfl rfl ?_
        refine f_il 0 rfl hL29 rfl ?_
        refine b_ishl rfl ?_
        refine f_s [fi (-1), fi (iS (1) (m 10 0)), fi (hwS m 10)] rfl rfl ?_
        refine b_ixor rfl ?_
        refine b_iand rfl ?_
        refine f_if rfl iA_r (fun c3 => ?_) (fun c3 => ?_)
        · have c3 : (iA (hwS m 10) (iX (iS (1) (m 10 0)) (-1)) : Int) = (0 : Int) := c3
          refine f_inc 1 [(3, fi (1)), (4, fi (m 10 0)), (2, fi (b)), (0, .ref 9), (1, fi (hwS m 10))] rfl (by decide) hL29 rfl rfl (fun L33 hL33 => ?_)
          refine f_goto rfl ?_
          have e9 : sb1 m 10 (hwS m 10) 0 (iS 1 0) b = b := if_neg (by omega)
          rw [e9]
          exact hK1 hc6 (b) _ hw6 hm6 rb (hL33.sel [0, 2, 3, 4] rfl)
        · have c3 : ¬ ((iA (hwS m 10) (iX (iS (1) (m 10 0)) (-1)) : Int) = (0 : Int)) := c3
          refine f_iln 2 rfl hL29 rfl ?_
          refine f_s [fi (1), fi (b)] rfl rfl ?_
          refine f_iln 1 rfl hL29 rfl ?_
          refine b_ishl rfl ?_
          refine b_ior rfl ?_
          refine f_istn [(2, fi (iO (b) (iS (1) (0)))), (4, fi (m 10 0)), (3, fi (0)), (0, .ref 9), (1, fi (hwS m 10))] rfl (by decide) hL29 rfl (fun L34 hL34 => ?_)
          refine f_inc 2 [(3, fi (1)), (2, fi (iO (b) (iS (1) (0)))), (4, fi (m 10 0)), (0, .ref 9), (1, fi (hwS m 10))] rfl (by decide) hL34 rfl rfl (fun L35 hL35 => ?_)
          refine f_goto rfl ?_
          have e9 : sb1 m 10 (hwS m 10) 0 (iS 1 0) b = iO (b) (iS (1) (0)) := if_pos (by omega)
          rw [e9]
          exact hK1 hc6 (iO (b) (iS (1) (0))) _ hw6 hm6 iO_r (hL35.sel [0, 1, 3, 4] rfl)
  refine f_istn [(1, fi (hwS m 10)), (0, .ref 9)] rfl (by decide) hL rfl (fun L36 hL36 => ?_)
  refine f_s [fi (0)] rfl rfl ?_
  refine f_istn [(2, fi (0)), (1, fi (hwS m 10)), (0, .ref 9)] rfl (by decide) hL36 rfl (fun L37 hL37 => ?_)
  refine f_s [fi (0)] rfl rfl ?_
  refine f_istn [(3, fi (0)), (2, fi (0)), (1, fi (hwS m 10)), (0, .ref 9)] rfl (by decide) hL37 rfl (fun L38 hL38 => ?_)
  exact hK0 hc1 0 _ hw1 hm1 (by decide) (hL38.sel [0, 1, 3, 2] rfl))
theorem t58_9 {m : Nat → Nat → Int} (hn : 0 ≤ m 3 5 ∧ m 3 5 ≤ 4) (hp : 0 ≤ m 3 6 ∧ m 3 6 ≤ 5) {x : Int} (rx : -2147483648 ≤ x ∧ x ≤ 2147483647) : h_M 58 [.ref 9, fi (x)] m (some (fi (bI (decide ((0 ≤ x ∧ x < m 3 6) ∧ iA (iR (sbS m 10) (x)) (1) = 1))))) m := h_M_of (R := ev_r58) rfl (fun hc hw hm => by
  have hL : f_L (lv_args 0 [.ref 9, fi (x)]) [(0, .ref 9), (1, fi (x))] := f_L_of rfl
  generalize lv_args 0 [.ref 9, fi (x)] = L at hL
  show x_W none (2, 0, 2, 1, 7, 4, 89, 0, 0, ev_t58) 0 L [] hc 0 0 _
  have hR := gi_R hm
  refine f_aln 0 rfl hL rfl ?_
  refine m_gfr so9 rfl hw rfl (by decide) ?_
  refine f_iln 1 rfl hL rfl ?_
  refine m_k1 (t49 hp.2 rx) hw hm rfl rfl rfl (m_ar so3 hw rfl) rfl (fun hc1 hw1 hm1 => ?_)
  refine f_if rfl (bI_r _) (fun c1 => ?_) (fun c1 => ?_)
  · have c1 : (bI (decide (0 ≤ x ∧ x < m 3 6)) : Int) = (0 : Int) := c1
    have c1 : ¬ (0 ≤ x ∧ x < m 3 6) := bI_f c1
    refine f_s [fi (0)] rfl rfl ?_
    exact f_ret2 rfl (Or.inl rfl) ⟨by rw [decide_eq_false (by omega)]; rfl, hw1, hm1⟩
  · have c1 : ¬ ((bI (decide (0 ≤ x ∧ x < m 3 6)) : Int) = (0 : Int)) := c1
    have c1 : 0 ≤ x ∧ x < m 3 6 := bI_t c1
    refine f_aln 0 rfl hL rfl ?_
    refine m_k1 (t57_9 hn) hw1 hm1 rfl rfl rfl (m_ar so9 hw1 rfl) rfl (fun hc2 hw2 hm2 => ?_)
    refine f_iln 1 rfl hL rfl ?_
    refine b_ishr rfl ?_
    refine f_s [fi (1), fi (iR (sbS m 10) (x))] rfl rfl ?_
    refine b_iand rfl ?_
    refine f_s [fi (1), fi (iA (iR (sbS m 10) (x)) (1))] rfl rfl ?_
    refine f_ic rfl iA_r (by decide) (fun c2 => ?_) (fun c2 => ?_)
    · have c2 : ¬ (iA (iR (sbS m 10) (x)) (1) : Int) = (1 : Int) := c2
      refine f_s [fi (0)] rfl rfl ?_
      exact f_ret2 rfl (Or.inl rfl) ⟨by rw [decide_eq_false (by omega)]; rfl, hw2, hm2⟩
    · have c2 : ¬ (¬ (iA (iR (sbS m 10) (x)) (1) : Int) = (1 : Int)) := c2
      refine f_s [fi (1)] rfl rfl ?_
      refine f_goto rfl ?_
      exact f_ret2 rfl (Or.inr rfl) ⟨by rw [decide_eq_true (by omega)]; rfl, hw2, hm2⟩)
theorem t64_9 {m : Nat → Nat → Int} (hn : 0 ≤ m 3 5 ∧ m 3 5 ≤ 4) (hp : 0 ≤ m 3 6 ∧ m 3 6 ≤ 5) {x : Int} (rx : -2147483648 ≤ x ∧ x ≤ 2147483647) {k : Int} (rk : -2147483648 ≤ k ∧ k ≤ 2147483647) : h_M 64 [.ref 9, fi (x), fi (k)] m (some (fi (bI (decide ((0 ≤ k ∧ k < m 3 5) ∧ ¬ ((0 ≤ x ∧ x < m 3 6) ∧ iA (iR (m 9 5) (x)) (1) = 1) ∧ iA (iR (ft m x) (k)) (1) = 1))))) m := h_M_of (R := ev_r64) rfl (fun hc hw hm => by
  have hL : f_L (lv_args 0 [.ref 9, fi (x), fi (k)]) [(0, .ref 9), (1, fi (x)), (2, fi (k))] := f_L_of rfl
  generalize lv_args 0 [.ref 9, fi (x), fi (k)] = L at hL
  show x_W none (2, 0, 3, 2, 7, 2, 42, 0, 0, ev_t64) 0 L [] hc 0 0 _
  have hR := gi_R hm
  refine f_aln 0 rfl hL rfl ?_
  refine m_gfr so9 rfl hw rfl (by decide) ?_
  refine f_iln 2 rfl hL rfl ?_
  refine m_k1 (t40 hn.2 rk) hw hm rfl rfl rfl (m_ar so3 hw rfl) rfl (fun hc1 hw1 hm1 => ?_)
  refine f_if rfl (bI_r _) (fun c1 => ?_) (fun c1 => ?_)
  · have c1 : (bI (decide (0 ≤ k ∧ k < m 3 5)) : Int) = (0 : Int) := c1
    have c1 : ¬ (0 ≤ k ∧ k < m 3 5) := bI_f c1
    refine f_s [fi (0)] rfl rfl ?_
    exact f_ret2 rfl (Or.inl rfl) ⟨by rw [decide_eq_false (by omega)]; rfl, hw1, hm1⟩
  · have c1 : ¬ ((bI (decide (0 ≤ k ∧ k < m 3 5)) : Int) = (0 : Int)) := c1
    have c1 : 0 ≤ k ∧ k < m 3 5 := bI_t c1
    refine f_aln 0 rfl hL rfl ?_
    refine f_iln 1 rfl hL rfl ?_
    refine m_k1 (t59_9 hp rx) hw1 hm1 rfl rfl rfl (m_ar so9 hw1 rfl) rfl (fun hc2 hw2 hm2 => ?_)
    refine f_if rfl (bI_r _) (fun c2 => ?_) (fun c2 => ?_)
    · have c2 : ¬ (bI (decide ((0 ≤ x ∧ x < m 3 6) ∧ iA (iR (m 9 5) (x)) (1) = 1)) : Int) = (0 : Int) := c2
      have c2 : (0 ≤ x ∧ x < m 3 6) ∧ iA (iR (m 9 5) (x)) (1) = 1 := bI_t c2
      refine f_s [fi (0)] rfl rfl ?_
      exact f_ret2 rfl (Or.inl rfl) ⟨by rw [decide_eq_false (by omega)]; rfl, hw2, hm2⟩
    · have c2 : ¬ (¬ (bI (decide ((0 ≤ x ∧ x < m 3 6) ∧ iA (iR (m 9 5) (x)) (1) = 1)) : Int) = (0 : Int)) := c2
      have c2 : ¬ ((0 ≤ x ∧ x < m 3 6) ∧ iA (iR (m 9 5) (x)) (1) = 1) := bI_n c2
      refine f_aln 0 rfl hL rfl ?_
      refine m_gfr so9 rfl hw2 rfl (by decide) ?_
      refine f_iln 1 rfl hL rfl ?_
      refine m_k1 (t52 hp rx) hw2 hm2 rfl rfl rfl (m_ar so3 hw2 rfl) rfl (fun hc3 hw3 hm3 => ?_)
      refine f_iln 2 rfl hL rfl ?_
      refine b_ishr rfl ?_
      refine f_s [fi (1), fi (iR (ft m x) (k))] rfl rfl ?_
      refine b_iand rfl ?_
      refine f_s [fi (1), fi (iA (iR (ft m x) (k)) (1))] rfl rfl ?_
      refine f_ic rfl iA_r (by decide) (fun c3 => ?_) (fun c3 => ?_)
      · have c3 : ¬ (iA (iR (ft m x) (k)) (1) : Int) = (1 : Int) := c3
        refine f_s [fi (0)] rfl rfl ?_
        exact f_ret2 rfl (Or.inl rfl) ⟨by rw [decide_eq_false (by omega)]; rfl, hw3, hm3⟩
      · have c3 : ¬ (¬ (iA (iR (ft m x) (k)) (1) : Int) = (1 : Int)) := c3
        refine f_s [fi (1)] rfl rfl ?_
        refine f_goto rfl ?_
        exact f_ret2 rfl (Or.inr rfl) ⟨by rw [decide_eq_true (by omega)]; rfl, hw3, hm3⟩)
theorem bC_r (x : Int) : -2147483648 ≤ bC x ∧ bC x ≤ 2147483647 := by unfold bC; exact iA_r
theorem wr1_r {m : Nat → Nat → Int} {w : Nat} {k : Int} {p : Nat} {s b : Int} (hb : -2147483648 ≤ b ∧ b ≤ 2147483647) : -2147483648 ≤ wr1 m w k p s b ∧ wr1 m w k p s b ≤ 2147483647 := by
  unfold wr1
  split
  · exact iO_r
  · exact hb
theorem wr_r (m : Nat → Nat → Int) (w : Nat) (k : Int) : -2147483648 ≤ wr m w k ∧ wr m w k ≤ 2147483647 := wr1_r (wr1_r (wr1_r (wr1_r (wr1_r (by decide)))))
theorem t67_9 {m : Nat → Nat → Int} (hn : 0 ≤ m 3 5 ∧ m 3 5 ≤ 4) (hp : 0 ≤ m 3 6 ∧ m 3 6 ≤ 5) {x : Int} (rx : -2147483648 ≤ x ∧ x ≤ 2147483647) {k : Int} (rk : -2147483648 ≤ k ∧ k ≤ 2147483647) : h_M 67 [.ref 9, fi (x), fi (k)] m (some (fi (bI (decide (nO m 10 x = -9 ∧ ((0 ≤ k ∧ k < m 3 5) ∧ ¬ ((0 ≤ x ∧ x < m 3 6) ∧ iA (iR (m 9 5) (x)) (1) = 1) ∧ iA (iR (ft m x) (k)) (1) = 1) ∧ ¬ ((0 ≤ k ∧ k < m 3 5) ∧ iA (iR (m 9 4) (k)) (1) = 1) ∧ bC (wr m 10 k) < rm m k))))) m := h_M_of (R := ev_r67) rfl (fun hc hw hm => by
  have hL : f_L (lv_args 0 [.ref 9, fi (x), fi (k)]) [(0, .ref 9), (1, fi (x)), (2, fi (k))] := f_L_of rfl
  generalize lv_args 0 [.ref 9, fi (x), fi (k)] = L at hL
  show x_W none (2, 0, 3, 2, 7, 3, 64, 0, 0, ev_t67) 0 L [] hc 0 0 _
  have hR := gi_R hm
  refine f_aln 0 rfl hL rfl ?_
  refine f_iln 1 rfl hL rfl ?_
  refine m_k1 (t53_9 hp rx) hw hm rfl rfl rfl (m_ar so9 hw rfl) rfl (fun hc1 hw1 hm1 => ?_)
  refine f_bipush (n := -9) rfl (by decide) ?_
  refine f_ic rfl (nO_r hR _ _) (by decide) (fun c1 => ?_) (fun c1 => ?_)
  · have c1 : ¬ (nO m 10 x : Int) = (-9 : Int) := c1
    refine f_s [fi (0)] rfl rfl ?_
    exact f_ret2 rfl (Or.inl rfl) ⟨by rw [decide_eq_false (by omega)]; rfl, hw1, hm1⟩
  · have c1 : ¬ (¬ (nO m 10 x : Int) = (-9 : Int)) := c1
    refine f_aln 0 rfl hL rfl ?_
    refine f_iln 1 rfl hL rfl ?_
    refine f_iln 2 rfl hL rfl ?_
    refine m_k1 (t64_9 hn hp rx rk) hw1 hm1 rfl rfl rfl (m_ar so9 hw1 rfl) rfl (fun hc2 hw2 hm2 => ?_)
    refine f_if rfl (bI_r _) (fun c2 => ?_) (fun c2 => ?_)
    · have c2 : (bI (decide ((0 ≤ k ∧ k < m 3 5) ∧ ¬ ((0 ≤ x ∧ x < m 3 6) ∧ iA (iR (m 9 5) (x)) (1) = 1) ∧ iA (iR (ft m x) (k)) (1) = 1)) : Int) = (0 : Int) := c2
      have c2 : ¬ ((0 ≤ k ∧ k < m 3 5) ∧ ¬ ((0 ≤ x ∧ x < m 3 6) ∧ iA (iR (m 9 5) (x)) (1) = 1) ∧ iA (iR (ft m x) (k)) (1) = 1) := bI_f c2
      refine f_s [fi (0)] rfl rfl ?_
      exact f_ret2 rfl (Or.inl rfl) ⟨by rw [decide_eq_false (by omega)]; rfl, hw2, hm2⟩
    · have c2 : ¬ ((bI (decide ((0 ≤ k ∧ k < m 3 5) ∧ ¬ ((0 ≤ x ∧ x < m 3 6) ∧ iA (iR (m 9 5) (x)) (1) = 1) ∧ iA (iR (ft m x) (k)) (1) = 1)) : Int) = (0 : Int)) := c2
      have c2 : (0 ≤ k ∧ k < m 3 5) ∧ ¬ ((0 ≤ x ∧ x < m 3 6) ∧ iA (iR (m 9 5) (x)) (1) = 1) ∧ iA (iR (ft m x) (k)) (1) = 1 := bI_t c2
      refine f_aln 0 rfl hL rfl ?_
      refine f_iln 2 rfl hL rfl ?_
      refine m_k1 (t44_9 hn rk) hw2 hm2 rfl rfl rfl (m_ar so9 hw2 rfl) rfl (fun hc3 hw3 hm3 => ?_)
      refine f_if rfl (bI_r _) (fun c3 => ?_) (fun c3 => ?_)
      · have c3 : ¬ (bI (decide ((0 ≤ k ∧ k < m 3 5) ∧ iA (iR (m 9 4) (k)) (1) = 1)) : Int) = (0 : Int) := c3
        have c3 : (0 ≤ k ∧ k < m 3 5) ∧ iA (iR (m 9 4) (k)) (1) = 1 := bI_t c3
        refine f_s [fi (0)] rfl rfl ?_
        exact f_ret2 rfl (Or.inl rfl) ⟨by rw [decide_eq_false (by omega)]; rfl, hw3, hm3⟩
      · have c3 : ¬ (¬ (bI (decide ((0 ≤ k ∧ k < m 3 5) ∧ iA (iR (m 9 4) (k)) (1) = 1)) : Int) = (0 : Int)) := c3
        have c3 : ¬ ((0 ≤ k ∧ k < m 3 5) ∧ iA (iR (m 9 4) (k)) (1) = 1) := bI_n c3
        refine f_aln 0 rfl hL rfl ?_
        refine f_iln 2 rfl hL rfl ?_
        refine m_k1 (t43_9 rk) hw3 hm3 rfl rfl rfl (m_ar so9 hw3 rfl) rfl (fun hc4 hw4 hm4 => ?_)
        refine m_k1 (t65 (wr_r _ _ _)) hw4 hm4 rfl rfl rfl rfl rfl (fun hc5 hw5 hm5 => ?_)
        refine f_aln 0 rfl hL rfl ?_
        refine m_gfr so9 rfl hw5 rfl (by decide) ?_
        refine f_iln 2 rfl hL rfl ?_
        refine m_k1 (t66 hn rk) hw5 hm5 rfl rfl rfl (m_ar so3 hw5 rfl) rfl (fun hc6 hw6 hm6 => ?_)
        refine f_ic rfl (bC_r _) (by have := rm_r (m := m) k; omega) (fun c4 => ?_) (fun c4 => ?_)
        · have c4 : (rm m k : Int) ≤ (bC (wr m 10 k) : Int) := c4
          refine f_s [fi (0)] rfl rfl ?_
          exact f_ret2 rfl (Or.inl rfl) ⟨by rw [decide_eq_false (by omega)]; rfl, hw6, hm6⟩
        · have c4 : ¬ ((rm m k : Int) ≤ (bC (wr m 10 k) : Int)) := c4
          refine f_s [fi (1)] rfl rfl ?_
          refine f_goto rfl ?_
          exact f_ret2 rfl (Or.inr rfl) ⟨by rw [decide_eq_true (by omega)]; rfl, hw6, hm6⟩)
theorem t69_9 {m : Nat → Nat → Int} {q : Nat} (hq : h_A q 0 18) (q0 : q ≠ 9) (q1 : q ≠ 9 + 1) (q2 : q ≠ 9 + 2) (q3 : q ≠ 9 + 3) : h_M 69 [.ref 9, .ref q] m none (sav m 9 q) := h_M_of (R := ev_r69) rfl (fun hc hw hm => by
  have hL : f_L (lv_args 0 [.ref 9, .ref q]) [(0, .ref 9), (1, .ref q)] := f_L_of rfl
  generalize lv_args 0 [.ref 9, .ref q] = L at hL
  show x_W none (0, 0, 2, 1, 7, 1, 26, 0, 0, ev_t69) 0 L [] hc 0 0 _
  have hR := gi_R hm
  refine f_aln 1 rfl hL rfl ?_
  refine m_al hq rfl hw (by decide) ?_
  refine f_bipush (n := 18) rfl (by decide) ?_
  refine f_ic rfl (by decide) (by decide) (fun _ => ?_) (fun c_9 => absurd (show (18 : Int) ≤ (18 : Int) from (by decide)) c_9)
  refine f_aln 0 rfl hL rfl ?_
  refine m_gfr so9 rfl hw rfl (by decide) ?_
  refine f_s [fi (0), .ref 10] rfl rfl ?_
  refine f_aln 1 rfl hL rfl ?_
  refine f_s [fi (0), .ref q, fi (0), .ref 10] rfl rfl ?_
  refine f_s [fi (5), fi (0), .ref q, fi (0), .ref 10] rfl rfl ?_
  refine m_cp sa10 hq rfl rfl hw hm (by decide) (by decide) (by decide) (by decide) (by decide) (by decide) (by decide) (by decide) (by decide) (fun hc1 hw1 hm1 => ?_)
  refine f_aln 0 rfl hL rfl ?_
  refine m_gfr so9 rfl hw1 rfl (by decide) ?_
  refine f_s [fi (0), .ref 11] rfl rfl ?_
  refine f_aln 1 rfl hL rfl ?_
  refine f_s [fi (5), .ref q, fi (0), .ref 11] rfl rfl ?_
  refine f_s [fi (5), fi (5), .ref q, fi (0), .ref 11] rfl rfl ?_
  refine m_cp sa11 hq rfl rfl hw1 hm1 (by decide) (by decide) (by decide) (by decide) (by decide) (by decide) (by decide) (by decide) (by decide) (fun hc2 hw2 hm2 => ?_)
  refine f_aln 0 rfl hL rfl ?_
  refine m_gfr so9 rfl hw2 rfl (by decide) ?_
  refine f_s [fi (0), .ref 12] rfl rfl ?_
  refine f_aln 1 rfl hL rfl ?_
  refine f_bipush (n := 10) rfl (by decide) ?_
  refine f_s [fi (5), fi (10), .ref q, fi (0), .ref 12] rfl rfl ?_
  refine m_cp sa12 hq rfl rfl hw2 hm2 (by decide) (by decide) (by decide) (by decide) (by decide) (by decide) (by decide) (by decide) (by decide) (fun hc3 hw3 hm3 => ?_)
  refine f_aln 1 rfl hL rfl ?_
  refine f_bipush (n := 15) rfl (by decide) ?_
  refine f_aln 0 rfl hL rfl ?_
  refine m_gfi so9 (m 9 4) rfl hw3 hm3 rfl (by rw [cpy_ne (Ne.symm q0), cpy_ne (Ne.symm q0), cpy_ne (Ne.symm q0)]; try rfl) ?_
  refine m_ias hq rfl hw3 hm3 (by omega) (by omega) (by decide) (hR 9 4) (fun hc4 hw4 hm4 => ?_)
  refine f_aln 1 rfl hL rfl ?_
  refine f_bipush (n := 16) rfl (by decide) ?_
  refine f_aln 0 rfl hL rfl ?_
  refine m_gfi so9 (m 9 5) rfl hw4 hm4 rfl (by rw [up_nc (Ne.symm q0), cpy_ne (Ne.symm q0), cpy_ne (Ne.symm q0), cpy_ne (Ne.symm q0)]; try rfl) ?_
  refine m_ias hq rfl hw4 hm4 (by omega) (by omega) (by decide) (hR 9 5) (fun hc5 hw5 hm5 => ?_)
  refine f_aln 1 rfl hL rfl ?_
  refine f_bipush (n := 17) rfl (by decide) ?_
  refine f_aln 0 rfl hL rfl ?_
  refine m_gfi so9 (m 9 6) rfl hw5 hm5 rfl (by rw [up_nc (Ne.symm q0), up_nc (Ne.symm q0), cpy_ne (Ne.symm q0), cpy_ne (Ne.symm q0), cpy_ne (Ne.symm q0)]; try rfl) ?_
  refine m_ias hq rfl hw5 hm5 (by omega) (by omega) (by decide) (hR 9 6) (fun hc6 hw6 hm6 => ?_)
  exact m_ret0 rfl ⟨rfl, hw6, by rw [hm6]; exact sav_eq m 9 q q0 q1 q2 q3⟩)
theorem t43_13 {m : Nat → Nat → Int} {k : Int} (rk : -2147483648 ≤ k ∧ k ≤ 2147483647) : h_M 43 [.ref 13, fi (k)] m (some (fi (wr m 14 k))) m := h_M_of (R := ev_r43) rfl (fun hc hw hm => by
  have hL : f_L (lv_args 0 [.ref 13, fi (k)]) [(0, .ref 13), (1, fi (k))] := f_L_of rfl
  generalize lv_args 0 [.ref 13, fi (k)] = L at hL
  show x_W none (1, 0, 4, 1, 7, 0, 0, 0, 0, ev_t43) 0 L [] hc 0 0 _
  have hR := gi_R hm
  have hK5 : ∀ (hc : ev_H) (b : Int) (L : ev_L), y_in yGw hc → gi hc = m → (-2147483648 ≤ b ∧ b ≤ 2147483647) → f_L L [(3, fi (5)), (2, fi (b)), (0, .ref 13), (1, fi (k))] → x_W none (1, 0, 4, 1, 7, 0, 0, 0, 0, ev_t43) 4 L [] hc 0 0 (fun r' h' => r' = some (fi (b)) ∧ y_in yGw h' ∧ gi h' = m) := fun hc b L hw hm rb hL => by
    refine f_iln 0 rfl hL rfl ?_
    refine f_s [fi (5), fi (5)] rfl rfl ?_
    refine f_ic rfl (by decide) (by decide) (fun _ => ?_) (fun c_9 => absurd (show (5 : Int) ≤ (5 : Int) from (by decide)) c_9)
    refine f_iln 1 rfl hL rfl ?_
    exact f_ret1 rfl ⟨rfl, hw, hm⟩
  have hK4 : ∀ (hc : ev_H) (b : Int) (L : ev_L), y_in yGw hc → gi hc = m → (-2147483648 ≤ b ∧ b ≤ 2147483647) → f_L L [(3, fi (4)), (2, fi (b)), (0, .ref 13), (1, fi (k))] → x_W none (1, 0, 4, 1, 7, 0, 0, 0, 0, ev_t43) 4 L [] hc 0 0 (fun r' h' => r' = some (fi (wr1 m 14 k 4 (iS 1 4) (b))) ∧ y_in yGw h' ∧ gi h' = m) := fun hc b L hw hm rb hL => by
    refine f_iln 0 rfl hL rfl ?_
    refine f_s [fi (5), fi (4)] rfl rfl ?_
    refine f_ic rfl (by decide) (by decide) (fun c_9 => absurd (show (5 : Int) ≤ (4 : Int) from c_9) (by decide)) (fun _ => ?_)
    refine f_aln 2 rfl hL rfl ?_
    refine m_gfr so13 rfl hw rfl (by decide) ?_
    refine f_iln 0 rfl hL rfl ?_
    refine m_ia sa14 (m 14 4) rfl hw hm (by omega) (by omega) (by decide) rfl ?_
    refine f_iln 3 rfl hL rfl ?_
    refine f_ic rfl (hR 14 4) rk (fun c1 => ?_) (fun c1 => ?_)
    · have c1 : ¬ (m 14 4 : Int) = (k : Int) := c1
      refine f_inc 0 [(3, fi (5)), (2, fi (b)), (0, .ref 13), (1, fi (k))] rfl (by decide) hL rfl rfl (fun L1 hL1 => ?_)
      refine f_goto rfl ?_
      have e9 : wr1 m 14 k 4 (iS 1 4) b = b := if_neg (by omega)
      rw [e9]
      exact hK5 hc (b) _ hw hm rb (hL1.sel [0, 1, 2, 3] rfl)
    · have c1 : ¬ (¬ (m 14 4 : Int) = (k : Int)) := c1
      refine f_iln 1 rfl hL rfl ?_
      refine f_s [fi (1), fi (b)] rfl rfl ?_
      refine f_iln 0 rfl hL rfl ?_
      refine b_ishl rfl ?_
      refine b_ior rfl ?_
      refine f_istn [(2, fi (iO (b) (iS (1) (4)))), (3, fi (4)), (0, .ref 13), (1, fi (k))] rfl (by decide) hL rfl (fun L2 hL2 => ?_)
      refine f_inc 1 [(3, fi (5)), (2, fi (iO (b) (iS (1) (4)))), (0, .ref 13), (1, fi (k))] rfl (by decide) hL2 rfl rfl (fun L3 hL3 => ?_)
      refine f_goto rfl ?_
      have e9 : wr1 m 14 k 4 (iS 1 4) b = iO (b) (iS (1) (4)) := if_pos (by omega)
      rw [e9]
      exact hK5 hc (iO (b) (iS (1) (4))) _ hw hm iO_r (hL3.sel [0, 1, 2, 3] rfl)
  have hK3 : ∀ (hc : ev_H) (b : Int) (L : ev_L), y_in yGw hc → gi hc = m → (-2147483648 ≤ b ∧ b ≤ 2147483647) → f_L L [(3, fi (3)), (2, fi (b)), (0, .ref 13), (1, fi (k))] → x_W none (1, 0, 4, 1, 7, 0, 0, 0, 0, ev_t43) 4 L [] hc 0 0 (fun r' h' => r' = some (fi (wr1 m 14 k 4 (iS 1 4) (wr1 m 14 k 3 (iS 1 3) (b)))) ∧ y_in yGw h' ∧ gi h' = m) := fun hc b L hw hm rb hL => by
    refine f_iln 0 rfl hL rfl ?_
    refine f_s [fi (5), fi (3)] rfl rfl ?_
    refine f_ic rfl (by decide) (by decide) (fun c_9 => absurd (show (5 : Int) ≤ (3 : Int) from c_9) (by decide)) (fun _ => ?_)
    refine f_aln 2 rfl hL rfl ?_
    refine m_gfr so13 rfl hw rfl (by decide) ?_
    refine f_iln 0 rfl hL rfl ?_
    refine m_ia sa14 (m 14 3) rfl hw hm (by omega) (by omega) (by decide) rfl ?_
    refine f_iln 3 rfl hL rfl ?_
    refine f_ic rfl (hR 14 3) rk (fun c1 => ?_) (fun c1 => ?_)
    · have c1 : ¬ (m 14 3 : Int) = (k : Int) := c1
      refine f_inc 0 [(3, fi (4)), (2, fi (b)), (0, .ref 13), (1, fi (k))] rfl (by decide) hL rfl rfl (fun L4 hL4 => ?_)
      refine f_goto rfl ?_
      have e9 : wr1 m 14 k 3 (iS 1 3) b = b := if_neg (by omega)
      rw [e9]
      exact hK4 hc (b) _ hw hm rb (hL4.sel [0, 1, 2, 3] rfl)
    · have c1 : ¬ (¬ (m 14 3 : Int) = (k : Int)) := c1
      refine f_iln 1 rfl hL rfl ?_
      refine f_s [fi (1), fi (b)] rfl rfl ?_
      refine f_iln 0 rfl hL rfl ?_
      refine b_ishl rfl ?_
      refine b_ior rfl ?_
      refine f_istn [(2, fi (iO (b) (iS (1) (3)))), (3, fi (3)), (0, .ref 13), (1, fi (k))] rfl (by decide) hL rfl (fun L5 hL5 => ?_)
      refine f_inc 1 [(3, fi (4)), (2, fi (iO (b) (iS (1) (3)))), (0, .ref 13), (1, fi (k))] rfl (by decide) hL5 rfl rfl (fun L6 hL6 => ?_)
      refine f_goto rfl ?_
      have e9 : wr1 m 14 k 3 (iS 1 3) b = iO (b) (iS (1) (3)) := if_pos (by omega)
      rw [e9]
      exact hK4 hc (iO (b) (iS (1) (3))) _ hw hm iO_r (hL6.sel [0, 1, 2, 3] rfl)
  have hK2 : ∀ (hc : ev_H) (b : Int) (L : ev_L), y_in yGw hc → gi hc = m → (-2147483648 ≤ b ∧ b ≤ 2147483647) → f_L L [(3, fi (2)), (2, fi (b)), (0, .ref 13), (1, fi (k))] → x_W none (1, 0, 4, 1, 7, 0, 0, 0, 0, ev_t43) 4 L [] hc 0 0 (fun r' h' => r' = some (fi (wr1 m 14 k 4 (iS 1 4) (wr1 m 14 k 3 (iS 1 3) (wr1 m 14 k 2 (iS 1 2) (b))))) ∧ y_in yGw h' ∧ gi h' = m) := fun hc b L hw hm rb hL => by
    refine f_iln 0 rfl hL rfl ?_
    refine f_s [fi (5), fi (2)] rfl rfl ?_
    refine f_ic rfl (by decide) (by decide) (fun c_9 => absurd (show (5 : Int) ≤ (2 : Int) from c_9) (by decide)) (fun _ => ?_)
    refine f_aln 2 rfl hL rfl ?_
    refine m_gfr so13 rfl hw rfl (by decide) ?_
    refine f_iln 0 rfl hL rfl ?_
    refine m_ia sa14 (m 14 2) rfl hw hm (by omega) (by omega) (by decide) rfl ?_
    refine f_iln 3 rfl hL rfl ?_
    refine f_ic rfl (hR 14 2) rk (fun c1 => ?_) (fun c1 => ?_)
    · have c1 : ¬ (m 14 2 : Int) = (k : Int) := c1
      refine f_inc 0 [(3, fi (3)), (2, fi (b)), (0, .ref 13), (1, fi (k))] rfl (by decide) hL rfl rfl (fun L7 hL7 => ?_)
      refine f_goto rfl ?_
      have e9 : wr1 m 14 k 2 (iS 1 2) b = b := if_neg (by omega)
      rw [e9]
      exact hK3 hc (b) _ hw hm rb (hL7.sel [0, 1, 2, 3] rfl)
    · have c1 : ¬ (¬ (m 14 2 : Int) = (k : Int)) := c1
      refine f_iln 1 rfl hL rfl ?_
      refine f_s [fi (1), fi (b)] rfl rfl ?_
      refine f_iln 0 rfl hL rfl ?_
      refine b_ishl rfl ?_
      refine b_ior rfl ?_
      refine f_istn [(2, fi (iO (b) (iS (1) (2)))), (3, fi (2)), (0, .ref 13), (1, fi (k))] rfl (by decide) hL rfl (fun L8 hL8 => ?_)
      refine f_inc 1 [(3, fi (3)), (2, fi (iO (b) (iS (1) (2)))), (0, .ref 13), (1, fi (k))] rfl (by decide) hL8 rfl rfl (fun L9 hL9 => ?_)
      refine f_goto rfl ?_
      have e9 : wr1 m 14 k 2 (iS 1 2) b = iO (b) (iS (1) (2)) := if_pos (by omega)
      rw [e9]
      exact hK3 hc (iO (b) (iS (1) (2))) _ hw hm iO_r (hL9.sel [0, 1, 2, 3] rfl)
  have hK1 : ∀ (hc : ev_H) (b : Int) (L : ev_L), y_in yGw hc → gi hc = m → (-2147483648 ≤ b ∧ b ≤ 2147483647) → f_L L [(3, fi (1)), (2, fi (b)), (0, .ref 13), (1, fi (k))] → x_W none (1, 0, 4, 1, 7, 0, 0, 0, 0, ev_t43) 4 L [] hc 0 0 (fun r' h' => r' = some (fi (wr1 m 14 k 4 (iS 1 4) (wr1 m 14 k 3 (iS 1 3) (wr1 m 14 k 2 (iS 1 2) (wr1 m 14 k 1 (iS 1 1) (b)))))) ∧ y_in yGw h' ∧ gi h' = m) := fun hc b L hw hm rb hL => by
    refine f_iln 0 rfl hL rfl ?_
    refine f_s [fi (5), fi (1)] rfl rfl ?_
    refine f_ic rfl (by decide) (by decide) (fun c_9 => absurd (show (5 : Int) ≤ (1 : Int) from c_9) (by decide)) (fun _ => ?_)
    refine f_aln 2 rfl hL rfl ?_
    refine m_gfr so13 rfl hw rfl (by decide) ?_
    refine f_iln 0 rfl hL rfl ?_
    refine m_ia sa14 (m 14 1) rfl hw hm (by omega) (by omega) (by decide) rfl ?_
    refine f_iln 3 rfl hL rfl ?_
    refine f_ic rfl (hR 14 1) rk (fun c1 => ?_) (fun c1 => ?_)
    · have c1 : ¬ (m 14 1 : Int) = (k : Int) := c1
      refine f_inc 0 [(3, fi (2)), (2, fi (b)), (0, .ref 13), (1, fi (k))] rfl (by decide) hL rfl rfl (fun L10 hL10 => ?_)
      refine f_goto rfl ?_
      have e9 : wr1 m 14 k 1 (iS 1 1) b = b := if_neg (by omega)
      rw [e9]
      exact hK2 hc (b) _ hw hm rb (hL10.sel [0, 1, 2, 3] rfl)
    · have c1 : ¬ (¬ (m 14 1 : Int) = (k : Int)) := c1
      refine f_iln 1 rfl hL rfl ?_
      refine f_s [fi (1), fi (b)] rfl rfl ?_
      refine f_iln 0 rfl hL rfl ?_
      refine b_ishl rfl ?_
      refine b_ior rfl ?_
      refine f_istn [(2, fi (iO (b) (iS (1) (1)))), (3, fi (1)), (0, .ref 13), (1, fi (k))] rfl (by decide) hL rfl (fun L11 hL11 => ?_)
      refine f_inc 1 [(3, fi (2)), (2, fi (iO (b) (iS (1) (1)))), (0, .ref 13), (1, fi (k))] rfl (by decide) hL11 rfl rfl (fun L12 hL12 => ?_)
      refine f_goto rfl ?_
      have e9 : wr1 m 14 k 1 (iS 1 1) b = iO (b) (iS (1) (1)) := if_pos (by omega)
      rw [e9]
      exact hK2 hc (iO (b) (iS (1) (1))) _ hw hm iO_r (hL12.sel [0, 1, 2, 3] rfl)
  have hK0 : ∀ (hc : ev_H) (b : Int) (L : ev_L), y_in yGw hc → gi hc = m → (-2147483648 ≤ b ∧ b ≤ 2147483647) → f_L L [(3, fi (0)), (2, fi (b)), (0, .ref 13), (1, fi (k))] → x_W none (1, 0, 4, 1, 7, 0, 0, 0, 0, ev_t43) 4 L [] hc 0 0 (fun r' h' => r' = some (fi (wr1 m 14 k 4 (iS 1 4) (wr1 m 14 k 3 (iS 1 3) (wr1 m 14 k 2 (iS 1 2) (wr1 m 14 k 1 (iS 1 1) (wr1 m 14 k 0 (iS 1 0) (b))))))) ∧ y_in yGw h' ∧ gi h' = m) := fun hc b L hw hm rb hL => by
    refine f_iln 0 rfl hL rfl ?_
    refine f_s [fi (5), fi (0)] rfl rfl ?_
    refine f_ic rfl (by decide) (by decide) (fun c_9 => absurd (show (5 : Int) ≤ (0 : Int) from c_9) (by decide)) (fun _ => ?_)
    refine f_aln 2 rfl hL rfl ?_
    refine m_gfr so13 rfl hw rfl (by decide) ?_
    refine f_iln 0 rfl hL rfl ?_
    refine m_ia sa14 (m 14 0) rfl hw hm (by omega) (by omega) (by decide) rfl ?_
    refine f_iln 3 rfl hL rfl ?_
    refine f_ic rfl (hR 14 0) rk (fun c1 => ?_) (fun c1 => ?_)
    · have c1 : ¬ (m 14 0 : Int) = (k : Int) := c1
      refine f_inc 0 [(3, fi (1)), (2, fi (b)), (0, .ref 13), (1, fi (k))] rfl (by decide) hL rfl rfl (fun L13 hL13 => ?_)
      refine f_goto rfl ?_
      have e9 : wr1 m 14 k 0 (iS 1 0) b = b := if_neg (by omega)
      rw [e9]
      exact hK1 hc (b) _ hw hm rb (hL13.sel [0, 1, 2, 3] rfl)
    · have c1 : ¬ (¬ (m 14 0 : Int) = (k : Int)) := c1
      refine f_iln 1 rfl hL rfl ?_
      refine f_s [fi (1), fi (b)] rfl rfl ?_
      refine f_iln 0 rfl hL rfl ?_
      refine b_ishl rfl ?_
      refine b_ior rfl ?_
      refine f_istn [(2, fi (iO (b) (iS (1) (0)))), (3, fi (0)), (0, .ref 13), (1, fi (k))] rfl (by decide) hL rfl (fun L14 hL14 => ?_)
      refine f_inc 1 [(3, fi (1)), (2, fi (iO (b) (iS (1) (0)))), (0, .ref 13), (1, fi (k))] rfl (by decide) hL14 rfl rfl (fun L15 hL15 => ?_)
      refine f_goto rfl ?_
      have e9 : wr1 m 14 k 0 (iS 1 0) b = iO (b) (iS (1) (0)) := if_pos (by omega)
      rw [e9]
      exact hK1 hc (iO (b) (iS (1) (0))) _ hw hm iO_r (hL15.sel [0, 1, 2, 3] rfl)
  refine f_s [fi (0)] rfl rfl ?_
  refine f_istn [(2, fi (0)), (0, .ref 13), (1, fi (k))] rfl (by decide) hL rfl (fun L16 hL16 => ?_)
  refine f_s [fi (0)] rfl rfl ?_
  refine f_istn [(3, fi (0)), (2, fi (0)), (0, .ref 13), (1, fi (k))] rfl (by decide) hL16 rfl (fun L17 hL17 => ?_)
  exact hK0 hc 0 _ hw hm (by decide) (hL17.sel [0, 1, 2, 3] rfl))
theorem t44_13 {m : Nat → Nat → Int} (h9 : 0 ≤ m 3 5 ∧ m 3 5 ≤ 4) {x : Int} (rx : -2147483648 ≤ x ∧ x ≤ 2147483647) : h_M 44 [.ref 13, fi (x)] m (some (fi (bI (decide ((0 ≤ x ∧ x < m 3 5) ∧ iA (iR (m 13 4) (x)) (1) = 1))))) m := h_M_of (R := ev_r44) rfl (fun hc hw hm => by
  have hL : f_L (lv_args 0 [.ref 13, fi (x)]) [(0, .ref 13), (1, fi (x))] := f_L_of rfl
  generalize lv_args 0 [.ref 13, fi (x)] = L at hL
  show x_W none (2, 0, 2, 1, 7, 1, 21, 0, 0, ev_t44) 0 L [] hc 0 0 _
  have hR := gi_R hm
  refine f_aln 0 rfl hL rfl ?_
  refine m_gfr so13 rfl hw rfl (by decide) ?_
  refine f_iln 1 rfl hL rfl ?_
  refine m_k1 (t40 h9.2 rx) hw hm rfl rfl rfl (m_ar so3 hw rfl) rfl (fun hc1 hw1 hm1 => ?_)
  refine f_if rfl (bI_r _) (fun c1 => ?_) (fun c1 => ?_)
  · have c1 : (bI (decide (0 ≤ x ∧ x < m 3 5)) : Int) = (0 : Int) := c1
    have c1 : ¬ (0 ≤ x ∧ x < m 3 5) := bI_f c1
    refine f_s [fi (0)] rfl rfl ?_
    exact f_ret2 rfl (Or.inl rfl) ⟨by rw [decide_eq_false (by omega)]; rfl, hw1, hm1⟩
  · have c1 : ¬ ((bI (decide (0 ≤ x ∧ x < m 3 5)) : Int) = (0 : Int)) := c1
    have c1 : 0 ≤ x ∧ x < m 3 5 := bI_t c1
    refine f_aln 0 rfl hL rfl ?_
    refine m_gfi so13 (m 13 4) rfl hw1 hm1 rfl rfl ?_
    refine f_iln 1 rfl hL rfl ?_
    refine b_ishr rfl ?_
    refine f_s [fi (1), fi (iR (m 13 4) (x))] rfl rfl ?_
    refine b_iand rfl ?_
    refine f_s [fi (1), fi (iA (iR (m 13 4) (x)) (1))] rfl rfl ?_
    refine f_ic rfl iA_r (by decide) (fun c2 => ?_) (fun c2 => ?_)
    · have c2 : ¬ (iA (iR (m 13 4) (x)) (1) : Int) = (1 : Int) := c2
      refine f_s [fi (0)] rfl rfl ?_
      exact f_ret2 rfl (Or.inl rfl) ⟨by rw [decide_eq_false (by omega)]; rfl, hw1, hm1⟩
    · have c2 : ¬ (¬ (iA (iR (m 13 4) (x)) (1) : Int) = (1 : Int)) := c2
      refine f_s [fi (1)] rfl rfl ?_
      refine f_goto rfl ?_
      exact f_ret2 rfl (Or.inr rfl) ⟨by rw [decide_eq_true (by omega)]; rfl, hw1, hm1⟩)
theorem t59_13 {m : Nat → Nat → Int} (h9 : 0 ≤ m 3 6 ∧ m 3 6 ≤ 5) {x : Int} (rx : -2147483648 ≤ x ∧ x ≤ 2147483647) : h_M 59 [.ref 13, fi (x)] m (some (fi (bI (decide ((0 ≤ x ∧ x < m 3 6) ∧ iA (iR (m 13 5) (x)) (1) = 1))))) m := h_M_of (R := ev_r59) rfl (fun hc hw hm => by
  have hL : f_L (lv_args 0 [.ref 13, fi (x)]) [(0, .ref 13), (1, fi (x))] := f_L_of rfl
  generalize lv_args 0 [.ref 13, fi (x)] = L at hL
  show x_W none (2, 0, 2, 1, 7, 1, 21, 0, 0, ev_t59) 0 L [] hc 0 0 _
  have hR := gi_R hm
  refine f_aln 0 rfl hL rfl ?_
  refine m_gfr so13 rfl hw rfl (by decide) ?_
  refine f_iln 1 rfl hL rfl ?_
  refine m_k1 (t49 h9.2 rx) hw hm rfl rfl rfl (m_ar so3 hw rfl) rfl (fun hc1 hw1 hm1 => ?_)
  refine f_if rfl (bI_r _) (fun c1 => ?_) (fun c1 => ?_)
  · have c1 : (bI (decide (0 ≤ x ∧ x < m 3 6)) : Int) = (0 : Int) := c1
    have c1 : ¬ (0 ≤ x ∧ x < m 3 6) := bI_f c1
    refine f_s [fi (0)] rfl rfl ?_
    exact f_ret2 rfl (Or.inl rfl) ⟨by rw [decide_eq_false (by omega)]; rfl, hw1, hm1⟩
  · have c1 : ¬ ((bI (decide (0 ≤ x ∧ x < m 3 6)) : Int) = (0 : Int)) := c1
    have c1 : 0 ≤ x ∧ x < m 3 6 := bI_t c1
    refine f_aln 0 rfl hL rfl ?_
    refine m_gfi so13 (m 13 5) rfl hw1 hm1 rfl rfl ?_
    refine f_iln 1 rfl hL rfl ?_
    refine b_ishr rfl ?_
    refine f_s [fi (1), fi (iR (m 13 5) (x))] rfl rfl ?_
    refine b_iand rfl ?_
    refine f_s [fi (1), fi (iA (iR (m 13 5) (x)) (1))] rfl rfl ?_
    refine f_ic rfl iA_r (by decide) (fun c2 => ?_) (fun c2 => ?_)
    · have c2 : ¬ (iA (iR (m 13 5) (x)) (1) : Int) = (1 : Int) := c2
      refine f_s [fi (0)] rfl rfl ?_
      exact f_ret2 rfl (Or.inl rfl) ⟨by rw [decide_eq_false (by omega)]; rfl, hw1, hm1⟩
    · have c2 : ¬ (¬ (iA (iR (m 13 5) (x)) (1) : Int) = (1 : Int)) := c2
      refine f_s [fi (1)] rfl rfl ?_
      refine f_goto rfl ?_
      exact f_ret2 rfl (Or.inr rfl) ⟨by rw [decide_eq_true (by omega)]; rfl, hw1, hm1⟩)
theorem t53_13 {m : Nat → Nat → Int} (hp : 0 ≤ m 3 6 ∧ m 3 6 ≤ 5) {x : Int} (rx : -2147483648 ≤ x ∧ x ≤ 2147483647) : h_M 53 [.ref 13, fi (x)] m (some (fi (nO m 14 x))) m := h_M_of (R := ev_r53) rfl (fun hc hw hm => by
  have hL : f_L (lv_args 0 [.ref 13, fi (x)]) [(0, .ref 13), (1, fi (x))] := f_L_of rfl
  generalize lv_args 0 [.ref 13, fi (x)] = L at hL
  show x_W none (1, 0, 2, 1, 7, 1, 21, 0, 0, ev_t53) 0 L [] hc 0 0 _
  have hR := gi_R hm
  refine f_aln 0 rfl hL rfl ?_
  refine m_gfr so13 rfl hw rfl (by decide) ?_
  refine f_iln 1 rfl hL rfl ?_
  refine m_k1 (t49 hp.2 rx) hw hm rfl rfl rfl (m_ar so3 hw rfl) rfl (fun hc1 hw1 hm1 => ?_)
  refine f_if rfl (bI_r _) (fun c1 => ?_) (fun c1 => ?_)
  · have c1 : (bI (decide (0 ≤ x ∧ x < m 3 6)) : Int) = (0 : Int) := c1
    have c1 : ¬ (0 ≤ x ∧ x < m 3 6) := bI_f c1
    refine f_bipush (n := -9) rfl (by decide) ?_
    exact f_ret1 rfl ⟨by unfold nO; rw [if_neg c1], hw1, hm1⟩
  · have c1 : ¬ ((bI (decide (0 ≤ x ∧ x < m 3 6)) : Int) = (0 : Int)) := c1
    have c1 : 0 ≤ x ∧ x < m 3 6 := bI_t c1
    refine f_aln 0 rfl hL rfl ?_
    refine m_gfr so13 rfl hw1 rfl (by decide) ?_
    refine f_iln 1 rfl hL rfl ?_
    refine m_ia sa14 (m 14 (x).toNat) rfl hw1 hm1 (by omega) (by omega) (by decide) rfl ?_
    refine f_goto rfl ?_
    exact f_ret1 rfl ⟨by unfold nO; rw [if_pos c1], hw1, hm1⟩)
theorem t54_13 {m : Nat → Nat → Int} (hp : 0 ≤ m 3 6 ∧ m 3 6 ≤ 5) {x : Int} (rx : -2147483648 ≤ x ∧ x ≤ 2147483647) : h_M 54 [.ref 13, fi (x)] m (some (fi (aH m 15 x))) m := h_M_of (R := ev_r54) rfl (fun hc hw hm => by
  have hL : f_L (lv_args 0 [.ref 13, fi (x)]) [(0, .ref 13), (1, fi (x))] := f_L_of rfl
  generalize lv_args 0 [.ref 13, fi (x)] = L at hL
  show x_W none (1, 0, 2, 1, 7, 1, 21, 0, 0, ev_t54) 0 L [] hc 0 0 _
  have hR := gi_R hm
  refine f_aln 0 rfl hL rfl ?_
  refine m_gfr so13 rfl hw rfl (by decide) ?_
  refine f_iln 1 rfl hL rfl ?_
  refine m_k1 (t49 hp.2 rx) hw hm rfl rfl rfl (m_ar so3 hw rfl) rfl (fun hc1 hw1 hm1 => ?_)
  refine f_if rfl (bI_r _) (fun c1 => ?_) (fun c1 => ?_)
  · have c1 : (bI (decide (0 ≤ x ∧ x < m 3 6)) : Int) = (0 : Int) := c1
    have c1 : ¬ (0 ≤ x ∧ x < m 3 6) := bI_f c1
    refine f_s [fi (0)] rfl rfl ?_
    exact f_ret1 rfl ⟨by unfold aH; rw [if_neg c1], hw1, hm1⟩
  · have c1 : ¬ ((bI (decide (0 ≤ x ∧ x < m 3 6)) : Int) = (0 : Int)) := c1
    have c1 : 0 ≤ x ∧ x < m 3 6 := bI_t c1
    refine f_aln 0 rfl hL rfl ?_
    refine m_gfr so13 rfl hw1 rfl (by decide) ?_
    refine f_iln 1 rfl hL rfl ?_
    refine m_ia sa15 (m 15 (x).toNat) rfl hw1 hm1 (by omega) (by omega) (by decide) rfl ?_
    refine f_goto rfl ?_
    exact f_ret1 rfl ⟨by unfold aH; rw [if_pos c1], hw1, hm1⟩)
theorem t55_13 {m : Nat → Nat → Int} (hp : 0 ≤ m 3 6 ∧ m 3 6 ≤ 5) {x : Int} (rx : -2147483648 ≤ x ∧ x ≤ 2147483647) : h_M 55 [.ref 13, fi (x)] m (some (fi (aH m 16 x))) m := h_M_of (R := ev_r55) rfl (fun hc hw hm => by
  have hL : f_L (lv_args 0 [.ref 13, fi (x)]) [(0, .ref 13), (1, fi (x))] := f_L_of rfl
  generalize lv_args 0 [.ref 13, fi (x)] = L at hL
  show x_W none (1, 0, 2, 1, 7, 1, 21, 0, 0, ev_t55) 0 L [] hc 0 0 _
  have hR := gi_R hm
  refine f_aln 0 rfl hL rfl ?_
  refine m_gfr so13 rfl hw rfl (by decide) ?_
  refine f_iln 1 rfl hL rfl ?_
  refine m_k1 (t49 hp.2 rx) hw hm rfl rfl rfl (m_ar so3 hw rfl) rfl (fun hc1 hw1 hm1 => ?_)
  refine f_if rfl (bI_r _) (fun c1 => ?_) (fun c1 => ?_)
  · have c1 : (bI (decide (0 ≤ x ∧ x < m 3 6)) : Int) = (0 : Int) := c1
    have c1 : ¬ (0 ≤ x ∧ x < m 3 6) := bI_f c1
    refine f_s [fi (0)] rfl rfl ?_
    exact f_ret1 rfl ⟨by unfold aH; rw [if_neg c1], hw1, hm1⟩
  · have c1 : ¬ ((bI (decide (0 ≤ x ∧ x < m 3 6)) : Int) = (0 : Int)) := c1
    have c1 : 0 ≤ x ∧ x < m 3 6 := bI_t c1
    refine f_aln 0 rfl hL rfl ?_
    refine m_gfr so13 rfl hw1 rfl (by decide) ?_
    refine f_iln 1 rfl hL rfl ?_
    refine m_ia sa16 (m 16 (x).toNat) rfl hw1 hm1 (by omega) (by omega) (by decide) rfl ?_
    refine f_goto rfl ?_
    exact f_ret1 rfl ⟨by unfold aH; rw [if_pos c1], hw1, hm1⟩)
theorem t56_13 {m : Nat → Nat → Int} (hn : 0 ≤ m 3 5 ∧ m 3 5 ≤ 4) : h_M 56 [.ref 13] m (some (fi (hwS m 14))) m := h_M_of (R := ev_r56) rfl (fun hc hw hm => by
  have hL : f_L (lv_args 0 [.ref 13]) [(0, .ref 13)] := f_L_of rfl
  generalize lv_args 0 [.ref 13] = L at hL
  show x_W none (1, 0, 4, 0, 7, 2, 42, 0, 0, ev_t56) 0 L [] hc 0 0 _
  have hR := gi_R hm
  have hK5 : ∀ (hc : ev_H) (b : Int) (L : ev_L), y_in yGw hc → gi hc = m → (-2147483648 ≤ b ∧ b ≤ 2147483647) → f_L L [(2, fi (5)), (1, fi (b)), (0, .ref 13)] → x_W none (1, 0, 4, 0, 7, 2, 42, 0, 0, ev_t56) 4 L [] hc 0 0 (fun r' h' => r' = some (fi (b)) ∧ y_in yGw h' ∧ gi h' = m) := fun hc b L hw hm rb hL => by
    refine f_iln 0 rfl hL rfl ?_
    refine f_s [fi (5), fi (5)] rfl rfl ?_
    refine f_ic rfl (by decide) (by decide) (fun _ => ?_) (fun c_9 => absurd (show (5 : Int) ≤ (5 : Int) from (by decide)) c_9)
    refine f_iln 1 rfl hL rfl ?_
    exact f_ret1 rfl ⟨rfl, hw, hm⟩
  have hK4 : ∀ (hc : ev_H) (b : Int) (L : ev_L), y_in yGw hc → gi hc = m → (-2147483648 ≤ b ∧ b ≤ 2147483647) → f_L L [(2, fi (4)), (1, fi (b)), (0, .ref 13)] → x_W none (1, 0, 4, 0, 7, 2, 42, 0, 0, ev_t56) 4 L [] hc 0 0 (fun r' h' => r' = some (fi (hv1 m 14 4 (b))) ∧ y_in yGw h' ∧ gi h' = m) := fun hc b L hw hm rb hL => by
    refine f_iln 0 rfl hL rfl ?_
    refine f_s [fi (5), fi (4)] rfl rfl ?_
    refine f_ic rfl (by decide) (by decide) (fun c_9 => absurd (show (5 : Int) ≤ (4 : Int) from c_9) (by decide)) (fun _ => ?_)
    refine f_aln 2 rfl hL rfl ?_
    refine m_gfr so13 rfl hw rfl (by decide) ?_
    refine f_iln 0 rfl hL rfl ?_
    refine m_ia sa14 (m 14 4) rfl hw hm (by omega) (by omega) (by decide) rfl ?_
    refine f_istn [(3, fi (m 14 4)), (2, fi (4)), (1, fi (b)), (0, .ref 13)] rfl (by decide) hL rfl (fun L1 hL1 => ?_)
    refine f_iln 0 rfl hL1 rfl ?_
    refine f_bipush (n := -9) rfl (by decide) ?_
    refine f_ic rfl (hR 14 4) (by decide) (fun c1 => ?_) (fun c1 => ?_)
    · have c1 : (m 14 4 : Int) = (-9 : Int) := c1
      refine f_inc 1 [(2, fi (5)), (3, fi (m 14 4)), (1, fi (b)), (0, .ref 13)] rfl (by decide) hL1 rfl rfl (fun L2 hL2 => ?_)
      refine f_goto rfl ?_
      have e9 : hv1 m 14 4 b = b := if_neg (by omega)
      rw [e9]
      exact hK5 hc (b) _ hw hm rb (hL2.sel [0, 2, 3] rfl)
    · have c1 : ¬ ((m 14 4 : Int) = (-9 : Int)) := c1
      refine f_aln 3 rfl hL1 rfl ?_
      refine m_gfr so13 rfl hw rfl (by decide) ?_
      refine f_iln 0 rfl hL1 rfl ?_
      refine m_k1 (t41 hn (hR 14 4)) hw hm rfl rfl rfl (m_ar so3 hw rfl) rfl (fun hc1 hw1 hm1 => ?_)
      refine f_s [fi (1), fi (kd m (m 14 4))] rfl rfl ?_
      refine f_ic rfl (kd_r hR _) (by decide) (fun c2 => ?_) (fun c2 => ?_)
      · have c2 : ¬ (kd m (m 14 4) : Int) = (1 : Int) := c2
        refine f_inc 1 [(2, fi (5)), (3, fi (m 14 4)), (1, fi (b)), (0, .ref 13)] rfl (by decide) hL1 rfl rfl (fun L3 hL3 => ?_)
        refine f_goto rfl ?_
        have e9 : hv1 m 14 4 b = b := if_neg (by omega)
        rw [e9]
        exact hK5 hc1 (b) _ hw1 hm1 rb (hL3.sel [0, 2, 3] rfl)
      · have c2 : ¬ (¬ (kd m (m 14 4) : Int) = (1 : Int)) := c2
        refine f_iln 2 rfl hL1 rfl ?_
        refine f_s [fi (1), fi (b)] rfl rfl ?_
        refine f_iln 0 rfl hL1 rfl ?_
        refine b_ishl rfl ?_
        refine b_ior rfl ?_
        refine f_istn [(1, fi (iO (b) (iS (1) (m 14 4)))), (3, fi (m 14 4)), (2, fi (4)), (0, .ref 13)] rfl (by decide) hL1 rfl (fun L4 hL4 => ?_)
        refine f_inc 2 [(2, fi (5)), (1, fi (iO (b) (iS (1) (m 14 4)))), (3, fi (m 14 4)), (0, .ref 13)] rfl (by decide) hL4 rfl rfl (fun L5 hL5 => ?_)
        refine f_goto rfl ?_
        have e9 : hv1 m 14 4 b = iO (b) (iS (1) (m 14 4)) := if_pos (by omega)
        rw [e9]
        exact hK5 hc1 (iO (b) (iS (1) (m 14 4))) _ hw1 hm1 iO_r (hL5.sel [0, 1, 3] rfl)
  have hK3 : ∀ (hc : ev_H) (b : Int) (L : ev_L), y_in yGw hc → gi hc = m → (-2147483648 ≤ b ∧ b ≤ 2147483647) → f_L L [(2, fi (3)), (1, fi (b)), (0, .ref 13)] → x_W none (1, 0, 4, 0, 7, 2, 42, 0, 0, ev_t56) 4 L [] hc 0 0 (fun r' h' => r' = some (fi (hv1 m 14 4 (hv1 m 14 3 (b)))) ∧ y_in yGw h' ∧ gi h' = m) := fun hc b L hw hm rb hL => by
    refine f_iln 0 rfl hL rfl ?_
    refine f_s [fi (5), fi (3)] rfl rfl ?_
    refine f_ic rfl (by decide) (by decide) (fun c_9 => absurd (show (5 : Int) ≤ (3 : Int) from c_9) (by decide)) (fun _ => ?_)
    refine f_aln 2 rfl hL rfl ?_
    refine m_gfr so13 rfl hw rfl (by decide) ?_
    refine f_iln 0 rfl hL rfl ?_
    refine m_ia sa14 (m 14 3) rfl hw hm (by omega) (by omega) (by decide) rfl ?_
    refine f_istn [(3, fi (m 14 3)), (2, fi (3)), (1, fi (b)), (0, .ref 13)] rfl (by decide) hL rfl (fun L6 hL6 => ?_)
    refine f_iln 0 rfl hL6 rfl ?_
    refine f_bipush (n := -9) rfl (by decide) ?_
    refine f_ic rfl (hR 14 3) (by decide) (fun c1 => ?_) (fun c1 => ?_)
    · have c1 : (m 14 3 : Int) = (-9 : Int) := c1
      refine f_inc 1 [(2, fi (4)), (3, fi (m 14 3)), (1, fi (b)), (0, .ref 13)] rfl (by decide) hL6 rfl rfl (fun L7 hL7 => ?_)
      refine f_goto rfl ?_
      have e9 : hv1 m 14 3 b = b := if_neg (by omega)
      rw [e9]
      exact hK4 hc (b) _ hw hm rb (hL7.sel [0, 2, 3] rfl)
    · have c1 : ¬ ((m 14 3 : Int) = (-9 : Int)) := c1
      refine f_aln 3 rfl hL6 rfl ?_
      refine m_gfr so13 rfl hw rfl (by decide) ?_
      refine f_iln 0 rfl hL6 rfl ?_
      refine m_k1 (t41 hn (hR 14 3)) hw hm rfl rfl rfl (m_ar so3 hw rfl) rfl (fun hc2 hw2 hm2 => ?_)
      refine f_s [fi (1), fi (kd m (m 14 3))] rfl rfl ?_
      refine f_ic rfl (kd_r hR _) (by decide) (fun c2 => ?_) (fun c2 => ?_)
      · have c2 : ¬ (kd m (m 14 3) : Int) = (1 : Int) := c2
        refine f_inc 1 [(2, fi (4)), (3, fi (m 14 3)), (1, fi (b)), (0, .ref 13)] rfl (by decide) hL6 rfl rfl (fun L8 hL8 => ?_)
        refine f_goto rfl ?_
        have e9 : hv1 m 14 3 b = b := if_neg (by omega)
        rw [e9]
        exact hK4 hc2 (b) _ hw2 hm2 rb (hL8.sel [0, 2, 3] rfl)
      · have c2 : ¬ (¬ (kd m (m 14 3) : Int) = (1 : Int)) := c2
        refine f_iln 2 rfl hL6 rfl ?_
        refine f_s [fi (1), fi (b)] rfl rfl ?_
        refine f_iln 0 rfl hL6 rfl ?_
        refine b_ishl rfl ?_
        refine b_ior rfl ?_
        refine f_istn [(1, fi (iO (b) (iS (1) (m 14 3)))), (3, fi (m 14 3)), (2, fi (3)), (0, .ref 13)] rfl (by decide) hL6 rfl (fun L9 hL9 => ?_)
        refine f_inc 2 [(2, fi (4)), (1, fi (iO (b) (iS (1) (m 14 3)))), (3, fi (m 14 3)), (0, .ref 13)] rfl (by decide) hL9 rfl rfl (fun L10 hL10 => ?_)
        refine f_goto rfl ?_
        have e9 : hv1 m 14 3 b = iO (b) (iS (1) (m 14 3)) := if_pos (by omega)
        rw [e9]
        exact hK4 hc2 (iO (b) (iS (1) (m 14 3))) _ hw2 hm2 iO_r (hL10.sel [0, 1, 3] rfl)
  have hK2 : ∀ (hc : ev_H) (b : Int) (L : ev_L), y_in yGw hc → gi hc = m → (-2147483648 ≤ b ∧ b ≤ 2147483647) → f_L L [(2, fi (2)), (1, fi (b)), (0, .ref 13)] → x_W none (1, 0, 4, 0, 7, 2, 42, 0, 0, ev_t56) 4 L [] hc 0 0 (fun r' h' => r' = some (fi (hv1 m 14 4 (hv1 m 14 3 (hv1 m 14 2 (b))))) ∧ y_in yGw h' ∧ gi h' = m) := fun hc b L hw hm rb hL => by
    refine f_iln 0 rfl hL rfl ?_
    refine f_s [fi (5), fi (2)] rfl rfl ?_
    refine f_ic rfl (by decide) (by decide) (fun c_9 => absurd (show (5 : Int) ≤ (2 : Int) from c_9) (by decide)) (fun _ => ?_)
    refine f_aln 2 rfl hL rfl ?_
    refine m_gfr so13 rfl hw rfl (by decide) ?_
    refine f_iln 0 rfl hL rfl ?_
    refine m_ia sa14 (m 14 2) rfl hw hm (by omega) (by omega) (by decide) rfl ?_
    refine f_istn [(3, fi (m 14 2)), (2, fi (2)), (1, fi (b)), (0, .ref 13)] rfl (by decide) hL rfl (fun L11 hL11 => ?_)
    refine f_iln 0 rfl hL11 rfl ?_
    refine f_bipush (n := -9) rfl (by decide) ?_
    refine f_ic rfl (hR 14 2) (by decide) (fun c1 => ?_) (fun c1 => ?_)
    · have c1 : (m 14 2 : Int) = (-9 : Int) := c1
      refine f_inc 1 [(2, fi (3)), (3, fi (m 14 2)), (1, fi (b)), (0, .ref 13)] rfl (by decide) hL11 rfl rfl (fun L12 hL12 => ?_)
      refine f_goto rfl ?_
      have e9 : hv1 m 14 2 b = b := if_neg (by omega)
      rw [e9]
      exact hK3 hc (b) _ hw hm rb (hL12.sel [0, 2, 3] rfl)
    · have c1 : ¬ ((m 14 2 : Int) = (-9 : Int)) := c1
      refine f_aln 3 rfl hL11 rfl ?_
      refine m_gfr so13 rfl hw rfl (by decide) ?_
      refine f_iln 0 rfl hL11 rfl ?_
      refine m_k1 (t41 hn (hR 14 2)) hw hm rfl rfl rfl (m_ar so3 hw rfl) rfl (fun hc3 hw3 hm3 => ?_)
      refine f_s [fi (1), fi (kd m (m 14 2))] rfl rfl ?_
      refine f_ic rfl (kd_r hR _) (by decide) (fun c2 => ?_) (fun c2 => ?_)
      · have c2 : ¬ (kd m (m 14 2) : Int) = (1 : Int) := c2
        refine f_inc 1 [(2, fi (3)), (3, fi (m 14 2)), (1, fi (b)), (0, .ref 13)] rfl (by decide) hL11 rfl rfl (fun L13 hL13 => ?_)
        refine f_goto rfl ?_
        have e9 : hv1 m 14 2 b = b := if_neg (by omega)
        rw [e9]
        exact hK3 hc3 (b) _ hw3 hm3 rb (hL13.sel [0, 2, 3] rfl)
      · have c2 : ¬ (¬ (kd m (m 14 2) : Int) = (1 : Int)) := c2
        refine f_iln 2 rfl hL11 rfl ?_
        refine f_s [fi (1), fi (b)] rfl rfl ?_
        refine f_iln 0 rfl hL11 rfl ?_
        refine b_ishl rfl ?_
        refine b_ior rfl ?_
        refine f_istn [(1, fi (iO (b) (iS (1) (m 14 2)))), (3, fi (m 14 2)), (2, fi (2)), (0, .ref 13)] rfl (by decide) hL11 rfl (fun L14 hL14 => ?_)
        refine f_inc 2 [(2, fi (3)), (1, fi (iO (b) (iS (1) (m 14 2)))), (3, fi (m 14 2)), (0, .ref 13)] rfl (by decide) hL14 rfl rfl (fun L15 hL15 => ?_)
        refine f_goto rfl ?_
        have e9 : hv1 m 14 2 b = iO (b) (iS (1) (m 14 2)) := if_pos (by omega)
        rw [e9]
        exact hK3 hc3 (iO (b) (iS (1) (m 14 2))) _ hw3 hm3 iO_r (hL15.sel [0, 1, 3] rfl)
  have hK1 : ∀ (hc : ev_H) (b : Int) (L : ev_L), y_in yGw hc → gi hc = m → (-2147483648 ≤ b ∧ b ≤ 2147483647) → f_L L [(2, fi (1)), (1, fi (b)), (0, .ref 13)] → x_W none (1, 0, 4, 0, 7, 2, 42, 0, 0, ev_t56) 4 L [] hc 0 0 (fun r' h' => r' = some (fi (hv1 m 14 4 (hv1 m 14 3 (hv1 m 14 2 (hv1 m 14 1 (b)))))) ∧ y_in yGw h' ∧ gi h' = m) := fun hc b L hw hm rb hL => by
    refine f_iln 0 rfl hL rfl ?_
    refine f_s [fi (5), fi (1)] rfl rfl ?_
    refine f_ic rfl (by decide) (by decide) (fun c_9 => absurd (show (5 : Int) ≤ (1 : Int) from c_9) (by decide)) (fun _ => ?_)
    refine f_aln 2 rfl hL rfl ?_
    refine m_gfr so13 rfl hw rfl (by decide) ?_
    refine f_iln 0 rfl hL rfl ?_
    refine m_ia sa14 (m 14 1) rfl hw hm (by omega) (by omega) (by decide) rfl ?_
    refine f_istn [(3, fi (m 14 1)), (2, fi (1)), (1, fi (b)), (0, .ref 13)] rfl (by decide) hL rfl (fun L16 hL16 => ?_)
    refine f_iln 0 rfl hL16 rfl ?_
    refine f_bipush (n := -9) rfl (by decide) ?_
    refine f_ic rfl (hR 14 1) (by decide) (fun c1 => ?_) (fun c1 => ?_)
    · have c1 : (m 14 1 : Int) = (-9 : Int) := c1
      refine f_inc 1 [(2, fi (2)), (3, fi (m 14 1)), (1, fi (b)), (0, .ref 13)] rfl (by decide) hL16 rfl rfl (fun L17 hL17 => ?_)
      refine f_goto rfl ?_
      have e9 : hv1 m 14 1 b = b := if_neg (by omega)
      rw [e9]
      exact hK2 hc (b) _ hw hm rb (hL17.sel [0, 2, 3] rfl)
    · have c1 : ¬ ((m 14 1 : Int) = (-9 : Int)) := c1
      refine f_aln 3 rfl hL16 rfl ?_
      refine m_gfr so13 rfl hw rfl (by decide) ?_
      refine f_iln 0 rfl hL16 rfl ?_
      refine m_k1 (t41 hn (hR 14 1)) hw hm rfl rfl rfl (m_ar so3 hw rfl) rfl (fun hc4 hw4 hm4 => ?_)
      refine f_s [fi (1), fi (kd m (m 14 1))] rfl rfl ?_
      refine f_ic rfl (kd_r hR _) (by decide) (fun c2 => ?_) (fun c2 => ?_)
      · have c2 : ¬ (kd m (m 14 1) : Int) = (1 : Int) := c2
        refine f_inc 1 [(2, fi (2)), (3, fi (m 14 1)), (1, fi (b)), (0, .ref 13)] rfl (by decide) hL16 rfl rfl (fun L18 hL18 => ?_)
        refine f_goto rfl ?_
        have e9 : hv1 m 14 1 b = b := if_neg (by omega)
        rw [e9]
        exact hK2 hc4 (b) _ hw4 hm4 rb (hL18.sel [0, 2, 3] rfl)
      · have c2 : ¬ (¬ (kd m (m 14 1) : Int) = (1 : Int)) := c2
        refine f_iln 2 rfl hL16 rfl ?_
        refine f_s [fi (1), fi (b)] rfl rfl ?_
        refine f_iln 0 rfl hL16 rfl ?_
        refine b_ishl rfl ?_
        refine b_ior rfl ?_
        refine f_istn [(1, fi (iO (b) (iS (1) (m 14 1)))), (3, fi (m 14 1)), (2, fi (1)), (0, .ref 13)] rfl (by decide) hL16 rfl (fun L19 hL19 => ?_)
        refine f_inc 2 [(2, fi (2)), (1, fi (iO (b) (iS (1) (m 14 1)))), (3, fi (m 14 1)), (0, .ref 13)] rfl (by decide) hL19 rfl rfl (fun L20 hL20 => ?_)
        refine f_goto rfl ?_
        have e9 : hv1 m 14 1 b = iO (b) (iS (1) (m 14 1)) := if_pos (by omega)
        rw [e9]
        exact hK2 hc4 (iO (b) (iS (1) (m 14 1))) _ hw4 hm4 iO_r (hL20.sel [0, 1, 3] rfl)
  have hK0 : ∀ (hc : ev_H) (b : Int) (L : ev_L), y_in yGw hc → gi hc = m → (-2147483648 ≤ b ∧ b ≤ 2147483647) → f_L L [(2, fi (0)), (1, fi (b)), (0, .ref 13)] → x_W none (1, 0, 4, 0, 7, 2, 42, 0, 0, ev_t56) 4 L [] hc 0 0 (fun r' h' => r' = some (fi (hv1 m 14 4 (hv1 m 14 3 (hv1 m 14 2 (hv1 m 14 1 (hv1 m 14 0 (b))))))) ∧ y_in yGw h' ∧ gi h' = m) := fun hc b L hw hm rb hL => by
    refine f_iln 0 rfl hL rfl ?_
    refine f_s [fi (5), fi (0)] rfl rfl ?_
    refine f_ic rfl (by decide) (by decide) (fun c_9 => absurd (show (5 : Int) ≤ (0 : Int) from c_9) (by decide)) (fun _ => ?_)
    refine f_aln 2 rfl hL rfl ?_
    refine m_gfr so13 rfl hw rfl (by decide) ?_
    refine f_iln 0 rfl hL rfl ?_
    refine m_ia sa14 (m 14 0) rfl hw hm (by omega) (by omega) (by decide) rfl ?_
    refine f_istn [(3, fi (m 14 0)), (2, fi (0)), (1, fi (b)), (0, .ref 13)] rfl (by decide) hL rfl (fun L21 hL21 => ?_)
    refine f_iln 0 rfl hL21 rfl ?_
    refine f_bipush (n := -9) rfl (by decide) ?_
    refine f_ic rfl (hR 14 0) (by decide) (fun c1 => ?_) (fun c1 => ?_)
    · have c1 : (m 14 0 : Int) = (-9 : Int) := c1
      refine f_inc 1 [(2, fi (1)), (3, fi (m 14 0)), (1, fi (b)), (0, .ref 13)] rfl (by decide) hL21 rfl rfl (fun L22 hL22 => ?_)
      refine f_goto rfl ?_
      have e9 : hv1 m 14 0 b = b := if_neg (by omega)
      rw [e9]
      exact hK1 hc (b) _ hw hm rb (hL22.sel [0, 2, 3] rfl)
    · have c1 : ¬ ((m 14 0 : Int) = (-9 : Int)) := c1
      refine f_aln 3 rfl hL21 rfl ?_
      refine m_gfr so13 rfl hw rfl (by decide) ?_
      refine f_iln 0 rfl hL21 rfl ?_
      refine m_k1 (t41 hn (hR 14 0)) hw hm rfl rfl rfl (m_ar so3 hw rfl) rfl (fun hc5 hw5 hm5 => ?_)
      refine f_s [fi (1), fi (kd m (m 14 0))] rfl rfl ?_
      refine f_ic rfl (kd_r hR _) (by decide) (fun c2 => ?_) (fun c2 => ?_)
      · have c2 : ¬ (kd m (m 14 0) : Int) = (1 : Int) := c2
        refine f_inc 1 [(2, fi (1)), (3, fi (m 14 0)), (1, fi (b)), (0, .ref 13)] rfl (by decide) hL21 rfl rfl (fun L23 hL23 => ?_)
        refine f_goto rfl ?_
        have e9 : hv1 m 14 0 b = b := if_neg (by omega)
        rw [e9]
        exact hK1 hc5 (b) _ hw5 hm5 rb (hL23.sel [0, 2, 3] rfl)
      · have c2 : ¬ (¬ (kd m (m 14 0) : Int) = (1 : Int)) := c2
        refine f_iln 2 rfl hL21 rfl ?_
        refine f_s [fi (1), fi (b)] rfl rfl ?_
        refine f_iln 0 rfl hL21 rfl ?_
        refine b_ishl rfl ?_
        refine b_ior rfl ?_
        refine f_istn [(1, fi (iO (b) (iS (1) (m 14 0)))), (3, fi (m 14 0)), (2, fi (0)), (0, .ref 13)] rfl (by decide) hL21 rfl (fun L24 hL24 => ?_)
        refine f_inc 2 [(2, fi (1)), (1, fi (iO (b) (iS (1) (m 14 0)))), (3, fi (m 14 0)), (0, .ref 13)] rfl (by decide) hL24 rfl rfl (fun L25 hL25 => ?_)
        refine f_goto rfl ?_
        have e9 : hv1 m 14 0 b = iO (b) (iS (1) (m 14 0)) := if_pos (by omega)
        rw [e9]
        exact hK1 hc5 (iO (b) (iS (1) (m 14 0))) _ hw5 hm5 iO_r (hL25.sel [0, 1, 3] rfl)
  refine f_s [fi (0)] rfl rfl ?_
  refine f_istn [(1, fi (0)), (0, .ref 13)] rfl (by decide) hL rfl (fun L26 hL26 => ?_)
  refine f_s [fi (0)] rfl rfl ?_
  refine f_istn [(2, fi (0)), (1, fi (0)), (0, .ref 13)] rfl (by decide) hL26 rfl (fun L27 hL27 => ?_)
  exact hK0 hc 0 _ hw hm (by decide) (hL27.sel [0, 1, 2] rfl))
theorem t57_13 {m : Nat → Nat → Int} (hn : 0 ≤ m 3 5 ∧ m 3 5 ≤ 4) : h_M 57 [.ref 13] m (some (fi (sbS m 14))) m := h_M_of (R := ev_r57) rfl (fun hc hw hm => by
  have hL : f_L (lv_args 0 [.ref 13]) [(0, .ref 13)] := f_L_of rfl
  generalize lv_args 0 [.ref 13] = L at hL
  show x_W none (1, 0, 5, 0, 7, 3, 65, 0, 0, ev_t57) 0 L [] hc 0 0 _
  have hR := gi_R hm
  refine f_aln 0 rfl hL rfl ?_
  refine m_k1 (t56_13 hn) hw hm rfl rfl rfl (m_ar so13 hw rfl) rfl (fun hc1 hw1 hm1 => ?_)
  have hK5 : ∀ (hc : ev_H) (b : Int) (L : ev_L), y_in yGw hc → gi hc = m → (-2147483648 ≤ b ∧ b ≤ 2147483647) → f_L L [(3, fi (5)), (2, fi (b)), (0, .ref 13), (1, fi (hwS m 14))] → x_W none (1, 0, 5, 0, 7, 3, 65, 0, 0, ev_t57) 9 L [] hc 0 0 (fun r' h' => r' = some (fi (b)) ∧ y_in yGw h' ∧ gi h' = m) := fun hc b L hw hm rb hL => by
    refine f_iln 0 rfl hL rfl ?_
    refine f_s [fi (5), fi (5)] rfl rfl ?_
    refine f_ic rfl (by decide) (by decide) (fun _ => ?_) (fun c_9 => absurd (show (5 : Int) ≤ (5 : Int) from (by decide)) c_9)
    refine f_iln 1 rfl hL rfl ?_
    exact f_ret1 rfl ⟨rfl, hw, hm⟩
  have hK4 : ∀ (hc : ev_H) (b : Int) (L : ev_L), y_in yGw hc → gi hc = m → (-2147483648 ≤ b ∧ b ≤ 2147483647) → f_L L [(3, fi (4)), (2, fi (b)), (0, .ref 13), (1, fi (hwS m 14))] → x_W none (1, 0, 5, 0, 7, 3, 65, 0, 0, ev_t57) 9 L [] hc 0 0 (fun r' h' => r' = some (fi (sb1 m 14 (hwS m 14) 4 (iS 1 4) (b))) ∧ y_in yGw h' ∧ gi h' = m) := fun hc b L hw hm rb hL => by
    refine f_iln 0 rfl hL rfl ?_
    refine f_s [fi (5), fi (4)] rfl rfl ?_
    refine f_ic rfl (by decide) (by decide) (fun c_9 => absurd (show (5 : Int) ≤ (4 : Int) from c_9) (by decide)) (fun _ => ?_)
    refine f_aln 2 rfl hL rfl ?_
    refine m_gfr so13 rfl hw rfl (by decide) ?_
    refine f_iln 0 rfl hL rfl ?_
    refine m_ia sa14 (m 14 4) rfl hw hm (by omega) (by omega) (by decide) rfl ?_
    refine f_ist [(4, fi (m 14 4)), (3, fi (4)), (2, fi (b)), (0, .ref 13), (1, fi (hwS m 14))] rfl (by decide) hL rfl (fun L1 hL1 => ?_)
    refine f_il 0 rfl hL1 rfl ?_
    refine f_bipush (n := -9) rfl (by decide) ?_
    refine f_ic rfl (hR 14 4) (by decide) (fun c1 => ?_) (fun c1 => ?_)
    · have c1 : (m 14 4 : Int) = (-9 : Int) := c1
      refine f_inc 1 [(3, fi (5)), (4, fi (m 14 4)), (2, fi (b)), (0, .ref 13), (1, fi (hwS m 14))] rfl (by decide) hL1 rfl rfl (fun L2 hL2 => ?_)
      refine f_goto rfl ?_
      have e9 : sb1 m 14 (hwS m 14) 4 (iS 1 4) b = b := if_neg (by omega)
      rw [e9]
      exact hK5 hc (b) _ hw hm rb (hL2.sel [0, 2, 3, 4] rfl)
    · have c1 : ¬ ((m 14 4 : Int) = (-9 : Int)) := c1
      refine f_aln 3 rfl hL1 rfl ?_
      refine m_gfr so13 rfl hw rfl (by decide) ?_
      refine f_il 0 rfl hL1 rfl ?_
      refine m_k1 (t41 hn (hR 14 4)) hw hm rfl rfl rfl (m_ar so3 hw rfl) rfl (fun hc2 hw2 hm2 => ?_)
      refine f_s [fi (1), fi (kd m (m 14 4))] rfl rfl ?_
      refine f_ic rfl (kd_r hR _) (by decide) (fun c2 => ?_) (fun c2 => ?_)
      · have c2 : ¬ (kd m (m 14 4) : Int) = (1 : Int) := c2
        refine f_iln 2 rfl hL1 rfl ?_
        refine f_s [fi (1), fi (b)] rfl rfl ?_
        refine f_iln 1 rfl hL1 rfl ?_
        refine b_ishl rfl ?_
        refine b_ior rfl ?_
        refine f_istn [(2, fi (iO (b) (iS (1) (4)))), (4, fi (m 14 4)), (3, fi (4)), (0, .ref 13), (1, fi (hwS m 14))] rfl (by decide) hL1 rfl (fun L3 hL3 => ?_)
        refine f_inc 2 [(3, fi (5)), (2, fi (iO (b) (iS (1) (4)))), (4, fi (m 14 4)), (0, .ref 13), (1, fi (hwS m 14))] rfl (by decide) hL3 rfl rfl (fun L4 hL4 => ?_)
        refine f_goto rfl ?_
        have e9 : sb1 m 14 (hwS m 14) 4 (iS 1 4) b = iO (b) (iS (1) (4)) := if_pos (by omega)
        rw [e9]
        exact hK5 hc2 (iO (b) (iS (1) (4))) _ hw2 hm2 iO_r (hL4.sel [0, 1, 3, 4] rfl)
      · have c2 : ¬ (¬ (kd m (m 14 4) : Int) = (1 : Int)) := c2
        refine f_iln 4 rfl hL1 rfl ?_
        refine f_s [fi (1), fi (hwS m 14)] rfl rfl ?_
        refine f_il 0 rfl hL1 rfl ?_
        refine b_ishl rfl ?_
        refine f_s [fi (-1), fi (iS (1) (m 14 4)), fi (hwS m 14)] rfl rfl ?_
        refine b_ixor rfl ?_
        refine b_iand rfl ?_
        refine f_if rfl iA_r (fun c3 => ?_) (fun c3 => ?_)
        · have c3 : (iA (hwS m 14) (iX (iS (1) (m 14 4)) (-1)) : Int) = (0 : Int) := c3
          refine f_inc 1 [(3, fi (5)), (4, fi (m 14 4)), (2, fi (b)), (0, .ref 13), (1, fi (hwS m 14))] rfl (by decide) hL1 rfl rfl (fun L5 hL5 => ?_)
          refine f_goto rfl ?_
          have e9 : sb1 m 14 (hwS m 14) 4 (iS 1 4) b = b := if_neg (by omega)
          rw [e9]
          exact hK5 hc2 (b) _ hw2 hm2 rb (hL5.sel [0, 2, 3, 4] rfl)
        · have c3 : ¬ ((iA (hwS m 14) (iX (iS (1) (m 14 4)) (-1)) : Int) = (0 : Int)) := c3
          refine f_iln 2 rfl hL1 rfl ?_
          refine f_s [fi (1), fi (b)] rfl rfl ?_
          refine f_iln 1 rfl hL1 rfl ?_
          refine b_ishl rfl ?_
          refine b_ior rfl ?_
          refine f_istn [(2, fi (iO (b) (iS (1) (4)))), (4, fi (m 14 4)), (3, fi (4)), (0, .ref 13), (1, fi (hwS m 14))] rfl (by decide) hL1 rfl (fun L6 hL6 => ?_)
          refine f_inc 2 [(3, fi (5)), (2, fi (iO (b) (iS (1) (4)))), (4, fi (m 14 4)), (0, .ref 13), (1, fi (hwS m 14))] rfl (by decide) hL6 rfl rfl (fun L7 hL7 => ?_)
          refine f_goto rfl ?_
          have e9 : sb1 m 14 (hwS m 14) 4 (iS 1 4) b = iO (b) (iS (1) (4)) := if_pos (by omega)
          rw [e9]
          exact hK5 hc2 (iO (b) (iS (1) (4))) _ hw2 hm2 iO_r (hL7.sel [0, 1, 3, 4] rfl)
  have hK3 : ∀ (hc : ev_H) (b : Int) (L : ev_L), y_in yGw hc → gi hc = m → (-2147483648 ≤ b ∧ b ≤ 2147483647) → f_L L [(3, fi (3)), (2, fi (b)), (0, .ref 13), (1, fi (hwS m 14))] → x_W none (1, 0, 5, 0, 7, 3, 65, 0, 0, ev_t57) 9 L [] hc 0 0 (fun r' h' => r' = some (fi (sb1 m 14 (hwS m 14) 4 (iS 1 4) (sb1 m 14 (hwS m 14) 3 (iS 1 3) (b)))) ∧ y_in yGw h' ∧ gi h' = m) := fun hc b L hw hm rb hL => by
    refine f_iln 0 rfl hL rfl ?_
    refine f_s [fi (5), fi (3)] rfl rfl ?_
    refine f_ic rfl (by decide) (by decide) (fun c_9 => absurd (show (5 : Int) ≤ (3 : Int) from c_9) (by decide)) (fun _ => ?_)
    refine f_aln 2 rfl hL rfl ?_
    refine m_gfr so13 rfl hw rfl (by decide) ?_
    refine f_iln 0 rfl hL rfl ?_
    refine m_ia sa14 (m 14 3) rfl hw hm (by omega) (by omega) (by decide) rfl ?_
    refine f_ist [(4, fi (m 14 3)), (3, fi (3)), (2, fi (b)), (0, .ref 13), (1, fi (hwS m 14))] rfl (by decide) hL rfl (fun L8 hL8 => ?_)
    refine f_il 0 rfl hL8 rfl ?_
    refine f_bipush (n := -9) rfl (by decide) ?_
    refine f_ic rfl (hR 14 3) (by decide) (fun c1 => ?_) (fun c1 => ?_)
    · have c1 : (m 14 3 : Int) = (-9 : Int) := c1
      refine f_inc 1 [(3, fi (4)), (4, fi (m 14 3)), (2, fi (b)), (0, .ref 13), (1, fi (hwS m 14))] rfl (by decide) hL8 rfl rfl (fun L9 hL9 => ?_)
      refine f_goto rfl ?_
      have e9 : sb1 m 14 (hwS m 14) 3 (iS 1 3) b = b := if_neg (by omega)
      rw [e9]
      exact hK4 hc (b) _ hw hm rb (hL9.sel [0, 2, 3, 4] rfl)
    · have c1 : ¬ ((m 14 3 : Int) = (-9 : Int)) := c1
      refine f_aln 3 rfl hL8 rfl ?_
      refine m_gfr so13 rfl hw rfl (by decide) ?_
      refine f_il 0 rfl hL8 rfl ?_
      refine m_k1 (t41 hn (hR 14 3)) hw hm rfl rfl rfl (m_ar so3 hw rfl) rfl (fun hc3 hw3 hm3 => ?_)
      refine f_s [fi (1), fi (kd m (m 14 3))] rfl rfl ?_
      refine f_ic rfl (kd_r hR _) (by decide) (fun c2 => ?_) (fun c2 => ?_)
      · have c2 : ¬ (kd m (m 14 3) : Int) = (1 : Int) := c2
        refine f_iln 2 rfl hL8 rfl ?_
        refine f_s [fi (1), fi (b)] rfl rfl ?_
        refine f_iln 1 rfl hL8 rfl ?_
        refine b_ishl rfl ?_
        refine b_ior rfl ?_
        refine f_istn [(2, fi (iO (b) (iS (1) (3)))), (4, fi (m 14 3)), (3, fi (3)), (0, .ref 13), (1, fi (hwS m 14))] rfl (by decide) hL8 rfl (fun L10 hL10 => ?_)
        refine f_inc 2 [(3, fi (4)), (2, fi (iO (b) (iS (1) (3)))), (4, fi (m 14 3)), (0, .ref 13), (1, fi (hwS m 14))] rfl (by decide) hL10 rfl rfl (fun L11 hL11 => ?_)
        refine f_goto rfl ?_
        have e9 : sb1 m 14 (hwS m 14) 3 (iS 1 3) b = iO (b) (iS (1) (3)) := if_pos (by omega)
        rw [e9]
        exact hK4 hc3 (iO (b) (iS (1) (3))) _ hw3 hm3 iO_r (hL11.sel [0, 1, 3, 4] rfl)
      · have c2 : ¬ (¬ (kd m (m 14 3) : Int) = (1 : Int)) := c2
        refine f_iln 4 rfl hL8 rfl ?_
        refine f_s [fi (1), fi (hwS m 14)] rfl rfl ?_
        refine f_il 0 rfl hL8 rfl ?_
        refine b_ishl rfl ?_
        refine f_s [fi (-1), fi (iS (1) (m 14 3)), fi (hwS m 14)] rfl rfl ?_
        refine b_ixor rfl ?_
        refine b_iand rfl ?_
        refine f_if rfl iA_r (fun c3 => ?_) (fun c3 => ?_)
        · have c3 : (iA (hwS m 14) (iX (iS (1) (m 14 3)) (-1)) : Int) = (0 : Int) := c3
          refine f_inc 1 [(3, fi (4)), (4, fi (m 14 3)), (2, fi (b)), (0, .ref 13), (1, fi (hwS m 14))] rfl (by decide) hL8 rfl rfl (fun L12 hL12 => ?_)
          refine f_goto rfl ?_
          have e9 : sb1 m 14 (hwS m 14) 3 (iS 1 3) b = b := if_neg (by omega)
          rw [e9]
          exact hK4 hc3 (b) _ hw3 hm3 rb (hL12.sel [0, 2, 3, 4] rfl)
        · have c3 : ¬ ((iA (hwS m 14) (iX (iS (1) (m 14 3)) (-1)) : Int) = (0 : Int)) := c3
          refine f_iln 2 rfl hL8 rfl ?_
          refine f_s [fi (1), fi (b)] rfl rfl ?_
          refine f_iln 1 rfl hL8 rfl ?_
          refine b_ishl rfl ?_
          refine b_ior rfl ?_
          refine f_istn [(2, fi (iO (b) (iS (1) (3)))), (4, fi (m 14 3)), (3, fi (3)), (0, .ref 13), (1, fi (hwS m 14))] rfl (by decide) hL8 rfl (fun L13 hL13 => ?_)
          refine f_inc 2 [(3, fi (4)), (2, fi (iO (b) (iS (1) (3)))), (4, fi (m 14 3)), (0, .ref 13), (1, fi (hwS m 14))] rfl (by decide) hL13 rfl rfl (fun L14 hL14 => ?_)
          refine f_goto rfl ?_
          have e9 : sb1 m 14 (hwS m 14) 3 (iS 1 3) b = iO (b) (iS (1) (3)) := if_pos (by omega)
          rw [e9]
          exact hK4 hc3 (iO (b) (iS (1) (3))) _ hw3 hm3 iO_r (hL14.sel [0, 1, 3, 4] rfl)
  have hK2 : ∀ (hc : ev_H) (b : Int) (L : ev_L), y_in yGw hc → gi hc = m → (-2147483648 ≤ b ∧ b ≤ 2147483647) → f_L L [(3, fi (2)), (2, fi (b)), (0, .ref 13), (1, fi (hwS m 14))] → x_W none (1, 0, 5, 0, 7, 3, 65, 0, 0, ev_t57) 9 L [] hc 0 0 (fun r' h' => r' = some (fi (sb1 m 14 (hwS m 14) 4 (iS 1 4) (sb1 m 14 (hwS m 14) 3 (iS 1 3) (sb1 m 14 (hwS m 14) 2 (iS 1 2) (b))))) ∧ y_in yGw h' ∧ gi h' = m) := fun hc b L hw hm rb hL => by
    refine f_iln 0 rfl hL rfl ?_
    refine f_s [fi (5), fi (2)] rfl rfl ?_
    refine f_ic rfl (by decide) (by decide) (fun c_9 => absurd (show (5 : Int) ≤ (2 : Int) from c_9) (by decide)) (fun _ => ?_)
    refine f_aln 2 rfl hL rfl ?_
    refine m_gfr so13 rfl hw rfl (by decide) ?_
    refine f_iln 0 rfl hL rfl ?_
    refine m_ia sa14 (m 14 2) rfl hw hm (by omega) (by omega) (by decide) rfl ?_
    refine f_ist [(4, fi (m 14 2)), (3, fi (2)), (2, fi (b)), (0, .ref 13), (1, fi (hwS m 14))] rfl (by decide) hL rfl (fun L15 hL15 => ?_)
    refine f_il 0 rfl hL15 rfl ?_
    refine f_bipush (n := -9) rfl (by decide) ?_
    refine f_ic rfl (hR 14 2) (by decide) (fun c1 => ?_) (fun c1 => ?_)
    · have c1 : (m 14 2 : Int) = (-9 : Int) := c1
      refine f_inc 1 [(3, fi (3)), (4, fi (m 14 2)), (2, fi (b)), (0, .ref 13), (1, fi (hwS m 14))] rfl (by decide) hL15 rfl rfl (fun L16 hL16 => ?_)
      refine f_goto rfl ?_
      have e9 : sb1 m 14 (hwS m 14) 2 (iS 1 2) b = b := if_neg (by omega)
      rw [e9]
      exact hK3 hc (b) _ hw hm rb (hL16.sel [0, 2, 3, 4] rfl)
    · have c1 : ¬ ((m 14 2 : Int) = (-9 : Int)) := c1
      refine f_aln 3 rfl hL15 rfl ?_
      refine m_gfr so13 rfl hw rfl (by decide) ?_
      refine f_il 0 rfl hL15 rfl ?_
      refine m_k1 (t41 hn (hR 14 2)) hw hm rfl rfl rfl (m_ar so3 hw rfl) rfl (fun hc4 hw4 hm4 => ?_)
      refine f_s [fi (1), fi (kd m (m 14 2))] rfl rfl ?_
      refine f_ic rfl (kd_r hR _) (by decide) (fun c2 => ?_) (fun c2 => ?_)
      · have c2 : ¬ (kd m (m 14 2) : Int) = (1 : Int) := c2
        refine f_iln 2 rfl hL15 rfl ?_
        refine f_s [fi (1), fi (b)] rfl rfl ?_
        refine f_iln 1 rfl hL15 rfl ?_
        refine b_ishl rfl ?_
        refine b_ior rfl ?_
        refine f_istn [(2, fi (iO (b) (iS (1) (2)))), (4, fi (m 14 2)), (3, fi (2)), (0, .ref 13), (1, fi (hwS m 14))] rfl (by decide) hL15 rfl (fun L17 hL17 => ?_)
        refine f_inc 2 [(3, fi (3)), (2, fi (iO (b) (iS (1) (2)))), (4, fi (m 14 2)), (0, .ref 13), (1, fi (hwS m 14))] rfl (by decide) hL17 rfl rfl (fun L18 hL18 => ?_)
        refine f_goto rfl ?_
        have e9 : sb1 m 14 (hwS m 14) 2 (iS 1 2) b = iO (b) (iS (1) (2)) := if_pos (by omega)
        rw [e9]
        exact hK3 hc4 (iO (b) (iS (1) (2))) _ hw4 hm4 iO_r (hL18.sel [0, 1, 3, 4] rfl)
      · have c2 : ¬ (¬ (kd m (m 14 2) : Int) = (1 : Int)) := c2
        refine f_iln 4 rfl hL15 rfl ?_
        refine f_s [fi (1), fi (hwS m 14)] rfl rfl ?_
        refine f_il 0 rfl hL15 rfl ?_
        refine b_ishl rfl ?_
        refine f_s [fi (-1), fi (iS (1) (m 14 2)), fi (hwS m 14)] rfl rfl ?_
        refine b_ixor rfl ?_
        refine b_iand rfl ?_
        refine f_if rfl iA_r (fun c3 => ?_) (fun c3 => ?_)
        · have c3 : (iA (hwS m 14) (iX (iS (1) (m 14 2)) (-1)) : Int) = (0 : Int) := c3
          refine f_inc 1 [(3, fi (3)), (4, fi (m 14 2)), (2, fi (b)), (0, .ref 13), (1, fi (hwS m 14))] rfl (by decide) hL15 rfl rfl (fun L19 hL19 => ?_)
          refine f_goto rfl ?_
          have e9 : sb1 m 14 (hwS m 14) 2 (iS 1 2) b = b := if_neg (by omega)
          rw [e9]
          exact hK3 hc4 (b) _ hw4 hm4 rb (hL19.sel [0, 2, 3, 4] rfl)
        · have c3 : ¬ ((iA (hwS m 14) (iX (iS (1) (m 14 2)) (-1)) : Int) = (0 : Int)) := c3
          refine f_iln 2 rfl hL15 rfl ?_
          refine f_s [fi (1), fi (b)] rfl rfl ?_
          refine f_iln 1 rfl hL15 rfl ?_
          refine b_ishl rfl ?_
          refine b_ior rfl ?_
          refine f_istn [(2, fi (iO (b) (iS (1) (2)))), (4, fi (m 14 2)), (3, fi (2)), (0, .ref 13), (1, fi (hwS m 14))] rfl (by decide) hL15 rfl (fun L20 hL20 => ?_)
          refine f_inc 2 [(3, fi (3)), (2, fi (iO (b) (iS (1) (2)))), (4, fi (m 14 2)), (0, .ref 13), (1, fi (hwS m 14))] rfl (by decide) hL20 rfl rfl (fun L21 hL21 => ?_)
          refine f_goto rfl ?_
          have e9 : sb1 m 14 (hwS m 14) 2 (iS 1 2) b = iO (b) (iS (1) (2)) := if_pos (by omega)
          rw [e9]
          exact hK3 hc4 (iO (b) (iS (1) (2))) _ hw4 hm4 iO_r (hL21.sel [0, 1, 3, 4] rfl)
  have hK1 : ∀ (hc : ev_H) (b : Int) (L : ev_L), y_in yGw hc → gi hc = m → (-2147483648 ≤ b ∧ b ≤ 2147483647) → f_L L [(3, fi (1)), (2, fi (b)), (0, .ref 13), (1, fi (hwS m 14))] → x_W none (1, 0, 5, 0, 7, 3, 65, 0, 0, ev_t57) 9 L [] hc 0 0 (fun r' h' => r' = some (fi (sb1 m 14 (hwS m 14) 4 (iS 1 4) (sb1 m 14 (hwS m 14) 3 (iS 1 3) (sb1 m 14 (hwS m 14) 2 (iS 1 2) (sb1 m 14 (hwS m 14) 1 (iS 1 1) (b)))))) ∧ y_in yGw h' ∧ gi h' = m) := fun hc b L hw hm rb hL => by
    refine f_iln 0 rfl hL rfl ?_
    refine f_s [fi (5), fi (1)] rfl rfl ?_
    refine f_ic rfl (by decide) (by decide) (fun c_9 => absurd (show (5 : Int) ≤ (1 : Int) from c_9) (by decide)) (fun _ => ?_)
    refine f_aln 2 rfl hL rfl ?_
    refine m_gfr so13 rfl hw rfl (by decide) ?_
    refine f_iln 0 rfl hL rfl ?_
    refine m_ia sa14 (m 14 1) rfl hw hm (by omega) (by omega) (by decide) rfl ?_
    refine f_ist [(4, fi (m 14 1)), (3, fi (1)), (2, fi (b)), (0, .ref 13), (1, fi (hwS m 14))] rfl (by decide) hL rfl (fun L22 hL22 => ?_)
    refine f_il 0 rfl hL22 rfl ?_
    refine f_bipush (n := -9) rfl (by decide) ?_
    refine f_ic rfl (hR 14 1) (by decide) (fun c1 => ?_) (fun c1 => ?_)
    · have c1 : (m 14 1 : Int) = (-9 : Int) := c1
      refine f_inc 1 [(3, fi (2)), (4, fi (m 14 1)), (2, fi (b)), (0, .ref 13), (1, fi (hwS m 14))] rfl (by decide) hL22 rfl rfl (fun L23 hL23 => ?_)
      refine f_goto rfl ?_
      have e9 : sb1 m 14 (hwS m 14) 1 (iS 1 1) b = b := if_neg (by omega)
      rw [e9]
      exact hK2 hc (b) _ hw hm rb (hL23.sel [0, 2, 3, 4] rfl)
    · have c1 : ¬ ((m 14 1 : Int) = (-9 : Int)) := c1
      refine f_aln 3 rfl hL22 rfl ?_
      refine m_gfr so13 rfl hw rfl (by decide) ?_
      refine f_il 0 rfl hL22 rfl ?_
      refine m_k1 (t41 hn (hR 14 1)) hw hm rfl rfl rfl (m_ar so3 hw rfl) rfl (fun hc5 hw5 hm5 => ?_)
      refine f_s [fi (1), fi (kd m (m 14 1))] rfl rfl ?_
      refine f_ic rfl (kd_r hR _) (by decide) (fun c2 => ?_) (fun c2 => ?_)
      · have c2 : ¬ (kd m (m 14 1) : Int) = (1 : Int) := c2
        refine f_iln 2 rfl hL22 rfl ?_
        refine f_s [fi (1), fi (b)] rfl rfl ?_
        refine f_iln 1 rfl hL22 rfl ?_
        refine b_ishl rfl ?_
        refine b_ior rfl ?_
        refine f_istn [(2, fi (iO (b) (iS (1) (1)))), (4, fi (m 14 1)), (3, fi (1)), (0, .ref 13), (1, fi (hwS m 14))] rfl (by decide) hL22 rfl (fun L24 hL24 => ?_)
        refine f_inc 2 [(3, fi (2)), (2, fi (iO (b) (iS (1) (1)))), (4, fi (m 14 1)), (0, .ref 13), (1, fi (hwS m 14))] rfl (by decide) hL24 rfl rfl (fun L25 hL25 => ?_)
        refine f_goto rfl ?_
        have e9 : sb1 m 14 (hwS m 14) 1 (iS 1 1) b = iO (b) (iS (1) (1)) := if_pos (by omega)
        rw [e9]
        exact hK2 hc5 (iO (b) (iS (1) (1))) _ hw5 hm5 iO_r (hL25.sel [0, 1, 3, 4] rfl)
      · have c2 : ¬ (¬ (kd m (m 14 1) : Int) = (1 : Int)) := c2
        refine f_iln 4 rfl hL22 rfl ?_
        refine f_s [fi (1), fi (hwS m 14)] rfl rfl ?_
        refine f_il 0 rfl hL22 rfl ?_
        refine b_ishl rfl ?_
        refine f_s [fi (-1), fi (iS (1) (m 14 1)), fi (hwS m 14)] rfl rfl ?_
        refine b_ixor rfl ?_
        refine b_iand rfl ?_
        refine f_if rfl iA_r (fun c3 => ?_) (fun c3 => ?_)
        · have c3 : (iA (hwS m 14) (iX (iS (1) (m 14 1)) (-1)) : Int) = (0 : Int) := c3
          refine f_inc 1 [(3, fi (2)), (4, fi (m 14 1)), (2, fi (b)), (0, .ref 13), (1, fi (hwS m 14))] rfl (by decide) hL22 rfl rfl (fun L26 hL26 => ?_)
          refine f_goto rfl ?_
          have e9 : sb1 m 14 (hwS m 14) 1 (iS 1 1) b = b := if_neg (by omega)
          rw [e9]
          exact hK2 hc5 (b) _ hw5 hm5 rb (hL26.sel [0, 2, 3, 4] rfl)
        · have c3 : ¬ ((iA (hwS m 14) (iX (iS (1) (m 14 1)) (-1)) : Int) = (0 : Int)) := c3
          refine f_iln 2 rfl hL22 rfl ?_
          refine f_s [fi (1), fi (b)] rfl rfl ?_
          refine f_iln 1 rfl hL22 rfl ?_
          refine b_ishl rfl ?_
          refine b_ior rfl ?_
          refine f_istn [(2, fi (iO (b) (iS (1) (1)))), (4, fi (m 14 1)), (3, fi (1)), (0, .ref 13), (1, fi (hwS m 14))] rfl (by decide) hL22 rfl (fun L27 hL27 => ?_)
          refine f_inc 2 [(3, fi (2)), (2, fi (iO (b) (iS (1) (1)))), (4, fi (m 14 1)), (0, .ref 13), (1, fi (hwS m 14))] rfl (by decide) hL27 rfl rfl (fun L28 hL28 => ?_)
          refine f_goto rfl ?_
          have e9 : sb1 m 14 (hwS m 14) 1 (iS 1 1) b = iO (b) (iS (1) (1)) := if_pos (by omega)
          rw [e9]
          exact hK2 hc5 (iO (b) (iS (1) (1))) _ hw5 hm5 iO_r (hL28.sel [0, 1, 3, 4] rfl)
  have hK0 : ∀ (hc : ev_H) (b : Int) (L : ev_L), y_in yGw hc → gi hc = m → (-2147483648 ≤ b ∧ b ≤ 2147483647) → f_L L [(3, fi (0)), (2, fi (b)), (0, .ref 13), (1, fi (hwS m 14))] → x_W none (1, 0, 5, 0, 7, 3, 65, 0, 0, ev_t57) 9 L [] hc 0 0 (fun r' h' => r' = some (fi (sb1 m 14 (hwS m 14) 4 (iS 1 4) (sb1 m 14 (hwS m 14) 3 (iS 1 3) (sb1 m 14 (hwS m 14) 2 (iS 1 2) (sb1 m 14 (hwS m 14) 1 (iS 1 1) (sb1 m 14 (hwS m 14) 0 (iS 1 0) (b))))))) ∧ y_in yGw h' ∧ gi h' = m) := fun hc b L hw hm rb hL => by
    refine f_iln 0 rfl hL rfl ?_
    refine f_s [fi (5), fi (0)] rfl rfl ?_
    refine f_ic rfl (by decide) (by decide) (fun c_9 => absurd (show (5 : Int) ≤ (0 : Int) from c_9) (by decide)) (fun _ => ?_)
    refine f_aln 2 rfl hL rfl ?_
    refine m_gfr so13 rfl hw rfl (by decide) ?_
    refine f_iln 0 rfl hL rfl ?_
    refine m_ia sa14 (m 14 0) rfl hw hm (by omega) (by omega) (by decide) rfl ?_
    refine f_ist [(4, fi (m 14 0)), (3, fi (0)), (2, fi (b)), (0, .ref 13), (1, fi (hwS m 14))] rfl (by decide) hL rfl (fun L29 hL29 => ?_)
    refine f_il 0 rfl hL29 rfl ?_
    refine f_bipush (n := -9) rfl (by decide) ?_
    refine f_ic rfl (hR 14 0) (by decide) (fun c1 => ?_) (fun c1 => ?_)
    · have c1 : (m 14 0 : Int) = (-9 : Int) := c1
      refine f_inc 1 [(3, fi (1)), (4, fi (m 14 0)), (2, fi (b)), (0, .ref 13), (1, fi (hwS m 14))] rfl (by decide) hL29 rfl rfl (fun L30 hL30 => ?_)
      refine f_goto rfl ?_
      have e9 : sb1 m 14 (hwS m 14) 0 (iS 1 0) b = b := if_neg (by omega)
      rw [e9]
      exact hK1 hc (b) _ hw hm rb (hL30.sel [0, 2, 3, 4] rfl)
    · have c1 : ¬ ((m 14 0 : Int) = (-9 : Int)) := c1
      refine f_aln 3 rfl hL29 rfl ?_
      refine m_gfr so13 rfl hw rfl (by decide) ?_
      refine f_il 0 rfl hL29 rfl ?_
      refine m_k1 (t41 hn (hR 14 0)) hw hm rfl rfl rfl (m_ar so3 hw rfl) rfl (fun hc6 hw6 hm6 => ?_)
      refine f_s [fi (1), fi (kd m (m 14 0))] rfl rfl ?_
      refine f_ic rfl (kd_r hR _) (by decide) (fun c2 => ?_) (fun c2 => ?_)
      · have c2 : ¬ (kd m (m 14 0) : Int) = (1 : Int) := c2
        refine f_iln 2 rfl hL29 rfl ?_
        refine f_s [fi (1), fi (b)] rfl rfl ?_
        refine f_iln 1 rfl hL29 rfl ?_
        refine b_ishl rfl ?_
        refine b_ior rfl ?_
        refine f_istn [(2, fi (iO (b) (iS (1) (0)))), (4, fi (m 14 0)), (3, fi (0)), (0, .ref 13), (1, fi (hwS m 14))] rfl (by decide) hL29 rfl (fun L31 hL31 => ?_)
        refine f_inc 2 [(3, fi (1)), (2, fi (iO (b) (iS (1) (0)))), (4, fi (m 14 0)), (0, .ref 13), (1, fi (hwS m 14))] rfl (by decide) hL31 rfl rfl (fun L32 hL32 => ?_)
        refine f_goto rfl ?_
        have e9 : sb1 m 14 (hwS m 14) 0 (iS 1 0) b = iO (b) (iS (1) (0)) := if_pos (by omega)
        rw [e9]
        exact hK1 hc6 (iO (b) (iS (1) (0))) _ hw6 hm6 iO_r (hL32.sel [0, 1, 3, 4] rfl)
      · have c2 : ¬ (¬ (kd m (m 14 0) : Int) = (1 : Int)) := c2
        refine f_iln 4 rfl hL29 rfl ?_
        refine f_s [fi (1), fi (hwS m 14)] rfl rfl ?_
        refine f_il 0 rfl hL29 rfl ?_
        refine b_ishl rfl ?_
        refine f_s [fi (-1), fi (iS (1) (m 14 0)), fi (hwS m 14)] rfl rfl ?_
        refine b_ixor rfl ?_
        refine b_iand rfl ?_
        refine f_if rfl iA_r (fun c3 => ?_) (fun c3 => ?_)
        · have c3 : (iA (hwS m 14) (iX (iS (1) (m 14 0)) (-1)) : Int) = (0 : Int) := c3
          refine f_inc 1 [(3, fi (1)), (4, fi (m 14 0)), (2, fi (b)), (0, .ref 13), (1, fi (hwS m 14))] rfl (by decide) hL29 rfl rfl (fun L33 hL33 => ?_)
          refine f_goto rfl ?_
          have e9 : sb1 m 14 (hwS m 14) 0 (iS 1 0) b = b := if_neg (by omega)
          rw [e9]
          exact hK1 hc6 (b) _ hw6 hm6 rb (hL33.sel [0, 2, 3, 4] rfl)
        · have c3 : ¬ ((iA (hwS m 14) (iX (iS (1) (m 14 0)) (-1)) : Int) = (0 : Int)) := c3
          refine f_iln 2 rfl hL29 rfl ?_
          refine f_s [fi (1), fi (b)] rfl rfl ?_
          refine f_iln 1 rfl hL29 rfl ?_
          refine b_ishl rfl ?_
          refine b_ior rfl ?_
          refine f_istn [(2, fi (iO (b) (iS (1) (0)))), (4, fi (m 14 0)), (3, fi (0)), (0, .ref 13), (1, fi (hwS m 14))] rfl (by decide) hL29 rfl (fun L34 hL34 => ?_)
          refine f_inc 2 [(3, fi (1)), (2, fi (iO (b) (iS (1) (0)))), (4, fi (m 14 0)), (0, .ref 13), (1, fi (hwS m 14))] rfl (by decide) hL34 rfl rfl (fun L35 hL35 => ?_)
          refine f_goto rfl ?_
          have e9 : sb1 m 14 (hwS m 14) 0 (iS 1 0) b = iO (b) (iS (1) (0)) := if_pos (by omega)
          rw [e9]
          exact hK1 hc6 (iO (b) (iS (1) (0))) _ hw6 hm6 iO_r (hL35.sel [0, 1, 3, 4] rfl)
  refine f_istn [(1, fi (hwS m 14)), (0, .ref 13)] rfl (by decide) hL rfl (fun L36 hL36 => ?_)
  refine f_s [fi (0)] rfl rfl ?_
  refine f_istn [(2, fi (0)), (1, fi (hwS m 14)), (0, .ref 13)] rfl (by decide) hL36 rfl (fun L37 hL37 => ?_)
  refine f_s [fi (0)] rfl rfl ?_
  refine f_istn [(3, fi (0)), (2, fi (0)), (1, fi (hwS m 14)), (0, .ref 13)] rfl (by decide) hL37 rfl (fun L38 hL38 => ?_)
  exact hK0 hc1 0 _ hw1 hm1 (by decide) (hL38.sel [0, 1, 3, 2] rfl))
theorem t58_13 {m : Nat → Nat → Int} (hn : 0 ≤ m 3 5 ∧ m 3 5 ≤ 4) (hp : 0 ≤ m 3 6 ∧ m 3 6 ≤ 5) {x : Int} (rx : -2147483648 ≤ x ∧ x ≤ 2147483647) : h_M 58 [.ref 13, fi (x)] m (some (fi (bI (decide ((0 ≤ x ∧ x < m 3 6) ∧ iA (iR (sbS m 14) (x)) (1) = 1))))) m := h_M_of (R := ev_r58) rfl (fun hc hw hm => by
  have hL : f_L (lv_args 0 [.ref 13, fi (x)]) [(0, .ref 13), (1, fi (x))] := f_L_of rfl
  generalize lv_args 0 [.ref 13, fi (x)] = L at hL
  show x_W none (2, 0, 2, 1, 7, 4, 89, 0, 0, ev_t58) 0 L [] hc 0 0 _
  have hR := gi_R hm
  refine f_aln 0 rfl hL rfl ?_
  refine m_gfr so13 rfl hw rfl (by decide) ?_
  refine f_iln 1 rfl hL rfl ?_
  refine m_k1 (t49 hp.2 rx) hw hm rfl rfl rfl (m_ar so3 hw rfl) rfl (fun hc1 hw1 hm1 => ?_)
  refine f_if rfl (bI_r _) (fun c1 => ?_) (fun c1 => ?_)
  · have c1 : (bI (decide (0 ≤ x ∧ x < m 3 6)) : Int) = (0 : Int) := c1
    have c1 : ¬ (0 ≤ x ∧ x < m 3 6) := bI_f c1
    refine f_s [fi (0)] rfl rfl ?_
    exact f_ret2 rfl (Or.inl rfl) ⟨by rw [decide_eq_false (by omega)]; rfl, hw1, hm1⟩
  · have c1 : ¬ ((bI (decide (0 ≤ x ∧ x < m 3 6)) : Int) = (0 : Int)) := c1
    have c1 : 0 ≤ x ∧ x < m 3 6 := bI_t c1
    refine f_aln 0 rfl hL rfl ?_
    refine m_k1 (t57_13 hn) hw1 hm1 rfl rfl rfl (m_ar so13 hw1 rfl) rfl (fun hc2 hw2 hm2 => ?_)
    refine f_iln 1 rfl hL rfl ?_
    refine b_ishr rfl ?_
    refine f_s [fi (1), fi (iR (sbS m 14) (x))] rfl rfl ?_
    refine b_iand rfl ?_
    refine f_s [fi (1), fi (iA (iR (sbS m 14) (x)) (1))] rfl rfl ?_
    refine f_ic rfl iA_r (by decide) (fun c2 => ?_) (fun c2 => ?_)
    · have c2 : ¬ (iA (iR (sbS m 14) (x)) (1) : Int) = (1 : Int) := c2
      refine f_s [fi (0)] rfl rfl ?_
      exact f_ret2 rfl (Or.inl rfl) ⟨by rw [decide_eq_false (by omega)]; rfl, hw2, hm2⟩
    · have c2 : ¬ (¬ (iA (iR (sbS m 14) (x)) (1) : Int) = (1 : Int)) := c2
      refine f_s [fi (1)] rfl rfl ?_
      refine f_goto rfl ?_
      exact f_ret2 rfl (Or.inr rfl) ⟨by rw [decide_eq_true (by omega)]; rfl, hw2, hm2⟩)
theorem t64_13 {m : Nat → Nat → Int} (hn : 0 ≤ m 3 5 ∧ m 3 5 ≤ 4) (hp : 0 ≤ m 3 6 ∧ m 3 6 ≤ 5) {x : Int} (rx : -2147483648 ≤ x ∧ x ≤ 2147483647) {k : Int} (rk : -2147483648 ≤ k ∧ k ≤ 2147483647) : h_M 64 [.ref 13, fi (x), fi (k)] m (some (fi (bI (decide ((0 ≤ k ∧ k < m 3 5) ∧ ¬ ((0 ≤ x ∧ x < m 3 6) ∧ iA (iR (m 13 5) (x)) (1) = 1) ∧ iA (iR (ft m x) (k)) (1) = 1))))) m := h_M_of (R := ev_r64) rfl (fun hc hw hm => by
  have hL : f_L (lv_args 0 [.ref 13, fi (x), fi (k)]) [(0, .ref 13), (1, fi (x)), (2, fi (k))] := f_L_of rfl
  generalize lv_args 0 [.ref 13, fi (x), fi (k)] = L at hL
  show x_W none (2, 0, 3, 2, 7, 2, 42, 0, 0, ev_t64) 0 L [] hc 0 0 _
  have hR := gi_R hm
  refine f_aln 0 rfl hL rfl ?_
  refine m_gfr so13 rfl hw rfl (by decide) ?_
  refine f_iln 2 rfl hL rfl ?_
  refine m_k1 (t40 hn.2 rk) hw hm rfl rfl rfl (m_ar so3 hw rfl) rfl (fun hc1 hw1 hm1 => ?_)
  refine f_if rfl (bI_r _) (fun c1 => ?_) (fun c1 => ?_)
  · have c1 : (bI (decide (0 ≤ k ∧ k < m 3 5)) : Int) = (0 : Int) := c1
    have c1 : ¬ (0 ≤ k ∧ k < m 3 5) := bI_f c1
    refine f_s [fi (0)] rfl rfl ?_
    exact f_ret2 rfl (Or.inl rfl) ⟨by rw [decide_eq_false (by omega)]; rfl, hw1, hm1⟩
  · have c1 : ¬ ((bI (decide (0 ≤ k ∧ k < m 3 5)) : Int) = (0 : Int)) := c1
    have c1 : 0 ≤ k ∧ k < m 3 5 := bI_t c1
    refine f_aln 0 rfl hL rfl ?_
    refine f_iln 1 rfl hL rfl ?_
    refine m_k1 (t59_13 hp rx) hw1 hm1 rfl rfl rfl (m_ar so13 hw1 rfl) rfl (fun hc2 hw2 hm2 => ?_)
    refine f_if rfl (bI_r _) (fun c2 => ?_) (fun c2 => ?_)
    · have c2 : ¬ (bI (decide ((0 ≤ x ∧ x < m 3 6) ∧ iA (iR (m 13 5) (x)) (1) = 1)) : Int) = (0 : Int) := c2
      have c2 : (0 ≤ x ∧ x < m 3 6) ∧ iA (iR (m 13 5) (x)) (1) = 1 := bI_t c2
      refine f_s [fi (0)] rfl rfl ?_
      exact f_ret2 rfl (Or.inl rfl) ⟨by rw [decide_eq_false (by omega)]; rfl, hw2, hm2⟩
    · have c2 : ¬ (¬ (bI (decide ((0 ≤ x ∧ x < m 3 6) ∧ iA (iR (m 13 5) (x)) (1) = 1)) : Int) = (0 : Int)) := c2
      have c2 : ¬ ((0 ≤ x ∧ x < m 3 6) ∧ iA (iR (m 13 5) (x)) (1) = 1) := bI_n c2
      refine f_aln 0 rfl hL rfl ?_
      refine m_gfr so13 rfl hw2 rfl (by decide) ?_
      refine f_iln 1 rfl hL rfl ?_
      refine m_k1 (t52 hp rx) hw2 hm2 rfl rfl rfl (m_ar so3 hw2 rfl) rfl (fun hc3 hw3 hm3 => ?_)
      refine f_iln 2 rfl hL rfl ?_
      refine b_ishr rfl ?_
      refine f_s [fi (1), fi (iR (ft m x) (k))] rfl rfl ?_
      refine b_iand rfl ?_
      refine f_s [fi (1), fi (iA (iR (ft m x) (k)) (1))] rfl rfl ?_
      refine f_ic rfl iA_r (by decide) (fun c3 => ?_) (fun c3 => ?_)
      · have c3 : ¬ (iA (iR (ft m x) (k)) (1) : Int) = (1 : Int) := c3
        refine f_s [fi (0)] rfl rfl ?_
        exact f_ret2 rfl (Or.inl rfl) ⟨by rw [decide_eq_false (by omega)]; rfl, hw3, hm3⟩
      · have c3 : ¬ (¬ (iA (iR (ft m x) (k)) (1) : Int) = (1 : Int)) := c3
        refine f_s [fi (1)] rfl rfl ?_
        refine f_goto rfl ?_
        exact f_ret2 rfl (Or.inr rfl) ⟨by rw [decide_eq_true (by omega)]; rfl, hw3, hm3⟩)
theorem t67_13 {m : Nat → Nat → Int} (hn : 0 ≤ m 3 5 ∧ m 3 5 ≤ 4) (hp : 0 ≤ m 3 6 ∧ m 3 6 ≤ 5) {x : Int} (rx : -2147483648 ≤ x ∧ x ≤ 2147483647) {k : Int} (rk : -2147483648 ≤ k ∧ k ≤ 2147483647) : h_M 67 [.ref 13, fi (x), fi (k)] m (some (fi (bI (decide (nO m 14 x = -9 ∧ ((0 ≤ k ∧ k < m 3 5) ∧ ¬ ((0 ≤ x ∧ x < m 3 6) ∧ iA (iR (m 13 5) (x)) (1) = 1) ∧ iA (iR (ft m x) (k)) (1) = 1) ∧ ¬ ((0 ≤ k ∧ k < m 3 5) ∧ iA (iR (m 13 4) (k)) (1) = 1) ∧ bC (wr m 14 k) < rm m k))))) m := h_M_of (R := ev_r67) rfl (fun hc hw hm => by
  have hL : f_L (lv_args 0 [.ref 13, fi (x), fi (k)]) [(0, .ref 13), (1, fi (x)), (2, fi (k))] := f_L_of rfl
  generalize lv_args 0 [.ref 13, fi (x), fi (k)] = L at hL
  show x_W none (2, 0, 3, 2, 7, 3, 64, 0, 0, ev_t67) 0 L [] hc 0 0 _
  have hR := gi_R hm
  refine f_aln 0 rfl hL rfl ?_
  refine f_iln 1 rfl hL rfl ?_
  refine m_k1 (t53_13 hp rx) hw hm rfl rfl rfl (m_ar so13 hw rfl) rfl (fun hc1 hw1 hm1 => ?_)
  refine f_bipush (n := -9) rfl (by decide) ?_
  refine f_ic rfl (nO_r hR _ _) (by decide) (fun c1 => ?_) (fun c1 => ?_)
  · have c1 : ¬ (nO m 14 x : Int) = (-9 : Int) := c1
    refine f_s [fi (0)] rfl rfl ?_
    exact f_ret2 rfl (Or.inl rfl) ⟨by rw [decide_eq_false (by omega)]; rfl, hw1, hm1⟩
  · have c1 : ¬ (¬ (nO m 14 x : Int) = (-9 : Int)) := c1
    refine f_aln 0 rfl hL rfl ?_
    refine f_iln 1 rfl hL rfl ?_
    refine f_iln 2 rfl hL rfl ?_
    refine m_k1 (t64_13 hn hp rx rk) hw1 hm1 rfl rfl rfl (m_ar so13 hw1 rfl) rfl (fun hc2 hw2 hm2 => ?_)
    refine f_if rfl (bI_r _) (fun c2 => ?_) (fun c2 => ?_)
    · have c2 : (bI (decide ((0 ≤ k ∧ k < m 3 5) ∧ ¬ ((0 ≤ x ∧ x < m 3 6) ∧ iA (iR (m 13 5) (x)) (1) = 1) ∧ iA (iR (ft m x) (k)) (1) = 1)) : Int) = (0 : Int) := c2
      have c2 : ¬ ((0 ≤ k ∧ k < m 3 5) ∧ ¬ ((0 ≤ x ∧ x < m 3 6) ∧ iA (iR (m 13 5) (x)) (1) = 1) ∧ iA (iR (ft m x) (k)) (1) = 1) := bI_f c2
      refine f_s [fi (0)] rfl rfl ?_
      exact f_ret2 rfl (Or.inl rfl) ⟨by rw [decide_eq_false (by omega)]; rfl, hw2, hm2⟩
    · have c2 : ¬ ((bI (decide ((0 ≤ k ∧ k < m 3 5) ∧ ¬ ((0 ≤ x ∧ x < m 3 6) ∧ iA (iR (m 13 5) (x)) (1) = 1) ∧ iA (iR (ft m x) (k)) (1) = 1)) : Int) = (0 : Int)) := c2
      have c2 : (0 ≤ k ∧ k < m 3 5) ∧ ¬ ((0 ≤ x ∧ x < m 3 6) ∧ iA (iR (m 13 5) (x)) (1) = 1) ∧ iA (iR (ft m x) (k)) (1) = 1 := bI_t c2
      refine f_aln 0 rfl hL rfl ?_
      refine f_iln 2 rfl hL rfl ?_
      refine m_k1 (t44_13 hn rk) hw2 hm2 rfl rfl rfl (m_ar so13 hw2 rfl) rfl (fun hc3 hw3 hm3 => ?_)
      refine f_if rfl (bI_r _) (fun c3 => ?_) (fun c3 => ?_)
      · have c3 : ¬ (bI (decide ((0 ≤ k ∧ k < m 3 5) ∧ iA (iR (m 13 4) (k)) (1) = 1)) : Int) = (0 : Int) := c3
        have c3 : (0 ≤ k ∧ k < m 3 5) ∧ iA (iR (m 13 4) (k)) (1) = 1 := bI_t c3
        refine f_s [fi (0)] rfl rfl ?_
        exact f_ret2 rfl (Or.inl rfl) ⟨by rw [decide_eq_false (by omega)]; rfl, hw3, hm3⟩
      · have c3 : ¬ (¬ (bI (decide ((0 ≤ k ∧ k < m 3 5) ∧ iA (iR (m 13 4) (k)) (1) = 1)) : Int) = (0 : Int)) := c3
        have c3 : ¬ ((0 ≤ k ∧ k < m 3 5) ∧ iA (iR (m 13 4) (k)) (1) = 1) := bI_n c3
        refine f_aln 0 rfl hL rfl ?_
        refine f_iln 2 rfl hL rfl ?_
        refine m_k1 (t43_13 rk) hw3 hm3 rfl rfl rfl (m_ar so13 hw3 rfl) rfl (fun hc4 hw4 hm4 => ?_)
        refine m_k1 (t65 (wr_r _ _ _)) hw4 hm4 rfl rfl rfl rfl rfl (fun hc5 hw5 hm5 => ?_)
        refine f_aln 0 rfl hL rfl ?_
        refine m_gfr so13 rfl hw5 rfl (by decide) ?_
        refine f_iln 2 rfl hL rfl ?_
        refine m_k1 (t66 hn rk) hw5 hm5 rfl rfl rfl (m_ar so3 hw5 rfl) rfl (fun hc6 hw6 hm6 => ?_)
        refine f_ic rfl (bC_r _) (by have := rm_r (m := m) k; omega) (fun c4 => ?_) (fun c4 => ?_)
        · have c4 : (rm m k : Int) ≤ (bC (wr m 14 k) : Int) := c4
          refine f_s [fi (0)] rfl rfl ?_
          exact f_ret2 rfl (Or.inl rfl) ⟨by rw [decide_eq_false (by omega)]; rfl, hw6, hm6⟩
        · have c4 : ¬ ((rm m k : Int) ≤ (bC (wr m 14 k) : Int)) := c4
          refine f_s [fi (1)] rfl rfl ?_
          refine f_goto rfl ?_
          exact f_ret2 rfl (Or.inr rfl) ⟨by rw [decide_eq_true (by omega)]; rfl, hw6, hm6⟩)
theorem t69_13 {m : Nat → Nat → Int} {q : Nat} (hq : h_A q 0 18) (q0 : q ≠ 13) (q1 : q ≠ 13 + 1) (q2 : q ≠ 13 + 2) (q3 : q ≠ 13 + 3) : h_M 69 [.ref 13, .ref q] m none (sav m 13 q) := h_M_of (R := ev_r69) rfl (fun hc hw hm => by
  have hL : f_L (lv_args 0 [.ref 13, .ref q]) [(0, .ref 13), (1, .ref q)] := f_L_of rfl
  generalize lv_args 0 [.ref 13, .ref q] = L at hL
  show x_W none (0, 0, 2, 1, 7, 1, 26, 0, 0, ev_t69) 0 L [] hc 0 0 _
  have hR := gi_R hm
  refine f_aln 1 rfl hL rfl ?_
  refine m_al hq rfl hw (by decide) ?_
  refine f_bipush (n := 18) rfl (by decide) ?_
  refine f_ic rfl (by decide) (by decide) (fun _ => ?_) (fun c_9 => absurd (show (18 : Int) ≤ (18 : Int) from (by decide)) c_9)
  refine f_aln 0 rfl hL rfl ?_
  refine m_gfr so13 rfl hw rfl (by decide) ?_
  refine f_s [fi (0), .ref 14] rfl rfl ?_
  refine f_aln 1 rfl hL rfl ?_
  refine f_s [fi (0), .ref q, fi (0), .ref 14] rfl rfl ?_
  refine f_s [fi (5), fi (0), .ref q, fi (0), .ref 14] rfl rfl ?_
  refine m_cp sa14 hq rfl rfl hw hm (by decide) (by decide) (by decide) (by decide) (by decide) (by decide) (by decide) (by decide) (by decide) (fun hc1 hw1 hm1 => ?_)
  refine f_aln 0 rfl hL rfl ?_
  refine m_gfr so13 rfl hw1 rfl (by decide) ?_
  refine f_s [fi (0), .ref 15] rfl rfl ?_
  refine f_aln 1 rfl hL rfl ?_
  refine f_s [fi (5), .ref q, fi (0), .ref 15] rfl rfl ?_
  refine f_s [fi (5), fi (5), .ref q, fi (0), .ref 15] rfl rfl ?_
  refine m_cp sa15 hq rfl rfl hw1 hm1 (by decide) (by decide) (by decide) (by decide) (by decide) (by decide) (by decide) (by decide) (by decide) (fun hc2 hw2 hm2 => ?_)
  refine f_aln 0 rfl hL rfl ?_
  refine m_gfr so13 rfl hw2 rfl (by decide) ?_
  refine f_s [fi (0), .ref 16] rfl rfl ?_
  refine f_aln 1 rfl hL rfl ?_
  refine f_bipush (n := 10) rfl (by decide) ?_
  refine f_s [fi (5), fi (10), .ref q, fi (0), .ref 16] rfl rfl ?_
  refine m_cp sa16 hq rfl rfl hw2 hm2 (by decide) (by decide) (by decide) (by decide) (by decide) (by decide) (by decide) (by decide) (by decide) (fun hc3 hw3 hm3 => ?_)
  refine f_aln 1 rfl hL rfl ?_
  refine f_bipush (n := 15) rfl (by decide) ?_
  refine f_aln 0 rfl hL rfl ?_
  refine m_gfi so13 (m 13 4) rfl hw3 hm3 rfl (by rw [cpy_ne (Ne.symm q0), cpy_ne (Ne.symm q0), cpy_ne (Ne.symm q0)]; try rfl) ?_
  refine m_ias hq rfl hw3 hm3 (by omega) (by omega) (by decide) (hR 13 4) (fun hc4 hw4 hm4 => ?_)
  refine f_aln 1 rfl hL rfl ?_
  refine f_bipush (n := 16) rfl (by decide) ?_
  refine f_aln 0 rfl hL rfl ?_
  refine m_gfi so13 (m 13 5) rfl hw4 hm4 rfl (by rw [up_nc (Ne.symm q0), cpy_ne (Ne.symm q0), cpy_ne (Ne.symm q0), cpy_ne (Ne.symm q0)]; try rfl) ?_
  refine m_ias hq rfl hw4 hm4 (by omega) (by omega) (by decide) (hR 13 5) (fun hc5 hw5 hm5 => ?_)
  refine f_aln 1 rfl hL rfl ?_
  refine f_bipush (n := 17) rfl (by decide) ?_
  refine f_aln 0 rfl hL rfl ?_
  refine m_gfi so13 (m 13 6) rfl hw5 hm5 rfl (by rw [up_nc (Ne.symm q0), up_nc (Ne.symm q0), cpy_ne (Ne.symm q0), cpy_ne (Ne.symm q0), cpy_ne (Ne.symm q0)]; try rfl) ?_
  refine m_ias hq rfl hw5 hm5 (by omega) (by omega) (by decide) (hR 13 6) (fun hc6 hw6 hm6 => ?_)
  exact m_ret0 rfl ⟨rfl, hw6, by rw [hm6]; exact sav_eq m 13 q q0 q1 q2 q3⟩)
