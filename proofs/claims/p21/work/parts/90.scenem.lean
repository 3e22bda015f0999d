/-! the scene of the reference: what is asked of it -/
def dw1 (m : Nat → Nat → Int) (i : Nat) (k p s b : Int) : Int := if p < m 55 1 then iO b (if m 61 i = k then s else 0) else b
def dw0 (m : Nat → Nat → Int) (k : Int) : Int := dw1 m 4 k 4 (iS 1 4) (dw1 m 3 k 3 (iS 1 3) (dw1 m 2 k 2 (iS 1 2) (dw1 m 1 k 1 (iS 1 1) (dw1 m 0 k 0 (iS 1 0) 0))))
def dw18 (m : Nat → Nat → Int) (k : Int) : Int := dw1 m 22 k 4 (iS 1 4) (dw1 m 21 k 3 (iS 1 3) (dw1 m 20 k 2 (iS 1 2) (dw1 m 19 k 1 (iS 1 1) (dw1 m 18 k 0 (iS 1 0) 0))))
def onS (s : Int) : Int := 0 + iA (iR s 0) 1 + iA (iR s 1) 1 + iA (iR s 2) 1 + iA (iR s 3) 1 + iA (iR s 4) 1
def rmM (m : Nat → Nat → Int) (k : Int) : Int := if m 56 k.toNat = 2 then 2 else 1
theorem rmM_r {m : Nat → Nat → Int} (x : Int) : 1 ≤ rmM m x ∧ rmM m x ≤ 2 := by
  unfold rmM
  split <;> decide
theorem dw1_r {m : Nat → Nat → Int} {i : Nat} {k p s b : Int} (hb : -2147483648 ≤ b ∧ b ≤ 2147483647) : -2147483648 ≤ dw1 m i k p s b ∧ dw1 m i k p s b ≤ 2147483647 := by
  unfold dw1
  split
  · exact iO_r
  · exact hb
theorem dw0_r (m : Nat → Nat → Int) (k : Int) : -2147483648 ≤ dw0 m k ∧ dw0 m k ≤ 2147483647 := dw1_r (dw1_r (dw1_r (dw1_r (dw1_r (by decide)))))
theorem dw18_r (m : Nat → Nat → Int) (k : Int) : -2147483648 ≤ dw18 m k ∧ dw18 m k ≤ 2147483647 := dw1_r (dw1_r (dw1_r (dw1_r (dw1_r (by decide)))))
theorem iA1_r (x : Int) : 0 ≤ iA x 1 ∧ iA x 1 ≤ 1 := x_andle (x := Int32.ofInt x) (y := Int32.ofInt 1) (by decide)
theorem onS_r (s : Int) : 0 ≤ onS s ∧ onS s ≤ 5 := by
  unfold onS
  have a0 := iA1_r (iR s 0)
  have a1 := iA1_r (iR s 1)
  have a2 := iA1_r (iR s 2)
  have a3 := iA1_r (iR s 3)
  have a4 := iA1_r (iR s 4)
  omega
theorem t73 {m : Nat → Nat → Int} {s : Int} (rs : -2147483648 ≤ s ∧ s ≤ 2147483647) {k : Int} (rk : -2147483648 ≤ k ∧ k ≤ 2147483647) : h_M 73 [fi (s), fi (k)] m (some (fi (bI (decide (iA (iR (s) (k)) (1) = 1))))) m := h_M_of (R := ev_r73) rfl (fun hc hw hm => by
  have hL : f_L (lv_args 0 [fi (s), fi (k)]) [(0, fi (s)), (1, fi (k))] := f_L_of rfl
  generalize lv_args 0 [fi (s), fi (k)] = L at hL
  show x_W none (2, 0, 2, 2, 0, 0, 0, 0, 0, ev_t73) 0 L [] hc 0 0 _
  have hR := gi_R hm
  refine f_iln 0 rfl hL rfl ?_
  refine f_iln 1 rfl hL rfl ?_
  refine b_ishr rfl ?_
  refine f_s [fi (1), fi (iR (s) (k))] rfl rfl ?_
  refine b_iand rfl ?_
  refine f_s [fi (1), fi (iA (iR (s) (k)) (1))] rfl rfl ?_
  refine f_ic rfl iA_r (by decide) (fun c1 => ?_) (fun c1 => ?_)
  · have c1 : ¬ (iA (iR (s) (k)) (1) : Int) = (1 : Int) := c1
    refine f_s [fi (0)] rfl rfl ?_
    exact f_ret2 rfl (Or.inl rfl) ⟨by rw [decide_eq_false (by omega)]; rfl, hw, hm⟩
  · have c1 : ¬ (¬ (iA (iR (s) (k)) (1) : Int) = (1 : Int)) := c1
    refine f_s [fi (1)] rfl rfl ?_
    refine f_goto rfl ?_
    exact f_ret2 rfl (Or.inr rfl) ⟨by rw [decide_eq_true (by omega)]; rfl, hw, hm⟩)
theorem t75 {m : Nat → Nat → Int} {s : Int} (rs : -2147483648 ≤ s ∧ s ≤ 2147483647) : h_M 75 [fi (s)] m (some (fi (onS s))) m := h_M_of (R := ev_r75) rfl (fun hc hw hm => by
  have hL : f_L (lv_args 0 [fi (s)]) [(0, fi (s))] := f_L_of rfl
  generalize lv_args 0 [fi (s)] = L at hL
  show x_W none (1, 0, 3, 1, 0, 0, 0, 0, 0, ev_t75) 0 L [] hc 0 0 _
  have hR := gi_R hm
  refine f_s [fi (0)] rfl rfl ?_
  refine f_istn [(1, fi (0)), (0, fi (s))] rfl (by decide) hL rfl (fun L1 hL1 => ?_)
  refine f_s [fi (0)] rfl rfl ?_
  refine f_istn [(2, fi (0)), (1, fi (0)), (0, fi (s))] rfl (by decide) hL1 rfl (fun L2 hL2 => ?_)
  refine f_iln 0 rfl hL2 rfl ?_
  refine f_s [fi (5), fi (0)] rfl rfl ?_
  refine f_ic rfl (by decide) (by decide) (fun c_9 => absurd (show (5 : Int) ≤ (0 : Int) from c_9) (by decide)) (fun _ => ?_)
  refine f_iln 1 rfl hL2 rfl ?_
  refine f_iln 2 rfl hL2 rfl ?_
  refine f_iln 0 rfl hL2 rfl ?_
  refine b_ishr rfl ?_
  refine f_s [fi (1), fi (iR (s) (0)), fi (0)] rfl rfl ?_
  refine b_iand rfl ?_
  refine f_iadd rfl ?_
  refine f_istn [(1, fi (0 + (iA (iR (s) (0)) (1)))), (2, fi (0)), (0, fi (s))] rfl (by decide) hL2 rfl (fun L3 hL3 => ?_)
  refine f_inc 1 [(2, fi (1)), (1, fi (0 + (iA (iR (s) (0)) (1)))), (0, fi (s))] rfl (by decide) hL3 rfl rfl (fun L4 hL4 => ?_)
  refine f_goto rfl ?_
  refine f_iln 0 rfl hL4 rfl ?_
  refine f_s [fi (5), fi (1)] rfl rfl ?_
  refine f_ic rfl (by decide) (by decide) (fun c_9 => absurd (show (5 : Int) ≤ (1 : Int) from c_9) (by decide)) (fun _ => ?_)
  refine f_iln 1 rfl hL4 rfl ?_
  refine f_iln 2 rfl hL4 rfl ?_
  refine f_iln 0 rfl hL4 rfl ?_
  refine b_ishr rfl ?_
  refine f_s [fi (1), fi (iR (s) (1)), fi (0 + (iA (iR (s) (0)) (1)))] rfl rfl ?_
  refine b_iand rfl ?_
  refine f_iadd rfl ?_
  refine f_istn [(1, fi ((0 + (iA (iR (s) (0)) (1))) + (iA (iR (s) (1)) (1)))), (2, fi (1)), (0, fi (s))] rfl (by decide) hL4 rfl (fun L5 hL5 => ?_)
  refine f_inc 1 [(2, fi (2)), (1, fi ((0 + (iA (iR (s) (0)) (1))) + (iA (iR (s) (1)) (1)))), (0, fi (s))] rfl (by decide) hL5 rfl rfl (fun L6 hL6 => ?_)
  refine f_goto rfl ?_
  refine f_iln 0 rfl hL6 rfl ?_
  refine f_s [fi (5), fi (2)] rfl rfl ?_
  refine f_ic rfl (by decide) (by decide) (fun c_9 => absurd (show (5 : Int) ≤ (2 : Int) from c_9) (by decide)) (fun _ => ?_)
  refine f_iln 1 rfl hL6 rfl ?_
  refine f_iln 2 rfl hL6 rfl ?_
  refine f_iln 0 rfl hL6 rfl ?_
  refine b_ishr rfl ?_
  refine f_s [fi (1), fi (iR (s) (2)), fi ((0 + (iA (iR (s) (0)) (1))) + (iA (iR (s) (1)) (1)))] rfl rfl ?_
  refine b_iand rfl ?_
  refine f_iadd rfl ?_
  refine f_istn [(1, fi (((0 + (iA (iR (s) (0)) (1))) + (iA (iR (s) (1)) (1))) + (iA (iR (s) (2)) (1)))), (2, fi (2)), (0, fi (s))] rfl (by decide) hL6 rfl (fun L7 hL7 => ?_)
  refine f_inc 1 [(2, fi (3)), (1, fi (((0 + (iA (iR (s) (0)) (1))) + (iA (iR (s) (1)) (1))) + (iA (iR (s) (2)) (1)))), (0, fi (s))] rfl (by decide) hL7 rfl rfl (fun L8 hL8 => ?_)
  refine f_goto rfl ?_
  refine f_iln 0 rfl hL8 rfl ?_
  refine f_s [fi (5), fi (3)] rfl rfl ?_
  refine f_ic rfl (by decide) (by decide) (fun c_9 => absurd (show (5 : Int) ≤ (3 : Int) from c_9) (by decide)) (fun _ => ?_)
  refine f_iln 1 rfl hL8 rfl ?_
  refine f_iln 2 rfl hL8 rfl ?_
  refine f_iln 0 rfl hL8 rfl ?_
  refine b_ishr rfl ?_
  refine f_s [fi (1), fi (iR (s) (3)), fi (((0 + (iA (iR (s) (0)) (1))) + (iA (iR (s) (1)) (1))) + (iA (iR (s) (2)) (1)))] rfl rfl ?_
  refine b_iand rfl ?_
  refine f_iadd rfl ?_
  refine f_istn [(1, fi ((((0 + (iA (iR (s) (0)) (1))) + (iA (iR (s) (1)) (1))) + (iA (iR (s) (2)) (1))) + (iA (iR (s) (3)) (1)))), (2, fi (3)), (0, fi (s))] rfl (by decide) hL8 rfl (fun L9 hL9 => ?_)
  refine f_inc 1 [(2, fi (4)), (1, fi ((((0 + (iA (iR (s) (0)) (1))) + (iA (iR (s) (1)) (1))) + (iA (iR (s) (2)) (1))) + (iA (iR (s) (3)) (1)))), (0, fi (s))] rfl (by decide) hL9 rfl rfl (fun L10 hL10 => ?_)
  refine f_goto rfl ?_
  refine f_iln 0 rfl hL10 rfl ?_
  refine f_s [fi (5), fi (4)] rfl rfl ?_
  refine f_ic rfl (by decide) (by decide) (fun c_9 => absurd (show (5 : Int) ≤ (4 : Int) from c_9) (by decide)) (fun _ => ?_)
  refine f_iln 1 rfl hL10 rfl ?_
  refine f_iln 2 rfl hL10 rfl ?_
  refine f_iln 0 rfl hL10 rfl ?_
  refine b_ishr rfl ?_
  refine f_s [fi (1), fi (iR (s) (4)), fi ((((0 + (iA (iR (s) (0)) (1))) + (iA (iR (s) (1)) (1))) + (iA (iR (s) (2)) (1))) + (iA (iR (s) (3)) (1)))] rfl rfl ?_
  refine b_iand rfl ?_
  refine f_iadd rfl ?_
  refine f_istn [(1, fi (((((0 + (iA (iR (s) (0)) (1))) + (iA (iR (s) (1)) (1))) + (iA (iR (s) (2)) (1))) + (iA (iR (s) (3)) (1))) + (iA (iR (s) (4)) (1)))), (2, fi (4)), (0, fi (s))] rfl (by decide) hL10 rfl (fun L11 hL11 => ?_)
  refine f_inc 1 [(2, fi (5)), (1, fi (((((0 + (iA (iR (s) (0)) (1))) + (iA (iR (s) (1)) (1))) + (iA (iR (s) (2)) (1))) + (iA (iR (s) (3)) (1))) + (iA (iR (s) (4)) (1)))), (0, fi (s))] rfl (by decide) hL11 rfl rfl (fun L12 hL12 => ?_)
  refine f_goto rfl ?_
  refine f_iln 0 rfl hL12 rfl ?_
  refine f_s [fi (5), fi (5)] rfl rfl ?_
  refine f_ic rfl (by decide) (by decide) (fun _ => ?_) (fun c_9 => absurd (show (5 : Int) ≤ (5 : Int) from (by decide)) c_9)
  refine f_iln 1 rfl hL12 rfl ?_
  exact f_ret1 rfl ⟨by unfold onS; rfl, hw, hm⟩)
theorem t76 {m : Nat → Nat → Int} {k : Int} (k1 : 0 ≤ k) (k2 : k < 4) : h_M 76 [.ref 55, fi (k)] m (some (fi (rmM m k))) m := h_M_of (R := ev_r76) rfl (fun hc hw hm => by
  have hL : f_L (lv_args 0 [.ref 55, fi (k)]) [(0, .ref 55), (1, fi (k))] := f_L_of rfl
  generalize lv_args 0 [.ref 55, fi (k)] = L at hL
  show x_W none (1, 0, 2, 1, 11, 0, 0, 0, 0, ev_t76) 0 L [] hc 0 0 _
  have hR := gi_R hm
  refine f_aln 0 rfl hL rfl ?_
  refine m_gfr so55 rfl hw rfl (by decide) ?_
  refine f_iln 1 rfl hL rfl ?_
  refine m_ia sa56 (m 56 (k).toNat) rfl hw hm (by omega) (by omega) (by decide) rfl ?_
  refine f_s [fi (2), fi (m 56 (k).toNat)] rfl rfl ?_
  refine f_ic rfl (hR _ _) (by decide) (fun c1 => ?_) (fun c1 => ?_)
  · have c1 : ¬ (m 56 (k).toNat : Int) = (2 : Int) := c1
    refine f_s [fi (1)] rfl rfl ?_
    exact f_ret1 rfl ⟨by unfold rmM; rw [if_neg c1], hw, hm⟩
  · have c1 : ¬ (¬ (m 56 (k).toNat : Int) = (2 : Int)) := c1
    refine f_s [fi (2)] rfl rfl ?_
    refine f_goto rfl ?_
    exact f_ret1 rfl ⟨by unfold rmM; rw [if_pos (by omega)], hw, hm⟩)
theorem t74_0 {m : Nat → Nat → Int} {p : Int} (rp : -2147483648 ≤ p ∧ p ≤ 2147483647) : h_M 74 [.ref 55, fi (0), fi (p)] m (some (fi (bI (decide (iA (iR (m 61 16) (p)) (1) = 1))))) m := h_M_of (R := ev_r74) rfl (fun hc hw hm => by
  have hL : f_L (lv_args 0 [.ref 55, fi (0), fi (p)]) [(0, .ref 55), (1, fi (0)), (2, fi (p))] := f_L_of rfl
  generalize lv_args 0 [.ref 55, fi (0), fi (p)] = L at hL
  show x_W none (2, 0, 3, 2, 11, 1, 21, 0, 0, ev_t74) 0 L [] hc 0 0 _
  have hR := gi_R hm
  refine f_aln 0 rfl hL rfl ?_
  refine m_gfr so55 rfl hw rfl (by decide) ?_
  refine f_bipush (n := 18) rfl (by decide) ?_
  refine f_iln 1 rfl hL rfl ?_
  refine f_imul rfl ?_
  refine b_eq (x := 0) (by decide) ?_
  refine f_bipush (n := 16) rfl (by decide) ?_
  refine f_iadd rfl ?_
  refine b_eq (x := 16) (by decide) ?_
  refine m_ia sa61 (m 61 16) rfl hw hm (by omega) (by omega) (by decide) rfl ?_
  refine f_iln 2 rfl hL rfl ?_
  refine m_k1 (t73 (hR 61 16) rp) hw hm rfl rfl rfl rfl rfl (fun hc1 hw1 hm1 => ?_)
  exact f_ret2 rfl (bI_01 _) ⟨rfl, hw1, hm1⟩)
theorem t47_0 {m : Nat → Nat → Int} (hp : 0 ≤ m 55 1 ∧ m 55 1 ≤ 5) {k : Int} (rk : -2147483648 ≤ k ∧ k ≤ 2147483647) : h_M 47 [.ref 55, fi (0), fi (k)] m (some (fi (dw0 m k))) m := h_M_of (R := ev_r47) rfl (fun hc hw hm => by
  have hL : f_L (lv_args 0 [.ref 55, fi (0), fi (k)]) [(0, .ref 55), (1, fi (0)), (2, fi (k))] := f_L_of rfl
  generalize lv_args 0 [.ref 55, fi (0), fi (k)] = L at hL
  show x_W none (1, 0, 5, 2, 11, 0, 0, 0, 0, ev_t47) 0 L [] hc 0 0 _
  have hR := gi_R hm
  have hK5 : ∀ (hc : ev_H) (b : Int) (L : ev_L), y_in yGw hc → gi hc = m → (-2147483648 ≤ b ∧ b ≤ 2147483647) → f_L L [(4, fi (5)), (3, fi (b)), (0, .ref 55), (1, fi (0)), (2, fi (k))] → x_W none (1, 0, 5, 2, 11, 0, 0, 0, 0, ev_t47) 5 L [] hc 0 0 (fun r' h' => r' = some (fi (b)) ∧ y_in yGw h' ∧ gi h' = m) := fun hc b L hw hm rb hL => by
    refine f_il 0 rfl hL rfl ?_
    refine f_aln 2 rfl hL rfl ?_
    refine m_gfi so55 (m 55 1) rfl hw hm rfl rfl ?_
    refine f_ic rfl (by omega) (by omega) (fun _ => ?_) (fun c_9 => absurd (show (m 55 1 : Int) ≤ (5 : Int) from (by omega)) c_9)
    refine f_iln 1 rfl hL rfl ?_
    exact f_ret1 rfl ⟨rfl, hw, hm⟩
  have hK4 : ∀ (hc : ev_H) (b : Int) (L : ev_L), y_in yGw hc → gi hc = m → (-2147483648 ≤ b ∧ b ≤ 2147483647) → f_L L [(4, fi (4)), (3, fi (b)), (0, .ref 55), (1, fi (0)), (2, fi (k))] → x_W none (1, 0, 5, 2, 11, 0, 0, 0, 0, ev_t47) 5 L [] hc 0 0 (fun r' h' => r' = some (fi (dw1 m 4 k 4 (iS 1 4) (b))) ∧ y_in yGw h' ∧ gi h' = m) := fun hc b L hw hm rb hL => by
    refine f_il 0 rfl hL rfl ?_
    refine f_aln 2 rfl hL rfl ?_
    refine m_gfi so55 (m 55 1) rfl hw hm rfl rfl ?_
    refine f_ic rfl (by decide) (by omega) (fun c1 => ?_) (fun c1 => ?_)
    · have c1 : (m 55 1 : Int) ≤ (4 : Int) := c1
      have e8 : dw1 m 4 k 4 (iS 1 4) (b) = b := by unfold dw1; rw [if_neg (by omega)]
      rw [e8]
      refine f_iln 1 rfl hL rfl ?_
      exact f_ret1 rfl ⟨rfl, hw, hm⟩
    · have c1 : ¬ ((m 55 1 : Int) ≤ (4 : Int)) := c1
      refine f_iln 1 rfl hL rfl ?_
      refine f_aln 2 rfl hL rfl ?_
      refine m_gfr so55 rfl hw rfl (by decide) ?_
      refine f_bipush (n := 18) rfl (by decide) ?_
      refine f_iln 3 rfl hL rfl ?_
      refine f_imul rfl ?_
      refine b_eq (x := 0) (by decide) ?_
      refine f_il 0 rfl hL rfl ?_
      refine f_iadd rfl ?_
      refine b_eq (x := 4) (by decide) ?_
      refine m_ia sa61 (m 61 4) rfl hw hm (by omega) (by omega) (by decide) rfl ?_
      refine f_iln 4 rfl hL rfl ?_
      refine f_ic rfl (hR 61 4) rk (fun c2 => ?_) (fun c2 => ?_)
      · have c2 : ¬ (m 61 4 : Int) = (k : Int) := c2
        refine f_s [fi (0), fi (b)] rfl rfl ?_
        refine b_ior rfl ?_
        refine f_istn [(3, fi (iO (b) (0))), (4, fi (4)), (0, .ref 55), (1, fi (0)), (2, fi (k))] rfl (by decide) hL rfl (fun L1 hL1 => ?_)
        refine f_inc 1 [(4, fi (5)), (3, fi (iO (b) (0))), (0, .ref 55), (1, fi (0)), (2, fi (k))] rfl (by decide) hL1 rfl rfl (fun L2 hL2 => ?_)
        refine f_goto rfl ?_
        have e9 : dw1 m 4 k 4 (iS 1 4) b = iO (b) (0) := by unfold dw1; rw [if_pos (by omega), if_neg (by omega)]
        rw [e9]
        exact hK5 hc (iO (b) (0)) _ hw hm iO_r (hL2.sel [0, 1, 2, 3, 4] rfl)
      · have c2 : ¬ (¬ (m 61 4 : Int) = (k : Int)) := c2
        refine f_s [fi (1), fi (b)] rfl rfl ?_
        refine f_il 0 rfl hL rfl ?_
        refine b_ishl rfl ?_
        refine f_goto rfl ?_
        refine b_ior rfl ?_
        refine f_istn [(3, fi (iO (b) (iS (1) (4)))), (4, fi (4)), (0, .ref 55), (1, fi (0)), (2, fi (k))] rfl (by decide) hL rfl (fun L3 hL3 => ?_)
        refine f_inc 1 [(4, fi (5)), (3, fi (iO (b) (iS (1) (4)))), (0, .ref 55), (1, fi (0)), (2, fi (k))] rfl (by decide) hL3 rfl rfl (fun L4 hL4 => ?_)
        refine f_goto rfl ?_
        have e9 : dw1 m 4 k 4 (iS 1 4) b = iO (b) (iS (1) (4)) := by unfold dw1; rw [if_pos (by omega), if_pos (by omega)]
        rw [e9]
        exact hK5 hc (iO (b) (iS (1) (4))) _ hw hm iO_r (hL4.sel [0, 1, 2, 3, 4] rfl)
  have hK3 : ∀ (hc : ev_H) (b : Int) (L : ev_L), y_in yGw hc → gi hc = m → (-2147483648 ≤ b ∧ b ≤ 2147483647) → f_L L [(4, fi (3)), (3, fi (b)), (0, .ref 55), (1, fi (0)), (2, fi (k))] → x_W none (1, 0, 5, 2, 11, 0, 0, 0, 0, ev_t47) 5 L [] hc 0 0 (fun r' h' => r' = some (fi (dw1 m 4 k 4 (iS 1 4) (dw1 m 3 k 3 (iS 1 3) (b)))) ∧ y_in yGw h' ∧ gi h' = m) := fun hc b L hw hm rb hL => by
    refine f_il 0 rfl hL rfl ?_
    refine f_aln 2 rfl hL rfl ?_
    refine m_gfi so55 (m 55 1) rfl hw hm rfl rfl ?_
    refine f_ic rfl (by decide) (by omega) (fun c1 => ?_) (fun c1 => ?_)
    · have c1 : (m 55 1 : Int) ≤ (3 : Int) := c1
      have e8 : dw1 m 4 k 4 (iS 1 4) (dw1 m 3 k 3 (iS 1 3) (b)) = b := by unfold dw1; rw [if_neg (by omega), if_neg (by omega)]
      rw [e8]
      refine f_iln 1 rfl hL rfl ?_
      exact f_ret1 rfl ⟨rfl, hw, hm⟩
    · have c1 : ¬ ((m 55 1 : Int) ≤ (3 : Int)) := c1
      refine f_iln 1 rfl hL rfl ?_
      refine f_aln 2 rfl hL rfl ?_
      refine m_gfr so55 rfl hw rfl (by decide) ?_
      refine f_bipush (n := 18) rfl (by decide) ?_
      refine f_iln 3 rfl hL rfl ?_
      refine f_imul rfl ?_
      refine b_eq (x := 0) (by decide) ?_
      refine f_il 0 rfl hL rfl ?_
      refine f_iadd rfl ?_
      refine b_eq (x := 3) (by decide) ?_
      refine m_ia sa61 (m 61 3) rfl hw hm (by omega) (by omega) (by decide) rfl ?_
      refine f_iln 4 rfl hL rfl ?_
      refine f_ic rfl (hR 61 3) rk (fun c2 => ?_) (fun c2 => ?_)
      · have c2 : ¬ (m 61 3 : Int) = (k : Int) := c2
        refine f_s [fi (0), fi (b)] rfl rfl ?_
        refine b_ior rfl ?_
        refine f_istn [(3, fi (iO (b) (0))), (4, fi (3)), (0, .ref 55), (1, fi (0)), (2, fi (k))] rfl (by decide) hL rfl (fun L5 hL5 => ?_)
        refine f_inc 1 [(4, fi (4)), (3, fi (iO (b) (0))), (0, .ref 55), (1, fi (0)), (2, fi (k))] rfl (by decide) hL5 rfl rfl (fun L6 hL6 => ?_)
        refine f_goto rfl ?_
        have e9 : dw1 m 3 k 3 (iS 1 3) b = iO (b) (0) := by unfold dw1; rw [if_pos (by omega), if_neg (by omega)]
        rw [e9]
        exact hK4 hc (iO (b) (0)) _ hw hm iO_r (hL6.sel [0, 1, 2, 3, 4] rfl)
      · have c2 : ¬ (¬ (m 61 3 : Int) = (k : Int)) := c2
        refine f_s [fi (1), fi (b)] rfl rfl ?_
        refine f_il 0 rfl hL rfl ?_
        refine b_ishl rfl ?_
        refine f_goto rfl ?_
        refine b_ior rfl ?_
        refine f_istn [(3, fi (iO (b) (iS (1) (3)))), (4, fi (3)), (0, .ref 55), (1, fi (0)), (2, fi (k))] rfl (by decide) hL rfl (fun L7 hL7 => ?_)
        refine f_inc 1 [(4, fi (4)), (3, fi (iO (b) (iS (1) (3)))), (0, .ref 55), (1, fi (0)), (2, fi (k))] rfl (by decide) hL7 rfl rfl (fun L8 hL8 => ?_)
        refine f_goto rfl ?_
        have e9 : dw1 m 3 k 3 (iS 1 3) b = iO (b) (iS (1) (3)) := by unfold dw1; rw [if_pos (by omega), if_pos (by omega)]
        rw [e9]
        exact hK4 hc (iO (b) (iS (1) (3))) _ hw hm iO_r (hL8.sel [0, 1, 2, 3, 4] rfl)
  have hK2 : ∀ (hc : ev_H) (b : Int) (L : ev_L), y_in yGw hc → gi hc = m → (-2147483648 ≤ b ∧ b ≤ 2147483647) → f_L L [(4, fi (2)), (3, fi (b)), (0, .ref 55), (1, fi (0)), (2, fi (k))] → x_W none (1, 0, 5, 2, 11, 0, 0, 0, 0, ev_t47) 5 L [] hc 0 0 (fun r' h' => r' = some (fi (dw1 m 4 k 4 (iS 1 4) (dw1 m 3 k 3 (iS 1 3) (dw1 m 2 k 2 (iS 1 2) (b))))) ∧ y_in yGw h' ∧ gi h' = m) := fun hc b L hw hm rb hL => by
    refine f_il 0 rfl hL rfl ?_
    refine f_aln 2 rfl hL rfl ?_
    refine m_gfi so55 (m 55 1) rfl hw hm rfl rfl ?_
    refine f_ic rfl (by decide) (by omega) (fun c1 => ?_) (fun c1 => ?_)
    · have c1 : (m 55 1 : Int) ≤ (2 : Int) := c1
      have e8 : dw1 m 4 k 4 (iS 1 4) (dw1 m 3 k 3 (iS 1 3) (dw1 m 2 k 2 (iS 1 2) (b))) = b := by unfold dw1; rw [if_neg (by omega), if_neg (by omega), if_neg (by omega)]
      rw [e8]
      refine f_iln 1 rfl hL rfl ?_
      exact f_ret1 rfl ⟨rfl, hw, hm⟩
    · have c1 : ¬ ((m 55 1 : Int) ≤ (2 : Int)) := c1
      refine f_iln 1 rfl hL rfl ?_
      refine f_aln 2 rfl hL rfl ?_
      refine m_gfr so55 rfl hw rfl (by decide) ?_
      refine f_bipush (n := 18) rfl (by decide) ?_
      refine f_iln 3 rfl hL rfl ?_
      refine f_imul rfl ?_
      refine b_eq (x := 0) (by decide) ?_
      refine f_il 0 rfl hL rfl ?_
      refine f_iadd rfl ?_
      refine b_eq (x := 2) (by decide) ?_
      refine m_ia sa61 (m 61 2) rfl hw hm (by omega) (by omega) (by decide) rfl ?_
      refine f_iln 4 rfl hL rfl ?_
      refine f_ic rfl (hR 61 2) rk (fun c2 => ?_) (fun c2 => ?_)
      · have c2 : ¬ (m 61 2 : Int) = (k : Int) := c2
        refine f_s [fi (0), fi (b)] rfl rfl ?_
        refine b_ior rfl ?_
        refine f_istn [(3, fi (iO (b) (0))), (4, fi (2)), (0, .ref 55), (1, fi (0)), (2, fi (k))] rfl (by decide) hL rfl (fun L9 hL9 => ?_)
        refine f_inc 1 [(4, fi (3)), (3, fi (iO (b) (0))), (0, .ref 55), (1, fi (0)), (2, fi (k))] rfl (by decide) hL9 rfl rfl (fun L10 hL10 => ?_)
        refine f_goto rfl ?_
        have e9 : dw1 m 2 k 2 (iS 1 2) b = iO (b) (0) := by unfold dw1; rw [if_pos (by omega), if_neg (by omega)]
        rw [e9]
        exact hK3 hc (iO (b) (0)) _ hw hm iO_r (hL10.sel [0, 1, 2, 3, 4] rfl)
      · have c2 : ¬ (¬ (m 61 2 : Int) = (k : Int)) := c2
        refine f_s [fi (1), fi (b)] rfl rfl ?_
        refine f_il 0 rfl hL rfl ?_
        refine b_ishl rfl ?_
        refine f_goto rfl ?_
        refine b_ior rfl ?_
        refine f_istn [(3, fi (iO (b) (iS (1) (2)))), (4, fi (2)), (0, .ref 55), (1, fi (0)), (2, fi (k))] rfl (by decide) hL rfl (fun L11 hL11 => ?_)
        refine f_inc 1 [(4, fi (3)), (3, fi (iO (b) (iS (1) (2)))), (0, .ref 55), (1, fi (0)), (2, fi (k))] rfl (by decide) hL11 rfl rfl (fun L12 hL12 => ?_)
        refine f_goto rfl ?_
        have e9 : dw1 m 2 k 2 (iS 1 2) b = iO (b) (iS (1) (2)) := by unfold dw1; rw [if_pos (by omega), if_pos (by omega)]
        rw [e9]
        exact hK3 hc (iO (b) (iS (1) (2))) _ hw hm iO_r (hL12.sel [0, 1, 2, 3, 4] rfl)
  have hK1 : ∀ (hc : ev_H) (b : Int) (L : ev_L), y_in yGw hc → gi hc = m → (-2147483648 ≤ b ∧ b ≤ 2147483647) → f_L L [(4, fi (1)), (3, fi (b)), (0, .ref 55), (1, fi (0)), (2, fi (k))] → x_W none (1, 0, 5, 2, 11, 0, 0, 0, 0, ev_t47) 5 L [] hc 0 0 (fun r' h' => r' = some (fi (dw1 m 4 k 4 (iS 1 4) (dw1 m 3 k 3 (iS 1 3) (dw1 m 2 k 2 (iS 1 2) (dw1 m 1 k 1 (iS 1 1) (b)))))) ∧ y_in yGw h' ∧ gi h' = m) := fun hc b L hw hm rb hL => by
    refine f_il 0 rfl hL rfl ?_
    refine f_aln 2 rfl hL rfl ?_
    refine m_gfi so55 (m 55 1) rfl hw hm rfl rfl ?_
    refine f_ic rfl (by decide) (by omega) (fun c1 => ?_) (fun c1 => ?_)
    · have c1 : (m 55 1 : Int) ≤ (1 : Int) := c1
      have e8 : dw1 m 4 k 4 (iS 1 4) (dw1 m 3 k 3 (iS 1 3) (dw1 m 2 k 2 (iS 1 2) (dw1 m 1 k 1 (iS 1 1) (b)))) = b := by unfold dw1; rw [if_neg (by omega), if_neg (by omega), if_neg (by omega), if_neg (by omega)]
      rw [e8]
      refine f_iln 1 rfl hL rfl ?_
      exact f_ret1 rfl ⟨rfl, hw, hm⟩
    · have c1 : ¬ ((m 55 1 : Int) ≤ (1 : Int)) := c1
      refine f_iln 1 rfl hL rfl ?_
      refine f_aln 2 rfl hL rfl ?_
      refine m_gfr so55 rfl hw rfl (by decide) ?_
      refine f_bipush (n := 18) rfl (by decide) ?_
      refine f_iln 3 rfl hL rfl ?_
      refine f_imul rfl ?_
      refine b_eq (x := 0) (by decide) ?_
      refine f_il 0 rfl hL rfl ?_
      refine f_iadd rfl ?_
      refine b_eq (x := 1) (by decide) ?_
      refine m_ia sa61 (m 61 1) rfl hw hm (by omega) (by omega) (by decide) rfl ?_
      refine f_iln 4 rfl hL rfl ?_
      refine f_ic rfl (hR 61 1) rk (fun c2 => ?_) (fun c2 => ?_)
      · have c2 : ¬ (m 61 1 : Int) = (k : Int) := c2
        refine f_s [fi (0), fi (b)] rfl rfl ?_
        refine b_ior rfl ?_
        refine f_istn [(3, fi (iO (b) (0))), (4, fi (1)), (0, .ref 55), (1, fi (0)), (2, fi (k))] rfl (by decide) hL rfl (fun L13 hL13 => ?_)
        refine f_inc 1 [(4, fi (2)), (3, fi (iO (b) (0))), (0, .ref 55), (1, fi (0)), (2, fi (k))] rfl (by decide) hL13 rfl rfl (fun L14 hL14 => ?_)
        refine f_goto rfl ?_
        have e9 : dw1 m 1 k 1 (iS 1 1) b = iO (b) (0) := by unfold dw1; rw [if_pos (by omega), if_neg (by omega)]
        rw [e9]
        exact hK2 hc (iO (b) (0)) _ hw hm iO_r (hL14.sel [0, 1, 2, 3, 4] rfl)
      · have c2 : ¬ (¬ (m 61 1 : Int) = (k : Int)) := c2
        refine f_s [fi (1), fi (b)] rfl rfl ?_
        refine f_il 0 rfl hL rfl ?_
        refine b_ishl rfl ?_
        refine f_goto rfl ?_
        refine b_ior rfl ?_
        refine f_istn [(3, fi (iO (b) (iS (1) (1)))), (4, fi (1)), (0, .ref 55), (1, fi (0)), (2, fi (k))] rfl (by decide) hL rfl (fun L15 hL15 => ?_)
        refine f_inc 1 [(4, fi (2)), (3, fi (iO (b) (iS (1) (1)))), (0, .ref 55), (1, fi (0)), (2, fi (k))] rfl (by decide) hL15 rfl rfl (fun L16 hL16 => ?_)
        refine f_goto rfl ?_
        have e9 : dw1 m 1 k 1 (iS 1 1) b = iO (b) (iS (1) (1)) := by unfold dw1; rw [if_pos (by omega), if_pos (by omega)]
        rw [e9]
        exact hK2 hc (iO (b) (iS (1) (1))) _ hw hm iO_r (hL16.sel [0, 1, 2, 3, 4] rfl)
  have hK0 : ∀ (hc : ev_H) (b : Int) (L : ev_L), y_in yGw hc → gi hc = m → (-2147483648 ≤ b ∧ b ≤ 2147483647) → f_L L [(4, fi (0)), (3, fi (b)), (0, .ref 55), (1, fi (0)), (2, fi (k))] → x_W none (1, 0, 5, 2, 11, 0, 0, 0, 0, ev_t47) 5 L [] hc 0 0 (fun r' h' => r' = some (fi (dw1 m 4 k 4 (iS 1 4) (dw1 m 3 k 3 (iS 1 3) (dw1 m 2 k 2 (iS 1 2) (dw1 m 1 k 1 (iS 1 1) (dw1 m 0 k 0 (iS 1 0) (b))))))) ∧ y_in yGw h' ∧ gi h' = m) := fun hc b L hw hm rb hL => by
    refine f_il 0 rfl hL rfl ?_
    refine f_aln 2 rfl hL rfl ?_
    refine m_gfi so55 (m 55 1) rfl hw hm rfl rfl ?_
    refine f_ic rfl (by decide) (by omega) (fun c1 => ?_) (fun c1 => ?_)
    · have c1 : (m 55 1 : Int) ≤ (0 : Int) := c1
      have e8 : dw1 m 4 k 4 (iS 1 4) (dw1 m 3 k 3 (iS 1 3) (dw1 m 2 k 2 (iS 1 2) (dw1 m 1 k 1 (iS 1 1) (dw1 m 0 k 0 (iS 1 0) (b))))) = b := by unfold dw1; rw [if_neg (by omega), if_neg (by omega), if_neg (by omega), if_neg (by omega), if_neg (by omega)]
      rw [e8]
      refine f_iln 1 rfl hL rfl ?_
      exact f_ret1 rfl ⟨rfl, hw, hm⟩
    · have c1 : ¬ ((m 55 1 : Int) ≤ (0 : Int)) := c1
      refine f_iln 1 rfl hL rfl ?_
      refine f_aln 2 rfl hL rfl ?_
      refine m_gfr so55 rfl hw rfl (by decide) ?_
      refine f_bipush (n := 18) rfl (by decide) ?_
      refine f_iln 3 rfl hL rfl ?_
      refine f_imul rfl ?_
      refine b_eq (x := 0) (by decide) ?_
      refine f_il 0 rfl hL rfl ?_
      refine f_iadd rfl ?_
      refine b_eq (x := 0) (by decide) ?_
      refine m_ia sa61 (m 61 0) rfl hw hm (by omega) (by omega) (by decide) rfl ?_
      refine f_iln 4 rfl hL rfl ?_
      refine f_ic rfl (hR 61 0) rk (fun c2 => ?_) (fun c2 => ?_)
      · have c2 : ¬ (m 61 0 : Int) = (k : Int) := c2
        refine f_s [fi (0), fi (b)] rfl rfl ?_
        refine b_ior rfl ?_
        refine f_istn [(3, fi (iO (b) (0))), (4, fi (0)), (0, .ref 55), (1, fi (0)), (2, fi (k))] rfl (by decide) hL rfl (fun L17 hL17 => ?_)
        refine f_inc 1 [(4, fi (1)), (3, fi (iO (b) (0))), (0, .ref 55), (1, fi (0)), (2, fi (k))] rfl (by decide) hL17 rfl rfl (fun L18 hL18 => ?_)
        refine f_goto rfl ?_
        have e9 : dw1 m 0 k 0 (iS 1 0) b = iO (b) (0) := by unfold dw1; rw [if_pos (by omega), if_neg (by omega)]
        rw [e9]
        exact hK1 hc (iO (b) (0)) _ hw hm iO_r (hL18.sel [0, 1, 2, 3, 4] rfl)
      · have c2 : ¬ (¬ (m 61 0 : Int) = (k : Int)) := c2
        refine f_s [fi (1), fi (b)] rfl rfl ?_
        refine f_il 0 rfl hL rfl ?_
        refine b_ishl rfl ?_
        refine f_goto rfl ?_
        refine b_ior rfl ?_
        refine f_istn [(3, fi (iO (b) (iS (1) (0)))), (4, fi (0)), (0, .ref 55), (1, fi (0)), (2, fi (k))] rfl (by decide) hL rfl (fun L19 hL19 => ?_)
        refine f_inc 1 [(4, fi (1)), (3, fi (iO (b) (iS (1) (0)))), (0, .ref 55), (1, fi (0)), (2, fi (k))] rfl (by decide) hL19 rfl rfl (fun L20 hL20 => ?_)
        refine f_goto rfl ?_
        have e9 : dw1 m 0 k 0 (iS 1 0) b = iO (b) (iS (1) (0)) := by unfold dw1; rw [if_pos (by omega), if_pos (by omega)]
        rw [e9]
        exact hK1 hc (iO (b) (iS (1) (0))) _ hw hm iO_r (hL20.sel [0, 1, 2, 3, 4] rfl)
  refine f_s [fi (0)] rfl rfl ?_
  refine f_istn [(3, fi (0)), (0, .ref 55), (1, fi (0)), (2, fi (k))] rfl (by decide) hL rfl (fun L21 hL21 => ?_)
  refine f_s [fi (0)] rfl rfl ?_
  refine f_ist [(4, fi (0)), (3, fi (0)), (0, .ref 55), (1, fi (0)), (2, fi (k))] rfl (by decide) hL21 rfl (fun L22 hL22 => ?_)
  exact hK0 hc 0 _ hw hm (by decide) (hL22.sel [0, 1, 2, 3, 4] rfl))
theorem t77_0 {m : Nat → Nat → Int} (hp : 0 ≤ m 55 1 ∧ m 55 1 ≤ 5) {p : Int} (p1 : 0 ≤ p) (p2 : p < 5) {k : Int} (k1 : 0 ≤ k) (k2 : k < 4) {wv fv : Int} (hv : m 61 (0 + p).toNat = wv) (rwv : -2147483648 ≤ wv ∧ wv ≤ 2147483647) (hfv : m 60 (p).toNat = fv) (rfv : -2147483648 ≤ fv ∧ fv ≤ 2147483647) : h_M 77 [.ref 55, fi (0), fi (p), fi (k)] m (some (fi (bI (decide (¬ iA (iR (m 61 16) (p)) (1) = 1 ∧ wv = -9 ∧ ¬ iA (iR (m 61 15) (k)) (1) = 1 ∧ iA (iR (fv) (k)) (1) = 1 ∧ onS (dw0 m k) < rmM m k))))) m := h_M_of (R := ev_r77) rfl (fun hc hw hm => by
  have hL : f_L (lv_args 0 [.ref 55, fi (0), fi (p), fi (k)]) [(0, .ref 55), (1, fi (0)), (2, fi (p)), (3, fi (k))] := f_L_of rfl
  generalize lv_args 0 [.ref 55, fi (0), fi (p), fi (k)] = L at hL
  show x_W none (2, 0, 5, 3, 11, 2, 43, 0, 0, ev_t77) 0 L [] hc 0 0 _
  have hR := gi_R hm
  refine f_bipush (n := 18) rfl (by decide) ?_
  refine f_iln 1 rfl hL rfl ?_
  refine f_imul rfl ?_
  refine b_eq (x := 0) (by decide) ?_
  refine f_ist [(4, fi (0)), (0, .ref 55), (1, fi (0)), (2, fi (p)), (3, fi (k))] rfl (by decide) hL rfl (fun L1 hL1 => ?_)
  refine f_aln 1 rfl hL1 rfl ?_
  refine f_iln 2 rfl hL1 rfl ?_
  refine f_iln 3 rfl hL1 rfl ?_
  refine m_k1 (t74_0 (by omega)) hw hm rfl rfl rfl (m_ar so55 hw rfl) rfl (fun hc1 hw1 hm1 => ?_)
  refine f_if rfl (bI_r _) (fun c1 => ?_) (fun c1 => ?_)
  · have c1 : ¬ (bI (decide (iA (iR (m 61 16) (p)) (1) = 1)) : Int) = (0 : Int) := c1
    have c1 : iA (iR (m 61 16) (p)) (1) = 1 := bI_t c1
    refine f_s [fi (0)] rfl rfl ?_
    exact f_ret2 rfl (Or.inl rfl) ⟨by rw [decide_eq_false (by omega)]; rfl, hw1, hm1⟩
  · have c1 : ¬ (¬ (bI (decide (iA (iR (m 61 16) (p)) (1) = 1)) : Int) = (0 : Int)) := c1
    have c1 : ¬ (iA (iR (m 61 16) (p)) (1) = 1) := bI_n c1
    refine f_aln 1 rfl hL1 rfl ?_
    refine m_gfr so55 rfl hw1 rfl (by decide) ?_
    refine f_il 0 rfl hL1 rfl ?_
    refine f_iln 3 rfl hL1 rfl ?_
    refine f_iadd rfl ?_
    refine m_ia sa61 (wv) rfl hw1 hm1 (by omega) (by omega) (by decide) hv ?_
    refine f_bipush (n := -9) rfl (by decide) ?_
    refine f_ic rfl rwv (by decide) (fun c2 => ?_) (fun c2 => ?_)
    · have c2 : ¬ (wv : Int) = (-9 : Int) := c2
      refine f_s [fi (0)] rfl rfl ?_
      exact f_ret2 rfl (Or.inl rfl) ⟨by rw [decide_eq_false (by omega)]; rfl, hw1, hm1⟩
    · have c2 : ¬ (¬ (wv : Int) = (-9 : Int)) := c2
      refine f_aln 1 rfl hL1 rfl ?_
      refine m_gfr so55 rfl hw1 rfl (by decide) ?_
      refine f_il 0 rfl hL1 rfl ?_
      refine f_bipush (n := 15) rfl (by decide) ?_
      refine f_iadd rfl ?_
      refine b_eq (x := 15) (by decide) ?_
      refine m_ia sa61 (m 61 15) rfl hw1 hm1 (by omega) (by omega) (by decide) rfl ?_
      refine f_iln 4 rfl hL1 rfl ?_
      refine m_k1 (t73 (hR 61 15) (by omega)) hw1 hm1 rfl rfl rfl rfl rfl (fun hc2 hw2 hm2 => ?_)
      refine f_if rfl (bI_r _) (fun c3 => ?_) (fun c3 => ?_)
      · have c3 : ¬ (bI (decide (iA (iR (m 61 15) (k)) (1) = 1)) : Int) = (0 : Int) := c3
        have c3 : iA (iR (m 61 15) (k)) (1) = 1 := bI_t c3
        refine f_s [fi (0)] rfl rfl ?_
        exact f_ret2 rfl (Or.inl rfl) ⟨by rw [decide_eq_false (by omega)]; rfl, hw2, hm2⟩
      · have c3 : ¬ (¬ (bI (decide (iA (iR (m 61 15) (k)) (1) = 1)) : Int) = (0 : Int)) := c3
        have c3 : ¬ (iA (iR (m 61 15) (k)) (1) = 1) := bI_n c3
        refine f_aln 1 rfl hL1 rfl ?_
        refine m_gfr so55 rfl hw2 rfl (by decide) ?_
        refine f_iln 3 rfl hL1 rfl ?_
        refine m_ia sa60 (fv) rfl hw2 hm2 (by omega) (by omega) (by decide) hfv ?_
        refine f_iln 4 rfl hL1 rfl ?_
        refine m_k1 (t73 rfv (by omega)) hw2 hm2 rfl rfl rfl rfl rfl (fun hc3 hw3 hm3 => ?_)
        refine f_if rfl (bI_r _) (fun c4 => ?_) (fun c4 => ?_)
        · have c4 : (bI (decide (iA (iR (fv) (k)) (1) = 1)) : Int) = (0 : Int) := c4
          have c4 : ¬ (iA (iR (fv) (k)) (1) = 1) := bI_f c4
          refine f_s [fi (0)] rfl rfl ?_
          exact f_ret2 rfl (Or.inl rfl) ⟨by rw [decide_eq_false (by omega)]; rfl, hw3, hm3⟩
        · have c4 : ¬ ((bI (decide (iA (iR (fv) (k)) (1) = 1)) : Int) = (0 : Int)) := c4
          have c4 : iA (iR (fv) (k)) (1) = 1 := bI_t c4
          refine f_aln 1 rfl hL1 rfl ?_
          refine f_iln 2 rfl hL1 rfl ?_
          refine f_iln 4 rfl hL1 rfl ?_
          refine m_k1 (t47_0 hp (by omega)) hw3 hm3 rfl rfl rfl (m_ar so55 hw3 rfl) rfl (fun hc4 hw4 hm4 => ?_)
          refine m_k1 (t75 (dw0_r m k)) hw4 hm4 rfl rfl rfl rfl rfl (fun hc5 hw5 hm5 => ?_)
          refine f_aln 1 rfl hL1 rfl ?_
          refine f_iln 4 rfl hL1 rfl ?_
          refine m_k1 (t76 k1 k2) hw5 hm5 rfl rfl rfl (m_ar so55 hw5 rfl) rfl (fun hc6 hw6 hm6 => ?_)
          refine f_ic rfl (by have := onS_r (dw0 m k); omega) (by have := rmM_r (m := m) k; omega) (fun c5 => ?_) (fun c5 => ?_)
          · have c5 : (rmM m k : Int) ≤ (onS (dw0 m k) : Int) := c5
            refine f_s [fi (0)] rfl rfl ?_
            exact f_ret2 rfl (Or.inl rfl) ⟨by rw [decide_eq_false (by omega)]; rfl, hw6, hm6⟩
          · have c5 : ¬ ((rmM m k : Int) ≤ (onS (dw0 m k) : Int)) := c5
            refine f_s [fi (1)] rfl rfl ?_
            refine f_goto rfl ?_
            exact f_ret2 rfl (Or.inr rfl) ⟨by rw [decide_eq_true (by omega)]; rfl, hw6, hm6⟩)
theorem t79_0 {m : Nat → Nat → Int} {p : Int} (p1 : 0 ≤ p) (p2 : p < 5) {k : Int} (rk : -2147483648 ≤ k ∧ k ≤ 2147483647) : h_M 79 [.ref 55, fi (0), fi (p), fi (k)] m none (up (up m 61 (0 + p).toNat (k)) 61 (5 + p).toNat (0)) := h_M_of (R := ev_r79) rfl (fun hc hw hm => by
  have hL : f_L (lv_args 0 [.ref 55, fi (0), fi (p), fi (k)]) [(0, .ref 55), (1, fi (0)), (2, fi (p)), (3, fi (k))] := f_L_of rfl
  generalize lv_args 0 [.ref 55, fi (0), fi (p), fi (k)] = L at hL
  show x_W none (0, 0, 4, 3, 11, 0, 0, 0, 0, ev_t79) 0 L [] hc 0 0 _
  have hR := gi_R hm
  refine f_aln 0 rfl hL rfl ?_
  refine m_gfr so55 rfl hw rfl (by decide) ?_
  refine f_bipush (n := 18) rfl (by decide) ?_
  refine f_iln 1 rfl hL rfl ?_
  refine f_imul rfl ?_
  refine b_eq (x := 0) (by decide) ?_
  refine f_iln 2 rfl hL rfl ?_
  refine f_iadd rfl ?_
  refine f_iln 3 rfl hL rfl ?_
  refine m_ias sa61 rfl hw hm (by omega) (by omega) (by decide) (by omega) (fun hc1 hw1 hm1 => ?_)
  refine f_aln 0 rfl hL rfl ?_
  refine m_gfr so55 rfl hw1 rfl (by decide) ?_
  refine f_bipush (n := 18) rfl (by decide) ?_
  refine f_iln 1 rfl hL rfl ?_
  refine f_imul rfl ?_
  refine b_eq (x := 0) (by decide) ?_
  refine f_s [fi (5), fi (0), .ref 61] rfl rfl ?_
  refine f_iadd rfl ?_
  refine b_eq (x := 5) (by decide) ?_
  refine f_iln 2 rfl hL rfl ?_
  refine f_iadd rfl ?_
  refine f_s [fi (0), fi (5 + p), .ref 61] rfl rfl ?_
  refine m_ias sa61 rfl hw1 hm1 (by omega) (by omega) (by decide) (by decide) (fun hc2 hw2 hm2 => ?_)
  exact m_ret0 rfl ⟨rfl, hw2, hm2⟩)
theorem t90_0 {m : Nat → Nat → Int} {p : Int} (p1 : 0 ≤ p) (p2 : p < 5) {h : Int} (rh : -2147483648 ≤ h ∧ h ≤ 2147483647) {fv uv : Int} (hfv : m 58 (p).toNat = fv) (rfv : -2147483648 ≤ fv ∧ fv ≤ 2147483647) (huv : m 59 (p).toNat = uv) (ruv : -2147483648 ≤ uv ∧ uv ≤ 2147483647) : h_M 90 [.ref 55, fi (0), fi (p), fi (h)] m (some (fi (bI (decide (¬ iA (iR (m 61 16) (p)) (1) = 1 ∧ fv ≤ h ∧ h ≤ uv))))) m := h_M_of (R := ev_r90) rfl (fun hc hw hm => by
  have hL : f_L (lv_args 0 [.ref 55, fi (0), fi (p), fi (h)]) [(0, .ref 55), (1, fi (0)), (2, fi (p)), (3, fi (h))] := f_L_of rfl
  generalize lv_args 0 [.ref 55, fi (0), fi (p), fi (h)] = L at hL
  show x_W none (2, 0, 4, 3, 11, 2, 43, 0, 0, ev_t90) 0 L [] hc 0 0 _
  have hR := gi_R hm
  refine f_aln 0 rfl hL rfl ?_
  refine f_iln 1 rfl hL rfl ?_
  refine f_iln 2 rfl hL rfl ?_
  refine m_k1 (t74_0 (by omega)) hw hm rfl rfl rfl (m_ar so55 hw rfl) rfl (fun hc1 hw1 hm1 => ?_)
  refine f_if rfl (bI_r _) (fun c1 => ?_) (fun c1 => ?_)
  · have c1 : ¬ (bI (decide (iA (iR (m 61 16) (p)) (1) = 1)) : Int) = (0 : Int) := c1
    have c1 : iA (iR (m 61 16) (p)) (1) = 1 := bI_t c1
    refine f_s [fi (0)] rfl rfl ?_
    exact f_ret2 rfl (Or.inl rfl) ⟨by rw [decide_eq_false (by omega)]; rfl, hw1, hm1⟩
  · have c1 : ¬ (¬ (bI (decide (iA (iR (m 61 16) (p)) (1) = 1)) : Int) = (0 : Int)) := c1
    have c1 : ¬ (iA (iR (m 61 16) (p)) (1) = 1) := bI_n c1
    refine f_iln 3 rfl hL rfl ?_
    refine f_i2l rfl (by omega) ?_
    refine f_aln 0 rfl hL rfl ?_
    refine m_gfr so55 rfl hw1 rfl (by decide) ?_
    refine f_iln 2 rfl hL rfl ?_
    refine m_ia sa58 (fv) rfl hw1 hm1 (by omega) (by omega) (by decide) hfv ?_
    refine f_i2l rfl (by omega) ?_
    refine f_aln 0 rfl hL rfl ?_
    refine m_gfr so55 rfl hw1 rfl (by decide) ?_
    refine f_iln 2 rfl hL rfl ?_
    refine m_ia sa59 (uv) rfl hw1 hm1 (by omega) (by omega) (by decide) huv ?_
    refine f_i2l rfl (by omega) ?_
    refine m_k1 (t_in h fv uv (by omega) (by omega) (by omega)) hw1 hm1 rfl rfl rfl rfl rfl (fun hc2 hw2 hm2 => ?_)
    refine f_if rfl (bI_r _) (fun c2 => ?_) (fun c2 => ?_)
    · have c2 : (bI (decide (fv ≤ h ∧ h ≤ uv)) : Int) = (0 : Int) := c2
      have c2 : ¬ (fv ≤ h ∧ h ≤ uv) := bI_f c2
      refine f_s [fi (0)] rfl rfl ?_
      exact f_ret2 rfl (Or.inl rfl) ⟨by rw [decide_eq_false (by omega)]; rfl, hw2, hm2⟩
    · have c2 : ¬ ((bI (decide (fv ≤ h ∧ h ≤ uv)) : Int) = (0 : Int)) := c2
      have c2 : fv ≤ h ∧ h ≤ uv := bI_t c2
      refine f_s [fi (1)] rfl rfl ?_
      refine f_goto rfl ?_
      exact f_ret2 rfl (Or.inr rfl) ⟨by rw [decide_eq_true (by omega)]; rfl, hw2, hm2⟩)
theorem t74_1 {m : Nat → Nat → Int} {p : Int} (rp : -2147483648 ≤ p ∧ p ≤ 2147483647) : h_M 74 [.ref 55, fi (1), fi (p)] m (some (fi (bI (decide (iA (iR (m 61 34) (p)) (1) = 1))))) m := h_M_of (R := ev_r74) rfl (fun hc hw hm => by
  have hL : f_L (lv_args 0 [.ref 55, fi (1), fi (p)]) [(0, .ref 55), (1, fi (1)), (2, fi (p))] := f_L_of rfl
  generalize lv_args 0 [.ref 55, fi (1), fi (p)] = L at hL
  show x_W none (2, 0, 3, 2, 11, 1, 21, 0, 0, ev_t74) 0 L [] hc 0 0 _
  have hR := gi_R hm
  refine f_aln 0 rfl hL rfl ?_
  refine m_gfr so55 rfl hw rfl (by decide) ?_
  refine f_bipush (n := 18) rfl (by decide) ?_
  refine f_iln 1 rfl hL rfl ?_
  refine f_imul rfl ?_
  refine b_eq (x := 18) (by decide) ?_
  refine f_bipush (n := 16) rfl (by decide) ?_
  refine f_iadd rfl ?_
  refine b_eq (x := 34) (by decide) ?_
  refine m_ia sa61 (m 61 34) rfl hw hm (by omega) (by omega) (by decide) rfl ?_
  refine f_iln 2 rfl hL rfl ?_
  refine m_k1 (t73 (hR 61 34) rp) hw hm rfl rfl rfl rfl rfl (fun hc1 hw1 hm1 => ?_)
  exact f_ret2 rfl (bI_01 _) ⟨rfl, hw1, hm1⟩)
theorem t47_1 {m : Nat → Nat → Int} (hp : 0 ≤ m 55 1 ∧ m 55 1 ≤ 5) {k : Int} (rk : -2147483648 ≤ k ∧ k ≤ 2147483647) : h_M 47 [.ref 55, fi (1), fi (k)] m (some (fi (dw18 m k))) m := h_M_of (R := ev_r47) rfl (fun hc hw hm => by
  have hL : f_L (lv_args 0 [.ref 55, fi (1), fi (k)]) [(0, .ref 55), (1, fi (1)), (2, fi (k))] := f_L_of rfl
  generalize lv_args 0 [.ref 55, fi (1), fi (k)] = L at hL
  show x_W none (1, 0, 5, 2, 11, 0, 0, 0, 0, ev_t47) 0 L [] hc 0 0 _
  have hR := gi_R hm
  have hK5 : ∀ (hc : ev_H) (b : Int) (L : ev_L), y_in yGw hc → gi hc = m → (-2147483648 ≤ b ∧ b ≤ 2147483647) → f_L L [(4, fi (5)), (3, fi (b)), (0, .ref 55), (1, fi (1)), (2, fi (k))] → x_W none (1, 0, 5, 2, 11, 0, 0, 0, 0, ev_t47) 5 L [] hc 0 0 (fun r' h' => r' = some (fi (b)) ∧ y_in yGw h' ∧ gi h' = m) := fun hc b L hw hm rb hL => by
    refine f_il 0 rfl hL rfl ?_
    refine f_aln 2 rfl hL rfl ?_
    refine m_gfi so55 (m 55 1) rfl hw hm rfl rfl ?_
    refine f_ic rfl (by omega) (by omega) (fun _ => ?_) (fun c_9 => absurd (show (m 55 1 : Int) ≤ (5 : Int) from (by omega)) c_9)
    refine f_iln 1 rfl hL rfl ?_
    exact f_ret1 rfl ⟨rfl, hw, hm⟩
  have hK4 : ∀ (hc : ev_H) (b : Int) (L : ev_L), y_in yGw hc → gi hc = m → (-2147483648 ≤ b ∧ b ≤ 2147483647) → f_L L [(4, fi (4)), (3, fi (b)), (0, .ref 55), (1, fi (1)), (2, fi (k))] → x_W none (1, 0, 5, 2, 11, 0, 0, 0, 0, ev_t47) 5 L [] hc 0 0 (fun r' h' => r' = some (fi (dw1 m 22 k 4 (iS 1 4) (b))) ∧ y_in yGw h' ∧ gi h' = m) := fun hc b L hw hm rb hL => by
    refine f_il 0 rfl hL rfl ?_
    refine f_aln 2 rfl hL rfl ?_
    refine m_gfi so55 (m 55 1) rfl hw hm rfl rfl ?_
    refine f_ic rfl (by decide) (by omega) (fun c1 => ?_) (fun c1 => ?_)
    · have c1 : (m 55 1 : Int) ≤ (4 : Int) := c1
      have e8 : dw1 m 22 k 4 (iS 1 4) (b) = b := by unfold dw1; rw [if_neg (by omega)]
      rw [e8]
      refine f_iln 1 rfl hL rfl ?_
      exact f_ret1 rfl ⟨rfl, hw, hm⟩
    · have c1 : ¬ ((m 55 1 : Int) ≤ (4 : Int)) := c1
      refine f_iln 1 rfl hL rfl ?_
      refine f_aln 2 rfl hL rfl ?_
      refine m_gfr so55 rfl hw rfl (by decide) ?_
      refine f_bipush (n := 18) rfl (by decide) ?_
      refine f_iln 3 rfl hL rfl ?_
      refine f_imul rfl ?_
      refine b_eq (x := 18) (by decide) ?_
      refine f_il 0 rfl hL rfl ?_
      refine f_iadd rfl ?_
      refine b_eq (x := 22) (by decide) ?_
      refine m_ia sa61 (m 61 22) rfl hw hm (by omega) (by omega) (by decide) rfl ?_
      refine f_iln 4 rfl hL rfl ?_
      refine f_ic rfl (hR 61 22) rk (fun c2 => ?_) (fun c2 => ?_)
      · have c2 : ¬ (m 61 22 : Int) = (k : Int) := c2
        refine f_s [fi (0), fi (b)] rfl rfl ?_
        refine b_ior rfl ?_
        refine f_istn [(3, fi (iO (b) (0))), (4, fi (4)), (0, .ref 55), (1, fi (1)), (2, fi (k))] rfl (by decide) hL rfl (fun L1 hL1 => ?_)
        refine f_inc 1 [(4, fi (5)), (3, fi (iO (b) (0))), (0, .ref 55), (1, fi (1)), (2, fi (k))] rfl (by decide) hL1 rfl rfl (fun L2 hL2 => ?_)
        refine f_goto rfl ?_
        have e9 : dw1 m 22 k 4 (iS 1 4) b = iO (b) (0) := by unfold dw1; rw [if_pos (by omega), if_neg (by omega)]
        rw [e9]
        exact hK5 hc (iO (b) (0)) _ hw hm iO_r (hL2.sel [0, 1, 2, 3, 4] rfl)
      · have c2 : ¬ (¬ (m 61 22 : Int) = (k : Int)) := c2
        refine f_s [fi (1), fi (b)] rfl rfl ?_
        refine f_il 0 rfl hL rfl ?_
        refine b_ishl rfl ?_
        refine f_goto rfl ?_
        refine b_ior rfl ?_
        refine f_istn [(3, fi (iO (b) (iS (1) (4)))), (4, fi (4)), (0, .ref 55), (1, fi (1)), (2, fi (k))] rfl (by decide) hL rfl (fun L3 hL3 => ?_)
        refine f_inc 1 [(4, fi (5)), (3, fi (iO (b) (iS (1) (4)))), (0, .ref 55), (1, fi (1)), (2, fi (k))] rfl (by decide) hL3 rfl rfl (fun L4 hL4 => ?_)
        refine f_goto rfl ?_
        have e9 : dw1 m 22 k 4 (iS 1 4) b = iO (b) (iS (1) (4)) := by unfold dw1; rw [if_pos (by omega), if_pos (by omega)]
        rw [e9]
        exact hK5 hc (iO (b) (iS (1) (4))) _ hw hm iO_r (hL4.sel [0, 1, 2, 3, 4] rfl)
  have hK3 : ∀ (hc : ev_H) (b : Int) (L : ev_L), y_in yGw hc → gi hc = m → (-2147483648 ≤ b ∧ b ≤ 2147483647) → f_L L [(4, fi (3)), (3, fi (b)), (0, .ref 55), (1, fi (1)), (2, fi (k))] → x_W none (1, 0, 5, 2, 11, 0, 0, 0, 0, ev_t47) 5 L [] hc 0 0 (fun r' h' => r' = some (fi (dw1 m 22 k 4 (iS 1 4) (dw1 m 21 k 3 (iS 1 3) (b)))) ∧ y_in yGw h' ∧ gi h' = m) := fun hc b L hw hm rb hL => by
    refine f_il 0 rfl hL rfl ?_
    refine f_aln 2 rfl hL rfl ?_
    refine m_gfi so55 (m 55 1) rfl hw hm rfl rfl ?_
    refine f_ic rfl (by decide) (by omega) (fun c1 => ?_) (fun c1 => ?_)
    · have c1 : (m 55 1 : Int) ≤ (3 : Int) := c1
      have e8 : dw1 m 22 k 4 (iS 1 4) (dw1 m 21 k 3 (iS 1 3) (b)) = b := by unfold dw1; rw [if_neg (by omega), if_neg (by omega)]
      rw [e8]
      refine f_iln 1 rfl hL rfl ?_
      exact f_ret1 rfl ⟨rfl, hw, hm⟩
    · have c1 : ¬ ((m 55 1 : Int) ≤ (3 : Int)) := c1
      refine f_iln 1 rfl hL rfl ?_
      refine f_aln 2 rfl hL rfl ?_
      refine m_gfr so55 rfl hw rfl (by decide) ?_
      refine f_bipush (n := 18) rfl (by decide) ?_
      refine f_iln 3 rfl hL rfl ?_
      refine f_imul rfl ?_
      refine b_eq (x := 18) (by decide) ?_
      refine f_il 0 rfl hL rfl ?_
      refine f_iadd rfl ?_
      refine b_eq (x := 21) (by decide) ?_
      refine m_ia sa61 (m 61 21) rfl hw hm (by omega) (by omega) (by decide) rfl ?_
      refine f_iln 4 rfl hL rfl ?_
      refine f_ic rfl (hR 61 21) rk (fun c2 => ?_) (fun c2 => ?_)
      · have c2 : ¬ (m 61 21 : Int) = (k : Int) := c2
        refine f_s [fi (0), fi (b)] rfl rfl ?_
        refine b_ior rfl ?_
        refine f_istn [(3, fi (iO (b) (0))), (4, fi (3)), (0, .ref 55), (1, fi (1)), (2, fi (k))] rfl (by decide) hL rfl (fun L5 hL5 => ?_)
        refine f_inc 1 [(4, fi (4)), (3, fi (iO (b) (0))), (0, .ref 55), (1, fi (1)), (2, fi (k))] rfl (by decide) hL5 rfl rfl (fun L6 hL6 => ?_)
        refine f_goto rfl ?_
        have e9 : dw1 m 21 k 3 (iS 1 3) b = iO (b) (0) := by unfold dw1; rw [if_pos (by omega), if_neg (by omega)]
        rw [e9]
        exact hK4 hc (iO (b) (0)) _ hw hm iO_r (hL6.sel [0, 1, 2, 3, 4] rfl)
      · have c2 : ¬ (¬ (m 61 21 : Int) = (k : Int)) := c2
        refine f_s [fi (1), fi (b)] rfl rfl ?_
        refine f_il 0 rfl hL rfl ?_
        refine b_ishl rfl ?_
        refine f_goto rfl ?_
        refine b_ior rfl ?_
        refine f_istn [(3, fi (iO (b) (iS (1) (3)))), (4, fi (3)), (0, .ref 55), (1, fi (1)), (2, fi (k))] rfl (by decide) hL rfl (fun L7 hL7 => ?_)
        refine f_inc 1 [(4, fi (4)), (3, fi (iO (b) (iS (1) (3)))), (0, .ref 55), (1, fi (1)), (2, fi (k))] rfl (by decide) hL7 rfl rfl (fun L8 hL8 => ?_)
        refine f_goto rfl ?_
        have e9 : dw1 m 21 k 3 (iS 1 3) b = iO (b) (iS (1) (3)) := by unfold dw1; rw [if_pos (by omega), if_pos (by omega)]
        rw [e9]
        exact hK4 hc (iO (b) (iS (1) (3))) _ hw hm iO_r (hL8.sel [0, 1, 2, 3, 4] rfl)
  have hK2 : ∀ (hc : ev_H) (b : Int) (L : ev_L), y_in yGw hc → gi hc = m → (-2147483648 ≤ b ∧ b ≤ 2147483647) → f_L L [(4, fi (2)), (3, fi (b)), (0, .ref 55), (1, fi (1)), (2, fi (k))] → x_W none (1, 0, 5, 2, 11, 0, 0, 0, 0, ev_t47) 5 L [] hc 0 0 (fun r' h' => r' = some (fi (dw1 m 22 k 4 (iS 1 4) (dw1 m 21 k 3 (iS 1 3) (dw1 m 20 k 2 (iS 1 2) (b))))) ∧ y_in yGw h' ∧ gi h' = m) := fun hc b L hw hm rb hL => by
    refine f_il 0 rfl hL rfl ?_
    refine f_aln 2 rfl hL rfl ?_
    refine m_gfi so55 (m 55 1) rfl hw hm rfl rfl ?_
    refine f_ic rfl (by decide) (by omega) (fun c1 => ?_) (fun c1 => ?_)
    · have c1 : (m 55 1 : Int) ≤ (2 : Int) := c1
      have e8 : dw1 m 22 k 4 (iS 1 4) (dw1 m 21 k 3 (iS 1 3) (dw1 m 20 k 2 (iS 1 2) (b))) = b := by unfold dw1; rw [if_neg (by omega), if_neg (by omega), if_neg (by omega)]
      rw [e8]
      refine f_iln 1 rfl hL rfl ?_
      exact f_ret1 rfl ⟨rfl, hw, hm⟩
    · have c1 : ¬ ((m 55 1 : Int) ≤ (2 : Int)) := c1
      refine f_iln 1 rfl hL rfl ?_
      refine f_aln 2 rfl hL rfl ?_
      refine m_gfr so55 rfl hw rfl (by decide) ?_
      refine f_bipush (n := 18) rfl (by decide) ?_
      refine f_iln 3 rfl hL rfl ?_
      refine f_imul rfl ?_
      refine b_eq (x := 18) (by decide) ?_
      refine f_il 0 rfl hL rfl ?_
      refine f_iadd rfl ?_
      refine b_eq (x := 20) (by decide) ?_
      refine m_ia sa61 (m 61 20) rfl hw hm (by omega) (by omega) (by decide) rfl ?_
      refine f_iln 4 rfl hL rfl ?_
      refine f_ic rfl (hR 61 20) rk (fun c2 => ?_) (fun c2 => ?_)
      · have c2 : ¬ (m 61 20 : Int) = (k : Int) := c2
        refine f_s [fi (0), fi (b)] rfl rfl ?_
        refine b_ior rfl ?_
        refine f_istn [(3, fi (iO (b) (0))), (4, fi (2)), (0, .ref 55), (1, fi (1)), (2, fi (k))] rfl (by decide) hL rfl (fun L9 hL9 => ?_)
        refine f_inc 1 [(4, fi (3)), (3, fi (iO (b) (0))), (0, .ref 55), (1, fi (1)), (2, fi (k))] rfl (by decide) hL9 rfl rfl (fun L10 hL10 => ?_)
        refine f_goto rfl ?_
        have e9 : dw1 m 20 k 2 (iS 1 2) b = iO (b) (0) := by unfold dw1; rw [if_pos (by omega), if_neg (by omega)]
        rw [e9]
        exact hK3 hc (iO (b) (0)) _ hw hm iO_r (hL10.sel [0, 1, 2, 3, 4] rfl)
      · have c2 : ¬ (¬ (m 61 20 : Int) = (k : Int)) := c2
        refine f_s [fi (1), fi (b)] rfl rfl ?_
        refine f_il 0 rfl hL rfl ?_
        refine b_ishl rfl ?_
        refine f_goto rfl ?_
        refine b_ior rfl ?_
        refine f_istn [(3, fi (iO (b) (iS (1) (2)))), (4, fi (2)), (0, .ref 55), (1, fi (1)), (2, fi (k))] rfl (by decide) hL rfl (fun L11 hL11 => ?_)
        refine f_inc 1 [(4, fi (3)), (3, fi (iO (b) (iS (1) (2)))), (0, .ref 55), (1, fi (1)), (2, fi (k))] rfl (by decide) hL11 rfl rfl (fun L12 hL12 => ?_)
        refine f_goto rfl ?_
        have e9 : dw1 m 20 k 2 (iS 1 2) b = iO (b) (iS (1) (2)) := by unfold dw1; rw [if_pos (by omega), if_pos (by omega)]
        rw [e9]
        exact hK3 hc (iO (b) (iS (1) (2))) _ hw hm iO_r (hL12.sel [0, 1, 2, 3, 4] rfl)
  have hK1 : ∀ (hc : ev_H) (b : Int) (L : ev_L), y_in yGw hc → gi hc = m → (-2147483648 ≤ b ∧ b ≤ 2147483647) → f_L L [(4, fi (1)), (3, fi (b)), (0, .ref 55), (1, fi (1)), (2, fi (k))] → x_W none (1, 0, 5, 2, 11, 0, 0, 0, 0, ev_t47) 5 L [] hc 0 0 (fun r' h' => r' = some (fi (dw1 m 22 k 4 (iS 1 4) (dw1 m 21 k 3 (iS 1 3) (dw1 m 20 k 2 (iS 1 2) (dw1 m 19 k 1 (iS 1 1) (b)))))) ∧ y_in yGw h' ∧ gi h' = m) := fun hc b L hw hm rb hL => by
    refine f_il 0 rfl hL rfl ?_
    refine f_aln 2 rfl hL rfl ?_
    refine m_gfi so55 (m 55 1) rfl hw hm rfl rfl ?_
    refine f_ic rfl (by decide) (by omega) (fun c1 => ?_) (fun c1 => ?_)
    · have c1 : (m 55 1 : Int) ≤ (1 : Int) := c1
      have e8 : dw1 m 22 k 4 (iS 1 4) (dw1 m 21 k 3 (iS 1 3) (dw1 m 20 k 2 (iS 1 2) (dw1 m 19 k 1 (iS 1 1) (b)))) = b := by unfold dw1; rw [if_neg (by omega), if_neg (by omega), if_neg (by omega), if_neg (by omega)]
      rw [e8]
      refine f_iln 1 rfl hL rfl ?_
      exact f_ret1 rfl ⟨rfl, hw, hm⟩
    · have c1 : ¬ ((m 55 1 : Int) ≤ (1 : Int)) := c1
      refine f_iln 1 rfl hL rfl ?_
      refine f_aln 2 rfl hL rfl ?_
      refine m_gfr so55 rfl hw rfl (by decide) ?_
      refine f_bipush (n := 18) rfl (by decide) ?_
      refine f_iln 3 rfl hL rfl ?_
      refine f_imul rfl ?_
      refine b_eq (x := 18) (by decide) ?_
      refine f_il 0 rfl hL rfl ?_
      refine f_iadd rfl ?_
      refine b_eq (x := 19) (by decide) ?_
      refine m_ia sa61 (m 61 19) rfl hw hm (by omega) (by omega) (by decide) rfl ?_
      refine f_iln 4 rfl hL rfl ?_
      refine f_ic rfl (hR 61 19) rk (fun c2 => ?_) (fun c2 => ?_)
      · have c2 : ¬ (m 61 19 : Int) = (k : Int) := c2
        refine f_s [fi (0), fi (b)] rfl rfl ?_
        refine b_ior rfl ?_
        refine f_istn [(3, fi (iO (b) (0))), (4, fi (1)), (0, .ref 55), (1, fi (1)), (2, fi (k))] rfl (by decide) hL rfl (fun L13 hL13 => ?_)
        refine f_inc 1 [(4, fi (2)), (3, fi (iO (b) (0))), (0, .ref 55), (1, fi (1)), (2, fi (k))] rfl (by decide) hL13 rfl rfl (fun L14 hL14 => ?_)
        refine f_goto rfl ?_
        have e9 : dw1 m 19 k 1 (iS 1 1) b = iO (b) (0) := by unfold dw1; rw [if_pos (by omega), if_neg (by omega)]
        rw [e9]
        exact hK2 hc (iO (b) (0)) _ hw hm iO_r (hL14.sel [0, 1, 2, 3, 4] rfl)
      · have c2 : ¬ (¬ (m 61 19 : Int) = (k : Int)) := c2
        refine f_s [fi (1), fi (b)] rfl rfl ?_
        refine f_il 0 rfl hL rfl ?_
        refine b_ishl rfl ?_
        refine f_goto rfl ?_
        refine b_ior rfl ?_
        refine f_istn [(3, fi (iO (b) (iS (1) (1)))), (4, fi (1)), (0, .ref 55), (1, fi (1)), (2, fi (k))] rfl (by decide) hL rfl (fun L15 hL15 => ?_)
        refine f_inc 1 [(4, fi (2)), (3, fi (iO (b) (iS (1) (1)))), (0, .ref 55), (1, fi (1)), (2, fi (k))] rfl (by decide) hL15 rfl rfl (fun L16 hL16 => ?_)
        refine f_goto rfl ?_
        have e9 : dw1 m 19 k 1 (iS 1 1) b = iO (b) (iS (1) (1)) := by unfold dw1; rw [if_pos (by omega), if_pos (by omega)]
        rw [e9]
        exact hK2 hc (iO (b) (iS (1) (1))) _ hw hm iO_r (hL16.sel [0, 1, 2, 3, 4] rfl)
  have hK0 : ∀ (hc : ev_H) (b : Int) (L : ev_L), y_in yGw hc → gi hc = m → (-2147483648 ≤ b ∧ b ≤ 2147483647) → f_L L [(4, fi (0)), (3, fi (b)), (0, .ref 55), (1, fi (1)), (2, fi (k))] → x_W none (1, 0, 5, 2, 11, 0, 0, 0, 0, ev_t47) 5 L [] hc 0 0 (fun r' h' => r' = some (fi (dw1 m 22 k 4 (iS 1 4) (dw1 m 21 k 3 (iS 1 3) (dw1 m 20 k 2 (iS 1 2) (dw1 m 19 k 1 (iS 1 1) (dw1 m 18 k 0 (iS 1 0) (b))))))) ∧ y_in yGw h' ∧ gi h' = m) := fun hc b L hw hm rb hL => by
    refine f_il 0 rfl hL rfl ?_
    refine f_aln 2 rfl hL rfl ?_
    refine m_gfi so55 (m 55 1) rfl hw hm rfl rfl ?_
    refine f_ic rfl (by decide) (by omega) (fun c1 => ?_) (fun c1 => ?_)
    · have c1 : (m 55 1 : Int) ≤ (0 : Int) := c1
      have e8 : dw1 m 22 k 4 (iS 1 4) (dw1 m 21 k 3 (iS 1 3) (dw1 m 20 k 2 (iS 1 2) (dw1 m 19 k 1 (iS 1 1) (dw1 m 18 k 0 (iS 1 0) (b))))) = b := by unfold dw1; rw [if_neg (by omega), if_neg (by omega), if_neg (by omega), if_neg (by omega), if_neg (by omega)]
      rw [e8]
      refine f_iln 1 rfl hL rfl ?_
      exact f_ret1 rfl ⟨rfl, hw, hm⟩
    · have c1 : ¬ ((m 55 1 : Int) ≤ (0 : Int)) := c1
      refine f_iln 1 rfl hL rfl ?_
      refine f_aln 2 rfl hL rfl ?_
      refine m_gfr so55 rfl hw rfl (by decide) ?_
      refine f_bipush (n := 18) rfl (by decide) ?_
      refine f_iln 3 rfl hL rfl ?_
      refine f_imul rfl ?_
      refine b_eq (x := 18) (by decide) ?_
      refine f_il 0 rfl hL rfl ?_
      refine f_iadd rfl ?_
      refine b_eq (x := 18) (by decide) ?_
      refine m_ia sa61 (m 61 18) rfl hw hm (by omega) (by omega) (by decide) rfl ?_
      refine f_iln 4 rfl hL rfl ?_
      refine f_ic rfl (hR 61 18) rk (fun c2 => ?_) (fun c2 => ?_)
      · have c2 : ¬ (m 61 18 : Int) = (k : Int) := c2
        refine f_s [fi (0), fi (b)] rfl rfl ?_
        refine b_ior rfl ?_
        refine f_istn [(3, fi (iO (b) (0))), (4, fi (0)), (0, .ref 55), (1, fi (1)), (2, fi (k))] rfl (by decide) hL rfl (fun L17 hL17 => ?_)
        refine f_inc 1 [(4, fi (1)), (3, fi (iO (b) (0))), (0, .ref 55), (1, fi (1)), (2, fi (k))] rfl (by decide) hL17 rfl rfl (fun L18 hL18 => ?_)
        refine f_goto rfl ?_
        have e9 : dw1 m 18 k 0 (iS 1 0) b = iO (b) (0) := by unfold dw1; rw [if_pos (by omega), if_neg (by omega)]
        rw [e9]
        exact hK1 hc (iO (b) (0)) _ hw hm iO_r (hL18.sel [0, 1, 2, 3, 4] rfl)
      · have c2 : ¬ (¬ (m 61 18 : Int) = (k : Int)) := c2
        refine f_s [fi (1), fi (b)] rfl rfl ?_
        refine f_il 0 rfl hL rfl ?_
        refine b_ishl rfl ?_
        refine f_goto rfl ?_
        refine b_ior rfl ?_
        refine f_istn [(3, fi (iO (b) (iS (1) (0)))), (4, fi (0)), (0, .ref 55), (1, fi (1)), (2, fi (k))] rfl (by decide) hL rfl (fun L19 hL19 => ?_)
        refine f_inc 1 [(4, fi (1)), (3, fi (iO (b) (iS (1) (0)))), (0, .ref 55), (1, fi (1)), (2, fi (k))] rfl (by decide) hL19 rfl rfl (fun L20 hL20 => ?_)
        refine f_goto rfl ?_
        have e9 : dw1 m 18 k 0 (iS 1 0) b = iO (b) (iS (1) (0)) := by unfold dw1; rw [if_pos (by omega), if_pos (by omega)]
        rw [e9]
        exact hK1 hc (iO (b) (iS (1) (0))) _ hw hm iO_r (hL20.sel [0, 1, 2, 3, 4] rfl)
  refine f_s [fi (0)] rfl rfl ?_
  refine f_istn [(3, fi (0)), (0, .ref 55), (1, fi (1)), (2, fi (k))] rfl (by decide) hL rfl (fun L21 hL21 => ?_)
  refine f_s [fi (0)] rfl rfl ?_
  refine f_ist [(4, fi (0)), (3, fi (0)), (0, .ref 55), (1, fi (1)), (2, fi (k))] rfl (by decide) hL21 rfl (fun L22 hL22 => ?_)
  exact hK0 hc 0 _ hw hm (by decide) (hL22.sel [0, 1, 2, 3, 4] rfl))
theorem t77_1 {m : Nat → Nat → Int} (hp : 0 ≤ m 55 1 ∧ m 55 1 ≤ 5) {p : Int} (p1 : 0 ≤ p) (p2 : p < 5) {k : Int} (k1 : 0 ≤ k) (k2 : k < 4) {wv fv : Int} (hv : m 61 (18 + p).toNat = wv) (rwv : -2147483648 ≤ wv ∧ wv ≤ 2147483647) (hfv : m 60 (p).toNat = fv) (rfv : -2147483648 ≤ fv ∧ fv ≤ 2147483647) : h_M 77 [.ref 55, fi (1), fi (p), fi (k)] m (some (fi (bI (decide (¬ iA (iR (m 61 34) (p)) (1) = 1 ∧ wv = -9 ∧ ¬ iA (iR (m 61 33) (k)) (1) = 1 ∧ iA (iR (fv) (k)) (1) = 1 ∧ onS (dw18 m k) < rmM m k))))) m := h_M_of (R := ev_r77) rfl (fun hc hw hm => by
  have hL : f_L (lv_args 0 [.ref 55, fi (1), fi (p), fi (k)]) [(0, .ref 55), (1, fi (1)), (2, fi (p)), (3, fi (k))] := f_L_of rfl
  generalize lv_args 0 [.ref 55, fi (1), fi (p), fi (k)] = L at hL
  show x_W none (2, 0, 5, 3, 11, 2, 43, 0, 0, ev_t77) 0 L [] hc 0 0 _
  have hR := gi_R hm
  refine f_bipush (n := 18) rfl (by decide) ?_
  refine f_iln 1 rfl hL rfl ?_
  refine f_imul rfl ?_
  refine b_eq (x := 18) (by decide) ?_
  refine f_ist [(4, fi (18)), (0, .ref 55), (1, fi (1)), (2, fi (p)), (3, fi (k))] rfl (by decide) hL rfl (fun L1 hL1 => ?_)
  refine f_aln 1 rfl hL1 rfl ?_
  refine f_iln 2 rfl hL1 rfl ?_
  refine f_iln 3 rfl hL1 rfl ?_
  refine m_k1 (t74_1 (by omega)) hw hm rfl rfl rfl (m_ar so55 hw rfl) rfl (fun hc1 hw1 hm1 => ?_)
  refine f_if rfl (bI_r _) (fun c1 => ?_) (fun c1 => ?_)
  · have c1 : ¬ (bI (decide (iA (iR (m 61 34) (p)) (1) = 1)) : Int) = (0 : Int) := c1
    have c1 : iA (iR (m 61 34) (p)) (1) = 1 := bI_t c1
    refine f_s [fi (0)] rfl rfl ?_
    exact f_ret2 rfl (Or.inl rfl) ⟨by rw [decide_eq_false (by omega)]; rfl, hw1, hm1⟩
  · have c1 : ¬ (¬ (bI (decide (iA (iR (m 61 34) (p)) (1) = 1)) : Int) = (0 : Int)) := c1
    have c1 : ¬ (iA (iR (m 61 34) (p)) (1) = 1) := bI_n c1
    refine f_aln 1 rfl hL1 rfl ?_
    refine m_gfr so55 rfl hw1 rfl (by decide) ?_
    refine f_il 0 rfl hL1 rfl ?_
    refine f_iln 3 rfl hL1 rfl ?_
    refine f_iadd rfl ?_
    refine m_ia sa61 (wv) rfl hw1 hm1 (by omega) (by omega) (by decide) hv ?_
    refine f_bipush (n := -9) rfl (by decide) ?_
    refine f_ic rfl rwv (by decide) (fun c2 => ?_) (fun c2 => ?_)
    · have c2 : ¬ (wv : Int) = (-9 : Int) := c2
      refine f_s [fi (0)] rfl rfl ?_
      exact f_ret2 rfl (Or.inl rfl) ⟨by rw [decide_eq_false (by omega)]; rfl, hw1, hm1⟩
    · have c2 : ¬ (¬ (wv : Int) = (-9 : Int)) := c2
      refine f_aln 1 rfl hL1 rfl ?_
      refine m_gfr so55 rfl hw1 rfl (by decide) ?_
      refine f_il 0 rfl hL1 rfl ?_
      refine f_bipush (n := 15) rfl (by decide) ?_
      refine f_iadd rfl ?_
      refine b_eq (x := 33) (by decide) ?_
      refine m_ia sa61 (m 61 33) rfl hw1 hm1 (by omega) (by omega) (by decide) rfl ?_
      refine f_iln 4 rfl hL1 rfl ?_
      refine m_k1 (t73 (hR 61 33) (by omega)) hw1 hm1 rfl rfl rfl rfl rfl (fun hc2 hw2 hm2 => ?_)
      refine f_if rfl (bI_r _) (fun c3 => ?_) (fun c3 => ?_)
      · have c3 : ¬ (bI (decide (iA (iR (m 61 33) (k)) (1) = 1)) : Int) = (0 : Int) := c3
        have c3 : iA (iR (m 61 33) (k)) (1) = 1 := bI_t c3
        refine f_s [fi (0)] rfl rfl ?_
        exact f_ret2 rfl (Or.inl rfl) ⟨by rw [decide_eq_false (by omega)]; rfl, hw2, hm2⟩
      · have c3 : ¬ (¬ (bI (decide (iA (iR (m 61 33) (k)) (1) = 1)) : Int) = (0 : Int)) := c3
        have c3 : ¬ (iA (iR (m 61 33) (k)) (1) = 1) := bI_n c3
        refine f_aln 1 rfl hL1 rfl ?_
        refine m_gfr so55 rfl hw2 rfl (by decide) ?_
        refine f_iln 3 rfl hL1 rfl ?_
        refine m_ia sa60 (fv) rfl hw2 hm2 (by omega) (by omega) (by decide) hfv ?_
        refine f_iln 4 rfl hL1 rfl ?_
        refine m_k1 (t73 rfv (by omega)) hw2 hm2 rfl rfl rfl rfl rfl (fun hc3 hw3 hm3 => ?_)
        refine f_if rfl (bI_r _) (fun c4 => ?_) (fun c4 => ?_)
        · have c4 : (bI (decide (iA (iR (fv) (k)) (1) = 1)) : Int) = (0 : Int) := c4
          have c4 : ¬ (iA (iR (fv) (k)) (1) = 1) := bI_f c4
          refine f_s [fi (0)] rfl rfl ?_
          exact f_ret2 rfl (Or.inl rfl) ⟨by rw [decide_eq_false (by omega)]; rfl, hw3, hm3⟩
        · have c4 : ¬ ((bI (decide (iA (iR (fv) (k)) (1) = 1)) : Int) = (0 : Int)) := c4
          have c4 : iA (iR (fv) (k)) (1) = 1 := bI_t c4
          refine f_aln 1 rfl hL1 rfl ?_
          refine f_iln 2 rfl hL1 rfl ?_
          refine f_iln 4 rfl hL1 rfl ?_
          refine m_k1 (t47_1 hp (by omega)) hw3 hm3 rfl rfl rfl (m_ar so55 hw3 rfl) rfl (fun hc4 hw4 hm4 => ?_)
          refine m_k1 (t75 (dw18_r m k)) hw4 hm4 rfl rfl rfl rfl rfl (fun hc5 hw5 hm5 => ?_)
          refine f_aln 1 rfl hL1 rfl ?_
          refine f_iln 4 rfl hL1 rfl ?_
          refine m_k1 (t76 k1 k2) hw5 hm5 rfl rfl rfl (m_ar so55 hw5 rfl) rfl (fun hc6 hw6 hm6 => ?_)
          refine f_ic rfl (by have := onS_r (dw18 m k); omega) (by have := rmM_r (m := m) k; omega) (fun c5 => ?_) (fun c5 => ?_)
          · have c5 : (rmM m k : Int) ≤ (onS (dw18 m k) : Int) := c5
            refine f_s [fi (0)] rfl rfl ?_
            exact f_ret2 rfl (Or.inl rfl) ⟨by rw [decide_eq_false (by omega)]; rfl, hw6, hm6⟩
          · have c5 : ¬ ((rmM m k : Int) ≤ (onS (dw18 m k) : Int)) := c5
            refine f_s [fi (1)] rfl rfl ?_
            refine f_goto rfl ?_
            exact f_ret2 rfl (Or.inr rfl) ⟨by rw [decide_eq_true (by omega)]; rfl, hw6, hm6⟩)
theorem t79_1 {m : Nat → Nat → Int} {p : Int} (p1 : 0 ≤ p) (p2 : p < 5) {k : Int} (rk : -2147483648 ≤ k ∧ k ≤ 2147483647) : h_M 79 [.ref 55, fi (1), fi (p), fi (k)] m none (up (up m 61 (18 + p).toNat (k)) 61 (23 + p).toNat (0)) := h_M_of (R := ev_r79) rfl (fun hc hw hm => by
  have hL : f_L (lv_args 0 [.ref 55, fi (1), fi (p), fi (k)]) [(0, .ref 55), (1, fi (1)), (2, fi (p)), (3, fi (k))] := f_L_of rfl
  generalize lv_args 0 [.ref 55, fi (1), fi (p), fi (k)] = L at hL
  show x_W none (0, 0, 4, 3, 11, 0, 0, 0, 0, ev_t79) 0 L [] hc 0 0 _
  have hR := gi_R hm
  refine f_aln 0 rfl hL rfl ?_
  refine m_gfr so55 rfl hw rfl (by decide) ?_
  refine f_bipush (n := 18) rfl (by decide) ?_
  refine f_iln 1 rfl hL rfl ?_
  refine f_imul rfl ?_
  refine b_eq (x := 18) (by decide) ?_
  refine f_iln 2 rfl hL rfl ?_
  refine f_iadd rfl ?_
  refine f_iln 3 rfl hL rfl ?_
  refine m_ias sa61 rfl hw hm (by omega) (by omega) (by decide) (by omega) (fun hc1 hw1 hm1 => ?_)
  refine f_aln 0 rfl hL rfl ?_
  refine m_gfr so55 rfl hw1 rfl (by decide) ?_
  refine f_bipush (n := 18) rfl (by decide) ?_
  refine f_iln 1 rfl hL rfl ?_
  refine f_imul rfl ?_
  refine b_eq (x := 18) (by decide) ?_
  refine f_s [fi (5), fi (18), .ref 61] rfl rfl ?_
  refine f_iadd rfl ?_
  refine b_eq (x := 23) (by decide) ?_
  refine f_iln 2 rfl hL rfl ?_
  refine f_iadd rfl ?_
  refine f_s [fi (0), fi (23 + p), .ref 61] rfl rfl ?_
  refine m_ias sa61 rfl hw1 hm1 (by omega) (by omega) (by decide) (by decide) (fun hc2 hw2 hm2 => ?_)
  exact m_ret0 rfl ⟨rfl, hw2, hm2⟩)
theorem t90_1 {m : Nat → Nat → Int} {p : Int} (p1 : 0 ≤ p) (p2 : p < 5) {h : Int} (rh : -2147483648 ≤ h ∧ h ≤ 2147483647) {fv uv : Int} (hfv : m 58 (p).toNat = fv) (rfv : -2147483648 ≤ fv ∧ fv ≤ 2147483647) (huv : m 59 (p).toNat = uv) (ruv : -2147483648 ≤ uv ∧ uv ≤ 2147483647) : h_M 90 [.ref 55, fi (1), fi (p), fi (h)] m (some (fi (bI (decide (¬ iA (iR (m 61 34) (p)) (1) = 1 ∧ fv ≤ h ∧ h ≤ uv))))) m := h_M_of (R := ev_r90) rfl (fun hc hw hm => by
  have hL : f_L (lv_args 0 [.ref 55, fi (1), fi (p), fi (h)]) [(0, .ref 55), (1, fi (1)), (2, fi (p)), (3, fi (h))] := f_L_of rfl
  generalize lv_args 0 [.ref 55, fi (1), fi (p), fi (h)] = L at hL
  show x_W none (2, 0, 4, 3, 11, 2, 43, 0, 0, ev_t90) 0 L [] hc 0 0 _
  have hR := gi_R hm
  refine f_aln 0 rfl hL rfl ?_
  refine f_iln 1 rfl hL rfl ?_
  refine f_iln 2 rfl hL rfl ?_
  refine m_k1 (t74_1 (by omega)) hw hm rfl rfl rfl (m_ar so55 hw rfl) rfl (fun hc1 hw1 hm1 => ?_)
  refine f_if rfl (bI_r _) (fun c1 => ?_) (fun c1 => ?_)
  · have c1 : ¬ (bI (decide (iA (iR (m 61 34) (p)) (1) = 1)) : Int) = (0 : Int) := c1
    have c1 : iA (iR (m 61 34) (p)) (1) = 1 := bI_t c1
    refine f_s [fi (0)] rfl rfl ?_
    exact f_ret2 rfl (Or.inl rfl) ⟨by rw [decide_eq_false (by omega)]; rfl, hw1, hm1⟩
  · have c1 : ¬ (¬ (bI (decide (iA (iR (m 61 34) (p)) (1) = 1)) : Int) = (0 : Int)) := c1
    have c1 : ¬ (iA (iR (m 61 34) (p)) (1) = 1) := bI_n c1
    refine f_iln 3 rfl hL rfl ?_
    refine f_i2l rfl (by omega) ?_
    refine f_aln 0 rfl hL rfl ?_
    refine m_gfr so55 rfl hw1 rfl (by decide) ?_
    refine f_iln 2 rfl hL rfl ?_
    refine m_ia sa58 (fv) rfl hw1 hm1 (by omega) (by omega) (by decide) hfv ?_
    refine f_i2l rfl (by omega) ?_
    refine f_aln 0 rfl hL rfl ?_
    refine m_gfr so55 rfl hw1 rfl (by decide) ?_
    refine f_iln 2 rfl hL rfl ?_
    refine m_ia sa59 (uv) rfl hw1 hm1 (by omega) (by omega) (by decide) huv ?_
    refine f_i2l rfl (by omega) ?_
    refine m_k1 (t_in h fv uv (by omega) (by omega) (by omega)) hw1 hm1 rfl rfl rfl rfl rfl (fun hc2 hw2 hm2 => ?_)
    refine f_if rfl (bI_r _) (fun c2 => ?_) (fun c2 => ?_)
    · have c2 : (bI (decide (fv ≤ h ∧ h ≤ uv)) : Int) = (0 : Int) := c2
      have c2 : ¬ (fv ≤ h ∧ h ≤ uv) := bI_f c2
      refine f_s [fi (0)] rfl rfl ?_
      exact f_ret2 rfl (Or.inl rfl) ⟨by rw [decide_eq_false (by omega)]; rfl, hw2, hm2⟩
    · have c2 : ¬ ((bI (decide (fv ≤ h ∧ h ≤ uv)) : Int) = (0 : Int)) := c2
      have c2 : fv ≤ h ∧ h ≤ uv := bI_t c2
      refine f_s [fi (1)] rfl rfl ?_
      refine f_goto rfl ?_
      exact f_ret2 rfl (Or.inr rfl) ⟨by rw [decide_eq_true (by omega)]; rfl, hw2, hm2⟩)
