/-! what changes the class's scene; acts and slots -/
def puC (m : Nat → Nat → Int) (w h : Nat) (x k : Int) : Nat → Nat → Int := if 0 ≤ x ∧ x < m 3 6 then up (up m w x.toNat k) h x.toNat 0 else m
def nd (m : Nat → Nat → Int) (S : Nat) (x h : Int) : Prop := ((0 ≤ x ∧ x < m 3 6) ∧ m 6 x.toNat ≤ h ∧ h ≤ m 7 x.toNat) ∧ ¬ ((0 ≤ x ∧ x < m 3 6) ∧ iA (iR (m S 5) (x)) (1) = 1)
theorem iX14 {x : Int} (h1 : 0 ≤ x) (h2 : x ≤ 27) : 0 ≤ iX x 14 := by
  have h := (by decide : ∀ k : Fin 28, 0 ≤ iX ((k.val : Nat) : Int) 14) ⟨x.toNat, by omega⟩
  have e : ((x.toNat : Nat) : Int) = x := by omega
  rw [show ((⟨x.toNat, by omega⟩ : Fin 28).val) = x.toNat from rfl, e] at h
  exact h
theorem t68 {m : Nat → Nat → Int} {x : Int} (x1 : 0 ≤ x) (x2 : x ≤ 27) : h_M 68 [fi (x), fi (14)] m (some (fi ((x) % (14)))) m := h_M_of (R := ev_r68) rfl (fun hc hw hm => by
  have hL : f_L (lv_args 0 [fi (x), fi (14)]) [(0, fi (x)), (1, fi (14))] := f_L_of rfl
  generalize lv_args 0 [fi (x), fi (14)] = L at hL
  show x_W none (1, 0, 3, 2, 0, 0, 0, 0, 0, ev_t68) 0 L [] hc 0 0 _
  have hR := gi_R hm
  refine f_iln 0 rfl hL rfl ?_
  refine f_iln 1 rfl hL rfl ?_
  refine f_irem rfl x1 (by omega) (by decide) (by decide) ?_
  refine f_istn [(2, fi ((x) % (14))), (0, fi (x)), (1, fi (14))] rfl (by decide) hL rfl (fun L1 hL1 => ?_)
  refine f_iln 1 rfl hL1 rfl ?_
  refine f_iln 2 rfl hL1 rfl ?_
  refine b_ixor rfl ?_
  refine f_if rfl iX_r (fun _ => ?_) (fun c_9 => absurd (show (0 : Int) ≤ (iX (x) (14) : Int) from (iX14 x1 x2)) c_9)
  refine f_iln 0 rfl hL1 rfl ?_
  exact f_ret1 rfl ⟨rfl, hw, hm⟩)
theorem t71_9 {m : Nat → Nat → Int} (hp : 0 ≤ m 3 6 ∧ m 3 6 ≤ 5) {x : Int} (rx : -2147483648 ≤ x ∧ x ≤ 2147483647) {k : Int} (rk : -2147483648 ≤ k ∧ k ≤ 2147483647) : h_M 71 [.ref 9, fi (x), fi (k)] m none (puC m 10 11 x k) := h_M_of (R := ev_r71) rfl (fun hc hw hm => by
  have hL : f_L (lv_args 0 [.ref 9, fi (x), fi (k)]) [(0, .ref 9), (1, fi (x)), (2, fi (k))] := f_L_of rfl
  generalize lv_args 0 [.ref 9, fi (x), fi (k)] = L at hL
  show x_W none (0, 0, 3, 2, 7, 1, 21, 0, 0, ev_t71) 0 L [] hc 0 0 _
  have hR := gi_R hm
  refine f_aln 0 rfl hL rfl ?_
  refine m_gfr so9 rfl hw rfl (by decide) ?_
  refine f_iln 1 rfl hL rfl ?_
  refine m_k1 (t49 hp.2 rx) hw hm rfl rfl rfl (m_ar so3 hw rfl) rfl (fun hc1 hw1 hm1 => ?_)
  refine f_if rfl (bI_r _) (fun c1 => ?_) (fun c1 => ?_)
  · have c1 : (bI (decide (0 ≤ x ∧ x < m 3 6)) : Int) = (0 : Int) := c1
    have c1 : ¬ (0 ≤ x ∧ x < m 3 6) := bI_f c1
    exact m_ret0 rfl ⟨rfl, hw1, by rw [hm1]; unfold puC; rw [if_neg c1]⟩
  · have c1 : ¬ ((bI (decide (0 ≤ x ∧ x < m 3 6)) : Int) = (0 : Int)) := c1
    have c1 : 0 ≤ x ∧ x < m 3 6 := bI_t c1
    refine f_aln 0 rfl hL rfl ?_
    refine m_gfr so9 rfl hw1 rfl (by decide) ?_
    refine f_iln 1 rfl hL rfl ?_
    refine f_iln 2 rfl hL rfl ?_
    refine m_ias sa10 rfl hw1 hm1 (by omega) (by omega) (by decide) (by omega) (fun hc2 hw2 hm2 => ?_)
    refine f_aln 0 rfl hL rfl ?_
    refine m_gfr so9 rfl hw2 rfl (by decide) ?_
    refine f_iln 1 rfl hL rfl ?_
    refine f_s [fi (0), fi (x), .ref 11] rfl rfl ?_
    refine m_ias sa11 rfl hw2 hm2 (by omega) (by omega) (by decide) (by decide) (fun hc3 hw3 hm3 => ?_)
    exact m_ret0 rfl ⟨rfl, hw3, by rw [hm3]; unfold puC; rw [if_pos c1]⟩)
theorem t81_9 {m : Nat → Nat → Int} (hp : 0 ≤ m 3 6 ∧ m 3 6 ≤ 5) {x : Int} (rx : -2147483648 ≤ x ∧ x ≤ 2147483647) : h_M 81 [.ref 9, fi (x)] m none (puC m 10 11 x (-9)) := h_M_of (R := ev_r81) rfl (fun hc hw hm => by
  have hL : f_L (lv_args 0 [.ref 9, fi (x)]) [(0, .ref 9), (1, fi (x))] := f_L_of rfl
  generalize lv_args 0 [.ref 9, fi (x)] = L at hL
  show x_W none (0, 0, 2, 1, 7, 2, 43, 0, 0, ev_t81) 0 L [] hc 0 0 _
  have hR := gi_R hm
  refine f_aln 0 rfl hL rfl ?_
  refine f_iln 1 rfl hL rfl ?_
  refine f_bipush (n := -9) rfl (by decide) ?_
  refine m_k0 (t71_9 (k := -9) hp rx (by decide)) hw hm rfl rfl rfl (m_ar so9 hw rfl) rfl (fun hc1 hw1 hm1 => ?_)
  exact m_ret0 rfl ⟨rfl, hw1, hm1⟩)
theorem t84 {m : Nat → Nat → Int} (hp : 0 ≤ m 3 6 ∧ m 3 6 ≤ 5) {x : Int} (rx : -2147483648 ≤ x ∧ x ≤ 2147483647) {h : Int} (rh : -2147483648 ≤ h ∧ h ≤ 2147483647) : h_M 84 [.ref 3, fi (x), fi (h)] m (some (fi (bI (decide ((0 ≤ x ∧ x < m 3 6) ∧ m 6 (x).toNat ≤ h ∧ h ≤ m 7 (x).toNat))))) m := h_M_of (R := ev_r84) rfl (fun hc hw hm => by
  have hL : f_L (lv_args 0 [.ref 3, fi (x), fi (h)]) [(0, .ref 3), (1, fi (x)), (2, fi (h))] := f_L_of rfl
  generalize lv_args 0 [.ref 3, fi (x), fi (h)] = L at hL
  show x_W none (2, 0, 3, 2, 5, 1, 21, 0, 0, ev_t84) 0 L [] hc 0 0 _
  have hR := gi_R hm
  refine f_aln 0 rfl hL rfl ?_
  refine f_iln 1 rfl hL rfl ?_
  refine m_k1 (t49 hp.2 rx) hw hm rfl rfl rfl (m_ar so3 hw rfl) rfl (fun hc1 hw1 hm1 => ?_)
  refine f_if rfl (bI_r _) (fun c1 => ?_) (fun c1 => ?_)
  · have c1 : (bI (decide (0 ≤ x ∧ x < m 3 6)) : Int) = (0 : Int) := c1
    have c1 : ¬ (0 ≤ x ∧ x < m 3 6) := bI_f c1
    refine f_s [fi (0)] rfl rfl ?_
    exact f_ret2 rfl (Or.inl rfl) ⟨by rw [decide_eq_false (by omega)]; rfl, hw1, hm1⟩
  · have c1 : ¬ ((bI (decide (0 ≤ x ∧ x < m 3 6)) : Int) = (0 : Int)) := c1
    have c1 : 0 ≤ x ∧ x < m 3 6 := bI_t c1
    refine f_iln 2 rfl hL rfl ?_
    refine f_aln 0 rfl hL rfl ?_
    refine m_gfr so3 rfl hw1 rfl (by decide) ?_
    refine f_iln 1 rfl hL rfl ?_
    refine m_ia sa6 (m 6 (x).toNat) rfl hw1 hm1 (by omega) (by omega) (by decide) rfl ?_
    refine f_ic rfl rh (hR _ _) (fun c2 => ?_) (fun c2 => ?_)
    · have c2 : (h : Int) < (m 6 (x).toNat : Int) := c2
      refine f_s [fi (0)] rfl rfl ?_
      exact f_ret2 rfl (Or.inl rfl) ⟨by rw [decide_eq_false (by omega)]; rfl, hw1, hm1⟩
    · have c2 : ¬ ((h : Int) < (m 6 (x).toNat : Int)) := c2
      refine f_iln 2 rfl hL rfl ?_
      refine f_aln 0 rfl hL rfl ?_
      refine m_gfr so3 rfl hw1 rfl (by decide) ?_
      refine f_iln 1 rfl hL rfl ?_
      refine m_ia sa7 (m 7 (x).toNat) rfl hw1 hm1 (by omega) (by omega) (by decide) rfl ?_
      refine f_ic rfl rh (hR _ _) (fun c3 => ?_) (fun c3 => ?_)
      · have c3 : (m 7 (x).toNat : Int) < (h : Int) := c3
        refine f_s [fi (0)] rfl rfl ?_
        exact f_ret2 rfl (Or.inl rfl) ⟨by rw [decide_eq_false (by omega)]; rfl, hw1, hm1⟩
      · have c3 : ¬ ((m 7 (x).toNat : Int) < (h : Int)) := c3
        refine f_s [fi (1)] rfl rfl ?_
        refine f_goto rfl ?_
        exact f_ret2 rfl (Or.inr rfl) ⟨by rw [decide_eq_true (by omega)]; rfl, hw1, hm1⟩)
theorem t85_9 {m : Nat → Nat → Int} (hp : 0 ≤ m 3 6 ∧ m 3 6 ≤ 5) {x : Int} (rx : -2147483648 ≤ x ∧ x ≤ 2147483647) {h : Int} (rh : -2147483648 ≤ h ∧ h ≤ 2147483647) : h_M 85 [.ref 9, fi (x), fi (h)] m (some (fi (bI (decide (((0 ≤ x ∧ x < m 3 6) ∧ m 6 (x).toNat ≤ h ∧ h ≤ m 7 (x).toNat) ∧ ¬ ((0 ≤ x ∧ x < m 3 6) ∧ iA (iR (m 9 5) (x)) (1) = 1)))))) m := h_M_of (R := ev_r85) rfl (fun hc hw hm => by
  have hL : f_L (lv_args 0 [.ref 9, fi (x), fi (h)]) [(0, .ref 9), (1, fi (x)), (2, fi (h))] := f_L_of rfl
  generalize lv_args 0 [.ref 9, fi (x), fi (h)] = L at hL
  show x_W none (2, 0, 3, 2, 7, 2, 43, 0, 0, ev_t85) 0 L [] hc 0 0 _
  have hR := gi_R hm
  refine f_aln 0 rfl hL rfl ?_
  refine m_gfr so9 rfl hw rfl (by decide) ?_
  refine f_iln 1 rfl hL rfl ?_
  refine f_iln 2 rfl hL rfl ?_
  refine m_k1 (t84 hp rx rh) hw hm rfl rfl rfl (m_ar so3 hw rfl) rfl (fun hc1 hw1 hm1 => ?_)
  refine f_if rfl (bI_r _) (fun c1 => ?_) (fun c1 => ?_)
  · have c1 : (bI (decide ((0 ≤ x ∧ x < m 3 6) ∧ m 6 (x).toNat ≤ h ∧ h ≤ m 7 (x).toNat)) : Int) = (0 : Int) := c1
    have c1 : ¬ ((0 ≤ x ∧ x < m 3 6) ∧ m 6 (x).toNat ≤ h ∧ h ≤ m 7 (x).toNat) := bI_f c1
    refine f_s [fi (0)] rfl rfl ?_
    exact f_ret2 rfl (Or.inl rfl) ⟨by rw [decide_eq_false (by omega)]; rfl, hw1, hm1⟩
  · have c1 : ¬ ((bI (decide ((0 ≤ x ∧ x < m 3 6) ∧ m 6 (x).toNat ≤ h ∧ h ≤ m 7 (x).toNat)) : Int) = (0 : Int)) := c1
    have c1 : (0 ≤ x ∧ x < m 3 6) ∧ m 6 (x).toNat ≤ h ∧ h ≤ m 7 (x).toNat := bI_t c1
    refine f_aln 0 rfl hL rfl ?_
    refine f_iln 1 rfl hL rfl ?_
    refine m_k1 (t59_9 hp rx) hw1 hm1 rfl rfl rfl (m_ar so9 hw1 rfl) rfl (fun hc2 hw2 hm2 => ?_)
    refine f_if rfl (bI_r _) (fun c2 => ?_) (fun c2 => ?_)
    · have c2 : ¬ (bI (decide ((0 ≤ x ∧ x < m 3 6) ∧ iA (iR (m 9 5) (x)) (1) = 1)) : Int) = (0 : Int) := c2
      have c2 : (0 ≤ x ∧ x < m 3 6) ∧ iA (iR (m 9 5) (x)) (1) = 1 := bI_t c2
      refine f_s [fi (0)] rfl rfl ?_
      exact f_ret2 rfl (Or.inl rfl) ⟨by rw [decide_eq_false (by omega)]; rfl, hw2, hm2⟩
    · have c2 : ¬ (¬ (bI (decide ((0 ≤ x ∧ x < m 3 6) ∧ iA (iR (m 9 5) (x)) (1) = 1)) : Int) = (0 : Int)) := c2
      have c2 : ¬ ((0 ≤ x ∧ x < m 3 6) ∧ iA (iR (m 9 5) (x)) (1) = 1) := bI_n c2
      refine f_s [fi (1)] rfl rfl ?_
      refine f_goto rfl ?_
      exact f_ret2 rfl (Or.inr rfl) ⟨by rw [decide_eq_true (by omega)]; rfl, hw2, hm2⟩)
def ng1 (m : Nat → Nat → Int) (S : Nat) (h : Int) (x s b : Int) : Int := if ((0 ≤ x ∧ x < m 3 6) ∧ m 6 x.toNat ≤ h ∧ h ≤ m 7 x.toNat) ∧ ¬ ((0 ≤ x ∧ x < m 3 6) ∧ iA (iR (m S 5) x) 1 = 1) then iO b s else b
def ngS (m : Nat → Nat → Int) (S : Nat) (h : Int) : Int := ng1 m S h 4 (iS 1 4) (ng1 m S h 3 (iS 1 3) (ng1 m S h 2 (iS 1 2) (ng1 m S h 1 (iS 1 1) (ng1 m S h 0 (iS 1 0) 0))))
theorem t86_9 {m : Nat → Nat → Int} (hp : 0 ≤ m 3 6 ∧ m 3 6 ≤ 5) {h : Int} (rh : -2147483648 ≤ h ∧ h ≤ 2147483647) : h_M 86 [.ref 9, fi (h)] m (some (fi (ngS m 9 h))) m := h_M_of (R := ev_r86) rfl (fun hc hw hm => by
  have hL : f_L (lv_args 0 [.ref 9, fi (h)]) [(0, .ref 9), (1, fi (h))] := f_L_of rfl
  generalize lv_args 0 [.ref 9, fi (h)] = L at hL
  show x_W none (1, 0, 4, 1, 7, 3, 65, 0, 0, ev_t86) 0 L [] hc 0 0 _
  have hR := gi_R hm
  have hK5 : ∀ (hc : ev_H) (b : Int) (L : ev_L), y_in yGw hc → gi hc = m → (-2147483648 ≤ b ∧ b ≤ 2147483647) → f_L L [(3, fi (5)), (2, fi (b)), (0, .ref 9), (1, fi (h))] → x_W none (1, 0, 4, 1, 7, 3, 65, 0, 0, ev_t86) 4 L [] hc 0 0 (fun r' h' => r' = some (fi (b)) ∧ y_in yGw h' ∧ gi h' = m) := fun hc b L hw hm rb hL => by
    refine f_iln 0 rfl hL rfl ?_
    refine f_s [fi (5), fi (5)] rfl rfl ?_
    refine f_ic rfl (by decide) (by decide) (fun _ => ?_) (fun c_9 => absurd (show (5 : Int) ≤ (5 : Int) from (by decide)) c_9)
    refine f_iln 1 rfl hL rfl ?_
    exact f_ret1 rfl ⟨rfl, hw, hm⟩
  have hK4 : ∀ (hc : ev_H) (b : Int) (L : ev_L), y_in yGw hc → gi hc = m → (-2147483648 ≤ b ∧ b ≤ 2147483647) → f_L L [(3, fi (4)), (2, fi (b)), (0, .ref 9), (1, fi (h))] → x_W none (1, 0, 4, 1, 7, 3, 65, 0, 0, ev_t86) 4 L [] hc 0 0 (fun r' h' => r' = some (fi (ng1 m 9 h 4 (iS 1 4) (b))) ∧ y_in yGw h' ∧ gi h' = m) := fun hc b L hw hm rb hL => by
    refine f_iln 0 rfl hL rfl ?_
    refine f_s [fi (5), fi (4)] rfl rfl ?_
    refine f_ic rfl (by decide) (by decide) (fun c_9 => absurd (show (5 : Int) ≤ (4 : Int) from c_9) (by decide)) (fun _ => ?_)
    refine f_aln 2 rfl hL rfl ?_
    refine f_iln 0 rfl hL rfl ?_
    refine f_iln 3 rfl hL rfl ?_
    refine m_k1 (t85_9 (x := 4) hp (by decide) rh) hw hm rfl rfl rfl (m_ar so9 hw rfl) rfl (fun hc1 hw1 hm1 => ?_)
    refine f_if rfl (bI_r _) (fun c1 => ?_) (fun c1 => ?_)
    · have c1 : (bI (decide (((0 ≤ (4 : Int) ∧ (4 : Int) < m 3 6) ∧ m 6 ((4 : Int)).toNat ≤ h ∧ h ≤ m 7 ((4 : Int)).toNat) ∧ ¬ ((0 ≤ (4 : Int) ∧ (4 : Int) < m 3 6) ∧ iA (iR (m 9 5) ((4 : Int))) (1) = 1))) : Int) = (0 : Int) := c1
      have c1 : ¬ (((0 ≤ (4 : Int) ∧ (4 : Int) < m 3 6) ∧ m 6 ((4 : Int)).toNat ≤ h ∧ h ≤ m 7 ((4 : Int)).toNat) ∧ ¬ ((0 ≤ (4 : Int) ∧ (4 : Int) < m 3 6) ∧ iA (iR (m 9 5) ((4 : Int))) (1) = 1)) := bI_f c1
      refine f_inc 0 [(3, fi (5)), (2, fi (b)), (0, .ref 9), (1, fi (h))] rfl (by decide) hL rfl rfl (fun L1 hL1 => ?_)
      refine f_goto rfl ?_
      have e9 : ng1 m 9 h 4 (iS 1 4) b = b := if_neg c1
      rw [e9]
      exact hK5 hc1 (b) _ hw1 hm1 rb (hL1.sel [0, 1, 2, 3] rfl)
    · have c1 : ¬ ((bI (decide (((0 ≤ (4 : Int) ∧ (4 : Int) < m 3 6) ∧ m 6 ((4 : Int)).toNat ≤ h ∧ h ≤ m 7 ((4 : Int)).toNat) ∧ ¬ ((0 ≤ (4 : Int) ∧ (4 : Int) < m 3 6) ∧ iA (iR (m 9 5) ((4 : Int))) (1) = 1))) : Int) = (0 : Int)) := c1
      have c1 : ((0 ≤ (4 : Int) ∧ (4 : Int) < m 3 6) ∧ m 6 ((4 : Int)).toNat ≤ h ∧ h ≤ m 7 ((4 : Int)).toNat) ∧ ¬ ((0 ≤ (4 : Int) ∧ (4 : Int) < m 3 6) ∧ iA (iR (m 9 5) ((4 : Int))) (1) = 1) := bI_t c1
      refine f_iln 1 rfl hL rfl ?_
      refine f_s [fi (1), fi (b)] rfl rfl ?_
      refine f_iln 0 rfl hL rfl ?_
      refine b_ishl rfl ?_
      refine b_ior rfl ?_
      refine f_istn [(2, fi (iO (b) (iS (1) (4)))), (3, fi (4)), (0, .ref 9), (1, fi (h))] rfl (by decide) hL rfl (fun L2 hL2 => ?_)
      refine f_inc 1 [(3, fi (5)), (2, fi (iO (b) (iS (1) (4)))), (0, .ref 9), (1, fi (h))] rfl (by decide) hL2 rfl rfl (fun L3 hL3 => ?_)
      refine f_goto rfl ?_
      have e9 : ng1 m 9 h 4 (iS 1 4) b = iO (b) (iS (1) (4)) := if_pos c1
      rw [e9]
      exact hK5 hc1 (iO (b) (iS (1) (4))) _ hw1 hm1 iO_r (hL3.sel [0, 1, 2, 3] rfl)
  have hK3 : ∀ (hc : ev_H) (b : Int) (L : ev_L), y_in yGw hc → gi hc = m → (-2147483648 ≤ b ∧ b ≤ 2147483647) → f_L L [(3, fi (3)), (2, fi (b)), (0, .ref 9), (1, fi (h))] → x_W none (1, 0, 4, 1, 7, 3, 65, 0, 0, ev_t86) 4 L [] hc 0 0 (fun r' h' => r' = some (fi (ng1 m 9 h 4 (iS 1 4) (ng1 m 9 h 3 (iS 1 3) (b)))) ∧ y_in yGw h' ∧ gi h' = m) := fun hc b L hw hm rb hL => by
    refine f_iln 0 rfl hL rfl ?_
    refine f_s [fi (5), fi (3)] rfl rfl ?_
    refine f_ic rfl (by decide) (by decide) (fun c_9 => absurd (show (5 : Int) ≤ (3 : Int) from c_9) (by decide)) (fun _ => ?_)
    refine f_aln 2 rfl hL rfl ?_
    refine f_iln 0 rfl hL rfl ?_
    refine f_iln 3 rfl hL rfl ?_
    refine m_k1 (t85_9 (x := 3) hp (by decide) rh) hw hm rfl rfl rfl (m_ar so9 hw rfl) rfl (fun hc2 hw2 hm2 => ?_)
    refine f_if rfl (bI_r _) (fun c1 => ?_) (fun c1 => ?_)
    · have c1 : (bI (decide (((0 ≤ (3 : Int) ∧ (3 : Int) < m 3 6) ∧ m 6 ((3 : Int)).toNat ≤ h ∧ h ≤ m 7 ((3 : Int)).toNat) ∧ ¬ ((0 ≤ (3 : Int) ∧ (3 : Int) < m 3 6) ∧ iA (iR (m 9 5) ((3 : Int))) (1) = 1))) : Int) = (0 : Int) := c1
      have c1 : ¬ (((0 ≤ (3 : Int) ∧ (3 : Int) < m 3 6) ∧ m 6 ((3 : Int)).toNat ≤ h ∧ h ≤ m 7 ((3 : Int)).toNat) ∧ ¬ ((0 ≤ (3 : Int) ∧ (3 : Int) < m 3 6) ∧ iA (iR (m 9 5) ((3 : Int))) (1) = 1)) := bI_f c1
      refine f_inc 0 [(3, fi (4)), (2, fi (b)), (0, .ref 9), (1, fi (h))] rfl (by decide) hL rfl rfl (fun L4 hL4 => ?_)
      refine f_goto rfl ?_
      have e9 : ng1 m 9 h 3 (iS 1 3) b = b := if_neg c1
      rw [e9]
      exact hK4 hc2 (b) _ hw2 hm2 rb (hL4.sel [0, 1, 2, 3] rfl)
    · have c1 : ¬ ((bI (decide (((0 ≤ (3 : Int) ∧ (3 : Int) < m 3 6) ∧ m 6 ((3 : Int)).toNat ≤ h ∧ h ≤ m 7 ((3 : Int)).toNat) ∧ ¬ ((0 ≤ (3 : Int) ∧ (3 : Int) < m 3 6) ∧ iA (iR (m 9 5) ((3 : Int))) (1) = 1))) : Int) = (0 : Int)) := c1
      have c1 : ((0 ≤ (3 : Int) ∧ (3 : Int) < m 3 6) ∧ m 6 ((3 : Int)).toNat ≤ h ∧ h ≤ m 7 ((3 : Int)).toNat) ∧ ¬ ((0 ≤ (3 : Int) ∧ (3 : Int) < m 3 6) ∧ iA (iR (m 9 5) ((3 : Int))) (1) = 1) := bI_t c1
      refine f_iln 1 rfl hL rfl ?_
      refine f_s [fi (1), fi (b)] rfl rfl ?_
      refine f_iln 0 rfl hL rfl ?_
      refine b_ishl rfl ?_
      refine b_ior rfl ?_
      refine f_istn [(2, fi (iO (b) (iS (1) (3)))), (3, fi (3)), (0, .ref 9), (1, fi (h))] rfl (by decide) hL rfl (fun L5 hL5 => ?_)
      refine f_inc 1 [(3, fi (4)), (2, fi (iO (b) (iS (1) (3)))), (0, .ref 9), (1, fi (h))] rfl (by decide) hL5 rfl rfl (fun L6 hL6 => ?_)
      refine f_goto rfl ?_
      have e9 : ng1 m 9 h 3 (iS 1 3) b = iO (b) (iS (1) (3)) := if_pos c1
      rw [e9]
      exact hK4 hc2 (iO (b) (iS (1) (3))) _ hw2 hm2 iO_r (hL6.sel [0, 1, 2, 3] rfl)
  have hK2 : ∀ (hc : ev_H) (b : Int) (L : ev_L), y_in yGw hc → gi hc = m → (-2147483648 ≤ b ∧ b ≤ 2147483647) → f_L L [(3, fi (2)), (2, fi (b)), (0, .ref 9), (1, fi (h))] → x_W none (1, 0, 4, 1, 7, 3, 65, 0, 0, ev_t86) 4 L [] hc 0 0 (fun r' h' => r' = some (fi (ng1 m 9 h 4 (iS 1 4) (ng1 m 9 h 3 (iS 1 3) (ng1 m 9 h 2 (iS 1 2) (b))))) ∧ y_in yGw h' ∧ gi h' = m) := fun hc b L hw hm rb hL => by
    refine f_iln 0 rfl hL rfl ?_
    refine f_s [fi (5), fi (2)] rfl rfl ?_
    refine f_ic rfl (by decide) (by decide) (fun c_9 => absurd (show (5 : Int) ≤ (2 : Int) from c_9) (by decide)) (fun _ => ?_)
    refine f_aln 2 rfl hL rfl ?_
    refine f_iln 0 rfl hL rfl ?_
    refine f_iln 3 rfl hL rfl ?_
    refine m_k1 (t85_9 (x := 2) hp (by decide) rh) hw hm rfl rfl rfl (m_ar so9 hw rfl) rfl (fun hc3 hw3 hm3 => ?_)
    refine f_if rfl (bI_r _) (fun c1 => ?_) (fun c1 => ?_)
    · have c1 : (bI (decide (((0 ≤ (2 : Int) ∧ (2 : Int) < m 3 6) ∧ m 6 ((2 : Int)).toNat ≤ h ∧ h ≤ m 7 ((2 : Int)).toNat) ∧ ¬ ((0 ≤ (2 : Int) ∧ (2 : Int) < m 3 6) ∧ iA (iR (m 9 5) ((2 : Int))) (1) = 1))) : Int) = (0 : Int) := c1
      have c1 : ¬ (((0 ≤ (2 : Int) ∧ (2 : Int) < m 3 6) ∧ m 6 ((2 : Int)).toNat ≤ h ∧ h ≤ m 7 ((2 : Int)).toNat) ∧ ¬ ((0 ≤ (2 : Int) ∧ (2 : Int) < m 3 6) ∧ iA (iR (m 9 5) ((2 : Int))) (1) = 1)) := bI_f c1
      refine f_inc 0 [(3, fi (3)), (2, fi (b)), (0, .ref 9), (1, fi (h))] rfl (by decide) hL rfl rfl (fun L7 hL7 => ?_)
      refine f_goto rfl ?_
      have e9 : ng1 m 9 h 2 (iS 1 2) b = b := if_neg c1
      rw [e9]
      exact hK3 hc3 (b) _ hw3 hm3 rb (hL7.sel [0, 1, 2, 3] rfl)
    · have c1 : ¬ ((bI (decide (((0 ≤ (2 : Int) ∧ (2 : Int) < m 3 6) ∧ m 6 ((2 : Int)).toNat ≤ h ∧ h ≤ m 7 ((2 : Int)).toNat) ∧ ¬ ((0 ≤ (2 : Int) ∧ (2 : Int) < m 3 6) ∧ iA (iR (m 9 5) ((2 : Int))) (1) = 1))) : Int) = (0 : Int)) := c1
      have c1 : ((0 ≤ (2 : Int) ∧ (2 : Int) < m 3 6) ∧ m 6 ((2 : Int)).toNat ≤ h ∧ h ≤ m 7 ((2 : Int)).toNat) ∧ ¬ ((0 ≤ (2 : Int) ∧ (2 : Int) < m 3 6) ∧ iA (iR (m 9 5) ((2 : Int))) (1) = 1) := bI_t c1
      refine f_iln 1 rfl hL rfl ?_
      refine f_s [fi (1), fi (b)] rfl rfl ?_
      refine f_iln 0 rfl hL rfl ?_
      refine b_ishl rfl ?_
      refine b_ior rfl ?_
      refine f_istn [(2, fi (iO (b) (iS (1) (2)))), (3, fi (2)), (0, .ref 9), (1, fi (h))] rfl (by decide) hL rfl (fun L8 hL8 => ?_)
      refine f_inc 1 [(3, fi (3)), (2, fi (iO (b) (iS (1) (2)))), (0, .ref 9), (1, fi (h))] rfl (by decide) hL8 rfl rfl (fun L9 hL9 => ?_)
      refine f_goto rfl ?_
      have e9 : ng1 m 9 h 2 (iS 1 2) b = iO (b) (iS (1) (2)) := if_pos c1
      rw [e9]
      exact hK3 hc3 (iO (b) (iS (1) (2))) _ hw3 hm3 iO_r (hL9.sel [0, 1, 2, 3] rfl)
  have hK1 : ∀ (hc : ev_H) (b : Int) (L : ev_L), y_in yGw hc → gi hc = m → (-2147483648 ≤ b ∧ b ≤ 2147483647) → f_L L [(3, fi (1)), (2, fi (b)), (0, .ref 9), (1, fi (h))] → x_W none (1, 0, 4, 1, 7, 3, 65, 0, 0, ev_t86) 4 L [] hc 0 0 (fun r' h' => r' = some (fi (ng1 m 9 h 4 (iS 1 4) (ng1 m 9 h 3 (iS 1 3) (ng1 m 9 h 2 (iS 1 2) (ng1 m 9 h 1 (iS 1 1) (b)))))) ∧ y_in yGw h' ∧ gi h' = m) := fun hc b L hw hm rb hL => by
    refine f_iln 0 rfl hL rfl ?_
    refine f_s [fi (5), fi (1)] rfl rfl ?_
    refine f_ic rfl (by decide) (by decide) (fun c_9 => absurd (show (5 : Int) ≤ (1 : Int) from c_9) (by decide)) (fun _ => ?_)
    refine f_aln 2 rfl hL rfl ?_
    refine f_iln 0 rfl hL rfl ?_
    refine f_iln 3 rfl hL rfl ?_
    refine m_k1 (t85_9 (x := 1) hp (by decide) rh) hw hm rfl rfl rfl (m_ar so9 hw rfl) rfl (fun hc4 hw4 hm4 => ?_)
    refine f_if rfl (bI_r _) (fun c1 => ?_) (fun c1 => ?_)
    · have c1 : (bI (decide (((0 ≤ (1 : Int) ∧ (1 : Int) < m 3 6) ∧ m 6 ((1 : Int)).toNat ≤ h ∧ h ≤ m 7 ((1 : Int)).toNat) ∧ ¬ ((0 ≤ (1 : Int) ∧ (1 : Int) < m 3 6) ∧ iA (iR (m 9 5) ((1 : Int))) (1) = 1))) : Int) = (0 : Int) := c1
      have c1 : ¬ (((0 ≤ (1 : Int) ∧ (1 : Int) < m 3 6) ∧ m 6 ((1 : Int)).toNat ≤ h ∧ h ≤ m 7 ((1 : Int)).toNat) ∧ ¬ ((0 ≤ (1 : Int) ∧ (1 : Int) < m 3 6) ∧ iA (iR (m 9 5) ((1 : Int))) (1) = 1)) := bI_f c1
      refine f_inc 0 [(3, fi (2)), (2, fi (b)), (0, .ref 9), (1, fi (h))] rfl (by decide) hL rfl rfl (fun L10 hL10 => ?_)
      refine f_goto rfl ?_
      have e9 : ng1 m 9 h 1 (iS 1 1) b = b := if_neg c1
      rw [e9]
      exact hK2 hc4 (b) _ hw4 hm4 rb (hL10.sel [0, 1, 2, 3] rfl)
    · have c1 : ¬ ((bI (decide (((0 ≤ (1 : Int) ∧ (1 : Int) < m 3 6) ∧ m 6 ((1 : Int)).toNat ≤ h ∧ h ≤ m 7 ((1 : Int)).toNat) ∧ ¬ ((0 ≤ (1 : Int) ∧ (1 : Int) < m 3 6) ∧ iA (iR (m 9 5) ((1 : Int))) (1) = 1))) : Int) = (0 : Int)) := c1
      have c1 : ((0 ≤ (1 : Int) ∧ (1 : Int) < m 3 6) ∧ m 6 ((1 : Int)).toNat ≤ h ∧ h ≤ m 7 ((1 : Int)).toNat) ∧ ¬ ((0 ≤ (1 : Int) ∧ (1 : Int) < m 3 6) ∧ iA (iR (m 9 5) ((1 : Int))) (1) = 1) := bI_t c1
      refine f_iln 1 rfl hL rfl ?_
      refine f_s [fi (1), fi (b)] rfl rfl ?_
      refine f_iln 0 rfl hL rfl ?_
      refine b_ishl rfl ?_
      refine b_ior rfl ?_
      refine f_istn [(2, fi (iO (b) (iS (1) (1)))), (3, fi (1)), (0, .ref 9), (1, fi (h))] rfl (by decide) hL rfl (fun L11 hL11 => ?_)
      refine f_inc 1 [(3, fi (2)), (2, fi (iO (b) (iS (1) (1)))), (0, .ref 9), (1, fi (h))] rfl (by decide) hL11 rfl rfl (fun L12 hL12 => ?_)
      refine f_goto rfl ?_
      have e9 : ng1 m 9 h 1 (iS 1 1) b = iO (b) (iS (1) (1)) := if_pos c1
      rw [e9]
      exact hK2 hc4 (iO (b) (iS (1) (1))) _ hw4 hm4 iO_r (hL12.sel [0, 1, 2, 3] rfl)
  have hK0 : ∀ (hc : ev_H) (b : Int) (L : ev_L), y_in yGw hc → gi hc = m → (-2147483648 ≤ b ∧ b ≤ 2147483647) → f_L L [(3, fi (0)), (2, fi (b)), (0, .ref 9), (1, fi (h))] → x_W none (1, 0, 4, 1, 7, 3, 65, 0, 0, ev_t86) 4 L [] hc 0 0 (fun r' h' => r' = some (fi (ng1 m 9 h 4 (iS 1 4) (ng1 m 9 h 3 (iS 1 3) (ng1 m 9 h 2 (iS 1 2) (ng1 m 9 h 1 (iS 1 1) (ng1 m 9 h 0 (iS 1 0) (b))))))) ∧ y_in yGw h' ∧ gi h' = m) := fun hc b L hw hm rb hL => by
    refine f_iln 0 rfl hL rfl ?_
    refine f_s [fi (5), fi (0)] rfl rfl ?_
    refine f_ic rfl (by decide) (by decide) (fun c_9 => absurd (show (5 : Int) ≤ (0 : Int) from c_9) (by decide)) (fun _ => ?_)
    refine f_aln 2 rfl hL rfl ?_
    refine f_iln 0 rfl hL rfl ?_
    refine f_iln 3 rfl hL rfl ?_
    refine m_k1 (t85_9 (x := 0) hp (by decide) rh) hw hm rfl rfl rfl (m_ar so9 hw rfl) rfl (fun hc5 hw5 hm5 => ?_)
    refine f_if rfl (bI_r _) (fun c1 => ?_) (fun c1 => ?_)
    · have c1 : (bI (decide (((0 ≤ (0 : Int) ∧ (0 : Int) < m 3 6) ∧ m 6 ((0 : Int)).toNat ≤ h ∧ h ≤ m 7 ((0 : Int)).toNat) ∧ ¬ ((0 ≤ (0 : Int) ∧ (0 : Int) < m 3 6) ∧ iA (iR (m 9 5) ((0 : Int))) (1) = 1))) : Int) = (0 : Int) := c1
      have c1 : ¬ (((0 ≤ (0 : Int) ∧ (0 : Int) < m 3 6) ∧ m 6 ((0 : Int)).toNat ≤ h ∧ h ≤ m 7 ((0 : Int)).toNat) ∧ ¬ ((0 ≤ (0 : Int) ∧ (0 : Int) < m 3 6) ∧ iA (iR (m 9 5) ((0 : Int))) (1) = 1)) := bI_f c1
      refine f_inc 0 [(3, fi (1)), (2, fi (b)), (0, .ref 9), (1, fi (h))] rfl (by decide) hL rfl rfl (fun L13 hL13 => ?_)
      refine f_goto rfl ?_
      have e9 : ng1 m 9 h 0 (iS 1 0) b = b := if_neg c1
      rw [e9]
      exact hK1 hc5 (b) _ hw5 hm5 rb (hL13.sel [0, 1, 2, 3] rfl)
    · have c1 : ¬ ((bI (decide (((0 ≤ (0 : Int) ∧ (0 : Int) < m 3 6) ∧ m 6 ((0 : Int)).toNat ≤ h ∧ h ≤ m 7 ((0 : Int)).toNat) ∧ ¬ ((0 ≤ (0 : Int) ∧ (0 : Int) < m 3 6) ∧ iA (iR (m 9 5) ((0 : Int))) (1) = 1))) : Int) = (0 : Int)) := c1
      have c1 : ((0 ≤ (0 : Int) ∧ (0 : Int) < m 3 6) ∧ m 6 ((0 : Int)).toNat ≤ h ∧ h ≤ m 7 ((0 : Int)).toNat) ∧ ¬ ((0 ≤ (0 : Int) ∧ (0 : Int) < m 3 6) ∧ iA (iR (m 9 5) ((0 : Int))) (1) = 1) := bI_t c1
      refine f_iln 1 rfl hL rfl ?_
      refine f_s [fi (1), fi (b)] rfl rfl ?_
      refine f_iln 0 rfl hL rfl ?_
      refine b_ishl rfl ?_
      refine b_ior rfl ?_
      refine f_istn [(2, fi (iO (b) (iS (1) (0)))), (3, fi (0)), (0, .ref 9), (1, fi (h))] rfl (by decide) hL rfl (fun L14 hL14 => ?_)
      refine f_inc 1 [(3, fi (1)), (2, fi (iO (b) (iS (1) (0)))), (0, .ref 9), (1, fi (h))] rfl (by decide) hL14 rfl rfl (fun L15 hL15 => ?_)
      refine f_goto rfl ?_
      have e9 : ng1 m 9 h 0 (iS 1 0) b = iO (b) (iS (1) (0)) := if_pos c1
      rw [e9]
      exact hK1 hc5 (iO (b) (iS (1) (0))) _ hw5 hm5 iO_r (hL15.sel [0, 1, 2, 3] rfl)
  refine f_s [fi (0)] rfl rfl ?_
  refine f_istn [(2, fi (0)), (0, .ref 9), (1, fi (h))] rfl (by decide) hL rfl (fun L16 hL16 => ?_)
  refine f_s [fi (0)] rfl rfl ?_
  refine f_istn [(3, fi (0)), (2, fi (0)), (0, .ref 9), (1, fi (h))] rfl (by decide) hL16 rfl (fun L17 hL17 => ?_)
  exact hK0 hc 0 _ hw hm (by decide) (hL17.sel [0, 1, 2, 3] rfl))
theorem t193_9 {m : Nat → Nat → Int} : h_M 193 [.ref 9] m (some (fi (m 9 6))) m := h_M_of (R := ev_r193) rfl (fun hc hw hm => by
  have hL : f_L (lv_args 0 [.ref 9]) [(0, .ref 9)] := f_L_of rfl
  generalize lv_args 0 [.ref 9] = L at hL
  show x_W none (1, 0, 1, 0, 7, 0, 0, 0, 0, ev_t193) 0 L [] hc 0 0 _
  have hR := gi_R hm
  refine f_aln 0 rfl hL rfl ?_
  refine m_gfi so9 (m 9 6) rfl hw hm rfl rfl ?_
  exact f_ret1 rfl ⟨rfl, hw, hm⟩)
theorem t199_9 {m : Nat → Nat → Int} : h_M 199 [.ref 9] m (some (fi (((((0 + (m 12 0)) + (m 12 1)) + (m 12 2)) + (m 12 3)) + (m 12 4)))) m := h_M_of (R := ev_r199) rfl (fun hc hw hm => by
  have hL : f_L (lv_args 0 [.ref 9]) [(0, .ref 9)] := f_L_of rfl
  generalize lv_args 0 [.ref 9] = L at hL
  show x_W none (1, 0, 3, 0, 7, 0, 0, 0, 0, ev_t199) 0 L [] hc 0 0 _
  have hR := gi_R hm
  refine f_s [fi (0)] rfl rfl ?_
  refine f_istn [(1, fi (0)), (0, .ref 9)] rfl (by decide) hL rfl (fun L1 hL1 => ?_)
  refine f_s [fi (0)] rfl rfl ?_
  refine f_istn [(2, fi (0)), (1, fi (0)), (0, .ref 9)] rfl (by decide) hL1 rfl (fun L2 hL2 => ?_)
  refine f_iln 0 rfl hL2 rfl ?_
  refine f_s [fi (5), fi (0)] rfl rfl ?_
  refine f_ic rfl (by decide) (by decide) (fun c_9 => absurd (show (5 : Int) ≤ (0 : Int) from c_9) (by decide)) (fun _ => ?_)
  refine f_iln 1 rfl hL2 rfl ?_
  refine f_aln 2 rfl hL2 rfl ?_
  refine m_gfr so9 rfl hw rfl (by decide) ?_
  refine f_iln 0 rfl hL2 rfl ?_
  refine m_ia sa12 (m 12 0) rfl hw hm (by omega) (by omega) (by decide) rfl ?_
  refine f_iadd rfl ?_
  refine f_istn [(1, fi (0 + (m 12 0))), (2, fi (0)), (0, .ref 9)] rfl (by decide) hL2 rfl (fun L3 hL3 => ?_)
  refine f_inc 1 [(2, fi (1)), (1, fi (0 + (m 12 0))), (0, .ref 9)] rfl (by decide) hL3 rfl rfl (fun L4 hL4 => ?_)
  refine f_goto rfl ?_
  refine f_iln 0 rfl hL4 rfl ?_
  refine f_s [fi (5), fi (1)] rfl rfl ?_
  refine f_ic rfl (by decide) (by decide) (fun c_9 => absurd (show (5 : Int) ≤ (1 : Int) from c_9) (by decide)) (fun _ => ?_)
  refine f_iln 1 rfl hL4 rfl ?_
  refine f_aln 2 rfl hL4 rfl ?_
  refine m_gfr so9 rfl hw rfl (by decide) ?_
  refine f_iln 0 rfl hL4 rfl ?_
  refine m_ia sa12 (m 12 1) rfl hw hm (by omega) (by omega) (by decide) rfl ?_
  refine f_iadd rfl ?_
  refine f_istn [(1, fi ((0 + (m 12 0)) + (m 12 1))), (2, fi (1)), (0, .ref 9)] rfl (by decide) hL4 rfl (fun L5 hL5 => ?_)
  refine f_inc 1 [(2, fi (2)), (1, fi ((0 + (m 12 0)) + (m 12 1))), (0, .ref 9)] rfl (by decide) hL5 rfl rfl (fun L6 hL6 => ?_)
  refine f_goto rfl ?_
  refine f_iln 0 rfl hL6 rfl ?_
  refine f_s [fi (5), fi (2)] rfl rfl ?_
  refine f_ic rfl (by decide) (by decide) (fun c_9 => absurd (show (5 : Int) ≤ (2 : Int) from c_9) (by decide)) (fun _ => ?_)
  refine f_iln 1 rfl hL6 rfl ?_
  refine f_aln 2 rfl hL6 rfl ?_
  refine m_gfr so9 rfl hw rfl (by decide) ?_
  refine f_iln 0 rfl hL6 rfl ?_
  refine m_ia sa12 (m 12 2) rfl hw hm (by omega) (by omega) (by decide) rfl ?_
  refine f_iadd rfl ?_
  refine f_istn [(1, fi (((0 + (m 12 0)) + (m 12 1)) + (m 12 2))), (2, fi (2)), (0, .ref 9)] rfl (by decide) hL6 rfl (fun L7 hL7 => ?_)
  refine f_inc 1 [(2, fi (3)), (1, fi (((0 + (m 12 0)) + (m 12 1)) + (m 12 2))), (0, .ref 9)] rfl (by decide) hL7 rfl rfl (fun L8 hL8 => ?_)
  refine f_goto rfl ?_
  refine f_iln 0 rfl hL8 rfl ?_
  refine f_s [fi (5), fi (3)] rfl rfl ?_
  refine f_ic rfl (by decide) (by decide) (fun c_9 => absurd (show (5 : Int) ≤ (3 : Int) from c_9) (by decide)) (fun _ => ?_)
  refine f_iln 1 rfl hL8 rfl ?_
  refine f_aln 2 rfl hL8 rfl ?_
  refine m_gfr so9 rfl hw rfl (by decide) ?_
  refine f_iln 0 rfl hL8 rfl ?_
  refine m_ia sa12 (m 12 3) rfl hw hm (by omega) (by omega) (by decide) rfl ?_
  refine f_iadd rfl ?_
  refine f_istn [(1, fi ((((0 + (m 12 0)) + (m 12 1)) + (m 12 2)) + (m 12 3))), (2, fi (3)), (0, .ref 9)] rfl (by decide) hL8 rfl (fun L9 hL9 => ?_)
  refine f_inc 1 [(2, fi (4)), (1, fi ((((0 + (m 12 0)) + (m 12 1)) + (m 12 2)) + (m 12 3))), (0, .ref 9)] rfl (by decide) hL9 rfl rfl (fun L10 hL10 => ?_)
  refine f_goto rfl ?_
  refine f_iln 0 rfl hL10 rfl ?_
  refine f_s [fi (5), fi (4)] rfl rfl ?_
  refine f_ic rfl (by decide) (by decide) (fun c_9 => absurd (show (5 : Int) ≤ (4 : Int) from c_9) (by decide)) (fun _ => ?_)
  refine f_iln 1 rfl hL10 rfl ?_
  refine f_aln 2 rfl hL10 rfl ?_
  refine m_gfr so9 rfl hw rfl (by decide) ?_
  refine f_iln 0 rfl hL10 rfl ?_
  refine m_ia sa12 (m 12 4) rfl hw hm (by omega) (by omega) (by decide) rfl ?_
  refine f_iadd rfl ?_
  refine f_istn [(1, fi (((((0 + (m 12 0)) + (m 12 1)) + (m 12 2)) + (m 12 3)) + (m 12 4))), (2, fi (4)), (0, .ref 9)] rfl (by decide) hL10 rfl (fun L11 hL11 => ?_)
  refine f_inc 1 [(2, fi (5)), (1, fi (((((0 + (m 12 0)) + (m 12 1)) + (m 12 2)) + (m 12 3)) + (m 12 4))), (0, .ref 9)] rfl (by decide) hL11 rfl rfl (fun L12 hL12 => ?_)
  refine f_goto rfl ?_
  refine f_iln 0 rfl hL12 rfl ?_
  refine f_s [fi (5), fi (5)] rfl rfl ?_
  refine f_ic rfl (by decide) (by decide) (fun _ => ?_) (fun c_9 => absurd (show (5 : Int) ≤ (5 : Int) from (by decide)) c_9)
  refine f_iln 1 rfl hL12 rfl ?_
  exact f_ret1 rfl ⟨rfl, hw, hm⟩)
theorem t96_9 {m : Nat → Nat → Int} {q : Nat} (hq : h_A q 0 18) (q0 : q ≠ 9) (q1 : q ≠ 9 + 1) (q2 : q ≠ 9 + 2) (q3 : q ≠ 9 + 3) : h_M 96 [.ref 9, .ref q] m none (lod m 9 q) := h_M_of (R := ev_r96) rfl (fun hc hw hm => by
  have hL : f_L (lv_args 0 [.ref 9, .ref q]) [(0, .ref 9), (1, .ref q)] := f_L_of rfl
  generalize lv_args 0 [.ref 9, .ref q] = L at hL
  show x_W none (0, 0, 2, 1, 7, 1, 26, 0, 0, ev_t96) 0 L [] hc 0 0 _
  have hR := gi_R hm
  refine f_aln 1 rfl hL rfl ?_
  refine m_al hq rfl hw (by decide) ?_
  refine f_bipush (n := 18) rfl (by decide) ?_
  refine f_ic rfl (by decide) (by decide) (fun _ => ?_) (fun c_9 => absurd (show (18 : Int) ≤ (18 : Int) from (by decide)) c_9)
  refine f_aln 1 rfl hL rfl ?_
  refine f_s [fi (0), .ref q] rfl rfl ?_
  refine f_aln 0 rfl hL rfl ?_
  refine m_gfr so9 rfl hw rfl (by decide) ?_
  refine f_s [fi (0), .ref 10, fi (0), .ref q] rfl rfl ?_
  refine f_s [fi (5), fi (0), .ref 10, fi (0), .ref q] rfl rfl ?_
  refine m_cp hq sa10 rfl rfl hw hm (by decide) (by decide) (by decide) (by decide) (by decide) (by decide) (by decide) (by decide) (by decide) (fun hc1 hw1 hm1 => ?_)
  refine f_aln 1 rfl hL rfl ?_
  refine f_s [fi (5), .ref q] rfl rfl ?_
  refine f_aln 0 rfl hL rfl ?_
  refine m_gfr so9 rfl hw1 rfl (by decide) ?_
  refine f_s [fi (0), .ref 11, fi (5), .ref q] rfl rfl ?_
  refine f_s [fi (5), fi (0), .ref 11, fi (5), .ref q] rfl rfl ?_
  refine m_cp hq sa11 rfl rfl hw1 hm1 (by decide) (by decide) (by decide) (by decide) (by decide) (by decide) (by decide) (by decide) (by decide) (fun hc2 hw2 hm2 => ?_)
  refine f_aln 1 rfl hL rfl ?_
  refine f_bipush (n := 10) rfl (by decide) ?_
  refine f_aln 0 rfl hL rfl ?_
  refine m_gfr so9 rfl hw2 rfl (by decide) ?_
  refine f_s [fi (0), .ref 12, fi (10), .ref q] rfl rfl ?_
  refine f_s [fi (5), fi (0), .ref 12, fi (10), .ref q] rfl rfl ?_
  refine m_cp hq sa12 rfl rfl hw2 hm2 (by decide) (by decide) (by decide) (by decide) (by decide) (by decide) (by decide) (by decide) (by decide) (fun hc3 hw3 hm3 => ?_)
  refine f_aln 0 rfl hL rfl ?_
  refine f_aln 1 rfl hL rfl ?_
  refine f_bipush (n := 15) rfl (by decide) ?_
  refine m_ia hq (m q 15) rfl hw3 hm3 (by omega) (by omega) (by decide) (by rw [cpy_ne q3, cpy_ne q2, cpy_ne q1]; try rfl) ?_
  refine m_pf so9 rfl hw3 hm3 rfl rfl (hR _ _) (fun hc4 hw4 hm4 => ?_)
  refine f_aln 0 rfl hL rfl ?_
  refine f_aln 1 rfl hL rfl ?_
  refine f_bipush (n := 16) rfl (by decide) ?_
  refine m_ia hq (m q 16) rfl hw4 hm4 (by omega) (by omega) (by decide) (by rw [up_nc q0, cpy_ne q3, cpy_ne q2, cpy_ne q1]; try rfl) ?_
  refine m_pf so9 rfl hw4 hm4 rfl rfl (hR _ _) (fun hc5 hw5 hm5 => ?_)
  refine f_aln 0 rfl hL rfl ?_
  refine f_aln 1 rfl hL rfl ?_
  refine f_bipush (n := 17) rfl (by decide) ?_
  refine m_ia hq (m q 17) rfl hw5 hm5 (by omega) (by omega) (by decide) (by rw [up_nc q0, up_nc q0, cpy_ne q3, cpy_ne q2, cpy_ne q1]; try rfl) ?_
  refine m_pf so9 rfl hw5 hm5 rfl rfl (hR _ _) (fun hc6 hw6 hm6 => ?_)
  exact m_ret0 rfl ⟨rfl, hw6, by rw [hm6]; exact lod_eq m 9 q q0 q1 q2 q3⟩)
theorem t71_13 {m : Nat → Nat → Int} (hp : 0 ≤ m 3 6 ∧ m 3 6 ≤ 5) {x : Int} (rx : -2147483648 ≤ x ∧ x ≤ 2147483647) {k : Int} (rk : -2147483648 ≤ k ∧ k ≤ 2147483647) : h_M 71 [.ref 13, fi (x), fi (k)] m none (puC m 14 15 x k) := h_M_of (R := ev_r71) rfl (fun hc hw hm => by
  have hL : f_L (lv_args 0 [.ref 13, fi (x), fi (k)]) [(0, .ref 13), (1, fi (x)), (2, fi (k))] := f_L_of rfl
  generalize lv_args 0 [.ref 13, fi (x), fi (k)] = L at hL
  show x_W none (0, 0, 3, 2, 7, 1, 21, 0, 0, ev_t71) 0 L [] hc 0 0 _
  have hR := gi_R hm
  refine f_aln 0 rfl hL rfl ?_
  refine m_gfr so13 rfl hw rfl (by decide) ?_
  refine f_iln 1 rfl hL rfl ?_
  refine m_k1 (t49 hp.2 rx) hw hm rfl rfl rfl (m_ar so3 hw rfl) rfl (fun hc1 hw1 hm1 => ?_)
  refine f_if rfl (bI_r _) (fun c1 => ?_) (fun c1 => ?_)
  · have c1 : (bI (decide (0 ≤ x ∧ x < m 3 6)) : Int) = (0 : Int) := c1
    have c1 : ¬ (0 ≤ x ∧ x < m 3 6) := bI_f c1
    exact m_ret0 rfl ⟨rfl, hw1, by rw [hm1]; unfold puC; rw [if_neg c1]⟩
  · have c1 : ¬ ((bI (decide (0 ≤ x ∧ x < m 3 6)) : Int) = (0 : Int)) := c1
    have c1 : 0 ≤ x ∧ x < m 3 6 := bI_t c1
    refine f_aln 0 rfl hL rfl ?_
    refine m_gfr so13 rfl hw1 rfl (by decide) ?_
    refine f_iln 1 rfl hL rfl ?_
    refine f_iln 2 rfl hL rfl ?_
    refine m_ias sa14 rfl hw1 hm1 (by omega) (by omega) (by decide) (by omega) (fun hc2 hw2 hm2 => ?_)
    refine f_aln 0 rfl hL rfl ?_
    refine m_gfr so13 rfl hw2 rfl (by decide) ?_
    refine f_iln 1 rfl hL rfl ?_
    refine f_s [fi (0), fi (x), .ref 15] rfl rfl ?_
    refine m_ias sa15 rfl hw2 hm2 (by omega) (by omega) (by decide) (by decide) (fun hc3 hw3 hm3 => ?_)
    exact m_ret0 rfl ⟨rfl, hw3, by rw [hm3]; unfold puC; rw [if_pos c1]⟩)
theorem t81_13 {m : Nat → Nat → Int} (hp : 0 ≤ m 3 6 ∧ m 3 6 ≤ 5) {x : Int} (rx : -2147483648 ≤ x ∧ x ≤ 2147483647) : h_M 81 [.ref 13, fi (x)] m none (puC m 14 15 x (-9)) := h_M_of (R := ev_r81) rfl (fun hc hw hm => by
  have hL : f_L (lv_args 0 [.ref 13, fi (x)]) [(0, .ref 13), (1, fi (x))] := f_L_of rfl
  generalize lv_args 0 [.ref 13, fi (x)] = L at hL
  show x_W none (0, 0, 2, 1, 7, 2, 43, 0, 0, ev_t81) 0 L [] hc 0 0 _
  have hR := gi_R hm
  refine f_aln 0 rfl hL rfl ?_
  refine f_iln 1 rfl hL rfl ?_
  refine f_bipush (n := -9) rfl (by decide) ?_
  refine m_k0 (t71_13 (k := -9) hp rx (by decide)) hw hm rfl rfl rfl (m_ar so13 hw rfl) rfl (fun hc1 hw1 hm1 => ?_)
  exact m_ret0 rfl ⟨rfl, hw1, hm1⟩)
theorem t85_13 {m : Nat → Nat → Int} (hp : 0 ≤ m 3 6 ∧ m 3 6 ≤ 5) {x : Int} (rx : -2147483648 ≤ x ∧ x ≤ 2147483647) {h : Int} (rh : -2147483648 ≤ h ∧ h ≤ 2147483647) : h_M 85 [.ref 13, fi (x), fi (h)] m (some (fi (bI (decide (((0 ≤ x ∧ x < m 3 6) ∧ m 6 (x).toNat ≤ h ∧ h ≤ m 7 (x).toNat) ∧ ¬ ((0 ≤ x ∧ x < m 3 6) ∧ iA (iR (m 13 5) (x)) (1) = 1)))))) m := h_M_of (R := ev_r85) rfl (fun hc hw hm => by
  have hL : f_L (lv_args 0 [.ref 13, fi (x), fi (h)]) [(0, .ref 13), (1, fi (x)), (2, fi (h))] := f_L_of rfl
  generalize lv_args 0 [.ref 13, fi (x), fi (h)] = L at hL
  show x_W none (2, 0, 3, 2, 7, 2, 43, 0, 0, ev_t85) 0 L [] hc 0 0 _
  have hR := gi_R hm
  refine f_aln 0 rfl hL rfl ?_
  refine m_gfr so13 rfl hw rfl (by decide) ?_
  refine f_iln 1 rfl hL rfl ?_
  refine f_iln 2 rfl hL rfl ?_
  refine m_k1 (t84 hp rx rh) hw hm rfl rfl rfl (m_ar so3 hw rfl) rfl (fun hc1 hw1 hm1 => ?_)
  refine f_if rfl (bI_r _) (fun c1 => ?_) (fun c1 => ?_)
  · have c1 : (bI (decide ((0 ≤ x ∧ x < m 3 6) ∧ m 6 (x).toNat ≤ h ∧ h ≤ m 7 (x).toNat)) : Int) = (0 : Int) := c1
    have c1 : ¬ ((0 ≤ x ∧ x < m 3 6) ∧ m 6 (x).toNat ≤ h ∧ h ≤ m 7 (x).toNat) := bI_f c1
    refine f_s [fi (0)] rfl rfl ?_
    exact f_ret2 rfl (Or.inl rfl) ⟨by rw [decide_eq_false (by omega)]; rfl, hw1, hm1⟩
  · have c1 : ¬ ((bI (decide ((0 ≤ x ∧ x < m 3 6) ∧ m 6 (x).toNat ≤ h ∧ h ≤ m 7 (x).toNat)) : Int) = (0 : Int)) := c1
    have c1 : (0 ≤ x ∧ x < m 3 6) ∧ m 6 (x).toNat ≤ h ∧ h ≤ m 7 (x).toNat := bI_t c1
    refine f_aln 0 rfl hL rfl ?_
    refine f_iln 1 rfl hL rfl ?_
    refine m_k1 (t59_13 hp rx) hw1 hm1 rfl rfl rfl (m_ar so13 hw1 rfl) rfl (fun hc2 hw2 hm2 => ?_)
    refine f_if rfl (bI_r _) (fun c2 => ?_) (fun c2 => ?_)
    · have c2 : ¬ (bI (decide ((0 ≤ x ∧ x < m 3 6) ∧ iA (iR (m 13 5) (x)) (1) = 1)) : Int) = (0 : Int) := c2
      have c2 : (0 ≤ x ∧ x < m 3 6) ∧ iA (iR (m 13 5) (x)) (1) = 1 := bI_t c2
      refine f_s [fi (0)] rfl rfl ?_
      exact f_ret2 rfl (Or.inl rfl) ⟨by rw [decide_eq_false (by omega)]; rfl, hw2, hm2⟩
    · have c2 : ¬ (¬ (bI (decide ((0 ≤ x ∧ x < m 3 6) ∧ iA (iR (m 13 5) (x)) (1) = 1)) : Int) = (0 : Int)) := c2
      have c2 : ¬ ((0 ≤ x ∧ x < m 3 6) ∧ iA (iR (m 13 5) (x)) (1) = 1) := bI_n c2
      refine f_s [fi (1)] rfl rfl ?_
      refine f_goto rfl ?_
      exact f_ret2 rfl (Or.inr rfl) ⟨by rw [decide_eq_true (by omega)]; rfl, hw2, hm2⟩)
theorem t86_13 {m : Nat → Nat → Int} (hp : 0 ≤ m 3 6 ∧ m 3 6 ≤ 5) {h : Int} (rh : -2147483648 ≤ h ∧ h ≤ 2147483647) : h_M 86 [.ref 13, fi (h)] m (some (fi (ngS m 13 h))) m := h_M_of (R := ev_r86) rfl (fun hc hw hm => by
  have hL : f_L (lv_args 0 [.ref 13, fi (h)]) [(0, .ref 13), (1, fi (h))] := f_L_of rfl
  generalize lv_args 0 [.ref 13, fi (h)] = L at hL
  show x_W none (1, 0, 4, 1, 7, 3, 65, 0, 0, ev_t86) 0 L [] hc 0 0 _
  have hR := gi_R hm
  have hK5 : ∀ (hc : ev_H) (b : Int) (L : ev_L), y_in yGw hc → gi hc = m → (-2147483648 ≤ b ∧ b ≤ 2147483647) → f_L L [(3, fi (5)), (2, fi (b)), (0, .ref 13), (1, fi (h))] → x_W none (1, 0, 4, 1, 7, 3, 65, 0, 0, ev_t86) 4 L [] hc 0 0 (fun r' h' => r' = some (fi (b)) ∧ y_in yGw h' ∧ gi h' = m) := fun hc b L hw hm rb hL => by
    refine f_iln 0 rfl hL rfl ?_
    refine f_s [fi (5), fi (5)] rfl rfl ?_
    refine f_ic rfl (by decide) (by decide) (fun _ => ?_) (fun c_9 => absurd (show (5 : Int) ≤ (5 : Int) from (by decide)) c_9)
    refine f_iln 1 rfl hL rfl ?_
    exact f_ret1 rfl ⟨rfl, hw, hm⟩
  have hK4 : ∀ (hc : ev_H) (b : Int) (L : ev_L), y_in yGw hc → gi hc = m → (-2147483648 ≤ b ∧ b ≤ 2147483647) → f_L L [(3, fi (4)), (2, fi (b)), (0, .ref 13), (1, fi (h))] → x_W none (1, 0, 4, 1, 7, 3, 65, 0, 0, ev_t86) 4 L [] hc 0 0 (fun r' h' => r' = some (fi (ng1 m 13 h 4 (iS 1 4) (b))) ∧ y_in yGw h' ∧ gi h' = m) := fun hc b L hw hm rb hL => by
    refine f_iln 0 rfl hL rfl ?_
    refine f_s [fi (5), fi (4)] rfl rfl ?_
    refine f_ic rfl (by decide) (by decide) (fun c_9 => absurd (show (5 : Int) ≤ (4 : Int) from c_9) (by decide)) (fun _ => ?_)
    refine f_aln 2 rfl hL rfl ?_
    refine f_iln 0 rfl hL rfl ?_
    refine f_iln 3 rfl hL rfl ?_
    refine m_k1 (t85_13 (x := 4) hp (by decide) rh) hw hm rfl rfl rfl (m_ar so13 hw rfl) rfl (fun hc1 hw1 hm1 => ?_)
    refine f_if rfl (bI_r _) (fun c1 => ?_) (fun c1 => ?_)
    · have c1 : (bI (decide (((0 ≤ (4 : Int) ∧ (4 : Int) < m 3 6) ∧ m 6 ((4 : Int)).toNat ≤ h ∧ h ≤ m 7 ((4 : Int)).toNat) ∧ ¬ ((0 ≤ (4 : Int) ∧ (4 : Int) < m 3 6) ∧ iA (iR (m 13 5) ((4 : Int))) (1) = 1))) : Int) = (0 : Int) := c1
      have c1 : ¬ (((0 ≤ (4 : Int) ∧ (4 : Int) < m 3 6) ∧ m 6 ((4 : Int)).toNat ≤ h ∧ h ≤ m 7 ((4 : Int)).toNat) ∧ ¬ ((0 ≤ (4 : Int) ∧ (4 : Int) < m 3 6) ∧ iA (iR (m 13 5) ((4 : Int))) (1) = 1)) := bI_f c1
      refine f_inc 0 [(3, fi (5)), (2, fi (b)), (0, .ref 13), (1, fi (h))] rfl (by decide) hL rfl rfl (fun L1 hL1 => ?_)
      refine f_goto rfl ?_
      have e9 : ng1 m 13 h 4 (iS 1 4) b = b := if_neg c1
      rw [e9]
      exact hK5 hc1 (b) _ hw1 hm1 rb (hL1.sel [0, 1, 2, 3] rfl)
    · have c1 : ¬ ((bI (decide (((0 ≤ (4 : Int) ∧ (4 : Int) < m 3 6) ∧ m 6 ((4 : Int)).toNat ≤ h ∧ h ≤ m 7 ((4 : Int)).toNat) ∧ ¬ ((0 ≤ (4 : Int) ∧ (4 : Int) < m 3 6) ∧ iA (iR (m 13 5) ((4 : Int))) (1) = 1))) : Int) = (0 : Int)) := c1
      have c1 : ((0 ≤ (4 : Int) ∧ (4 : Int) < m 3 6) ∧ m 6 ((4 : Int)).toNat ≤ h ∧ h ≤ m 7 ((4 : Int)).toNat) ∧ ¬ ((0 ≤ (4 : Int) ∧ (4 : Int) < m 3 6) ∧ iA (iR (m 13 5) ((4 : Int))) (1) = 1) := bI_t c1
      refine f_iln 1 rfl hL rfl ?_
      refine f_s [fi (1), fi (b)] rfl rfl ?_
      refine f_iln 0 rfl hL rfl ?_
      refine b_ishl rfl ?_
      refine b_ior rfl ?_
      refine f_istn [(2, fi (iO (b) (iS (1) (4)))), (3, fi (4)), (0, .ref 13), (1, fi (h))] rfl (by decide) hL rfl (fun L2 hL2 => ?_)
      refine f_inc 1 [(3, fi (5)), (2, fi (iO (b) (iS (1) (4)))), (0, .ref 13), (1, fi (h))] rfl (by decide) hL2 rfl rfl (fun L3 hL3 => ?_)
      refine f_goto rfl ?_
      have e9 : ng1 m 13 h 4 (iS 1 4) b = iO (b) (iS (1) (4)) := if_pos c1
      rw [e9]
      exact hK5 hc1 (iO (b) (iS (1) (4))) _ hw1 hm1 iO_r (hL3.sel [0, 1, 2, 3] rfl)
  have hK3 : ∀ (hc : ev_H) (b : Int) (L : ev_L), y_in yGw hc → gi hc = m → (-2147483648 ≤ b ∧ b ≤ 2147483647) → f_L L [(3, fi (3)), (2, fi (b)), (0, .ref 13), (1, fi (h))] → x_W none (1, 0, 4, 1, 7, 3, 65, 0, 0, ev_t86) 4 L [] hc 0 0 (fun r' h' => r' = some (fi (ng1 m 13 h 4 (iS 1 4) (ng1 m 13 h 3 (iS 1 3) (b)))) ∧ y_in yGw h' ∧ gi h' = m) := fun hc b L hw hm rb hL => by
    refine f_iln 0 rfl hL rfl ?_
    refine f_s [fi (5), fi (3)] rfl rfl ?_
    refine f_ic rfl (by decide) (by decide) (fun c_9 => absurd (show (5 : Int) ≤ (3 : Int) from c_9) (by decide)) (fun _ => ?_)
    refine f_aln 2 rfl hL rfl ?_
    refine f_iln 0 rfl hL rfl ?_
    refine f_iln 3 rfl hL rfl ?_
    refine m_k1 (t85_13 (x := 3) hp (by decide) rh) hw hm rfl rfl rfl (m_ar so13 hw rfl) rfl (fun hc2 hw2 hm2 => ?_)
    refine f_if rfl (bI_r _) (fun c1 => ?_) (fun c1 => ?_)
    · have c1 : (bI (decide (((0 ≤ (3 : Int) ∧ (3 : Int) < m 3 6) ∧ m 6 ((3 : Int)).toNat ≤ h ∧ h ≤ m 7 ((3 : Int)).toNat) ∧ ¬ ((0 ≤ (3 : Int) ∧ (3 : Int) < m 3 6) ∧ iA (iR (m 13 5) ((3 : Int))) (1) = 1))) : Int) = (0 : Int) := c1
      have c1 : ¬ (((0 ≤ (3 : Int) ∧ (3 : Int) < m 3 6) ∧ m 6 ((3 : Int)).toNat ≤ h ∧ h ≤ m 7 ((3 : Int)).toNat) ∧ ¬ ((0 ≤ (3 : Int) ∧ (3 : Int) < m 3 6) ∧ iA (iR (m 13 5) ((3 : Int))) (1) = 1)) := bI_f c1
      refine f_inc 0 [(3, fi (4)), (2, fi (b)), (0, .ref 13), (1, fi (h))] rfl (by decide) hL rfl rfl (fun L4 hL4 => ?_)
      refine f_goto rfl ?_
      have e9 : ng1 m 13 h 3 (iS 1 3) b = b := if_neg c1
      rw [e9]
      exact hK4 hc2 (b) _ hw2 hm2 rb (hL4.sel [0, 1, 2, 3] rfl)
    · have c1 : ¬ ((bI (decide (((0 ≤ (3 : Int) ∧ (3 : Int) < m 3 6) ∧ m 6 ((3 : Int)).toNat ≤ h ∧ h ≤ m 7 ((3 : Int)).toNat) ∧ ¬ ((0 ≤ (3 : Int) ∧ (3 : Int) < m 3 6) ∧ iA (iR (m 13 5) ((3 : Int))) (1) = 1))) : Int) = (0 : Int)) := c1
      have c1 : ((0 ≤ (3 : Int) ∧ (3 : Int) < m 3 6) ∧ m 6 ((3 : Int)).toNat ≤ h ∧ h ≤ m 7 ((3 : Int)).toNat) ∧ ¬ ((0 ≤ (3 : Int) ∧ (3 : Int) < m 3 6) ∧ iA (iR (m 13 5) ((3 : Int))) (1) = 1) := bI_t c1
      refine f_iln 1 rfl hL rfl ?_
      refine f_s [fi (1), fi (b)] rfl rfl ?_
      refine f_iln 0 rfl hL rfl ?_
      refine b_ishl rfl ?_
      refine b_ior rfl ?_
      refine f_istn [(2, fi (iO (b) (iS (1) (3)))), (3, fi (3)), (0, .ref 13), (1, fi (h))] rfl (by decide) hL rfl (fun L5 hL5 => ?_)
      refine f_inc 1 [(3, fi (4)), (2, fi (iO (b) (iS (1) (3)))), (0, .ref 13), (1, fi (h))] rfl (by decide) hL5 rfl rfl (fun L6 hL6 => ?_)
      refine f_goto rfl ?_
      have e9 : ng1 m 13 h 3 (iS 1 3) b = iO (b) (iS (1) (3)) := if_pos c1
      rw [e9]
      exact hK4 hc2 (iO (b) (iS (1) (3))) _ hw2 hm2 iO_r (hL6.sel [0, 1, 2, 3] rfl)
  have hK2 : ∀ (hc : ev_H) (b : Int) (L : ev_L), y_in yGw hc → gi hc = m → (-2147483648 ≤ b ∧ b ≤ 2147483647) → f_L L [(3, fi (2)), (2, fi (b)), (0, .ref 13), (1, fi (h))] → x_W none (1, 0, 4, 1, 7, 3, 65, 0, 0, ev_t86) 4 L [] hc 0 0 (fun r' h' => r' = some (fi (ng1 m 13 h 4 (iS 1 4) (ng1 m 13 h 3 (iS 1 3) (ng1 m 13 h 2 (iS 1 2) (b))))) ∧ y_in yGw h' ∧ gi h' = m) := fun hc b L hw hm rb hL => by
    refine f_iln 0 rfl hL rfl ?_
    refine f_s [fi (5), fi (2)] rfl rfl ?_
    refine f_ic rfl (by decide) (by decide) (fun c_9 => absurd (show (5 : Int) ≤ (2 : Int) from c_9) (by decide)) (fun _ => ?_)
    refine f_aln 2 rfl hL rfl ?_
    refine f_iln 0 rfl hL rfl ?_
    refine f_iln 3 rfl hL rfl ?_
    refine m_k1 (t85_13 (x := 2) hp (by decide) rh) hw hm rfl rfl rfl (m_ar so13 hw rfl) rfl (fun hc3 hw3 hm3 => ?_)
    refine f_if rfl (bI_r _) (fun c1 => ?_) (fun c1 => ?_)
    · have c1 : (bI (decide (((0 ≤ (2 : Int) ∧ (2 : Int) < m 3 6) ∧ m 6 ((2 : Int)).toNat ≤ h ∧ h ≤ m 7 ((2 : Int)).toNat) ∧ ¬ ((0 ≤ (2 : Int) ∧ (2 : Int) < m 3 6) ∧ iA (iR (m 13 5) ((2 : Int))) (1) = 1))) : Int) = (0 : Int) := c1
      have c1 : ¬ (((0 ≤ (2 : Int) ∧ (2 : Int) < m 3 6) ∧ m 6 ((2 : Int)).toNat ≤ h ∧ h ≤ m 7 ((2 : Int)).toNat) ∧ ¬ ((0 ≤ (2 : Int) ∧ (2 : Int) < m 3 6) ∧ iA (iR (m 13 5) ((2 : Int))) (1) = 1)) := bI_f c1
      refine f_inc 0 [(3, fi (3)), (2, fi (b)), (0, .ref 13), (1, fi (h))] rfl (by decide) hL rfl rfl (fun L7 hL7 => ?_)
      refine f_goto rfl ?_
      have e9 : ng1 m 13 h 2 (iS 1 2) b = b := if_neg c1
      rw [e9]
      exact hK3 hc3 (b) _ hw3 hm3 rb (hL7.sel [0, 1, 2, 3] rfl)
    · have c1 : ¬ ((bI (decide (((0 ≤ (2 : Int) ∧ (2 : Int) < m 3 6) ∧ m 6 ((2 : Int)).toNat ≤ h ∧ h ≤ m 7 ((2 : Int)).toNat) ∧ ¬ ((0 ≤ (2 : Int) ∧ (2 : Int) < m 3 6) ∧ iA (iR (m 13 5) ((2 : Int))) (1) = 1))) : Int) = (0 : Int)) := c1
      have c1 : ((0 ≤ (2 : Int) ∧ (2 : Int) < m 3 6) ∧ m 6 ((2 : Int)).toNat ≤ h ∧ h ≤ m 7 ((2 : Int)).toNat) ∧ ¬ ((0 ≤ (2 : Int) ∧ (2 : Int) < m 3 6) ∧ iA (iR (m 13 5) ((2 : Int))) (1) = 1) := bI_t c1
      refine f_iln 1 rfl hL rfl ?_
      refine f_s [fi (1), fi (b)] rfl rfl ?_
      refine f_iln 0 rfl hL rfl ?_
      refine b_ishl rfl ?_
      refine b_ior rfl ?_
      refine f_istn [(2, fi (iO (b) (iS (1) (2)))), (3, fi (2)), (0, .ref 13), (1, fi (h))] rfl (by decide) hL rfl (fun L8 hL8 => ?_)
      refine f_inc 1 [(3, fi (3)), (2, fi (iO (b) (iS (1) (2)))), (0, .ref 13), (1, fi (h))] rfl (by decide) hL8 rfl rfl (fun L9 hL9 => ?_)
      refine f_goto rfl ?_
      have e9 : ng1 m 13 h 2 (iS 1 2) b = iO (b) (iS (1) (2)) := if_pos c1
      rw [e9]
      exact hK3 hc3 (iO (b) (iS (1) (2))) _ hw3 hm3 iO_r (hL9.sel [0, 1, 2, 3] rfl)
  have hK1 : ∀ (hc : ev_H) (b : Int) (L : ev_L), y_in yGw hc → gi hc = m → (-2147483648 ≤ b ∧ b ≤ 2147483647) → f_L L [(3, fi (1)), (2, fi (b)), (0, .ref 13), (1, fi (h))] → x_W none (1, 0, 4, 1, 7, 3, 65, 0, 0, ev_t86) 4 L [] hc 0 0 (fun r' h' => r' = some (fi (ng1 m 13 h 4 (iS 1 4) (ng1 m 13 h 3 (iS 1 3) (ng1 m 13 h 2 (iS 1 2) (ng1 m 13 h 1 (iS 1 1) (b)))))) ∧ y_in yGw h' ∧ gi h' = m) := fun hc b L hw hm rb hL => by
    refine f_iln 0 rfl hL rfl ?_
    refine f_s [fi (5), fi (1)] rfl rfl ?_
    refine f_ic rfl (by decide) (by decide) (fun c_9 => absurd (show (5 : Int) ≤ (1 : Int) from c_9) (by decide)) (fun _ => ?_)
    refine f_aln 2 rfl hL rfl ?_
    refine f_iln 0 rfl hL rfl ?_
    refine f_iln 3 rfl hL rfl ?_
    refine m_k1 (t85_13 (x := 1) hp (by decide) rh) hw hm rfl rfl rfl (m_ar so13 hw rfl) rfl (fun hc4 hw4 hm4 => ?_)
    refine f_if rfl (bI_r _) (fun c1 => ?_) (fun c1 => ?_)
    · have c1 : (bI (decide (((0 ≤ (1 : Int) ∧ (1 : Int) < m 3 6) ∧ m 6 ((1 : Int)).toNat ≤ h ∧ h ≤ m 7 ((1 : Int)).toNat) ∧ ¬ ((0 ≤ (1 : Int) ∧ (1 : Int) < m 3 6) ∧ iA (iR (m 13 5) ((1 : Int))) (1) = 1))) : Int) = (0 : Int) := c1
      have c1 : ¬ (((0 ≤ (1 : Int) ∧ (1 : Int) < m 3 6) ∧ m 6 ((1 : Int)).toNat ≤ h ∧ h ≤ m 7 ((1 : Int)).toNat) ∧ ¬ ((0 ≤ (1 : Int) ∧ (1 : Int) < m 3 6) ∧ iA (iR (m 13 5) ((1 : Int))) (1) = 1)) := bI_f c1
      refine f_inc 0 [(3, fi (2)), (2, fi (b)), (0, .ref 13), (1, fi (h))] rfl (by decide) hL rfl rfl (fun L10 hL10 => ?_)
      refine f_goto rfl ?_
      have e9 : ng1 m 13 h 1 (iS 1 1) b = b := if_neg c1
      rw [e9]
      exact hK2 hc4 (b) _ hw4 hm4 rb (hL10.sel [0, 1, 2, 3] rfl)
    · have c1 : ¬ ((bI (decide (((0 ≤ (1 : Int) ∧ (1 : Int) < m 3 6) ∧ m 6 ((1 : Int)).toNat ≤ h ∧ h ≤ m 7 ((1 : Int)).toNat) ∧ ¬ ((0 ≤ (1 : Int) ∧ (1 : Int) < m 3 6) ∧ iA (iR (m 13 5) ((1 : Int))) (1) = 1))) : Int) = (0 : Int)) := c1
      have c1 : ((0 ≤ (1 : Int) ∧ (1 : Int) < m 3 6) ∧ m 6 ((1 : Int)).toNat ≤ h ∧ h ≤ m 7 ((1 : Int)).toNat) ∧ ¬ ((0 ≤ (1 : Int) ∧ (1 : Int) < m 3 6) ∧ iA (iR (m 13 5) ((1 : Int))) (1) = 1) := bI_t c1
      refine f_iln 1 rfl hL rfl ?_
      refine f_s [fi (1), fi (b)] rfl rfl ?_
      refine f_iln 0 rfl hL rfl ?_
      refine b_ishl rfl ?_
      refine b_ior rfl ?_
      refine f_istn [(2, fi (iO (b) (iS (1) (1)))), (3, fi (1)), (0, .ref 13), (1, fi (h))] rfl (by decide) hL rfl (fun L11 hL11 => ?_)
      refine f_inc 1 [(3, fi (2)), (2, fi (iO (b) (iS (1) (1)))), (0, .ref 13), (1, fi (h))] rfl (by decide) hL11 rfl rfl (fun L12 hL12 => ?_)
      refine f_goto rfl ?_
      have e9 : ng1 m 13 h 1 (iS 1 1) b = iO (b) (iS (1) (1)) := if_pos c1
      rw [e9]
      exact hK2 hc4 (iO (b) (iS (1) (1))) _ hw4 hm4 iO_r (hL12.sel [0, 1, 2, 3] rfl)
  have hK0 : ∀ (hc : ev_H) (b : Int) (L : ev_L), y_in yGw hc → gi hc = m → (-2147483648 ≤ b ∧ b ≤ 2147483647) → f_L L [(3, fi (0)), (2, fi (b)), (0, .ref 13), (1, fi (h))] → x_W none (1, 0, 4, 1, 7, 3, 65, 0, 0, ev_t86) 4 L [] hc 0 0 (fun r' h' => r' = some (fi (ng1 m 13 h 4 (iS 1 4) (ng1 m 13 h 3 (iS 1 3) (ng1 m 13 h 2 (iS 1 2) (ng1 m 13 h 1 (iS 1 1) (ng1 m 13 h 0 (iS 1 0) (b))))))) ∧ y_in yGw h' ∧ gi h' = m) := fun hc b L hw hm rb hL => by
    refine f_iln 0 rfl hL rfl ?_
    refine f_s [fi (5), fi (0)] rfl rfl ?_
    refine f_ic rfl (by decide) (by decide) (fun c_9 => absurd (show (5 : Int) ≤ (0 : Int) from c_9) (by decide)) (fun _ => ?_)
    refine f_aln 2 rfl hL rfl ?_
    refine f_iln 0 rfl hL rfl ?_
    refine f_iln 3 rfl hL rfl ?_
    refine m_k1 (t85_13 (x := 0) hp (by decide) rh) hw hm rfl rfl rfl (m_ar so13 hw rfl) rfl (fun hc5 hw5 hm5 => ?_)
    refine f_if rfl (bI_r _) (fun c1 => ?_) (fun c1 => ?_)
    · have c1 : (bI (decide (((0 ≤ (0 : Int) ∧ (0 : Int) < m 3 6) ∧ m 6 ((0 : Int)).toNat ≤ h ∧ h ≤ m 7 ((0 : Int)).toNat) ∧ ¬ ((0 ≤ (0 : Int) ∧ (0 : Int) < m 3 6) ∧ iA (iR (m 13 5) ((0 : Int))) (1) = 1))) : Int) = (0 : Int) := c1
      have c1 : ¬ (((0 ≤ (0 : Int) ∧ (0 : Int) < m 3 6) ∧ m 6 ((0 : Int)).toNat ≤ h ∧ h ≤ m 7 ((0 : Int)).toNat) ∧ ¬ ((0 ≤ (0 : Int) ∧ (0 : Int) < m 3 6) ∧ iA (iR (m 13 5) ((0 : Int))) (1) = 1)) := bI_f c1
      refine f_inc 0 [(3, fi (1)), (2, fi (b)), (0, .ref 13), (1, fi (h))] rfl (by decide) hL rfl rfl (fun L13 hL13 => ?_)
      refine f_goto rfl ?_
      have e9 : ng1 m 13 h 0 (iS 1 0) b = b := if_neg c1
      rw [e9]
      exact hK1 hc5 (b) _ hw5 hm5 rb (hL13.sel [0, 1, 2, 3] rfl)
    · have c1 : ¬ ((bI (decide (((0 ≤ (0 : Int) ∧ (0 : Int) < m 3 6) ∧ m 6 ((0 : Int)).toNat ≤ h ∧ h ≤ m 7 ((0 : Int)).toNat) ∧ ¬ ((0 ≤ (0 : Int) ∧ (0 : Int) < m 3 6) ∧ iA (iR (m 13 5) ((0 : Int))) (1) = 1))) : Int) = (0 : Int)) := c1
      have c1 : ((0 ≤ (0 : Int) ∧ (0 : Int) < m 3 6) ∧ m 6 ((0 : Int)).toNat ≤ h ∧ h ≤ m 7 ((0 : Int)).toNat) ∧ ¬ ((0 ≤ (0 : Int) ∧ (0 : Int) < m 3 6) ∧ iA (iR (m 13 5) ((0 : Int))) (1) = 1) := bI_t c1
      refine f_iln 1 rfl hL rfl ?_
      refine f_s [fi (1), fi (b)] rfl rfl ?_
      refine f_iln 0 rfl hL rfl ?_
      refine b_ishl rfl ?_
      refine b_ior rfl ?_
      refine f_istn [(2, fi (iO (b) (iS (1) (0)))), (3, fi (0)), (0, .ref 13), (1, fi (h))] rfl (by decide) hL rfl (fun L14 hL14 => ?_)
      refine f_inc 1 [(3, fi (1)), (2, fi (iO (b) (iS (1) (0)))), (0, .ref 13), (1, fi (h))] rfl (by decide) hL14 rfl rfl (fun L15 hL15 => ?_)
      refine f_goto rfl ?_
      have e9 : ng1 m 13 h 0 (iS 1 0) b = iO (b) (iS (1) (0)) := if_pos c1
      rw [e9]
      exact hK1 hc5 (iO (b) (iS (1) (0))) _ hw5 hm5 iO_r (hL15.sel [0, 1, 2, 3] rfl)
  refine f_s [fi (0)] rfl rfl ?_
  refine f_istn [(2, fi (0)), (0, .ref 13), (1, fi (h))] rfl (by decide) hL rfl (fun L16 hL16 => ?_)
  refine f_s [fi (0)] rfl rfl ?_
  refine f_istn [(3, fi (0)), (2, fi (0)), (0, .ref 13), (1, fi (h))] rfl (by decide) hL16 rfl (fun L17 hL17 => ?_)
  exact hK0 hc 0 _ hw hm (by decide) (hL17.sel [0, 1, 2, 3] rfl))
theorem t193_13 {m : Nat → Nat → Int} : h_M 193 [.ref 13] m (some (fi (m 13 6))) m := h_M_of (R := ev_r193) rfl (fun hc hw hm => by
  have hL : f_L (lv_args 0 [.ref 13]) [(0, .ref 13)] := f_L_of rfl
  generalize lv_args 0 [.ref 13] = L at hL
  show x_W none (1, 0, 1, 0, 7, 0, 0, 0, 0, ev_t193) 0 L [] hc 0 0 _
  have hR := gi_R hm
  refine f_aln 0 rfl hL rfl ?_
  refine m_gfi so13 (m 13 6) rfl hw hm rfl rfl ?_
  exact f_ret1 rfl ⟨rfl, hw, hm⟩)
theorem t199_13 {m : Nat → Nat → Int} : h_M 199 [.ref 13] m (some (fi (((((0 + (m 16 0)) + (m 16 1)) + (m 16 2)) + (m 16 3)) + (m 16 4)))) m := h_M_of (R := ev_r199) rfl (fun hc hw hm => by
  have hL : f_L (lv_args 0 [.ref 13]) [(0, .ref 13)] := f_L_of rfl
  generalize lv_args 0 [.ref 13] = L at hL
  show x_W none (1, 0, 3, 0, 7, 0, 0, 0, 0, ev_t199) 0 L [] hc 0 0 _
  have hR := gi_R hm
  refine f_s [fi (0)] rfl rfl ?_
  refine f_istn [(1, fi (0)), (0, .ref 13)] rfl (by decide) hL rfl (fun L1 hL1 => ?_)
  refine f_s [fi (0)] rfl rfl ?_
  refine f_istn [(2, fi (0)), (1, fi (0)), (0, .ref 13)] rfl (by decide) hL1 rfl (fun L2 hL2 => ?_)
  refine f_iln 0 rfl hL2 rfl ?_
  refine f_s [fi (5), fi (0)] rfl rfl ?_
  refine f_ic rfl (by decide) (by decide) (fun c_9 => absurd (show (5 : Int) ≤ (0 : Int) from c_9) (by decide)) (fun _ => ?_)
  refine f_iln 1 rfl hL2 rfl ?_
  refine f_aln 2 rfl hL2 rfl ?_
  refine m_gfr so13 rfl hw rfl (by decide) ?_
  refine f_iln 0 rfl hL2 rfl ?_
  refine m_ia sa16 (m 16 0) rfl hw hm (by omega) (by omega) (by decide) rfl ?_
  refine f_iadd rfl ?_
  refine f_istn [(1, fi (0 + (m 16 0))), (2, fi (0)), (0, .ref 13)] rfl (by decide) hL2 rfl (fun L3 hL3 => ?_)
  refine f_inc 1 [(2, fi (1)), (1, fi (0 + (m 16 0))), (0, .ref 13)] rfl (by decide) hL3 rfl rfl (fun L4 hL4 => ?_)
  refine f_goto rfl ?_
  refine f_iln 0 rfl hL4 rfl ?_
  refine f_s [fi (5), fi (1)] rfl rfl ?_
  refine f_ic rfl (by decide) (by decide) (fun c_9 => absurd (show (5 : Int) ≤ (1 : Int) from c_9) (by decide)) (fun _ => ?_)
  refine f_iln 1 rfl hL4 rfl ?_
  refine f_aln 2 rfl hL4 rfl ?_
  refine m_gfr so13 rfl hw rfl (by decide) ?_
  refine f_iln 0 rfl hL4 rfl ?_
  refine m_ia sa16 (m 16 1) rfl hw hm (by omega) (by omega) (by decide) rfl ?_
  refine f_iadd rfl ?_
  refine f_istn [(1, fi ((0 + (m 16 0)) + (m 16 1))), (2, fi (1)), (0, .ref 13)] rfl (by decide) hL4 rfl (fun L5 hL5 => ?_)
  refine f_inc 1 [(2, fi (2)), (1, fi ((0 + (m 16 0)) + (m 16 1))), (0, .ref 13)] rfl (by decide) hL5 rfl rfl (fun L6 hL6 => ?_)
  refine f_goto rfl ?_
  refine f_iln 0 rfl hL6 rfl ?_
  refine f_s [fi (5), fi (2)] rfl rfl ?_
  refine f_ic rfl (by decide) (by decide) (fun c_9 => absurd (show (5 : Int) ≤ (2 : Int) from c_9) (by decide)) (fun _ => ?_)
  refine f_iln 1 rfl hL6 rfl ?_
  refine f_aln 2 rfl hL6 rfl ?_
  refine m_gfr so13 rfl hw rfl (by decide) ?_
  refine f_iln 0 rfl hL6 rfl ?_
  refine m_ia sa16 (m 16 2) rfl hw hm (by omega) (by omega) (by decide) rfl ?_
  refine f_iadd rfl ?_
  refine f_istn [(1, fi (((0 + (m 16 0)) + (m 16 1)) + (m 16 2))), (2, fi (2)), (0, .ref 13)] rfl (by decide) hL6 rfl (fun L7 hL7 => ?_)
  refine f_inc 1 [(2, fi (3)), (1, fi (((0 + (m 16 0)) + (m 16 1)) + (m 16 2))), (0, .ref 13)] rfl (by decide) hL7 rfl rfl (fun L8 hL8 => ?_)
  refine f_goto rfl ?_
  refine f_iln 0 rfl hL8 rfl ?_
  refine f_s [fi (5), fi (3)] rfl rfl ?_
  refine f_ic rfl (by decide) (by decide) (fun c_9 => absurd (show (5 : Int) ≤ (3 : Int) from c_9) (by decide)) (fun _ => ?_)
  refine f_iln 1 rfl hL8 rfl ?_
  refine f_aln 2 rfl hL8 rfl ?_
  refine m_gfr so13 rfl hw rfl (by decide) ?_
  refine f_iln 0 rfl hL8 rfl ?_
  refine m_ia sa16 (m 16 3) rfl hw hm (by omega) (by omega) (by decide) rfl ?_
  refine f_iadd rfl ?_
  refine f_istn [(1, fi ((((0 + (m 16 0)) + (m 16 1)) + (m 16 2)) + (m 16 3))), (2, fi (3)), (0, .ref 13)] rfl (by decide) hL8 rfl (fun L9 hL9 => ?_)
  refine f_inc 1 [(2, fi (4)), (1, fi ((((0 + (m 16 0)) + (m 16 1)) + (m 16 2)) + (m 16 3))), (0, .ref 13)] rfl (by decide) hL9 rfl rfl (fun L10 hL10 => ?_)
  refine f_goto rfl ?_
  refine f_iln 0 rfl hL10 rfl ?_
  refine f_s [fi (5), fi (4)] rfl rfl ?_
  refine f_ic rfl (by decide) (by decide) (fun c_9 => absurd (show (5 : Int) ≤ (4 : Int) from c_9) (by decide)) (fun _ => ?_)
  refine f_iln 1 rfl hL10 rfl ?_
  refine f_aln 2 rfl hL10 rfl ?_
  refine m_gfr so13 rfl hw rfl (by decide) ?_
  refine f_iln 0 rfl hL10 rfl ?_
  refine m_ia sa16 (m 16 4) rfl hw hm (by omega) (by omega) (by decide) rfl ?_
  refine f_iadd rfl ?_
  refine f_istn [(1, fi (((((0 + (m 16 0)) + (m 16 1)) + (m 16 2)) + (m 16 3)) + (m 16 4))), (2, fi (4)), (0, .ref 13)] rfl (by decide) hL10 rfl (fun L11 hL11 => ?_)
  refine f_inc 1 [(2, fi (5)), (1, fi (((((0 + (m 16 0)) + (m 16 1)) + (m 16 2)) + (m 16 3)) + (m 16 4))), (0, .ref 13)] rfl (by decide) hL11 rfl rfl (fun L12 hL12 => ?_)
  refine f_goto rfl ?_
  refine f_iln 0 rfl hL12 rfl ?_
  refine f_s [fi (5), fi (5)] rfl rfl ?_
  refine f_ic rfl (by decide) (by decide) (fun _ => ?_) (fun c_9 => absurd (show (5 : Int) ≤ (5 : Int) from (by decide)) c_9)
  refine f_iln 1 rfl hL12 rfl ?_
  exact f_ret1 rfl ⟨rfl, hw, hm⟩)
theorem t96_13 {m : Nat → Nat → Int} {q : Nat} (hq : h_A q 0 18) (q0 : q ≠ 13) (q1 : q ≠ 13 + 1) (q2 : q ≠ 13 + 2) (q3 : q ≠ 13 + 3) : h_M 96 [.ref 13, .ref q] m none (lod m 13 q) := h_M_of (R := ev_r96) rfl (fun hc hw hm => by
  have hL : f_L (lv_args 0 [.ref 13, .ref q]) [(0, .ref 13), (1, .ref q)] := f_L_of rfl
  generalize lv_args 0 [.ref 13, .ref q] = L at hL
  show x_W none (0, 0, 2, 1, 7, 1, 26, 0, 0, ev_t96) 0 L [] hc 0 0 _
  have hR := gi_R hm
  refine f_aln 1 rfl hL rfl ?_
  refine m_al hq rfl hw (by decide) ?_
  refine f_bipush (n := 18) rfl (by decide) ?_
  refine f_ic rfl (by decide) (by decide) (fun _ => ?_) (fun c_9 => absurd (show (18 : Int) ≤ (18 : Int) from (by decide)) c_9)
  refine f_aln 1 rfl hL rfl ?_
  refine f_s [fi (0), .ref q] rfl rfl ?_
  refine f_aln 0 rfl hL rfl ?_
  refine m_gfr so13 rfl hw rfl (by decide) ?_
  refine f_s [fi (0), .ref 14, fi (0), .ref q] rfl rfl ?_
  refine f_s [fi (5), fi (0), .ref 14, fi (0), .ref q] rfl rfl ?_
  refine m_cp hq sa14 rfl rfl hw hm (by decide) (by decide) (by decide) (by decide) (by decide) (by decide) (by decide) (by decide) (by decide) (fun hc1 hw1 hm1 => ?_)
  refine f_aln 1 rfl hL rfl ?_
  refine f_s [fi (5), .ref q] rfl rfl ?_
  refine f_aln 0 rfl hL rfl ?_
  refine m_gfr so13 rfl hw1 rfl (by decide) ?_
  refine f_s [fi (0), .ref 15, fi (5), .ref q] rfl rfl ?_
  refine f_s [fi (5), fi (0), .ref 15, fi (5), .ref q] rfl rfl ?_
  refine m_cp hq sa15 rfl rfl hw1 hm1 (by decide) (by decide) (by decide) (by decide) (by decide) (by decide) (by decide) (by decide) (by decide) (fun hc2 hw2 hm2 => ?_)
  refine f_aln 1 rfl hL rfl ?_
  refine f_bipush (n := 10) rfl (by decide) ?_
  refine f_aln 0 rfl hL rfl ?_
  refine m_gfr so13 rfl hw2 rfl (by decide) ?_
  refine f_s [fi (0), .ref 16, fi (10), .ref q] rfl rfl ?_
  refine f_s [fi (5), fi (0), .ref 16, fi (10), .ref q] rfl rfl ?_
  refine m_cp hq sa16 rfl rfl hw2 hm2 (by decide) (by decide) (by decide) (by decide) (by decide) (by decide) (by decide) (by decide) (by decide) (fun hc3 hw3 hm3 => ?_)
  refine f_aln 0 rfl hL rfl ?_
  refine f_aln 1 rfl hL rfl ?_
  refine f_bipush (n := 15) rfl (by decide) ?_
  refine m_ia hq (m q 15) rfl hw3 hm3 (by omega) (by omega) (by decide) (by rw [cpy_ne q3, cpy_ne q2, cpy_ne q1]; try rfl) ?_
  refine m_pf so13 rfl hw3 hm3 rfl rfl (hR _ _) (fun hc4 hw4 hm4 => ?_)
  refine f_aln 0 rfl hL rfl ?_
  refine f_aln 1 rfl hL rfl ?_
  refine f_bipush (n := 16) rfl (by decide) ?_
  refine m_ia hq (m q 16) rfl hw4 hm4 (by omega) (by omega) (by decide) (by rw [up_nc q0, cpy_ne q3, cpy_ne q2, cpy_ne q1]; try rfl) ?_
  refine m_pf so13 rfl hw4 hm4 rfl rfl (hR _ _) (fun hc5 hw5 hm5 => ?_)
  refine f_aln 0 rfl hL rfl ?_
  refine f_aln 1 rfl hL rfl ?_
  refine f_bipush (n := 17) rfl (by decide) ?_
  refine m_ia hq (m q 17) rfl hw5 hm5 (by omega) (by omega) (by decide) (by rw [up_nc q0, up_nc q0, cpy_ne q3, cpy_ne q2, cpy_ne q1]; try rfl) ?_
  refine m_pf so13 rfl hw5 hm5 rfl rfl (hR _ _) (fun hc6 hw6 hm6 => ?_)
  exact m_ret0 rfl ⟨rfl, hw6, by rw [hm6]; exact lod_eq m 13 q q0 q1 q2 q3⟩)
