/-! the first way, prepare of the class -/
theorem roG_43 (m : Nat → Nat → Int) (R : Nat → Int) : (roG m R) 43 = R := by
  funext i
  exact if_pos rfl
theorem roG_ne {m : Nat → Nat → Int} {R : Nat → Int} {q i : Nat} (h : q ≠ 43) : roG m R q i = m q i := if_neg h
theorem roG_ro (m : Nat → Nat → Int) (R R' : Nat → Int) : roG (roG m R) R' = roG m R' := by
  funext q i
  show (if q = 43 then R' i else if q = 43 then R i else m q i) = (if q = 43 then R' i else m q i)
  by_cases h : q = 43
  · rw [if_pos h, if_pos h]
  · rw [if_neg h, if_neg h, if_neg h]
theorem Wm_ro (m : Nat → Nat → Int) (R : Nat → Int) : Wm (roG m R) = Wm m := by
  funext p
  show b4 (roG m R 42 p) = b4 (m 42 p)
  rw [roG_ne (by decide)]
theorem t111_R {m : Nat → Nat → Int} {R : Nat → Int} {p t : Int} {n : Nat} (hp9 : 0 ≤ p ∧ p + n = 4) (ht : -10 ≤ t ∧ t ≤ 10) (hw15 : W15 m) (hr : R2 R) : h_M 111 [.ref 41, fi (p), fi (t)] (roG m R) (some (fi ((gvF (Wm m) n R t : Int)))) (roG m (Rd R (gvF (Wm m) n R t))) := by
  have h := t111 (m := roG m R) hp9 ht (fun p hp => by rw [roG_ne (by decide)]; exact hw15 p hp) (by rw [roG_43]; exact hr)
  rw [Wm_ro, roG_43, roG_ro] at h
  exact h
theorem t37_R {m : Nat → Nat → Int} {R : Nat → Int} : h_M 37 [.ref 3] (roG m R) (some (fi (m 3 6))) (roG m R) := by
  have h := t37 (m := roG m R)
  rw [roG_ne (by decide)] at h
  exact h
theorem gv_R2 {W : Nat → B4} {n : Nat} {R : Nat → Int} {t : Int} (h : R2 R) : R2 (Rd R (gvF W n R t)) ∧ gvF W n R t ≤ 4 := by
  have st : ∀ k, gvC W n R t k = true → 0 < R k := fun k hk => by
    unfold gvC at hk
    simp only [Bool.and_eq_true, decide_eq_true_eq] at hk
    exact hk.2.1
  unfold gvF gv0 gv1 gv2 gv3 gv4
  split
  · exact ⟨h, by decide⟩
  · split
    · rename_i c; exact ⟨h.dcr (st 0 c), by decide⟩
    · split
      · rename_i c; exact ⟨h.dcr (st 1 c), by decide⟩
      · split
        · rename_i c; exact ⟨h.dcr (st 2 c), by decide⟩
        · split
          · rename_i c; exact ⟨h.dcr (st 3 c), by decide⟩
          · exact ⟨h, by decide⟩
def fwC (W : Nat → B4) : Nat → Nat → (Nat → Int) → Int → Int → Int × (Nat → Int)
  | 0, _, R, _, a => (a, R)
  | j + 1, p, R, t, a => fwC W j (p + 1) (Rd R (gvF W (4 - p) R t)) (t - (if gvF W (4 - p) R t = 0 then 0 else 1)) (10 * a + (gvF W (4 - p) R t : Int))
theorem t112 {m : Nat → Nat → Int} (hp : 0 ≤ m 3 6 ∧ m 3 6 ≤ 5) (hw15 : W15 m) (hr : R2 (m 43)) : h_M 112 [.ref 41] m (some (fi ((fwC (Wm m) (m 3 6).toNat 0 (m 43) (gg (Wm m) 5 (m 43)) 0).1))) (roG m (fwC (Wm m) (m 3 6).toNat 0 (m 43) (gg (Wm m) 5 (m 43)) 0).2) := h_M_of (R := ev_r112) rfl (fun hc hw hm => by
  have hL : f_L (lv_args 0 [.ref 41]) [(0, .ref 41)] := f_L_of rfl
  generalize lv_args 0 [.ref 41] = L at hL
  show x_W none (1, 0, 5, 0, 4, 4, 91, 0, 0, ev_t112) 0 L [] hc 0 0 _
  have hR := gi_R hm
  have hK : ∀ (j : Nat) (hc : ev_H) (R : Nat → Int) (p t a : Int) (L : ev_L), y_in yGw hc → gi hc = roG m R → R2 R → (0 ≤ p ∧ p + j = m 3 6) → ((j : Int) - 5 ≤ t ∧ t ≤ 5) → f_L L [(3, fi (p)), (2, fi (t)), (1, fi (a)), (0, .ref 41)] → x_W none (1, 0, 5, 0, 4, 4, 91, 0, 0, ev_t112) 9 L [] hc 0 0 (fun r' h' => r' = some (fi ((fwC (Wm m) j (p).toNat R t a).1)) ∧ y_in yGw h' ∧ gi h' = roG m (fwC (Wm m) j (p).toNat R t a).2) := by
    intro j
    induction j with
    | zero =>
      intro hc R p t a L hw hm hR2 hp9 ht hL
      refine f_iln 0 rfl hL rfl ?_
      refine f_aln 3 rfl hL rfl ?_
      refine m_gfr so41 rfl hw rfl (by decide) ?_
      refine m_k1 t37_R hw hm rfl rfl rfl (m_ar so3 hw rfl) rfl (fun hc1 hw1 hm1 => ?_)
      refine f_ic rfl (by omega) (by omega) (fun _ => ?_) (fun c_9 => absurd (show (m 3 6 : Int) ≤ (p : Int) from (by omega)) c_9)
      refine f_iln 2 rfl hL rfl ?_
      exact f_ret1 rfl ⟨rfl, hw1, hm1⟩
    | succ j ih =>
      intro hc R p t a L hw hm hR2 hp9 ht hL
      refine f_iln 0 rfl hL rfl ?_
      refine f_aln 3 rfl hL rfl ?_
      refine m_gfr so41 rfl hw rfl (by decide) ?_
      refine m_k1 t37_R hw hm rfl rfl rfl (m_ar so3 hw rfl) rfl (fun hc2 hw2 hm2 => ?_)
      refine f_ic rfl (by omega) (by omega) (fun c_9 => absurd (show (m 3 6 : Int) ≤ (p : Int) from c_9) (by omega)) (fun _ => ?_)
      refine f_aln 3 rfl hL rfl ?_
      refine f_iln 0 rfl hL rfl ?_
      refine f_iln 1 rfl hL rfl ?_
      refine m_k1 (t111_R (R := R) (p := p) (t := t) (n := 4 - (p).toNat) (by omega) (by omega) hw15 hR2) hw2 hm2 rfl rfl rfl (m_ar so41 hw2 rfl) rfl (fun hc3 hw3 hm3 => ?_)
      obtain ⟨g1, g2⟩ := gv_R2 (W := Wm m) (n := 4 - (p).toNat) (t := t) hR2
      refine f_ist [(4, fi ((gvF (Wm m) (4 - (p).toNat) R t : Int))), (3, fi (p)), (2, fi (t)), (1, fi (a)), (0, .ref 41)] rfl (by decide) hL rfl (fun L1 hL1 => ?_)
      refine f_iln 2 rfl hL1 rfl ?_
      refine f_il 0 rfl hL1 rfl ?_
      refine f_if rfl (by omega) (fun c1 => ?_) (fun c1 => ?_)
      · have c1 : ((gvF (Wm m) (4 - (p).toNat) R t : Int) : Int) ≤ (0 : Int) := c1
        refine f_s [fi (0), fi (t)] rfl rfl ?_
        refine f_isub rfl ?_
        refine f_istn [(2, fi (t - 0)), (4, fi ((gvF (Wm m) (4 - (p).toNat) R t : Int))), (3, fi (p)), (1, fi (a)), (0, .ref 41)] rfl (by decide) hL1 rfl (fun L2 hL2 => ?_)
        refine f_bipush (n := 10) rfl (by decide) ?_
        refine f_iln 3 rfl hL2 rfl ?_
        refine f_imul rfl ?_
        refine f_il 1 rfl hL2 rfl ?_
        refine f_iadd rfl ?_
        refine f_istn [(1, fi ((10 * a) + ((gvF (Wm m) (4 - (p).toNat) R t : Int)))), (2, fi (t - 0)), (4, fi ((gvF (Wm m) (4 - (p).toNat) R t : Int))), (3, fi (p)), (0, .ref 41)] rfl (by decide) hL2 rfl (fun L3 hL3 => ?_)
        refine f_inc 3 [(3, fi (p + 1)), (1, fi ((10 * a) + ((gvF (Wm m) (4 - (p).toNat) R t : Int)))), (2, fi (t - 0)), (4, fi ((gvF (Wm m) (4 - (p).toNat) R t : Int))), (0, .ref 41)] rfl (by decide) hL3 rfl rfl (fun L4 hL4 => ?_)
        refine f_goto rfl ?_
        have e8 : (if gvF (Wm m) (4 - (p).toNat) R t = 0 then (0 : Int) else 1) = 0 := if_pos (by omega)
        have e9 : fwC (Wm m) (j + 1) (p).toNat R t a = fwC (Wm m) j (p + 1).toNat (Rd R (gvF (Wm m) (4 - (p).toNat) R t)) (t - 0) (10 * a + (gvF (Wm m) (4 - (p).toNat) R t : Int)) := by
          rw [show (p + 1).toNat = (p).toNat + 1 by omega, ← e8]; rfl
        rw [e9]
        exact ih hc3 _ _ _ _ _ hw3 hm3 g1 (by omega) (by omega) (hL4.sel [0, 2, 1, 4] rfl)
      · have c1 : ¬ (((gvF (Wm m) (4 - (p).toNat) R t : Int) : Int) ≤ (0 : Int)) := c1
        refine f_s [fi (1), fi (t)] rfl rfl ?_
        refine f_goto rfl ?_
        refine f_isub rfl ?_
        refine f_istn [(2, fi (t - 1)), (4, fi ((gvF (Wm m) (4 - (p).toNat) R t : Int))), (3, fi (p)), (1, fi (a)), (0, .ref 41)] rfl (by decide) hL1 rfl (fun L5 hL5 => ?_)
        refine f_bipush (n := 10) rfl (by decide) ?_
        refine f_iln 3 rfl hL5 rfl ?_
        refine f_imul rfl ?_
        refine f_il 1 rfl hL5 rfl ?_
        refine f_iadd rfl ?_
        refine f_istn [(1, fi ((10 * a) + ((gvF (Wm m) (4 - (p).toNat) R t : Int)))), (2, fi (t - 1)), (4, fi ((gvF (Wm m) (4 - (p).toNat) R t : Int))), (3, fi (p)), (0, .ref 41)] rfl (by decide) hL5 rfl (fun L6 hL6 => ?_)
        refine f_inc 3 [(3, fi (p + 1)), (1, fi ((10 * a) + ((gvF (Wm m) (4 - (p).toNat) R t : Int)))), (2, fi (t - 1)), (4, fi ((gvF (Wm m) (4 - (p).toNat) R t : Int))), (0, .ref 41)] rfl (by decide) hL6 rfl rfl (fun L7 hL7 => ?_)
        refine f_goto rfl ?_
        have e8 : (if gvF (Wm m) (4 - (p).toNat) R t = 0 then (0 : Int) else 1) = 1 := if_neg (by omega)
        have e9 : fwC (Wm m) (j + 1) (p).toNat R t a = fwC (Wm m) j (p + 1).toNat (Rd R (gvF (Wm m) (4 - (p).toNat) R t)) (t - 1) (10 * a + (gvF (Wm m) (4 - (p).toNat) R t : Int)) := by
          rw [show (p + 1).toNat = (p).toNat + 1 by omega, ← e8]; rfl
        rw [e9]
        exact ih hc3 _ _ _ _ _ hw3 hm3 g1 (by omega) (by omega) (hL7.sel [0, 2, 1, 4] rfl)
  refine f_s [fi (0)] rfl rfl ?_
  refine f_istn [(1, fi (0)), (0, .ref 41)] rfl (by decide) hL rfl (fun L8 hL8 => ?_)
  refine f_aln 1 rfl hL8 rfl ?_
  refine m_k1 (t110 hw15 hr) hw hm rfl rfl rfl (m_ar so41 hw rfl) rfl (fun hc4 hw4 hm4 => ?_)
  have r9 := gg_r (W := Wm m) (n := 5) (by decide) hr
  refine f_istn [(2, fi (gg (Wm m) 5 (m 43))), (1, fi (0)), (0, .ref 41)] rfl (by decide) hL8 rfl (fun L9 hL9 => ?_)
  refine f_s [fi (0)] rfl rfl ?_
  refine f_istn [(3, fi (0)), (2, fi (gg (Wm m) 5 (m 43))), (1, fi (0)), (0, .ref 41)] rfl (by decide) hL9 rfl (fun L10 hL10 => ?_)
  have e8 : gi hc4 = roG m (m 43) := hm4.trans (roG_0 m).symm
  exact hK (m 3 6).toNat hc4 (m 43) 0 _ 0 _ hw4 e8 hr (by omega) (by omega) (hL10.sel [0, 1, 2, 3] rfl))
def fsC (m : Nat → Nat → Int) (x : Int) : Int := if (0 ≤ x ∧ x < m 3 6) ∧ iA (iR (m 9 5) (x)) (1) = 1 then 0 else ft m x
theorem t103 {m : Nat → Nat → Int} (hp : 0 ≤ m 3 6 ∧ m 3 6 ≤ 5) {x : Int} (rx : -2147483648 ≤ x ∧ x ≤ 2147483647) : h_M 103 [.ref 9, fi (x)] m (some (fi (fsC m x))) m := h_M_of (R := ev_r103) rfl (fun hc hw hm => by
  have hL : f_L (lv_args 0 [.ref 9, fi (x)]) [(0, .ref 9), (1, fi (x))] := f_L_of rfl
  generalize lv_args 0 [.ref 9, fi (x)] = L at hL
  show x_W none (1, 0, 2, 1, 7, 2, 42, 0, 0, ev_t103) 0 L [] hc 0 0 _
  have hR := gi_R hm
  refine f_aln 0 rfl hL rfl ?_
  refine f_iln 1 rfl hL rfl ?_
  refine m_k1 (t59_9 hp rx) hw hm rfl rfl rfl (m_ar so9 hw rfl) rfl (fun hc1 hw1 hm1 => ?_)
  refine f_if rfl (bI_r _) (fun c1 => ?_) (fun c1 => ?_)
  · have c1 : (bI (decide ((0 ≤ x ∧ x < m 3 6) ∧ iA (iR (m 9 5) (x)) (1) = 1)) : Int) = (0 : Int) := c1
    have c1 : ¬ ((0 ≤ x ∧ x < m 3 6) ∧ iA (iR (m 9 5) (x)) (1) = 1) := bI_f c1
    refine f_aln 0 rfl hL rfl ?_
    refine m_gfr so9 rfl hw1 rfl (by decide) ?_
    refine f_iln 1 rfl hL rfl ?_
    refine m_k1 (t52 hp rx) hw1 hm1 rfl rfl rfl (m_ar so3 hw1 rfl) rfl (fun hc2 hw2 hm2 => ?_)
    exact f_ret1 rfl ⟨by rw [show fsC m x = ft m x from if_neg c1], hw2, hm2⟩
  · have c1 : ¬ ((bI (decide ((0 ≤ x ∧ x < m 3 6) ∧ iA (iR (m 9 5) (x)) (1) = 1)) : Int) = (0 : Int)) := c1
    have c1 : (0 ≤ x ∧ x < m 3 6) ∧ iA (iR (m 9 5) (x)) (1) = 1 := bI_t c1
    refine f_s [fi (0)] rfl rfl ?_
    refine f_goto rfl ?_
    exact f_ret1 rfl ⟨by rw [show fsC m x = 0 from if_pos c1], hw1, hm1⟩)
theorem t102 {m : Nat → Nat → Int} : h_M 102 [.ref 9] m (some (fi (m 9 4))) m := h_M_of (R := ev_r102) rfl (fun hc hw hm => by
  have hL : f_L (lv_args 0 [.ref 9]) [(0, .ref 9)] := f_L_of rfl
  generalize lv_args 0 [.ref 9] = L at hL
  show x_W none (1, 0, 1, 0, 7, 0, 0, 0, 0, ev_t102) 0 L [] hc 0 0 _
  have hR := gi_R hm
  refine f_aln 0 rfl hL rfl ?_
  refine m_gfi so9 (m 9 4) rfl hw hm rfl rfl ?_
  exact f_ret1 rfl ⟨rfl, hw, hm⟩)
def wnt (m : Nat → Nat → Int) (h s x : Int) : Int := if ((0 ≤ x ∧ x < m 3 6) ∧ m 6 (x).toNat ≤ h ∧ h ≤ m 7 (x).toNat) ∧ ¬ ((0 ≤ x ∧ x < m 3 6) ∧ iA (iR (m 9 5) (x)) (1) = 1) then iA (fsC m x) (iA (s) (iX (m 9 4) (-1))) else 0
def gQ (m : Nat → Nat → Int) (h s : Int) (a b : Nat) : Nat → Nat → Int := fun q i => if q = 42 ∧ i < a then wnt m h s (i : Int) else if q = 43 ∧ i < b then rm m (i : Int) else m q i
theorem gQ_ne {m : Nat → Nat → Int} {h s : Int} {a b q i : Nat} (h1 : q ≠ 42) (h2 : q ≠ 43) : gQ m h s a b q i = m q i := by
  unfold gQ
  rw [if_neg (fun z => h1 z.1), if_neg (fun z => h2 z.1)]
theorem gQ_0 {m : Nat → Nat → Int} {h s : Int} : gQ m h s 0 0 = m := by
  funext q i
  unfold gQ
  rw [if_neg (fun z => Nat.not_lt_zero _ z.2), if_neg (fun z => Nat.not_lt_zero _ z.2)]
theorem gQ_w {m : Nat → Nat → Int} {h s : Int} {a b : Nat} {v : Int} (hv : v = wnt m h s (a : Int)) : up (gQ m h s a b) 42 a v = gQ m h s (a + 1) b := by
  subst hv
  funext q i
  unfold up gQ
  by_cases h : q = 42 ∧ i = a
  · obtain ⟨rfl, rfl⟩ := h
    rw [if_pos ⟨rfl, rfl⟩, if_pos ⟨rfl, Nat.lt_succ_self _⟩]
  · rw [if_neg h]
    by_cases h2 : q = 42 ∧ i < a
    · rw [if_pos h2, if_pos ⟨h2.1, by omega⟩]
    · rw [if_neg h2, if_neg (show ¬ (q = 42 ∧ i < a + 1) from fun z => h2 ⟨z.1, by have := z.2; have : ¬ i = a := fun y => h ⟨z.1, y⟩; omega⟩)]
theorem gQ_r {m : Nat → Nat → Int} {h s : Int} {a b : Nat} {v : Int} (hv : v = rm m (b : Int)) : up (gQ m h s a b) 43 b v = gQ m h s a (b + 1) := by
  subst hv
  funext q i
  unfold up gQ
  by_cases h : q = 43 ∧ i = b
  · obtain ⟨rfl, rfl⟩ := h
    rw [if_pos ⟨rfl, rfl⟩, if_neg (fun z => by cases z.1), if_pos ⟨rfl, Nat.lt_succ_self _⟩]
  · rw [if_neg h]
    by_cases h0 : q = 42 ∧ i < a
    · rw [if_pos h0, if_pos h0]
    · rw [if_neg h0, if_neg h0]
      by_cases h2 : q = 43 ∧ i < b
      · rw [if_pos h2, if_pos ⟨h2.1, by omega⟩]
      · rw [if_neg h2, if_neg (fun z => h2 ⟨z.1, by have := z.2; have : ¬ i = b := fun y => h ⟨z.1, y⟩; omega⟩)]
theorem ft_q {m : Nat → Nat → Int} {h s : Int} {a b : Nat} (x : Int) : ft (gQ m h s a b) x = ft m x := by
  unfold ft
  rw [gQ_ne (q := 3) (i := 6) (by decide) (by decide), gQ_ne (q := 3) (i := 5) (by decide) (by decide), gQ_ne (q := 8) (by decide) (by decide)]
theorem fsC_q {m : Nat → Nat → Int} {h s : Int} {a b : Nat} (x : Int) : fsC (gQ m h s a b) x = fsC m x := by
  unfold fsC
  rw [ft_q, gQ_ne (q := 3) (i := 6) (by decide) (by decide), gQ_ne (q := 9) (i := 5) (by decide) (by decide)]
theorem rm_q {m : Nat → Nat → Int} {h s : Int} {a b : Nat} (x : Int) : rm (gQ m h s a b) x = rm m x := by
  unfold rm kd
  rw [gQ_ne (q := 3) (i := 5) (by decide) (by decide), gQ_ne (q := 4) (by decide) (by decide)]
theorem t85_q {m : Nat → Nat → Int} {h s : Int} {a b : Nat} (hp : 0 ≤ m 3 6 ∧ m 3 6 ≤ 5) {x : Int} (rx : -2147483648 ≤ x ∧ x ≤ 2147483647) (rh : -2147483648 ≤ h ∧ h ≤ 2147483647) : h_M 85 [.ref 9, fi (x), fi (h)] (gQ m h s a b) (some (fi (bI (decide (((0 ≤ x ∧ x < m 3 6) ∧ m 6 (x).toNat ≤ h ∧ h ≤ m 7 (x).toNat) ∧ ¬ ((0 ≤ x ∧ x < m 3 6) ∧ iA (iR (m 9 5) (x)) (1) = 1)))))) (gQ m h s a b) := by
  have h9 := t85_9 (m := gQ m h s a b) (by rw [gQ_ne (q := 3) (i := 6) (by decide) (by decide)]; exact hp) rx rh
  rw [gQ_ne (q := 3) (i := 6) (by decide) (by decide), gQ_ne (q := 9) (i := 5) (by decide) (by decide), gQ_ne (q := 6) (by decide) (by decide), gQ_ne (q := 7) (by decide) (by decide)] at h9
  exact h9
theorem t103_q {m : Nat → Nat → Int} {h s : Int} {a b : Nat} (hp : 0 ≤ m 3 6 ∧ m 3 6 ≤ 5) {x : Int} (rx : -2147483648 ≤ x ∧ x ≤ 2147483647) : h_M 103 [.ref 9, fi (x)] (gQ m h s a b) (some (fi (fsC m x))) (gQ m h s a b) := by
  have h9 := t103 (m := gQ m h s a b) (by rw [gQ_ne (q := 3) (i := 6) (by decide) (by decide)]; exact hp) rx
  rw [fsC_q] at h9
  exact h9
theorem t66_q {m : Nat → Nat → Int} {h s : Int} {a b : Nat} (hn : 0 ≤ m 3 5 ∧ m 3 5 ≤ 4) {x : Int} (rx : -2147483648 ≤ x ∧ x ≤ 2147483647) : h_M 66 [.ref 3, fi (x)] (gQ m h s a b) (some (fi (rm m x))) (gQ m h s a b) := by
  have h9 := t66 (m := gQ m h s a b) (by rw [gQ_ne (q := 3) (i := 5) (by decide) (by decide)]; exact hn) rx
  rw [rm_q] at h9
  exact h9
theorem wnt_r (m : Nat → Nat → Int) (h s x : Int) : -2147483648 ≤ wnt m h s x ∧ wnt m h s x ≤ 2147483647 := by
  unfold wnt
  split
  · exact iA_r
  · decide
theorem rm_12 (m : Nat → Nat → Int) (x : Int) : 1 ≤ rm m x ∧ rm m x ≤ 2 := by
  unfold rm
  split <;> decide
set_option maxHeartbeats 1000000 in
theorem t104 {m : Nat → Nat → Int} (hn : 0 ≤ m 3 5 ∧ m 3 5 ≤ 4) (hp : 0 ≤ m 3 6 ∧ m 3 6 ≤ 5) {h : Int} (rh : -2147483648 ≤ h ∧ h ≤ 2147483647) {s : Int} (rs : -2147483648 ≤ s ∧ s ≤ 2147483647) : h_M 104 [.ref 41, .ref 9, fi (h), fi (s)] m none (gQ m h s 5 4) := h_M_of (R := ev_r104) rfl (fun hc hw hm => by
  have hL : f_L (lv_args 0 [.ref 41, .ref 9, fi (h), fi (s)]) [(0, .ref 41), (1, .ref 9), (2, fi (h)), (3, fi (s))] := f_L_of rfl
  generalize lv_args 0 [.ref 41, .ref 9, fi (h), fi (s)] = L at hL
  show x_W none (0, 0, 6, 3, 4, 3, 65, 0, 0, ev_t104) 0 L [] hc 0 0 _
  have hR := gi_R hm
  have hN4 : ∀ (hc : ev_H) (L : ev_L), y_in yGw hc → gi hc = gQ m h s 5 4 → f_L L [(5, fi (4)), (4, fi (iA (s) (iX (m 9 4) (-1)))), (0, .ref 41), (1, .ref 9), (2, fi (h)), (3, fi (s))] → x_W none (0, 0, 6, 3, 4, 3, 65, 0, 0, ev_t104) 58 L [] hc 0 0 (fun r' h' => r' = none ∧ y_in yGw h' ∧ gi h' = gQ m h s 5 4) := fun hc L hw hm hL => by
    refine f_il 0 rfl hL rfl ?_
    refine f_s [fi (4), fi (4)] rfl rfl ?_
    refine f_ic rfl (by decide) (by decide) (fun _ => ?_) (fun c_9 => absurd (show (4 : Int) ≤ (4 : Int) from (by decide)) c_9)
    exact m_ret0 rfl ⟨rfl, hw, hm⟩
  have hN3 : ∀ (hc : ev_H) (L : ev_L), y_in yGw hc → gi hc = gQ m h s 5 3 → f_L L [(5, fi (3)), (4, fi (iA (s) (iX (m 9 4) (-1)))), (0, .ref 41), (1, .ref 9), (2, fi (h)), (3, fi (s))] → x_W none (0, 0, 6, 3, 4, 3, 65, 0, 0, ev_t104) 58 L [] hc 0 0 (fun r' h' => r' = none ∧ y_in yGw h' ∧ gi h' = gQ m h s 5 4) := fun hc L hw hm hL => by
    refine f_il 0 rfl hL rfl ?_
    refine f_s [fi (4), fi (3)] rfl rfl ?_
    refine f_ic rfl (by decide) (by decide) (fun c_9 => absurd (show (4 : Int) ≤ (3 : Int) from c_9) (by decide)) (fun _ => ?_)
    refine f_aln 2 rfl hL rfl ?_
    refine m_gfr so41 rfl hw rfl (by decide) ?_
    refine f_il 0 rfl hL rfl ?_
    refine f_aln 2 rfl hL rfl ?_
    refine m_gfr so41 rfl hw rfl (by decide) ?_
    refine f_il 0 rfl hL rfl ?_
    refine m_k1 (t66_q (x := 3) hn (by decide)) hw hm rfl rfl rfl (m_ar so3 hw rfl) rfl (fun hc1 hw1 hm1 => ?_)
    refine m_ias sa43 rfl hw1 hm1 (by omega) (by omega) (by decide) (by have := rm_12 m 3; omega) (fun hc2 hw2 hm2 => ?_)
    refine f_inc 0 [(5, fi (4)), (4, fi (iA (s) (iX (m 9 4) (-1)))), (0, .ref 41), (1, .ref 9), (2, fi (h)), (3, fi (s))] rfl (by decide) hL rfl rfl (fun L1 hL1 => ?_)
    refine f_goto rfl ?_
    exact hN4 hc2 _ hw2 (hm2.trans (gQ_r rfl)) (hL1.sel [0, 1, 2, 3, 4, 5] rfl)
  have hN2 : ∀ (hc : ev_H) (L : ev_L), y_in yGw hc → gi hc = gQ m h s 5 2 → f_L L [(5, fi (2)), (4, fi (iA (s) (iX (m 9 4) (-1)))), (0, .ref 41), (1, .ref 9), (2, fi (h)), (3, fi (s))] → x_W none (0, 0, 6, 3, 4, 3, 65, 0, 0, ev_t104) 58 L [] hc 0 0 (fun r' h' => r' = none ∧ y_in yGw h' ∧ gi h' = gQ m h s 5 4) := fun hc L hw hm hL => by
    refine f_il 0 rfl hL rfl ?_
    refine f_s [fi (4), fi (2)] rfl rfl ?_
    refine f_ic rfl (by decide) (by decide) (fun c_9 => absurd (show (4 : Int) ≤ (2 : Int) from c_9) (by decide)) (fun _ => ?_)
    refine f_aln 2 rfl hL rfl ?_
    refine m_gfr so41 rfl hw rfl (by decide) ?_
    refine f_il 0 rfl hL rfl ?_
    refine f_aln 2 rfl hL rfl ?_
    refine m_gfr so41 rfl hw rfl (by decide) ?_
    refine f_il 0 rfl hL rfl ?_
    refine m_k1 (t66_q (x := 2) hn (by decide)) hw hm rfl rfl rfl (m_ar so3 hw rfl) rfl (fun hc3 hw3 hm3 => ?_)
    refine m_ias sa43 rfl hw3 hm3 (by omega) (by omega) (by decide) (by have := rm_12 m 2; omega) (fun hc4 hw4 hm4 => ?_)
    refine f_inc 0 [(5, fi (3)), (4, fi (iA (s) (iX (m 9 4) (-1)))), (0, .ref 41), (1, .ref 9), (2, fi (h)), (3, fi (s))] rfl (by decide) hL rfl rfl (fun L2 hL2 => ?_)
    refine f_goto rfl ?_
    exact hN3 hc4 _ hw4 (hm4.trans (gQ_r rfl)) (hL2.sel [0, 1, 2, 3, 4, 5] rfl)
  have hN1 : ∀ (hc : ev_H) (L : ev_L), y_in yGw hc → gi hc = gQ m h s 5 1 → f_L L [(5, fi (1)), (4, fi (iA (s) (iX (m 9 4) (-1)))), (0, .ref 41), (1, .ref 9), (2, fi (h)), (3, fi (s))] → x_W none (0, 0, 6, 3, 4, 3, 65, 0, 0, ev_t104) 58 L [] hc 0 0 (fun r' h' => r' = none ∧ y_in yGw h' ∧ gi h' = gQ m h s 5 4) := fun hc L hw hm hL => by
    refine f_il 0 rfl hL rfl ?_
    refine f_s [fi (4), fi (1)] rfl rfl ?_
    refine f_ic rfl (by decide) (by decide) (fun c_9 => absurd (show (4 : Int) ≤ (1 : Int) from c_9) (by decide)) (fun _ => ?_)
    refine f_aln 2 rfl hL rfl ?_
    refine m_gfr so41 rfl hw rfl (by decide) ?_
    refine f_il 0 rfl hL rfl ?_
    refine f_aln 2 rfl hL rfl ?_
    refine m_gfr so41 rfl hw rfl (by decide) ?_
    refine f_il 0 rfl hL rfl ?_
    refine m_k1 (t66_q (x := 1) hn (by decide)) hw hm rfl rfl rfl (m_ar so3 hw rfl) rfl (fun hc5 hw5 hm5 => ?_)
    refine m_ias sa43 rfl hw5 hm5 (by omega) (by omega) (by decide) (by have := rm_12 m 1; omega) (fun hc6 hw6 hm6 => ?_)
    refine f_inc 0 [(5, fi (2)), (4, fi (iA (s) (iX (m 9 4) (-1)))), (0, .ref 41), (1, .ref 9), (2, fi (h)), (3, fi (s))] rfl (by decide) hL rfl rfl (fun L3 hL3 => ?_)
    refine f_goto rfl ?_
    exact hN2 hc6 _ hw6 (hm6.trans (gQ_r rfl)) (hL3.sel [0, 1, 2, 3, 4, 5] rfl)
  have hN0 : ∀ (hc : ev_H) (L : ev_L), y_in yGw hc → gi hc = gQ m h s 5 0 → f_L L [(5, fi (0)), (4, fi (iA (s) (iX (m 9 4) (-1)))), (0, .ref 41), (1, .ref 9), (2, fi (h)), (3, fi (s))] → x_W none (0, 0, 6, 3, 4, 3, 65, 0, 0, ev_t104) 58 L [] hc 0 0 (fun r' h' => r' = none ∧ y_in yGw h' ∧ gi h' = gQ m h s 5 4) := fun hc L hw hm hL => by
    refine f_il 0 rfl hL rfl ?_
    refine f_s [fi (4), fi (0)] rfl rfl ?_
    refine f_ic rfl (by decide) (by decide) (fun c_9 => absurd (show (4 : Int) ≤ (0 : Int) from c_9) (by decide)) (fun _ => ?_)
    refine f_aln 2 rfl hL rfl ?_
    refine m_gfr so41 rfl hw rfl (by decide) ?_
    refine f_il 0 rfl hL rfl ?_
    refine f_aln 2 rfl hL rfl ?_
    refine m_gfr so41 rfl hw rfl (by decide) ?_
    refine f_il 0 rfl hL rfl ?_
    refine m_k1 (t66_q (x := 0) hn (by decide)) hw hm rfl rfl rfl (m_ar so3 hw rfl) rfl (fun hc7 hw7 hm7 => ?_)
    refine m_ias sa43 rfl hw7 hm7 (by omega) (by omega) (by decide) (by have := rm_12 m 0; omega) (fun hc8 hw8 hm8 => ?_)
    refine f_inc 0 [(5, fi (1)), (4, fi (iA (s) (iX (m 9 4) (-1)))), (0, .ref 41), (1, .ref 9), (2, fi (h)), (3, fi (s))] rfl (by decide) hL rfl rfl (fun L4 hL4 => ?_)
    refine f_goto rfl ?_
    exact hN1 hc8 _ hw8 (hm8.trans (gQ_r rfl)) (hL4.sel [0, 1, 2, 3, 4, 5] rfl)
  have hK5 : ∀ (hc : ev_H) (L : ev_L), y_in yGw hc → gi hc = gQ m h s 5 0 → f_L L [(5, fi (5)), (4, fi (iA (s) (iX (m 9 4) (-1)))), (0, .ref 41), (1, .ref 9), (2, fi (h)), (3, fi (s))] → x_W none (0, 0, 6, 3, 4, 3, 65, 0, 0, ev_t104) 13 L [] hc 0 0 (fun r' h' => r' = none ∧ y_in yGw h' ∧ gi h' = gQ m h s 5 4) := fun hc L hw hm hL => by
    refine f_il 0 rfl hL rfl ?_
    refine f_s [fi (5), fi (5)] rfl rfl ?_
    refine f_ic rfl (by decide) (by decide) (fun _ => ?_) (fun c_9 => absurd (show (5 : Int) ≤ (5 : Int) from (by decide)) c_9)
    refine f_s [fi (0)] rfl rfl ?_
    refine f_ist [(5, fi (0)), (4, fi (iA (s) (iX (m 9 4) (-1)))), (0, .ref 41), (1, .ref 9), (2, fi (h)), (3, fi (s))] rfl (by decide) hL rfl (fun L5 hL5 => ?_)
    exact hN0 hc _ hw hm (hL5.sel [0, 1, 2, 3, 4, 5] rfl)
  have hK4 : ∀ (hc : ev_H) (L : ev_L), y_in yGw hc → gi hc = gQ m h s 4 0 → f_L L [(5, fi (4)), (4, fi (iA (s) (iX (m 9 4) (-1)))), (0, .ref 41), (1, .ref 9), (2, fi (h)), (3, fi (s))] → x_W none (0, 0, 6, 3, 4, 3, 65, 0, 0, ev_t104) 13 L [] hc 0 0 (fun r' h' => r' = none ∧ y_in yGw h' ∧ gi h' = gQ m h s 5 4) := fun hc L hw hm hL => by
    refine f_il 0 rfl hL rfl ?_
    refine f_s [fi (5), fi (4)] rfl rfl ?_
    refine f_ic rfl (by decide) (by decide) (fun c_9 => absurd (show (5 : Int) ≤ (4 : Int) from c_9) (by decide)) (fun _ => ?_)
    refine f_aln 2 rfl hL rfl ?_
    refine m_gfr so41 rfl hw rfl (by decide) ?_
    refine f_il 0 rfl hL rfl ?_
    refine f_aln 3 rfl hL rfl ?_
    refine f_il 0 rfl hL rfl ?_
    refine f_iln 4 rfl hL rfl ?_
    refine m_k1 (t85_q (x := 4) hp (by decide) rh) hw hm rfl rfl rfl (m_ar so9 hw rfl) rfl (fun hc9 hw9 hm9 => ?_)
    refine f_if rfl (bI_r _) (fun c1 => ?_) (fun c1 => ?_)
    · have c1 : (bI (decide (((0 ≤ (4 : Int) ∧ (4 : Int) < m 3 6) ∧ m 6 ((4 : Int)).toNat ≤ h ∧ h ≤ m 7 ((4 : Int)).toNat) ∧ ¬ ((0 ≤ (4 : Int) ∧ (4 : Int) < m 3 6) ∧ iA (iR (m 9 5) ((4 : Int))) (1) = 1))) : Int) = (0 : Int) := c1
      have c1 : ¬ (((0 ≤ (4 : Int) ∧ (4 : Int) < m 3 6) ∧ m 6 ((4 : Int)).toNat ≤ h ∧ h ≤ m 7 ((4 : Int)).toNat) ∧ ¬ ((0 ≤ (4 : Int) ∧ (4 : Int) < m 3 6) ∧ iA (iR (m 9 5) ((4 : Int))) (1) = 1)) := bI_f c1
      refine f_s [fi (0), fi (4), .ref 42] rfl rfl ?_
      refine b_eq (x := wnt m h s 4) (if_neg c1).symm ?_
      refine m_ias sa42 rfl hw9 hm9 (by omega) (by omega) (by decide) (wnt_r m h s _) (fun hc10 hw10 hm10 => ?_)
      refine f_inc 0 [(5, fi (5)), (4, fi (iA (s) (iX (m 9 4) (-1)))), (0, .ref 41), (1, .ref 9), (2, fi (h)), (3, fi (s))] rfl (by decide) hL rfl rfl (fun L6 hL6 => ?_)
      refine f_goto rfl ?_
      exact hK5 hc10 _ hw10 (hm10.trans (gQ_w rfl)) (hL6.sel [0, 1, 2, 3, 4, 5] rfl)
    · have c1 : ¬ ((bI (decide (((0 ≤ (4 : Int) ∧ (4 : Int) < m 3 6) ∧ m 6 ((4 : Int)).toNat ≤ h ∧ h ≤ m 7 ((4 : Int)).toNat) ∧ ¬ ((0 ≤ (4 : Int) ∧ (4 : Int) < m 3 6) ∧ iA (iR (m 9 5) ((4 : Int))) (1) = 1))) : Int) = (0 : Int)) := c1
      have c1 : ((0 ≤ (4 : Int) ∧ (4 : Int) < m 3 6) ∧ m 6 ((4 : Int)).toNat ≤ h ∧ h ≤ m 7 ((4 : Int)).toNat) ∧ ¬ ((0 ≤ (4 : Int) ∧ (4 : Int) < m 3 6) ∧ iA (iR (m 9 5) ((4 : Int))) (1) = 1) := bI_t c1
      refine f_aln 3 rfl hL rfl ?_
      refine f_il 0 rfl hL rfl ?_
      refine m_k1 (t103_q (x := 4) hp (by decide)) hw9 hm9 rfl rfl rfl (m_ar so9 hw9 rfl) rfl (fun hc11 hw11 hm11 => ?_)
      refine f_il 1 rfl hL rfl ?_
      refine b_iand rfl ?_
      refine f_goto rfl ?_
      refine b_eq (x := wnt m h s 4) (if_pos c1).symm ?_
      refine m_ias sa42 rfl hw11 hm11 (by omega) (by omega) (by decide) (wnt_r m h s _) (fun hc12 hw12 hm12 => ?_)
      refine f_inc 0 [(5, fi (5)), (4, fi (iA (s) (iX (m 9 4) (-1)))), (0, .ref 41), (1, .ref 9), (2, fi (h)), (3, fi (s))] rfl (by decide) hL rfl rfl (fun L7 hL7 => ?_)
      refine f_goto rfl ?_
      exact hK5 hc12 _ hw12 (hm12.trans (gQ_w rfl)) (hL7.sel [0, 1, 2, 3, 4, 5] rfl)
  have hK3 : ∀ (hc : ev_H) (L : ev_L), y_in yGw hc → gi hc = gQ m h s 3 0 → f_L L [(5, fi (3)), (4, fi (iA (s) (iX (m 9 4) (-1)))), (0, .ref 41), (1, .ref 9), (2, fi (h)), (3, fi (s))] → x_W none (0, 0, 6, 3, 4, 3, 65, 0, 0, ev_t104) 13 L [] hc 0 0 (fun r' h' => r' = none ∧ y_in yGw h' ∧ gi h' = gQ m h s 5 4) := fun hc L hw hm hL => by
    refine f_il 0 rfl hL rfl ?_
    refine f_s [fi (5), fi (3)] rfl rfl ?_
    refine f_ic rfl (by decide) (by decide) (fun c_9 => absurd (show (5 : Int) ≤ (3 : Int) from c_9) (by decide)) (fun _ => ?_)
    refine f_aln 2 rfl hL rfl ?_
    refine m_gfr so41 rfl hw rfl (by decide) ?_
    refine f_il 0 rfl hL rfl ?_
    refine f_aln 3 rfl hL rfl ?_
    refine f_il 0 rfl hL rfl ?_
    refine f_iln 4 rfl hL rfl ?_
    refine m_k1 (t85_q (x := 3) hp (by decide) rh) hw hm rfl rfl rfl (m_ar so9 hw rfl) rfl (fun hc13 hw13 hm13 => ?_)
    refine f_if rfl (bI_r _) (fun c1 => ?_) (fun c1 => ?_)
    · have c1 : (bI (decide (((0 ≤ (3 : Int) ∧ (3 : Int) < m 3 6) ∧ m 6 ((3 : Int)).toNat ≤ h ∧ h ≤ m 7 ((3 : Int)).toNat) ∧ ¬ ((0 ≤ (3 : Int) ∧ (3 : Int) < m 3 6) ∧ iA (iR (m 9 5) ((3 : Int))) (1) = 1))) : Int) = (0 : Int) := c1
      have c1 : ¬ (((0 ≤ (3 : Int) ∧ (3 : Int) < m 3 6) ∧ m 6 ((3 : Int)).toNat ≤ h ∧ h ≤ m 7 ((3 : Int)).toNat) ∧ ¬ ((0 ≤ (3 : Int) ∧ (3 : Int) < m 3 6) ∧ iA (iR (m 9 5) ((3 : Int))) (1) = 1)) := bI_f c1
      refine f_s [fi (0), fi (3), .ref 42] rfl rfl ?_
      refine b_eq (x := wnt m h s 3) (if_neg c1).symm ?_
      refine m_ias sa42 rfl hw13 hm13 (by omega) (by omega) (by decide) (wnt_r m h s _) (fun hc14 hw14 hm14 => ?_)
      refine f_inc 0 [(5, fi (4)), (4, fi (iA (s) (iX (m 9 4) (-1)))), (0, .ref 41), (1, .ref 9), (2, fi (h)), (3, fi (s))] rfl (by decide) hL rfl rfl (fun L8 hL8 => ?_)
      refine f_goto rfl ?_
      exact hK4 hc14 _ hw14 (hm14.trans (gQ_w rfl)) (hL8.sel [0, 1, 2, 3, 4, 5] rfl)
    · have c1 : ¬ ((bI (decide (((0 ≤ (3 : Int) ∧ (3 : Int) < m 3 6) ∧ m 6 ((3 : Int)).toNat ≤ h ∧ h ≤ m 7 ((3 : Int)).toNat) ∧ ¬ ((0 ≤ (3 : Int) ∧ (3 : Int) < m 3 6) ∧ iA (iR (m 9 5) ((3 : Int))) (1) = 1))) : Int) = (0 : Int)) := c1
      have c1 : ((0 ≤ (3 : Int) ∧ (3 : Int) < m 3 6) ∧ m 6 ((3 : Int)).toNat ≤ h ∧ h ≤ m 7 ((3 : Int)).toNat) ∧ ¬ ((0 ≤ (3 : Int) ∧ (3 : Int) < m 3 6) ∧ iA (iR (m 9 5) ((3 : Int))) (1) = 1) := bI_t c1
      refine f_aln 3 rfl hL rfl ?_
      refine f_il 0 rfl hL rfl ?_
      refine m_k1 (t103_q (x := 3) hp (by decide)) hw13 hm13 rfl rfl rfl (m_ar so9 hw13 rfl) rfl (fun hc15 hw15 hm15 => ?_)
      refine f_il 1 rfl hL rfl ?_
      refine b_iand rfl ?_
      refine f_goto rfl ?_
      refine b_eq (x := wnt m h s 3) (if_pos c1).symm ?_
      refine m_ias sa42 rfl hw15 hm15 (by omega) (by omega) (by decide) (wnt_r m h s _) (fun hc16 hw16 hm16 => ?_)
      refine f_inc 0 [(5, fi (4)), (4, fi (iA (s) (iX (m 9 4) (-1)))), (0, .ref 41), (1, .ref 9), (2, fi (h)), (3, fi (s))] rfl (by decide) hL rfl rfl (fun L9 hL9 => ?_)
      refine f_goto rfl ?_
      exact hK4 hc16 _ hw16 (hm16.trans (gQ_w rfl)) (hL9.sel [0, 1, 2, 3, 4, 5] rfl)
  have hK2 : ∀ (hc : ev_H) (L : ev_L), y_in yGw hc → gi hc = gQ m h s 2 0 → f_L L [(5, fi (2)), (4, fi (iA (s) (iX (m 9 4) (-1)))), (0, .ref 41), (1, .ref 9), (2, fi (h)), (3, fi (s))] → x_W none (0, 0, 6, 3, 4, 3, 65, 0, 0, ev_t104) 13 L [] hc 0 0 (fun r' h' => r' = none ∧ y_in yGw h' ∧ gi h' = gQ m h s 5 4) := fun hc L hw hm hL => by
    refine f_il 0 rfl hL rfl ?_
    refine f_s [fi (5), fi (2)] rfl rfl ?_
    refine f_ic rfl (by decide) (by decide) (fun c_9 => absurd (show (5 : Int) ≤ (2 : Int) from c_9) (by decide)) (fun _ => ?_)
    refine f_aln 2 rfl hL rfl ?_
    refine m_gfr so41 rfl hw rfl (by decide) ?_
    refine f_il 0 rfl hL rfl ?_
    refine f_aln 3 rfl hL rfl ?_
    refine f_il 0 rfl hL rfl ?_
    refine f_iln 4 rfl hL rfl ?_
    refine m_k1 (t85_q (x := 2) hp (by decide) rh) hw hm rfl rfl rfl (m_ar so9 hw rfl) rfl (fun hc17 hw17 hm17 => ?_)
    refine f_if rfl (bI_r _) (fun c1 => ?_) (fun c1 => ?_)
    · have c1 : (bI (decide (((0 ≤ (2 : Int) ∧ (2 : Int) < m 3 6) ∧ m 6 ((2 : Int)).toNat ≤ h ∧ h ≤ m 7 ((2 : Int)).toNat) ∧ ¬ ((0 ≤ (2 : Int) ∧ (2 : Int) < m 3 6) ∧ iA (iR (m 9 5) ((2 : Int))) (1) = 1))) : Int) = (0 : Int) := c1
      have c1 : ¬ (((0 ≤ (2 : Int) ∧ (2 : Int) < m 3 6) ∧ m 6 ((2 : Int)).toNat ≤ h ∧ h ≤ m 7 ((2 : Int)).toNat) ∧ ¬ ((0 ≤ (2 : Int) ∧ (2 : Int) < m 3 6) ∧ iA (iR (m 9 5) ((2 : Int))) (1) = 1)) := bI_f c1
      refine f_s [fi (0), fi (2), .ref 42] rfl rfl ?_
      refine b_eq (x := wnt m h s 2) (if_neg c1).symm ?_
      refine m_ias sa42 rfl hw17 hm17 (by omega) (by omega) (by decide) (wnt_r m h s _) (fun hc18 hw18 hm18 => ?_)
      refine f_inc 0 [(5, fi (3)), (4, fi (iA (s) (iX (m 9 4) (-1)))), (0, .ref 41), (1, .ref 9), (2, fi (h)), (3, fi (s))] rfl (by decide) hL rfl rfl (fun L10 hL10 => ?_)
      refine f_goto rfl ?_
      exact hK3 hc18 _ hw18 (hm18.trans (gQ_w rfl)) (hL10.sel [0, 1, 2, 3, 4, 5] rfl)
    · have c1 : ¬ ((bI (decide (((0 ≤ (2 : Int) ∧ (2 : Int) < m 3 6) ∧ m 6 ((2 : Int)).toNat ≤ h ∧ h ≤ m 7 ((2 : Int)).toNat) ∧ ¬ ((0 ≤ (2 : Int) ∧ (2 : Int) < m 3 6) ∧ iA (iR (m 9 5) ((2 : Int))) (1) = 1))) : Int) = (0 : Int)) := c1
      have c1 : ((0 ≤ (2 : Int) ∧ (2 : Int) < m 3 6) ∧ m 6 ((2 : Int)).toNat ≤ h ∧ h ≤ m 7 ((2 : Int)).toNat) ∧ ¬ ((0 ≤ (2 : Int) ∧ (2 : Int) < m 3 6) ∧ iA (iR (m 9 5) ((2 : Int))) (1) = 1) := bI_t c1
      refine f_aln 3 rfl hL rfl ?_
      refine f_il 0 rfl hL rfl ?_
      refine m_k1 (t103_q (x := 2) hp (by decide)) hw17 hm17 rfl rfl rfl (m_ar so9 hw17 rfl) rfl (fun hc19 hw19 hm19 => ?_)
      refine f_il 1 rfl hL rfl ?_
      refine b_iand rfl ?_
      refine f_goto rfl ?_
      refine b_eq (x := wnt m h s 2) (if_pos c1).symm ?_
      refine m_ias sa42 rfl hw19 hm19 (by omega) (by omega) (by decide) (wnt_r m h s _) (fun hc20 hw20 hm20 => ?_)
      refine f_inc 0 [(5, fi (3)), (4, fi (iA (s) (iX (m 9 4) (-1)))), (0, .ref 41), (1, .ref 9), (2, fi (h)), (3, fi (s))] rfl (by decide) hL rfl rfl (fun L11 hL11 => ?_)
      refine f_goto rfl ?_
      exact hK3 hc20 _ hw20 (hm20.trans (gQ_w rfl)) (hL11.sel [0, 1, 2, 3, 4, 5] rfl)
  have hK1 : ∀ (hc : ev_H) (L : ev_L), y_in yGw hc → gi hc = gQ m h s 1 0 → f_L L [(5, fi (1)), (4, fi (iA (s) (iX (m 9 4) (-1)))), (0, .ref 41), (1, .ref 9), (2, fi (h)), (3, fi (s))] → x_W none (0, 0, 6, 3, 4, 3, 65, 0, 0, ev_t104) 13 L [] hc 0 0 (fun r' h' => r' = none ∧ y_in yGw h' ∧ gi h' = gQ m h s 5 4) := fun hc L hw hm hL => by
    refine f_il 0 rfl hL rfl ?_
    refine f_s [fi (5), fi (1)] rfl rfl ?_
    refine f_ic rfl (by decide) (by decide) (fun c_9 => absurd (show (5 : Int) ≤ (1 : Int) from c_9) (by decide)) (fun _ => ?_)
    refine f_aln 2 rfl hL rfl ?_
    refine m_gfr so41 rfl hw rfl (by decide) ?_
    refine f_il 0 rfl hL rfl ?_
    refine f_aln 3 rfl hL rfl ?_
    refine f_il 0 rfl hL rfl ?_
    refine f_iln 4 rfl hL rfl ?_
    refine m_k1 (t85_q (x := 1) hp (by decide) rh) hw hm rfl rfl rfl (m_ar so9 hw rfl) rfl (fun hc21 hw21 hm21 => ?_)
    refine f_if rfl (bI_r _) (fun c1 => ?_) (fun c1 => ?_)
    · have c1 : (bI (decide (((0 ≤ (1 : Int) ∧ (1 : Int) < m 3 6) ∧ m 6 ((1 : Int)).toNat ≤ h ∧ h ≤ m 7 ((1 : Int)).toNat) ∧ ¬ ((0 ≤ (1 : Int) ∧ (1 : Int) < m 3 6) ∧ iA (iR (m 9 5) ((1 : Int))) (1) = 1))) : Int) = (0 : Int) := c1
      have c1 : ¬ (((0 ≤ (1 : Int) ∧ (1 : Int) < m 3 6) ∧ m 6 ((1 : Int)).toNat ≤ h ∧ h ≤ m 7 ((1 : Int)).toNat) ∧ ¬ ((0 ≤ (1 : Int) ∧ (1 : Int) < m 3 6) ∧ iA (iR (m 9 5) ((1 : Int))) (1) = 1)) := bI_f c1
      refine f_s [fi (0), fi (1), .ref 42] rfl rfl ?_
      refine b_eq (x := wnt m h s 1) (if_neg c1).symm ?_
      refine m_ias sa42 rfl hw21 hm21 (by omega) (by omega) (by decide) (wnt_r m h s _) (fun hc22 hw22 hm22 => ?_)
      refine f_inc 0 [(5, fi (2)), (4, fi (iA (s) (iX (m 9 4) (-1)))), (0, .ref 41), (1, .ref 9), (2, fi (h)), (3, fi (s))] rfl (by decide) hL rfl rfl (fun L12 hL12 => ?_)
      refine f_goto rfl ?_
      exact hK2 hc22 _ hw22 (hm22.trans (gQ_w rfl)) (hL12.sel [0, 1, 2, 3, 4, 5] rfl)
    · have c1 : ¬ ((bI (decide (((0 ≤ (1 : Int) ∧ (1 : Int) < m 3 6) ∧ m 6 ((1 : Int)).toNat ≤ h ∧ h ≤ m 7 ((1 : Int)).toNat) ∧ ¬ ((0 ≤ (1 : Int) ∧ (1 : Int) < m 3 6) ∧ iA (iR (m 9 5) ((1 : Int))) (1) = 1))) : Int) = (0 : Int)) := c1
      have c1 : ((0 ≤ (1 : Int) ∧ (1 : Int) < m 3 6) ∧ m 6 ((1 : Int)).toNat ≤ h ∧ h ≤ m 7 ((1 : Int)).toNat) ∧ ¬ ((0 ≤ (1 : Int) ∧ (1 : Int) < m 3 6) ∧ iA (iR (m 9 5) ((1 : Int))) (1) = 1) := bI_t c1
      refine f_aln 3 rfl hL rfl ?_
      refine f_il 0 rfl hL rfl ?_
      refine m_k1 (t103_q (x := 1) hp (by decide)) hw21 hm21 rfl rfl rfl (m_ar so9 hw21 rfl) rfl (fun hc23 hw23 hm23 => ?_)
      refine f_il 1 rfl hL rfl ?_
      refine b_iand rfl ?_
      refine f_goto rfl ?_
      refine b_eq (x := wnt m h s 1) (if_pos c1).symm ?_
      refine m_ias sa42 rfl hw23 hm23 (by omega) (by omega) (by decide) (wnt_r m h s _) (fun hc24 hw24 hm24 => ?_)
      refine f_inc 0 [(5, fi (2)), (4, fi (iA (s) (iX (m 9 4) (-1)))), (0, .ref 41), (1, .ref 9), (2, fi (h)), (3, fi (s))] rfl (by decide) hL rfl rfl (fun L13 hL13 => ?_)
      refine f_goto rfl ?_
      exact hK2 hc24 _ hw24 (hm24.trans (gQ_w rfl)) (hL13.sel [0, 1, 2, 3, 4, 5] rfl)
  have hK0 : ∀ (hc : ev_H) (L : ev_L), y_in yGw hc → gi hc = gQ m h s 0 0 → f_L L [(5, fi (0)), (4, fi (iA (s) (iX (m 9 4) (-1)))), (0, .ref 41), (1, .ref 9), (2, fi (h)), (3, fi (s))] → x_W none (0, 0, 6, 3, 4, 3, 65, 0, 0, ev_t104) 13 L [] hc 0 0 (fun r' h' => r' = none ∧ y_in yGw h' ∧ gi h' = gQ m h s 5 4) := fun hc L hw hm hL => by
    refine f_il 0 rfl hL rfl ?_
    refine f_s [fi (5), fi (0)] rfl rfl ?_
    refine f_ic rfl (by decide) (by decide) (fun c_9 => absurd (show (5 : Int) ≤ (0 : Int) from c_9) (by decide)) (fun _ => ?_)
    refine f_aln 2 rfl hL rfl ?_
    refine m_gfr so41 rfl hw rfl (by decide) ?_
    refine f_il 0 rfl hL rfl ?_
    refine f_aln 3 rfl hL rfl ?_
    refine f_il 0 rfl hL rfl ?_
    refine f_iln 4 rfl hL rfl ?_
    refine m_k1 (t85_q (x := 0) hp (by decide) rh) hw hm rfl rfl rfl (m_ar so9 hw rfl) rfl (fun hc25 hw25 hm25 => ?_)
    refine f_if rfl (bI_r _) (fun c1 => ?_) (fun c1 => ?_)
    · have c1 : (bI (decide (((0 ≤ (0 : Int) ∧ (0 : Int) < m 3 6) ∧ m 6 ((0 : Int)).toNat ≤ h ∧ h ≤ m 7 ((0 : Int)).toNat) ∧ ¬ ((0 ≤ (0 : Int) ∧ (0 : Int) < m 3 6) ∧ iA (iR (m 9 5) ((0 : Int))) (1) = 1))) : Int) = (0 : Int) := c1
      have c1 : ¬ (((0 ≤ (0 : Int) ∧ (0 : Int) < m 3 6) ∧ m 6 ((0 : Int)).toNat ≤ h ∧ h ≤ m 7 ((0 : Int)).toNat) ∧ ¬ ((0 ≤ (0 : Int) ∧ (0 : Int) < m 3 6) ∧ iA (iR (m 9 5) ((0 : Int))) (1) = 1)) := bI_f c1
      refine f_s [fi (0), fi (0), .ref 42] rfl rfl ?_
      refine b_eq (x := wnt m h s 0) (if_neg c1).symm ?_
      refine m_ias sa42 rfl hw25 hm25 (by omega) (by omega) (by decide) (wnt_r m h s _) (fun hc26 hw26 hm26 => ?_)
      refine f_inc 0 [(5, fi (1)), (4, fi (iA (s) (iX (m 9 4) (-1)))), (0, .ref 41), (1, .ref 9), (2, fi (h)), (3, fi (s))] rfl (by decide) hL rfl rfl (fun L14 hL14 => ?_)
      refine f_goto rfl ?_
      exact hK1 hc26 _ hw26 (hm26.trans (gQ_w rfl)) (hL14.sel [0, 1, 2, 3, 4, 5] rfl)
    · have c1 : ¬ ((bI (decide (((0 ≤ (0 : Int) ∧ (0 : Int) < m 3 6) ∧ m 6 ((0 : Int)).toNat ≤ h ∧ h ≤ m 7 ((0 : Int)).toNat) ∧ ¬ ((0 ≤ (0 : Int) ∧ (0 : Int) < m 3 6) ∧ iA (iR (m 9 5) ((0 : Int))) (1) = 1))) : Int) = (0 : Int)) := c1
      have c1 : ((0 ≤ (0 : Int) ∧ (0 : Int) < m 3 6) ∧ m 6 ((0 : Int)).toNat ≤ h ∧ h ≤ m 7 ((0 : Int)).toNat) ∧ ¬ ((0 ≤ (0 : Int) ∧ (0 : Int) < m 3 6) ∧ iA (iR (m 9 5) ((0 : Int))) (1) = 1) := bI_t c1
      refine f_aln 3 rfl hL rfl ?_
      refine f_il 0 rfl hL rfl ?_
      refine m_k1 (t103_q (x := 0) hp (by decide)) hw25 hm25 rfl rfl rfl (m_ar so9 hw25 rfl) rfl (fun hc27 hw27 hm27 => ?_)
      refine f_il 1 rfl hL rfl ?_
      refine b_iand rfl ?_
      refine f_goto rfl ?_
      refine b_eq (x := wnt m h s 0) (if_pos c1).symm ?_
      refine m_ias sa42 rfl hw27 hm27 (by omega) (by omega) (by decide) (wnt_r m h s _) (fun hc28 hw28 hm28 => ?_)
      refine f_inc 0 [(5, fi (1)), (4, fi (iA (s) (iX (m 9 4) (-1)))), (0, .ref 41), (1, .ref 9), (2, fi (h)), (3, fi (s))] rfl (by decide) hL rfl rfl (fun L15 hL15 => ?_)
      refine f_goto rfl ?_
      exact hK1 hc28 _ hw28 (hm28.trans (gQ_w rfl)) (hL15.sel [0, 1, 2, 3, 4, 5] rfl)
  refine f_iln 3 rfl hL rfl ?_
  refine f_aln 1 rfl hL rfl ?_
  refine m_k1 t102 hw hm rfl rfl rfl (m_ar so9 hw rfl) rfl (fun hc29 hw29 hm29 => ?_)
  refine f_s [fi (-1), fi (m 9 4), fi (s)] rfl rfl ?_
  refine b_ixor rfl ?_
  refine b_iand rfl ?_
  refine f_ist [(4, fi (iA (s) (iX (m 9 4) (-1)))), (0, .ref 41), (1, .ref 9), (2, fi (h)), (3, fi (s))] rfl (by decide) hL rfl (fun L16 hL16 => ?_)
  refine f_s [fi (0)] rfl rfl ?_
  refine f_ist [(5, fi (0)), (4, fi (iA (s) (iX (m 9 4) (-1)))), (0, .ref 41), (1, .ref 9), (2, fi (h)), (3, fi (s))] rfl (by decide) hL16 rfl (fun L17 hL17 => ?_)
  exact hK0 hc29 _ hw29 (hm29.trans gQ_0.symm) (hL17.sel [0, 1, 2, 3, 4, 5] rfl))
