/-! most, waiting, first of the reference; both together -/
def moM (m : Nat → Nat → Int) (P : Nat) (h s : Int) : Int := hg (fun _ => 1) (LsF (wb4 (wb0 m h s)) 0 P) (rf0 m)
def gnM (m : Nat → Nat → Int) (N P : Nat) (h s : Int) : Nat := gn (fun _ => 1) (N + 1) (LsF (wb4 (wb0 m h s)) 0 P) (rf0 m)
theorem wbN {m : Nat → Nat → Int} {h s : Int} {N P : Nat} (hs : ∀ k : Nat, k < 4 → tB s (k : Int) = true → k < N) : ∀ w ∈ LsF (wb4 (wb0 m h s)) 0 P, ∀ k, bk w k = true → k + 1 < N + 1 := fun w hw k hk => by
  obtain ⟨q, -, -, rfl⟩ := LsF_in _ _ _ _ hw
  have k4 := bk_lt hk
  rw [wb4_k _ q k4] at hk
  have := hs k k4 (decide_eq_true (of_decide_eq_true hk).2.1)
  omega
theorem gnM_r {m : Nat → Nat → Int} {h s : Int} {N P : Nat} (hN4 : N ≤ 4) (hP5 : P ≤ 5) (hs : ∀ k : Nat, k < 4 → tB s (k : Int) = true → k < N) : gnM m N P h s < (N + 1) ^ P ∧ gnM m N P h s ≤ 4000 := by
  have h1 := (gn_spec (fun _ => 1) (N + 1) (by omega) (LsF (wb4 (wb0 m h s)) 0 P) (rf0 m) (wbN hs)).1
  rw [LsF_len] at h1
  have h2 := pw_r (c := N + 1) (e := P) (by omega) (by omega) hP5
  exact ⟨h1, by unfold gnM; omega⟩
theorem t118_x {m : Nat → Nat → Int} {N P : Nat} (hN : m 55 0 = (N : Int)) (hP : m 55 1 = (P : Int)) (hN4 : N ≤ 4) (hP5 : P ≤ 5) {h s : Int} (rs : -2147483648 ≤ s ∧ s ≤ 2147483647) (hh : 0 ≤ h ∧ h ≤ 9) (hR0 : ∀ q i, -2147483648 ≤ m q i ∧ m q i ≤ 2147483647) (hs : ∀ k : Nat, k < 4 → tB s (k : Int) = true → k < N) : ∃ g, h_M 118 [.ref 55, fi (h), fi (s)] m (some (fi (moM m P h s))) (wyM m (gnM m N P h s : Int) g) := by
  have e := mlp_is (N := N) (P := P) (wb := wb0 m h s) (Rf := rf0 m) hN4 (fun p hp k hk k4 => hs k k4 (decide_eq_true (of_decide_eq_true hk).2.1)) (m 55 20) (m 66)
  have t := t118 hN hP hN4 hP5 (hR0 55 20) (g := m 66) rs hh hR0
  rw [wy_0, e.1, e.2] at t
  exact ⟨_, t⟩
theorem thM_k {m : Nat → Nat → Int} {N : Nat} (hN4 : N ≤ 4) {k : Nat} (hk : k < 4) : tB (thM m N) (k : Int) = (decide (k < N) && !tB (m 61 15) (k : Int)) := by
  unfold thM
  rw [tB_and _ _ hk, tB_not _ hk, tB_mask hN4 hk]
theorem thM_s {m : Nat → Nat → Int} {N : Nat} (hN4 : N ≤ 4) : ∀ k : Nat, k < 4 → tB (thM m N) (k : Int) = true → k < N := fun k hk h => by
  rw [thM_k hN4 hk, Bool.and_eq_true] at h
  exact of_decide_eq_true h.1
theorem thM_r {m : Nat → Nat → Int} {N : Nat} : -2147483648 ≤ thM m N ∧ thM m N ≤ 2147483647 := iA_r
def wyR (m : Nat → Nat → Int) (N P : Nat) (h : Int) : Int := fwL (fun _ => 1) (LsF (wb4 (wb0 m h (thM m N))) 0 P) (rf0 m) 0
theorem fg_is {m : Nat → Nat → Int} {N P : Nat} (hN4 : N ≤ 4) (hP5 : P ≤ 5) {h : Int} : fgJ N (gnM m N P h (thM m N)) P 0 = wyR m N P h := by
  rw [fgJ_L (wb4 (wb0 m h (thM m N))) P 0 0]
  refine fg_fw _ (N + 1) (by omega) _ _ _ _ (wbN (thM_s hN4)) ?_
  rw [LsF_len]
  exact Nat.mod_eq_of_lt (gnM_r hN4 hP5 (thM_s hN4)).1
theorem t120_0_out {m : Nat → Nat → Int} {h : Int} (rh : -2147483648 ≤ h ∧ h ≤ 2147483647) (h0 : ¬ (0 ≤ h ∧ h ≤ 9)) : h_E 120 [.ref 55, fi (h), fi (0)] m (some (fi (-2))) := h_E_of (R := ev_r120) rfl (fun hc hw hm => by
  have hL : f_L (lv_args 0 [.ref 55, fi (h), fi (0)]) [(0, .ref 55), (1, fi (h)), (2, fi (0))] := f_L_of rfl
  generalize lv_args 0 [.ref 55, fi (h), fi (0)] = L at hL
  show x_W none (1, 0, 4, 2, 11, 5, 118, 0, 0, ev_t120) 0 L [] hc 0 0 _
  have hR := gi_R hm
  refine f_iln 1 rfl hL rfl ?_
  refine f_i2l rfl rh ?_
  refine f_s [fl (0), fl (h)] rfl rfl ?_
  refine f_ldc2 (9) rfl rfl ?_
  refine m_k1 (t_in h 0 9 (by omega) (by decide) (by decide)) hw hm rfl rfl rfl rfl rfl (fun hc1 hw1 hm1 => ?_)
  refine f_if rfl (bI_r _) (fun c_9 => absurd (show ¬ (bI (decide (0 ≤ h ∧ h ≤ 9)) : Int) = (0 : Int) from c_9) (by rw [decide_eq_false h0]; exact fun z => z rfl)) (fun _ => ?_)
  refine f_bipush (n := -2) rfl (by decide) ?_
  exact f_ret1 rfl (rfl))
theorem t120_0_ok {m : Nat → Nat → Int} {N P : Nat} (hN : m 55 0 = (N : Int)) (hP : m 55 1 = (P : Int)) (hN4 : N ≤ 4) (hP5 : P ≤ 5) {h : Int} (rh : -2147483648 ≤ h ∧ h ≤ 2147483647) (hh : 0 ≤ h ∧ h ≤ 9) (hR0 : ∀ q i, -2147483648 ≤ m q i ∧ m q i ≤ 2147483647) : h_E 120 [.ref 55, fi (h), fi (0)] m (some (fi (moM m P h (thM m N)))) := h_E_of (R := ev_r120) rfl (fun hc hw hm => by
  have hL : f_L (lv_args 0 [.ref 55, fi (h), fi (0)]) [(0, .ref 55), (1, fi (h)), (2, fi (0))] := f_L_of rfl
  generalize lv_args 0 [.ref 55, fi (h), fi (0)] = L at hL
  show x_W none (1, 0, 4, 2, 11, 5, 118, 0, 0, ev_t120) 0 L [] hc 0 0 _
  have hR := gi_R hm
  refine f_iln 1 rfl hL rfl ?_
  refine f_i2l rfl rh ?_
  refine f_s [fl (0), fl (h)] rfl rfl ?_
  refine f_ldc2 (9) rfl rfl ?_
  refine m_k1 (t_in h 0 9 (by omega) (by decide) (by decide)) hw hm rfl rfl rfl rfl rfl (fun hc1 hw1 hm1 => ?_)
  refine f_if rfl (bI_r _) (fun _ => ?_) (fun c_9 => absurd (show ¬ (bI (decide (0 ≤ h ∧ h ≤ 9)) : Int) = (0 : Int) from (by rw [decide_eq_true hh]; decide)) c_9)
  refine f_aln 0 rfl hL rfl ?_
  refine f_iln 1 rfl hL rfl ?_
  refine f_aln 0 rfl hL rfl ?_
  refine m_k1 (t114 hN) hw1 hm1 rfl rfl rfl (m_ar so55 hw1 rfl) rfl (fun hc2 hw2 hm2 => ?_)
  obtain ⟨g9, t9⟩ := t118_x (h := h) (s := thM m N) hN hP hN4 hP5 thM_r hh hR0 (thM_s hN4)
  refine m_k1 t9 hw2 hm2 rfl rfl rfl (m_ar so55 hw2 rfl) rfl (fun hc3 hw3 hm3 => ?_)
  refine f_istn [(3, fi (moM m P h (thM m N))), (0, .ref 55), (1, fi (h)), (2, fi (0))] rfl (by decide) hL rfl (fun L1 hL1 => ?_)
  refine f_iln 3 rfl hL1 rfl ?_
  refine f_if rfl (by decide) (fun _ => ?_) (fun c_9 => absurd (show (0 : Int) = (0 : Int) from (by decide)) c_9)
  refine f_iln 0 rfl hL1 rfl ?_
  exact f_ret1 rfl (rfl))
theorem t120_1_out {m : Nat → Nat → Int} {h : Int} (rh : -2147483648 ≤ h ∧ h ≤ 2147483647) (h0 : ¬ (0 ≤ h ∧ h ≤ 9)) : h_E 120 [.ref 55, fi (h), fi (1)] m (some (fi (-2))) := h_E_of (R := ev_r120) rfl (fun hc hw hm => by
  have hL : f_L (lv_args 0 [.ref 55, fi (h), fi (1)]) [(0, .ref 55), (1, fi (h)), (2, fi (1))] := f_L_of rfl
  generalize lv_args 0 [.ref 55, fi (h), fi (1)] = L at hL
  show x_W none (1, 0, 4, 2, 11, 5, 118, 0, 0, ev_t120) 0 L [] hc 0 0 _
  have hR := gi_R hm
  refine f_iln 1 rfl hL rfl ?_
  refine f_i2l rfl rh ?_
  refine f_s [fl (0), fl (h)] rfl rfl ?_
  refine f_ldc2 (9) rfl rfl ?_
  refine m_k1 (t_in h 0 9 (by omega) (by decide) (by decide)) hw hm rfl rfl rfl rfl rfl (fun hc1 hw1 hm1 => ?_)
  refine f_if rfl (bI_r _) (fun c_9 => absurd (show ¬ (bI (decide (0 ≤ h ∧ h ≤ 9)) : Int) = (0 : Int) from c_9) (by rw [decide_eq_false h0]; exact fun z => z rfl)) (fun _ => ?_)
  refine f_bipush (n := -2) rfl (by decide) ?_
  exact f_ret1 rfl (rfl))
theorem t120_1_ok {m : Nat → Nat → Int} {N P : Nat} (hN : m 55 0 = (N : Int)) (hP : m 55 1 = (P : Int)) (hN4 : N ≤ 4) (hP5 : P ≤ 5) {h : Int} (rh : -2147483648 ≤ h ∧ h ≤ 2147483647) (hh : 0 ≤ h ∧ h ≤ 9) (hR0 : ∀ q i, -2147483648 ≤ m q i ∧ m q i ≤ 2147483647) : h_E 120 [.ref 55, fi (h), fi (1)] m (some (fi (wyR m N P h))) := h_E_of (R := ev_r120) rfl (fun hc hw hm => by
  have hL : f_L (lv_args 0 [.ref 55, fi (h), fi (1)]) [(0, .ref 55), (1, fi (h)), (2, fi (1))] := f_L_of rfl
  generalize lv_args 0 [.ref 55, fi (h), fi (1)] = L at hL
  show x_W none (1, 0, 4, 2, 11, 5, 118, 0, 0, ev_t120) 0 L [] hc 0 0 _
  have hR := gi_R hm
  refine f_iln 1 rfl hL rfl ?_
  refine f_i2l rfl rh ?_
  refine f_s [fl (0), fl (h)] rfl rfl ?_
  refine f_ldc2 (9) rfl rfl ?_
  refine m_k1 (t_in h 0 9 (by omega) (by decide) (by decide)) hw hm rfl rfl rfl rfl rfl (fun hc1 hw1 hm1 => ?_)
  refine f_if rfl (bI_r _) (fun _ => ?_) (fun c_9 => absurd (show ¬ (bI (decide (0 ≤ h ∧ h ≤ 9)) : Int) = (0 : Int) from (by rw [decide_eq_true hh]; decide)) c_9)
  refine f_aln 0 rfl hL rfl ?_
  refine f_iln 1 rfl hL rfl ?_
  refine f_aln 0 rfl hL rfl ?_
  refine m_k1 (t114 hN) hw1 hm1 rfl rfl rfl (m_ar so55 hw1 rfl) rfl (fun hc2 hw2 hm2 => ?_)
  obtain ⟨g9, t9⟩ := t118_x (h := h) (s := thM m N) hN hP hN4 hP5 thM_r hh hR0 (thM_s hN4)
  refine m_k1 t9 hw2 hm2 rfl rfl rfl (m_ar so55 hw2 rfl) rfl (fun hc3 hw3 hm3 => ?_)
  refine f_istn [(3, fi (moM m P h (thM m N))), (0, .ref 55), (1, fi (h)), (2, fi (1))] rfl (by decide) hL rfl (fun L1 hL1 => ?_)
  refine f_iln 3 rfl hL1 rfl ?_
  refine f_if rfl (by decide) (fun c_9 => absurd (show (1 : Int) = (0 : Int) from c_9) (by decide)) (fun _ => ?_)
  refine f_aln 1 rfl hL1 rfl ?_
  refine f_aln 1 rfl hL1 rfl ?_
  refine m_gfi so55 ((gnM m N P h (thM m N) : Int)) rfl hw3 hm3 rfl wy_b ?_
  refine m_k1 (t119 ((wy_55 (by decide)).trans hN) ((wy_55 (by decide)).trans hP) hN4 hP5 rfl (gnM_r hN4 hP5 (thM_s hN4)).2) hw3 hm3 rfl rfl rfl (m_ar so55 hw3 rfl) rfl (fun hc4 hw4 hm4 => ?_)
  refine f_goto rfl ?_
  exact f_ret1 rfl (by rw [fg_is hN4 hP5]))
def ndC (m : Nat → Nat → Int) (h : Int) : Nat → Nat → Int
  | 0, _ => 0
  | j + 1, p => bI (decide (¬ iA (iR (m 61 16) ((p : Int))) (1) = 1 ∧ m 58 p ≤ h ∧ h ≤ m 59 p)) + ndC m h j (p + 1)
def laM (m : Nat → Nat → Int) (N P : Nat) (h : Int) : Int := ndC m h P 0 - moM m P h (thM m N)
def laMf (N P : Nat) (m : Nat → Nat → Int) (h : Int) : Int := laM m N P h
theorem t123 {m : Nat → Nat → Int} {N P : Nat} (hN : m 55 0 = (N : Int)) (hP : m 55 1 = (P : Int)) (hN4 : N ≤ 4) (hP5 : P ≤ 5) {h : Int} (hh : 0 ≤ h ∧ h ≤ 9) {g9 : Nat → Int} (t9 : h_M 118 [.ref 55, fi (h), fi (thM m N)] m (some (fi (moM m P h (thM m N)))) (wyM m (gnM m N P h (thM m N) : Int) g9)) : h_M 123 [.ref 55, fi (h)] m (some (fi (laM m N P h))) (wyM m (gnM m N P h (thM m N) : Int) g9) := h_M_of (R := ev_r123) rfl (fun hc hw hm => by
  have hL : f_L (lv_args 0 [.ref 55, fi (h)]) [(0, .ref 55), (1, fi (h))] := f_L_of rfl
  generalize lv_args 0 [.ref 55, fi (h)] = L at hL
  show x_W none (1, 0, 4, 1, 11, 5, 118, 0, 0, ev_t123) 0 L [] hc 0 0 _
  have hR := gi_R hm
  have hK : ∀ (j : Nat) (hc : ev_H) (p c : Int) (L : ev_L), y_in yGw hc → gi hc = m → (0 ≤ p ∧ p + j = (P : Int)) → f_L L [(3, fi (p)), (2, fi (c)), (0, .ref 55), (1, fi (h))] → x_W none (1, 0, 4, 1, 11, 5, 118, 0, 0, ev_t123) 4 L [] hc 0 0 (fun r' h' => r' = some (fi ((c + ndC m h j (p).toNat) - moM m P h (thM m N))) ∧ y_in yGw h' ∧ gi h' = wyM m (gnM m N P h (thM m N) : Int) g9) := by
    intro j
    induction j with
    | zero =>
      intro hc p c L hw hm hp9 hL
      refine f_iln 0 rfl hL rfl ?_
      refine f_aln 2 rfl hL rfl ?_
      refine m_gfi so55 ((P : Int)) rfl hw hm rfl hP ?_
      refine f_ic rfl (by omega) (by omega) (fun _ => ?_) (fun c_9 => absurd (show ((P : Int) : Int) ≤ (p : Int) from (by omega)) c_9)
      refine f_iln 1 rfl hL rfl ?_
      refine f_aln 2 rfl hL rfl ?_
      refine f_iln 3 rfl hL rfl ?_
      refine f_aln 2 rfl hL rfl ?_
      refine m_k1 (t114 hN) hw hm rfl rfl rfl (m_ar so55 hw rfl) rfl (fun hc1 hw1 hm1 => ?_)
      refine m_k1 t9 hw1 hm1 rfl rfl rfl (m_ar so55 hw1 rfl) rfl (fun hc2 hw2 hm2 => ?_)
      refine f_isub rfl ?_
      exact f_ret1 rfl ⟨by rw [show ndC m h 0 (p).toNat = 0 from rfl, Int.add_zero], hw2, hm2⟩
    | succ j ih =>
      intro hc p c L hw hm hp9 hL
      refine f_iln 0 rfl hL rfl ?_
      refine f_aln 2 rfl hL rfl ?_
      refine m_gfi so55 ((P : Int)) rfl hw hm rfl hP ?_
      refine f_ic rfl (by omega) (by omega) (fun c_9 => absurd (show ((P : Int) : Int) ≤ (p : Int) from c_9) (by omega)) (fun _ => ?_)
      refine f_iln 1 rfl hL rfl ?_
      refine f_aln 2 rfl hL rfl ?_
      refine f_s [fi (0), .ref 55, fi (c)] rfl rfl ?_
      refine f_iln 0 rfl hL rfl ?_
      refine f_iln 3 rfl hL rfl ?_
      refine m_k1 (t90_0 (by omega) (by omega) (by omega) rfl (hR 58 _) rfl (hR 59 _)) hw hm rfl rfl rfl (m_ar so55 hw rfl) rfl (fun hc3 hw3 hm3 => ?_)
      have e8 : ndC m h (j + 1) (p).toNat = bI (decide (¬ iA (iR (m 61 16) (p)) (1) = 1 ∧ m 58 (p).toNat ≤ h ∧ h ≤ m 59 (p).toNat)) + ndC m h j (p + 1).toNat := by
        rw [show (p + 1).toNat = (p).toNat + 1 by omega]
        show bI (decide (¬ iA (iR (m 61 16) ((((p).toNat : Nat) : Int))) (1) = 1 ∧ m 58 (p).toNat ≤ h ∧ h ≤ m 59 (p).toNat)) + ndC m h j ((p).toNat + 1) = _
        rw [show (((p).toNat : Nat) : Int) = p by omega]
      refine f_if rfl (bI_r _) (fun c1 => ?_) (fun c1 => ?_)
      · have c1 : (bI (decide (¬ iA (iR (m 61 16) (p)) (1) = 1 ∧ m 58 (p).toNat ≤ h ∧ h ≤ m 59 (p).toNat)) : Int) = (0 : Int) := c1
        have c1 : ¬ (¬ iA (iR (m 61 16) (p)) (1) = 1 ∧ m 58 (p).toNat ≤ h ∧ h ≤ m 59 (p).toNat) := bI_f c1
        refine f_s [fi (0), fi (c)] rfl rfl ?_
        refine f_iadd rfl ?_
        refine f_istn [(2, fi (c + 0)), (3, fi (p)), (0, .ref 55), (1, fi (h))] rfl (by decide) hL rfl (fun L1 hL1 => ?_)
        refine f_inc 1 [(3, fi (p + 1)), (2, fi (c + 0)), (0, .ref 55), (1, fi (h))] rfl (by decide) hL1 rfl rfl (fun L2 hL2 => ?_)
        refine f_goto rfl ?_
        rw [e8, decide_eq_false c1, show c + (bI false + ndC m h j (p + 1).toNat) = (c + 0) + ndC m h j (p + 1).toNat by show c + ((0 : Int) + _) = _; omega]
        exact ih hc3 _ _ _ hw3 hm3 (by omega) (hL2.sel [0, 1, 2, 3] rfl)
      · have c1 : ¬ ((bI (decide (¬ iA (iR (m 61 16) (p)) (1) = 1 ∧ m 58 (p).toNat ≤ h ∧ h ≤ m 59 (p).toNat)) : Int) = (0 : Int)) := c1
        have c1 : ¬ iA (iR (m 61 16) (p)) (1) = 1 ∧ m 58 (p).toNat ≤ h ∧ h ≤ m 59 (p).toNat := bI_t c1
        refine f_s [fi (1), fi (c)] rfl rfl ?_
        refine f_goto rfl ?_
        refine f_iadd rfl ?_
        refine f_istn [(2, fi (c + 1)), (3, fi (p)), (0, .ref 55), (1, fi (h))] rfl (by decide) hL rfl (fun L3 hL3 => ?_)
        refine f_inc 1 [(3, fi (p + 1)), (2, fi (c + 1)), (0, .ref 55), (1, fi (h))] rfl (by decide) hL3 rfl rfl (fun L4 hL4 => ?_)
        refine f_goto rfl ?_
        rw [e8, decide_eq_true c1, show c + (bI true + ndC m h j (p + 1).toNat) = (c + 1) + ndC m h j (p + 1).toNat by show c + ((1 : Int) + _) = _; omega]
        exact ih hc3 _ _ _ hw3 hm3 (by omega) (hL4.sel [0, 1, 2, 3] rfl)
  refine f_s [fi (0)] rfl rfl ?_
  refine f_istn [(2, fi (0)), (0, .ref 55), (1, fi (h))] rfl (by decide) hL rfl (fun L5 hL5 => ?_)
  refine f_s [fi (0)] rfl rfl ?_
  refine f_istn [(3, fi (0)), (2, fi (0)), (0, .ref 55), (1, fi (h))] rfl (by decide) hL5 rfl (fun L6 hL6 => ?_)
  have e7 : laM m N P h = (0 + ndC m h P 0) - moM m P h (thM m N) := by rw [Int.zero_add]; rfl
  rw [e7]
  exact hK P hc 0 0 _ hw hm (by omega) (hL6.sel [0, 1, 2, 3] rfl))
def ag66 (m m' : Nat → Nat → Int) : Prop := ∀ q i, q ≠ 66 → ¬ (q = 55 ∧ i = 20) → m' q i = m q i
theorem ag66.w {m m' : Nat → Nat → Int} (e : ag66 m m') {b : Int} {g : Nat → Int} : ag66 m (wyM m' b g) := fun q i h1 h2 => ((if_neg h1).trans (if_neg h2)).trans (e q i h1 h2)
theorem ag66.b {m m' : Nat → Nat → Int} (e : ag66 m m') (h s : Int) : wb0 m' h s = wb0 m h s := by
  funext p k
  unfold wb0
  rw [e 61 16 (by decide) (by decide), e 58 p (by decide) (by omega), e 59 p (by decide) (by omega), e 60 p (by decide) (by omega)]
theorem ag66.r {m m' : Nat → Nat → Int} (e : ag66 m m') : rf0 m' = rf0 m := by
  funext k
  unfold rf0 rmM
  rw [e 56 _ (by decide) (by omega)]
theorem ag66.t {m m' : Nat → Nat → Int} (e : ag66 m m') (N : Nat) : thM m' N = thM m N := by
  unfold thM
  rw [e 61 15 (by decide) (by decide)]
theorem ag66.n {m m' : Nat → Nat → Int} (e : ag66 m m') (h : Int) : ∀ j p : Nat, ndC m' h j p = ndC m h j p
  | 0, _ => rfl
  | j + 1, p => by
    show bI (decide (¬ iA (iR (m' 61 16) ((p : Int))) (1) = 1 ∧ m' 58 p ≤ h ∧ h ≤ m' 59 p)) + ndC m' h j (p + 1) = bI (decide (¬ iA (iR (m 61 16) ((p : Int))) (1) = 1 ∧ m 58 p ≤ h ∧ h ≤ m 59 p)) + ndC m h j (p + 1)
    rw [e 61 16 (by decide) (by decide), e 58 p (by decide) (by omega), e 59 p (by decide) (by omega), ag66.n e h j (p + 1)]
theorem ag66.l {m m' : Nat → Nat → Int} (e : ag66 m m') (N P : Nat) (h : Int) : laM m' N P h = laM m N P h := by
  unfold laM moM
  rw [e.n, e.t, e.b, e.r]
theorem t123_x {m m' : Nat → Nat → Int} (e : ag66 m m') {N P : Nat} (hN : m 55 0 = (N : Int)) (hP : m 55 1 = (P : Int)) (hN4 : N ≤ 4) (hP5 : P ≤ 5) {h : Int} (hh : 0 ≤ h ∧ h ≤ 9) (hR0 : ∀ q i, -2147483648 ≤ m' q i ∧ m' q i ≤ 2147483647) : ∃ m2, ag66 m m2 ∧ h_M 123 [.ref 55, fi (h)] m' (some (fi (laMf N P m h))) m2 := by
  have a1 : m' 55 0 = (N : Int) := (e 55 0 (by decide) (by decide)).trans hN
  have a2 : m' 55 1 = (P : Int) := (e 55 1 (by decide) (by decide)).trans hP
  obtain ⟨g9, t9⟩ := t118_x (m := m') (h := h) (s := thM m' N) a1 a2 hN4 hP5 thM_r hh hR0 (thM_s hN4)
  have := t123 a1 a2 hN4 hP5 hh t9
  rw [e.l] at this
  exact ⟨wyM m' (gnM m' N P h (thM m' N) : Int) g9, e.w, this⟩
theorem t124_out {m : Nat → Nat → Int} {a b : Int} (ra : -2147483648 ≤ a ∧ a ≤ 2147483647) (rb : -2147483648 ≤ b ∧ b ≤ 2147483647) (h0 : ¬ ((0 ≤ a ∧ a ≤ 9) ∧ (a ≤ b ∧ b ≤ 9))) : h_E 124 [.ref 55, fi (a), fi (b)] m (some (fi (-2))) := h_E_of (R := ev_r124) rfl (fun hc hw hm => by
  have hL : f_L (lv_args 0 [.ref 55, fi (a), fi (b)]) [(0, .ref 55), (1, fi (a)), (2, fi (b))] := f_L_of rfl
  generalize lv_args 0 [.ref 55, fi (a), fi (b)] = L at hL
  show x_W none (1, 0, 5, 2, 11, 6, 141, 0, 0, ev_t124) 0 L [] hc 0 0 _
  have hR := gi_R hm
  refine f_iln 1 rfl hL rfl ?_
  refine f_i2l rfl ra ?_
  refine f_s [fl (0), fl (a)] rfl rfl ?_
  refine f_ldc2 (9) rfl rfl ?_
  refine m_k1 (t_in a 0 9 (by omega) (by decide) (by decide)) hw hm rfl rfl rfl rfl rfl (fun hc1 hw1 hm1 => ?_)
  refine f_if rfl (bI_r _) (fun c1 => ?_) (fun c1 => ?_)
  · have c1 : (bI (decide (0 ≤ a ∧ a ≤ 9)) : Int) = (0 : Int) := c1
    have c1 : ¬ (0 ≤ a ∧ a ≤ 9) := bI_f c1
    refine f_bipush (n := -2) rfl (by decide) ?_
    exact f_ret1 rfl (rfl)
  · have c1 : ¬ ((bI (decide (0 ≤ a ∧ a ≤ 9)) : Int) = (0 : Int)) := c1
    have c1 : 0 ≤ a ∧ a ≤ 9 := bI_t c1
    refine f_iln 2 rfl hL rfl ?_
    refine f_i2l rfl rb ?_
    refine f_iln 1 rfl hL rfl ?_
    refine f_i2l rfl ra ?_
    refine f_ldc2 (9) rfl rfl ?_
    refine m_k1 (t_in b a 9 (by omega) (by omega) (by decide)) hw1 hm1 rfl rfl rfl rfl rfl (fun hc2 hw2 hm2 => ?_)
    refine f_if rfl (bI_r _) (fun c => absurd ⟨c1, bI_t c⟩ h0) (fun c2 => ?_)
    have c2 : ¬ (¬ (bI (decide (a ≤ b ∧ b ≤ 9)) : Int) = (0 : Int)) := c2
    have c2 : ¬ (a ≤ b ∧ b ≤ 9) := bI_n c2
    refine f_bipush (n := -2) rfl (by decide) ?_
    exact f_ret1 rfl (rfl))
theorem t124_ok {m : Nat → Nat → Int} {N P : Nat} (hN : m 55 0 = (N : Int)) (hP : m 55 1 = (P : Int)) (hN4 : N ≤ 4) (hP5 : P ≤ 5) {a b : Int} (ra : -2147483648 ≤ a ∧ a ≤ 2147483647) (rb : -2147483648 ≤ b ∧ b ≤ 2147483647) (h0 : (0 ≤ a ∧ a ≤ 9) ∧ (a ≤ b ∧ b ≤ 9)) : h_E 124 [.ref 55, fi (a), fi (b)] m (some (fi (wtJ (laMf N P m) (b + 1 - a).toNat a))) := h_E_of (R := ev_r124) rfl (fun hc hw hm => by
  have hL : f_L (lv_args 0 [.ref 55, fi (a), fi (b)]) [(0, .ref 55), (1, fi (a)), (2, fi (b))] := f_L_of rfl
  generalize lv_args 0 [.ref 55, fi (a), fi (b)] = L at hL
  show x_W none (1, 0, 5, 2, 11, 6, 141, 0, 0, ev_t124) 0 L [] hc 0 0 _
  have hR := gi_R hm
  have hK : ∀ (n : Nat) (hc : ev_H) (m' : Nat → Nat → Int) (x s : Int) (L : ev_L), y_in yGw hc → gi hc = m' → ag66 m m' → (0 ≤ x ∧ x + n = b + 1) → f_L L [(4, fi (x)), (3, fi (s)), (0, .ref 55), (1, fi (a)), (2, fi (b))] → x_W none (1, 0, 5, 2, 11, 6, 141, 0, 0, ev_t124) 33 L [] hc 0 0 (fun r' _ => r' = some (fi (s + wtJ (laMf N P m) n x))) := by
    intro n
    induction n with
    | zero =>
      intro hc m' x s L hw hm ha hx hL
      refine f_il 0 rfl hL rfl ?_
      refine f_iln 4 rfl hL rfl ?_
      refine f_ic rfl (by omega) (by omega) (fun _ => ?_) (fun c_9 => absurd (show (b : Int) < (x : Int) from (by omega)) c_9)
      refine f_iln 1 rfl hL rfl ?_
      exact f_ret1 rfl (by rw [show wtJ (laMf N P m) 0 x = 0 from rfl, Int.add_zero])
    | succ n ih =>
      intro hc m' x s L hw hm ha hx hL
      refine f_il 0 rfl hL rfl ?_
      refine f_iln 4 rfl hL rfl ?_
      refine f_ic rfl (by omega) (by omega) (fun c_9 => absurd (show (b : Int) < (x : Int) from c_9) (by omega)) (fun _ => ?_)
      refine f_iln 1 rfl hL rfl ?_
      refine f_aln 2 rfl hL rfl ?_
      refine f_il 0 rfl hL rfl ?_
      obtain ⟨m9, q9, t9⟩ := (t123_x (m := m) ha hN hP hN4 hP5 (h := x) (by omega) (gi_R hm))
      refine m_k1 t9 hw hm rfl rfl rfl (m_ar so55 hw rfl) rfl (fun hc1 hw1 hm1 => ?_)
      refine f_iadd rfl ?_
      refine f_istn [(3, fi (s + (laMf N P m x))), (4, fi (x)), (0, .ref 55), (1, fi (a)), (2, fi (b))] rfl (by decide) hL rfl (fun L1 hL1 => ?_)
      refine f_inc 1 [(4, fi (x + 1)), (3, fi (s + (laMf N P m x))), (0, .ref 55), (1, fi (a)), (2, fi (b))] rfl (by decide) hL1 rfl rfl (fun L2 hL2 => ?_)
      refine f_goto rfl ?_
      rw [show s + wtJ (laMf N P m) (n + 1) x = (s + laMf N P m x) + wtJ (laMf N P m) n (x + 1) by show s + (laMf N P m x + wtJ (laMf N P m) n (x + 1)) = _; omega]
      exact ih hc1 m9 _ _ _ hw1 hm1 q9 (by omega) (hL2.sel [0, 1, 2, 3, 4] rfl)
  refine f_iln 1 rfl hL rfl ?_
  refine f_i2l rfl ra ?_
  refine f_s [fl (0), fl (a)] rfl rfl ?_
  refine f_ldc2 (9) rfl rfl ?_
  refine m_k1 (t_in a 0 9 (by omega) (by decide) (by decide)) hw hm rfl rfl rfl rfl rfl (fun hc2 hw2 hm2 => ?_)
  refine f_if rfl (bI_r _) (fun c_9 => absurd (show (bI (decide (0 ≤ a ∧ a ≤ 9)) : Int) = (0 : Int) from c_9) (by rw [decide_eq_true h0.1]; decide)) (fun _ => ?_)
  refine f_iln 2 rfl hL rfl ?_
  refine f_i2l rfl rb ?_
  refine f_iln 1 rfl hL rfl ?_
  refine f_i2l rfl ra ?_
  refine f_ldc2 (9) rfl rfl ?_
  refine m_k1 (t_in b a 9 (by omega) (by omega) (by decide)) hw2 hm2 rfl rfl rfl rfl rfl (fun hc3 hw3 hm3 => ?_)
  refine f_if rfl (bI_r _) (fun _ => ?_) (fun c_9 => absurd (show ¬ (bI (decide (a ≤ b ∧ b ≤ 9)) : Int) = (0 : Int) from (by rw [decide_eq_true h0.2]; decide)) c_9)
  refine f_s [fi (0)] rfl rfl ?_
  refine f_istn [(3, fi (0)), (0, .ref 55), (1, fi (a)), (2, fi (b))] rfl (by decide) hL rfl (fun L3 hL3 => ?_)
  refine f_iln 2 rfl hL3 rfl ?_
  refine f_ist [(4, fi (a)), (3, fi (0)), (0, .ref 55), (1, fi (a)), (2, fi (b))] rfl (by decide) hL3 rfl (fun L4 hL4 => ?_)
  rw [show wtJ (laMf N P m) (b + 1 - a).toNat a = 0 + wtJ (laMf N P m) (b + 1 - a).toNat a by omega]
  exact hK (b + 1 - a).toNat hc3 m a 0 _ hw3 hm3 (fun _ _ _ _ => rfl) (by omega) (hL4.sel [0, 1, 2, 3, 4] rfl))
theorem t126 {m : Nat → Nat → Int} {N P : Nat} (hN : m 55 0 = (N : Int)) (hP : m 55 1 = (P : Int)) (hN4 : N ≤ 4) (hP5 : P ≤ 5) (laR : ∀ x : Int, -2147483648 ≤ laMf N P m x ∧ laMf N P m x ≤ 2147483647) : h_E 126 [.ref 55] m (some (fi (fsJ (laMf N P m) 10 0))) := h_E_of (R := ev_r126) rfl (fun hc hw hm => by
  have hL : f_L (lv_args 0 [.ref 55]) [(0, .ref 55)] := f_L_of rfl
  generalize lv_args 0 [.ref 55] = L at hL
  show x_W none (1, 0, 2, 0, 11, 6, 141, 0, 0, ev_t126) 0 L [] hc 0 0 _
  have hR := gi_R hm
  have hK : ∀ (n : Nat) (hc : ev_H) (m' : Nat → Nat → Int) (x : Int) (L : ev_L), y_in yGw hc → gi hc = m' → ag66 m m' → (0 ≤ x ∧ x + n = 10) → f_L L [(1, fi (x)), (0, .ref 55)] → x_W none (1, 0, 2, 0, 11, 6, 141, 0, 0, ev_t126) 2 L [] hc 0 0 (fun r' _ => r' = some (fi (fsJ (laMf N P m) n x))) := by
    intro n
    induction n with
    | zero =>
      intro hc m' x L hw hm ha hx hL
      refine f_iln 0 rfl hL rfl ?_
      refine f_bipush (n := 10) rfl (by decide) ?_
      refine f_ic rfl (by omega) (by decide) (fun _ => ?_) (fun c_9 => absurd (show (10 : Int) ≤ (x : Int) from (by omega)) c_9)
      refine f_bipush (n := -9) rfl (by decide) ?_
      exact f_ret1 rfl (rfl)
    | succ n ih =>
      intro hc m' x L hw hm ha hx hL
      refine f_iln 0 rfl hL rfl ?_
      refine f_bipush (n := 10) rfl (by decide) ?_
      refine f_ic rfl (by omega) (by decide) (fun c_9 => absurd (show (10 : Int) ≤ (x : Int) from c_9) (by omega)) (fun _ => ?_)
      refine f_aln 1 rfl hL rfl ?_
      refine f_iln 0 rfl hL rfl ?_
      obtain ⟨m9, q9, t9⟩ := (t123_x (m := m) ha hN hP hN4 hP5 (h := x) (by omega) (gi_R hm))
      have r9 := laR x
      refine m_k1 t9 hw hm rfl rfl rfl (m_ar so55 hw rfl) rfl (fun hc1 hw1 hm1 => ?_)
      refine f_if rfl (by omega) (fun c1 => ?_) (fun c1 => ?_)
      · have c1 : (laMf N P m x : Int) ≤ (0 : Int) := c1
        refine f_inc 0 [(1, fi (x + 1)), (0, .ref 55)] rfl (by decide) hL rfl rfl (fun L1 hL1 => ?_)
        refine f_goto rfl ?_
        rw [show fsJ (laMf N P m) (n + 1) x = fsJ (laMf N P m) n (x + 1) from if_neg (by omega)]
        exact ih hc1 m9 _ _ hw1 hm1 q9 (by omega) (hL1.sel [0, 1] rfl)
      · have c1 : ¬ ((laMf N P m x : Int) ≤ (0 : Int)) := c1
        refine f_iln 0 rfl hL rfl ?_
        exact f_ret1 rfl (by rw [show fsJ (laMf N P m) (n + 1) x = x from if_pos (by omega)])
  refine f_s [fi (0)] rfl rfl ?_
  refine f_istn [(1, fi (0)), (0, .ref 55)] rfl (by decide) hL rfl (fun L2 hL2 => ?_)
  exact hK 10 hc m 0 _ hw hm (fun _ _ _ _ => rfl) (by decide) (hL2.sel [0, 1] rfl))
theorem most_eq {m : Nat → Nat → Int} (hP : PR m) (hR : SR0 m) {N P : Nat} (hN : m 3 5 = (N : Int)) (hPP : m 3 6 = (P : Int)) (h : Int) : moC m h 15 = moM m P h (thM m N) ∧ wyC m h = wyR m N P h := by
  have N4 : N ≤ 4 := by have := hP.2.1.1; omega
  have P5 : P ≤ 5 := by have := hP.2.1.2; omega
  have no : ∀ q, 0 + P ≤ q → q < 5 → gW m h 15 q = (false, false, false, false) := fun q h1 _ => want_no (by omega)
  have el : LsF (gW m h 15) 0 P = LsF (wb4 (wb0 m h (thM m N))) 0 P := LsF_congr P 0 (fun q _ h2 => want_eq hP hR hN (fun k hk => by rw [thM_k N4 hk, tB_15 hk, ← hR.g.1, Bool.true_and]) (by omega) (by omega))
  have hS : ∀ w ∈ LsF (wb4 (wb0 m h (thM m N))) 0 P, ∀ k, bk w k = true → k < N := fun w hw k hk => by
    have := wbN (m := m) (h := h) (s := thM m N) (P := P) (thM_s N4) w hw k hk
    omega
  have er : ∀ k, k < N → gR m k = rf0 m k := fun k hk => hP.rmE ⟨by omega, by omega⟩
  constructor
  · show gg (gW m h 15) (5 - 0) (gR m) = _
    rw [gg_F (gW m h 15) (p := 0) (j := P) (by omega) no, el]
    exact hg_congr (S := fun k => k < N) _ _ hS er
  · unfold wyC wyR
    rw [hPP, Int.toNat_natCast, el]
    exact fwL_congr (S := fun k => k < N) _ _ _ hS er
theorem nd_eq {m : Nat → Nat → Int} (hP : PR m) (hR : SR0 m) {P : Nat} (hPP : m 3 6 = (P : Int)) (h : Int) : bC (ngS m 9 h) = ndC m h P 0 := by
  have P5 : P ≤ 5 := by have := hP.2.1.2; omega
  rw [ngS_b, b5_C]
  have e : ∀ {i : Nat} {x : Int}, i < 5 → (i : Int) < m 3 6 → (i : Int) = x → nB m 9 h x = decide (¬ iA (iR (m 61 16) x) 1 = 1 ∧ m 58 i ≤ h ∧ h ≤ m 59 i) := fun hi hp hx => hR.nBE hP hi hp hx
  have f : ∀ {i : Nat} {x : Int}, ¬ (i : Int) < m 3 6 → (i : Int) = x → nB m 9 h x = false := fun hp hx => SR0.nBo hp hx
  have : P = 0 ∨ P = 1 ∨ P = 2 ∨ P = 3 ∨ P = 4 ∨ P = 5 := by omega
  rcases this with rfl | rfl | rfl | rfl | rfl | rfl
  · rw [f (i := 0) (x := 0) (by omega) rfl, f (i := 1) (x := 1) (by omega) rfl, f (i := 2) (x := 2) (by omega) rfl, f (i := 3) (x := 3) (by omega) rfl, f (i := 4) (x := 4) (by omega) rfl]
    show _ = (0 : Int)
    (try simp only [show bI false = (0 : Int) from rfl])
    omega
  · rw [e (i := 0) (x := 0) (by decide) (by omega) rfl, f (i := 1) (x := 1) (by omega) rfl, f (i := 2) (x := 2) (by omega) rfl, f (i := 3) (x := 3) (by omega) rfl, f (i := 4) (x := 4) (by omega) rfl]
    show _ = bI (decide (¬ iA (iR (m 61 16) 0) 1 = 1 ∧ m 58 0 ≤ h ∧ h ≤ m 59 0)) + (0 : Int)
    (try simp only [show bI false = (0 : Int) from rfl])
    omega
  · rw [e (i := 0) (x := 0) (by decide) (by omega) rfl, e (i := 1) (x := 1) (by decide) (by omega) rfl, f (i := 2) (x := 2) (by omega) rfl, f (i := 3) (x := 3) (by omega) rfl, f (i := 4) (x := 4) (by omega) rfl]
    show _ = bI (decide (¬ iA (iR (m 61 16) 0) 1 = 1 ∧ m 58 0 ≤ h ∧ h ≤ m 59 0)) + (bI (decide (¬ iA (iR (m 61 16) 1) 1 = 1 ∧ m 58 1 ≤ h ∧ h ≤ m 59 1)) + (0 : Int))
    (try simp only [show bI false = (0 : Int) from rfl])
    omega
  · rw [e (i := 0) (x := 0) (by decide) (by omega) rfl, e (i := 1) (x := 1) (by decide) (by omega) rfl, e (i := 2) (x := 2) (by decide) (by omega) rfl, f (i := 3) (x := 3) (by omega) rfl, f (i := 4) (x := 4) (by omega) rfl]
    show _ = bI (decide (¬ iA (iR (m 61 16) 0) 1 = 1 ∧ m 58 0 ≤ h ∧ h ≤ m 59 0)) + (bI (decide (¬ iA (iR (m 61 16) 1) 1 = 1 ∧ m 58 1 ≤ h ∧ h ≤ m 59 1)) + (bI (decide (¬ iA (iR (m 61 16) 2) 1 = 1 ∧ m 58 2 ≤ h ∧ h ≤ m 59 2)) + (0 : Int)))
    (try simp only [show bI false = (0 : Int) from rfl])
    omega
  · rw [e (i := 0) (x := 0) (by decide) (by omega) rfl, e (i := 1) (x := 1) (by decide) (by omega) rfl, e (i := 2) (x := 2) (by decide) (by omega) rfl, e (i := 3) (x := 3) (by decide) (by omega) rfl, f (i := 4) (x := 4) (by omega) rfl]
    show _ = bI (decide (¬ iA (iR (m 61 16) 0) 1 = 1 ∧ m 58 0 ≤ h ∧ h ≤ m 59 0)) + (bI (decide (¬ iA (iR (m 61 16) 1) 1 = 1 ∧ m 58 1 ≤ h ∧ h ≤ m 59 1)) + (bI (decide (¬ iA (iR (m 61 16) 2) 1 = 1 ∧ m 58 2 ≤ h ∧ h ≤ m 59 2)) + (bI (decide (¬ iA (iR (m 61 16) 3) 1 = 1 ∧ m 58 3 ≤ h ∧ h ≤ m 59 3)) + (0 : Int))))
    (try simp only [show bI false = (0 : Int) from rfl])
    omega
  · rw [e (i := 0) (x := 0) (by decide) (by omega) rfl, e (i := 1) (x := 1) (by decide) (by omega) rfl, e (i := 2) (x := 2) (by decide) (by omega) rfl, e (i := 3) (x := 3) (by decide) (by omega) rfl, e (i := 4) (x := 4) (by decide) (by omega) rfl]
    show _ = bI (decide (¬ iA (iR (m 61 16) 0) 1 = 1 ∧ m 58 0 ≤ h ∧ h ≤ m 59 0)) + (bI (decide (¬ iA (iR (m 61 16) 1) 1 = 1 ∧ m 58 1 ≤ h ∧ h ≤ m 59 1)) + (bI (decide (¬ iA (iR (m 61 16) 2) 1 = 1 ∧ m 58 2 ≤ h ∧ h ≤ m 59 2)) + (bI (decide (¬ iA (iR (m 61 16) 3) 1 = 1 ∧ m 58 3 ≤ h ∧ h ≤ m 59 3)) + (bI (decide (¬ iA (iR (m 61 16) 4) 1 = 1 ∧ m 58 4 ≤ h ∧ h ≤ m 59 4)) + (0 : Int)))))
    (try simp only [show bI false = (0 : Int) from rfl])
    omega
theorem SI_most0 {hc : ev_H} (hin : y_in yG hc) (hS : SI (gi hc)) {h : Int} (rh : -2147483648 ≤ h ∧ h ≤ 2147483647) : ∃ rr hc1 fs1 hc2, (-2147483648 ≤ rr ∧ rr ≤ 2147483647) ∧ f_M 113 [.ref 0, fi h, fi (0)] hc (some (fi rr)) hc1 ∧ hc1[55]? = some (.inr (.inr (10, fs1))) ∧ f_M 120 [.ref 55, fi h, fi (0)] hc1 (some (fi rr)) hc2 ∧ y_in yG hc2 ∧ SI (gi hc2) ∧ y_un yct113_0.2.2 hc hc1 ∧ y_un yct120_0.2.2 hc1 hc2 := by
  have hn := hS.1.2.1.1
  have hp := hS.1.2.1.2
  have fN : ∀ m1, SI m1 → ∃ N P : Nat, m1 3 5 = (N : Int) ∧ m1 3 6 = (P : Int) ∧ N ≤ 4 ∧ P ≤ 5 := fun m1 h1 => ⟨(m1 3 5).toNat, (m1 3 6).toNat, by have := h1.1.2.1.1; omega, by have := h1.1.2.1.2; omega, by have := h1.1.2.1.1; omega, by have := h1.1.2.1.2; omega⟩
  have ga : ∀ q : Nat, y_args [(2, Int.ofNat q, Int.ofNat q, false), (0, Int.negSucc 2147483647, Int.ofNat 2147483647, false), (0, Int.ofNat 0, Int.ofNat 1, false)] [.ref q, fi h, fi (0)] := fun q => f_args_c f_rAr (f_args_c f_rAi (f_args_c (f_rA (by decide) (by decide) (by decide) (by decide)) f_args_n))
  by_cases hh : 0 ≤ h ∧ h < 10
  · refine SI_call3 (RC := ev_r113) (RM := ev_r120) rfl rfl yc113_0 yc120_0 (ga 0) (ga 55) hin hS (t113_0_ok hn hp rh hh) (by decide) (by decide) (fun m1 k1 hS1 r1 => ?_)
    obtain ⟨N, P, eN, eP, N4, P5⟩ := fN m1 hS1
    have t := t120_0_ok (m := m1) (by rw [← hS1.1.1.1]; exact eN) (by rw [← hS1.1.1.2]; exact eP) N4 P5 rh (by omega) r1
    rw [← (most_eq hS1.1 hS1.2.1 eN eP h).1, moC_c (nmE_of k1)] at t
    exact t
  · exact SI_call3 (RC := ev_r113) (RM := ev_r120) rfl rfl yc113_0 yc120_0 (ga 0) (ga 55) hin hS (t113_0_out rh hh) (by decide) (by decide) (fun m1 k1 hS1 r1 => t120_0_out rh (by omega))
theorem SI_most1 {hc : ev_H} (hin : y_in yG hc) (hS : SI (gi hc)) {h : Int} (rh : -2147483648 ≤ h ∧ h ≤ 2147483647) : ∃ rr hc1 fs1 hc2, (-2147483648 ≤ rr ∧ rr ≤ 2147483647) ∧ f_M 113 [.ref 0, fi h, fi (1)] hc (some (fi rr)) hc1 ∧ hc1[55]? = some (.inr (.inr (10, fs1))) ∧ f_M 120 [.ref 55, fi h, fi (1)] hc1 (some (fi rr)) hc2 ∧ y_in yG hc2 ∧ SI (gi hc2) ∧ y_un yct113_0.2.2 hc hc1 ∧ y_un yct120_0.2.2 hc1 hc2 := by
  have hn := hS.1.2.1.1
  have hp := hS.1.2.1.2
  have fN : ∀ m1, SI m1 → ∃ N P : Nat, m1 3 5 = (N : Int) ∧ m1 3 6 = (P : Int) ∧ N ≤ 4 ∧ P ≤ 5 := fun m1 h1 => ⟨(m1 3 5).toNat, (m1 3 6).toNat, by have := h1.1.2.1.1; omega, by have := h1.1.2.1.2; omega, by have := h1.1.2.1.1; omega, by have := h1.1.2.1.2; omega⟩
  have ga : ∀ q : Nat, y_args [(2, Int.ofNat q, Int.ofNat q, false), (0, Int.negSucc 2147483647, Int.ofNat 2147483647, false), (0, Int.ofNat 0, Int.ofNat 1, false)] [.ref q, fi h, fi (1)] := fun q => f_args_c f_rAr (f_args_c f_rAi (f_args_c (f_rA (by decide) (by decide) (by decide) (by decide)) f_args_n))
  by_cases hh : 0 ≤ h ∧ h < 10
  · refine SI_call3 (RC := ev_r113) (RM := ev_r120) rfl rfl yc113_0 yc120_0 (ga 0) (ga 55) hin hS (t113_1_ok hn hp rh hh) (by decide) (by decide) (fun m1 k1 hS1 r1 => ?_)
    obtain ⟨N, P, eN, eP, N4, P5⟩ := fN m1 hS1
    have t := t120_1_ok (m := m1) (by rw [← hS1.1.1.1]; exact eN) (by rw [← hS1.1.1.2]; exact eP) N4 P5 rh (by omega) r1
    rw [← (most_eq hS1.1 hS1.2.1 eN eP h).2, wyC_c (nmE_of k1) hp] at t
    exact t
  · exact SI_call3 (RC := ev_r113) (RM := ev_r120) rfl rfl yc113_0 yc120_0 (ga 0) (ga 55) hin hS (t113_1_out rh hh) (by decide) (by decide) (fun m1 k1 hS1 r1 => t120_1_out rh (by omega))
theorem la_eq {m : Nat → Nat → Int} (hP : PR m) (hR : SR0 m) {N P : Nat} (hN : m 3 5 = (N : Int)) (hPP : m 3 6 = (P : Int)) (h : Int) : laMf N P m h = lwC m h := by
  show ndC m h P 0 - moM m P h (thM m N) = bC (ngS m 9 h) - moC m h 15
  rw [nd_eq hP hR hPP, (most_eq hP hR hN hPP h).1]
theorem SI_waiting {hc : ev_H} (hin : y_in yG hc) (hS : SI (gi hc)) {x k : Int} (rx : -2147483648 ≤ x ∧ x ≤ 2147483647) (rk : -2147483648 ≤ k ∧ k ≤ 2147483647) : ∃ rr hc1 fs1 hc2, (-2147483648 ≤ rr ∧ rr ≤ 2147483647) ∧ f_M 122 [.ref 0, fi x, fi k] hc (some (fi rr)) hc1 ∧ hc1[55]? = some (.inr (.inr (10, fs1))) ∧ f_M 124 [.ref 55, fi x, fi k] hc1 (some (fi rr)) hc2 ∧ y_in yG hc2 ∧ SI (gi hc2) ∧ y_un yct122_0.2.2 hc hc1 ∧ y_un yct124_0.2.2 hc1 hc2 := by
  have hn := hS.1.2.1.1
  have hp := hS.1.2.1.2
  have fN : ∀ m1, SI m1 → ∃ N P : Nat, m1 3 5 = (N : Int) ∧ m1 3 6 = (P : Int) ∧ N ≤ 4 ∧ P ≤ 5 := fun m1 h1 => ⟨(m1 3 5).toNat, (m1 3 6).toNat, by have := h1.1.2.1.1; omega, by have := h1.1.2.1.2; omega, by have := h1.1.2.1.1; omega, by have := h1.1.2.1.2; omega⟩
  have ga : ∀ q : Nat, y_args [(2, Int.ofNat q, Int.ofNat q, false), (0, Int.negSucc 2147483647, Int.ofNat 2147483647, false), (0, Int.negSucc 2147483647, Int.ofNat 2147483647, false)] [.ref q, fi x, fi k] := fun q => f_args_c f_rAr (f_args_c f_rAi (f_args_c f_rAi f_args_n))
  by_cases hh : (0 ≤ x ∧ x < 10) ∧ (0 ≤ k ∧ k < 10) ∧ x ≤ k
  · refine SI_call3 (RC := ev_r122) (RM := ev_r124) rfl rfl yc122_0 yc124_0 (ga 0) (ga 55) hin hS (t122_ok hn hp rx rk hh) (by decide) (by decide) (fun m1 k1 hS1 r1 => ?_)
    obtain ⟨N, P, eN, eP, N4, P5⟩ := fN m1 hS1
    have t := t124_ok (m := m1) (by rw [← hS1.1.1.1]; exact eN) (by rw [← hS1.1.1.2]; exact eP) N4 P5 rx rk (by omega)
    rw [wtJ_c (f := laMf N P m1) (f' := lwC (gi hc)) (fun y _ _ => (la_eq hS1.1 hS1.2.1 eN eP y).trans (lwC_c (nmE_of k1))) _ _ (by omega) (by omega)] at t
    exact t
  · exact SI_call3 (RC := ev_r122) (RM := ev_r124) rfl rfl yc122_0 yc124_0 (ga 0) (ga 55) hin hS (t122_out rx rk hh) (by decide) (by decide) (fun m1 k1 hS1 r1 => t124_out rx rk (by omega))
theorem SI_first {hc : ev_H} (hin : y_in yG hc) (hS : SI (gi hc)) : ∃ rr hc1 fs1 hc2, (-2147483648 ≤ rr ∧ rr ≤ 2147483647) ∧ f_M 125 [.ref 0] hc (some (fi rr)) hc1 ∧ hc1[55]? = some (.inr (.inr (10, fs1))) ∧ f_M 126 [.ref 55] hc1 (some (fi rr)) hc2 ∧ y_in yG hc2 ∧ SI (gi hc2) ∧ y_un yct125_0.2.2 hc hc1 ∧ y_un yct126_0.2.2 hc1 hc2 := by
  have hn := hS.1.2.1.1
  have hp := hS.1.2.1.2
  have fN : ∀ m1, SI m1 → ∃ N P : Nat, m1 3 5 = (N : Int) ∧ m1 3 6 = (P : Int) ∧ N ≤ 4 ∧ P ≤ 5 := fun m1 h1 => ⟨(m1 3 5).toNat, (m1 3 6).toNat, by have := h1.1.2.1.1; omega, by have := h1.1.2.1.2; omega, by have := h1.1.2.1.1; omega, by have := h1.1.2.1.2; omega⟩
  have ga : ∀ q : Nat, y_args [(2, Int.ofNat q, Int.ofNat q, false)] [.ref q] := fun q => f_args_c f_rAr f_args_n
  refine SI_call3 (RC := ev_r125) (RM := ev_r126) rfl rfl yc125_0 yc126_0 (ga 0) (ga 55) hin hS (t125 hn hp) (by decide) (by decide) (fun m1 k1 hS1 r1 => ?_)
  obtain ⟨N, P, eN, eP, N4, P5⟩ := fN m1 hS1
  have t := t126 (m := m1) (by rw [← hS1.1.1.1]; exact eN) (by rw [← hS1.1.1.2]; exact eP) N4 P5 (fun y => by rw [la_eq hS1.1 hS1.2.1 eN eP]; exact lwC_r m1 y)
  rw [fsJ_c (f := laMf N P m1) (f' := lwC (gi hc)) (fun y _ _ => (la_eq hS1.1 hS1.2.1 eN eP y).trans (lwC_c (nmE_of k1))) _ _ (by decide) (by decide)] at t
  exact t
