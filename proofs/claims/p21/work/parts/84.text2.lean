/-! readText, fault of the reference; write, wipe of both -/
noncomputable def tG (ln : Int) (t : Int → Int) : Int := if t 0 = 72 then (pr ln t 40 1 [] []).1 else 0
theorem tF_G (m : Nat → Nat → Int) : tF m = tG (m 1 1) (tx m) := rfl
set_option maxHeartbeats 1000000 in
theorem t27 {m : Nat → Nat → Int} {ln : Int} {t : Int → Int} (hM : tM m ln t) : ∀ hc, y_in yGw hc → gi hc = m → ∃ hc', f_M 27 [.ref 55] hc (some (fi (tG ln t))) hc' ∧ y_in yGw hc' ∧ (tG ln t = -9 → pOK (gi hc') (pr ln t 40 1 [] []).2.1 (pr ln t 40 1 [] []).2.2) := fun hc hw hm => by
  have hl := hM.2.1
  have ht := hM.2.2.2.1 0
  have key : x_W none (1, 0, 2, 0, 11, 2, 49, 0, 0, ev_t27) 0 (lv_args 0 [.ref 55]) [] hc 0 0 (fun r h' => y_in yGw h' ∧ r = some (fi (tG ln t)) ∧ (tG ln t = -9 → pOK (gi h') (pr ln t 40 1 [] []).2.1 (pr ln t 40 1 [] []).2.2)) := by
    have hL : f_L (lv_args 0 [.ref 55]) [(0, .ref 55)] := f_L_of rfl
    generalize lv_args 0 [.ref 55] = L at hL
    refine f_aln 0 rfl hL rfl ?_
    refine f_s [fi (0), .ref 55] rfl rfl ?_
    refine m_pf so55 rfl hw hm rfl rfl (by decide) (fun hc1 hw1 hm1 => ?_)
    refine f_aln 0 rfl hL rfl ?_
    refine f_bipush (n := -9) rfl (by decide) ?_
    refine m_pf so55 rfl hw1 hm1 rfl rfl (by decide) (fun hc2 hw2 hm2 => ?_)
    refine f_aln 0 rfl hL rfl ?_
    refine f_s [fi (0), .ref 55] rfl rfl ?_
    refine m_pf so55 rfl hw2 hm2 rfl rfl (by decide) (fun hc3 hw3 hm3 => ?_)
    refine f_aln 0 rfl hL rfl ?_
    refine f_s [fi (0), .ref 55] rfl rfl ?_
    refine m_pf so55 rfl hw3 hm3 rfl rfl (by decide) (fun hc4 hw4 hm4 => ?_)
    refine f_aln 0 rfl hL rfl ?_
    refine m_gfi so55 (ln) rfl hw4 hm4 rfl hM.1 ?_
    refine f_if rfl (by omega) (fun c1 => ?_) (fun c1 => ?_)
    · have c1 : (ln : Int) = (0 : Int) := c1
      refine f_s [fi (0)] rfl rfl ?_
      have e0 : t 0 = 0 := hM.2.2.2.2 (by omega)
      exact f_ret1 rfl ⟨hw4, by unfold tG; rw [if_neg (by omega)], fun z => absurd z (by unfold tG; rw [if_neg (by omega)]; decide)⟩
    · have c1 : ¬ ((ln : Int) = (0 : Int)) := c1
      refine f_aln 0 rfl hL rfl ?_
      refine m_gfr so55 rfl hw4 rfl (by decide) ?_
      refine f_s [fi (0), .ref 64] rfl rfl ?_
      refine m_ia sa64 (t 0) rfl hw4 hm4 (by omega) (by omega) (by decide) (hM.2.2.1 0 (by decide) (by omega)) ?_
      refine f_bipush (n := 72) rfl (by decide) ?_
      refine f_ic rfl (by omega) (by omega) (fun c2 => ?_) (fun c2 => ?_)
      · have c2 : (t 0 : Int) = (72 : Int) := c2
        refine f_aln 0 rfl hL rfl ?_
        refine f_s [fi (1), .ref 55] rfl rfl ?_
        refine m_pf so55 rfl hw4 hm4 rfl rfl (by decide) (fun hc5 hw5 hm5 => ?_)
        have hO : pOK (up (up (up (up (up m 55 14 (0)) 55 15 (-9)) 55 10 (0)) 55 11 (0)) 55 14 (1)) [] [] := ⟨rfl, rfl, fun k e h => (by cases h), fun k e h => by cases h⟩
        have key := t27_loop (ln := ln) (t := t) 40 1 [] [] (up (up (up (up (up m 55 14 (0)) 55 15 (-9)) 55 10 (0)) 55 11 (0)) 55 14 (1)) hc5 _ hw5 hm5 rfl rfl ⟨hM.1, hM.2.1, hM.2.2.1, hM.2.2.2⟩ hO (by decide) (by decide) (by omega) (by decide) (by decide) (hL.sel [0] rfl)
        have eG : tG ln t = (pr ln t 40 1 [] []).1 := by unfold tG; rw [if_pos c2]
        rw [eG]
        exact key
      · have c2 : ¬ ((t 0 : Int) = (72 : Int)) := c2
        refine f_s [fi (0)] rfl rfl ?_
        exact f_ret1 rfl ⟨hw4, by unfold tG; rw [if_neg c2], fun z => absurd z (by unfold tG; rw [if_neg c2]; decide)⟩
  obtain ⟨n, r, h', e, e1, rfl, e3⟩ := key
  exact ⟨h', fun R hR => by cases hR; exact ⟨n, e⟩, e1, e3⟩
theorem t28 {m : Nat → Nat → Int} {ln : Int} {t : Int → Int} (hM : tM m ln t) : ∀ hc, y_in yGw hc → gi hc = m → ∃ hc', f_M 28 [.ref 55] hc (some (fi (tG ln t))) hc' := fun hc hw hm => by
  obtain ⟨hc', e1, -, -⟩ := t27 hM hc hw hm
  obtain ⟨fs, q, -⟩ := so55 hc hw
  refine ⟨hc', f_M_of (R := ev_r28) rfl ?_⟩
  have hL : f_L (lv_args 0 [.ref 55]) [(0, .ref 55)] := f_L_of rfl
  generalize lv_args 0 [.ref 55] = L at hL
  show x_W none (1, 0, 1, 0, 11, 3, 70, 0, 0, ev_t28) 0 L [] hc 0 0 _
  refine f_aln 0 rfl hL rfl ?_
  refine f_k1 e1 rfl rfl rfl (f_ar_v q rfl) rfl ?_
  exact f_ret1 rfl ⟨rfl, rfl⟩
theorem t13 {m : Nat → Nat → Int} : h_M 13 [.ref 1] m (some (fi (m 1 1))) m := h_M_of (R := ev_r13) rfl (fun hc hw hm => by
  have hL : f_L (lv_args 0 [.ref 1]) [(0, .ref 1)] := f_L_of rfl
  generalize lv_args 0 [.ref 1] = L at hL
  show x_W none (1, 0, 1, 0, 9, 0, 0, 0, 0, ev_t13) 0 L [] hc 0 0 _
  refine f_aln 0 rfl hL rfl ?_
  refine m_gfi so1 (m 1 1) rfl hw hm rfl rfl ?_
  exact f_ret1 rfl ⟨rfl, hw, hm⟩)
theorem t12_full {m : Nat → Nat → Int} (l1 : 0 ≤ m 1 1) (l2 : m 1 1 ≤ 40) (hl : ¬ m 1 1 < 40) {x : Int} : h_M 12 [.ref 1, fi (x)] m (some (fi (0))) m := h_M_of (R := ev_r12) rfl (fun hc hw hm => by
  have hL : f_L (lv_args 0 [.ref 1, fi (x)]) [(0, .ref 1), (1, fi (x))] := f_L_of rfl
  generalize lv_args 0 [.ref 1, fi (x)] = L at hL
  show x_W none (2, 0, 2, 1, 9, 0, 0, 0, 0, ev_t12) 0 L [] hc 0 0 _
  refine f_aln 0 rfl hL rfl ?_
  refine m_gfi so1 (m 1 1) rfl hw hm rfl rfl ?_
  refine f_if rfl (by omega) (fun c_9 => absurd (show (m 1 1 : Int) < (0 : Int) from c_9) (by omega)) (fun _ => ?_)
  refine f_aln 0 rfl hL rfl ?_
  refine m_gfi so1 (m 1 1) rfl hw hm rfl rfl ?_
  refine f_aln 0 rfl hL rfl ?_
  refine m_gfr so1 rfl hw rfl (by decide) ?_
  refine m_al sa2 rfl hw (by decide) ?_
  refine f_ic rfl (by omega) (by omega) (fun c_9 => absurd (show (m 1 1 : Int) < (40 : Int) from c_9) (by omega)) (fun _ => ?_)
  refine f_s [fi (0)] rfl rfl ?_
  exact f_ret2 rfl (Or.inl rfl) ⟨rfl, hw, hm⟩)
theorem t12_ok {m : Nat → Nat → Int} (l1 : 0 ≤ m 1 1) (l2 : m 1 1 ≤ 40) (hl : m 1 1 < 40) {x : Int} (x1 : 0 ≤ x) (x2 : x ≤ 255) : h_M 12 [.ref 1, fi (x)] m (some (fi (1))) (up (up m 2 (m 1 1).toNat (x)) 1 1 ((m 1 1) + 1)) := h_M_of (R := ev_r12) rfl (fun hc hw hm => by
  have hL : f_L (lv_args 0 [.ref 1, fi (x)]) [(0, .ref 1), (1, fi (x))] := f_L_of rfl
  generalize lv_args 0 [.ref 1, fi (x)] = L at hL
  show x_W none (2, 0, 2, 1, 9, 0, 0, 0, 0, ev_t12) 0 L [] hc 0 0 _
  refine f_aln 0 rfl hL rfl ?_
  refine m_gfi so1 (m 1 1) rfl hw hm rfl rfl ?_
  refine f_if rfl (by omega) (fun c_9 => absurd (show (m 1 1 : Int) < (0 : Int) from c_9) (by omega)) (fun _ => ?_)
  refine f_aln 0 rfl hL rfl ?_
  refine m_gfi so1 (m 1 1) rfl hw hm rfl rfl ?_
  refine f_aln 0 rfl hL rfl ?_
  refine m_gfr so1 rfl hw rfl (by decide) ?_
  refine m_al sa2 rfl hw (by decide) ?_
  refine f_ic rfl (by omega) (by omega) (fun _ => ?_) (fun c_9 => absurd (show (m 1 1 : Int) < (40 : Int) from (by omega)) c_9)
  refine f_aln 0 rfl hL rfl ?_
  refine m_gfr so1 rfl hw rfl (by decide) ?_
  refine f_aln 0 rfl hL rfl ?_
  refine m_gfi so1 (m 1 1) rfl hw hm rfl rfl ?_
  refine f_iln 1 rfl hL rfl ?_
  refine m_cas sa2 rfl hw hm (by omega) (by omega) (by decide) (by omega) (fun hc1 hw1 hm1 => ?_)
  refine f_aln 0 rfl hL rfl ?_
  refine f_s [.ref 1, .ref 1] rfl rfl ?_
  refine m_gfi so1 (m 1 1) rfl hw1 hm1 rfl rfl ?_
  refine f_s [fi (1), fi (m 1 1), .ref 1] rfl rfl ?_
  refine f_iadd rfl ?_
  refine m_pf so1 rfl hw1 hm1 rfl rfl (by omega) (fun hc2 hw2 hm2 => ?_)
  refine f_s [fi (1)] rfl rfl ?_
  exact f_ret2 rfl (Or.inr rfl) ⟨rfl, hw2, hm2⟩)
theorem t14_out {m : Nat → Nat → Int} {x : Int} (x1 : -2147483648 ≤ x) (x2 : x ≤ 2147483647) (hx : ¬ (0 ≤ x ∧ x ≤ 255)) : h_M 14 [.ref 0, fi (x)] m (some (fi (-2))) m := h_M_of (R := ev_r14) rfl (fun hc hw hm => by
  have hL : f_L (lv_args 0 [.ref 0, fi (x)]) [(0, .ref 0), (1, fi (x))] := f_L_of rfl
  generalize lv_args 0 [.ref 0, fi (x)] = L at hL
  show x_W none (1, 0, 2, 1, 10, 1, 21, 0, 0, ev_t14) 0 L [] hc 0 0 _
  refine f_iln 1 rfl hL rfl ?_
  refine f_if rfl (by omega) (fun c1 => ?_) (fun c1 => ?_)
  · have c1 : (x : Int) < (0 : Int) := c1
    refine f_bipush (n := -2) rfl (by decide) ?_
    exact f_ret1 rfl ⟨rfl, hw, hm⟩
  · have c1 : ¬ ((x : Int) < (0 : Int)) := c1
    refine f_iln 1 rfl hL rfl ?_
    refine f_sipush (n := 255) rfl (by decide) ?_
    refine f_ic rfl (by omega) (by omega) (fun c_9 => absurd (show (x : Int) ≤ (255 : Int) from c_9) (by omega)) (fun _ => ?_)
    refine f_bipush (n := -2) rfl (by decide) ?_
    exact f_ret1 rfl ⟨rfl, hw, hm⟩)
theorem t14_full {m : Nat → Nat → Int} (l1 : 0 ≤ m 1 1) (l2 : m 1 1 ≤ 40) {x : Int} (x1 : -2147483648 ≤ x) (x2 : x ≤ 2147483647) (hx : 0 ≤ x ∧ x ≤ 255) (hl : ¬ m 1 1 < 40) : h_M 14 [.ref 0, fi (x)] m (some (fi (-4))) m := h_M_of (R := ev_r14) rfl (fun hc hw hm => by
  have hL : f_L (lv_args 0 [.ref 0, fi (x)]) [(0, .ref 0), (1, fi (x))] := f_L_of rfl
  generalize lv_args 0 [.ref 0, fi (x)] = L at hL
  show x_W none (1, 0, 2, 1, 10, 1, 21, 0, 0, ev_t14) 0 L [] hc 0 0 _
  refine f_iln 1 rfl hL rfl ?_
  refine f_if rfl (by omega) (fun c_9 => absurd (show (x : Int) < (0 : Int) from c_9) (by omega)) (fun _ => ?_)
  refine f_iln 1 rfl hL rfl ?_
  refine f_sipush (n := 255) rfl (by decide) ?_
  refine f_ic rfl (by omega) (by omega) (fun _ => ?_) (fun c_9 => absurd (show (x : Int) ≤ (255 : Int) from (by omega)) c_9)
  refine f_aln 0 rfl hL rfl ?_
  refine m_gfr so0 rfl hw rfl (by decide) ?_
  refine f_iln 1 rfl hL rfl ?_
  refine f_i2c rfl ?_
  rw [f_nar hx.1 (by omega)]
  refine m_k1 (t12_full l1 l2 hl (x := x)) hw hm rfl rfl rfl (m_ar so1 hw rfl) rfl (fun hc1 hw1 hm1 => ?_)
  refine f_if rfl (by decide) (fun _ => ?_) (fun c_9 => absurd (show (0 : Int) = (0 : Int) from (by decide)) c_9)
  refine f_bipush (n := -4) rfl (by decide) ?_
  exact f_ret1 rfl ⟨rfl, hw1, hm1⟩)
theorem t14_ok {m : Nat → Nat → Int} (l1 : 0 ≤ m 1 1) (l2 : m 1 1 ≤ 40) {x : Int} (x1 : -2147483648 ≤ x) (x2 : x ≤ 2147483647) (hx : 0 ≤ x ∧ x ≤ 255) (hl : m 1 1 < 40) : h_M 14 [.ref 0, fi (x)] m (some (fi (m 1 1 + 1))) (up (up m 2 (m 1 1).toNat (x)) 1 1 (m 1 1 + 1)) := h_M_of (R := ev_r14) rfl (fun hc hw hm => by
  have hL : f_L (lv_args 0 [.ref 0, fi (x)]) [(0, .ref 0), (1, fi (x))] := f_L_of rfl
  generalize lv_args 0 [.ref 0, fi (x)] = L at hL
  show x_W none (1, 0, 2, 1, 10, 1, 21, 0, 0, ev_t14) 0 L [] hc 0 0 _
  refine f_iln 1 rfl hL rfl ?_
  refine f_if rfl (by omega) (fun c_9 => absurd (show (x : Int) < (0 : Int) from c_9) (by omega)) (fun _ => ?_)
  refine f_iln 1 rfl hL rfl ?_
  refine f_sipush (n := 255) rfl (by decide) ?_
  refine f_ic rfl (by omega) (by omega) (fun _ => ?_) (fun c_9 => absurd (show (x : Int) ≤ (255 : Int) from (by omega)) c_9)
  refine f_aln 0 rfl hL rfl ?_
  refine m_gfr so0 rfl hw rfl (by decide) ?_
  refine f_iln 1 rfl hL rfl ?_
  refine f_i2c rfl ?_
  rw [f_nar hx.1 (by omega)]
  refine m_k1 (t12_ok l1 l2 hl hx.1 hx.2) hw hm rfl rfl rfl (m_ar so1 hw rfl) rfl (fun hc1 hw1 hm1 => ?_)
  refine f_if rfl (by decide) (fun c_9 => absurd (show (1 : Int) = (0 : Int) from c_9) (by decide)) (fun _ => ?_)
  refine f_aln 0 rfl hL rfl ?_
  refine m_gfr so0 rfl hw1 rfl (by decide) ?_
  refine m_k1 t13 hw1 hm1 rfl rfl rfl (m_ar so1 hw1 rfl) rfl (fun hc2 hw2 hm2 => ?_)
  refine f_goto rfl ?_
  exact f_ret1 rfl ⟨rfl, hw2, hm2⟩)
theorem t16_out {m : Nat → Nat → Int} {x : Int} (x1 : -2147483648 ≤ x) (x2 : x ≤ 2147483647) (hx : ¬ (0 ≤ x ∧ x ≤ 255)) : h_M 16 [.ref 55, fi (x)] m (some (fi (-2))) m := h_M_of (R := ev_r16) rfl (fun hc hw hm => by
  have hL : f_L (lv_args 0 [.ref 55, fi (x)]) [(0, .ref 55), (1, fi (x))] := f_L_of rfl
  generalize lv_args 0 [.ref 55, fi (x)] = L at hL
  show x_W none (1, 0, 2, 1, 11, 1, 25, 0, 0, ev_t16) 0 L [] hc 0 0 _
  refine f_iln 1 rfl hL rfl ?_
  refine f_i2l rfl (by omega) ?_
  refine f_s [fl (0), fl (x)] rfl rfl ?_
  refine f_ldc2 (255) rfl rfl ?_
  refine m_k1 (hM15 x 0 255 (by omega) (by omega) (by omega)) hw hm rfl rfl rfl rfl rfl (fun hc1 hw1 hm1 => ?_)
  refine f_if rfl (by split <;> omega) (fun c_9 => absurd (show ¬ (if 0 ≤ x ∧ x ≤ 255 then 1 else 0 : Int) = (0 : Int) from c_9) (by rw [if_neg hx]; exact fun z => z rfl)) (fun _ => ?_)
  refine f_bipush (n := -2) rfl (by decide) ?_
  exact f_ret1 rfl ⟨rfl, hw1, hm1⟩)
theorem t16_full {m : Nat → Nat → Int} (l1 : 0 ≤ m 55 13) (l2 : m 55 13 ≤ 40) {x : Int} (x1 : -2147483648 ≤ x) (x2 : x ≤ 2147483647) (hx : 0 ≤ x ∧ x ≤ 255) (hl : ¬ m 55 13 < 40) : h_M 16 [.ref 55, fi (x)] m (some (fi (-4))) m := h_M_of (R := ev_r16) rfl (fun hc hw hm => by
  have hL : f_L (lv_args 0 [.ref 55, fi (x)]) [(0, .ref 55), (1, fi (x))] := f_L_of rfl
  generalize lv_args 0 [.ref 55, fi (x)] = L at hL
  show x_W none (1, 0, 2, 1, 11, 1, 25, 0, 0, ev_t16) 0 L [] hc 0 0 _
  refine f_iln 1 rfl hL rfl ?_
  refine f_i2l rfl (by omega) ?_
  refine f_s [fl (0), fl (x)] rfl rfl ?_
  refine f_ldc2 (255) rfl rfl ?_
  refine m_k1 (hM15 x 0 255 (by omega) (by omega) (by omega)) hw hm rfl rfl rfl rfl rfl (fun hc1 hw1 hm1 => ?_)
  refine f_if rfl (by split <;> omega) (fun _ => ?_) (fun c_9 => absurd (show ¬ (if 0 ≤ x ∧ x ≤ 255 then 1 else 0 : Int) = (0 : Int) from (by rw [if_pos hx]; decide)) c_9)
  refine f_aln 0 rfl hL rfl ?_
  refine m_gfi so55 (m 55 13) rfl hw1 hm1 rfl rfl ?_
  refine f_bipush (n := 40) rfl (by decide) ?_
  refine f_ic rfl (by omega) (by omega) (fun c_9 => absurd (show ¬ (m 55 13 : Int) = (40 : Int) from c_9) (by omega)) (fun _ => ?_)
  refine f_bipush (n := -4) rfl (by decide) ?_
  exact f_ret1 rfl ⟨rfl, hw1, hm1⟩)
theorem t16_ok {m : Nat → Nat → Int} (l1 : 0 ≤ m 55 13) (l2 : m 55 13 ≤ 40) {x : Int} (x1 : -2147483648 ≤ x) (x2 : x ≤ 2147483647) (hx : 0 ≤ x ∧ x ≤ 255) (hl : m 55 13 < 40) : h_M 16 [.ref 55, fi (x)] m (some (fi (m 55 13 + 1))) (up (up m 64 (m 55 13).toNat (x)) 55 13 ((m 55 13) + 1)) := h_M_of (R := ev_r16) rfl (fun hc hw hm => by
  have hL : f_L (lv_args 0 [.ref 55, fi (x)]) [(0, .ref 55), (1, fi (x))] := f_L_of rfl
  generalize lv_args 0 [.ref 55, fi (x)] = L at hL
  show x_W none (1, 0, 2, 1, 11, 1, 25, 0, 0, ev_t16) 0 L [] hc 0 0 _
  refine f_iln 1 rfl hL rfl ?_
  refine f_i2l rfl (by omega) ?_
  refine f_s [fl (0), fl (x)] rfl rfl ?_
  refine f_ldc2 (255) rfl rfl ?_
  refine m_k1 (hM15 x 0 255 (by omega) (by omega) (by omega)) hw hm rfl rfl rfl rfl rfl (fun hc1 hw1 hm1 => ?_)
  refine f_if rfl (by split <;> omega) (fun _ => ?_) (fun c_9 => absurd (show ¬ (if 0 ≤ x ∧ x ≤ 255 then 1 else 0 : Int) = (0 : Int) from (by rw [if_pos hx]; decide)) c_9)
  refine f_aln 0 rfl hL rfl ?_
  refine m_gfi so55 (m 55 13) rfl hw1 hm1 rfl rfl ?_
  refine f_bipush (n := 40) rfl (by decide) ?_
  refine f_ic rfl (by omega) (by omega) (fun _ => ?_) (fun c_9 => absurd (show ¬ (m 55 13 : Int) = (40 : Int) from (by omega)) c_9)
  refine f_aln 0 rfl hL rfl ?_
  refine m_gfr so55 rfl hw1 rfl (by decide) ?_
  refine f_aln 0 rfl hL rfl ?_
  refine m_gfi so55 (m 55 13) rfl hw1 hm1 rfl rfl ?_
  refine f_iln 1 rfl hL rfl ?_
  refine m_ias sa64 rfl hw1 hm1 (by omega) (by omega) (by decide) (by omega) (fun hc2 hw2 hm2 => ?_)
  refine f_aln 0 rfl hL rfl ?_
  refine f_s [.ref 55, .ref 55] rfl rfl ?_
  refine m_gfi so55 (m 55 13) rfl hw2 hm2 rfl rfl ?_
  refine f_s [fi (1), fi (m 55 13), .ref 55] rfl rfl ?_
  refine f_iadd rfl ?_
  refine m_pf so55 rfl hw2 hm2 rfl rfl (by omega) (fun hc3 hw3 hm3 => ?_)
  refine f_aln 0 rfl hL rfl ?_
  refine m_gfi so55 ((m 55 13) + 1) rfl hw3 hm3 rfl rfl ?_
  exact f_ret1 rfl ⟨rfl, hw3, hm3⟩)
theorem t17 {m : Nat → Nat → Int} (l1 : 0 ≤ m 1 1) (l2 : m 1 1 ≤ 40) : h_M 17 [.ref 1] m (some (fi (m 1 1))) (up m 1 1 (0)) := h_M_of (R := ev_r17) rfl (fun hc hw hm => by
  have hL : f_L (lv_args 0 [.ref 1]) [(0, .ref 1)] := f_L_of rfl
  generalize lv_args 0 [.ref 1] = L at hL
  show x_W none (1, 0, 2, 0, 9, 0, 0, 0, 0, ev_t17) 0 L [] hc 0 0 _
  refine f_aln 0 rfl hL rfl ?_
  refine m_gfi so1 (m 1 1) rfl hw hm rfl rfl ?_
  refine f_istn [(1, fi (m 1 1)), (0, .ref 1)] rfl (by decide) hL rfl (fun L1 hL1 => ?_)
  refine f_aln 1 rfl hL1 rfl ?_
  refine f_s [fi (0), .ref 1] rfl rfl ?_
  refine m_pf so1 rfl hw hm rfl rfl (by decide) (fun hc1 hw1 hm1 => ?_)
  refine f_iln 0 rfl hL1 rfl ?_
  exact f_ret1 rfl ⟨rfl, hw1, hm1⟩)
theorem t18 {m : Nat → Nat → Int} (l1 : 0 ≤ m 1 1) (l2 : m 1 1 ≤ 40) : h_M 18 [.ref 0] m (some (fi (m 1 1))) (up m 1 1 (0)) := h_M_of (R := ev_r18) rfl (fun hc hw hm => by
  have hL : f_L (lv_args 0 [.ref 0]) [(0, .ref 0)] := f_L_of rfl
  generalize lv_args 0 [.ref 0] = L at hL
  show x_W none (1, 0, 1, 0, 10, 1, 21, 0, 0, ev_t18) 0 L [] hc 0 0 _
  refine f_aln 0 rfl hL rfl ?_
  refine m_gfr so0 rfl hw rfl (by decide) ?_
  refine m_k1 (t17 l1 l2) hw hm rfl rfl rfl (m_ar so1 hw rfl) rfl (fun hc1 hw1 hm1 => ?_)
  exact f_ret1 rfl ⟨rfl, hw1, hm1⟩)
theorem t19 {m : Nat → Nat → Int} (l1 : 0 ≤ m 55 13) (l2 : m 55 13 ≤ 40) : h_M 19 [.ref 55] m (some (fi (m 55 13))) (up m 55 13 (0)) := h_M_of (R := ev_r19) rfl (fun hc hw hm => by
  have hL : f_L (lv_args 0 [.ref 55]) [(0, .ref 55)] := f_L_of rfl
  generalize lv_args 0 [.ref 55] = L at hL
  show x_W none (1, 0, 2, 0, 11, 0, 0, 0, 0, ev_t19) 0 L [] hc 0 0 _
  refine f_aln 0 rfl hL rfl ?_
  refine m_gfi so55 (m 55 13) rfl hw hm rfl rfl ?_
  refine f_istn [(1, fi (m 55 13)), (0, .ref 55)] rfl (by decide) hL rfl (fun L1 hL1 => ?_)
  refine f_aln 1 rfl hL1 rfl ?_
  refine f_s [fi (0), .ref 55] rfl rfl ?_
  refine m_pf so55 rfl hw hm rfl rfl (by decide) (fun hc1 hw1 hm1 => ?_)
  refine f_iln 0 rfl hL1 rfl ?_
  exact f_ret1 rfl ⟨rfl, hw1, hm1⟩)
