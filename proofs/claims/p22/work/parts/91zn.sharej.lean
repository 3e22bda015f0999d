/-! share of the reference; both together -/
def ag69 (m m' : Nat → Nat → Int) : Prop := ∀ q i, q ≠ 66 → q ≠ 69 → ¬ (q = 55 ∧ i = 20) → m' q i = m q i
theorem ag69.b {m m' : Nat → Nat → Int} (e : ag69 m m') (h s : Int) : wb0 m' h s = wb0 m h s := by
  funext p k
  unfold wb0
  rw [e 61 16 (by decide) (by decide) (by decide), e 58 p (by decide) (by decide) (by omega), e 59 p (by decide) (by decide) (by omega), e 60 p (by decide) (by decide) (by omega)]
theorem ag69.r {m m' : Nat → Nat → Int} (e : ag69 m m') : rf0 m' = rf0 m := by
  funext k
  unfold rf0 rmM
  rw [e 56 _ (by decide) (by decide) (by omega)]
theorem ag69.t {m m' : Nat → Nat → Int} (e : ag69 m m') (N : Nat) : thM m' N = thM m N := by
  unfold thM
  rw [e 61 15 (by decide) (by decide) (by decide)]
theorem ag69.w {m m' : Nat → Nat → Int} (e : ag69 m m') {b : Int} {g : Nat → Int} : ag69 m (wyM m' b g) := fun q i h1 h2 h3 => ((if_neg h1).trans (if_neg h3)).trans (e q i h1 h2 h3)
theorem ag69.u {m m' : Nat → Nat → Int} (e : ag69 m m') {k : Nat} {v : Int} : ag69 m (up m' 69 k v) := fun q i h1 h2 h3 => (up_nc h2).trans (e q i h1 h2 h3)
theorem th_s {m : Nat → Nat → Int} {N : Nat} (hN4 : N ≤ 4) (c : Int) : ∀ k : Nat, k < 4 → tB (iA c (thM m N)) (k : Int) = true → k < N := fun k hk h => by
  rw [tB_and _ _ hk, Bool.and_eq_true] at h
  exact thM_s hN4 k hk h.2
theorem t118_s {m m' : Nat → Nat → Int} (e : ag69 m m') {N P : Nat} (hN : m 55 0 = (N : Int)) (hP : m 55 1 = (P : Int)) (hN4 : N ≤ 4) (hP5 : P ≤ 5) {h c : Int} (hh : 0 ≤ h ∧ h ≤ 9) (hR0 : ∀ q i, -2147483648 ≤ m' q i ∧ m' q i ≤ 2147483647) : ∃ b g, h_M 118 [.ref 55, fi (h), fi (iA (c) (thM m N))] m' (some (fi (moM m P h (iA (c) (thM m N))))) (wyM m' b g) := by
  obtain ⟨g, t⟩ := t118_x (m := m') (h := h) (s := iA (c) (thM m N)) ((e 55 0 (by decide) (by decide) (by decide)).trans hN) ((e 55 1 (by decide) (by decide) (by decide)).trans hP) hN4 hP5 iA_r hh hR0 (th_s hN4 c)
  have er : moM m' P h (iA (c) (thM m N)) = moM m P h (iA (c) (thM m N)) := by
    unfold moM
    rw [e.b, e.r]
  rw [er] at t
  exact ⟨_, g, t⟩
def tmM (m : Nat → Nat → Int) (N P : Nat) (k h c : Int) : Int := (fa (onS c) * fa ((N : Int) - 1 - onS c)) * (moM m P h (iA (iO (c) (iS (1) (k))) (thM m N)) - moM m P h (iA (c) (thM m N)))
def shM (m : Nat → Nat → Int) (N P : Nat) (k h : Int) : Nat → Int → Int
  | 0, _ => 0
  | n + 1, c => (if iA (iR (c) (k)) (1) = 1 then 0 else tmM m N P k h c) + shM m N P k h n (c + 1)
theorem onS_4 {c : Int} (hc9 : 0 ≤ c ∧ c < 16) : 0 ≤ onS c ∧ onS c ≤ 4 := by
  have key : ∀ c : Fin 16, 0 ≤ onS ((c.val : Nat) : Int) ∧ onS ((c.val : Nat) : Int) ≤ 4 := by decide +kernel
  have h := key ⟨c.toNat, by omega⟩
  have e : ((c.toNat : Nat) : Int) = c := by omega
  simp only [e] at h
  exact h
theorem mo_r {m : Nat → Nat → Int} {P : Nat} {h s : Int} {e9 : Int} (e : moM m P h s = e9) (r : 0 ≤ e9 ∧ e9 ≤ 5) : 0 ≤ moM m P h s ∧ moM m P h s ≤ 5 := by rw [e]; exact r
theorem t169_0_un {m : Nat → Nat → Int} {N P : Nat} (hN : m 55 0 = (N : Int)) (hP : m 55 1 = (P : Int)) (hN4 : N ≤ 4) (hP5 : P ≤ 5) {k : Int} (rk : -2147483648 ≤ k ∧ k ≤ 2147483647) {h : Int} (rh : -2147483648 ≤ h ∧ h ≤ 2147483647) (h0 : ¬ (0 ≤ k ∧ k < (N : Int))) : h_E 169 [.ref 55, fi (k), fi (h), fi (0)] m (some (fi (-1))) := h_E_of (R := ev_r169) rfl (fun hc hw hm => by
  have hL : f_L (lv_args 0 [.ref 55, fi (k), fi (h), fi (0)]) [(0, .ref 55), (1, fi (k)), (2, fi (h)), (3, fi (0))] := f_L_of rfl
  generalize lv_args 0 [.ref 55, fi (k), fi (h), fi (0)] = L at hL
  show x_W none (1, 0, 7, 3, 11, 5, 118, 0, 0, ev_t169) 0 L [] hc 0 0 _
  have hR := gi_R hm
  have t46' := t46 (m := m) (x := k) (by rw [hN]; omega) (by rw [hN]; omega) rk
  rw [hN] at t46'
  refine f_aln 0 rfl hL rfl ?_
  refine f_iln 1 rfl hL rfl ?_
  refine m_k1 t46' hw hm rfl rfl rfl (m_ar so55 hw rfl) rfl (fun hc1 hw1 hm1 => ?_)
  refine f_if rfl (bI_r _) (fun c_9 => absurd (show ¬ (bI (decide (0 ≤ k ∧ k < (N : Int))) : Int) = (0 : Int) from c_9) (by rw [decide_eq_false h0]; exact fun z => z rfl)) (fun _ => ?_)
  refine f_s [fi (-1)] rfl rfl ?_
  exact f_ret1 rfl (rfl))
theorem t169_0_out {m : Nat → Nat → Int} {N P : Nat} (hN : m 55 0 = (N : Int)) (hP : m 55 1 = (P : Int)) (hN4 : N ≤ 4) (hP5 : P ≤ 5) {k : Int} (rk : -2147483648 ≤ k ∧ k ≤ 2147483647) {h : Int} (rh : -2147483648 ≤ h ∧ h ≤ 2147483647) (hk : 0 ≤ k ∧ k < (N : Int)) (h0 : ¬ (0 ≤ h ∧ h ≤ 9)) : h_E 169 [.ref 55, fi (k), fi (h), fi (0)] m (some (fi (-2))) := h_E_of (R := ev_r169) rfl (fun hc hw hm => by
  have hL : f_L (lv_args 0 [.ref 55, fi (k), fi (h), fi (0)]) [(0, .ref 55), (1, fi (k)), (2, fi (h)), (3, fi (0))] := f_L_of rfl
  generalize lv_args 0 [.ref 55, fi (k), fi (h), fi (0)] = L at hL
  show x_W none (1, 0, 7, 3, 11, 5, 118, 0, 0, ev_t169) 0 L [] hc 0 0 _
  have hR := gi_R hm
  have t46' := t46 (m := m) (x := k) (by rw [hN]; omega) (by rw [hN]; omega) rk
  rw [hN] at t46'
  refine f_aln 0 rfl hL rfl ?_
  refine f_iln 1 rfl hL rfl ?_
  refine m_k1 t46' hw hm rfl rfl rfl (m_ar so55 hw rfl) rfl (fun hc1 hw1 hm1 => ?_)
  refine f_if rfl (bI_r _) (fun _ => ?_) (fun c_9 => absurd (show ¬ (bI (decide (0 ≤ k ∧ k < (N : Int))) : Int) = (0 : Int) from (by rw [decide_eq_true hk]; decide)) c_9)
  refine f_iln 2 rfl hL rfl ?_
  refine f_i2l rfl rh ?_
  refine f_s [fl (0), fl (h)] rfl rfl ?_
  refine f_ldc2 (9) rfl rfl ?_
  refine m_k1 (t_in h 0 9 (by omega) (by decide) (by decide)) hw1 hm1 rfl rfl rfl rfl rfl (fun hc2 hw2 hm2 => ?_)
  refine f_if rfl (bI_r _) (fun c_9 => absurd (show ¬ (bI (decide (0 ≤ h ∧ h ≤ 9)) : Int) = (0 : Int) from c_9) (by rw [decide_eq_false h0]; exact fun z => z rfl)) (fun _ => ?_)
  refine f_bipush (n := -2) rfl (by decide) ?_
  exact f_ret1 rfl (rfl))
set_option maxHeartbeats 1000000 in
theorem t169_0_ok {m : Nat → Nat → Int} {N P : Nat} (hN : m 55 0 = (N : Int)) (hP : m 55 1 = (P : Int)) (hN4 : N ≤ 4) (hP5 : P ≤ 5) {k : Int} (rk : -2147483648 ≤ k ∧ k ≤ 2147483647) {h : Int} (rh : -2147483648 ≤ h ∧ h ≤ 2147483647) (hk : 0 ≤ k ∧ k < (N : Int)) (hh : 0 ≤ h ∧ h ≤ 9) (hTr : 0 ≤ shM m N P k h (2 ^ N) 0 ∧ shM m N P k h (2 ^ N) 0 ≤ 1000) (mR : ∀ c : Int, (0 ≤ c ∧ c < ((2 ^ N : Nat) : Int)) → 0 ≤ moM m P h (iA (c) (thM m N)) ∧ moM m P h (iA (c) (thM m N)) ≤ 5) : h_E 169 [.ref 55, fi (k), fi (h), fi (0)] m (some (fi ((fa ((N : Int))).tdiv (eG (shM m N P k h (2 ^ N) 0) (fa ((N : Int))))))) := h_E_of (R := ev_r169) rfl (fun hc hw hm => by
  have hL : f_L (lv_args 0 [.ref 55, fi (k), fi (h), fi (0)]) [(0, .ref 55), (1, fi (k)), (2, fi (h)), (3, fi (0))] := f_L_of rfl
  generalize lv_args 0 [.ref 55, fi (k), fi (h), fi (0)] = L at hL
  show x_W none (1, 0, 7, 3, 11, 5, 118, 0, 0, ev_t169) 0 L [] hc 0 0 _
  have hR := gi_R hm
  have eS := iS_N hN4
  have hK : ∀ (n : Nat) (hc : ev_H) (m' : Nat → Nat → Int) (c s : Int) (L : ev_L), y_in yGw hc → gi hc = m' → ag69 m m' → (∀ j : Nat, j < 2 ^ N → m' 69 j = moM m P h (iA ((j : Int)) (thM m N))) → (0 ≤ c ∧ c + n = ((2 ^ N : Nat) : Int)) → s + shM m N P k h n c = shM m N P k h (2 ^ N) 0 → f_L L [(5, fi (c)), (4, fi (s)), (0, .ref 55), (1, fi (k)), (2, fi (h)), (3, fi (0))] → x_W none (1, 0, 7, 3, 11, 5, 118, 0, 0, ev_t169) 70 L [] hc 0 0 (fun r' _ => r' = some (fi ((fa ((N : Int))).tdiv (eG (shM m N P k h (2 ^ N) 0) (fa ((N : Int))))))) := by
    intro n
    induction n with
    | zero =>
      intro hc m' c s L hw hm ha hj hc9 hT hL
      have hR9 := gi_R hm
      refine f_il 0 rfl hL rfl ?_
      refine f_s [fi (1), fi (c)] rfl rfl ?_
      refine f_aln 2 rfl hL rfl ?_
      refine m_gfi so55 ((N : Int)) rfl hw hm rfl ((ha 55 0 (by decide) (by decide) (by decide)).trans hN) ?_
      refine b_ishl rfl ?_
      refine b_eq (x := ((2 ^ N : Nat) : Int)) eS.1 ?_
      refine f_ic rfl (by omega) (by omega) (fun _ => ?_) (fun c_9 => absurd (show (((2 ^ N : Nat) : Int) : Int) ≤ (c : Int) from (by omega)) c_9)
      have eT : s = shM m N P k h (2 ^ N) 0 := by rw [← hT]; show s = s + 0; omega
      refine f_il 1 rfl hL rfl ?_
      refine f_aln 2 rfl hL rfl ?_
      refine m_gfi so55 ((N : Int)) rfl hw hm rfl ((ha 55 0 (by decide) (by decide) (by decide)).trans hN) ?_
      refine m_k1 (t167 (n := (N : Int)) (by omega)) hw hm rfl rfl rfl rfl rfl (fun hc1 hw1 hm1 => ?_)
      have fr := fa_r (N : Int)
      obtain ⟨g1, g2⟩ := eG_ok (a := s) (b := fa (N : Int)) (by omega) fr
      have gr := eu_r 40 s (fa (N : Int)) (eG s (fa (N : Int))) (by omega) (by omega) (by omega) (by omega) g1
      refine m_k1 (t168 (a := s) (b := fa (N : Int)) (g := eG s (fa (N : Int))) (by omega) (by omega) (by omega) (by omega) g1) hw1 hm1 rfl rfl rfl rfl rfl (fun hc2 hw2 hm2 => ?_)
      refine f_ist [(5, fi (eG s (fa (N : Int)))), (4, fi (s)), (0, .ref 55), (1, fi (k)), (2, fi (h)), (3, fi (0))] rfl (by decide) hL rfl (fun L1 hL1 => ?_)
      refine f_iln 5 rfl hL1 rfl ?_
      refine f_if rfl (by decide) (fun _ => ?_) (fun c_9 => absurd (show (0 : Int) = (0 : Int) from (by decide)) c_9)
      refine f_aln 2 rfl hL1 rfl ?_
      refine m_gfi so55 ((N : Int)) rfl hw2 hm2 rfl ((ha 55 0 (by decide) (by decide) (by decide)).trans hN) ?_
      refine m_k1 (t167 (n := (N : Int)) (by omega)) hw2 hm2 rfl rfl rfl rfl rfl (fun hc3 hw3 hm3 => ?_)
      refine f_il 0 rfl hL1 rfl ?_
      refine f_idiv rfl (by omega) (by omega) (by omega) (by omega) ?_
      exact f_ret1 rfl (by rw [eT])
    | succ n ih =>
      intro hc m' c s L hw hm ha hj hc9 hT hL
      have hR9 := gi_R hm
      refine f_il 0 rfl hL rfl ?_
      refine f_s [fi (1), fi (c)] rfl rfl ?_
      refine f_aln 2 rfl hL rfl ?_
      refine m_gfi so55 ((N : Int)) rfl hw hm rfl ((ha 55 0 (by decide) (by decide) (by decide)).trans hN) ?_
      refine b_ishl rfl ?_
      refine b_eq (x := ((2 ^ N : Nat) : Int)) eS.1 ?_
      refine f_ic rfl (by omega) (by omega) (fun c_9 => absurd (show (((2 ^ N : Nat) : Int) : Int) ≤ (c : Int) from c_9) (by omega)) (fun _ => ?_)
      refine f_il 0 rfl hL rfl ?_
      refine f_iln 3 rfl hL rfl ?_
      refine m_k1 (t73 (s := c) (k := k) (by omega) (by omega)) hw hm rfl rfl rfl rfl rfl (fun hc4 hw4 hm4 => ?_)
      refine f_if rfl (bI_r _) (fun c1 => ?_) (fun c1 => ?_)
      · have c1 : ¬ (bI (decide (iA (iR (c) (k)) (1) = 1)) : Int) = (0 : Int) := c1
        have c1 : iA (iR (c) (k)) (1) = 1 := bI_t c1
        refine f_inc 0 [(5, fi (c + 1)), (4, fi (s)), (0, .ref 55), (1, fi (k)), (2, fi (h)), (3, fi (0))] rfl (by decide) hL rfl rfl (fun L2 hL2 => ?_)
        refine f_goto rfl ?_
        have e9 : shM m N P k h (n + 1) c = 0 + shM m N P k h n (c + 1) := by
          show (if iA (iR (c) (k)) (1) = 1 then 0 else tmM m N P k h c) + _ = _
          rw [if_pos c1]
        exact ih hc4 m' _ _ _ hw4 hm4 ha hj (by omega) (by rw [← hT, e9]; omega) (hL2.sel [0, 1, 2, 3, 4, 5] rfl)
      · have c1 : ¬ (¬ (bI (decide (iA (iR (c) (k)) (1) = 1)) : Int) = (0 : Int)) := c1
        have c1 : ¬ (iA (iR (c) (k)) (1) = 1) := bI_n c1
        obtain ⟨q1, q2, q3⟩ := shK (N := N) (k := k.toNat) hN4 (by omega) (c := c) (by omega)
        rw [show ((k.toNat : Nat) : Int) = k by omega, eS.1] at q3
        obtain ⟨b1, b2⟩ := q3 (by omega) c1
        rw [q2] at b1
        have j1 := hj (iO (c) (iS (1) (k))).toNat (by omega)
        rw [show (((iO (c) (iS (1) (k))).toNat : Nat) : Int) = iO (c) (iS (1) (k)) by omega] at j1
        have j2 := hj c.toNat (by omega)
        rw [show ((c.toNat : Nat) : Int) = c by omega] at j2
        refine f_il 0 rfl hL rfl ?_
        refine m_k1 (t75 (s := c) (by omega)) hw4 hm4 rfl rfl rfl rfl rfl (fun hc5 hw5 hm5 => ?_)
        refine m_k1 (t167 (n := onS c) (by omega)) hw5 hm5 rfl rfl rfl rfl rfl (fun hc6 hw6 hm6 => ?_)
        refine f_aln 2 rfl hL rfl ?_
        refine m_gfi so55 ((N : Int)) rfl hw6 hm6 rfl ((ha 55 0 (by decide) (by decide) (by decide)).trans hN) ?_
        refine f_s [fi (1), fi ((N : Int)), fi (fa (onS c))] rfl rfl ?_
        refine f_isub rfl ?_
        refine f_il 0 rfl hL rfl ?_
        refine m_k1 (t75 (s := c) (by omega)) hw6 hm6 rfl rfl rfl rfl rfl (fun hc7 hw7 hm7 => ?_)
        refine f_isub rfl ?_
        refine m_k1 (t167 (n := ((N : Int) - 1) - (onS c)) (by omega)) hw7 hm7 rfl rfl rfl rfl rfl (fun hc8 hw8 hm8 => ?_)
        refine f_imul rfl ?_
        refine f_ist [(6, fi ((fa (onS c)) * (fa (((N : Int) - 1) - (onS c))))), (5, fi (c)), (4, fi (s)), (0, .ref 55), (1, fi (k)), (2, fi (h)), (3, fi (0))] rfl (by decide) hL rfl (fun L3 hL3 => ?_)
        refine f_il 2 rfl hL3 rfl ?_
        refine f_il 0 rfl hL3 rfl ?_
        refine f_aln 3 rfl hL3 rfl ?_
        refine m_gfr so55 rfl hw8 rfl (by decide) ?_
        refine f_il 1 rfl hL3 rfl ?_
        refine f_s [fi (1), fi (c), .ref 69, fi ((fa (onS c)) * (fa (((N : Int) - 1) - (onS c)))), fi (s)] rfl rfl ?_
        refine f_iln 4 rfl hL3 rfl ?_
        refine b_ishl rfl ?_
        refine b_ior rfl ?_
        refine m_ia sa69 (moM m P h (iA (iO (c) (iS (1) (k))) (thM m N))) rfl hw8 hm8 (by omega) (by omega) (by decide) j1 ?_
        refine f_aln 3 rfl hL3 rfl ?_
        refine m_gfr so55 rfl hw8 rfl (by decide) ?_
        refine f_il 1 rfl hL3 rfl ?_
        refine m_ia sa69 (moM m P h (iA (c) (thM m N))) rfl hw8 hm8 (by omega) (by omega) (by decide) j2 ?_
        refine f_isub rfl ?_
        refine f_imul rfl ?_
        refine f_iadd rfl ?_
        refine f_ist [(4, fi (s + (((fa (onS c)) * (fa (((N : Int) - 1) - (onS c)))) * ((moM m P h (iA (iO (c) (iS (1) (k))) (thM m N))) - (moM m P h (iA (c) (thM m N))))))), (6, fi ((fa (onS c)) * (fa (((N : Int) - 1) - (onS c))))), (5, fi (c)), (0, .ref 55), (1, fi (k)), (2, fi (h)), (3, fi (0))] rfl (by decide) hL3 rfl (fun L4 hL4 => ?_)
        refine f_inc 2 [(5, fi (c + 1)), (4, fi (s + (((fa (onS c)) * (fa (((N : Int) - 1) - (onS c)))) * ((moM m P h (iA (iO (c) (iS (1) (k))) (thM m N))) - (moM m P h (iA (c) (thM m N))))))), (6, fi ((fa (onS c)) * (fa (((N : Int) - 1) - (onS c))))), (0, .ref 55), (1, fi (k)), (2, fi (h)), (3, fi (0))] rfl (by decide) hL4 rfl rfl (fun L5 hL5 => ?_)
        refine f_goto rfl ?_
        have e9 : shM m N P k h (n + 1) c = tmM m N P k h c + shM m N P k h n (c + 1) := by
          show (if iA (iR (c) (k)) (1) = 1 then 0 else tmM m N P k h c) + _ = _
          rw [if_neg c1]
        exact ih hc8 m' _ (s + tmM m N P k h c) _ hw8 hm8 ha hj (by omega) (by rw [← hT, e9]; omega) (hL5.sel [0, 1, 3, 4, 5, 6] rfl)
  have hJ : ∀ (n : Nat) (hc : ev_H) (m' : Nat → Nat → Int) (c : Int) (L : ev_L), y_in yGw hc → gi hc = m' → ag69 m m' → (∀ j : Nat, (j : Int) < c → m' 69 j = moM m P h (iA ((j : Int)) (thM m N))) → (0 ≤ c ∧ c + n = ((2 ^ N : Nat) : Int)) → f_L L [(4, fi (c)), (0, .ref 55), (1, fi (k)), (2, fi (h)), (3, fi (0))] → x_W none (1, 0, 7, 3, 11, 5, 118, 0, 0, ev_t169) 28 L [] hc 0 0 (fun r' _ => r' = some (fi ((fa ((N : Int))).tdiv (eG (shM m N P k h (2 ^ N) 0) (fa ((N : Int))))))) := by
    intro n
    induction n with
    | zero =>
      intro hc m' c L hw hm ha hj hc9 hL
      have hR9 := gi_R hm
      refine f_il 0 rfl hL rfl ?_
      refine f_s [fi (1), fi (c)] rfl rfl ?_
      refine f_aln 1 rfl hL rfl ?_
      refine m_gfi so55 ((N : Int)) rfl hw hm rfl ((ha 55 0 (by decide) (by decide) (by decide)).trans hN) ?_
      refine b_ishl rfl ?_
      refine b_eq (x := ((2 ^ N : Nat) : Int)) eS.1 ?_
      refine f_ic rfl (by omega) (by omega) (fun _ => ?_) (fun c_9 => absurd (show (((2 ^ N : Nat) : Int) : Int) ≤ (c : Int) from (by omega)) c_9)
      refine f_s [fi (0)] rfl rfl ?_
      refine f_ist [(4, fi (0)), (0, .ref 55), (1, fi (k)), (2, fi (h)), (3, fi (0))] rfl (by decide) hL rfl (fun L6 hL6 => ?_)
      refine f_s [fi (0)] rfl rfl ?_
      refine f_ist [(5, fi (0)), (4, fi (0)), (0, .ref 55), (1, fi (k)), (2, fi (h)), (3, fi (0))] rfl (by decide) hL6 rfl (fun L7 hL7 => ?_)
      exact hK (2 ^ N) hc m' 0 0 _ hw hm ha (fun j h9 => hj j (by omega)) (by omega) (by omega) (hL7.sel [0, 1, 2, 3, 4, 5] rfl)
    | succ n ih =>
      intro hc m' c L hw hm ha hj hc9 hL
      have hR9 := gi_R hm
      refine f_il 0 rfl hL rfl ?_
      refine f_s [fi (1), fi (c)] rfl rfl ?_
      refine f_aln 1 rfl hL rfl ?_
      refine m_gfi so55 ((N : Int)) rfl hw hm rfl ((ha 55 0 (by decide) (by decide) (by decide)).trans hN) ?_
      refine b_ishl rfl ?_
      refine b_eq (x := ((2 ^ N : Nat) : Int)) eS.1 ?_
      refine f_ic rfl (by omega) (by omega) (fun c_9 => absurd (show (((2 ^ N : Nat) : Int) : Int) ≤ (c : Int) from c_9) (by omega)) (fun _ => ?_)
      refine f_aln 1 rfl hL rfl ?_
      refine m_gfr so55 rfl hw rfl (by decide) ?_
      refine f_il 0 rfl hL rfl ?_
      refine f_aln 1 rfl hL rfl ?_
      refine f_iln 3 rfl hL rfl ?_
      refine f_il 0 rfl hL rfl ?_
      refine f_aln 1 rfl hL rfl ?_
      have t9 := t114 (m := m') (N := N) ((ha 55 0 (by decide) (by decide) (by decide)).trans hN)
      rw [ha.t] at t9
      refine m_k1 t9 hw hm rfl rfl rfl (m_ar so55 hw rfl) rfl (fun hc9 hw9 hm9 => ?_)
      refine b_iand rfl ?_
      obtain ⟨b8, g8, t8⟩ := t118_s (c := c) ha hN hP hN4 hP5 hh hR9
      refine m_k1 t8 hw9 hm9 rfl rfl rfl (m_ar so55 hw9 rfl) rfl (fun hc10 hw10 hm10 => ?_)
      have rc9 := mR c (by omega)
      refine m_ias sa69 rfl hw10 hm10 (by omega) (by omega) (by decide) (by omega) (fun hc11 hw11 hm11 => ?_)
      refine f_inc 0 [(4, fi (c + 1)), (0, .ref 55), (1, fi (k)), (2, fi (h)), (3, fi (0))] rfl (by decide) hL rfl rfl (fun L8 hL8 => ?_)
      refine f_goto rfl ?_
      refine ih hc11 _ _ _ hw11 hm11 ha.w.u (fun j h9 => ?_) (by omega) (hL8.sel [0, 1, 2, 3, 4] rfl)
      by_cases h8 : (j : Int) < c
      · rw [up_ne (by omega)]
        exact ((if_neg (by decide)).trans (if_neg (by omega))).trans (hj j h8)
      · have h7 : j = (c).toNat := by omega
        subst h7
        rw [up_eq, show ((((c).toNat : Nat) : Int)) = c by omega]
  have t46' := t46 (m := m) (x := k) (by rw [hN]; omega) (by rw [hN]; omega) rk
  rw [hN] at t46'
  refine f_aln 0 rfl hL rfl ?_
  refine f_iln 1 rfl hL rfl ?_
  refine m_k1 t46' hw hm rfl rfl rfl (m_ar so55 hw rfl) rfl (fun hc12 hw12 hm12 => ?_)
  refine f_if rfl (bI_r _) (fun _ => ?_) (fun c_9 => absurd (show ¬ (bI (decide (0 ≤ k ∧ k < (N : Int))) : Int) = (0 : Int) from (by rw [decide_eq_true hk]; decide)) c_9)
  refine f_iln 2 rfl hL rfl ?_
  refine f_i2l rfl rh ?_
  refine f_s [fl (0), fl (h)] rfl rfl ?_
  refine f_ldc2 (9) rfl rfl ?_
  refine m_k1 (t_in h 0 9 (by omega) (by decide) (by decide)) hw12 hm12 rfl rfl rfl rfl rfl (fun hc13 hw13 hm13 => ?_)
  refine f_if rfl (bI_r _) (fun _ => ?_) (fun c_9 => absurd (show ¬ (bI (decide (0 ≤ h ∧ h ≤ 9)) : Int) = (0 : Int) from (by rw [decide_eq_true hh]; decide)) c_9)
  refine f_s [fi (0)] rfl rfl ?_
  refine f_ist [(4, fi (0)), (0, .ref 55), (1, fi (k)), (2, fi (h)), (3, fi (0))] rfl (by decide) hL rfl (fun L9 hL9 => ?_)
  exact hJ (2 ^ N) hc13 m 0 _ hw13 hm13 (fun _ _ _ _ _ => rfl) (fun j h9 => absurd h9 (by omega)) (by omega) (hL9.sel [0, 1, 2, 3, 4] rfl))
theorem t169_1_un {m : Nat → Nat → Int} {N P : Nat} (hN : m 55 0 = (N : Int)) (hP : m 55 1 = (P : Int)) (hN4 : N ≤ 4) (hP5 : P ≤ 5) {k : Int} (rk : -2147483648 ≤ k ∧ k ≤ 2147483647) {h : Int} (rh : -2147483648 ≤ h ∧ h ≤ 2147483647) (h0 : ¬ (0 ≤ k ∧ k < (N : Int))) : h_E 169 [.ref 55, fi (k), fi (h), fi (1)] m (some (fi (-1))) := h_E_of (R := ev_r169) rfl (fun hc hw hm => by
  have hL : f_L (lv_args 0 [.ref 55, fi (k), fi (h), fi (1)]) [(0, .ref 55), (1, fi (k)), (2, fi (h)), (3, fi (1))] := f_L_of rfl
  generalize lv_args 0 [.ref 55, fi (k), fi (h), fi (1)] = L at hL
  show x_W none (1, 0, 7, 3, 11, 5, 118, 0, 0, ev_t169) 0 L [] hc 0 0 _
  have hR := gi_R hm
  have t46' := t46 (m := m) (x := k) (by rw [hN]; omega) (by rw [hN]; omega) rk
  rw [hN] at t46'
  refine f_aln 0 rfl hL rfl ?_
  refine f_iln 1 rfl hL rfl ?_
  refine m_k1 t46' hw hm rfl rfl rfl (m_ar so55 hw rfl) rfl (fun hc1 hw1 hm1 => ?_)
  refine f_if rfl (bI_r _) (fun c_9 => absurd (show ¬ (bI (decide (0 ≤ k ∧ k < (N : Int))) : Int) = (0 : Int) from c_9) (by rw [decide_eq_false h0]; exact fun z => z rfl)) (fun _ => ?_)
  refine f_s [fi (-1)] rfl rfl ?_
  exact f_ret1 rfl (rfl))
theorem t169_1_out {m : Nat → Nat → Int} {N P : Nat} (hN : m 55 0 = (N : Int)) (hP : m 55 1 = (P : Int)) (hN4 : N ≤ 4) (hP5 : P ≤ 5) {k : Int} (rk : -2147483648 ≤ k ∧ k ≤ 2147483647) {h : Int} (rh : -2147483648 ≤ h ∧ h ≤ 2147483647) (hk : 0 ≤ k ∧ k < (N : Int)) (h0 : ¬ (0 ≤ h ∧ h ≤ 9)) : h_E 169 [.ref 55, fi (k), fi (h), fi (1)] m (some (fi (-2))) := h_E_of (R := ev_r169) rfl (fun hc hw hm => by
  have hL : f_L (lv_args 0 [.ref 55, fi (k), fi (h), fi (1)]) [(0, .ref 55), (1, fi (k)), (2, fi (h)), (3, fi (1))] := f_L_of rfl
  generalize lv_args 0 [.ref 55, fi (k), fi (h), fi (1)] = L at hL
  show x_W none (1, 0, 7, 3, 11, 5, 118, 0, 0, ev_t169) 0 L [] hc 0 0 _
  have hR := gi_R hm
  have t46' := t46 (m := m) (x := k) (by rw [hN]; omega) (by rw [hN]; omega) rk
  rw [hN] at t46'
  refine f_aln 0 rfl hL rfl ?_
  refine f_iln 1 rfl hL rfl ?_
  refine m_k1 t46' hw hm rfl rfl rfl (m_ar so55 hw rfl) rfl (fun hc1 hw1 hm1 => ?_)
  refine f_if rfl (bI_r _) (fun _ => ?_) (fun c_9 => absurd (show ¬ (bI (decide (0 ≤ k ∧ k < (N : Int))) : Int) = (0 : Int) from (by rw [decide_eq_true hk]; decide)) c_9)
  refine f_iln 2 rfl hL rfl ?_
  refine f_i2l rfl rh ?_
  refine f_s [fl (0), fl (h)] rfl rfl ?_
  refine f_ldc2 (9) rfl rfl ?_
  refine m_k1 (t_in h 0 9 (by omega) (by decide) (by decide)) hw1 hm1 rfl rfl rfl rfl rfl (fun hc2 hw2 hm2 => ?_)
  refine f_if rfl (bI_r _) (fun c_9 => absurd (show ¬ (bI (decide (0 ≤ h ∧ h ≤ 9)) : Int) = (0 : Int) from c_9) (by rw [decide_eq_false h0]; exact fun z => z rfl)) (fun _ => ?_)
  refine f_bipush (n := -2) rfl (by decide) ?_
  exact f_ret1 rfl (rfl))
set_option maxHeartbeats 1000000 in
theorem t169_1_ok {m : Nat → Nat → Int} {N P : Nat} (hN : m 55 0 = (N : Int)) (hP : m 55 1 = (P : Int)) (hN4 : N ≤ 4) (hP5 : P ≤ 5) {k : Int} (rk : -2147483648 ≤ k ∧ k ≤ 2147483647) {h : Int} (rh : -2147483648 ≤ h ∧ h ≤ 2147483647) (hk : 0 ≤ k ∧ k < (N : Int)) (hh : 0 ≤ h ∧ h ≤ 9) (hTr : 0 ≤ shM m N P k h (2 ^ N) 0 ∧ shM m N P k h (2 ^ N) 0 ≤ 1000) (mR : ∀ c : Int, (0 ≤ c ∧ c < ((2 ^ N : Nat) : Int)) → 0 ≤ moM m P h (iA (c) (thM m N)) ∧ moM m P h (iA (c) (thM m N)) ≤ 5) : h_E 169 [.ref 55, fi (k), fi (h), fi (1)] m (some (fi ((shM m N P k h (2 ^ N) 0).tdiv (eG (shM m N P k h (2 ^ N) 0) (fa ((N : Int))))))) := h_E_of (R := ev_r169) rfl (fun hc hw hm => by
  have hL : f_L (lv_args 0 [.ref 55, fi (k), fi (h), fi (1)]) [(0, .ref 55), (1, fi (k)), (2, fi (h)), (3, fi (1))] := f_L_of rfl
  generalize lv_args 0 [.ref 55, fi (k), fi (h), fi (1)] = L at hL
  show x_W none (1, 0, 7, 3, 11, 5, 118, 0, 0, ev_t169) 0 L [] hc 0 0 _
  have hR := gi_R hm
  have eS := iS_N hN4
  have hK : ∀ (n : Nat) (hc : ev_H) (m' : Nat → Nat → Int) (c s : Int) (L : ev_L), y_in yGw hc → gi hc = m' → ag69 m m' → (∀ j : Nat, j < 2 ^ N → m' 69 j = moM m P h (iA ((j : Int)) (thM m N))) → (0 ≤ c ∧ c + n = ((2 ^ N : Nat) : Int)) → s + shM m N P k h n c = shM m N P k h (2 ^ N) 0 → f_L L [(5, fi (c)), (4, fi (s)), (0, .ref 55), (1, fi (k)), (2, fi (h)), (3, fi (1))] → x_W none (1, 0, 7, 3, 11, 5, 118, 0, 0, ev_t169) 70 L [] hc 0 0 (fun r' _ => r' = some (fi ((shM m N P k h (2 ^ N) 0).tdiv (eG (shM m N P k h (2 ^ N) 0) (fa ((N : Int))))))) := by
    intro n
    induction n with
    | zero =>
      intro hc m' c s L hw hm ha hj hc9 hT hL
      have hR9 := gi_R hm
      refine f_il 0 rfl hL rfl ?_
      refine f_s [fi (1), fi (c)] rfl rfl ?_
      refine f_aln 2 rfl hL rfl ?_
      refine m_gfi so55 ((N : Int)) rfl hw hm rfl ((ha 55 0 (by decide) (by decide) (by decide)).trans hN) ?_
      refine b_ishl rfl ?_
      refine b_eq (x := ((2 ^ N : Nat) : Int)) eS.1 ?_
      refine f_ic rfl (by omega) (by omega) (fun _ => ?_) (fun c_9 => absurd (show (((2 ^ N : Nat) : Int) : Int) ≤ (c : Int) from (by omega)) c_9)
      have eT : s = shM m N P k h (2 ^ N) 0 := by rw [← hT]; show s = s + 0; omega
      refine f_il 1 rfl hL rfl ?_
      refine f_aln 2 rfl hL rfl ?_
      refine m_gfi so55 ((N : Int)) rfl hw hm rfl ((ha 55 0 (by decide) (by decide) (by decide)).trans hN) ?_
      refine m_k1 (t167 (n := (N : Int)) (by omega)) hw hm rfl rfl rfl rfl rfl (fun hc1 hw1 hm1 => ?_)
      have fr := fa_r (N : Int)
      obtain ⟨g1, g2⟩ := eG_ok (a := s) (b := fa (N : Int)) (by omega) fr
      have gr := eu_r 40 s (fa (N : Int)) (eG s (fa (N : Int))) (by omega) (by omega) (by omega) (by omega) g1
      refine m_k1 (t168 (a := s) (b := fa (N : Int)) (g := eG s (fa (N : Int))) (by omega) (by omega) (by omega) (by omega) g1) hw1 hm1 rfl rfl rfl rfl rfl (fun hc2 hw2 hm2 => ?_)
      refine f_ist [(5, fi (eG s (fa (N : Int)))), (4, fi (s)), (0, .ref 55), (1, fi (k)), (2, fi (h)), (3, fi (1))] rfl (by decide) hL rfl (fun L1 hL1 => ?_)
      refine f_iln 5 rfl hL1 rfl ?_
      refine f_if rfl (by decide) (fun c_9 => absurd (show (1 : Int) = (0 : Int) from c_9) (by decide)) (fun _ => ?_)
      refine f_il 1 rfl hL1 rfl ?_
      refine f_il 0 rfl hL1 rfl ?_
      refine f_idiv rfl (by omega) (by omega) (by omega) (by omega) ?_
      refine f_goto rfl ?_
      exact f_ret1 rfl (by rw [eT])
    | succ n ih =>
      intro hc m' c s L hw hm ha hj hc9 hT hL
      have hR9 := gi_R hm
      refine f_il 0 rfl hL rfl ?_
      refine f_s [fi (1), fi (c)] rfl rfl ?_
      refine f_aln 2 rfl hL rfl ?_
      refine m_gfi so55 ((N : Int)) rfl hw hm rfl ((ha 55 0 (by decide) (by decide) (by decide)).trans hN) ?_
      refine b_ishl rfl ?_
      refine b_eq (x := ((2 ^ N : Nat) : Int)) eS.1 ?_
      refine f_ic rfl (by omega) (by omega) (fun c_9 => absurd (show (((2 ^ N : Nat) : Int) : Int) ≤ (c : Int) from c_9) (by omega)) (fun _ => ?_)
      refine f_il 0 rfl hL rfl ?_
      refine f_iln 3 rfl hL rfl ?_
      refine m_k1 (t73 (s := c) (k := k) (by omega) (by omega)) hw hm rfl rfl rfl rfl rfl (fun hc3 hw3 hm3 => ?_)
      refine f_if rfl (bI_r _) (fun c1 => ?_) (fun c1 => ?_)
      · have c1 : ¬ (bI (decide (iA (iR (c) (k)) (1) = 1)) : Int) = (0 : Int) := c1
        have c1 : iA (iR (c) (k)) (1) = 1 := bI_t c1
        refine f_inc 0 [(5, fi (c + 1)), (4, fi (s)), (0, .ref 55), (1, fi (k)), (2, fi (h)), (3, fi (1))] rfl (by decide) hL rfl rfl (fun L2 hL2 => ?_)
        refine f_goto rfl ?_
        have e9 : shM m N P k h (n + 1) c = 0 + shM m N P k h n (c + 1) := by
          show (if iA (iR (c) (k)) (1) = 1 then 0 else tmM m N P k h c) + _ = _
          rw [if_pos c1]
        exact ih hc3 m' _ _ _ hw3 hm3 ha hj (by omega) (by rw [← hT, e9]; omega) (hL2.sel [0, 1, 2, 3, 4, 5] rfl)
      · have c1 : ¬ (¬ (bI (decide (iA (iR (c) (k)) (1) = 1)) : Int) = (0 : Int)) := c1
        have c1 : ¬ (iA (iR (c) (k)) (1) = 1) := bI_n c1
        obtain ⟨q1, q2, q3⟩ := shK (N := N) (k := k.toNat) hN4 (by omega) (c := c) (by omega)
        rw [show ((k.toNat : Nat) : Int) = k by omega, eS.1] at q3
        obtain ⟨b1, b2⟩ := q3 (by omega) c1
        rw [q2] at b1
        have j1 := hj (iO (c) (iS (1) (k))).toNat (by omega)
        rw [show (((iO (c) (iS (1) (k))).toNat : Nat) : Int) = iO (c) (iS (1) (k)) by omega] at j1
        have j2 := hj c.toNat (by omega)
        rw [show ((c.toNat : Nat) : Int) = c by omega] at j2
        refine f_il 0 rfl hL rfl ?_
        refine m_k1 (t75 (s := c) (by omega)) hw3 hm3 rfl rfl rfl rfl rfl (fun hc4 hw4 hm4 => ?_)
        refine m_k1 (t167 (n := onS c) (by omega)) hw4 hm4 rfl rfl rfl rfl rfl (fun hc5 hw5 hm5 => ?_)
        refine f_aln 2 rfl hL rfl ?_
        refine m_gfi so55 ((N : Int)) rfl hw5 hm5 rfl ((ha 55 0 (by decide) (by decide) (by decide)).trans hN) ?_
        refine f_s [fi (1), fi ((N : Int)), fi (fa (onS c))] rfl rfl ?_
        refine f_isub rfl ?_
        refine f_il 0 rfl hL rfl ?_
        refine m_k1 (t75 (s := c) (by omega)) hw5 hm5 rfl rfl rfl rfl rfl (fun hc6 hw6 hm6 => ?_)
        refine f_isub rfl ?_
        refine m_k1 (t167 (n := ((N : Int) - 1) - (onS c)) (by omega)) hw6 hm6 rfl rfl rfl rfl rfl (fun hc7 hw7 hm7 => ?_)
        refine f_imul rfl ?_
        refine f_ist [(6, fi ((fa (onS c)) * (fa (((N : Int) - 1) - (onS c))))), (5, fi (c)), (4, fi (s)), (0, .ref 55), (1, fi (k)), (2, fi (h)), (3, fi (1))] rfl (by decide) hL rfl (fun L3 hL3 => ?_)
        refine f_il 2 rfl hL3 rfl ?_
        refine f_il 0 rfl hL3 rfl ?_
        refine f_aln 3 rfl hL3 rfl ?_
        refine m_gfr so55 rfl hw7 rfl (by decide) ?_
        refine f_il 1 rfl hL3 rfl ?_
        refine f_s [fi (1), fi (c), .ref 69, fi ((fa (onS c)) * (fa (((N : Int) - 1) - (onS c)))), fi (s)] rfl rfl ?_
        refine f_iln 4 rfl hL3 rfl ?_
        refine b_ishl rfl ?_
        refine b_ior rfl ?_
        refine m_ia sa69 (moM m P h (iA (iO (c) (iS (1) (k))) (thM m N))) rfl hw7 hm7 (by omega) (by omega) (by decide) j1 ?_
        refine f_aln 3 rfl hL3 rfl ?_
        refine m_gfr so55 rfl hw7 rfl (by decide) ?_
        refine f_il 1 rfl hL3 rfl ?_
        refine m_ia sa69 (moM m P h (iA (c) (thM m N))) rfl hw7 hm7 (by omega) (by omega) (by decide) j2 ?_
        refine f_isub rfl ?_
        refine f_imul rfl ?_
        refine f_iadd rfl ?_
        refine f_ist [(4, fi (s + (((fa (onS c)) * (fa (((N : Int) - 1) - (onS c)))) * ((moM m P h (iA (iO (c) (iS (1) (k))) (thM m N))) - (moM m P h (iA (c) (thM m N))))))), (6, fi ((fa (onS c)) * (fa (((N : Int) - 1) - (onS c))))), (5, fi (c)), (0, .ref 55), (1, fi (k)), (2, fi (h)), (3, fi (1))] rfl (by decide) hL3 rfl (fun L4 hL4 => ?_)
        refine f_inc 2 [(5, fi (c + 1)), (4, fi (s + (((fa (onS c)) * (fa (((N : Int) - 1) - (onS c)))) * ((moM m P h (iA (iO (c) (iS (1) (k))) (thM m N))) - (moM m P h (iA (c) (thM m N))))))), (6, fi ((fa (onS c)) * (fa (((N : Int) - 1) - (onS c))))), (0, .ref 55), (1, fi (k)), (2, fi (h)), (3, fi (1))] rfl (by decide) hL4 rfl rfl (fun L5 hL5 => ?_)
        refine f_goto rfl ?_
        have e9 : shM m N P k h (n + 1) c = tmM m N P k h c + shM m N P k h n (c + 1) := by
          show (if iA (iR (c) (k)) (1) = 1 then 0 else tmM m N P k h c) + _ = _
          rw [if_neg c1]
        exact ih hc7 m' _ (s + tmM m N P k h c) _ hw7 hm7 ha hj (by omega) (by rw [← hT, e9]; omega) (hL5.sel [0, 1, 3, 4, 5, 6] rfl)
  have hJ : ∀ (n : Nat) (hc : ev_H) (m' : Nat → Nat → Int) (c : Int) (L : ev_L), y_in yGw hc → gi hc = m' → ag69 m m' → (∀ j : Nat, (j : Int) < c → m' 69 j = moM m P h (iA ((j : Int)) (thM m N))) → (0 ≤ c ∧ c + n = ((2 ^ N : Nat) : Int)) → f_L L [(4, fi (c)), (0, .ref 55), (1, fi (k)), (2, fi (h)), (3, fi (1))] → x_W none (1, 0, 7, 3, 11, 5, 118, 0, 0, ev_t169) 28 L [] hc 0 0 (fun r' _ => r' = some (fi ((shM m N P k h (2 ^ N) 0).tdiv (eG (shM m N P k h (2 ^ N) 0) (fa ((N : Int))))))) := by
    intro n
    induction n with
    | zero =>
      intro hc m' c L hw hm ha hj hc9 hL
      have hR9 := gi_R hm
      refine f_il 0 rfl hL rfl ?_
      refine f_s [fi (1), fi (c)] rfl rfl ?_
      refine f_aln 1 rfl hL rfl ?_
      refine m_gfi so55 ((N : Int)) rfl hw hm rfl ((ha 55 0 (by decide) (by decide) (by decide)).trans hN) ?_
      refine b_ishl rfl ?_
      refine b_eq (x := ((2 ^ N : Nat) : Int)) eS.1 ?_
      refine f_ic rfl (by omega) (by omega) (fun _ => ?_) (fun c_9 => absurd (show (((2 ^ N : Nat) : Int) : Int) ≤ (c : Int) from (by omega)) c_9)
      refine f_s [fi (0)] rfl rfl ?_
      refine f_ist [(4, fi (0)), (0, .ref 55), (1, fi (k)), (2, fi (h)), (3, fi (1))] rfl (by decide) hL rfl (fun L6 hL6 => ?_)
      refine f_s [fi (0)] rfl rfl ?_
      refine f_ist [(5, fi (0)), (4, fi (0)), (0, .ref 55), (1, fi (k)), (2, fi (h)), (3, fi (1))] rfl (by decide) hL6 rfl (fun L7 hL7 => ?_)
      exact hK (2 ^ N) hc m' 0 0 _ hw hm ha (fun j h9 => hj j (by omega)) (by omega) (by omega) (hL7.sel [0, 1, 2, 3, 4, 5] rfl)
    | succ n ih =>
      intro hc m' c L hw hm ha hj hc9 hL
      have hR9 := gi_R hm
      refine f_il 0 rfl hL rfl ?_
      refine f_s [fi (1), fi (c)] rfl rfl ?_
      refine f_aln 1 rfl hL rfl ?_
      refine m_gfi so55 ((N : Int)) rfl hw hm rfl ((ha 55 0 (by decide) (by decide) (by decide)).trans hN) ?_
      refine b_ishl rfl ?_
      refine b_eq (x := ((2 ^ N : Nat) : Int)) eS.1 ?_
      refine f_ic rfl (by omega) (by omega) (fun c_9 => absurd (show (((2 ^ N : Nat) : Int) : Int) ≤ (c : Int) from c_9) (by omega)) (fun _ => ?_)
      refine f_aln 1 rfl hL rfl ?_
      refine m_gfr so55 rfl hw rfl (by decide) ?_
      refine f_il 0 rfl hL rfl ?_
      refine f_aln 1 rfl hL rfl ?_
      refine f_iln 3 rfl hL rfl ?_
      refine f_il 0 rfl hL rfl ?_
      refine f_aln 1 rfl hL rfl ?_
      have t9 := t114 (m := m') (N := N) ((ha 55 0 (by decide) (by decide) (by decide)).trans hN)
      rw [ha.t] at t9
      refine m_k1 t9 hw hm rfl rfl rfl (m_ar so55 hw rfl) rfl (fun hc8 hw8 hm8 => ?_)
      refine b_iand rfl ?_
      obtain ⟨b8, g8, t8⟩ := t118_s (c := c) ha hN hP hN4 hP5 hh hR9
      refine m_k1 t8 hw8 hm8 rfl rfl rfl (m_ar so55 hw8 rfl) rfl (fun hc9 hw9 hm9 => ?_)
      have rc9 := mR c (by omega)
      refine m_ias sa69 rfl hw9 hm9 (by omega) (by omega) (by decide) (by omega) (fun hc10 hw10 hm10 => ?_)
      refine f_inc 0 [(4, fi (c + 1)), (0, .ref 55), (1, fi (k)), (2, fi (h)), (3, fi (1))] rfl (by decide) hL rfl rfl (fun L8 hL8 => ?_)
      refine f_goto rfl ?_
      refine ih hc10 _ _ _ hw10 hm10 ha.w.u (fun j h9 => ?_) (by omega) (hL8.sel [0, 1, 2, 3, 4] rfl)
      by_cases h8 : (j : Int) < c
      · rw [up_ne (by omega)]
        exact ((if_neg (by decide)).trans (if_neg (by omega))).trans (hj j h8)
      · have h7 : j = (c).toNat := by omega
        subst h7
        rw [up_eq, show ((((c).toNat : Nat) : Int)) = c by omega]
  have t46' := t46 (m := m) (x := k) (by rw [hN]; omega) (by rw [hN]; omega) rk
  rw [hN] at t46'
  refine f_aln 0 rfl hL rfl ?_
  refine f_iln 1 rfl hL rfl ?_
  refine m_k1 t46' hw hm rfl rfl rfl (m_ar so55 hw rfl) rfl (fun hc11 hw11 hm11 => ?_)
  refine f_if rfl (bI_r _) (fun _ => ?_) (fun c_9 => absurd (show ¬ (bI (decide (0 ≤ k ∧ k < (N : Int))) : Int) = (0 : Int) from (by rw [decide_eq_true hk]; decide)) c_9)
  refine f_iln 2 rfl hL rfl ?_
  refine f_i2l rfl rh ?_
  refine f_s [fl (0), fl (h)] rfl rfl ?_
  refine f_ldc2 (9) rfl rfl ?_
  refine m_k1 (t_in h 0 9 (by omega) (by decide) (by decide)) hw11 hm11 rfl rfl rfl rfl rfl (fun hc12 hw12 hm12 => ?_)
  refine f_if rfl (bI_r _) (fun _ => ?_) (fun c_9 => absurd (show ¬ (bI (decide (0 ≤ h ∧ h ≤ 9)) : Int) = (0 : Int) from (by rw [decide_eq_true hh]; decide)) c_9)
  refine f_s [fi (0)] rfl rfl ?_
  refine f_ist [(4, fi (0)), (0, .ref 55), (1, fi (k)), (2, fi (h)), (3, fi (1))] rfl (by decide) hL rfl (fun L9 hL9 => ?_)
  exact hJ (2 ^ N) hc12 m 0 _ hw12 hm12 (fun _ _ _ _ _ => rfl) (fun j h9 => absurd h9 (by omega)) (by omega) (hL9.sel [0, 1, 2, 3, 4] rfl))
theorem most_s {m : Nat → Nat → Int} (hP : PR m) (hR : SR0 m) {N P : Nat} (hN : m 3 5 = (N : Int)) (hPP : m 3 6 = (P : Int)) (h s : Int) : moC m h s = moM m P h (iA s (thM m N)) := by
  have N4 : N ≤ 4 := by have := hP.2.1.1; omega
  have P5 : P ≤ 5 := by have := hP.2.1.2; omega
  have no : ∀ q, 0 + P ≤ q → q < 5 → gW m h s q = (false, false, false, false) := fun q h1 _ => want_no (by omega)
  have el : LsF (gW m h s) 0 P = LsF (wb4 (wb0 m h (iA s (thM m N)))) 0 P := LsF_congr P 0 (fun q _ h2 => want_eq hP hR hN (fun k hk => by
    rw [tB_and _ _ hk, thM_k N4 hk, ← hR.g.1]
    cases tB s (k : Int) <;> cases decide (k < N) <;> rfl) (by omega) (by omega))
  have hS : ∀ w ∈ LsF (wb4 (wb0 m h (iA s (thM m N)))) 0 P, ∀ k, bk w k = true → k < N := fun w hw k hk => by
    have := wbN (m := m) (h := h) (s := iA s (thM m N)) (P := P) (th_s N4 s) w hw k hk
    omega
  have er : ∀ k, k < N → gR m k = rf0 m k := fun k hk => hP.rmE ⟨by omega, by omega⟩
  show gg (gW m h s) (5 - 0) (gR m) = _
  rw [gg_F (gW m h s) (p := 0) (j := P) (by omega) no, el]
  exact hg_congr (S := fun k => k < N) _ _ hS er
theorem sh_eq {m : Nat → Nat → Int} (hP : PR m) (hR : SR0 m) {N P : Nat} (hN : m 3 5 = (N : Int)) (hPP : m 3 6 = (P : Int)) {k h : Int} (hk : 0 ≤ k ∧ k < m 3 5) : shC m k h 16 0 = shM m N P k h (2 ^ N) 0 := by
  have N4 : N ≤ 4 := by have := hP.2.1.1; omega
  have hn := hP.2.1.1
  have eS := iS_N N4
  have t0 : ∀ (n : Nat) (c : Int), 0 ≤ c → c + n = 16 → ((2 ^ N : Nat) : Int) ≤ c → shC m k h n c = 0 := by
    intro n
    induction n with
    | zero => intro c _ _ _; rfl
    | succ n ih =>
      intro c h1 h2 h3
      show (if iA (c) (iX (iA ((iS (1) (m 3 5)) - 1) (iX (iS (1) (k)) (-1))) (-1)) = 0 then tmC m k h c else 0) + shC m k h n (c + 1) = 0
      rw [ih (c + 1) (by omega) (by omega) (by omega), if_neg (fun z => by
        have := (sh_c hn hk (by omega) z).1
        rw [hN, eS.1] at this
        omega)]
      rfl
  have t1 : ∀ (j n : Nat) (c : Int), 0 ≤ c → c + j = ((2 ^ N : Nat) : Int) → c + n = 16 → shC m k h n c = shM m N P k h j c := by
    intro j
    induction j with
    | zero => intro n c h1 h2 h3; exact t0 n c h1 h3 (by omega)
    | succ j ih =>
      intro n c h1 h2 h3
      cases n with
      | zero => omega
      | succ n =>
        show (if iA (c) (iX (iA ((iS (1) (m 3 5)) - 1) (iX (iS (1) (k)) (-1))) (-1)) = 0 then tmC m k h c else 0) + shC m k h n (c + 1) = (if iA (iR (c) (k)) (1) = 1 then 0 else tmM m N P k h c) + shM m N P k h j (c + 1)
        rw [ih n (c + 1) (by omega) (by omega) (by omega)]
        have q := shK_m hn hk (c := c) (by omega)
        have q1 := q.1
        rw [decide_eq_true (show c < iS 1 (m 3 5) by rw [hN, eS.1]; omega), Bool.true_and] at q1
        by_cases z : iA (iR (c) (k)) (1) = 1
        · rw [decide_eq_false (show ¬ ¬ iA (iR (c) (k)) (1) = 1 from fun y => y z)] at q1
          rw [if_neg (of_decide_eq_false q1), if_pos z]
        · rw [decide_eq_true z] at q1
          rw [if_pos (of_decide_eq_true q1), if_neg z]
          congr 1
          unfold tmC tmM
          rw [most_s hP hR hN hPP, most_s hP hR hN hPP, q.2.1, hN, Int.mul_comm]
  exact t1 (2 ^ N) 16 0 (by decide) (by omega) (by decide)
theorem shC_r {m : Nat → Nat → Int} (hn : 0 ≤ m 3 5 ∧ m 3 5 ≤ 4) {k h : Int} (hk : 0 ≤ k ∧ k < m 3 5) : ∀ (n : Nat) (c : Int), 0 ≤ c → c + n = 16 → 0 ≤ shC m k h n c ∧ shC m k h n c ≤ 30 * (n : Int)
  | 0, _, _, _ => ⟨Int.le_refl _, by show (0 : Int) ≤ 30 * ((0 : Nat) : Int); decide⟩
  | n + 1, c, h1, h2 => by
    have i := shC_r hn (h := h) hk n (c + 1) (by omega) (by omega)
    show 0 ≤ (if iA (c) (iX (iA ((iS (1) (m 3 5)) - 1) (iX (iS (1) (k)) (-1))) (-1)) = 0 then tmC m k h c else 0) + shC m k h n (c + 1) ∧ (if iA (c) (iX (iA ((iS (1) (m 3 5)) - 1) (iX (iS (1) (k)) (-1))) (-1)) = 0 then tmC m k h c else 0) + shC m k h n (c + 1) ≤ 30 * ((n + 1 : Nat) : Int)
    by_cases z : iA (c) (iX (iA ((iS (1) (m 3 5)) - 1) (iX (iS (1) (k)) (-1))) (-1)) = 0
    · rw [if_pos z]
      have := tm_r (h := h) hn hk (by omega) z
      omega
    · rw [if_neg z]
      omega
theorem shC_c {m m' : Nat → Nat → Int} (e : nmE m m') {k h : Int} : ∀ (n : Nat) (c : Int), shC m' k h n c = shC m k h n c
  | 0, _ => rfl
  | n + 1, c => by
    show (if iA (c) (iX (iA ((iS (1) (m' 3 5)) - 1) (iX (iS (1) (k)) (-1))) (-1)) = 0 then tmC m' k h c else 0) + shC m' k h n (c + 1) = (if iA (c) (iX (iA ((iS (1) (m 3 5)) - 1) (iX (iS (1) (k)) (-1))) (-1)) = 0 then tmC m k h c else 0) + shC m k h n (c + 1)
    have et : tmC m' k h c = tmC m k h c := by
      unfold tmC
      rw [moC_c e, moC_c e, e.1.2.1]
    rw [shC_c e n (c + 1), et, e.1.2.1]
theorem SI_share0 {hc : ev_H} (hin : y_in yG hc) (hS : SI (gi hc)) {x h : Int} (rx : -2147483648 ≤ x ∧ x ≤ 2147483647) (rh : -2147483648 ≤ h ∧ h ≤ 2147483647) : ∃ rr hc1 fs1 hc2, (-2147483648 ≤ rr ∧ rr ≤ 2147483647) ∧ f_M 166 [.ref 0, fi x, fi h, fi (0)] hc (some (fi rr)) hc1 ∧ hc1[55]? = some (.inr (.inr (10, fs1))) ∧ f_M 169 [.ref 55, fi x, fi h, fi (0)] hc1 (some (fi rr)) hc2 ∧ y_in yG hc2 ∧ SI (gi hc2) ∧ y_un yct166_0.2.2 hc hc1 ∧ y_un yct169_0.2.2 hc1 hc2 := by
  have hn := hS.1.2.1.1
  have hp := hS.1.2.1.2
  have fN : ∀ m1, SI m1 → ∃ N P : Nat, m1 3 5 = (N : Int) ∧ m1 3 6 = (P : Int) ∧ N ≤ 4 ∧ P ≤ 5 := fun m1 h1 => ⟨(m1 3 5).toNat, (m1 3 6).toNat, by have := h1.1.2.1.1; omega, by have := h1.1.2.1.2; omega, by have := h1.1.2.1.1; omega, by have := h1.1.2.1.2; omega⟩
  have ga : ∀ q : Nat, y_args [(2, Int.ofNat q, Int.ofNat q, false), (0, Int.negSucc 2147483647, Int.ofNat 2147483647, false), (0, Int.negSucc 2147483647, Int.ofNat 2147483647, false), (0, Int.ofNat 0, Int.ofNat 1, false)] [.ref q, fi x, fi h, fi (0)] := fun q => f_args_c f_rAr (f_args_c f_rAi (f_args_c f_rAi (f_args_c (f_rA (by decide) (by decide) (by decide) (by decide)) f_args_n)))
  by_cases hk : 0 ≤ x ∧ x < gi hc 3 5
  · by_cases hh : 0 ≤ h ∧ h < 10
    · refine SI_call3 (RC := ev_r166) (RM := ev_r169) rfl rfl yc166_0 yc169_0 (ga 0) (ga 55) hin hS (t166_0_ok hn hp rx rh hk hh) (by decide) (by decide) (fun m1 k1 hS1 r1 => ?_)
      obtain ⟨N, P, eN, eP, N4, P5⟩ := fN m1 hS1
      have e := nmE_of k1
      have hk1 : 0 ≤ x ∧ x < m1 3 5 := by rw [e.1.2.1]; exact hk
      have es := sh_eq hS1.1 hS1.2.1 eN eP (h := h) hk1
      have er := shC_r (m := m1) hS1.1.2.1.1 (h := h) hk1 16 0 (by decide) (by decide)
      have t := t169_0_ok (m := m1) (by rw [← hS1.1.1.1]; exact eN) (by rw [← hS1.1.1.2]; exact eP) N4 P5 rx rh (by omega) (by omega) (by rw [← es]; omega) (fun c _ => by rw [← most_s hS1.1 hS1.2.1 eN eP]; exact moC_r)
      rw [← es, shC_c e, ← eN, e.1.2.1] at t
      exact t
    · exact SI_call3 (RC := ev_r166) (RM := ev_r169) rfl rfl yc166_0 yc169_0 (ga 0) (ga 55) hin hS (t166_0_out hn rx rh hk hh) (by decide) (by decide) (fun m1 k1 hS1 r1 => by
        obtain ⟨N, P, eN, eP, N4, P5⟩ := fN m1 hS1
        have e := nmE_of k1
        exact t169_0_out (by rw [← hS1.1.1.1]; exact eN) (by rw [← hS1.1.1.2]; exact eP) N4 P5 rx rh (by rw [← eN, e.1.2.1]; exact hk) (by omega))
  · exact SI_call3 (RC := ev_r166) (RM := ev_r169) rfl rfl yc166_0 yc169_0 (ga 0) (ga 55) hin hS (t166_0_un hn rx rh hk) (by decide) (by decide) (fun m1 k1 hS1 r1 => by
      obtain ⟨N, P, eN, eP, N4, P5⟩ := fN m1 hS1
      have e := nmE_of k1
      exact t169_0_un (by rw [← hS1.1.1.1]; exact eN) (by rw [← hS1.1.1.2]; exact eP) N4 P5 rx rh (by rw [← eN, e.1.2.1]; exact hk))
theorem SI_share1 {hc : ev_H} (hin : y_in yG hc) (hS : SI (gi hc)) {x h : Int} (rx : -2147483648 ≤ x ∧ x ≤ 2147483647) (rh : -2147483648 ≤ h ∧ h ≤ 2147483647) : ∃ rr hc1 fs1 hc2, (-2147483648 ≤ rr ∧ rr ≤ 2147483647) ∧ f_M 166 [.ref 0, fi x, fi h, fi (1)] hc (some (fi rr)) hc1 ∧ hc1[55]? = some (.inr (.inr (10, fs1))) ∧ f_M 169 [.ref 55, fi x, fi h, fi (1)] hc1 (some (fi rr)) hc2 ∧ y_in yG hc2 ∧ SI (gi hc2) ∧ y_un yct166_0.2.2 hc hc1 ∧ y_un yct169_0.2.2 hc1 hc2 := by
  have hn := hS.1.2.1.1
  have hp := hS.1.2.1.2
  have fN : ∀ m1, SI m1 → ∃ N P : Nat, m1 3 5 = (N : Int) ∧ m1 3 6 = (P : Int) ∧ N ≤ 4 ∧ P ≤ 5 := fun m1 h1 => ⟨(m1 3 5).toNat, (m1 3 6).toNat, by have := h1.1.2.1.1; omega, by have := h1.1.2.1.2; omega, by have := h1.1.2.1.1; omega, by have := h1.1.2.1.2; omega⟩
  have ga : ∀ q : Nat, y_args [(2, Int.ofNat q, Int.ofNat q, false), (0, Int.negSucc 2147483647, Int.ofNat 2147483647, false), (0, Int.negSucc 2147483647, Int.ofNat 2147483647, false), (0, Int.ofNat 0, Int.ofNat 1, false)] [.ref q, fi x, fi h, fi (1)] := fun q => f_args_c f_rAr (f_args_c f_rAi (f_args_c f_rAi (f_args_c (f_rA (by decide) (by decide) (by decide) (by decide)) f_args_n)))
  by_cases hk : 0 ≤ x ∧ x < gi hc 3 5
  · by_cases hh : 0 ≤ h ∧ h < 10
    · refine SI_call3 (RC := ev_r166) (RM := ev_r169) rfl rfl yc166_0 yc169_0 (ga 0) (ga 55) hin hS (t166_1_ok hn hp rx rh hk hh) (by decide) (by decide) (fun m1 k1 hS1 r1 => ?_)
      obtain ⟨N, P, eN, eP, N4, P5⟩ := fN m1 hS1
      have e := nmE_of k1
      have hk1 : 0 ≤ x ∧ x < m1 3 5 := by rw [e.1.2.1]; exact hk
      have es := sh_eq hS1.1 hS1.2.1 eN eP (h := h) hk1
      have er := shC_r (m := m1) hS1.1.2.1.1 (h := h) hk1 16 0 (by decide) (by decide)
      have t := t169_1_ok (m := m1) (by rw [← hS1.1.1.1]; exact eN) (by rw [← hS1.1.1.2]; exact eP) N4 P5 rx rh (by omega) (by omega) (by rw [← es]; omega) (fun c _ => by rw [← most_s hS1.1 hS1.2.1 eN eP]; exact moC_r)
      rw [← es, shC_c e, ← eN, e.1.2.1] at t
      exact t
    · exact SI_call3 (RC := ev_r166) (RM := ev_r169) rfl rfl yc166_0 yc169_0 (ga 0) (ga 55) hin hS (t166_1_out hn rx rh hk hh) (by decide) (by decide) (fun m1 k1 hS1 r1 => by
        obtain ⟨N, P, eN, eP, N4, P5⟩ := fN m1 hS1
        have e := nmE_of k1
        exact t169_1_out (by rw [← hS1.1.1.1]; exact eN) (by rw [← hS1.1.1.2]; exact eP) N4 P5 rx rh (by rw [← eN, e.1.2.1]; exact hk) (by omega))
  · exact SI_call3 (RC := ev_r166) (RM := ev_r169) rfl rfl yc166_0 yc169_0 (ga 0) (ga 55) hin hS (t166_1_un hn rx rh hk) (by decide) (by decide) (fun m1 k1 hS1 r1 => by
      obtain ⟨N, P, eN, eP, N4, P5⟩ := fN m1 hS1
      have e := nmE_of k1
      exact t169_1_un (by rw [← hS1.1.1.1]; exact eN) (by rw [← hS1.1.1.2]; exact eP) N4 P5 rx rh (by rw [← eN, e.1.2.1]; exact hk))
