/-! mostAt, figuresOf of the reference -/
set_option maxHeartbeats 1000000 in
theorem t118 {m : Nat → Nat → Int} {N P : Nat} (hN : m 55 0 = (N : Int)) (hP : m 55 1 = (P : Int)) (hN4 : N ≤ 4) (hP5 : P ≤ 5) {b : Int} (rb : -2147483648 ≤ b ∧ b ≤ 2147483647) {g : Nat → Int} {h s : Int} (rs : -2147483648 ≤ s ∧ s ≤ 2147483647) (hh : 0 ≤ h ∧ h ≤ 9) (hR0 : ∀ q i, -2147483648 ≤ m q i ∧ m q i ≤ 2147483647) : h_M 118 [.ref 55, fi (h), fi (s)] (wyM m b g) (some (fi ((mlp N P (wb0 m h s) (rf0 m) ((N + 1) ^ P) 0 (-9) b g).1))) (wyM m (mlp N P (wb0 m h s) (rf0 m) ((N + 1) ^ P) 0 (-9) b g).2.1 (mlp N P (wb0 m h s) (rf0 m) ((N + 1) ^ P) 0 (-9) b g).2.2) := h_M_of (R := ev_r118) rfl (fun hc hw hm => by
  have hL : f_L (lv_args 0 [.ref 55, fi (h), fi (s)]) [(0, .ref 55), (1, fi (h)), (2, fi (s))] := f_L_of rfl
  generalize lv_args 0 [.ref 55, fi (h), fi (s)] = L at hL
  show x_W none (1, 0, 7, 2, 11, 4, 92, 0, 0, ev_t118) 0 L [] hc 0 0 _
  have hR := gi_R hm
  have hJ : ∀ (Q : Option Value → ev_H → Prop) (be : Int) (G : Nat → Int) (Y : Nat) (y mo : Int), y = (Y : Int) → Y ≤ 4000 → ∀ (j : Nat) (hc : ev_H) (p c : Int) (L : ev_L), y_in yGw hc → gi hc = wyM m be G → (0 ≤ p ∧ p + j = (P : Int)) → f_L L [(6, fi (p)), (5, fi (c)), (4, fi (y)), (3, fi (mo)), (0, .ref 55), (1, fi (h)), (2, fi (s))] → (∀ (hc9 : ev_H) (L9 : ev_L), y_in yGw hc9 → gi hc9 = wyM m be G → f_L L9 [(5, fi (c + mnJ N Y j)), (4, fi (y)), (3, fi (mo)), (0, .ref 55), (1, fi (h)), (2, fi (s))] → x_W none (1, 0, 7, 2, 11, 4, 92, 0, 0, ev_t118) 77 L9 [] hc9 0 0 Q) → x_W none (1, 0, 7, 2, 11, 4, 92, 0, 0, ev_t118) 41 L [] hc 0 0 Q := by
    intro Q be G Y y mo hy hY j
    induction j with
    | zero =>
      intro hc p c L hw hm hp9 hL hQ
      refine f_il 0 rfl hL rfl ?_
      refine f_aln 4 rfl hL rfl ?_
      refine m_gfi so55 ((P : Int)) rfl hw hm rfl ((wy_55 (by decide)).trans hP) ?_
      refine f_ic rfl (by omega) (by omega) (fun _ => ?_) (fun c_9 => absurd (show ((P : Int) : Int) ≤ (p : Int) from (by omega)) c_9)
      exact hQ hc _ hw hm (show f_L _ [(5, fi (c + mnJ N Y 0)), (4, fi (y)), (3, fi (mo)), (0, .ref 55), (1, fi (h)), (2, fi (s))] from (Int.add_zero c).symm ▸ hL.sel [1, 2, 3, 4, 5, 6] rfl)
    | succ j ih =>
      intro hc p c L hw hm hp9 hL hQ
      refine f_il 0 rfl hL rfl ?_
      refine f_aln 4 rfl hL rfl ?_
      refine m_gfi so55 ((P : Int)) rfl hw hm rfl ((wy_55 (by decide)).trans hP) ?_
      refine f_ic rfl (by omega) (by omega) (fun c_9 => absurd (show ((P : Int) : Int) ≤ (p : Int) from c_9) (by omega)) (fun _ => ?_)
      refine f_il 1 rfl hL rfl ?_
      refine f_aln 4 rfl hL rfl ?_
      refine f_il 2 rfl hL rfl ?_
      refine f_il 0 rfl hL rfl ?_
      obtain ⟨K, eK⟩ : ∃ K : Int, K = ((Y / (N + 1) ^ j % (N + 1) : Nat) : Int) - 1 := ⟨_, rfl⟩
      have d1 : Y / (N + 1) ^ j % (N + 1) < N + 1 := Nat.mod_lt _ (by omega)
      refine m_k1 (t116 (m := wyM m be G) (j := j) ((wy_55 (by decide)).trans hN) ((wy_55 (by decide)).trans hP) hN4 hP5 hy hY (by omega) eK) hw hm rfl rfl rfl (m_ar so55 hw rfl) rfl (fun hc1 hw1 hm1 => ?_)
      refine f_if rfl (by omega) (fun c1 => ?_) (fun c1 => ?_)
      · have c1 : (K : Int) < (0 : Int) := c1
        refine f_s [fi (0), fi (c)] rfl rfl ?_
        refine f_iadd rfl ?_
        refine f_ist [(5, fi (c + 0)), (6, fi (p)), (4, fi (y)), (3, fi (mo)), (0, .ref 55), (1, fi (h)), (2, fi (s))] rfl (by decide) hL rfl (fun L1 hL1 => ?_)
        refine f_inc 1 [(6, fi (p + 1)), (5, fi (c + 0)), (4, fi (y)), (3, fi (mo)), (0, .ref 55), (1, fi (h)), (2, fi (s))] rfl (by decide) hL1 rfl rfl (fun L2 hL2 => ?_)
        refine f_goto rfl ?_
        have e9 : mnJ N Y (j + 1) = 0 + mnJ N Y j := by
          show (if Y / (N + 1) ^ j % (N + 1) = 0 then (0 : Int) else 1) + mnJ N Y j = _
          rw [if_pos (show Y / (N + 1) ^ j % (N + 1) = 0 by omega)]
        refine ih hc1 _ _ _ hw1 hm1 (by omega) (hL2.sel [0, 1, 2, 3, 4, 5, 6] rfl) (fun hc9 L9 a1 a2 a3 => hQ hc9 L9 a1 a2 ?_)
        rw [e9, show c + (0 + mnJ N Y j) = (c + 0) + mnJ N Y j by omega]
        exact a3
      · have c1 : ¬ ((K : Int) < (0 : Int)) := c1
        refine f_s [fi (1), fi (c)] rfl rfl ?_
        refine f_goto rfl ?_
        refine f_iadd rfl ?_
        refine f_ist [(5, fi (c + 1)), (6, fi (p)), (4, fi (y)), (3, fi (mo)), (0, .ref 55), (1, fi (h)), (2, fi (s))] rfl (by decide) hL rfl (fun L3 hL3 => ?_)
        refine f_inc 1 [(6, fi (p + 1)), (5, fi (c + 1)), (4, fi (y)), (3, fi (mo)), (0, .ref 55), (1, fi (h)), (2, fi (s))] rfl (by decide) hL3 rfl rfl (fun L4 hL4 => ?_)
        refine f_goto rfl ?_
        have e9 : mnJ N Y (j + 1) = 1 + mnJ N Y j := by
          show (if Y / (N + 1) ^ j % (N + 1) = 0 then (0 : Int) else 1) + mnJ N Y j = _
          rw [if_neg (show ¬ Y / (N + 1) ^ j % (N + 1) = 0 by omega)]
        refine ih hc1 _ _ _ hw1 hm1 (by omega) (hL4.sel [0, 1, 2, 3, 4, 5, 6] rfl) (fun hc9 L9 a1 a2 a3 => hQ hc9 L9 a1 a2 ?_)
        rw [e9, show c + (1 + mnJ N Y j) = (c + 1) + mnJ N Y j by omega]
        exact a3
  have hK : ∀ (f : Nat) (hc : ev_H) (Y : Nat) (y mo be : Int) (g : Nat → Int) (L : ev_L), y_in yGw hc → gi hc = wyM m be g → y = (Y : Int) → Y + f = (N + 1) ^ P → (-9 ≤ mo ∧ mo ≤ 5) → (-2147483648 ≤ be ∧ be ≤ 2147483647) → f_L L [(4, fi (y)), (3, fi (mo)), (0, .ref 55), (1, fi (h)), (2, fi (s))] → x_W none (1, 0, 7, 2, 11, 4, 92, 0, 0, ev_t118) 6 L [] hc 0 0 (fun r' h' => r' = some (fi ((mlp N P (wb0 m h s) (rf0 m) f Y mo be g).1)) ∧ y_in yGw h' ∧ gi h' = wyM m (mlp N P (wb0 m h s) (rf0 m) f Y mo be g).2.1 (mlp N P (wb0 m h s) (rf0 m) f Y mo be g).2.2) := by
    intro f
    induction f with
    | zero =>
      intro hc Y y mo be g L hw hm hy hYf hmo hbe hL
      have rT := pw_r (c := N + 1) (e := P) (by omega) (by omega) hP5
      refine f_il 0 rfl hL rfl ?_
      refine f_aln 2 rfl hL rfl ?_
      refine m_gfi so55 ((N : Int)) rfl hw hm rfl ((wy_55 (by decide)).trans hN) ?_
      refine f_s [fi (1), fi ((N : Int)), fi (y)] rfl rfl ?_
      refine f_iadd rfl ?_
      refine f_aln 2 rfl hL rfl ?_
      refine m_gfi so55 ((P : Int)) rfl hw hm rfl ((wy_55 (by decide)).trans hP) ?_
      refine m_k1 (t115 (c := N + 1) (e := P) (by omega) rfl (by omega)) hw hm rfl rfl rfl rfl rfl (fun hc2 hw2 hm2 => ?_)
      refine f_ic rfl (by omega) (by omega) (fun _ => ?_) (fun c_9 => absurd (show ((((N + 1) ^ P : Nat) : Int) : Int) ≤ (y : Int) from (by omega)) c_9)
      refine f_iln 1 rfl hL rfl ?_
      exact f_ret1 rfl ⟨rfl, hw2, hm2⟩
    | succ f ih =>
      intro hc Y y mo be g L hw hm hy hYf hmo hbe hL
      have rT := pw_r (c := N + 1) (e := P) (by omega) (by omega) hP5
      refine f_il 0 rfl hL rfl ?_
      refine f_aln 2 rfl hL rfl ?_
      refine m_gfi so55 ((N : Int)) rfl hw hm rfl ((wy_55 (by decide)).trans hN) ?_
      refine f_s [fi (1), fi ((N : Int)), fi (y)] rfl rfl ?_
      refine f_iadd rfl ?_
      refine f_aln 2 rfl hL rfl ?_
      refine m_gfi so55 ((P : Int)) rfl hw hm rfl ((wy_55 (by decide)).trans hP) ?_
      refine m_k1 (t115 (c := N + 1) (e := P) (by omega) rfl (by omega)) hw hm rfl rfl rfl rfl rfl (fun hc3 hw3 hm3 => ?_)
      refine f_ic rfl (by omega) (by omega) (fun c_9 => absurd (show ((((N + 1) ^ P : Nat) : Int) : Int) ≤ (y : Int) from c_9) (by omega)) (fun _ => ?_)
      refine f_aln 2 rfl hL rfl ?_
      refine f_il 0 rfl hL rfl ?_
      refine f_iln 4 rfl hL rfl ?_
      refine f_iln 3 rfl hL rfl ?_
      refine m_k1 (t117_0 (m := m) (b := be) (g := g) (Y := Y) hN hP hN4 hP5 hy (by omega) rs hh hR0) hw3 hm3 rfl rfl rfl (m_ar so55 hw3 rfl) rfl (fun hc4 hw4 hm4 => ?_)
      refine f_if rfl (bI_r _) (fun c1 => ?_) (fun c1 => ?_)
      · have c1 : (bI (iw N Y (wb0 m h s) (rf0 m) P 0 (z4 g)).1 : Int) = (0 : Int) := c1
        refine f_inc 0 [(4, fi (y + 1)), (3, fi (mo)), (0, .ref 55), (1, fi (h)), (2, fi (s))] rfl (by decide) hL rfl rfl (fun L5 hL5 => ?_)
        refine f_goto rfl ?_
        have e9 : mlp N P (wb0 m h s) (rf0 m) (f + 1) Y mo be g = mlp N P (wb0 m h s) (rf0 m) f (Y + 1) mo be (iw N Y (wb0 m h s) (rf0 m) P 0 (z4 g)).2 := if_neg (fun z => by have y := z.1; rw [bI0 c1] at y; cases y)
        rw [e9]
        exact ih hc4 (Y + 1) _ _ _ _ _ hw4 hm4 (by omega) (by omega) hmo hbe (hL5.sel [0, 1, 2, 3, 4] rfl)
      · have c1 : ¬ ((bI (iw N Y (wb0 m h s) (rf0 m) P 0 (z4 g)).1 : Int) = (0 : Int)) := c1
        refine f_s [fi (0)] rfl rfl ?_
        refine f_ist [(5, fi (0)), (4, fi (y)), (3, fi (mo)), (0, .ref 55), (1, fi (h)), (2, fi (s))] rfl (by decide) hL rfl (fun L6 hL6 => ?_)
        refine f_s [fi (0)] rfl rfl ?_
        refine f_ist [(6, fi (0)), (5, fi (0)), (4, fi (y)), (3, fi (mo)), (0, .ref 55), (1, fi (h)), (2, fi (s))] rfl (by decide) hL6 rfl (fun L7 hL7 => ?_)
        have ok1 : (iw N Y (wb0 m h s) (rf0 m) P 0 (z4 g)).1 = true := bI1 c1
        have rm0 := mnJ_r N Y P
        refine hJ _ be (iw N Y (wb0 m h s) (rf0 m) P 0 (z4 g)).2 Y y mo hy (by omega) P hc4 0 0 _ hw4 hm4 (by omega) (hL7.sel [0, 1, 2, 3, 4, 5, 6] rfl) (fun hc9 L9 hw9 hm9 hL9 => ?_)
        rw [show (0 : Int) + mnJ N Y P = mnJ N Y P by omega] at hL9
        refine f_aln 3 rfl hL9 rfl ?_
        refine f_il 0 rfl hL9 rfl ?_
        refine f_iln 2 rfl hL9 rfl ?_
        refine f_ic rfl (by omega) (by omega) (fun c2 => ?_) (fun c2 => ?_)
        · have c2 : (mnJ N Y P : Int) ≤ (mo : Int) := c2
          refine f_aln 3 rfl hL9 rfl ?_
          refine m_gfi so55 (be) rfl hw9 hm9 rfl wy_b ?_
          refine m_pf so55 rfl hw9 hm9 rfl rfl (by omega) (fun hc5 hw5 hm5 => ?_)
          refine f_il 0 rfl hL9 rfl ?_
          refine f_iln 2 rfl hL9 rfl ?_
          have hm8 : gi hc5 = wyM m be (iw N Y (wb0 m h s) (rf0 m) P 0 (z4 g)).2 := hm5.trans wy_v
          refine f_ic rfl (by omega) (by omega) (fun _ => ?_) (fun c_9 => absurd (show (mnJ N Y P : Int) ≤ (mo : Int) from c2) c_9)
          refine f_iln 2 rfl hL9 rfl ?_
          refine f_istn [(3, fi (mo)), (5, fi (mnJ N Y P)), (4, fi (y)), (0, .ref 55), (1, fi (h)), (2, fi (s))] rfl (by decide) hL9 rfl (fun L8 hL8 => ?_)
          refine f_inc 2 [(4, fi (y + 1)), (3, fi (mo)), (5, fi (mnJ N Y P)), (0, .ref 55), (1, fi (h)), (2, fi (s))] rfl (by decide) hL8 rfl rfl (fun L9 hL9 => ?_)
          refine f_goto rfl ?_
          have e9 : mlp N P (wb0 m h s) (rf0 m) (f + 1) Y mo be g = mlp N P (wb0 m h s) (rf0 m) f (Y + 1) mo be (iw N Y (wb0 m h s) (rf0 m) P 0 (z4 g)).2 := if_neg (fun z => by have y := z.2; omega)
          rw [e9]
          exact ih hc5 (Y + 1) _ _ _ _ _ hw5 hm8 (by omega) (by omega) hmo hbe (hL9.sel [0, 1, 3, 4, 5] rfl)
        · have c2 : ¬ ((mnJ N Y P : Int) ≤ (mo : Int)) := c2
          refine f_il 1 rfl hL9 rfl ?_
          refine f_goto rfl ?_
          refine m_pf so55 rfl hw9 hm9 rfl rfl (by omega) (fun hc6 hw6 hm6 => ?_)
          refine f_il 0 rfl hL9 rfl ?_
          refine f_iln 2 rfl hL9 rfl ?_
          have hm8 : gi hc6 = wyM m y (iw N Y (wb0 m h s) (rf0 m) P 0 (z4 g)).2 := hm6.trans wy_v
          refine f_ic rfl (by omega) (by omega) (fun c_9 => absurd (show (mnJ N Y P : Int) ≤ (mo : Int) from c_9) c2) (fun _ => ?_)
          refine f_il 0 rfl hL9 rfl ?_
          refine f_goto rfl ?_
          refine f_istn [(3, fi (mnJ N Y P)), (5, fi (mnJ N Y P)), (4, fi (y)), (0, .ref 55), (1, fi (h)), (2, fi (s))] rfl (by decide) hL9 rfl (fun L10 hL10 => ?_)
          refine f_inc 2 [(4, fi (y + 1)), (3, fi (mnJ N Y P)), (5, fi (mnJ N Y P)), (0, .ref 55), (1, fi (h)), (2, fi (s))] rfl (by decide) hL10 rfl rfl (fun L11 hL11 => ?_)
          refine f_goto rfl ?_
          have e9 : mlp N P (wb0 m h s) (rf0 m) (f + 1) Y mo be g = mlp N P (wb0 m h s) (rf0 m) f (Y + 1) (mnJ N Y P) y (iw N Y (wb0 m h s) (rf0 m) P 0 (z4 g)).2 := by rw [hy]; exact if_pos ⟨ok1, by omega⟩
          rw [e9]
          exact ih hc6 (Y + 1) _ _ _ _ _ hw6 hm8 (by omega) (by omega) (by omega) (by omega) (hL11.sel [0, 1, 3, 4, 5] rfl)
  refine f_bipush (n := -9) rfl (by decide) ?_
  refine f_istn [(3, fi (-9)), (0, .ref 55), (1, fi (h)), (2, fi (s))] rfl (by decide) hL rfl (fun L12 hL12 => ?_)
  refine f_s [fi (0)] rfl rfl ?_
  refine f_ist [(4, fi (0)), (3, fi (-9)), (0, .ref 55), (1, fi (h)), (2, fi (s))] rfl (by decide) hL12 rfl (fun L13 hL13 => ?_)
  exact hK ((N + 1) ^ P) hc 0 0 (-9) b g _ hw hm rfl (by omega) (by decide) rb (hL13.sel [0, 1, 2, 3, 4] rfl))
def fgJ (N Y : Nat) : Nat → Int → Int
  | 0, a => a
  | j + 1, a => fgJ N Y j (10 * a + ((Y / (N + 1) ^ j % (N + 1) : Nat) : Int))
theorem fgJ_L {N Y : Nat} (W : Nat → B4) : ∀ (j p : Nat) (a : Int), fgJ N Y j a = fgL (N + 1) (LsF W p j) Y a
  | 0, _, _ => rfl
  | j + 1, p, a => by
    show fgJ N Y j (10 * a + ((Y / (N + 1) ^ j % (N + 1) : Nat) : Int)) = fgL (N + 1) (LsF W (p + 1) j) Y (10 * a + ((Y / (N + 1) ^ (LsF W (p + 1) j).length % (N + 1) : Nat) : Int))
    rw [LsF_len]
    exact fgJ_L W j (p + 1) _
theorem t119 {m : Nat → Nat → Int} {N P : Nat} (hN : m 55 0 = (N : Int)) (hP : m 55 1 = (P : Int)) (hN4 : N ≤ 4) (hP5 : P ≤ 5) {y : Int} {Y : Nat} (hy : y = (Y : Int)) (hY : Y ≤ 4000) : h_M 119 [.ref 55, fi (y)] m (some (fi (fgJ N Y P 0))) m := h_M_of (R := ev_r119) rfl (fun hc hw hm => by
  have hL : f_L (lv_args 0 [.ref 55, fi (y)]) [(0, .ref 55), (1, fi (y))] := f_L_of rfl
  generalize lv_args 0 [.ref 55, fi (y)] = L at hL
  show x_W none (1, 0, 4, 1, 11, 2, 45, 0, 0, ev_t119) 0 L [] hc 0 0 _
  have hR := gi_R hm
  have hK : ∀ (j : Nat) (hc : ev_H) (p a : Int) (L : ev_L), y_in yGw hc → gi hc = m → (0 ≤ p ∧ p + j = (P : Int)) → f_L L [(3, fi (p)), (2, fi (a)), (0, .ref 55), (1, fi (y))] → x_W none (1, 0, 4, 1, 11, 2, 45, 0, 0, ev_t119) 4 L [] hc 0 0 (fun r' h' => r' = some (fi (fgJ N Y j a)) ∧ y_in yGw h' ∧ gi h' = m) := by
    intro j
    induction j with
    | zero =>
      intro hc p a L hw hm hp9 hL
      refine f_iln 0 rfl hL rfl ?_
      refine f_aln 2 rfl hL rfl ?_
      refine m_gfi so55 ((P : Int)) rfl hw hm rfl hP ?_
      refine f_ic rfl (by omega) (by omega) (fun _ => ?_) (fun c_9 => absurd (show ((P : Int) : Int) ≤ (p : Int) from (by omega)) c_9)
      refine f_iln 1 rfl hL rfl ?_
      exact f_ret1 rfl ⟨rfl, hw, hm⟩
    | succ j ih =>
      intro hc p a L hw hm hp9 hL
      refine f_iln 0 rfl hL rfl ?_
      refine f_aln 2 rfl hL rfl ?_
      refine m_gfi so55 ((P : Int)) rfl hw hm rfl hP ?_
      refine f_ic rfl (by omega) (by omega) (fun c_9 => absurd (show ((P : Int) : Int) ≤ (p : Int) from c_9) (by omega)) (fun _ => ?_)
      refine f_bipush (n := 10) rfl (by decide) ?_
      refine f_iln 1 rfl hL rfl ?_
      refine f_imul rfl ?_
      refine f_aln 2 rfl hL rfl ?_
      refine f_iln 3 rfl hL rfl ?_
      refine f_iln 0 rfl hL rfl ?_
      obtain ⟨K, eK⟩ : ∃ K : Int, K = ((Y / (N + 1) ^ j % (N + 1) : Nat) : Int) - 1 := ⟨_, rfl⟩
      refine m_k1 (t116 (j := j) hN hP hN4 hP5 hy hY (by omega) eK) hw hm rfl rfl rfl (m_ar so55 hw rfl) rfl (fun hc1 hw1 hm1 => ?_)
      refine f_iadd rfl ?_
      refine f_s [fi (1), fi ((10 * a) + K)] rfl rfl ?_
      refine f_iadd rfl ?_
      refine b_eq (x := 10 * a + ((Y / (N + 1) ^ j % (N + 1) : Nat) : Int)) (by omega) ?_
      refine f_istn [(2, fi (10 * a + ((Y / (N + 1) ^ j % (N + 1) : Nat) : Int))), (3, fi (p)), (0, .ref 55), (1, fi (y))] rfl (by decide) hL rfl (fun L1 hL1 => ?_)
      refine f_inc 1 [(3, fi (p + 1)), (2, fi (10 * a + ((Y / (N + 1) ^ j % (N + 1) : Nat) : Int))), (0, .ref 55), (1, fi (y))] rfl (by decide) hL1 rfl rfl (fun L2 hL2 => ?_)
      refine f_goto rfl ?_
      exact ih hc1 _ _ _ hw1 hm1 (by omega) (hL2.sel [0, 1, 2, 3] rfl)
  refine f_s [fi (0)] rfl rfl ?_
  refine f_istn [(2, fi (0)), (0, .ref 55), (1, fi (y))] rfl (by decide) hL rfl (fun L3 hL3 => ?_)
  refine f_s [fi (0)] rfl rfl ?_
  refine f_istn [(3, fi (0)), (2, fi (0)), (0, .ref 55), (1, fi (y))] rfl (by decide) hL3 rfl (fun L4 hL4 => ?_)
  exact hK P hc 0 0 _ hw hm (by omega) (hL4.sel [0, 1, 2, 3] rfl))
