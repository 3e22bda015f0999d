/-! Euclid of both -/
def eu : Nat → Int → Int → Option Int
  | 0, x, y => if y = 0 then some x else none
  | n + 1, x, y => if y = 0 then some x else eu n y (x % y)
def eG (a b : Int) : Int := (eu 40 a b).getD 0
theorem eu_r : ∀ (n : Nat) (x y g : Int), 0 ≤ x → x ≤ 1000 → 0 ≤ y → y ≤ 1000 → eu n x y = some g → 0 ≤ g ∧ g ≤ 1000
  | 0, x, y, g, x1, x2, y1, y2, h => by
    unfold eu at h
    split at h
    · cases h; exact ⟨x1, x2⟩
    · cases h
  | n + 1, x, y, g, x1, x2, y1, y2, h => by
    unfold eu at h
    split at h
    · cases h; exact ⟨x1, x2⟩
    · rename_i hy
      exact eu_r n y (x % y) g y1 y2 (Int.emod_nonneg x hy) (by have := Int.emod_lt_of_pos x (show 0 < y by omega); omega) h
theorem eu_ok : ∀ (n : Nat) (x y : Int), 0 ≤ x → 0 ≤ y → y < (n : Int) → (0 < x ∨ 0 < y) → ∃ g, eu n x y = some g ∧ 1 ≤ g
  | 0, x, y, x1, y1, h, _ => absurd h (by omega)
  | n + 1, x, y, x1, y1, h, h2 => by
    by_cases c : y = 0
    · exact ⟨x, by unfold eu; rw [if_pos c], by omega⟩
    · have d1 := Int.emod_nonneg x c
      have d2 := Int.emod_lt_of_pos x (show 0 < y by omega)
      obtain ⟨g, g1, g2⟩ := eu_ok n y (x % y) y1 d1 (by omega) (Or.inl (by omega))
      exact ⟨g, by unfold eu; rw [if_neg c]; exact g1, g2⟩
theorem eG_ok {a b : Int} (ha : 0 ≤ a) (hb : 1 ≤ b ∧ b ≤ 24) : eu 40 a b = some (eG a b) ∧ 1 ≤ eG a b := by
  obtain ⟨g, g1, g2⟩ := eu_ok 40 a b ha (by omega) (by omega) (Or.inr (by omega))
  unfold eG
  rw [g1]
  exact ⟨rfl, g2⟩
def fa (n : Int) : Int := if n ≤ 1 then 1 else if n = 2 then 2 else if n = 3 then 6 else 24
theorem fa_r (n : Int) : 1 ≤ fa n ∧ fa n ≤ 24 := by
  unfold fa
  split
  · decide
  · split
    · decide
    · split <;> decide
theorem t164 {m : Nat → Nat → Int} {a b g : Int} (a1 : 0 ≤ a) (a2 : a ≤ 1000) (b1 : 0 ≤ b) (b2 : b ≤ 1000) (he : eu 40 a b = some g) : h_M 164 [fi (a), fi (b)] m (some (fi (g))) m := h_M_of (R := ev_r164) rfl (fun hc hw hm => by
  have hL : f_L (lv_args 0 [fi (a), fi (b)]) [(0, fi (a)), (1, fi (b))] := f_L_of rfl
  generalize lv_args 0 [fi (a), fi (b)] = L at hL
  show x_W none (1, 0, 6, 2, 0, 0, 0, 0, 0, ev_t164) 0 L [] hc 0 0 _
  have hR := gi_R hm
  have hK : ∀ (n : Nat) (hc : ev_H) (s x y g : Int) (L : ev_L), y_in yGw hc → gi hc = m → 0 ≤ s → s + n ≤ 50 → 0 ≤ x → x ≤ 1000 → 0 ≤ y → y ≤ 1000 → eu n x y = some g → f_L L [(4, fi (s)), (2, fi (x)), (3, fi (y))] → x_W none (1, 0, 6, 2, 0, 0, 0, 0, 0, ev_t164) 7 L [] hc 0 0 (fun r' h' => r' = some (fi g) ∧ y_in yGw h' ∧ gi h' = m) := by
    intro n
    induction n with
    | zero =>
      intro hc s x y g L hw hm s1 s2 x1 x2 y1 y2 he hL
      refine f_il 0 rfl hL rfl ?_
      refine f_bipush (n := 50) rfl (by decide) ?_
      refine f_ic rfl (by omega) (by decide) (fun c1 => ?_) (fun c1 => ?_)
      · have c1 : (50 : Int) ≤ (s : Int) := c1
        refine f_iln 1 rfl hL rfl ?_
        unfold eu at he
        split at he
        · cases he
          exact f_ret1 rfl ⟨rfl, hw, hm⟩
        · cases he
      · have c1 : ¬ ((50 : Int) ≤ (s : Int)) := c1
        refine f_iln 2 rfl hL rfl ?_
        refine f_if rfl (by omega) (fun c2 => ?_) (fun c2 => ?_)
        · have c2 : (y : Int) = (0 : Int) := c2
          refine f_iln 1 rfl hL rfl ?_
          unfold eu at he
          rw [if_pos (by omega)] at he
          cases he
          exact f_ret1 rfl ⟨rfl, hw, hm⟩
        · have c2 : ¬ ((y : Int) = (0 : Int)) := c2
          unfold eu at he
          rw [if_neg (by omega)] at he
          cases he
    | succ n ih =>
      intro hc s x y g L hw hm s1 s2 x1 x2 y1 y2 he hL
      refine f_il 0 rfl hL rfl ?_
      refine f_bipush (n := 50) rfl (by decide) ?_
      refine f_ic rfl (by omega) (by decide) (fun c1 => ?_) (fun c1 => ?_)
      · have c1 : (50 : Int) ≤ (s : Int) := c1
        exact absurd s2 (by omega)
      · have c1 : ¬ ((50 : Int) ≤ (s : Int)) := c1
        refine f_iln 2 rfl hL rfl ?_
        refine f_if rfl (by omega) (fun c2 => ?_) (fun c2 => ?_)
        · have c2 : (y : Int) = (0 : Int) := c2
          refine f_iln 1 rfl hL rfl ?_
          unfold eu at he
          rw [if_pos (by omega)] at he
          cases he
          exact f_ret1 rfl ⟨rfl, hw, hm⟩
        · have c2 : ¬ ((y : Int) = (0 : Int)) := c2
          refine f_iln 1 rfl hL rfl ?_
          refine f_iln 2 rfl hL rfl ?_
          refine f_irem rfl (by omega) (by omega) (by omega) (by omega) ?_
          refine f_ist [(5, fi ((x) % (y))), (4, fi (s)), (2, fi (x)), (3, fi (y))] rfl (by decide) hL rfl (fun L1 hL1 => ?_)
          refine f_iln 3 rfl hL1 rfl ?_
          refine f_istn [(2, fi (y)), (5, fi ((x) % (y))), (4, fi (s)), (3, fi (y))] rfl (by decide) hL1 rfl (fun L2 hL2 => ?_)
          refine f_il 1 rfl hL2 rfl ?_
          refine f_istn [(3, fi ((x) % (y))), (2, fi (y)), (5, fi ((x) % (y))), (4, fi (s))] rfl (by decide) hL2 rfl (fun L3 hL3 => ?_)
          refine f_inc 3 [(4, fi (s + 1)), (3, fi ((x) % (y))), (2, fi (y)), (5, fi ((x) % (y)))] rfl (by decide) hL3 rfl rfl (fun L4 hL4 => ?_)
          refine f_goto rfl ?_
          unfold eu at he
          rw [if_neg (by omega)] at he
          have d1 := Int.emod_nonneg x (show y ≠ 0 by omega)
          have d2 := Int.emod_lt_of_pos x (show 0 < y by omega)
          exact ih hc _ _ _ g _ hw hm (by omega) (by omega) (by omega) (by omega) (by omega) (by omega) he (hL4.sel [0, 2, 1] rfl)
  refine f_iln 0 rfl hL rfl ?_
  refine f_istn [(2, fi (a)), (0, fi (a)), (1, fi (b))] rfl (by decide) hL rfl (fun L5 hL5 => ?_)
  refine f_iln 2 rfl hL5 rfl ?_
  refine f_istn [(3, fi (b)), (2, fi (a)), (0, fi (a)), (1, fi (b))] rfl (by decide) hL5 rfl (fun L6 hL6 => ?_)
  refine f_s [fi (0)] rfl rfl ?_
  refine f_ist [(4, fi (0)), (3, fi (b)), (2, fi (a)), (0, fi (a)), (1, fi (b))] rfl (by decide) hL6 rfl (fun L7 hL7 => ?_)
  exact hK 40 hc 0 a b g _ hw hm (by decide) (by decide) a1 a2 b1 b2 he (hL7.sel [0, 2, 1] rfl))
theorem t168 {m : Nat → Nat → Int} {a b g : Int} (a1 : 0 ≤ a) (a2 : a ≤ 1000) (b1 : 0 ≤ b) (b2 : b ≤ 1000) (he : eu 40 a b = some g) : h_M 168 [fi (a), fi (b)] m (some (fi (g))) m := h_M_of (R := ev_r168) rfl (fun hc hw hm => by
  have hL : f_L (lv_args 0 [fi (a), fi (b)]) [(0, fi (a)), (1, fi (b))] := f_L_of rfl
  generalize lv_args 0 [fi (a), fi (b)] = L at hL
  show x_W none (1, 0, 5, 2, 0, 0, 0, 0, 0, ev_t168) 0 L [] hc 0 0 _
  have hR := gi_R hm
  have hK : ∀ (n : Nat) (hc : ev_H) (x y g : Int) (L : ev_L), y_in yGw hc → gi hc = m → 0 ≤ x → x ≤ 1000 → 0 ≤ y → y ≤ 1000 → eu n x y = some g → f_L L [(2, fi (x)), (3, fi (y))] → x_W none (1, 0, 5, 2, 0, 0, 0, 0, 0, ev_t168) 13 L [] hc 0 0 (fun r' h' => r' = some (fi g) ∧ y_in yGw h' ∧ gi h' = m) := by
    intro n
    induction n with
    | zero =>
      intro hc x y g L hw hm x1 x2 y1 y2 he hL
      refine f_iln 1 rfl hL rfl ?_
      refine f_if rfl (by omega) (fun c2 => ?_) (fun c2 => ?_)
      · have c2 : (y : Int) = (0 : Int) := c2
        refine f_iln 0 rfl hL rfl ?_
        unfold eu at he
        rw [if_pos (by omega)] at he
        cases he
        exact f_ret1 rfl ⟨rfl, hw, hm⟩
      · have c2 : ¬ ((y : Int) = (0 : Int)) := c2
        unfold eu at he
        rw [if_neg (by omega)] at he
        cases he
    | succ n ih =>
      intro hc x y g L hw hm x1 x2 y1 y2 he hL
      refine f_iln 1 rfl hL rfl ?_
      refine f_if rfl (by omega) (fun c2 => ?_) (fun c2 => ?_)
      · have c2 : (y : Int) = (0 : Int) := c2
        refine f_iln 0 rfl hL rfl ?_
        unfold eu at he
        rw [if_pos (by omega)] at he
        cases he
        exact f_ret1 rfl ⟨rfl, hw, hm⟩
      · have c2 : ¬ ((y : Int) = (0 : Int)) := c2
        refine f_iln 0 rfl hL rfl ?_
        refine f_iln 1 rfl hL rfl ?_
        refine f_irem rfl (by omega) (by omega) (by omega) (by omega) ?_
        refine f_ist [(4, fi ((x) % (y))), (2, fi (x)), (3, fi (y))] rfl (by decide) hL rfl (fun L1 hL1 => ?_)
        refine f_iln 2 rfl hL1 rfl ?_
        refine f_istn [(2, fi (y)), (4, fi ((x) % (y))), (3, fi (y))] rfl (by decide) hL1 rfl (fun L2 hL2 => ?_)
        refine f_il 1 rfl hL2 rfl ?_
        refine f_istn [(3, fi ((x) % (y))), (2, fi (y)), (4, fi ((x) % (y)))] rfl (by decide) hL2 rfl (fun L3 hL3 => ?_)
        refine f_goto rfl ?_
        unfold eu at he
        rw [if_neg (by omega)] at he
        have d1 := Int.emod_nonneg x (show y ≠ 0 by omega)
        have d2 := Int.emod_lt_of_pos x (show 0 < y by omega)
        exact ih hc _ _ g _ hw hm (by omega) (by omega) (by omega) (by omega) he (hL3.sel [1, 0] rfl)
  refine f_iln 0 rfl hL rfl ?_
  refine f_if rfl (by omega) (fun _ => ?_) (fun c_9 => absurd (show (0 : Int) ≤ (a : Int) from (by omega)) c_9)
  refine f_iln 0 rfl hL rfl ?_
  refine f_istn [(2, fi (a)), (0, fi (a)), (1, fi (b))] rfl (by decide) hL rfl (fun L4 hL4 => ?_)
  refine f_iln 2 rfl hL4 rfl ?_
  refine f_istn [(3, fi (b)), (2, fi (a)), (0, fi (a)), (1, fi (b))] rfl (by decide) hL4 rfl (fun L5 hL5 => ?_)
  exact hK 40 hc a b g _ hw hm a1 a2 b1 b2 he (hL5.sel [1, 0] rfl))
theorem t165_0 {m : Nat → Nat → Int} {a b g : Int} (a1 : 0 ≤ a) (a2 : a ≤ 1000) (b1 : 0 ≤ b) (b2 : b ≤ 1000) (he : eu 40 a b = some g) (g1 : 1 ≤ g) : h_M 165 [fi (a), fi (b), fi (0)] m (some (fi (b.tdiv g))) m := h_M_of (R := ev_r165) rfl (fun hc hw hm => by
  have hL : f_L (lv_args 0 [fi (a), fi (b), fi (0)]) [(0, fi (a)), (1, fi (b)), (2, fi (0))] := f_L_of rfl
  generalize lv_args 0 [fi (a), fi (b), fi (0)] = L at hL
  show x_W none (1, 0, 5, 3, 0, 1, 25, 0, 0, ev_t165) 0 L [] hc 0 0 _
  have hR := gi_R hm
  refine f_iln 0 rfl hL rfl ?_
  refine f_iln 1 rfl hL rfl ?_
  refine m_k1 (t164 a1 a2 b1 b2 he) hw hm rfl rfl rfl rfl rfl (fun hc1 hw1 hm1 => ?_)
  refine f_istn [(3, fi (g)), (0, fi (a)), (1, fi (b)), (2, fi (0))] rfl (by decide) hL rfl (fun L1 hL1 => ?_)
  refine f_iln 3 rfl hL1 rfl ?_
  refine f_if rfl (by decide) (fun _ => ?_) (fun c_9 => absurd (show (0 : Int) = (0 : Int) from (by decide)) c_9)
  refine f_iln 2 rfl hL1 rfl ?_
  refine f_ist [(4, fi (b)), (3, fi (g)), (0, fi (a)), (1, fi (b)), (2, fi (0))] rfl (by decide) hL1 rfl (fun L2 hL2 => ?_)
  refine f_iln 1 rfl hL2 rfl ?_
  refine f_s [fi (1), fi (g)] rfl rfl ?_
  have hg := eu_r 40 a b g a1 a2 b1 b2 he
  refine f_ic rfl (by omega) (by decide) (fun c1 => ?_) (fun c1 => ?_)
  · have c1 : (g : Int) ≤ (1 : Int) := c1
    refine f_il 0 rfl hL2 rfl ?_
    exact f_ret1 rfl ⟨by rw [show g = 1 by omega, Int.tdiv_one], hw1, hm1⟩
  · have c1 : ¬ ((g : Int) ≤ (1 : Int)) := c1
    refine f_il 0 rfl hL2 rfl ?_
    refine f_iln 1 rfl hL2 rfl ?_
    refine f_idiv rfl (by omega) (by omega) (by omega) (by omega) ?_
    refine f_goto rfl ?_
    exact f_ret1 rfl ⟨rfl, hw1, hm1⟩)
theorem t165_1 {m : Nat → Nat → Int} {a b g : Int} (a1 : 0 ≤ a) (a2 : a ≤ 1000) (b1 : 0 ≤ b) (b2 : b ≤ 1000) (he : eu 40 a b = some g) (g1 : 1 ≤ g) : h_M 165 [fi (a), fi (b), fi (1)] m (some (fi (a.tdiv g))) m := h_M_of (R := ev_r165) rfl (fun hc hw hm => by
  have hL : f_L (lv_args 0 [fi (a), fi (b), fi (1)]) [(0, fi (a)), (1, fi (b)), (2, fi (1))] := f_L_of rfl
  generalize lv_args 0 [fi (a), fi (b), fi (1)] = L at hL
  show x_W none (1, 0, 5, 3, 0, 1, 25, 0, 0, ev_t165) 0 L [] hc 0 0 _
  have hR := gi_R hm
  refine f_iln 0 rfl hL rfl ?_
  refine f_iln 1 rfl hL rfl ?_
  refine m_k1 (t164 a1 a2 b1 b2 he) hw hm rfl rfl rfl rfl rfl (fun hc1 hw1 hm1 => ?_)
  refine f_istn [(3, fi (g)), (0, fi (a)), (1, fi (b)), (2, fi (1))] rfl (by decide) hL rfl (fun L1 hL1 => ?_)
  refine f_iln 3 rfl hL1 rfl ?_
  refine f_if rfl (by decide) (fun c_9 => absurd (show (1 : Int) = (0 : Int) from c_9) (by decide)) (fun _ => ?_)
  refine f_iln 1 rfl hL1 rfl ?_
  refine f_goto rfl ?_
  refine f_ist [(4, fi (a)), (3, fi (g)), (0, fi (a)), (1, fi (b)), (2, fi (1))] rfl (by decide) hL1 rfl (fun L2 hL2 => ?_)
  refine f_iln 1 rfl hL2 rfl ?_
  refine f_s [fi (1), fi (g)] rfl rfl ?_
  have hg := eu_r 40 a b g a1 a2 b1 b2 he
  refine f_ic rfl (by omega) (by decide) (fun c1 => ?_) (fun c1 => ?_)
  · have c1 : (g : Int) ≤ (1 : Int) := c1
    refine f_il 0 rfl hL2 rfl ?_
    exact f_ret1 rfl ⟨by rw [show g = 1 by omega, Int.tdiv_one], hw1, hm1⟩
  · have c1 : ¬ ((g : Int) ≤ (1 : Int)) := c1
    refine f_il 0 rfl hL2 rfl ?_
    refine f_iln 1 rfl hL2 rfl ?_
    refine f_idiv rfl (by omega) (by omega) (by omega) (by omega) ?_
    refine f_goto rfl ?_
    exact f_ret1 rfl ⟨rfl, hw1, hm1⟩)
theorem t162_0 {m : Nat → Nat → Int} : h_M 162 [fi (0)] m (some (fi (1))) m := h_M_of (R := ev_r162) rfl (fun hc hw hm => by
  have hL : f_L (lv_args 0 [fi (0)]) [(0, fi (0))] := f_L_of rfl
  generalize lv_args 0 [fi (0)] = L at hL
  show x_W none (1, 0, 3, 1, 0, 0, 0, 0, 0, ev_t162) 0 L [] hc 0 0 _
  have hR := gi_R hm
  refine f_s [fi (1)] rfl rfl ?_
  refine f_istn [(1, fi (1)), (0, fi (0))] rfl (by decide) hL rfl (fun L1 hL1 => ?_)
  refine f_s [fi (2)] rfl rfl ?_
  refine f_istn [(2, fi (2)), (1, fi (1)), (0, fi (0))] rfl (by decide) hL1 rfl (fun L2 hL2 => ?_)
  refine f_iln 0 rfl hL2 rfl ?_
  refine f_iln 2 rfl hL2 rfl ?_
  refine f_ic rfl (by decide) (by decide) (fun _ => ?_) (fun c_9 => absurd (show (0 : Int) < (2 : Int) from (by decide)) c_9)
  refine f_iln 1 rfl hL2 rfl ?_
  exact f_ret1 rfl ⟨rfl, hw, hm⟩)
theorem t162_1 {m : Nat → Nat → Int} : h_M 162 [fi (1)] m (some (fi (1))) m := h_M_of (R := ev_r162) rfl (fun hc hw hm => by
  have hL : f_L (lv_args 0 [fi (1)]) [(0, fi (1))] := f_L_of rfl
  generalize lv_args 0 [fi (1)] = L at hL
  show x_W none (1, 0, 3, 1, 0, 0, 0, 0, 0, ev_t162) 0 L [] hc 0 0 _
  have hR := gi_R hm
  refine f_s [fi (1)] rfl rfl ?_
  refine f_istn [(1, fi (1)), (0, fi (1))] rfl (by decide) hL rfl (fun L1 hL1 => ?_)
  refine f_s [fi (2)] rfl rfl ?_
  refine f_istn [(2, fi (2)), (1, fi (1)), (0, fi (1))] rfl (by decide) hL1 rfl (fun L2 hL2 => ?_)
  refine f_iln 0 rfl hL2 rfl ?_
  refine f_iln 2 rfl hL2 rfl ?_
  refine f_ic rfl (by decide) (by decide) (fun _ => ?_) (fun c_9 => absurd (show (1 : Int) < (2 : Int) from (by decide)) c_9)
  refine f_iln 1 rfl hL2 rfl ?_
  exact f_ret1 rfl ⟨rfl, hw, hm⟩)
theorem t162_2 {m : Nat → Nat → Int} : h_M 162 [fi (2)] m (some (fi (2))) m := h_M_of (R := ev_r162) rfl (fun hc hw hm => by
  have hL : f_L (lv_args 0 [fi (2)]) [(0, fi (2))] := f_L_of rfl
  generalize lv_args 0 [fi (2)] = L at hL
  show x_W none (1, 0, 3, 1, 0, 0, 0, 0, 0, ev_t162) 0 L [] hc 0 0 _
  have hR := gi_R hm
  refine f_s [fi (1)] rfl rfl ?_
  refine f_istn [(1, fi (1)), (0, fi (2))] rfl (by decide) hL rfl (fun L1 hL1 => ?_)
  refine f_s [fi (2)] rfl rfl ?_
  refine f_istn [(2, fi (2)), (1, fi (1)), (0, fi (2))] rfl (by decide) hL1 rfl (fun L2 hL2 => ?_)
  refine f_iln 0 rfl hL2 rfl ?_
  refine f_iln 2 rfl hL2 rfl ?_
  refine f_ic rfl (by decide) (by decide) (fun c_9 => absurd (show (2 : Int) < (2 : Int) from c_9) (by decide)) (fun _ => ?_)
  refine f_iln 0 rfl hL2 rfl ?_
  refine f_s [fi (4), fi (2)] rfl rfl ?_
  refine f_ic rfl (by decide) (by decide) (fun c_9 => absurd (show (4 : Int) < (2 : Int) from c_9) (by decide)) (fun _ => ?_)
  refine f_iln 1 rfl hL2 rfl ?_
  refine f_iln 0 rfl hL2 rfl ?_
  refine f_imul rfl ?_
  refine b_eq (x := 2) (by decide) ?_
  refine f_istn [(1, fi (2)), (2, fi (2)), (0, fi (2))] rfl (by decide) hL2 rfl (fun L3 hL3 => ?_)
  refine f_inc 1 [(2, fi (3)), (1, fi (2)), (0, fi (2))] rfl (by decide) hL3 rfl rfl (fun L4 hL4 => ?_)
  refine f_goto rfl ?_
  refine f_iln 0 rfl hL4 rfl ?_
  refine f_iln 2 rfl hL4 rfl ?_
  refine f_ic rfl (by decide) (by decide) (fun _ => ?_) (fun c_9 => absurd (show (2 : Int) < (3 : Int) from (by decide)) c_9)
  refine f_iln 1 rfl hL4 rfl ?_
  exact f_ret1 rfl ⟨rfl, hw, hm⟩)
theorem t162_3 {m : Nat → Nat → Int} : h_M 162 [fi (3)] m (some (fi (6))) m := h_M_of (R := ev_r162) rfl (fun hc hw hm => by
  have hL : f_L (lv_args 0 [fi (3)]) [(0, fi (3))] := f_L_of rfl
  generalize lv_args 0 [fi (3)] = L at hL
  show x_W none (1, 0, 3, 1, 0, 0, 0, 0, 0, ev_t162) 0 L [] hc 0 0 _
  have hR := gi_R hm
  refine f_s [fi (1)] rfl rfl ?_
  refine f_istn [(1, fi (1)), (0, fi (3))] rfl (by decide) hL rfl (fun L1 hL1 => ?_)
  refine f_s [fi (2)] rfl rfl ?_
  refine f_istn [(2, fi (2)), (1, fi (1)), (0, fi (3))] rfl (by decide) hL1 rfl (fun L2 hL2 => ?_)
  refine f_iln 0 rfl hL2 rfl ?_
  refine f_iln 2 rfl hL2 rfl ?_
  refine f_ic rfl (by decide) (by decide) (fun c_9 => absurd (show (3 : Int) < (2 : Int) from c_9) (by decide)) (fun _ => ?_)
  refine f_iln 0 rfl hL2 rfl ?_
  refine f_s [fi (4), fi (2)] rfl rfl ?_
  refine f_ic rfl (by decide) (by decide) (fun c_9 => absurd (show (4 : Int) < (2 : Int) from c_9) (by decide)) (fun _ => ?_)
  refine f_iln 1 rfl hL2 rfl ?_
  refine f_iln 0 rfl hL2 rfl ?_
  refine f_imul rfl ?_
  refine b_eq (x := 2) (by decide) ?_
  refine f_istn [(1, fi (2)), (2, fi (2)), (0, fi (3))] rfl (by decide) hL2 rfl (fun L3 hL3 => ?_)
  refine f_inc 1 [(2, fi (3)), (1, fi (2)), (0, fi (3))] rfl (by decide) hL3 rfl rfl (fun L4 hL4 => ?_)
  refine f_goto rfl ?_
  refine f_iln 0 rfl hL4 rfl ?_
  refine f_iln 2 rfl hL4 rfl ?_
  refine f_ic rfl (by decide) (by decide) (fun c_9 => absurd (show (3 : Int) < (3 : Int) from c_9) (by decide)) (fun _ => ?_)
  refine f_iln 0 rfl hL4 rfl ?_
  refine f_s [fi (4), fi (3)] rfl rfl ?_
  refine f_ic rfl (by decide) (by decide) (fun c_9 => absurd (show (4 : Int) < (3 : Int) from c_9) (by decide)) (fun _ => ?_)
  refine f_iln 1 rfl hL4 rfl ?_
  refine f_iln 0 rfl hL4 rfl ?_
  refine f_imul rfl ?_
  refine b_eq (x := 6) (by decide) ?_
  refine f_istn [(1, fi (6)), (2, fi (3)), (0, fi (3))] rfl (by decide) hL4 rfl (fun L5 hL5 => ?_)
  refine f_inc 1 [(2, fi (4)), (1, fi (6)), (0, fi (3))] rfl (by decide) hL5 rfl rfl (fun L6 hL6 => ?_)
  refine f_goto rfl ?_
  refine f_iln 0 rfl hL6 rfl ?_
  refine f_iln 2 rfl hL6 rfl ?_
  refine f_ic rfl (by decide) (by decide) (fun _ => ?_) (fun c_9 => absurd (show (3 : Int) < (4 : Int) from (by decide)) c_9)
  refine f_iln 1 rfl hL6 rfl ?_
  exact f_ret1 rfl ⟨rfl, hw, hm⟩)
theorem t162_4 {m : Nat → Nat → Int} : h_M 162 [fi (4)] m (some (fi (24))) m := h_M_of (R := ev_r162) rfl (fun hc hw hm => by
  have hL : f_L (lv_args 0 [fi (4)]) [(0, fi (4))] := f_L_of rfl
  generalize lv_args 0 [fi (4)] = L at hL
  show x_W none (1, 0, 3, 1, 0, 0, 0, 0, 0, ev_t162) 0 L [] hc 0 0 _
  have hR := gi_R hm
  refine f_s [fi (1)] rfl rfl ?_
  refine f_istn [(1, fi (1)), (0, fi (4))] rfl (by decide) hL rfl (fun L1 hL1 => ?_)
  refine f_s [fi (2)] rfl rfl ?_
  refine f_istn [(2, fi (2)), (1, fi (1)), (0, fi (4))] rfl (by decide) hL1 rfl (fun L2 hL2 => ?_)
  refine f_iln 0 rfl hL2 rfl ?_
  refine f_iln 2 rfl hL2 rfl ?_
  refine f_ic rfl (by decide) (by decide) (fun c_9 => absurd (show (4 : Int) < (2 : Int) from c_9) (by decide)) (fun _ => ?_)
  refine f_iln 0 rfl hL2 rfl ?_
  refine f_s [fi (4), fi (2)] rfl rfl ?_
  refine f_ic rfl (by decide) (by decide) (fun c_9 => absurd (show (4 : Int) < (2 : Int) from c_9) (by decide)) (fun _ => ?_)
  refine f_iln 1 rfl hL2 rfl ?_
  refine f_iln 0 rfl hL2 rfl ?_
  refine f_imul rfl ?_
  refine b_eq (x := 2) (by decide) ?_
  refine f_istn [(1, fi (2)), (2, fi (2)), (0, fi (4))] rfl (by decide) hL2 rfl (fun L3 hL3 => ?_)
  refine f_inc 1 [(2, fi (3)), (1, fi (2)), (0, fi (4))] rfl (by decide) hL3 rfl rfl (fun L4 hL4 => ?_)
  refine f_goto rfl ?_
  refine f_iln 0 rfl hL4 rfl ?_
  refine f_iln 2 rfl hL4 rfl ?_
  refine f_ic rfl (by decide) (by decide) (fun c_9 => absurd (show (4 : Int) < (3 : Int) from c_9) (by decide)) (fun _ => ?_)
  refine f_iln 0 rfl hL4 rfl ?_
  refine f_s [fi (4), fi (3)] rfl rfl ?_
  refine f_ic rfl (by decide) (by decide) (fun c_9 => absurd (show (4 : Int) < (3 : Int) from c_9) (by decide)) (fun _ => ?_)
  refine f_iln 1 rfl hL4 rfl ?_
  refine f_iln 0 rfl hL4 rfl ?_
  refine f_imul rfl ?_
  refine b_eq (x := 6) (by decide) ?_
  refine f_istn [(1, fi (6)), (2, fi (3)), (0, fi (4))] rfl (by decide) hL4 rfl (fun L5 hL5 => ?_)
  refine f_inc 1 [(2, fi (4)), (1, fi (6)), (0, fi (4))] rfl (by decide) hL5 rfl rfl (fun L6 hL6 => ?_)
  refine f_goto rfl ?_
  refine f_iln 0 rfl hL6 rfl ?_
  refine f_iln 2 rfl hL6 rfl ?_
  refine f_ic rfl (by decide) (by decide) (fun c_9 => absurd (show (4 : Int) < (4 : Int) from c_9) (by decide)) (fun _ => ?_)
  refine f_iln 0 rfl hL6 rfl ?_
  refine f_s [fi (4), fi (4)] rfl rfl ?_
  refine f_ic rfl (by decide) (by decide) (fun c_9 => absurd (show (4 : Int) < (4 : Int) from c_9) (by decide)) (fun _ => ?_)
  refine f_iln 1 rfl hL6 rfl ?_
  refine f_iln 0 rfl hL6 rfl ?_
  refine f_imul rfl ?_
  refine b_eq (x := 24) (by decide) ?_
  refine f_istn [(1, fi (24)), (2, fi (4)), (0, fi (4))] rfl (by decide) hL6 rfl (fun L7 hL7 => ?_)
  refine f_inc 1 [(2, fi (5)), (1, fi (24)), (0, fi (4))] rfl (by decide) hL7 rfl rfl (fun L8 hL8 => ?_)
  refine f_goto rfl ?_
  refine f_iln 0 rfl hL8 rfl ?_
  refine f_iln 2 rfl hL8 rfl ?_
  refine f_ic rfl (by decide) (by decide) (fun _ => ?_) (fun c_9 => absurd (show (4 : Int) < (5 : Int) from (by decide)) c_9)
  refine f_iln 1 rfl hL8 rfl ?_
  exact f_ret1 rfl ⟨rfl, hw, hm⟩)
theorem t162 {m : Nat → Nat → Int} {n : Int} (hn9 : 0 ≤ n ∧ n ≤ 4) : h_M 162 [fi (n)] m (some (fi (fa n))) m := by
  have : n = 0 ∨ n = 1 ∨ n = 2 ∨ n = 3 ∨ n = 4 := by omega
  rcases this with rfl | rfl | rfl | rfl | rfl
  · exact t162_0
  · exact t162_1
  · exact t162_2
  · exact t162_3
  · exact t162_4
theorem t167_0 {m : Nat → Nat → Int} : h_M 167 [fi (0)] m (some (fi (1))) m := h_M_of (R := ev_r167) rfl (fun hc hw hm => by
  have hL : f_L (lv_args 0 [fi (0)]) [(0, fi (0))] := f_L_of rfl
  generalize lv_args 0 [fi (0)] = L at hL
  show x_W none (1, 0, 3, 1, 0, 0, 0, 0, 0, ev_t167) 0 L [] hc 0 0 _
  have hR := gi_R hm
  refine f_s [fi (1)] rfl rfl ?_
  refine f_istn [(1, fi (1)), (0, fi (0))] rfl (by decide) hL rfl (fun L1 hL1 => ?_)
  refine f_s [fi (2)] rfl rfl ?_
  refine f_istn [(2, fi (2)), (1, fi (1)), (0, fi (0))] rfl (by decide) hL1 rfl (fun L2 hL2 => ?_)
  refine f_iln 0 rfl hL2 rfl ?_
  refine f_iln 2 rfl hL2 rfl ?_
  refine f_ic rfl (by decide) (by decide) (fun _ => ?_) (fun c_9 => absurd (show (0 : Int) < (2 : Int) from (by decide)) c_9)
  refine f_iln 1 rfl hL2 rfl ?_
  exact f_ret1 rfl ⟨rfl, hw, hm⟩)
theorem t167_1 {m : Nat → Nat → Int} : h_M 167 [fi (1)] m (some (fi (1))) m := h_M_of (R := ev_r167) rfl (fun hc hw hm => by
  have hL : f_L (lv_args 0 [fi (1)]) [(0, fi (1))] := f_L_of rfl
  generalize lv_args 0 [fi (1)] = L at hL
  show x_W none (1, 0, 3, 1, 0, 0, 0, 0, 0, ev_t167) 0 L [] hc 0 0 _
  have hR := gi_R hm
  refine f_s [fi (1)] rfl rfl ?_
  refine f_istn [(1, fi (1)), (0, fi (1))] rfl (by decide) hL rfl (fun L1 hL1 => ?_)
  refine f_s [fi (2)] rfl rfl ?_
  refine f_istn [(2, fi (2)), (1, fi (1)), (0, fi (1))] rfl (by decide) hL1 rfl (fun L2 hL2 => ?_)
  refine f_iln 0 rfl hL2 rfl ?_
  refine f_iln 2 rfl hL2 rfl ?_
  refine f_ic rfl (by decide) (by decide) (fun _ => ?_) (fun c_9 => absurd (show (1 : Int) < (2 : Int) from (by decide)) c_9)
  refine f_iln 1 rfl hL2 rfl ?_
  exact f_ret1 rfl ⟨rfl, hw, hm⟩)
theorem t167_2 {m : Nat → Nat → Int} : h_M 167 [fi (2)] m (some (fi (2))) m := h_M_of (R := ev_r167) rfl (fun hc hw hm => by
  have hL : f_L (lv_args 0 [fi (2)]) [(0, fi (2))] := f_L_of rfl
  generalize lv_args 0 [fi (2)] = L at hL
  show x_W none (1, 0, 3, 1, 0, 0, 0, 0, 0, ev_t167) 0 L [] hc 0 0 _
  have hR := gi_R hm
  refine f_s [fi (1)] rfl rfl ?_
  refine f_istn [(1, fi (1)), (0, fi (2))] rfl (by decide) hL rfl (fun L1 hL1 => ?_)
  refine f_s [fi (2)] rfl rfl ?_
  refine f_istn [(2, fi (2)), (1, fi (1)), (0, fi (2))] rfl (by decide) hL1 rfl (fun L2 hL2 => ?_)
  refine f_iln 0 rfl hL2 rfl ?_
  refine f_iln 2 rfl hL2 rfl ?_
  refine f_ic rfl (by decide) (by decide) (fun c_9 => absurd (show (2 : Int) < (2 : Int) from c_9) (by decide)) (fun _ => ?_)
  refine f_iln 1 rfl hL2 rfl ?_
  refine f_iln 0 rfl hL2 rfl ?_
  refine f_imul rfl ?_
  refine b_eq (x := 2) (by decide) ?_
  refine f_istn [(1, fi (2)), (2, fi (2)), (0, fi (2))] rfl (by decide) hL2 rfl (fun L3 hL3 => ?_)
  refine f_inc 1 [(2, fi (3)), (1, fi (2)), (0, fi (2))] rfl (by decide) hL3 rfl rfl (fun L4 hL4 => ?_)
  refine f_goto rfl ?_
  refine f_iln 0 rfl hL4 rfl ?_
  refine f_iln 2 rfl hL4 rfl ?_
  refine f_ic rfl (by decide) (by decide) (fun _ => ?_) (fun c_9 => absurd (show (2 : Int) < (3 : Int) from (by decide)) c_9)
  refine f_iln 1 rfl hL4 rfl ?_
  exact f_ret1 rfl ⟨rfl, hw, hm⟩)
theorem t167_3 {m : Nat → Nat → Int} : h_M 167 [fi (3)] m (some (fi (6))) m := h_M_of (R := ev_r167) rfl (fun hc hw hm => by
  have hL : f_L (lv_args 0 [fi (3)]) [(0, fi (3))] := f_L_of rfl
  generalize lv_args 0 [fi (3)] = L at hL
  show x_W none (1, 0, 3, 1, 0, 0, 0, 0, 0, ev_t167) 0 L [] hc 0 0 _
  have hR := gi_R hm
  refine f_s [fi (1)] rfl rfl ?_
  refine f_istn [(1, fi (1)), (0, fi (3))] rfl (by decide) hL rfl (fun L1 hL1 => ?_)
  refine f_s [fi (2)] rfl rfl ?_
  refine f_istn [(2, fi (2)), (1, fi (1)), (0, fi (3))] rfl (by decide) hL1 rfl (fun L2 hL2 => ?_)
  refine f_iln 0 rfl hL2 rfl ?_
  refine f_iln 2 rfl hL2 rfl ?_
  refine f_ic rfl (by decide) (by decide) (fun c_9 => absurd (show (3 : Int) < (2 : Int) from c_9) (by decide)) (fun _ => ?_)
  refine f_iln 1 rfl hL2 rfl ?_
  refine f_iln 0 rfl hL2 rfl ?_
  refine f_imul rfl ?_
  refine b_eq (x := 2) (by decide) ?_
  refine f_istn [(1, fi (2)), (2, fi (2)), (0, fi (3))] rfl (by decide) hL2 rfl (fun L3 hL3 => ?_)
  refine f_inc 1 [(2, fi (3)), (1, fi (2)), (0, fi (3))] rfl (by decide) hL3 rfl rfl (fun L4 hL4 => ?_)
  refine f_goto rfl ?_
  refine f_iln 0 rfl hL4 rfl ?_
  refine f_iln 2 rfl hL4 rfl ?_
  refine f_ic rfl (by decide) (by decide) (fun c_9 => absurd (show (3 : Int) < (3 : Int) from c_9) (by decide)) (fun _ => ?_)
  refine f_iln 1 rfl hL4 rfl ?_
  refine f_iln 0 rfl hL4 rfl ?_
  refine f_imul rfl ?_
  refine b_eq (x := 6) (by decide) ?_
  refine f_istn [(1, fi (6)), (2, fi (3)), (0, fi (3))] rfl (by decide) hL4 rfl (fun L5 hL5 => ?_)
  refine f_inc 1 [(2, fi (4)), (1, fi (6)), (0, fi (3))] rfl (by decide) hL5 rfl rfl (fun L6 hL6 => ?_)
  refine f_goto rfl ?_
  refine f_iln 0 rfl hL6 rfl ?_
  refine f_iln 2 rfl hL6 rfl ?_
  refine f_ic rfl (by decide) (by decide) (fun _ => ?_) (fun c_9 => absurd (show (3 : Int) < (4 : Int) from (by decide)) c_9)
  refine f_iln 1 rfl hL6 rfl ?_
  exact f_ret1 rfl ⟨rfl, hw, hm⟩)
theorem t167_4 {m : Nat → Nat → Int} : h_M 167 [fi (4)] m (some (fi (24))) m := h_M_of (R := ev_r167) rfl (fun hc hw hm => by
  have hL : f_L (lv_args 0 [fi (4)]) [(0, fi (4))] := f_L_of rfl
  generalize lv_args 0 [fi (4)] = L at hL
  show x_W none (1, 0, 3, 1, 0, 0, 0, 0, 0, ev_t167) 0 L [] hc 0 0 _
  have hR := gi_R hm
  refine f_s [fi (1)] rfl rfl ?_
  refine f_istn [(1, fi (1)), (0, fi (4))] rfl (by decide) hL rfl (fun L1 hL1 => ?_)
  refine f_s [fi (2)] rfl rfl ?_
  refine f_istn [(2, fi (2)), (1, fi (1)), (0, fi (4))] rfl (by decide) hL1 rfl (fun L2 hL2 => ?_)
  refine f_iln 0 rfl hL2 rfl ?_
  refine f_iln 2 rfl hL2 rfl ?_
  refine f_ic rfl (by decide) (by decide) (fun c_9 => absurd (show (4 : Int) < (2 : Int) from c_9) (by decide)) (fun _ => ?_)
  refine f_iln 1 rfl hL2 rfl ?_
  refine f_iln 0 rfl hL2 rfl ?_
  refine f_imul rfl ?_
  refine b_eq (x := 2) (by decide) ?_
  refine f_istn [(1, fi (2)), (2, fi (2)), (0, fi (4))] rfl (by decide) hL2 rfl (fun L3 hL3 => ?_)
  refine f_inc 1 [(2, fi (3)), (1, fi (2)), (0, fi (4))] rfl (by decide) hL3 rfl rfl (fun L4 hL4 => ?_)
  refine f_goto rfl ?_
  refine f_iln 0 rfl hL4 rfl ?_
  refine f_iln 2 rfl hL4 rfl ?_
  refine f_ic rfl (by decide) (by decide) (fun c_9 => absurd (show (4 : Int) < (3 : Int) from c_9) (by decide)) (fun _ => ?_)
  refine f_iln 1 rfl hL4 rfl ?_
  refine f_iln 0 rfl hL4 rfl ?_
  refine f_imul rfl ?_
  refine b_eq (x := 6) (by decide) ?_
  refine f_istn [(1, fi (6)), (2, fi (3)), (0, fi (4))] rfl (by decide) hL4 rfl (fun L5 hL5 => ?_)
  refine f_inc 1 [(2, fi (4)), (1, fi (6)), (0, fi (4))] rfl (by decide) hL5 rfl rfl (fun L6 hL6 => ?_)
  refine f_goto rfl ?_
  refine f_iln 0 rfl hL6 rfl ?_
  refine f_iln 2 rfl hL6 rfl ?_
  refine f_ic rfl (by decide) (by decide) (fun c_9 => absurd (show (4 : Int) < (4 : Int) from c_9) (by decide)) (fun _ => ?_)
  refine f_iln 1 rfl hL6 rfl ?_
  refine f_iln 0 rfl hL6 rfl ?_
  refine f_imul rfl ?_
  refine b_eq (x := 24) (by decide) ?_
  refine f_istn [(1, fi (24)), (2, fi (4)), (0, fi (4))] rfl (by decide) hL6 rfl (fun L7 hL7 => ?_)
  refine f_inc 1 [(2, fi (5)), (1, fi (24)), (0, fi (4))] rfl (by decide) hL7 rfl rfl (fun L8 hL8 => ?_)
  refine f_goto rfl ?_
  refine f_iln 0 rfl hL8 rfl ?_
  refine f_iln 2 rfl hL8 rfl ?_
  refine f_ic rfl (by decide) (by decide) (fun _ => ?_) (fun c_9 => absurd (show (4 : Int) < (5 : Int) from (by decide)) c_9)
  refine f_iln 1 rfl hL8 rfl ?_
  exact f_ret1 rfl ⟨rfl, hw, hm⟩)
theorem t167 {m : Nat → Nat → Int} {n : Int} (hn9 : 0 ≤ n ∧ n ≤ 4) : h_M 167 [fi (n)] m (some (fi (fa n))) m := by
  have : n = 0 ∨ n = 1 ∨ n = 2 ∨ n = 3 ∨ n = 4 := by omega
  rcases this with rfl | rfl | rfl | rfl | rfl
  · exact t167_0
  · exact t167_1
  · exact t167_2
  · exact t167_3
  · exact t167_4
