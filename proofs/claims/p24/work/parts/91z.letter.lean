/-! letter of both -/
def eu : Nat → Int → Int → Option Int
  | 0, x, y => if y = 0 then some x else none
  | n + 1, x, y => if y = 0 then some x else eu n y (x % y)
def okp (e : Int × Int) : Bool := match eu 40 (e.1 - e.2) e.1 with
  | some g => decide (1 ≤ g) && (decide (0 ≤ e.1 - e.2) && (decide (1 ≤ e.1) && (decide (e.1 ≤ 625) && (decide (0 ≤ e.2) && decide (e.2 ≤ 625)))))
  | none => false
def lQ : List (Int × Int) := [(1, 1), (1, 0), (2, 1), (3, 2), (4, 3), (5, 4)]
def lS : Nat → List (Int × Int)
  | 0 => [(1, 1)]
  | n + 1 => (lS n).flatMap (fun e => lQ.map (fun q => (e.1 * q.1, e.2 * q.2)))
theorem lS_ok : ((lS 0).all okp && ((lS 1).all okp && ((lS 2).all okp && ((lS 3).all okp && (lS 4).all okp)))) = true := by decide +kernel
theorem lS_at {k : Nat} (hk : k < 5) {e : Int × Int} (h : e ∈ lS k) : okp e = true := by
  have := lS_ok
  simp only [Bool.and_eq_true, List.all_eq_true] at this
  obtain ⟨h0, h1, h2, h3, h4⟩ := this
  have : k = 0 ∨ k = 1 ∨ k = 2 ∨ k = 3 ∨ k = 4 := by omega
  rcases this with rfl | rfl | rfl | rfl | rfl
  · exact h0 e h
  · exact h1 e h
  · exact h2 e h
  · exact h3 e h
  · exact h4 e h
theorem lS_s {k : Nat} {A B a b : Int} (h : (A, B) ∈ lS k) (hq : (a, b) ∈ lQ) : (A * a, B * b) ∈ lS (k + 1) := List.mem_flatMap.mpr ⟨(A, B), h, List.mem_map.mpr ⟨(a, b), hq, rfl⟩⟩
theorem lS_1 {k : Nat} {A B : Int} (h : (A, B) ∈ lS k) : (A, B) ∈ lS (k + 1) := by
  have := lS_s h (a := 1) (b := 1) (by decide)
  rw [Int.mul_one, Int.mul_one] at this
  exact this
theorem lQ_c {c : Int} (h1 : 1 ≤ c) (h2 : c ≤ 5) : (c, c - 1) ∈ lQ := by
  have : c = 1 ∨ c = 2 ∨ c = 3 ∨ c = 4 ∨ c = 5 := by omega
  rcases this with rfl | rfl | rfl | rfl | rfl <;> decide
def eG (a b : Int) : Int := (eu 40 a b).getD 0
theorem okp_r {A B : Int} (h : okp (A, B) = true) : eu 40 (A - B) A = some (eG (A - B) A) ∧ 1 ≤ eG (A - B) A ∧ 0 ≤ A - B ∧ 1 ≤ A ∧ A ≤ 625 ∧ 0 ≤ B ∧ B ≤ 625 := by
  unfold okp at h
  unfold eG
  cases e : eu 40 ((A, B).1 - (A, B).2) (A, B).1 with
  | none => rw [e] at h; cases h
  | some g =>
    rw [e] at h
    have e : eu 40 (A - B) A = some g := e
    simp only [Bool.and_eq_true, decide_eq_true_eq] at h
    exact ⟨rfl, h.1, h.2.1, h.2.2.1, h.2.2.2.1, h.2.2.2.2.1, h.2.2.2.2.2⟩
theorem eu_r : ∀ (n : Nat) (x y g : Int), 0 ≤ x → x ≤ 1000 → 0 ≤ y → y ≤ 1000 → eu n x y = some g → 0 ≤ g ∧ g ≤ 1000
  | 0, x, y, g, x1, x2, y1, y2, h => by
    unfold eu at h
    split at h
    · cases h; exact ⟨x1, x2⟩
    · cases h
  | n + 1, x, y, g, x1, x2, y1, y2, h => by
    unfold eu at h
    split at h
    · cases h; exact ⟨x1, x2⟩
    · rename_i hy
      exact eu_r n y (x % y) g y1 y2 (Int.emod_nonneg x hy) (by have := Int.emod_lt_of_pos x (show 0 < y by omega); omega) h
theorem t164 {m : Nat → Nat → Int} {a b g : Int} (a1 : 0 ≤ a) (a2 : a ≤ 1000) (b1 : 0 ≤ b) (b2 : b ≤ 1000) (he : eu 40 a b = some g) : h_M 164 [fi (a), fi (b)] m (some (fi (g))) m := h_M_of (R := ev_r164) rfl (fun hc hw hm => by
  have hL : f_L (lv_args 0 [fi (a), fi (b)]) [(0, fi (a)), (1, fi (b))] := f_L_of rfl
  generalize lv_args 0 [fi (a), fi (b)] = L at hL
  show x_W none (1, 0, 6, 2, 0, 0, 0, 0, 0, ev_t164) 0 L [] hc 0 0 _
  have hR := gi_R hm
  have hK : ∀ (n : Nat) (hc : ev_H) (s x y g : Int) (L : ev_L), y_in yGw hc → gi hc = m → 0 ≤ s → s + n ≤ 50 → 0 ≤ x → x ≤ 1000 → 0 ≤ y → y ≤ 1000 → eu n x y = some g → f_L L [(4, fi (s)), (2, fi (x)), (3, fi (y))] → x_W none (1, 0, 6, 2, 0, 0, 0, 0, 0, ev_t164) 7 L [] hc 0 0 (fun r' h' => r' = some (fi g) ∧ y_in yGw h' ∧ gi h' = m) := by
    intro n
    induction n with
    | zero =>
      intro hc s x y g L hw hm s1 s2 x1 x2 y1 y2 he hL
      refine f_il 0 rfl hL rfl ?_
      refine f_bipush (n := 50) rfl (by decide) ?_
      refine f_ic rfl (by omega) (by decide) (fun c1 => ?_) (fun c1 => ?_)
      · have c1 : (50 : Int) ≤ (s : Int) := c1
        refine f_iln 1 rfl hL rfl ?_
        unfold eu at he
        split at he
        · cases he
          exact f_ret1 rfl ⟨rfl, hw, hm⟩
        · cases he
      · have c1 : ¬ ((50 : Int) ≤ (s : Int)) := c1
        refine f_iln 2 rfl hL rfl ?_
        refine f_if rfl (by omega) (fun c2 => ?_) (fun c2 => ?_)
        · have c2 : (y : Int) = (0 : Int) := c2
          refine f_iln 1 rfl hL rfl ?_
          unfold eu at he
          rw [if_pos (by omega)] at he
          cases he
          exact f_ret1 rfl ⟨rfl, hw, hm⟩
        · have c2 : ¬ ((y : Int) = (0 : Int)) := c2
          unfold eu at he
          rw [if_neg (by omega)] at he
          cases he
    | succ n ih =>
      intro hc s x y g L hw hm s1 s2 x1 x2 y1 y2 he hL
      refine f_il 0 rfl hL rfl ?_
      refine f_bipush (n := 50) rfl (by decide) ?_
      refine f_ic rfl (by omega) (by decide) (fun c1 => ?_) (fun c1 => ?_)
      · have c1 : (50 : Int) ≤ (s : Int) := c1
        exact absurd s2 (by omega)
      · have c1 : ¬ ((50 : Int) ≤ (s : Int)) := c1
        refine f_iln 2 rfl hL rfl ?_
        refine f_if rfl (by omega) (fun c2 => ?_) (fun c2 => ?_)
        · have c2 : (y : Int) = (0 : Int) := c2
          refine f_iln 1 rfl hL rfl ?_
          unfold eu at he
          rw [if_pos (by omega)] at he
          cases he
          exact f_ret1 rfl ⟨rfl, hw, hm⟩
        · have c2 : ¬ ((y : Int) = (0 : Int)) := c2
          refine f_iln 1 rfl hL rfl ?_
          refine f_iln 2 rfl hL rfl ?_
          refine f_irem rfl (by omega) (by omega) (by omega) (by omega) ?_
          refine f_ist [(5, fi ((x) % (y))), (4, fi (s)), (2, fi (x)), (3, fi (y))] rfl (by decide) hL rfl (fun L1 hL1 => ?_)
          refine f_iln 3 rfl hL1 rfl ?_
          refine f_istn [(2, fi (y)), (5, fi ((x) % (y))), (4, fi (s)), (3, fi (y))] rfl (by decide) hL1 rfl (fun L2 hL2 => ?_)
          refine f_il 1 rfl hL2 rfl ?_
          refine f_istn [(3, fi ((x) % (y))), (2, fi (y)), (5, fi ((x) % (y))), (4, fi (s))] rfl (by decide) hL2 rfl (fun L3 hL3 => ?_)
          refine f_inc 3 [(4, fi (s + 1)), (3, fi ((x) % (y))), (2, fi (y)), (5, fi ((x) % (y)))] rfl (by decide) hL3 rfl rfl (fun L4 hL4 => ?_)
          refine f_goto rfl ?_
          unfold eu at he
          rw [if_neg (by omega)] at he
          have d1 := Int.emod_nonneg x (show y ≠ 0 by omega)
          have d2 := Int.emod_lt_of_pos x (show 0 < y by omega)
          exact ih hc _ _ _ g _ hw hm (by omega) (by omega) (by omega) (by omega) (by omega) (by omega) he (hL4.sel [0, 2, 1] rfl)
  refine f_iln 0 rfl hL rfl ?_
  refine f_istn [(2, fi (a)), (0, fi (a)), (1, fi (b))] rfl (by decide) hL rfl (fun L5 hL5 => ?_)
  refine f_iln 2 rfl hL5 rfl ?_
  refine f_istn [(3, fi (b)), (2, fi (a)), (0, fi (a)), (1, fi (b))] rfl (by decide) hL5 rfl (fun L6 hL6 => ?_)
  refine f_s [fi (0)] rfl rfl ?_
  refine f_ist [(4, fi (0)), (3, fi (b)), (2, fi (a)), (0, fi (a)), (1, fi (b))] rfl (by decide) hL6 rfl (fun L7 hL7 => ?_)
  exact hK 40 hc 0 a b g _ hw hm (by decide) (by decide) a1 a2 b1 b2 he (hL7.sel [0, 2, 1] rfl))
theorem t168 {m : Nat → Nat → Int} {a b g : Int} (a1 : 0 ≤ a) (a2 : a ≤ 1000) (b1 : 0 ≤ b) (b2 : b ≤ 1000) (he : eu 40 a b = some g) : h_M 168 [fi (a), fi (b)] m (some (fi (g))) m := h_M_of (R := ev_r168) rfl (fun hc hw hm => by
  have hL : f_L (lv_args 0 [fi (a), fi (b)]) [(0, fi (a)), (1, fi (b))] := f_L_of rfl
  generalize lv_args 0 [fi (a), fi (b)] = L at hL
  show x_W none (1, 0, 5, 2, 0, 0, 0, 0, 0, ev_t168) 0 L [] hc 0 0 _
  have hR := gi_R hm
  have hK : ∀ (n : Nat) (hc : ev_H) (x y g : Int) (L : ev_L), y_in yGw hc → gi hc = m → 0 ≤ x → x ≤ 1000 → 0 ≤ y → y ≤ 1000 → eu n x y = some g → f_L L [(2, fi (x)), (3, fi (y))] → x_W none (1, 0, 5, 2, 0, 0, 0, 0, 0, ev_t168) 13 L [] hc 0 0 (fun r' h' => r' = some (fi g) ∧ y_in yGw h' ∧ gi h' = m) := by
    intro n
    induction n with
    | zero =>
      intro hc x y g L hw hm x1 x2 y1 y2 he hL
      refine f_iln 1 rfl hL rfl ?_
      refine f_if rfl (by omega) (fun c2 => ?_) (fun c2 => ?_)
      · have c2 : (y : Int) = (0 : Int) := c2
        refine f_iln 0 rfl hL rfl ?_
        unfold eu at he
        rw [if_pos (by omega)] at he
        cases he
        exact f_ret1 rfl ⟨rfl, hw, hm⟩
      · have c2 : ¬ ((y : Int) = (0 : Int)) := c2
        unfold eu at he
        rw [if_neg (by omega)] at he
        cases he
    | succ n ih =>
      intro hc x y g L hw hm x1 x2 y1 y2 he hL
      refine f_iln 1 rfl hL rfl ?_
      refine f_if rfl (by omega) (fun c2 => ?_) (fun c2 => ?_)
      · have c2 : (y : Int) = (0 : Int) := c2
        refine f_iln 0 rfl hL rfl ?_
        unfold eu at he
        rw [if_pos (by omega)] at he
        cases he
        exact f_ret1 rfl ⟨rfl, hw, hm⟩
      · have c2 : ¬ ((y : Int) = (0 : Int)) := c2
        refine f_iln 0 rfl hL rfl ?_
        refine f_iln 1 rfl hL rfl ?_
        refine f_irem rfl (by omega) (by omega) (by omega) (by omega) ?_
        refine f_ist [(4, fi ((x) % (y))), (2, fi (x)), (3, fi (y))] rfl (by decide) hL rfl (fun L1 hL1 => ?_)
        refine f_iln 2 rfl hL1 rfl ?_
        refine f_istn [(2, fi (y)), (4, fi ((x) % (y))), (3, fi (y))] rfl (by decide) hL1 rfl (fun L2 hL2 => ?_)
        refine f_il 1 rfl hL2 rfl ?_
        refine f_istn [(3, fi ((x) % (y))), (2, fi (y)), (4, fi ((x) % (y)))] rfl (by decide) hL2 rfl (fun L3 hL3 => ?_)
        refine f_goto rfl ?_
        unfold eu at he
        rw [if_neg (by omega)] at he
        have d1 := Int.emod_nonneg x (show y ≠ 0 by omega)
        have d2 := Int.emod_lt_of_pos x (show 0 < y by omega)
        exact ih hc _ _ g _ hw hm (by omega) (by omega) (by omega) (by omega) he (hL3.sel [1, 0] rfl)
  refine f_iln 0 rfl hL rfl ?_
  refine f_if rfl (by omega) (fun _ => ?_) (fun c => absurd (show (0 : Int) ≤ (a : Int) from (by omega)) c)
  refine f_iln 0 rfl hL rfl ?_
  refine f_istn [(2, fi (a)), (0, fi (a)), (1, fi (b))] rfl (by decide) hL rfl (fun L4 hL4 => ?_)
  refine f_iln 2 rfl hL4 rfl ?_
  refine f_istn [(3, fi (b)), (2, fi (a)), (0, fi (a)), (1, fi (b))] rfl (by decide) hL4 rfl (fun L5 hL5 => ?_)
  exact hK 40 hc a b g _ hw hm a1 a2 b1 b2 he (hL5.sel [1, 0] rfl))
theorem t165_0 {m : Nat → Nat → Int} {a b g : Int} (a1 : 0 ≤ a) (a2 : a ≤ 1000) (b1 : 0 ≤ b) (b2 : b ≤ 1000) (he : eu 40 a b = some g) (g1 : 1 ≤ g) : h_M 165 [fi (a), fi (b), fi (0)] m (some (fi (b.tdiv g))) m := h_M_of (R := ev_r165) rfl (fun hc hw hm => by
  have hL : f_L (lv_args 0 [fi (a), fi (b), fi (0)]) [(0, fi (a)), (1, fi (b)), (2, fi (0))] := f_L_of rfl
  generalize lv_args 0 [fi (a), fi (b), fi (0)] = L at hL
  show x_W none (1, 0, 5, 3, 0, 1, 25, 0, 0, ev_t165) 0 L [] hc 0 0 _
  have hR := gi_R hm
  refine f_iln 0 rfl hL rfl ?_
  refine f_iln 1 rfl hL rfl ?_
  refine m_k1 (t164 a1 a2 b1 b2 he) hw hm rfl rfl rfl rfl rfl (fun hc1 hw1 hm1 => ?_)
  refine f_istn [(3, fi (g)), (0, fi (a)), (1, fi (b)), (2, fi (0))] rfl (by decide) hL rfl (fun L1 hL1 => ?_)
  refine f_iln 3 rfl hL1 rfl ?_
  refine f_if rfl (by decide) (fun _ => ?_) (fun c => absurd (show (0 : Int) = (0 : Int) from (by decide)) c)
  refine f_iln 2 rfl hL1 rfl ?_
  refine f_ist [(4, fi (b)), (3, fi (g)), (0, fi (a)), (1, fi (b)), (2, fi (0))] rfl (by decide) hL1 rfl (fun L2 hL2 => ?_)
  refine f_iln 1 rfl hL2 rfl ?_
  refine f_s [fi (1), fi (g)] rfl rfl ?_
  have hg := eu_r 40 a b g a1 a2 b1 b2 he
  refine f_ic rfl (by omega) (by decide) (fun c1 => ?_) (fun c1 => ?_)
  · have c1 : (g : Int) ≤ (1 : Int) := c1
    refine f_il 0 rfl hL2 rfl ?_
    exact f_ret1 rfl ⟨by rw [show g = 1 by omega, Int.tdiv_one], hw1, hm1⟩
  · have c1 : ¬ ((g : Int) ≤ (1 : Int)) := c1
    refine f_il 0 rfl hL2 rfl ?_
    refine f_iln 1 rfl hL2 rfl ?_
    refine f_idiv rfl (by omega) (by omega) (by omega) (by omega) ?_
    refine f_goto rfl ?_
    exact f_ret1 rfl ⟨rfl, hw1, hm1⟩)
theorem t165_1 {m : Nat → Nat → Int} {a b g : Int} (a1 : 0 ≤ a) (a2 : a ≤ 1000) (b1 : 0 ≤ b) (b2 : b ≤ 1000) (he : eu 40 a b = some g) (g1 : 1 ≤ g) : h_M 165 [fi (a), fi (b), fi (1)] m (some (fi (a.tdiv g))) m := h_M_of (R := ev_r165) rfl (fun hc hw hm => by
  have hL : f_L (lv_args 0 [fi (a), fi (b), fi (1)]) [(0, fi (a)), (1, fi (b)), (2, fi (1))] := f_L_of rfl
  generalize lv_args 0 [fi (a), fi (b), fi (1)] = L at hL
  show x_W none (1, 0, 5, 3, 0, 1, 25, 0, 0, ev_t165) 0 L [] hc 0 0 _
  have hR := gi_R hm
  refine f_iln 0 rfl hL rfl ?_
  refine f_iln 1 rfl hL rfl ?_
  refine m_k1 (t164 a1 a2 b1 b2 he) hw hm rfl rfl rfl rfl rfl (fun hc1 hw1 hm1 => ?_)
  refine f_istn [(3, fi (g)), (0, fi (a)), (1, fi (b)), (2, fi (1))] rfl (by decide) hL rfl (fun L1 hL1 => ?_)
  refine f_iln 3 rfl hL1 rfl ?_
  refine f_if rfl (by decide) (fun c => absurd (show (1 : Int) = (0 : Int) from c) (by decide)) (fun _ => ?_)
  refine f_iln 1 rfl hL1 rfl ?_
  refine f_goto rfl ?_
  refine f_ist [(4, fi (a)), (3, fi (g)), (0, fi (a)), (1, fi (b)), (2, fi (1))] rfl (by decide) hL1 rfl (fun L2 hL2 => ?_)
  refine f_iln 1 rfl hL2 rfl ?_
  refine f_s [fi (1), fi (g)] rfl rfl ?_
  have hg := eu_r 40 a b g a1 a2 b1 b2 he
  refine f_ic rfl (by omega) (by decide) (fun c1 => ?_) (fun c1 => ?_)
  · have c1 : (g : Int) ≤ (1 : Int) := c1
    refine f_il 0 rfl hL2 rfl ?_
    exact f_ret1 rfl ⟨by rw [show g = 1 by omega, Int.tdiv_one], hw1, hm1⟩
  · have c1 : ¬ ((g : Int) ≤ (1 : Int)) := c1
    refine f_il 0 rfl hL2 rfl ?_
    refine f_iln 1 rfl hL2 rfl ?_
    refine f_idiv rfl (by omega) (by omega) (by omega) (by omega) ?_
    refine f_goto rfl ?_
    exact f_ret1 rfl ⟨rfl, hw1, hm1⟩)
theorem t101b {m : Nat → Nat → Int} {h : Int} (rh : -2147483648 ≤ h ∧ h ≤ 2147483647) : h_M 101 [fi (h)] m (some (fi (bI (decide (0 ≤ h ∧ h < 10))))) m := h_M_of (R := ev_r101) rfl (fun hc hw hm => by
  have hL : f_L (lv_args 0 [fi (h)]) [(0, fi (h))] := f_L_of rfl
  generalize lv_args 0 [fi (h)] = L at hL
  show x_W none (2, 0, 1, 1, 0, 0, 0, 0, 0, ev_t101) 0 L [] hc 0 0 _
  have hR := gi_R hm
  refine f_iln 0 rfl hL rfl ?_
  refine f_if rfl rh (fun c1 => ?_) (fun c1 => ?_)
  · have c1 : (h : Int) < (0 : Int) := c1
    refine f_s [fi (0)] rfl rfl ?_
    exact f_ret2 rfl (Or.inl rfl) ⟨by rw [decide_eq_false (by omega)]; rfl, hw, hm⟩
  · have c1 : ¬ ((h : Int) < (0 : Int)) := c1
    refine f_iln 0 rfl hL rfl ?_
    refine f_bipush (n := 10) rfl (by decide) ?_
    refine f_ic rfl rh (by decide) (fun c2 => ?_) (fun c2 => ?_)
    · have c2 : (10 : Int) ≤ (h : Int) := c2
      refine f_s [fi (0)] rfl rfl ?_
      exact f_ret2 rfl (Or.inl rfl) ⟨by rw [decide_eq_false (by omega)]; rfl, hw, hm⟩
    · have c2 : ¬ ((10 : Int) ≤ (h : Int)) := c2
      refine f_s [fi (1)] rfl rfl ?_
      refine f_goto rfl ?_
      exact f_ret2 rfl (Or.inr rfl) ⟨by rw [decide_eq_true (by omega)]; rfl, hw, hm⟩)
def tkB (m : Nat → Nat → Int) (k h x : Int) : Bool := decide (¬ ((0 ≤ k ∧ k < m 3 5) ∧ iA (iR (m 9 4) (k)) (1) = 1) ∧ (((0 ≤ x ∧ x < m 3 6) ∧ m 6 (x).toNat ≤ h ∧ h ≤ m 7 (x).toNat) ∧ ¬ ((0 ≤ x ∧ x < m 3 6) ∧ iA (iR (m 9 5) (x)) (1) = 1)) ∧ ((0 ≤ k ∧ k < m 3 5) ∧ ¬ ((0 ≤ x ∧ x < m 3 6) ∧ iA (iR (m 9 5) (x)) (1) = 1) ∧ iA (iR (ft m x) (k)) (1) = 1))
def tk (m : Nat → Nat → Int) (k h : Int) : Int := bits5 (tkB m k h 0) (tkB m k h 1) (tkB m k h 2) (tkB m k h 3) (tkB m k h 4)
theorem t182 {m : Nat → Nat → Int} (hn : 0 ≤ m 3 5 ∧ m 3 5 ≤ 4) (hp : 0 ≤ m 3 6 ∧ m 3 6 ≤ 5) {k : Int} (rk : -2147483648 ≤ k ∧ k ≤ 2147483647) {h : Int} (rh : -2147483648 ≤ h ∧ h ≤ 2147483647) : h_M 182 [.ref 9, fi (k), fi (h)] m (some (fi (tk m k h))) m := h_M_of (R := ev_r182) rfl (fun hc hw hm => by
  have hL : f_L (lv_args 0 [.ref 9, fi (k), fi (h)]) [(0, .ref 9), (1, fi (k)), (2, fi (h))] := f_L_of rfl
  generalize lv_args 0 [.ref 9, fi (k), fi (h)] = L at hL
  show x_W none (1, 0, 5, 2, 7, 3, 65, 0, 0, ev_t182) 0 L [] hc 0 0 _
  have hR := gi_R hm
  have hK5 : ∀ (hc : ev_H) (b : Int) (L : ev_L), y_in yGw hc → gi hc = m → f_L L [(4, fi (5)), (3, fi (b)), (0, .ref 9), (1, fi (k)), (2, fi (h))] → x_W none (1, 0, 5, 2, 7, 3, 65, 0, 0, ev_t182) 5 L [] hc 0 0 (fun r' h' => r' = some (fi (b)) ∧ y_in yGw h' ∧ gi h' = m) := fun hc b L hw hm hL => by
    refine f_il 0 rfl hL rfl ?_
    refine f_s [fi (5), fi (5)] rfl rfl ?_
    refine f_ic rfl (by decide) (by decide) (fun _ => ?_) (fun c => absurd (show (5 : Int) ≤ (5 : Int) from (by decide)) c)
    refine f_iln 1 rfl hL rfl ?_
    exact f_ret1 rfl ⟨rfl, hw, hm⟩
  have hK4 : ∀ (hc : ev_H) (b : Int) (L : ev_L), y_in yGw hc → gi hc = m → f_L L [(4, fi (4)), (3, fi (b)), (0, .ref 9), (1, fi (k)), (2, fi (h))] → x_W none (1, 0, 5, 2, 7, 3, 65, 0, 0, ev_t182) 5 L [] hc 0 0 (fun r' h' => r' = some (fi (bS (tkB m k h 4) (iS 1 4) (b))) ∧ y_in yGw h' ∧ gi h' = m) := fun hc b L hw hm hL => by
    refine f_il 0 rfl hL rfl ?_
    refine f_s [fi (5), fi (4)] rfl rfl ?_
    refine f_ic rfl (by decide) (by decide) (fun c => absurd (show (5 : Int) ≤ (4 : Int) from c) (by decide)) (fun _ => ?_)
    refine f_aln 2 rfl hL rfl ?_
    refine f_iln 3 rfl hL rfl ?_
    refine m_k1 (t44_9 hn rk) hw hm rfl rfl rfl (m_ar so9 hw rfl) rfl (fun hc1 hw1 hm1 => ?_)
    refine f_if rfl (bI_r _) (fun c1 => ?_) (fun c1 => ?_)
    · have c1 : ¬ (bI (decide ((0 ≤ k ∧ k < m 3 5) ∧ iA (iR (m 9 4) (k)) (1) = 1)) : Int) = (0 : Int) := c1
      have c1 : (0 ≤ k ∧ k < m 3 5) ∧ iA (iR (m 9 4) (k)) (1) = 1 := bI_t c1
      refine f_inc 0 [(4, fi (5)), (3, fi (b)), (0, .ref 9), (1, fi (k)), (2, fi (h))] rfl (by decide) hL rfl rfl (fun L1 hL1 => ?_)
      refine f_goto rfl ?_
      rw [show tkB m k h 4 = false from decide_eq_false (fun z => z.1 c1)]
      exact hK5 hc1 _ _ hw1 hm1 (hL1.sel [0, 1, 2, 3, 4] rfl)
    · have c1 : ¬ (¬ (bI (decide ((0 ≤ k ∧ k < m 3 5) ∧ iA (iR (m 9 4) (k)) (1) = 1)) : Int) = (0 : Int)) := c1
      have c1 : ¬ ((0 ≤ k ∧ k < m 3 5) ∧ iA (iR (m 9 4) (k)) (1) = 1) := bI_n c1
      refine f_aln 2 rfl hL rfl ?_
      refine f_il 0 rfl hL rfl ?_
      refine f_iln 4 rfl hL rfl ?_
      refine m_k1 (t85_9 (x := 4) hp (by decide) rh) hw1 hm1 rfl rfl rfl (m_ar so9 hw1 rfl) rfl (fun hc2 hw2 hm2 => ?_)
      refine f_if rfl (bI_r _) (fun c2 => ?_) (fun c2 => ?_)
      · have c2 : (bI (decide (((0 ≤ (4 : Int) ∧ (4 : Int) < m 3 6) ∧ m 6 ((4 : Int)).toNat ≤ h ∧ h ≤ m 7 ((4 : Int)).toNat) ∧ ¬ ((0 ≤ (4 : Int) ∧ (4 : Int) < m 3 6) ∧ iA (iR (m 9 5) ((4 : Int))) (1) = 1))) : Int) = (0 : Int) := c2
        have c2 : ¬ (((0 ≤ (4 : Int) ∧ (4 : Int) < m 3 6) ∧ m 6 ((4 : Int)).toNat ≤ h ∧ h ≤ m 7 ((4 : Int)).toNat) ∧ ¬ ((0 ≤ (4 : Int) ∧ (4 : Int) < m 3 6) ∧ iA (iR (m 9 5) ((4 : Int))) (1) = 1)) := bI_f c2
        refine f_inc 0 [(4, fi (5)), (3, fi (b)), (0, .ref 9), (1, fi (k)), (2, fi (h))] rfl (by decide) hL rfl rfl (fun L2 hL2 => ?_)
        refine f_goto rfl ?_
        rw [show tkB m k h 4 = false from decide_eq_false (fun z => c2 z.2.1)]
        exact hK5 hc2 _ _ hw2 hm2 (hL2.sel [0, 1, 2, 3, 4] rfl)
      · have c2 : ¬ ((bI (decide (((0 ≤ (4 : Int) ∧ (4 : Int) < m 3 6) ∧ m 6 ((4 : Int)).toNat ≤ h ∧ h ≤ m 7 ((4 : Int)).toNat) ∧ ¬ ((0 ≤ (4 : Int) ∧ (4 : Int) < m 3 6) ∧ iA (iR (m 9 5) ((4 : Int))) (1) = 1))) : Int) = (0 : Int)) := c2
        have c2 : ((0 ≤ (4 : Int) ∧ (4 : Int) < m 3 6) ∧ m 6 ((4 : Int)).toNat ≤ h ∧ h ≤ m 7 ((4 : Int)).toNat) ∧ ¬ ((0 ≤ (4 : Int) ∧ (4 : Int) < m 3 6) ∧ iA (iR (m 9 5) ((4 : Int))) (1) = 1) := bI_t c2
        refine f_aln 2 rfl hL rfl ?_
        refine f_il 0 rfl hL rfl ?_
        refine f_iln 3 rfl hL rfl ?_
        refine m_k1 (t64_9 (x := 4) hn hp (by decide) rk) hw2 hm2 rfl rfl rfl (m_ar so9 hw2 rfl) rfl (fun hc3 hw3 hm3 => ?_)
        refine f_if rfl (bI_r _) (fun c3 => ?_) (fun c3 => ?_)
        · have c3 : (bI (decide ((0 ≤ k ∧ k < m 3 5) ∧ ¬ ((0 ≤ (4 : Int) ∧ (4 : Int) < m 3 6) ∧ iA (iR (m 9 5) ((4 : Int))) (1) = 1) ∧ iA (iR (ft m (4 : Int)) (k)) (1) = 1)) : Int) = (0 : Int) := c3
          have c3 : ¬ ((0 ≤ k ∧ k < m 3 5) ∧ ¬ ((0 ≤ (4 : Int) ∧ (4 : Int) < m 3 6) ∧ iA (iR (m 9 5) ((4 : Int))) (1) = 1) ∧ iA (iR (ft m (4 : Int)) (k)) (1) = 1) := bI_f c3
          refine f_inc 0 [(4, fi (5)), (3, fi (b)), (0, .ref 9), (1, fi (k)), (2, fi (h))] rfl (by decide) hL rfl rfl (fun L3 hL3 => ?_)
          refine f_goto rfl ?_
          rw [show tkB m k h 4 = false from decide_eq_false (fun z => c3 z.2.2)]
          exact hK5 hc3 _ _ hw3 hm3 (hL3.sel [0, 1, 2, 3, 4] rfl)
        · have c3 : ¬ ((bI (decide ((0 ≤ k ∧ k < m 3 5) ∧ ¬ ((0 ≤ (4 : Int) ∧ (4 : Int) < m 3 6) ∧ iA (iR (m 9 5) ((4 : Int))) (1) = 1) ∧ iA (iR (ft m (4 : Int)) (k)) (1) = 1)) : Int) = (0 : Int)) := c3
          have c3 : (0 ≤ k ∧ k < m 3 5) ∧ ¬ ((0 ≤ (4 : Int) ∧ (4 : Int) < m 3 6) ∧ iA (iR (m 9 5) ((4 : Int))) (1) = 1) ∧ iA (iR (ft m (4 : Int)) (k)) (1) = 1 := bI_t c3
          refine f_iln 1 rfl hL rfl ?_
          refine f_s [fi (1), fi (b)] rfl rfl ?_
          refine f_il 0 rfl hL rfl ?_
          refine b_ishl rfl ?_
          refine b_ior rfl ?_
          refine f_istn [(3, fi (iO (b) (iS (1) (4)))), (4, fi (4)), (0, .ref 9), (1, fi (k)), (2, fi (h))] rfl (by decide) hL rfl (fun L4 hL4 => ?_)
          refine f_inc 1 [(4, fi (5)), (3, fi (iO (b) (iS (1) (4)))), (0, .ref 9), (1, fi (k)), (2, fi (h))] rfl (by decide) hL4 rfl rfl (fun L5 hL5 => ?_)
          refine f_goto rfl ?_
          rw [show tkB m k h 4 = true from decide_eq_true ⟨c1, c2, c3⟩]
          exact hK5 hc3 _ _ hw3 hm3 (hL5.sel [0, 1, 2, 3, 4] rfl)
  have hK3 : ∀ (hc : ev_H) (b : Int) (L : ev_L), y_in yGw hc → gi hc = m → f_L L [(4, fi (3)), (3, fi (b)), (0, .ref 9), (1, fi (k)), (2, fi (h))] → x_W none (1, 0, 5, 2, 7, 3, 65, 0, 0, ev_t182) 5 L [] hc 0 0 (fun r' h' => r' = some (fi (bS (tkB m k h 4) (iS 1 4) (bS (tkB m k h 3) (iS 1 3) (b)))) ∧ y_in yGw h' ∧ gi h' = m) := fun hc b L hw hm hL => by
    refine f_il 0 rfl hL rfl ?_
    refine f_s [fi (5), fi (3)] rfl rfl ?_
    refine f_ic rfl (by decide) (by decide) (fun c => absurd (show (5 : Int) ≤ (3 : Int) from c) (by decide)) (fun _ => ?_)
    refine f_aln 2 rfl hL rfl ?_
    refine f_iln 3 rfl hL rfl ?_
    refine m_k1 (t44_9 hn rk) hw hm rfl rfl rfl (m_ar so9 hw rfl) rfl (fun hc4 hw4 hm4 => ?_)
    refine f_if rfl (bI_r _) (fun c1 => ?_) (fun c1 => ?_)
    · have c1 : ¬ (bI (decide ((0 ≤ k ∧ k < m 3 5) ∧ iA (iR (m 9 4) (k)) (1) = 1)) : Int) = (0 : Int) := c1
      have c1 : (0 ≤ k ∧ k < m 3 5) ∧ iA (iR (m 9 4) (k)) (1) = 1 := bI_t c1
      refine f_inc 0 [(4, fi (4)), (3, fi (b)), (0, .ref 9), (1, fi (k)), (2, fi (h))] rfl (by decide) hL rfl rfl (fun L6 hL6 => ?_)
      refine f_goto rfl ?_
      rw [show tkB m k h 3 = false from decide_eq_false (fun z => z.1 c1)]
      exact hK4 hc4 _ _ hw4 hm4 (hL6.sel [0, 1, 2, 3, 4] rfl)
    · have c1 : ¬ (¬ (bI (decide ((0 ≤ k ∧ k < m 3 5) ∧ iA (iR (m 9 4) (k)) (1) = 1)) : Int) = (0 : Int)) := c1
      have c1 : ¬ ((0 ≤ k ∧ k < m 3 5) ∧ iA (iR (m 9 4) (k)) (1) = 1) := bI_n c1
      refine f_aln 2 rfl hL rfl ?_
      refine f_il 0 rfl hL rfl ?_
      refine f_iln 4 rfl hL rfl ?_
      refine m_k1 (t85_9 (x := 3) hp (by decide) rh) hw4 hm4 rfl rfl rfl (m_ar so9 hw4 rfl) rfl (fun hc5 hw5 hm5 => ?_)
      refine f_if rfl (bI_r _) (fun c2 => ?_) (fun c2 => ?_)
      · have c2 : (bI (decide (((0 ≤ (3 : Int) ∧ (3 : Int) < m 3 6) ∧ m 6 ((3 : Int)).toNat ≤ h ∧ h ≤ m 7 ((3 : Int)).toNat) ∧ ¬ ((0 ≤ (3 : Int) ∧ (3 : Int) < m 3 6) ∧ iA (iR (m 9 5) ((3 : Int))) (1) = 1))) : Int) = (0 : Int) := c2
        have c2 : ¬ (((0 ≤ (3 : Int) ∧ (3 : Int) < m 3 6) ∧ m 6 ((3 : Int)).toNat ≤ h ∧ h ≤ m 7 ((3 : Int)).toNat) ∧ ¬ ((0 ≤ (3 : Int) ∧ (3 : Int) < m 3 6) ∧ iA (iR (m 9 5) ((3 : Int))) (1) = 1)) := bI_f c2
        refine f_inc 0 [(4, fi (4)), (3, fi (b)), (0, .ref 9), (1, fi (k)), (2, fi (h))] rfl (by decide) hL rfl rfl (fun L7 hL7 => ?_)
        refine f_goto rfl ?_
        rw [show tkB m k h 3 = false from decide_eq_false (fun z => c2 z.2.1)]
        exact hK4 hc5 _ _ hw5 hm5 (hL7.sel [0, 1, 2, 3, 4] rfl)
      · have c2 : ¬ ((bI (decide (((0 ≤ (3 : Int) ∧ (3 : Int) < m 3 6) ∧ m 6 ((3 : Int)).toNat ≤ h ∧ h ≤ m 7 ((3 : Int)).toNat) ∧ ¬ ((0 ≤ (3 : Int) ∧ (3 : Int) < m 3 6) ∧ iA (iR (m 9 5) ((3 : Int))) (1) = 1))) : Int) = (0 : Int)) := c2
        have c2 : ((0 ≤ (3 : Int) ∧ (3 : Int) < m 3 6) ∧ m 6 ((3 : Int)).toNat ≤ h ∧ h ≤ m 7 ((3 : Int)).toNat) ∧ ¬ ((0 ≤ (3 : Int) ∧ (3 : Int) < m 3 6) ∧ iA (iR (m 9 5) ((3 : Int))) (1) = 1) := bI_t c2
        refine f_aln 2 rfl hL rfl ?_
        refine f_il 0 rfl hL rfl ?_
        refine f_iln 3 rfl hL rfl ?_
        refine m_k1 (t64_9 (x := 3) hn hp (by decide) rk) hw5 hm5 rfl rfl rfl (m_ar so9 hw5 rfl) rfl (fun hc6 hw6 hm6 => ?_)
        refine f_if rfl (bI_r _) (fun c3 => ?_) (fun c3 => ?_)
        · have c3 : (bI (decide ((0 ≤ k ∧ k < m 3 5) ∧ ¬ ((0 ≤ (3 : Int) ∧ (3 : Int) < m 3 6) ∧ iA (iR (m 9 5) ((3 : Int))) (1) = 1) ∧ iA (iR (ft m (3 : Int)) (k)) (1) = 1)) : Int) = (0 : Int) := c3
          have c3 : ¬ ((0 ≤ k ∧ k < m 3 5) ∧ ¬ ((0 ≤ (3 : Int) ∧ (3 : Int) < m 3 6) ∧ iA (iR (m 9 5) ((3 : Int))) (1) = 1) ∧ iA (iR (ft m (3 : Int)) (k)) (1) = 1) := bI_f c3
          refine f_inc 0 [(4, fi (4)), (3, fi (b)), (0, .ref 9), (1, fi (k)), (2, fi (h))] rfl (by decide) hL rfl rfl (fun L8 hL8 => ?_)
          refine f_goto rfl ?_
          rw [show tkB m k h 3 = false from decide_eq_false (fun z => c3 z.2.2)]
          exact hK4 hc6 _ _ hw6 hm6 (hL8.sel [0, 1, 2, 3, 4] rfl)
        · have c3 : ¬ ((bI (decide ((0 ≤ k ∧ k < m 3 5) ∧ ¬ ((0 ≤ (3 : Int) ∧ (3 : Int) < m 3 6) ∧ iA (iR (m 9 5) ((3 : Int))) (1) = 1) ∧ iA (iR (ft m (3 : Int)) (k)) (1) = 1)) : Int) = (0 : Int)) := c3
          have c3 : (0 ≤ k ∧ k < m 3 5) ∧ ¬ ((0 ≤ (3 : Int) ∧ (3 : Int) < m 3 6) ∧ iA (iR (m 9 5) ((3 : Int))) (1) = 1) ∧ iA (iR (ft m (3 : Int)) (k)) (1) = 1 := bI_t c3
          refine f_iln 1 rfl hL rfl ?_
          refine f_s [fi (1), fi (b)] rfl rfl ?_
          refine f_il 0 rfl hL rfl ?_
          refine b_ishl rfl ?_
          refine b_ior rfl ?_
          refine f_istn [(3, fi (iO (b) (iS (1) (3)))), (4, fi (3)), (0, .ref 9), (1, fi (k)), (2, fi (h))] rfl (by decide) hL rfl (fun L9 hL9 => ?_)
          refine f_inc 1 [(4, fi (4)), (3, fi (iO (b) (iS (1) (3)))), (0, .ref 9), (1, fi (k)), (2, fi (h))] rfl (by decide) hL9 rfl rfl (fun L10 hL10 => ?_)
          refine f_goto rfl ?_
          rw [show tkB m k h 3 = true from decide_eq_true ⟨c1, c2, c3⟩]
          exact hK4 hc6 _ _ hw6 hm6 (hL10.sel [0, 1, 2, 3, 4] rfl)
  have hK2 : ∀ (hc : ev_H) (b : Int) (L : ev_L), y_in yGw hc → gi hc = m → f_L L [(4, fi (2)), (3, fi (b)), (0, .ref 9), (1, fi (k)), (2, fi (h))] → x_W none (1, 0, 5, 2, 7, 3, 65, 0, 0, ev_t182) 5 L [] hc 0 0 (fun r' h' => r' = some (fi (bS (tkB m k h 4) (iS 1 4) (bS (tkB m k h 3) (iS 1 3) (bS (tkB m k h 2) (iS 1 2) (b))))) ∧ y_in yGw h' ∧ gi h' = m) := fun hc b L hw hm hL => by
    refine f_il 0 rfl hL rfl ?_
    refine f_s [fi (5), fi (2)] rfl rfl ?_
    refine f_ic rfl (by decide) (by decide) (fun c => absurd (show (5 : Int) ≤ (2 : Int) from c) (by decide)) (fun _ => ?_)
    refine f_aln 2 rfl hL rfl ?_
    refine f_iln 3 rfl hL rfl ?_
    refine m_k1 (t44_9 hn rk) hw hm rfl rfl rfl (m_ar so9 hw rfl) rfl (fun hc7 hw7 hm7 => ?_)
    refine f_if rfl (bI_r _) (fun c1 => ?_) (fun c1 => ?_)
    · have c1 : ¬ (bI (decide ((0 ≤ k ∧ k < m 3 5) ∧ iA (iR (m 9 4) (k)) (1) = 1)) : Int) = (0 : Int) := c1
      have c1 : (0 ≤ k ∧ k < m 3 5) ∧ iA (iR (m 9 4) (k)) (1) = 1 := bI_t c1
      refine f_inc 0 [(4, fi (3)), (3, fi (b)), (0, .ref 9), (1, fi (k)), (2, fi (h))] rfl (by decide) hL rfl rfl (fun L11 hL11 => ?_)
      refine f_goto rfl ?_
      rw [show tkB m k h 2 = false from decide_eq_false (fun z => z.1 c1)]
      exact hK3 hc7 _ _ hw7 hm7 (hL11.sel [0, 1, 2, 3, 4] rfl)
    · have c1 : ¬ (¬ (bI (decide ((0 ≤ k ∧ k < m 3 5) ∧ iA (iR (m 9 4) (k)) (1) = 1)) : Int) = (0 : Int)) := c1
      have c1 : ¬ ((0 ≤ k ∧ k < m 3 5) ∧ iA (iR (m 9 4) (k)) (1) = 1) := bI_n c1
      refine f_aln 2 rfl hL rfl ?_
      refine f_il 0 rfl hL rfl ?_
      refine f_iln 4 rfl hL rfl ?_
      refine m_k1 (t85_9 (x := 2) hp (by decide) rh) hw7 hm7 rfl rfl rfl (m_ar so9 hw7 rfl) rfl (fun hc8 hw8 hm8 => ?_)
      refine f_if rfl (bI_r _) (fun c2 => ?_) (fun c2 => ?_)
      · have c2 : (bI (decide (((0 ≤ (2 : Int) ∧ (2 : Int) < m 3 6) ∧ m 6 ((2 : Int)).toNat ≤ h ∧ h ≤ m 7 ((2 : Int)).toNat) ∧ ¬ ((0 ≤ (2 : Int) ∧ (2 : Int) < m 3 6) ∧ iA (iR (m 9 5) ((2 : Int))) (1) = 1))) : Int) = (0 : Int) := c2
        have c2 : ¬ (((0 ≤ (2 : Int) ∧ (2 : Int) < m 3 6) ∧ m 6 ((2 : Int)).toNat ≤ h ∧ h ≤ m 7 ((2 : Int)).toNat) ∧ ¬ ((0 ≤ (2 : Int) ∧ (2 : Int) < m 3 6) ∧ iA (iR (m 9 5) ((2 : Int))) (1) = 1)) := bI_f c2
        refine f_inc 0 [(4, fi (3)), (3, fi (b)), (0, .ref 9), (1, fi (k)), (2, fi (h))] rfl (by decide) hL rfl rfl (fun L12 hL12 => ?_)
        refine f_goto rfl ?_
        rw [show tkB m k h 2 = false from decide_eq_false (fun z => c2 z.2.1)]
        exact hK3 hc8 _ _ hw8 hm8 (hL12.sel [0, 1, 2, 3, 4] rfl)
      · have c2 : ¬ ((bI (decide (((0 ≤ (2 : Int) ∧ (2 : Int) < m 3 6) ∧ m 6 ((2 : Int)).toNat ≤ h ∧ h ≤ m 7 ((2 : Int)).toNat) ∧ ¬ ((0 ≤ (2 : Int) ∧ (2 : Int) < m 3 6) ∧ iA (iR (m 9 5) ((2 : Int))) (1) = 1))) : Int) = (0 : Int)) := c2
        have c2 : ((0 ≤ (2 : Int) ∧ (2 : Int) < m 3 6) ∧ m 6 ((2 : Int)).toNat ≤ h ∧ h ≤ m 7 ((2 : Int)).toNat) ∧ ¬ ((0 ≤ (2 : Int) ∧ (2 : Int) < m 3 6) ∧ iA (iR (m 9 5) ((2 : Int))) (1) = 1) := bI_t c2
        refine f_aln 2 rfl hL rfl ?_
        refine f_il 0 rfl hL rfl ?_
        refine f_iln 3 rfl hL rfl ?_
        refine m_k1 (t64_9 (x := 2) hn hp (by decide) rk) hw8 hm8 rfl rfl rfl (m_ar so9 hw8 rfl) rfl (fun hc9 hw9 hm9 => ?_)
        refine f_if rfl (bI_r _) (fun c3 => ?_) (fun c3 => ?_)
        · have c3 : (bI (decide ((0 ≤ k ∧ k < m 3 5) ∧ ¬ ((0 ≤ (2 : Int) ∧ (2 : Int) < m 3 6) ∧ iA (iR (m 9 5) ((2 : Int))) (1) = 1) ∧ iA (iR (ft m (2 : Int)) (k)) (1) = 1)) : Int) = (0 : Int) := c3
          have c3 : ¬ ((0 ≤ k ∧ k < m 3 5) ∧ ¬ ((0 ≤ (2 : Int) ∧ (2 : Int) < m 3 6) ∧ iA (iR (m 9 5) ((2 : Int))) (1) = 1) ∧ iA (iR (ft m (2 : Int)) (k)) (1) = 1) := bI_f c3
          refine f_inc 0 [(4, fi (3)), (3, fi (b)), (0, .ref 9), (1, fi (k)), (2, fi (h))] rfl (by decide) hL rfl rfl (fun L13 hL13 => ?_)
          refine f_goto rfl ?_
          rw [show tkB m k h 2 = false from decide_eq_false (fun z => c3 z.2.2)]
          exact hK3 hc9 _ _ hw9 hm9 (hL13.sel [0, 1, 2, 3, 4] rfl)
        · have c3 : ¬ ((bI (decide ((0 ≤ k ∧ k < m 3 5) ∧ ¬ ((0 ≤ (2 : Int) ∧ (2 : Int) < m 3 6) ∧ iA (iR (m 9 5) ((2 : Int))) (1) = 1) ∧ iA (iR (ft m (2 : Int)) (k)) (1) = 1)) : Int) = (0 : Int)) := c3
          have c3 : (0 ≤ k ∧ k < m 3 5) ∧ ¬ ((0 ≤ (2 : Int) ∧ (2 : Int) < m 3 6) ∧ iA (iR (m 9 5) ((2 : Int))) (1) = 1) ∧ iA (iR (ft m (2 : Int)) (k)) (1) = 1 := bI_t c3
          refine f_iln 1 rfl hL rfl ?_
          refine f_s [fi (1), fi (b)] rfl rfl ?_
          refine f_il 0 rfl hL rfl ?_
          refine b_ishl rfl ?_
          refine b_ior rfl ?_
          refine f_istn [(3, fi (iO (b) (iS (1) (2)))), (4, fi (2)), (0, .ref 9), (1, fi (k)), (2, fi (h))] rfl (by decide) hL rfl (fun L14 hL14 => ?_)
          refine f_inc 1 [(4, fi (3)), (3, fi (iO (b) (iS (1) (2)))), (0, .ref 9), (1, fi (k)), (2, fi (h))] rfl (by decide) hL14 rfl rfl (fun L15 hL15 => ?_)
          refine f_goto rfl ?_
          rw [show tkB m k h 2 = true from decide_eq_true ⟨c1, c2, c3⟩]
          exact hK3 hc9 _ _ hw9 hm9 (hL15.sel [0, 1, 2, 3, 4] rfl)
  have hK1 : ∀ (hc : ev_H) (b : Int) (L : ev_L), y_in yGw hc → gi hc = m → f_L L [(4, fi (1)), (3, fi (b)), (0, .ref 9), (1, fi (k)), (2, fi (h))] → x_W none (1, 0, 5, 2, 7, 3, 65, 0, 0, ev_t182) 5 L [] hc 0 0 (fun r' h' => r' = some (fi (bS (tkB m k h 4) (iS 1 4) (bS (tkB m k h 3) (iS 1 3) (bS (tkB m k h 2) (iS 1 2) (bS (tkB m k h 1) (iS 1 1) (b)))))) ∧ y_in yGw h' ∧ gi h' = m) := fun hc b L hw hm hL => by
    refine f_il 0 rfl hL rfl ?_
    refine f_s [fi (5), fi (1)] rfl rfl ?_
    refine f_ic rfl (by decide) (by decide) (fun c => absurd (show (5 : Int) ≤ (1 : Int) from c) (by decide)) (fun _ => ?_)
    refine f_aln 2 rfl hL rfl ?_
    refine f_iln 3 rfl hL rfl ?_
    refine m_k1 (t44_9 hn rk) hw hm rfl rfl rfl (m_ar so9 hw rfl) rfl (fun hc10 hw10 hm10 => ?_)
    refine f_if rfl (bI_r _) (fun c1 => ?_) (fun c1 => ?_)
    · have c1 : ¬ (bI (decide ((0 ≤ k ∧ k < m 3 5) ∧ iA (iR (m 9 4) (k)) (1) = 1)) : Int) = (0 : Int) := c1
      have c1 : (0 ≤ k ∧ k < m 3 5) ∧ iA (iR (m 9 4) (k)) (1) = 1 := bI_t c1
      refine f_inc 0 [(4, fi (2)), (3, fi (b)), (0, .ref 9), (1, fi (k)), (2, fi (h))] rfl (by decide) hL rfl rfl (fun L16 hL16 => ?_)
      refine f_goto rfl ?_
      rw [show tkB m k h 1 = false from decide_eq_false (fun z => z.1 c1)]
      exact hK2 hc10 _ _ hw10 hm10 (hL16.sel [0, 1, 2, 3, 4] rfl)
    · have c1 : ¬ (¬ (bI (decide ((0 ≤ k ∧ k < m 3 5) ∧ iA (iR (m 9 4) (k)) (1) = 1)) : Int) = (0 : Int)) := c1
      have c1 : ¬ ((0 ≤ k ∧ k < m 3 5) ∧ iA (iR (m 9 4) (k)) (1) = 1) := bI_n c1
      refine f_aln 2 rfl hL rfl ?_
      refine f_il 0 rfl hL rfl ?_
      refine f_iln 4 rfl hL rfl ?_
      refine m_k1 (t85_9 (x := 1) hp (by decide) rh) hw10 hm10 rfl rfl rfl (m_ar so9 hw10 rfl) rfl (fun hc11 hw11 hm11 => ?_)
      refine f_if rfl (bI_r _) (fun c2 => ?_) (fun c2 => ?_)
      · have c2 : (bI (decide (((0 ≤ (1 : Int) ∧ (1 : Int) < m 3 6) ∧ m 6 ((1 : Int)).toNat ≤ h ∧ h ≤ m 7 ((1 : Int)).toNat) ∧ ¬ ((0 ≤ (1 : Int) ∧ (1 : Int) < m 3 6) ∧ iA (iR (m 9 5) ((1 : Int))) (1) = 1))) : Int) = (0 : Int) := c2
        have c2 : ¬ (((0 ≤ (1 : Int) ∧ (1 : Int) < m 3 6) ∧ m 6 ((1 : Int)).toNat ≤ h ∧ h ≤ m 7 ((1 : Int)).toNat) ∧ ¬ ((0 ≤ (1 : Int) ∧ (1 : Int) < m 3 6) ∧ iA (iR (m 9 5) ((1 : Int))) (1) = 1)) := bI_f c2
        refine f_inc 0 [(4, fi (2)), (3, fi (b)), (0, .ref 9), (1, fi (k)), (2, fi (h))] rfl (by decide) hL rfl rfl (fun L17 hL17 => ?_)
        refine f_goto rfl ?_
        rw [show tkB m k h 1 = false from decide_eq_false (fun z => c2 z.2.1)]
        exact hK2 hc11 _ _ hw11 hm11 (hL17.sel [0, 1, 2, 3, 4] rfl)
      · have c2 : ¬ ((bI (decide (((0 ≤ (1 : Int) ∧ (1 : Int) < m 3 6) ∧ m 6 ((1 : Int)).toNat ≤ h ∧ h ≤ m 7 ((1 : Int)).toNat) ∧ ¬ ((0 ≤ (1 : Int) ∧ (1 : Int) < m 3 6) ∧ iA (iR (m 9 5) ((1 : Int))) (1) = 1))) : Int) = (0 : Int)) := c2
        have c2 : ((0 ≤ (1 : Int) ∧ (1 : Int) < m 3 6) ∧ m 6 ((1 : Int)).toNat ≤ h ∧ h ≤ m 7 ((1 : Int)).toNat) ∧ ¬ ((0 ≤ (1 : Int) ∧ (1 : Int) < m 3 6) ∧ iA (iR (m 9 5) ((1 : Int))) (1) = 1) := bI_t c2
        refine f_aln 2 rfl hL rfl ?_
        refine f_il 0 rfl hL rfl ?_
        refine f_iln 3 rfl hL rfl ?_
        refine m_k1 (t64_9 (x := 1) hn hp (by decide) rk) hw11 hm11 rfl rfl rfl (m_ar so9 hw11 rfl) rfl (fun hc12 hw12 hm12 => ?_)
        refine f_if rfl (bI_r _) (fun c3 => ?_) (fun c3 => ?_)
        · have c3 : (bI (decide ((0 ≤ k ∧ k < m 3 5) ∧ ¬ ((0 ≤ (1 : Int) ∧ (1 : Int) < m 3 6) ∧ iA (iR (m 9 5) ((1 : Int))) (1) = 1) ∧ iA (iR (ft m (1 : Int)) (k)) (1) = 1)) : Int) = (0 : Int) := c3
          have c3 : ¬ ((0 ≤ k ∧ k < m 3 5) ∧ ¬ ((0 ≤ (1 : Int) ∧ (1 : Int) < m 3 6) ∧ iA (iR (m 9 5) ((1 : Int))) (1) = 1) ∧ iA (iR (ft m (1 : Int)) (k)) (1) = 1) := bI_f c3
          refine f_inc 0 [(4, fi (2)), (3, fi (b)), (0, .ref 9), (1, fi (k)), (2, fi (h))] rfl (by decide) hL rfl rfl (fun L18 hL18 => ?_)
          refine f_goto rfl ?_
          rw [show tkB m k h 1 = false from decide_eq_false (fun z => c3 z.2.2)]
          exact hK2 hc12 _ _ hw12 hm12 (hL18.sel [0, 1, 2, 3, 4] rfl)
        · have c3 : ¬ ((bI (decide ((0 ≤ k ∧ k < m 3 5) ∧ ¬ ((0 ≤ (1 : Int) ∧ (1 : Int) < m 3 6) ∧ iA (iR (m 9 5) ((1 : Int))) (1) = 1) ∧ iA (iR (ft m (1 : Int)) (k)) (1) = 1)) : Int) = (0 : Int)) := c3
          have c3 : (0 ≤ k ∧ k < m 3 5) ∧ ¬ ((0 ≤ (1 : Int) ∧ (1 : Int) < m 3 6) ∧ iA (iR (m 9 5) ((1 : Int))) (1) = 1) ∧ iA (iR (ft m (1 : Int)) (k)) (1) = 1 := bI_t c3
          refine f_iln 1 rfl hL rfl ?_
          refine f_s [fi (1), fi (b)] rfl rfl ?_
          refine f_il 0 rfl hL rfl ?_
          refine b_ishl rfl ?_
          refine b_ior rfl ?_
          refine f_istn [(3, fi (iO (b) (iS (1) (1)))), (4, fi (1)), (0, .ref 9), (1, fi (k)), (2, fi (h))] rfl (by decide) hL rfl (fun L19 hL19 => ?_)
          refine f_inc 1 [(4, fi (2)), (3, fi (iO (b) (iS (1) (1)))), (0, .ref 9), (1, fi (k)), (2, fi (h))] rfl (by decide) hL19 rfl rfl (fun L20 hL20 => ?_)
          refine f_goto rfl ?_
          rw [show tkB m k h 1 = true from decide_eq_true ⟨c1, c2, c3⟩]
          exact hK2 hc12 _ _ hw12 hm12 (hL20.sel [0, 1, 2, 3, 4] rfl)
  have hK0 : ∀ (hc : ev_H) (b : Int) (L : ev_L), y_in yGw hc → gi hc = m → f_L L [(4, fi (0)), (3, fi (b)), (0, .ref 9), (1, fi (k)), (2, fi (h))] → x_W none (1, 0, 5, 2, 7, 3, 65, 0, 0, ev_t182) 5 L [] hc 0 0 (fun r' h' => r' = some (fi (bS (tkB m k h 4) (iS 1 4) (bS (tkB m k h 3) (iS 1 3) (bS (tkB m k h 2) (iS 1 2) (bS (tkB m k h 1) (iS 1 1) (bS (tkB m k h 0) (iS 1 0) (b))))))) ∧ y_in yGw h' ∧ gi h' = m) := fun hc b L hw hm hL => by
    refine f_il 0 rfl hL rfl ?_
    refine f_s [fi (5), fi (0)] rfl rfl ?_
    refine f_ic rfl (by decide) (by decide) (fun c => absurd (show (5 : Int) ≤ (0 : Int) from c) (by decide)) (fun _ => ?_)
    refine f_aln 2 rfl hL rfl ?_
    refine f_iln 3 rfl hL rfl ?_
    refine m_k1 (t44_9 hn rk) hw hm rfl rfl rfl (m_ar so9 hw rfl) rfl (fun hc13 hw13 hm13 => ?_)
    refine f_if rfl (bI_r _) (fun c1 => ?_) (fun c1 => ?_)
    · have c1 : ¬ (bI (decide ((0 ≤ k ∧ k < m 3 5) ∧ iA (iR (m 9 4) (k)) (1) = 1)) : Int) = (0 : Int) := c1
      have c1 : (0 ≤ k ∧ k < m 3 5) ∧ iA (iR (m 9 4) (k)) (1) = 1 := bI_t c1
      refine f_inc 0 [(4, fi (1)), (3, fi (b)), (0, .ref 9), (1, fi (k)), (2, fi (h))] rfl (by decide) hL rfl rfl (fun L21 hL21 => ?_)
      refine f_goto rfl ?_
      rw [show tkB m k h 0 = false from decide_eq_false (fun z => z.1 c1)]
      exact hK1 hc13 _ _ hw13 hm13 (hL21.sel [0, 1, 2, 3, 4] rfl)
    · have c1 : ¬ (¬ (bI (decide ((0 ≤ k ∧ k < m 3 5) ∧ iA (iR (m 9 4) (k)) (1) = 1)) : Int) = (0 : Int)) := c1
      have c1 : ¬ ((0 ≤ k ∧ k < m 3 5) ∧ iA (iR (m 9 4) (k)) (1) = 1) := bI_n c1
      refine f_aln 2 rfl hL rfl ?_
      refine f_il 0 rfl hL rfl ?_
      refine f_iln 4 rfl hL rfl ?_
      refine m_k1 (t85_9 (x := 0) hp (by decide) rh) hw13 hm13 rfl rfl rfl (m_ar so9 hw13 rfl) rfl (fun hc14 hw14 hm14 => ?_)
      refine f_if rfl (bI_r _) (fun c2 => ?_) (fun c2 => ?_)
      · have c2 : (bI (decide (((0 ≤ (0 : Int) ∧ (0 : Int) < m 3 6) ∧ m 6 ((0 : Int)).toNat ≤ h ∧ h ≤ m 7 ((0 : Int)).toNat) ∧ ¬ ((0 ≤ (0 : Int) ∧ (0 : Int) < m 3 6) ∧ iA (iR (m 9 5) ((0 : Int))) (1) = 1))) : Int) = (0 : Int) := c2
        have c2 : ¬ (((0 ≤ (0 : Int) ∧ (0 : Int) < m 3 6) ∧ m 6 ((0 : Int)).toNat ≤ h ∧ h ≤ m 7 ((0 : Int)).toNat) ∧ ¬ ((0 ≤ (0 : Int) ∧ (0 : Int) < m 3 6) ∧ iA (iR (m 9 5) ((0 : Int))) (1) = 1)) := bI_f c2
        refine f_inc 0 [(4, fi (1)), (3, fi (b)), (0, .ref 9), (1, fi (k)), (2, fi (h))] rfl (by decide) hL rfl rfl (fun L22 hL22 => ?_)
        refine f_goto rfl ?_
        rw [show tkB m k h 0 = false from decide_eq_false (fun z => c2 z.2.1)]
        exact hK1 hc14 _ _ hw14 hm14 (hL22.sel [0, 1, 2, 3, 4] rfl)
      · have c2 : ¬ ((bI (decide (((0 ≤ (0 : Int) ∧ (0 : Int) < m 3 6) ∧ m 6 ((0 : Int)).toNat ≤ h ∧ h ≤ m 7 ((0 : Int)).toNat) ∧ ¬ ((0 ≤ (0 : Int) ∧ (0 : Int) < m 3 6) ∧ iA (iR (m 9 5) ((0 : Int))) (1) = 1))) : Int) = (0 : Int)) := c2
        have c2 : ((0 ≤ (0 : Int) ∧ (0 : Int) < m 3 6) ∧ m 6 ((0 : Int)).toNat ≤ h ∧ h ≤ m 7 ((0 : Int)).toNat) ∧ ¬ ((0 ≤ (0 : Int) ∧ (0 : Int) < m 3 6) ∧ iA (iR (m 9 5) ((0 : Int))) (1) = 1) := bI_t c2
        refine f_aln 2 rfl hL rfl ?_
        refine f_il 0 rfl hL rfl ?_
        refine f_iln 3 rfl hL rfl ?_
        refine m_k1 (t64_9 (x := 0) hn hp (by decide) rk) hw14 hm14 rfl rfl rfl (m_ar so9 hw14 rfl) rfl (fun hc15 hw15 hm15 => ?_)
        refine f_if rfl (bI_r _) (fun c3 => ?_) (fun c3 => ?_)
        · have c3 : (bI (decide ((0 ≤ k ∧ k < m 3 5) ∧ ¬ ((0 ≤ (0 : Int) ∧ (0 : Int) < m 3 6) ∧ iA (iR (m 9 5) ((0 : Int))) (1) = 1) ∧ iA (iR (ft m (0 : Int)) (k)) (1) = 1)) : Int) = (0 : Int) := c3
          have c3 : ¬ ((0 ≤ k ∧ k < m 3 5) ∧ ¬ ((0 ≤ (0 : Int) ∧ (0 : Int) < m 3 6) ∧ iA (iR (m 9 5) ((0 : Int))) (1) = 1) ∧ iA (iR (ft m (0 : Int)) (k)) (1) = 1) := bI_f c3
          refine f_inc 0 [(4, fi (1)), (3, fi (b)), (0, .ref 9), (1, fi (k)), (2, fi (h))] rfl (by decide) hL rfl rfl (fun L23 hL23 => ?_)
          refine f_goto rfl ?_
          rw [show tkB m k h 0 = false from decide_eq_false (fun z => c3 z.2.2)]
          exact hK1 hc15 _ _ hw15 hm15 (hL23.sel [0, 1, 2, 3, 4] rfl)
        · have c3 : ¬ ((bI (decide ((0 ≤ k ∧ k < m 3 5) ∧ ¬ ((0 ≤ (0 : Int) ∧ (0 : Int) < m 3 6) ∧ iA (iR (m 9 5) ((0 : Int))) (1) = 1) ∧ iA (iR (ft m (0 : Int)) (k)) (1) = 1)) : Int) = (0 : Int)) := c3
          have c3 : (0 ≤ k ∧ k < m 3 5) ∧ ¬ ((0 ≤ (0 : Int) ∧ (0 : Int) < m 3 6) ∧ iA (iR (m 9 5) ((0 : Int))) (1) = 1) ∧ iA (iR (ft m (0 : Int)) (k)) (1) = 1 := bI_t c3
          refine f_iln 1 rfl hL rfl ?_
          refine f_s [fi (1), fi (b)] rfl rfl ?_
          refine f_il 0 rfl hL rfl ?_
          refine b_ishl rfl ?_
          refine b_ior rfl ?_
          refine f_istn [(3, fi (iO (b) (iS (1) (0)))), (4, fi (0)), (0, .ref 9), (1, fi (k)), (2, fi (h))] rfl (by decide) hL rfl (fun L24 hL24 => ?_)
          refine f_inc 1 [(4, fi (1)), (3, fi (iO (b) (iS (1) (0)))), (0, .ref 9), (1, fi (k)), (2, fi (h))] rfl (by decide) hL24 rfl rfl (fun L25 hL25 => ?_)
          refine f_goto rfl ?_
          rw [show tkB m k h 0 = true from decide_eq_true ⟨c1, c2, c3⟩]
          exact hK1 hc15 _ _ hw15 hm15 (hL25.sel [0, 1, 2, 3, 4] rfl)
  refine f_s [fi (0)] rfl rfl ?_
  refine f_istn [(3, fi (0)), (0, .ref 9), (1, fi (k)), (2, fi (h))] rfl (by decide) hL rfl (fun L26 hL26 => ?_)
  refine f_s [fi (0)] rfl rfl ?_
  refine f_ist [(4, fi (0)), (3, fi (0)), (0, .ref 9), (1, fi (k)), (2, fi (h))] rfl (by decide) hL26 rfl (fun L27 hL27 => ?_)
  exact hK0 hc 0 _ hw hm (hL27.sel [0, 1, 2, 3, 4] rfl))
theorem tk_r (m : Nat → Nat → Int) (k h : Int) : -2147483648 ≤ tk m k h ∧ tk m k h ≤ 2147483647 := bS_r (bS_r (bS_r (bS_r (bS_r r0))))
theorem tk_c {m : Nat → Nat → Int} {k h x : Int} (hx : 0 ≤ x ∧ x < 5) (hb : iA (iR (tk m k h) x) 1 = 1) : 1 ≤ bC (tk m k h) ∧ bC (tk m k h) ≤ 5 := by
  have key : ∀ a b c d e : Bool, (iA (iR (bits5 a b c d e) 0) 1 = 1 ∨ iA (iR (bits5 a b c d e) 1) 1 = 1 ∨ iA (iR (bits5 a b c d e) 2) 1 = 1 ∨ iA (iR (bits5 a b c d e) 3) 1 = 1 ∨ iA (iR (bits5 a b c d e) 4) 1 = 1) → 1 ≤ bC (bits5 a b c d e) ∧ bC (bits5 a b c d e) ≤ 5 := by decide +kernel
  refine key _ _ _ _ _ ?_
  have : x = 0 ∨ x = 1 ∨ x = 2 ∨ x = 3 ∨ x = 4 := by omega
  rcases this with rfl | rfl | rfl | rfl | rfl
  · exact Or.inl hb
  · exact Or.inr (Or.inl hb)
  · exact Or.inr (Or.inr (Or.inl hb))
  · exact Or.inr (Or.inr (Or.inr (Or.inl hb)))
  · exact Or.inr (Or.inr (Or.inr (Or.inr hb)))
def lc0_4 (m : Nat → Nat → Int) (x h A B : Int) : Int := (A).tdiv (eG (A - B) A)
def lc0_3 (m : Nat → Nat → Int) (x h A B : Int) : Int := if 3 < m 3 5 then (if iA (iR (tk m 3 h) x) 1 = 1 then lc0_4 m x h (A * bC (tk m 3 h)) (B * (bC (tk m 3 h) - 1)) else lc0_4 m x h A B) else (A).tdiv (eG (A - B) A)
def lc0_2 (m : Nat → Nat → Int) (x h A B : Int) : Int := if 2 < m 3 5 then (if iA (iR (tk m 2 h) x) 1 = 1 then lc0_3 m x h (A * bC (tk m 2 h)) (B * (bC (tk m 2 h) - 1)) else lc0_3 m x h A B) else (A).tdiv (eG (A - B) A)
def lc0_1 (m : Nat → Nat → Int) (x h A B : Int) : Int := if 1 < m 3 5 then (if iA (iR (tk m 1 h) x) 1 = 1 then lc0_2 m x h (A * bC (tk m 1 h)) (B * (bC (tk m 1 h) - 1)) else lc0_2 m x h A B) else (A).tdiv (eG (A - B) A)
def lc0_0 (m : Nat → Nat → Int) (x h A B : Int) : Int := if 0 < m 3 5 then (if iA (iR (tk m 0 h) x) 1 = 1 then lc0_1 m x h (A * bC (tk m 0 h)) (B * (bC (tk m 0 h) - 1)) else lc0_1 m x h A B) else (A).tdiv (eG (A - B) A)
theorem t183_0_un {m : Nat → Nat → Int} (hp : 0 ≤ m 3 6 ∧ m 3 6 ≤ 5) {x : Int} (rx : -2147483648 ≤ x ∧ x ≤ 2147483647) {h : Int} (rh : -2147483648 ≤ h ∧ h ≤ 2147483647) (h0 : ¬ (0 ≤ x ∧ x < m 3 6)) : h_M 183 [.ref 0, fi (x), fi (h), fi (0)] m (some (fi (-1))) m := h_M_of (R := ev_r183) rfl (fun hc hw hm => by
  have hL : f_L (lv_args 0 [.ref 0, fi (x), fi (h), fi (0)]) [(0, .ref 0), (1, fi (x)), (2, fi (h)), (3, fi (0))] := f_L_of rfl
  generalize lv_args 0 [.ref 0, fi (x), fi (h), fi (0)] = L at hL
  show x_W none (1, 0, 8, 3, 10, 4, 89, 0, 0, ev_t183) 0 L [] hc 0 0 _
  have hR := gi_R hm
  refine f_aln 0 rfl hL rfl ?_
  refine m_gfr so0 rfl hw rfl (by decide) ?_
  refine f_iln 1 rfl hL rfl ?_
  refine m_k1 (t49 hp.2 rx) hw hm rfl rfl rfl (m_ar so3 hw rfl) rfl (fun hc1 hw1 hm1 => ?_)
  refine f_if rfl (bI_r _) (fun c => absurd (show ¬ (bI (decide (0 ≤ x ∧ x < m 3 6)) : Int) = (0 : Int) from c) (by rw [decide_eq_false h0]; exact fun z => z rfl)) (fun _ => ?_)
  refine f_s [fi (-1)] rfl rfl ?_
  exact f_ret1 rfl ⟨rfl, hw1, hm1⟩)
theorem t183_0_out {m : Nat → Nat → Int} (hp : 0 ≤ m 3 6 ∧ m 3 6 ≤ 5) {x : Int} (rx : -2147483648 ≤ x ∧ x ≤ 2147483647) {h : Int} (rh : -2147483648 ≤ h ∧ h ≤ 2147483647) (hx : 0 ≤ x ∧ x < m 3 6) (h0 : ¬ (0 ≤ h ∧ h < 10)) : h_M 183 [.ref 0, fi (x), fi (h), fi (0)] m (some (fi (-2))) m := h_M_of (R := ev_r183) rfl (fun hc hw hm => by
  have hL : f_L (lv_args 0 [.ref 0, fi (x), fi (h), fi (0)]) [(0, .ref 0), (1, fi (x)), (2, fi (h)), (3, fi (0))] := f_L_of rfl
  generalize lv_args 0 [.ref 0, fi (x), fi (h), fi (0)] = L at hL
  show x_W none (1, 0, 8, 3, 10, 4, 89, 0, 0, ev_t183) 0 L [] hc 0 0 _
  have hR := gi_R hm
  refine f_aln 0 rfl hL rfl ?_
  refine m_gfr so0 rfl hw rfl (by decide) ?_
  refine f_iln 1 rfl hL rfl ?_
  refine m_k1 (t49 hp.2 rx) hw hm rfl rfl rfl (m_ar so3 hw rfl) rfl (fun hc1 hw1 hm1 => ?_)
  refine f_if rfl (bI_r _) (fun _ => ?_) (fun c => absurd (show ¬ (bI (decide (0 ≤ x ∧ x < m 3 6)) : Int) = (0 : Int) from (by rw [decide_eq_true hx]; decide)) c)
  refine f_iln 2 rfl hL rfl ?_
  refine m_k1 (t101b rh) hw1 hm1 rfl rfl rfl rfl rfl (fun hc2 hw2 hm2 => ?_)
  refine f_if rfl (bI_r _) (fun c => absurd (show ¬ (bI (decide (0 ≤ h ∧ h < 10)) : Int) = (0 : Int) from c) (by rw [decide_eq_false h0]; exact fun z => z rfl)) (fun _ => ?_)
  refine f_bipush (n := -2) rfl (by decide) ?_
  exact f_ret1 rfl ⟨rfl, hw2, hm2⟩)
theorem t183_0_ok {m : Nat → Nat → Int} (hn : 0 ≤ m 3 5 ∧ m 3 5 ≤ 4) (hp : 0 ≤ m 3 6 ∧ m 3 6 ≤ 5) {x : Int} (rx : -2147483648 ≤ x ∧ x ≤ 2147483647) {h : Int} (rh : -2147483648 ≤ h ∧ h ≤ 2147483647) (hx : 0 ≤ x ∧ x < m 3 6) (hh : 0 ≤ h ∧ h < 10) : h_M 183 [.ref 0, fi (x), fi (h), fi (0)] m (some (fi (lc0_0 m x h 1 1))) m := h_M_of (R := ev_r183) rfl (fun hc hw hm => by
  have hL : f_L (lv_args 0 [.ref 0, fi (x), fi (h), fi (0)]) [(0, .ref 0), (1, fi (x)), (2, fi (h)), (3, fi (0))] := f_L_of rfl
  generalize lv_args 0 [.ref 0, fi (x), fi (h), fi (0)] = L at hL
  show x_W none (1, 0, 8, 3, 10, 4, 89, 0, 0, ev_t183) 0 L [] hc 0 0 _
  have hR := gi_R hm
  have hK4 : ∀ (hc : ev_H) (A B : Int) (L : ev_L), y_in yGw hc → gi hc = m → (A, B) ∈ lS 4 → f_L L [(6, fi (4)), (4, fi (A)), (5, fi (B)), (0, .ref 0), (1, fi (x)), (2, fi (h)), (3, fi (0))] → x_W none (1, 0, 8, 3, 10, 4, 89, 0, 0, ev_t183) 32 L [] hc 0 0 (fun r' h' => r' = some (fi (lc0_4 m x h A B)) ∧ y_in yGw h' ∧ gi h' = m) := fun hc A B L hw hm hAB hL => by
    obtain ⟨o1, o2, o3, o4, o5, o6, o7⟩ := okp_r (lS_at (by decide) hAB)
    refine f_il 0 rfl hL rfl ?_
    refine f_aln 3 rfl hL rfl ?_
    refine m_gfr so0 rfl hw rfl (by decide) ?_
    refine m_k1 t36 hw hm rfl rfl rfl (m_ar so3 hw rfl) rfl (fun hc1 hw1 hm1 => ?_)
    refine f_ic rfl (by decide) (by omega) (fun _ => ?_) (fun c => absurd (show (m 3 5 : Int) ≤ (4 : Int) from (by omega)) c)
    refine f_il 1 rfl hL rfl ?_
    refine f_il 2 rfl hL rfl ?_
    refine f_isub rfl ?_
    refine f_il 1 rfl hL rfl ?_
    refine f_iln 6 rfl hL rfl ?_
    refine m_k1 (t165_0 (a := A - B) (b := A) (g := eG (A - B) A) o3 (by omega) (by omega) (by omega) o1 o2) hw1 hm1 rfl rfl rfl rfl rfl (fun hc2 hw2 hm2 => ?_)
    exact f_ret1 rfl ⟨rfl, hw2, hm2⟩
  have hK3 : ∀ (hc : ev_H) (A B : Int) (L : ev_L), y_in yGw hc → gi hc = m → (A, B) ∈ lS 3 → f_L L [(6, fi (3)), (4, fi (A)), (5, fi (B)), (0, .ref 0), (1, fi (x)), (2, fi (h)), (3, fi (0))] → x_W none (1, 0, 8, 3, 10, 4, 89, 0, 0, ev_t183) 32 L [] hc 0 0 (fun r' h' => r' = some (fi (lc0_3 m x h A B)) ∧ y_in yGw h' ∧ gi h' = m) := fun hc A B L hw hm hAB hL => by
    obtain ⟨o1, o2, o3, o4, o5, o6, o7⟩ := okp_r (lS_at (by decide) hAB)
    refine f_il 0 rfl hL rfl ?_
    refine f_aln 3 rfl hL rfl ?_
    refine m_gfr so0 rfl hw rfl (by decide) ?_
    refine m_k1 t36 hw hm rfl rfl rfl (m_ar so3 hw rfl) rfl (fun hc3 hw3 hm3 => ?_)
    refine f_ic rfl (by decide) (by omega) (fun c1 => ?_) (fun c1 => ?_)
    · have c1 : (m 3 5 : Int) ≤ (3 : Int) := c1
      refine f_il 1 rfl hL rfl ?_
      refine f_il 2 rfl hL rfl ?_
      refine f_isub rfl ?_
      refine f_il 1 rfl hL rfl ?_
      refine f_iln 6 rfl hL rfl ?_
      refine m_k1 (t165_0 (a := A - B) (b := A) (g := eG (A - B) A) o3 (by omega) (by omega) (by omega) o1 o2) hw3 hm3 rfl rfl rfl rfl rfl (fun hc4 hw4 hm4 => ?_)
      exact f_ret1 rfl ⟨by unfold lc0_3; rw [if_neg (by omega)], hw4, hm4⟩
    · have c1 : ¬ ((m 3 5 : Int) ≤ (3 : Int)) := c1
      refine f_aln 3 rfl hL rfl ?_
      refine m_gfr so0 rfl hw3 rfl (by decide) ?_
      refine f_il 0 rfl hL rfl ?_
      refine f_iln 5 rfl hL rfl ?_
      refine m_k1 (t182 (k := 3) hn hp (by decide) rh) hw3 hm3 rfl rfl rfl (m_ar so9 hw3 rfl) rfl (fun hc5 hw5 hm5 => ?_)
      refine f_ist [(7, fi (tk m 3 h)), (6, fi (3)), (4, fi (A)), (5, fi (B)), (0, .ref 0), (1, fi (x)), (2, fi (h)), (3, fi (0))] rfl (by decide) hL rfl (fun L1 hL1 => ?_)
      refine f_il 0 rfl hL1 rfl ?_
      refine f_iln 5 rfl hL1 rfl ?_
      refine b_ishr rfl ?_
      refine f_s [fi (1), fi (iR (tk m 3 h) (x))] rfl rfl ?_
      refine b_iand rfl ?_
      refine f_s [fi (1), fi (iA (iR (tk m 3 h) (x)) (1))] rfl rfl ?_
      refine f_ic rfl iA_r (by decide) (fun c2 => ?_) (fun c2 => ?_)
      · have c2 : ¬ (iA (iR (tk m 3 h) (x)) (1) : Int) = (1 : Int) := c2
        refine f_inc 1 [(6, fi (4)), (7, fi (tk m 3 h)), (4, fi (A)), (5, fi (B)), (0, .ref 0), (1, fi (x)), (2, fi (h)), (3, fi (0))] rfl (by decide) hL1 rfl rfl (fun L2 hL2 => ?_)
        refine f_goto rfl ?_
        have e9 : lc0_3 m x h A B = lc0_4 m x h A B := (if_pos (by omega)).trans (if_neg c2)
        rw [e9]
        exact hK4 hc5 A B _ hw5 hm5 (lS_1 hAB) (hL2.sel [0, 2, 3, 4, 5, 6, 7] rfl)
      · have c2 : ¬ (¬ (iA (iR (tk m 3 h) (x)) (1) : Int) = (1 : Int)) := c2
        refine f_il 2 rfl hL1 rfl ?_
        refine f_il 0 rfl hL1 rfl ?_
        refine m_k1 (t65 (tk_r m 3 h)) hw5 hm5 rfl rfl rfl rfl rfl (fun hc6 hw6 hm6 => ?_)
        refine f_imul rfl ?_
        refine f_ist [(4, fi (A * (bC (tk m 3 h)))), (7, fi (tk m 3 h)), (6, fi (3)), (5, fi (B)), (0, .ref 0), (1, fi (x)), (2, fi (h)), (3, fi (0))] rfl (by decide) hL1 rfl (fun L3 hL3 => ?_)
        refine f_il 3 rfl hL3 rfl ?_
        refine f_il 1 rfl hL3 rfl ?_
        refine m_k1 (t65 (tk_r m 3 h)) hw6 hm6 rfl rfl rfl rfl rfl (fun hc7 hw7 hm7 => ?_)
        refine f_s [fi (1), fi (bC (tk m 3 h)), fi (B)] rfl rfl ?_
        refine f_isub rfl ?_
        refine f_imul rfl ?_
        refine f_ist [(5, fi (B * ((bC (tk m 3 h)) - 1))), (4, fi (A * (bC (tk m 3 h)))), (7, fi (tk m 3 h)), (6, fi (3)), (0, .ref 0), (1, fi (x)), (2, fi (h)), (3, fi (0))] rfl (by decide) hL3 rfl (fun L4 hL4 => ?_)
        refine f_inc 3 [(6, fi (4)), (5, fi (B * ((bC (tk m 3 h)) - 1))), (4, fi (A * (bC (tk m 3 h)))), (7, fi (tk m 3 h)), (0, .ref 0), (1, fi (x)), (2, fi (h)), (3, fi (0))] rfl (by decide) hL4 rfl rfl (fun L5 hL5 => ?_)
        refine f_goto rfl ?_
        have c2 : iA (iR (tk m 3 h) x) 1 = 1 := by omega
        have cc := tk_c (m := m) (k := 3) (h := h) (x := x) (by omega) c2
        have e9 : lc0_3 m x h A B = lc0_4 m x h (A * bC (tk m 3 h)) (B * (bC (tk m 3 h) - 1)) := (if_pos (by omega)).trans (if_pos c2)
        rw [e9]
        exact hK4 hc7 _ _ _ hw7 hm7 (lS_s hAB (lQ_c cc.1 cc.2)) (hL5.sel [0, 2, 1, 4, 5, 6, 7] rfl)
  have hK2 : ∀ (hc : ev_H) (A B : Int) (L : ev_L), y_in yGw hc → gi hc = m → (A, B) ∈ lS 2 → f_L L [(6, fi (2)), (4, fi (A)), (5, fi (B)), (0, .ref 0), (1, fi (x)), (2, fi (h)), (3, fi (0))] → x_W none (1, 0, 8, 3, 10, 4, 89, 0, 0, ev_t183) 32 L [] hc 0 0 (fun r' h' => r' = some (fi (lc0_2 m x h A B)) ∧ y_in yGw h' ∧ gi h' = m) := fun hc A B L hw hm hAB hL => by
    obtain ⟨o1, o2, o3, o4, o5, o6, o7⟩ := okp_r (lS_at (by decide) hAB)
    refine f_il 0 rfl hL rfl ?_
    refine f_aln 3 rfl hL rfl ?_
    refine m_gfr so0 rfl hw rfl (by decide) ?_
    refine m_k1 t36 hw hm rfl rfl rfl (m_ar so3 hw rfl) rfl (fun hc8 hw8 hm8 => ?_)
    refine f_ic rfl (by decide) (by omega) (fun c1 => ?_) (fun c1 => ?_)
    · have c1 : (m 3 5 : Int) ≤ (2 : Int) := c1
      refine f_il 1 rfl hL rfl ?_
      refine f_il 2 rfl hL rfl ?_
      refine f_isub rfl ?_
      refine f_il 1 rfl hL rfl ?_
      refine f_iln 6 rfl hL rfl ?_
      refine m_k1 (t165_0 (a := A - B) (b := A) (g := eG (A - B) A) o3 (by omega) (by omega) (by omega) o1 o2) hw8 hm8 rfl rfl rfl rfl rfl (fun hc9 hw9 hm9 => ?_)
      exact f_ret1 rfl ⟨by unfold lc0_2; rw [if_neg (by omega)], hw9, hm9⟩
    · have c1 : ¬ ((m 3 5 : Int) ≤ (2 : Int)) := c1
      refine f_aln 3 rfl hL rfl ?_
      refine m_gfr so0 rfl hw8 rfl (by decide) ?_
      refine f_il 0 rfl hL rfl ?_
      refine f_iln 5 rfl hL rfl ?_
      refine m_k1 (t182 (k := 2) hn hp (by decide) rh) hw8 hm8 rfl rfl rfl (m_ar so9 hw8 rfl) rfl (fun hc10 hw10 hm10 => ?_)
      refine f_ist [(7, fi (tk m 2 h)), (6, fi (2)), (4, fi (A)), (5, fi (B)), (0, .ref 0), (1, fi (x)), (2, fi (h)), (3, fi (0))] rfl (by decide) hL rfl (fun L6 hL6 => ?_)
      refine f_il 0 rfl hL6 rfl ?_
      refine f_iln 5 rfl hL6 rfl ?_
      refine b_ishr rfl ?_
      refine f_s [fi (1), fi (iR (tk m 2 h) (x))] rfl rfl ?_
      refine b_iand rfl ?_
      refine f_s [fi (1), fi (iA (iR (tk m 2 h) (x)) (1))] rfl rfl ?_
      refine f_ic rfl iA_r (by decide) (fun c2 => ?_) (fun c2 => ?_)
      · have c2 : ¬ (iA (iR (tk m 2 h) (x)) (1) : Int) = (1 : Int) := c2
        refine f_inc 1 [(6, fi (3)), (7, fi (tk m 2 h)), (4, fi (A)), (5, fi (B)), (0, .ref 0), (1, fi (x)), (2, fi (h)), (3, fi (0))] rfl (by decide) hL6 rfl rfl (fun L7 hL7 => ?_)
        refine f_goto rfl ?_
        have e9 : lc0_2 m x h A B = lc0_3 m x h A B := (if_pos (by omega)).trans (if_neg c2)
        rw [e9]
        exact hK3 hc10 A B _ hw10 hm10 (lS_1 hAB) (hL7.sel [0, 2, 3, 4, 5, 6, 7] rfl)
      · have c2 : ¬ (¬ (iA (iR (tk m 2 h) (x)) (1) : Int) = (1 : Int)) := c2
        refine f_il 2 rfl hL6 rfl ?_
        refine f_il 0 rfl hL6 rfl ?_
        refine m_k1 (t65 (tk_r m 2 h)) hw10 hm10 rfl rfl rfl rfl rfl (fun hc11 hw11 hm11 => ?_)
        refine f_imul rfl ?_
        refine f_ist [(4, fi (A * (bC (tk m 2 h)))), (7, fi (tk m 2 h)), (6, fi (2)), (5, fi (B)), (0, .ref 0), (1, fi (x)), (2, fi (h)), (3, fi (0))] rfl (by decide) hL6 rfl (fun L8 hL8 => ?_)
        refine f_il 3 rfl hL8 rfl ?_
        refine f_il 1 rfl hL8 rfl ?_
        refine m_k1 (t65 (tk_r m 2 h)) hw11 hm11 rfl rfl rfl rfl rfl (fun hc12 hw12 hm12 => ?_)
        refine f_s [fi (1), fi (bC (tk m 2 h)), fi (B)] rfl rfl ?_
        refine f_isub rfl ?_
        refine f_imul rfl ?_
        refine f_ist [(5, fi (B * ((bC (tk m 2 h)) - 1))), (4, fi (A * (bC (tk m 2 h)))), (7, fi (tk m 2 h)), (6, fi (2)), (0, .ref 0), (1, fi (x)), (2, fi (h)), (3, fi (0))] rfl (by decide) hL8 rfl (fun L9 hL9 => ?_)
        refine f_inc 3 [(6, fi (3)), (5, fi (B * ((bC (tk m 2 h)) - 1))), (4, fi (A * (bC (tk m 2 h)))), (7, fi (tk m 2 h)), (0, .ref 0), (1, fi (x)), (2, fi (h)), (3, fi (0))] rfl (by decide) hL9 rfl rfl (fun L10 hL10 => ?_)
        refine f_goto rfl ?_
        have c2 : iA (iR (tk m 2 h) x) 1 = 1 := by omega
        have cc := tk_c (m := m) (k := 2) (h := h) (x := x) (by omega) c2
        have e9 : lc0_2 m x h A B = lc0_3 m x h (A * bC (tk m 2 h)) (B * (bC (tk m 2 h) - 1)) := (if_pos (by omega)).trans (if_pos c2)
        rw [e9]
        exact hK3 hc12 _ _ _ hw12 hm12 (lS_s hAB (lQ_c cc.1 cc.2)) (hL10.sel [0, 2, 1, 4, 5, 6, 7] rfl)
  have hK1 : ∀ (hc : ev_H) (A B : Int) (L : ev_L), y_in yGw hc → gi hc = m → (A, B) ∈ lS 1 → f_L L [(6, fi (1)), (4, fi (A)), (5, fi (B)), (0, .ref 0), (1, fi (x)), (2, fi (h)), (3, fi (0))] → x_W none (1, 0, 8, 3, 10, 4, 89, 0, 0, ev_t183) 32 L [] hc 0 0 (fun r' h' => r' = some (fi (lc0_1 m x h A B)) ∧ y_in yGw h' ∧ gi h' = m) := fun hc A B L hw hm hAB hL => by
    obtain ⟨o1, o2, o3, o4, o5, o6, o7⟩ := okp_r (lS_at (by decide) hAB)
    refine f_il 0 rfl hL rfl ?_
    refine f_aln 3 rfl hL rfl ?_
    refine m_gfr so0 rfl hw rfl (by decide) ?_
    refine m_k1 t36 hw hm rfl rfl rfl (m_ar so3 hw rfl) rfl (fun hc13 hw13 hm13 => ?_)
    refine f_ic rfl (by decide) (by omega) (fun c1 => ?_) (fun c1 => ?_)
    · have c1 : (m 3 5 : Int) ≤ (1 : Int) := c1
      refine f_il 1 rfl hL rfl ?_
      refine f_il 2 rfl hL rfl ?_
      refine f_isub rfl ?_
      refine f_il 1 rfl hL rfl ?_
      refine f_iln 6 rfl hL rfl ?_
      refine m_k1 (t165_0 (a := A - B) (b := A) (g := eG (A - B) A) o3 (by omega) (by omega) (by omega) o1 o2) hw13 hm13 rfl rfl rfl rfl rfl (fun hc14 hw14 hm14 => ?_)
      exact f_ret1 rfl ⟨by unfold lc0_1; rw [if_neg (by omega)], hw14, hm14⟩
    · have c1 : ¬ ((m 3 5 : Int) ≤ (1 : Int)) := c1
      refine f_aln 3 rfl hL rfl ?_
      refine m_gfr so0 rfl hw13 rfl (by decide) ?_
      refine f_il 0 rfl hL rfl ?_
      refine f_iln 5 rfl hL rfl ?_
      refine m_k1 (t182 (k := 1) hn hp (by decide) rh) hw13 hm13 rfl rfl rfl (m_ar so9 hw13 rfl) rfl (fun hc15 hw15 hm15 => ?_)
      refine f_ist [(7, fi (tk m 1 h)), (6, fi (1)), (4, fi (A)), (5, fi (B)), (0, .ref 0), (1, fi (x)), (2, fi (h)), (3, fi (0))] rfl (by decide) hL rfl (fun L11 hL11 => ?_)
      refine f_il 0 rfl hL11 rfl ?_
      refine f_iln 5 rfl hL11 rfl ?_
      refine b_ishr rfl ?_
      refine f_s [fi (1), fi (iR (tk m 1 h) (x))] rfl rfl ?_
      refine b_iand rfl ?_
      refine f_s [fi (1), fi (iA (iR (tk m 1 h) (x)) (1))] rfl rfl ?_
      refine f_ic rfl iA_r (by decide) (fun c2 => ?_) (fun c2 => ?_)
      · have c2 : ¬ (iA (iR (tk m 1 h) (x)) (1) : Int) = (1 : Int) := c2
        refine f_inc 1 [(6, fi (2)), (7, fi (tk m 1 h)), (4, fi (A)), (5, fi (B)), (0, .ref 0), (1, fi (x)), (2, fi (h)), (3, fi (0))] rfl (by decide) hL11 rfl rfl (fun L12 hL12 => ?_)
        refine f_goto rfl ?_
        have e9 : lc0_1 m x h A B = lc0_2 m x h A B := (if_pos (by omega)).trans (if_neg c2)
        rw [e9]
        exact hK2 hc15 A B _ hw15 hm15 (lS_1 hAB) (hL12.sel [0, 2, 3, 4, 5, 6, 7] rfl)
      · have c2 : ¬ (¬ (iA (iR (tk m 1 h) (x)) (1) : Int) = (1 : Int)) := c2
        refine f_il 2 rfl hL11 rfl ?_
        refine f_il 0 rfl hL11 rfl ?_
        refine m_k1 (t65 (tk_r m 1 h)) hw15 hm15 rfl rfl rfl rfl rfl (fun hc16 hw16 hm16 => ?_)
        refine f_imul rfl ?_
        refine f_ist [(4, fi (A * (bC (tk m 1 h)))), (7, fi (tk m 1 h)), (6, fi (1)), (5, fi (B)), (0, .ref 0), (1, fi (x)), (2, fi (h)), (3, fi (0))] rfl (by decide) hL11 rfl (fun L13 hL13 => ?_)
        refine f_il 3 rfl hL13 rfl ?_
        refine f_il 1 rfl hL13 rfl ?_
        refine m_k1 (t65 (tk_r m 1 h)) hw16 hm16 rfl rfl rfl rfl rfl (fun hc17 hw17 hm17 => ?_)
        refine f_s [fi (1), fi (bC (tk m 1 h)), fi (B)] rfl rfl ?_
        refine f_isub rfl ?_
        refine f_imul rfl ?_
        refine f_ist [(5, fi (B * ((bC (tk m 1 h)) - 1))), (4, fi (A * (bC (tk m 1 h)))), (7, fi (tk m 1 h)), (6, fi (1)), (0, .ref 0), (1, fi (x)), (2, fi (h)), (3, fi (0))] rfl (by decide) hL13 rfl (fun L14 hL14 => ?_)
        refine f_inc 3 [(6, fi (2)), (5, fi (B * ((bC (tk m 1 h)) - 1))), (4, fi (A * (bC (tk m 1 h)))), (7, fi (tk m 1 h)), (0, .ref 0), (1, fi (x)), (2, fi (h)), (3, fi (0))] rfl (by decide) hL14 rfl rfl (fun L15 hL15 => ?_)
        refine f_goto rfl ?_
        have c2 : iA (iR (tk m 1 h) x) 1 = 1 := by omega
        have cc := tk_c (m := m) (k := 1) (h := h) (x := x) (by omega) c2
        have e9 : lc0_1 m x h A B = lc0_2 m x h (A * bC (tk m 1 h)) (B * (bC (tk m 1 h) - 1)) := (if_pos (by omega)).trans (if_pos c2)
        rw [e9]
        exact hK2 hc17 _ _ _ hw17 hm17 (lS_s hAB (lQ_c cc.1 cc.2)) (hL15.sel [0, 2, 1, 4, 5, 6, 7] rfl)
  have hK0 : ∀ (hc : ev_H) (A B : Int) (L : ev_L), y_in yGw hc → gi hc = m → (A, B) ∈ lS 0 → f_L L [(6, fi (0)), (4, fi (A)), (5, fi (B)), (0, .ref 0), (1, fi (x)), (2, fi (h)), (3, fi (0))] → x_W none (1, 0, 8, 3, 10, 4, 89, 0, 0, ev_t183) 32 L [] hc 0 0 (fun r' h' => r' = some (fi (lc0_0 m x h A B)) ∧ y_in yGw h' ∧ gi h' = m) := fun hc A B L hw hm hAB hL => by
    obtain ⟨o1, o2, o3, o4, o5, o6, o7⟩ := okp_r (lS_at (by decide) hAB)
    refine f_il 0 rfl hL rfl ?_
    refine f_aln 3 rfl hL rfl ?_
    refine m_gfr so0 rfl hw rfl (by decide) ?_
    refine m_k1 t36 hw hm rfl rfl rfl (m_ar so3 hw rfl) rfl (fun hc18 hw18 hm18 => ?_)
    refine f_ic rfl (by decide) (by omega) (fun c1 => ?_) (fun c1 => ?_)
    · have c1 : (m 3 5 : Int) ≤ (0 : Int) := c1
      refine f_il 1 rfl hL rfl ?_
      refine f_il 2 rfl hL rfl ?_
      refine f_isub rfl ?_
      refine f_il 1 rfl hL rfl ?_
      refine f_iln 6 rfl hL rfl ?_
      refine m_k1 (t165_0 (a := A - B) (b := A) (g := eG (A - B) A) o3 (by omega) (by omega) (by omega) o1 o2) hw18 hm18 rfl rfl rfl rfl rfl (fun hc19 hw19 hm19 => ?_)
      exact f_ret1 rfl ⟨by unfold lc0_0; rw [if_neg (by omega)], hw19, hm19⟩
    · have c1 : ¬ ((m 3 5 : Int) ≤ (0 : Int)) := c1
      refine f_aln 3 rfl hL rfl ?_
      refine m_gfr so0 rfl hw18 rfl (by decide) ?_
      refine f_il 0 rfl hL rfl ?_
      refine f_iln 5 rfl hL rfl ?_
      refine m_k1 (t182 (k := 0) hn hp (by decide) rh) hw18 hm18 rfl rfl rfl (m_ar so9 hw18 rfl) rfl (fun hc20 hw20 hm20 => ?_)
      refine f_ist [(7, fi (tk m 0 h)), (6, fi (0)), (4, fi (A)), (5, fi (B)), (0, .ref 0), (1, fi (x)), (2, fi (h)), (3, fi (0))] rfl (by decide) hL rfl (fun L16 hL16 => ?_)
      refine f_il 0 rfl hL16 rfl ?_
      refine f_iln 5 rfl hL16 rfl ?_
      refine b_ishr rfl ?_
      refine f_s [fi (1), fi (iR (tk m 0 h) (x))] rfl rfl ?_
      refine b_iand rfl ?_
      refine f_s [fi (1), fi (iA (iR (tk m 0 h) (x)) (1))] rfl rfl ?_
      refine f_ic rfl iA_r (by decide) (fun c2 => ?_) (fun c2 => ?_)
      · have c2 : ¬ (iA (iR (tk m 0 h) (x)) (1) : Int) = (1 : Int) := c2
        refine f_inc 1 [(6, fi (1)), (7, fi (tk m 0 h)), (4, fi (A)), (5, fi (B)), (0, .ref 0), (1, fi (x)), (2, fi (h)), (3, fi (0))] rfl (by decide) hL16 rfl rfl (fun L17 hL17 => ?_)
        refine f_goto rfl ?_
        have e9 : lc0_0 m x h A B = lc0_1 m x h A B := (if_pos (by omega)).trans (if_neg c2)
        rw [e9]
        exact hK1 hc20 A B _ hw20 hm20 (lS_1 hAB) (hL17.sel [0, 2, 3, 4, 5, 6, 7] rfl)
      · have c2 : ¬ (¬ (iA (iR (tk m 0 h) (x)) (1) : Int) = (1 : Int)) := c2
        refine f_il 2 rfl hL16 rfl ?_
        refine f_il 0 rfl hL16 rfl ?_
        refine m_k1 (t65 (tk_r m 0 h)) hw20 hm20 rfl rfl rfl rfl rfl (fun hc21 hw21 hm21 => ?_)
        refine f_imul rfl ?_
        refine f_ist [(4, fi (A * (bC (tk m 0 h)))), (7, fi (tk m 0 h)), (6, fi (0)), (5, fi (B)), (0, .ref 0), (1, fi (x)), (2, fi (h)), (3, fi (0))] rfl (by decide) hL16 rfl (fun L18 hL18 => ?_)
        refine f_il 3 rfl hL18 rfl ?_
        refine f_il 1 rfl hL18 rfl ?_
        refine m_k1 (t65 (tk_r m 0 h)) hw21 hm21 rfl rfl rfl rfl rfl (fun hc22 hw22 hm22 => ?_)
        refine f_s [fi (1), fi (bC (tk m 0 h)), fi (B)] rfl rfl ?_
        refine f_isub rfl ?_
        refine f_imul rfl ?_
        refine f_ist [(5, fi (B * ((bC (tk m 0 h)) - 1))), (4, fi (A * (bC (tk m 0 h)))), (7, fi (tk m 0 h)), (6, fi (0)), (0, .ref 0), (1, fi (x)), (2, fi (h)), (3, fi (0))] rfl (by decide) hL18 rfl (fun L19 hL19 => ?_)
        refine f_inc 3 [(6, fi (1)), (5, fi (B * ((bC (tk m 0 h)) - 1))), (4, fi (A * (bC (tk m 0 h)))), (7, fi (tk m 0 h)), (0, .ref 0), (1, fi (x)), (2, fi (h)), (3, fi (0))] rfl (by decide) hL19 rfl rfl (fun L20 hL20 => ?_)
        refine f_goto rfl ?_
        have c2 : iA (iR (tk m 0 h) x) 1 = 1 := by omega
        have cc := tk_c (m := m) (k := 0) (h := h) (x := x) (by omega) c2
        have e9 : lc0_0 m x h A B = lc0_1 m x h (A * bC (tk m 0 h)) (B * (bC (tk m 0 h) - 1)) := (if_pos (by omega)).trans (if_pos c2)
        rw [e9]
        exact hK1 hc22 _ _ _ hw22 hm22 (lS_s hAB (lQ_c cc.1 cc.2)) (hL20.sel [0, 2, 1, 4, 5, 6, 7] rfl)
  refine f_aln 0 rfl hL rfl ?_
  refine m_gfr so0 rfl hw rfl (by decide) ?_
  refine f_iln 1 rfl hL rfl ?_
  refine m_k1 (t49 hp.2 rx) hw hm rfl rfl rfl (m_ar so3 hw rfl) rfl (fun hc23 hw23 hm23 => ?_)
  refine f_if rfl (bI_r _) (fun _ => ?_) (fun c => absurd (show ¬ (bI (decide (0 ≤ x ∧ x < m 3 6)) : Int) = (0 : Int) from (by rw [decide_eq_true hx]; decide)) c)
  refine f_iln 2 rfl hL rfl ?_
  refine m_k1 (t101b rh) hw23 hm23 rfl rfl rfl rfl rfl (fun hc24 hw24 hm24 => ?_)
  refine f_if rfl (bI_r _) (fun _ => ?_) (fun c => absurd (show ¬ (bI (decide (0 ≤ h ∧ h < 10)) : Int) = (0 : Int) from (by rw [decide_eq_true hh]; decide)) c)
  refine f_s [fi (1)] rfl rfl ?_
  refine f_ist [(4, fi (1)), (0, .ref 0), (1, fi (x)), (2, fi (h)), (3, fi (0))] rfl (by decide) hL rfl (fun L21 hL21 => ?_)
  refine f_s [fi (1)] rfl rfl ?_
  refine f_ist [(5, fi (1)), (4, fi (1)), (0, .ref 0), (1, fi (x)), (2, fi (h)), (3, fi (0))] rfl (by decide) hL21 rfl (fun L22 hL22 => ?_)
  refine f_s [fi (0)] rfl rfl ?_
  refine f_ist [(6, fi (0)), (5, fi (1)), (4, fi (1)), (0, .ref 0), (1, fi (x)), (2, fi (h)), (3, fi (0))] rfl (by decide) hL22 rfl (fun L23 hL23 => ?_)
  exact hK0 hc24 1 1 _ hw24 hm24 (List.mem_singleton.mpr rfl) (hL23.sel [0, 2, 1, 3, 4, 5, 6] rfl))
def lc1_4 (m : Nat → Nat → Int) (x h A B : Int) : Int := (A - B).tdiv (eG (A - B) A)
def lc1_3 (m : Nat → Nat → Int) (x h A B : Int) : Int := if 3 < m 3 5 then (if iA (iR (tk m 3 h) x) 1 = 1 then lc1_4 m x h (A * bC (tk m 3 h)) (B * (bC (tk m 3 h) - 1)) else lc1_4 m x h A B) else (A - B).tdiv (eG (A - B) A)
def lc1_2 (m : Nat → Nat → Int) (x h A B : Int) : Int := if 2 < m 3 5 then (if iA (iR (tk m 2 h) x) 1 = 1 then lc1_3 m x h (A * bC (tk m 2 h)) (B * (bC (tk m 2 h) - 1)) else lc1_3 m x h A B) else (A - B).tdiv (eG (A - B) A)
def lc1_1 (m : Nat → Nat → Int) (x h A B : Int) : Int := if 1 < m 3 5 then (if iA (iR (tk m 1 h) x) 1 = 1 then lc1_2 m x h (A * bC (tk m 1 h)) (B * (bC (tk m 1 h) - 1)) else lc1_2 m x h A B) else (A - B).tdiv (eG (A - B) A)
def lc1_0 (m : Nat → Nat → Int) (x h A B : Int) : Int := if 0 < m 3 5 then (if iA (iR (tk m 0 h) x) 1 = 1 then lc1_1 m x h (A * bC (tk m 0 h)) (B * (bC (tk m 0 h) - 1)) else lc1_1 m x h A B) else (A - B).tdiv (eG (A - B) A)
theorem t183_1_un {m : Nat → Nat → Int} (hp : 0 ≤ m 3 6 ∧ m 3 6 ≤ 5) {x : Int} (rx : -2147483648 ≤ x ∧ x ≤ 2147483647) {h : Int} (rh : -2147483648 ≤ h ∧ h ≤ 2147483647) (h0 : ¬ (0 ≤ x ∧ x < m 3 6)) : h_M 183 [.ref 0, fi (x), fi (h), fi (1)] m (some (fi (-1))) m := h_M_of (R := ev_r183) rfl (fun hc hw hm => by
  have hL : f_L (lv_args 0 [.ref 0, fi (x), fi (h), fi (1)]) [(0, .ref 0), (1, fi (x)), (2, fi (h)), (3, fi (1))] := f_L_of rfl
  generalize lv_args 0 [.ref 0, fi (x), fi (h), fi (1)] = L at hL
  show x_W none (1, 0, 8, 3, 10, 4, 89, 0, 0, ev_t183) 0 L [] hc 0 0 _
  have hR := gi_R hm
  refine f_aln 0 rfl hL rfl ?_
  refine m_gfr so0 rfl hw rfl (by decide) ?_
  refine f_iln 1 rfl hL rfl ?_
  refine m_k1 (t49 hp.2 rx) hw hm rfl rfl rfl (m_ar so3 hw rfl) rfl (fun hc1 hw1 hm1 => ?_)
  refine f_if rfl (bI_r _) (fun c => absurd (show ¬ (bI (decide (0 ≤ x ∧ x < m 3 6)) : Int) = (0 : Int) from c) (by rw [decide_eq_false h0]; exact fun z => z rfl)) (fun _ => ?_)
  refine f_s [fi (-1)] rfl rfl ?_
  exact f_ret1 rfl ⟨rfl, hw1, hm1⟩)
theorem t183_1_out {m : Nat → Nat → Int} (hp : 0 ≤ m 3 6 ∧ m 3 6 ≤ 5) {x : Int} (rx : -2147483648 ≤ x ∧ x ≤ 2147483647) {h : Int} (rh : -2147483648 ≤ h ∧ h ≤ 2147483647) (hx : 0 ≤ x ∧ x < m 3 6) (h0 : ¬ (0 ≤ h ∧ h < 10)) : h_M 183 [.ref 0, fi (x), fi (h), fi (1)] m (some (fi (-2))) m := h_M_of (R := ev_r183) rfl (fun hc hw hm => by
  have hL : f_L (lv_args 0 [.ref 0, fi (x), fi (h), fi (1)]) [(0, .ref 0), (1, fi (x)), (2, fi (h)), (3, fi (1))] := f_L_of rfl
  generalize lv_args 0 [.ref 0, fi (x), fi (h), fi (1)] = L at hL
  show x_W none (1, 0, 8, 3, 10, 4, 89, 0, 0, ev_t183) 0 L [] hc 0 0 _
  have hR := gi_R hm
  refine f_aln 0 rfl hL rfl ?_
  refine m_gfr so0 rfl hw rfl (by decide) ?_
  refine f_iln 1 rfl hL rfl ?_
  refine m_k1 (t49 hp.2 rx) hw hm rfl rfl rfl (m_ar so3 hw rfl) rfl (fun hc1 hw1 hm1 => ?_)
  refine f_if rfl (bI_r _) (fun _ => ?_) (fun c => absurd (show ¬ (bI (decide (0 ≤ x ∧ x < m 3 6)) : Int) = (0 : Int) from (by rw [decide_eq_true hx]; decide)) c)
  refine f_iln 2 rfl hL rfl ?_
  refine m_k1 (t101b rh) hw1 hm1 rfl rfl rfl rfl rfl (fun hc2 hw2 hm2 => ?_)
  refine f_if rfl (bI_r _) (fun c => absurd (show ¬ (bI (decide (0 ≤ h ∧ h < 10)) : Int) = (0 : Int) from c) (by rw [decide_eq_false h0]; exact fun z => z rfl)) (fun _ => ?_)
  refine f_bipush (n := -2) rfl (by decide) ?_
  exact f_ret1 rfl ⟨rfl, hw2, hm2⟩)
theorem t183_1_ok {m : Nat → Nat → Int} (hn : 0 ≤ m 3 5 ∧ m 3 5 ≤ 4) (hp : 0 ≤ m 3 6 ∧ m 3 6 ≤ 5) {x : Int} (rx : -2147483648 ≤ x ∧ x ≤ 2147483647) {h : Int} (rh : -2147483648 ≤ h ∧ h ≤ 2147483647) (hx : 0 ≤ x ∧ x < m 3 6) (hh : 0 ≤ h ∧ h < 10) : h_M 183 [.ref 0, fi (x), fi (h), fi (1)] m (some (fi (lc1_0 m x h 1 1))) m := h_M_of (R := ev_r183) rfl (fun hc hw hm => by
  have hL : f_L (lv_args 0 [.ref 0, fi (x), fi (h), fi (1)]) [(0, .ref 0), (1, fi (x)), (2, fi (h)), (3, fi (1))] := f_L_of rfl
  generalize lv_args 0 [.ref 0, fi (x), fi (h), fi (1)] = L at hL
  show x_W none (1, 0, 8, 3, 10, 4, 89, 0, 0, ev_t183) 0 L [] hc 0 0 _
  have hR := gi_R hm
  have hK4 : ∀ (hc : ev_H) (A B : Int) (L : ev_L), y_in yGw hc → gi hc = m → (A, B) ∈ lS 4 → f_L L [(6, fi (4)), (4, fi (A)), (5, fi (B)), (0, .ref 0), (1, fi (x)), (2, fi (h)), (3, fi (1))] → x_W none (1, 0, 8, 3, 10, 4, 89, 0, 0, ev_t183) 32 L [] hc 0 0 (fun r' h' => r' = some (fi (lc1_4 m x h A B)) ∧ y_in yGw h' ∧ gi h' = m) := fun hc A B L hw hm hAB hL => by
    obtain ⟨o1, o2, o3, o4, o5, o6, o7⟩ := okp_r (lS_at (by decide) hAB)
    refine f_il 0 rfl hL rfl ?_
    refine f_aln 3 rfl hL rfl ?_
    refine m_gfr so0 rfl hw rfl (by decide) ?_
    refine m_k1 t36 hw hm rfl rfl rfl (m_ar so3 hw rfl) rfl (fun hc1 hw1 hm1 => ?_)
    refine f_ic rfl (by decide) (by omega) (fun _ => ?_) (fun c => absurd (show (m 3 5 : Int) ≤ (4 : Int) from (by omega)) c)
    refine f_il 1 rfl hL rfl ?_
    refine f_il 2 rfl hL rfl ?_
    refine f_isub rfl ?_
    refine f_il 1 rfl hL rfl ?_
    refine f_iln 6 rfl hL rfl ?_
    refine m_k1 (t165_1 (a := A - B) (b := A) (g := eG (A - B) A) o3 (by omega) (by omega) (by omega) o1 o2) hw1 hm1 rfl rfl rfl rfl rfl (fun hc2 hw2 hm2 => ?_)
    exact f_ret1 rfl ⟨rfl, hw2, hm2⟩
  have hK3 : ∀ (hc : ev_H) (A B : Int) (L : ev_L), y_in yGw hc → gi hc = m → (A, B) ∈ lS 3 → f_L L [(6, fi (3)), (4, fi (A)), (5, fi (B)), (0, .ref 0), (1, fi (x)), (2, fi (h)), (3, fi (1))] → x_W none (1, 0, 8, 3, 10, 4, 89, 0, 0, ev_t183) 32 L [] hc 0 0 (fun r' h' => r' = some (fi (lc1_3 m x h A B)) ∧ y_in yGw h' ∧ gi h' = m) := fun hc A B L hw hm hAB hL => by
    obtain ⟨o1, o2, o3, o4, o5, o6, o7⟩ := okp_r (lS_at (by decide) hAB)
    refine f_il 0 rfl hL rfl ?_
    refine f_aln 3 rfl hL rfl ?_
    refine m_gfr so0 rfl hw rfl (by decide) ?_
    refine m_k1 t36 hw hm rfl rfl rfl (m_ar so3 hw rfl) rfl (fun hc3 hw3 hm3 => ?_)
    refine f_ic rfl (by decide) (by omega) (fun c1 => ?_) (fun c1 => ?_)
    · have c1 : (m 3 5 : Int) ≤ (3 : Int) := c1
      refine f_il 1 rfl hL rfl ?_
      refine f_il 2 rfl hL rfl ?_
      refine f_isub rfl ?_
      refine f_il 1 rfl hL rfl ?_
      refine f_iln 6 rfl hL rfl ?_
      refine m_k1 (t165_1 (a := A - B) (b := A) (g := eG (A - B) A) o3 (by omega) (by omega) (by omega) o1 o2) hw3 hm3 rfl rfl rfl rfl rfl (fun hc4 hw4 hm4 => ?_)
      exact f_ret1 rfl ⟨by unfold lc1_3; rw [if_neg (by omega)], hw4, hm4⟩
    · have c1 : ¬ ((m 3 5 : Int) ≤ (3 : Int)) := c1
      refine f_aln 3 rfl hL rfl ?_
      refine m_gfr so0 rfl hw3 rfl (by decide) ?_
      refine f_il 0 rfl hL rfl ?_
      refine f_iln 5 rfl hL rfl ?_
      refine m_k1 (t182 (k := 3) hn hp (by decide) rh) hw3 hm3 rfl rfl rfl (m_ar so9 hw3 rfl) rfl (fun hc5 hw5 hm5 => ?_)
      refine f_ist [(7, fi (tk m 3 h)), (6, fi (3)), (4, fi (A)), (5, fi (B)), (0, .ref 0), (1, fi (x)), (2, fi (h)), (3, fi (1))] rfl (by decide) hL rfl (fun L1 hL1 => ?_)
      refine f_il 0 rfl hL1 rfl ?_
      refine f_iln 5 rfl hL1 rfl ?_
      refine b_ishr rfl ?_
      refine f_s [fi (1), fi (iR (tk m 3 h) (x))] rfl rfl ?_
      refine b_iand rfl ?_
      refine f_s [fi (1), fi (iA (iR (tk m 3 h) (x)) (1))] rfl rfl ?_
      refine f_ic rfl iA_r (by decide) (fun c2 => ?_) (fun c2 => ?_)
      · have c2 : ¬ (iA (iR (tk m 3 h) (x)) (1) : Int) = (1 : Int) := c2
        refine f_inc 1 [(6, fi (4)), (7, fi (tk m 3 h)), (4, fi (A)), (5, fi (B)), (0, .ref 0), (1, fi (x)), (2, fi (h)), (3, fi (1))] rfl (by decide) hL1 rfl rfl (fun L2 hL2 => ?_)
        refine f_goto rfl ?_
        have e9 : lc1_3 m x h A B = lc1_4 m x h A B := (if_pos (by omega)).trans (if_neg c2)
        rw [e9]
        exact hK4 hc5 A B _ hw5 hm5 (lS_1 hAB) (hL2.sel [0, 2, 3, 4, 5, 6, 7] rfl)
      · have c2 : ¬ (¬ (iA (iR (tk m 3 h) (x)) (1) : Int) = (1 : Int)) := c2
        refine f_il 2 rfl hL1 rfl ?_
        refine f_il 0 rfl hL1 rfl ?_
        refine m_k1 (t65 (tk_r m 3 h)) hw5 hm5 rfl rfl rfl rfl rfl (fun hc6 hw6 hm6 => ?_)
        refine f_imul rfl ?_
        refine f_ist [(4, fi (A * (bC (tk m 3 h)))), (7, fi (tk m 3 h)), (6, fi (3)), (5, fi (B)), (0, .ref 0), (1, fi (x)), (2, fi (h)), (3, fi (1))] rfl (by decide) hL1 rfl (fun L3 hL3 => ?_)
        refine f_il 3 rfl hL3 rfl ?_
        refine f_il 1 rfl hL3 rfl ?_
        refine m_k1 (t65 (tk_r m 3 h)) hw6 hm6 rfl rfl rfl rfl rfl (fun hc7 hw7 hm7 => ?_)
        refine f_s [fi (1), fi (bC (tk m 3 h)), fi (B)] rfl rfl ?_
        refine f_isub rfl ?_
        refine f_imul rfl ?_
        refine f_ist [(5, fi (B * ((bC (tk m 3 h)) - 1))), (4, fi (A * (bC (tk m 3 h)))), (7, fi (tk m 3 h)), (6, fi (3)), (0, .ref 0), (1, fi (x)), (2, fi (h)), (3, fi (1))] rfl (by decide) hL3 rfl (fun L4 hL4 => ?_)
        refine f_inc 3 [(6, fi (4)), (5, fi (B * ((bC (tk m 3 h)) - 1))), (4, fi (A * (bC (tk m 3 h)))), (7, fi (tk m 3 h)), (0, .ref 0), (1, fi (x)), (2, fi (h)), (3, fi (1))] rfl (by decide) hL4 rfl rfl (fun L5 hL5 => ?_)
        refine f_goto rfl ?_
        have c2 : iA (iR (tk m 3 h) x) 1 = 1 := by omega
        have cc := tk_c (m := m) (k := 3) (h := h) (x := x) (by omega) c2
        have e9 : lc1_3 m x h A B = lc1_4 m x h (A * bC (tk m 3 h)) (B * (bC (tk m 3 h) - 1)) := (if_pos (by omega)).trans (if_pos c2)
        rw [e9]
        exact hK4 hc7 _ _ _ hw7 hm7 (lS_s hAB (lQ_c cc.1 cc.2)) (hL5.sel [0, 2, 1, 4, 5, 6, 7] rfl)
  have hK2 : ∀ (hc : ev_H) (A B : Int) (L : ev_L), y_in yGw hc → gi hc = m → (A, B) ∈ lS 2 → f_L L [(6, fi (2)), (4, fi (A)), (5, fi (B)), (0, .ref 0), (1, fi (x)), (2, fi (h)), (3, fi (1))] → x_W none (1, 0, 8, 3, 10, 4, 89, 0, 0, ev_t183) 32 L [] hc 0 0 (fun r' h' => r' = some (fi (lc1_2 m x h A B)) ∧ y_in yGw h' ∧ gi h' = m) := fun hc A B L hw hm hAB hL => by
    obtain ⟨o1, o2, o3, o4, o5, o6, o7⟩ := okp_r (lS_at (by decide) hAB)
    refine f_il 0 rfl hL rfl ?_
    refine f_aln 3 rfl hL rfl ?_
    refine m_gfr so0 rfl hw rfl (by decide) ?_
    refine m_k1 t36 hw hm rfl rfl rfl (m_ar so3 hw rfl) rfl (fun hc8 hw8 hm8 => ?_)
    refine f_ic rfl (by decide) (by omega) (fun c1 => ?_) (fun c1 => ?_)
    · have c1 : (m 3 5 : Int) ≤ (2 : Int) := c1
      refine f_il 1 rfl hL rfl ?_
      refine f_il 2 rfl hL rfl ?_
      refine f_isub rfl ?_
      refine f_il 1 rfl hL rfl ?_
      refine f_iln 6 rfl hL rfl ?_
      refine m_k1 (t165_1 (a := A - B) (b := A) (g := eG (A - B) A) o3 (by omega) (by omega) (by omega) o1 o2) hw8 hm8 rfl rfl rfl rfl rfl (fun hc9 hw9 hm9 => ?_)
      exact f_ret1 rfl ⟨by unfold lc1_2; rw [if_neg (by omega)], hw9, hm9⟩
    · have c1 : ¬ ((m 3 5 : Int) ≤ (2 : Int)) := c1
      refine f_aln 3 rfl hL rfl ?_
      refine m_gfr so0 rfl hw8 rfl (by decide) ?_
      refine f_il 0 rfl hL rfl ?_
      refine f_iln 5 rfl hL rfl ?_
      refine m_k1 (t182 (k := 2) hn hp (by decide) rh) hw8 hm8 rfl rfl rfl (m_ar so9 hw8 rfl) rfl (fun hc10 hw10 hm10 => ?_)
      refine f_ist [(7, fi (tk m 2 h)), (6, fi (2)), (4, fi (A)), (5, fi (B)), (0, .ref 0), (1, fi (x)), (2, fi (h)), (3, fi (1))] rfl (by decide) hL rfl (fun L6 hL6 => ?_)
      refine f_il 0 rfl hL6 rfl ?_
      refine f_iln 5 rfl hL6 rfl ?_
      refine b_ishr rfl ?_
      refine f_s [fi (1), fi (iR (tk m 2 h) (x))] rfl rfl ?_
      refine b_iand rfl ?_
      refine f_s [fi (1), fi (iA (iR (tk m 2 h) (x)) (1))] rfl rfl ?_
      refine f_ic rfl iA_r (by decide) (fun c2 => ?_) (fun c2 => ?_)
      · have c2 : ¬ (iA (iR (tk m 2 h) (x)) (1) : Int) = (1 : Int) := c2
        refine f_inc 1 [(6, fi (3)), (7, fi (tk m 2 h)), (4, fi (A)), (5, fi (B)), (0, .ref 0), (1, fi (x)), (2, fi (h)), (3, fi (1))] rfl (by decide) hL6 rfl rfl (fun L7 hL7 => ?_)
        refine f_goto rfl ?_
        have e9 : lc1_2 m x h A B = lc1_3 m x h A B := (if_pos (by omega)).trans (if_neg c2)
        rw [e9]
        exact hK3 hc10 A B _ hw10 hm10 (lS_1 hAB) (hL7.sel [0, 2, 3, 4, 5, 6, 7] rfl)
      · have c2 : ¬ (¬ (iA (iR (tk m 2 h) (x)) (1) : Int) = (1 : Int)) := c2
        refine f_il 2 rfl hL6 rfl ?_
        refine f_il 0 rfl hL6 rfl ?_
        refine m_k1 (t65 (tk_r m 2 h)) hw10 hm10 rfl rfl rfl rfl rfl (fun hc11 hw11 hm11 => ?_)
        refine f_imul rfl ?_
        refine f_ist [(4, fi (A * (bC (tk m 2 h)))), (7, fi (tk m 2 h)), (6, fi (2)), (5, fi (B)), (0, .ref 0), (1, fi (x)), (2, fi (h)), (3, fi (1))] rfl (by decide) hL6 rfl (fun L8 hL8 => ?_)
        refine f_il 3 rfl hL8 rfl ?_
        refine f_il 1 rfl hL8 rfl ?_
        refine m_k1 (t65 (tk_r m 2 h)) hw11 hm11 rfl rfl rfl rfl rfl (fun hc12 hw12 hm12 => ?_)
        refine f_s [fi (1), fi (bC (tk m 2 h)), fi (B)] rfl rfl ?_
        refine f_isub rfl ?_
        refine f_imul rfl ?_
        refine f_ist [(5, fi (B * ((bC (tk m 2 h)) - 1))), (4, fi (A * (bC (tk m 2 h)))), (7, fi (tk m 2 h)), (6, fi (2)), (0, .ref 0), (1, fi (x)), (2, fi (h)), (3, fi (1))] rfl (by decide) hL8 rfl (fun L9 hL9 => ?_)
        refine f_inc 3 [(6, fi (3)), (5, fi (B * ((bC (tk m 2 h)) - 1))), (4, fi (A * (bC (tk m 2 h)))), (7, fi (tk m 2 h)), (0, .ref 0), (1, fi (x)), (2, fi (h)), (3, fi (1))] rfl (by decide) hL9 rfl rfl (fun L10 hL10 => ?_)
        refine f_goto rfl ?_
        have c2 : iA (iR (tk m 2 h) x) 1 = 1 := by omega
        have cc := tk_c (m := m) (k := 2) (h := h) (x := x) (by omega) c2
        have e9 : lc1_2 m x h A B = lc1_3 m x h (A * bC (tk m 2 h)) (B * (bC (tk m 2 h) - 1)) := (if_pos (by omega)).trans (if_pos c2)
        rw [e9]
        exact hK3 hc12 _ _ _ hw12 hm12 (lS_s hAB (lQ_c cc.1 cc.2)) (hL10.sel [0, 2, 1, 4, 5, 6, 7] rfl)
  have hK1 : ∀ (hc : ev_H) (A B : Int) (L : ev_L), y_in yGw hc → gi hc = m → (A, B) ∈ lS 1 → f_L L [(6, fi (1)), (4, fi (A)), (5, fi (B)), (0, .ref 0), (1, fi (x)), (2, fi (h)), (3, fi (1))] → x_W none (1, 0, 8, 3, 10, 4, 89, 0, 0, ev_t183) 32 L [] hc 0 0 (fun r' h' => r' = some (fi (lc1_1 m x h A B)) ∧ y_in yGw h' ∧ gi h' = m) := fun hc A B L hw hm hAB hL => by
    obtain ⟨o1, o2, o3, o4, o5, o6, o7⟩ := okp_r (lS_at (by decide) hAB)
    refine f_il 0 rfl hL rfl ?_
    refine f_aln 3 rfl hL rfl ?_
    refine m_gfr so0 rfl hw rfl (by decide) ?_
    refine m_k1 t36 hw hm rfl rfl rfl (m_ar so3 hw rfl) rfl (fun hc13 hw13 hm13 => ?_)
    refine f_ic rfl (by decide) (by omega) (fun c1 => ?_) (fun c1 => ?_)
    · have c1 : (m 3 5 : Int) ≤ (1 : Int) := c1
      refine f_il 1 rfl hL rfl ?_
      refine f_il 2 rfl hL rfl ?_
      refine f_isub rfl ?_
      refine f_il 1 rfl hL rfl ?_
      refine f_iln 6 rfl hL rfl ?_
      refine m_k1 (t165_1 (a := A - B) (b := A) (g := eG (A - B) A) o3 (by omega) (by omega) (by omega) o1 o2) hw13 hm13 rfl rfl rfl rfl rfl (fun hc14 hw14 hm14 => ?_)
      exact f_ret1 rfl ⟨by unfold lc1_1; rw [if_neg (by omega)], hw14, hm14⟩
    · have c1 : ¬ ((m 3 5 : Int) ≤ (1 : Int)) := c1
      refine f_aln 3 rfl hL rfl ?_
      refine m_gfr so0 rfl hw13 rfl (by decide) ?_
      refine f_il 0 rfl hL rfl ?_
      refine f_iln 5 rfl hL rfl ?_
      refine m_k1 (t182 (k := 1) hn hp (by decide) rh) hw13 hm13 rfl rfl rfl (m_ar so9 hw13 rfl) rfl (fun hc15 hw15 hm15 => ?_)
      refine f_ist [(7, fi (tk m 1 h)), (6, fi (1)), (4, fi (A)), (5, fi (B)), (0, .ref 0), (1, fi (x)), (2, fi (h)), (3, fi (1))] rfl (by decide) hL rfl (fun L11 hL11 => ?_)
      refine f_il 0 rfl hL11 rfl ?_
      refine f_iln 5 rfl hL11 rfl ?_
      refine b_ishr rfl ?_
      refine f_s [fi (1), fi (iR (tk m 1 h) (x))] rfl rfl ?_
      refine b_iand rfl ?_
      refine f_s [fi (1), fi (iA (iR (tk m 1 h) (x)) (1))] rfl rfl ?_
      refine f_ic rfl iA_r (by decide) (fun c2 => ?_) (fun c2 => ?_)
      · have c2 : ¬ (iA (iR (tk m 1 h) (x)) (1) : Int) = (1 : Int) := c2
        refine f_inc 1 [(6, fi (2)), (7, fi (tk m 1 h)), (4, fi (A)), (5, fi (B)), (0, .ref 0), (1, fi (x)), (2, fi (h)), (3, fi (1))] rfl (by decide) hL11 rfl rfl (fun L12 hL12 => ?_)
        refine f_goto rfl ?_
        have e9 : lc1_1 m x h A B = lc1_2 m x h A B := (if_pos (by omega)).trans (if_neg c2)
        rw [e9]
        exact hK2 hc15 A B _ hw15 hm15 (lS_1 hAB) (hL12.sel [0, 2, 3, 4, 5, 6, 7] rfl)
      · have c2 : ¬ (¬ (iA (iR (tk m 1 h) (x)) (1) : Int) = (1 : Int)) := c2
        refine f_il 2 rfl hL11 rfl ?_
        refine f_il 0 rfl hL11 rfl ?_
        refine m_k1 (t65 (tk_r m 1 h)) hw15 hm15 rfl rfl rfl rfl rfl (fun hc16 hw16 hm16 => ?_)
        refine f_imul rfl ?_
        refine f_ist [(4, fi (A * (bC (tk m 1 h)))), (7, fi (tk m 1 h)), (6, fi (1)), (5, fi (B)), (0, .ref 0), (1, fi (x)), (2, fi (h)), (3, fi (1))] rfl (by decide) hL11 rfl (fun L13 hL13 => ?_)
        refine f_il 3 rfl hL13 rfl ?_
        refine f_il 1 rfl hL13 rfl ?_
        refine m_k1 (t65 (tk_r m 1 h)) hw16 hm16 rfl rfl rfl rfl rfl (fun hc17 hw17 hm17 => ?_)
        refine f_s [fi (1), fi (bC (tk m 1 h)), fi (B)] rfl rfl ?_
        refine f_isub rfl ?_
        refine f_imul rfl ?_
        refine f_ist [(5, fi (B * ((bC (tk m 1 h)) - 1))), (4, fi (A * (bC (tk m 1 h)))), (7, fi (tk m 1 h)), (6, fi (1)), (0, .ref 0), (1, fi (x)), (2, fi (h)), (3, fi (1))] rfl (by decide) hL13 rfl (fun L14 hL14 => ?_)
        refine f_inc 3 [(6, fi (2)), (5, fi (B * ((bC (tk m 1 h)) - 1))), (4, fi (A * (bC (tk m 1 h)))), (7, fi (tk m 1 h)), (0, .ref 0), (1, fi (x)), (2, fi (h)), (3, fi (1))] rfl (by decide) hL14 rfl rfl (fun L15 hL15 => ?_)
        refine f_goto rfl ?_
        have c2 : iA (iR (tk m 1 h) x) 1 = 1 := by omega
        have cc := tk_c (m := m) (k := 1) (h := h) (x := x) (by omega) c2
        have e9 : lc1_1 m x h A B = lc1_2 m x h (A * bC (tk m 1 h)) (B * (bC (tk m 1 h) - 1)) := (if_pos (by omega)).trans (if_pos c2)
        rw [e9]
        exact hK2 hc17 _ _ _ hw17 hm17 (lS_s hAB (lQ_c cc.1 cc.2)) (hL15.sel [0, 2, 1, 4, 5, 6, 7] rfl)
  have hK0 : ∀ (hc : ev_H) (A B : Int) (L : ev_L), y_in yGw hc → gi hc = m → (A, B) ∈ lS 0 → f_L L [(6, fi (0)), (4, fi (A)), (5, fi (B)), (0, .ref 0), (1, fi (x)), (2, fi (h)), (3, fi (1))] → x_W none (1, 0, 8, 3, 10, 4, 89, 0, 0, ev_t183) 32 L [] hc 0 0 (fun r' h' => r' = some (fi (lc1_0 m x h A B)) ∧ y_in yGw h' ∧ gi h' = m) := fun hc A B L hw hm hAB hL => by
    obtain ⟨o1, o2, o3, o4, o5, o6, o7⟩ := okp_r (lS_at (by decide) hAB)
    refine f_il 0 rfl hL rfl ?_
    refine f_aln 3 rfl hL rfl ?_
    refine m_gfr so0 rfl hw rfl (by decide) ?_
    refine m_k1 t36 hw hm rfl rfl rfl (m_ar so3 hw rfl) rfl (fun hc18 hw18 hm18 => ?_)
    refine f_ic rfl (by decide) (by omega) (fun c1 => ?_) (fun c1 => ?_)
    · have c1 : (m 3 5 : Int) ≤ (0 : Int) := c1
      refine f_il 1 rfl hL rfl ?_
      refine f_il 2 rfl hL rfl ?_
      refine f_isub rfl ?_
      refine f_il 1 rfl hL rfl ?_
      refine f_iln 6 rfl hL rfl ?_
      refine m_k1 (t165_1 (a := A - B) (b := A) (g := eG (A - B) A) o3 (by omega) (by omega) (by omega) o1 o2) hw18 hm18 rfl rfl rfl rfl rfl (fun hc19 hw19 hm19 => ?_)
      exact f_ret1 rfl ⟨by unfold lc1_0; rw [if_neg (by omega)], hw19, hm19⟩
    · have c1 : ¬ ((m 3 5 : Int) ≤ (0 : Int)) := c1
      refine f_aln 3 rfl hL rfl ?_
      refine m_gfr so0 rfl hw18 rfl (by decide) ?_
      refine f_il 0 rfl hL rfl ?_
      refine f_iln 5 rfl hL rfl ?_
      refine m_k1 (t182 (k := 0) hn hp (by decide) rh) hw18 hm18 rfl rfl rfl (m_ar so9 hw18 rfl) rfl (fun hc20 hw20 hm20 => ?_)
      refine f_ist [(7, fi (tk m 0 h)), (6, fi (0)), (4, fi (A)), (5, fi (B)), (0, .ref 0), (1, fi (x)), (2, fi (h)), (3, fi (1))] rfl (by decide) hL rfl (fun L16 hL16 => ?_)
      refine f_il 0 rfl hL16 rfl ?_
      refine f_iln 5 rfl hL16 rfl ?_
      refine b_ishr rfl ?_
      refine f_s [fi (1), fi (iR (tk m 0 h) (x))] rfl rfl ?_
      refine b_iand rfl ?_
      refine f_s [fi (1), fi (iA (iR (tk m 0 h) (x)) (1))] rfl rfl ?_
      refine f_ic rfl iA_r (by decide) (fun c2 => ?_) (fun c2 => ?_)
      · have c2 : ¬ (iA (iR (tk m 0 h) (x)) (1) : Int) = (1 : Int) := c2
        refine f_inc 1 [(6, fi (1)), (7, fi (tk m 0 h)), (4, fi (A)), (5, fi (B)), (0, .ref 0), (1, fi (x)), (2, fi (h)), (3, fi (1))] rfl (by decide) hL16 rfl rfl (fun L17 hL17 => ?_)
        refine f_goto rfl ?_
        have e9 : lc1_0 m x h A B = lc1_1 m x h A B := (if_pos (by omega)).trans (if_neg c2)
        rw [e9]
        exact hK1 hc20 A B _ hw20 hm20 (lS_1 hAB) (hL17.sel [0, 2, 3, 4, 5, 6, 7] rfl)
      · have c2 : ¬ (¬ (iA (iR (tk m 0 h) (x)) (1) : Int) = (1 : Int)) := c2
        refine f_il 2 rfl hL16 rfl ?_
        refine f_il 0 rfl hL16 rfl ?_
        refine m_k1 (t65 (tk_r m 0 h)) hw20 hm20 rfl rfl rfl rfl rfl (fun hc21 hw21 hm21 => ?_)
        refine f_imul rfl ?_
        refine f_ist [(4, fi (A * (bC (tk m 0 h)))), (7, fi (tk m 0 h)), (6, fi (0)), (5, fi (B)), (0, .ref 0), (1, fi (x)), (2, fi (h)), (3, fi (1))] rfl (by decide) hL16 rfl (fun L18 hL18 => ?_)
        refine f_il 3 rfl hL18 rfl ?_
        refine f_il 1 rfl hL18 rfl ?_
        refine m_k1 (t65 (tk_r m 0 h)) hw21 hm21 rfl rfl rfl rfl rfl (fun hc22 hw22 hm22 => ?_)
        refine f_s [fi (1), fi (bC (tk m 0 h)), fi (B)] rfl rfl ?_
        refine f_isub rfl ?_
        refine f_imul rfl ?_
        refine f_ist [(5, fi (B * ((bC (tk m 0 h)) - 1))), (4, fi (A * (bC (tk m 0 h)))), (7, fi (tk m 0 h)), (6, fi (0)), (0, .ref 0), (1, fi (x)), (2, fi (h)), (3, fi (1))] rfl (by decide) hL18 rfl (fun L19 hL19 => ?_)
        refine f_inc 3 [(6, fi (1)), (5, fi (B * ((bC (tk m 0 h)) - 1))), (4, fi (A * (bC (tk m 0 h)))), (7, fi (tk m 0 h)), (0, .ref 0), (1, fi (x)), (2, fi (h)), (3, fi (1))] rfl (by decide) hL19 rfl rfl (fun L20 hL20 => ?_)
        refine f_goto rfl ?_
        have c2 : iA (iR (tk m 0 h) x) 1 = 1 := by omega
        have cc := tk_c (m := m) (k := 0) (h := h) (x := x) (by omega) c2
        have e9 : lc1_0 m x h A B = lc1_1 m x h (A * bC (tk m 0 h)) (B * (bC (tk m 0 h) - 1)) := (if_pos (by omega)).trans (if_pos c2)
        rw [e9]
        exact hK1 hc22 _ _ _ hw22 hm22 (lS_s hAB (lQ_c cc.1 cc.2)) (hL20.sel [0, 2, 1, 4, 5, 6, 7] rfl)
  refine f_aln 0 rfl hL rfl ?_
  refine m_gfr so0 rfl hw rfl (by decide) ?_
  refine f_iln 1 rfl hL rfl ?_
  refine m_k1 (t49 hp.2 rx) hw hm rfl rfl rfl (m_ar so3 hw rfl) rfl (fun hc23 hw23 hm23 => ?_)
  refine f_if rfl (bI_r _) (fun _ => ?_) (fun c => absurd (show ¬ (bI (decide (0 ≤ x ∧ x < m 3 6)) : Int) = (0 : Int) from (by rw [decide_eq_true hx]; decide)) c)
  refine f_iln 2 rfl hL rfl ?_
  refine m_k1 (t101b rh) hw23 hm23 rfl rfl rfl rfl rfl (fun hc24 hw24 hm24 => ?_)
  refine f_if rfl (bI_r _) (fun _ => ?_) (fun c => absurd (show ¬ (bI (decide (0 ≤ h ∧ h < 10)) : Int) = (0 : Int) from (by rw [decide_eq_true hh]; decide)) c)
  refine f_s [fi (1)] rfl rfl ?_
  refine f_ist [(4, fi (1)), (0, .ref 0), (1, fi (x)), (2, fi (h)), (3, fi (1))] rfl (by decide) hL rfl (fun L21 hL21 => ?_)
  refine f_s [fi (1)] rfl rfl ?_
  refine f_ist [(5, fi (1)), (4, fi (1)), (0, .ref 0), (1, fi (x)), (2, fi (h)), (3, fi (1))] rfl (by decide) hL21 rfl (fun L22 hL22 => ?_)
  refine f_s [fi (0)] rfl rfl ?_
  refine f_ist [(6, fi (0)), (5, fi (1)), (4, fi (1)), (0, .ref 0), (1, fi (x)), (2, fi (h)), (3, fi (1))] rfl (by decide) hL22 rfl (fun L23 hL23 => ?_)
  exact hK0 hc24 1 1 _ hw24 hm24 (List.mem_singleton.mpr rfl) (hL23.sel [0, 2, 1, 3, 4, 5, 6] rfl))
def mnB (m : Nat → Nat → Int) (k h p : Int) (i : Nat) : Bool := decide ((¬ iA (iR (m 61 16) p) 1 = 1 ∧ m 58 i ≤ h ∧ h ≤ m 59 i) ∧ iA (iR (m 60 i) k) 1 = 1)
def mn1 (m : Nat → Nat → Int) (k h p : Int) (i : Nat) (b : Int) : Int := if p < m 55 1 then b + bI (mnB m k h p i) else b
def mn (m : Nat → Nat → Int) (k h : Int) : Int := mn1 m k h 4 4 (mn1 m k h 3 3 (mn1 m k h 2 2 (mn1 m k h 1 1 (mn1 m k h 0 0 0))))
def myB (m : Nat → Nat → Int) (k h x : Int) : Bool := decide ((¬ iA (iR (m 61 16) x) 1 = 1 ∧ m 58 x.toNat ≤ h ∧ h ≤ m 59 x.toNat) ∧ iA (iR (m 60 x.toNat) k) 1 = 1 ∧ ¬ iA (iR (m 61 15) k) 1 = 1)
theorem mn1_r {m : Nat → Nat → Int} {k h p : Int} {i : Nat} {b n : Int} (hb : 0 ≤ b ∧ b ≤ n) : 0 ≤ mn1 m k h p i b ∧ mn1 m k h p i b ≤ n + 1 := by
  unfold mn1
  have := bI_01 (mnB m k h p i)
  split <;> omega
theorem mn_r (m : Nat → Nat → Int) (k h : Int) : 0 ≤ mn m k h ∧ mn m k h ≤ 5 := mn1_r (n := 4) (mn1_r (n := 3) (mn1_r (n := 2) (mn1_r (n := 1) (mn1_r (n := 0) (by decide)))))
def lm0_4 (m : Nat → Nat → Int) (x h A B : Int) : Int := (A).tdiv (eG (A - B) A)
def lm0_3 (m : Nat → Nat → Int) (x h A B : Int) : Int := if 3 < m 55 0 then (if myB m 3 h x = true then lm0_4 m x h (A * mn m 3 h) (B * (mn m 3 h - 1)) else lm0_4 m x h A B) else (A).tdiv (eG (A - B) A)
def lm0_2 (m : Nat → Nat → Int) (x h A B : Int) : Int := if 2 < m 55 0 then (if myB m 2 h x = true then lm0_3 m x h (A * mn m 2 h) (B * (mn m 2 h - 1)) else lm0_3 m x h A B) else (A).tdiv (eG (A - B) A)
def lm0_1 (m : Nat → Nat → Int) (x h A B : Int) : Int := if 1 < m 55 0 then (if myB m 1 h x = true then lm0_2 m x h (A * mn m 1 h) (B * (mn m 1 h - 1)) else lm0_2 m x h A B) else (A).tdiv (eG (A - B) A)
def lm0_0 (m : Nat → Nat → Int) (x h A B : Int) : Int := if 0 < m 55 0 then (if myB m 0 h x = true then lm0_1 m x h (A * mn m 0 h) (B * (mn m 0 h - 1)) else lm0_1 m x h A B) else (A).tdiv (eG (A - B) A)
theorem t184_0_un {m : Nat → Nat → Int} (hp : 0 ≤ m 55 1 ∧ m 55 1 ≤ 5) {x : Int} (rx : -2147483648 ≤ x ∧ x ≤ 2147483647) {h : Int} (rh : -2147483648 ≤ h ∧ h ≤ 2147483647) (h0 : ¬ (0 ≤ x ∧ x < m 55 1)) : h_M 184 [.ref 55, fi (x), fi (h), fi (0)] m (some (fi (-1))) m := h_M_of (R := ev_r184) rfl (fun hc hw hm => by
  have hL : f_L (lv_args 0 [.ref 55, fi (x), fi (h), fi (0)]) [(0, .ref 55), (1, fi (x)), (2, fi (h)), (3, fi (0))] := f_L_of rfl
  generalize lv_args 0 [.ref 55, fi (x), fi (h), fi (0)] = L at hL
  show x_W none (1, 0, 9, 3, 11, 3, 66, 0, 0, ev_t184) 0 L [] hc 0 0 _
  have hR := gi_R hm
  refine f_aln 0 rfl hL rfl ?_
  refine f_iln 1 rfl hL rfl ?_
  refine m_k1 (t61 hp.1 hp.2 rx) hw hm rfl rfl rfl (m_ar so55 hw rfl) rfl (fun hc1 hw1 hm1 => ?_)
  refine f_if rfl (bI_r _) (fun c => absurd (show ¬ (bI (decide (0 ≤ x ∧ x < m 55 1)) : Int) = (0 : Int) from c) (by rw [decide_eq_false h0]; exact fun z => z rfl)) (fun _ => ?_)
  refine f_s [fi (-1)] rfl rfl ?_
  exact f_ret1 rfl ⟨rfl, hw1, hm1⟩)
theorem t184_0_out {m : Nat → Nat → Int} (hp : 0 ≤ m 55 1 ∧ m 55 1 ≤ 5) {x : Int} (rx : -2147483648 ≤ x ∧ x ≤ 2147483647) {h : Int} (rh : -2147483648 ≤ h ∧ h ≤ 2147483647) (hx : 0 ≤ x ∧ x < m 55 1) (h0 : ¬ (0 ≤ h ∧ h ≤ 9)) : h_M 184 [.ref 55, fi (x), fi (h), fi (0)] m (some (fi (-2))) m := h_M_of (R := ev_r184) rfl (fun hc hw hm => by
  have hL : f_L (lv_args 0 [.ref 55, fi (x), fi (h), fi (0)]) [(0, .ref 55), (1, fi (x)), (2, fi (h)), (3, fi (0))] := f_L_of rfl
  generalize lv_args 0 [.ref 55, fi (x), fi (h), fi (0)] = L at hL
  show x_W none (1, 0, 9, 3, 11, 3, 66, 0, 0, ev_t184) 0 L [] hc 0 0 _
  have hR := gi_R hm
  refine f_aln 0 rfl hL rfl ?_
  refine f_iln 1 rfl hL rfl ?_
  refine m_k1 (t61 hp.1 hp.2 rx) hw hm rfl rfl rfl (m_ar so55 hw rfl) rfl (fun hc1 hw1 hm1 => ?_)
  refine f_if rfl (bI_r _) (fun _ => ?_) (fun c => absurd (show ¬ (bI (decide (0 ≤ x ∧ x < m 55 1)) : Int) = (0 : Int) from (by rw [decide_eq_true hx]; decide)) c)
  refine f_iln 2 rfl hL rfl ?_
  refine f_i2l rfl (by omega) ?_
  refine f_s [fl (0), fl (h)] rfl rfl ?_
  refine f_ldc2 (9) rfl rfl ?_
  refine m_k1 (t_in h 0 9 (by omega) (by decide) (by decide)) hw1 hm1 rfl rfl rfl rfl rfl (fun hc2 hw2 hm2 => ?_)
  refine f_if rfl (bI_r _) (fun c => absurd (show ¬ (bI (decide (0 ≤ h ∧ h ≤ 9)) : Int) = (0 : Int) from c) (by rw [decide_eq_false h0]; exact fun z => z rfl)) (fun _ => ?_)
  refine f_bipush (n := -2) rfl (by decide) ?_
  exact f_ret1 rfl ⟨rfl, hw2, hm2⟩)
set_option maxHeartbeats 1000000 in
theorem t184_0_ok {m : Nat → Nat → Int} (hn : 0 ≤ m 55 0 ∧ m 55 0 ≤ 4) (hp : 0 ≤ m 55 1 ∧ m 55 1 ≤ 5) {x : Int} (rx : -2147483648 ≤ x ∧ x ≤ 2147483647) {h : Int} (rh : -2147483648 ≤ h ∧ h ≤ 2147483647) (hx : 0 ≤ x ∧ x < m 55 1) (hh : 0 ≤ h ∧ h ≤ 9) (mn_1 : ∀ k : Int, (0 ≤ k ∧ k < 4) → (0 ≤ k ∧ k < m 55 0) → myB m k h x = true → 1 ≤ mn m k h) : h_M 184 [.ref 55, fi (x), fi (h), fi (0)] m (some (fi (lm0_0 m x h 1 1))) m := h_M_of (R := ev_r184) rfl (fun hc hw hm => by
  have hL : f_L (lv_args 0 [.ref 55, fi (x), fi (h), fi (0)]) [(0, .ref 55), (1, fi (x)), (2, fi (h)), (3, fi (0))] := f_L_of rfl
  generalize lv_args 0 [.ref 55, fi (x), fi (h), fi (0)] = L at hL
  show x_W none (1, 0, 9, 3, 11, 3, 66, 0, 0, ev_t184) 0 L [] hc 0 0 _
  have hR := gi_R hm
  have x5 : 0 ≤ x ∧ x < 5 := by omega
  have hK4 : ∀ (hc : ev_H) (A B : Int) (L : ev_L), y_in yGw hc → gi hc = m → (A, B) ∈ lS 4 → f_L L [(6, fi (4)), (4, fi (B)), (5, fi (A)), (0, .ref 55), (1, fi (x)), (2, fi (h)), (3, fi (0))] → x_W none (1, 0, 9, 3, 11, 3, 66, 0, 0, ev_t184) 34 L [] hc 0 0 (fun r' h' => r' = some (fi (lm0_4 m x h A B)) ∧ y_in yGw h' ∧ gi h' = m) := fun hc A B L hw hm hAB hL => by
    obtain ⟨o1, o2, o3, o4, o5, o6, o7⟩ := okp_r (lS_at (by decide) hAB)
    refine f_il 0 rfl hL rfl ?_
    refine f_aln 3 rfl hL rfl ?_
    refine m_gfi so55 (m 55 0) rfl hw hm rfl rfl ?_
    refine f_ic rfl (by decide) (by omega) (fun _ => ?_) (fun c => absurd (show (m 55 0 : Int) ≤ (4 : Int) from (by omega)) c)
    refine f_il 2 rfl hL rfl ?_
    refine f_il 1 rfl hL rfl ?_
    refine f_isub rfl ?_
    refine f_il 2 rfl hL rfl ?_
    refine m_k1 (t168 (a := A - B) (b := A) (g := eG (A - B) A) o3 (by omega) (by omega) (by omega) o1) hw hm rfl rfl rfl rfl rfl (fun hc1 hw1 hm1 => ?_)
    have hg := eu_r 40 (A - B) A _ o3 (by omega) (by omega) (by omega) o1
    refine f_ist [(6, fi (eG (A - B) A)), (4, fi (B)), (5, fi (A)), (0, .ref 55), (1, fi (x)), (2, fi (h)), (3, fi (0))] rfl (by decide) hL rfl (fun L1 hL1 => ?_)
    refine f_iln 6 rfl hL1 rfl ?_
    refine f_if rfl (by decide) (fun _ => ?_) (fun c => absurd (show (0 : Int) = (0 : Int) from (by decide)) c)
    refine f_il 2 rfl hL1 rfl ?_
    refine f_il 0 rfl hL1 rfl ?_
    refine f_idiv rfl (by omega) (by omega) (by omega) (by omega) ?_
    exact f_ret1 rfl ⟨rfl, hw1, hm1⟩
  have hK3 : ∀ (hc : ev_H) (A B : Int) (L : ev_L), y_in yGw hc → gi hc = m → (A, B) ∈ lS 3 → f_L L [(6, fi (3)), (4, fi (B)), (5, fi (A)), (0, .ref 55), (1, fi (x)), (2, fi (h)), (3, fi (0))] → x_W none (1, 0, 9, 3, 11, 3, 66, 0, 0, ev_t184) 34 L [] hc 0 0 (fun r' h' => r' = some (fi (lm0_3 m x h A B)) ∧ y_in yGw h' ∧ gi h' = m) := fun hc A B L hw hm hAB hL => by
    obtain ⟨o1, o2, o3, o4, o5, o6, o7⟩ := okp_r (lS_at (by decide) hAB)
    refine f_il 0 rfl hL rfl ?_
    refine f_aln 3 rfl hL rfl ?_
    refine m_gfi so55 (m 55 0) rfl hw hm rfl rfl ?_
    refine f_ic rfl (by decide) (by omega) (fun c1 => ?_) (fun c1 => ?_)
    · have c1 : (m 55 0 : Int) ≤ (3 : Int) := c1
      refine f_il 2 rfl hL rfl ?_
      refine f_il 1 rfl hL rfl ?_
      refine f_isub rfl ?_
      refine f_il 2 rfl hL rfl ?_
      refine m_k1 (t168 (a := A - B) (b := A) (g := eG (A - B) A) o3 (by omega) (by omega) (by omega) o1) hw hm rfl rfl rfl rfl rfl (fun hc2 hw2 hm2 => ?_)
      have hg := eu_r 40 (A - B) A _ o3 (by omega) (by omega) (by omega) o1
      refine f_ist [(6, fi (eG (A - B) A)), (4, fi (B)), (5, fi (A)), (0, .ref 55), (1, fi (x)), (2, fi (h)), (3, fi (0))] rfl (by decide) hL rfl (fun L2 hL2 => ?_)
      refine f_iln 6 rfl hL2 rfl ?_
      refine f_if rfl (by decide) (fun _ => ?_) (fun c => absurd (show (0 : Int) = (0 : Int) from (by decide)) c)
      refine f_il 2 rfl hL2 rfl ?_
      refine f_il 0 rfl hL2 rfl ?_
      refine f_idiv rfl (by omega) (by omega) (by omega) (by omega) ?_
      exact f_ret1 rfl ⟨by unfold lm0_3; rw [if_neg (by omega)], hw2, hm2⟩
    · have c1 : ¬ ((m 55 0 : Int) ≤ (3 : Int)) := c1
      have kk : 3 < m 55 0 := by omega
      have hE : ∀ (hc : ev_H) (p : Int) (L : ev_L), y_in yGw hc → gi hc = m → f_L L [(8, fi p), (7, fi (mn m 3 h)), (6, fi (3)), (4, fi (B)), (5, fi (A)), (0, .ref 55), (1, fi (x)), (2, fi (h)), (3, fi (0))] → x_W none (1, 0, 9, 3, 11, 3, 66, 0, 0, ev_t184) 100 L [] hc 0 0 (fun r' h' => r' = some (fi (lm0_3 m x h A B)) ∧ y_in yGw h' ∧ gi h' = m) := fun hc p L hw hm hL => by
        have mr := mn_r m 3 h
        refine f_aln 5 rfl hL rfl ?_
        refine f_s [fi (0), .ref 55] rfl rfl ?_
        refine f_iln 6 rfl hL rfl ?_
        refine f_iln 7 rfl hL rfl ?_
        refine m_k1 (t90_0 (p := x) (h := h) x5.1 x5.2 rh (fv := m 58 x.toNat) rfl (hR 58 _) (uv := m 59 x.toNat) rfl (hR 59 _)) hw hm rfl rfl rfl (m_ar so55 hw rfl) rfl (fun hc3 hw3 hm3 => ?_)
        refine f_if rfl (bI_r _) (fun d1 => ?_) (fun d1 => ?_)
        · have d1 : (bI (decide (¬ iA (iR (m 61 16) (x)) (1) = 1 ∧ m 58 x.toNat ≤ h ∧ h ≤ m 59 x.toNat)) : Int) = (0 : Int) := d1
          have d1 : ¬ (¬ iA (iR (m 61 16) (x)) (1) = 1 ∧ m 58 x.toNat ≤ h ∧ h ≤ m 59 x.toNat) := bI_f d1
          refine f_s [fi (0)] rfl rfl ?_
          refine f_ist [(8, fi (0)), (7, fi (mn m 3 h)), (6, fi (3)), (4, fi (B)), (5, fi (A)), (0, .ref 55), (1, fi (x)), (2, fi (h)), (3, fi (0))] rfl (by decide) hL rfl (fun L3 hL3 => ?_)
          refine f_il 3 rfl hL3 rfl ?_
          refine f_il 0 rfl hL3 rfl ?_
          refine f_if rfl (by decide) (fun _ => ?_) (fun c => absurd (show (0 : Int) = (0 : Int) from (by decide)) c)
          refine f_s [fi (1), fi (B)] rfl rfl ?_
          refine f_imul rfl ?_
          refine f_ist [(4, fi (B * 1)), (8, fi (0)), (7, fi (mn m 3 h)), (6, fi (3)), (5, fi (A)), (0, .ref 55), (1, fi (x)), (2, fi (h)), (3, fi (0))] rfl (by decide) hL3 rfl (fun L4 hL4 => ?_)
          refine f_il 4 rfl hL4 rfl ?_
          refine f_il 1 rfl hL4 rfl ?_
          refine f_if rfl (by decide) (fun _ => ?_) (fun c => absurd (show (0 : Int) = (0 : Int) from (by decide)) c)
          refine f_s [fi (1), fi (A)] rfl rfl ?_
          refine f_imul rfl ?_
          refine f_ist [(5, fi (A * 1)), (4, fi (B * 1)), (8, fi (0)), (7, fi (mn m 3 h)), (6, fi (3)), (0, .ref 55), (1, fi (x)), (2, fi (h)), (3, fi (0))] rfl (by decide) hL4 rfl (fun L5 hL5 => ?_)
          refine f_inc 4 [(6, fi (4)), (5, fi (A * 1)), (4, fi (B * 1)), (8, fi (0)), (7, fi (mn m 3 h)), (0, .ref 55), (1, fi (x)), (2, fi (h)), (3, fi (0))] rfl (by decide) hL5 rfl rfl (fun L6 hL6 => ?_)
          refine f_goto rfl ?_
          have my : myB m 3 h x = false := decide_eq_false (fun z => d1 z.1)
          have e9 : lm0_3 m x h A B = lm0_4 m x h (A * 1) (B * 1) := (if_pos kk).trans ((if_neg (by rw [my]; decide)).trans (by rw [Int.mul_one, Int.mul_one]))
          rw [e9]
          exact hK4 hc3 _ _ _ hw3 hm3 (lS_s hAB (by decide)) (hL6.sel [0, 2, 1, 5, 6, 7, 8] rfl)
        · have d1 : ¬ ((bI (decide (¬ iA (iR (m 61 16) (x)) (1) = 1 ∧ m 58 x.toNat ≤ h ∧ h ≤ m 59 x.toNat)) : Int) = (0 : Int)) := d1
          have d1 : ¬ iA (iR (m 61 16) (x)) (1) = 1 ∧ m 58 x.toNat ≤ h ∧ h ≤ m 59 x.toNat := bI_t d1
          refine f_aln 5 rfl hL rfl ?_
          refine m_gfr so55 rfl hw3 rfl (by decide) ?_
          refine f_iln 6 rfl hL rfl ?_
          refine m_ia sa60 (m 60 (x).toNat) rfl hw3 hm3 (by omega) (by omega) (by decide) rfl ?_
          refine f_il 2 rfl hL rfl ?_
          refine m_k1 (t73 (hR 60 _) (by decide)) hw3 hm3 rfl rfl rfl rfl rfl (fun hc4 hw4 hm4 => ?_)
          refine f_if rfl (bI_r _) (fun d2 => ?_) (fun d2 => ?_)
          · have d2 : (bI (decide (iA (iR (m 60 (x).toNat) (3)) (1) = 1)) : Int) = (0 : Int) := d2
            have d2 : ¬ (iA (iR (m 60 (x).toNat) (3)) (1) = 1) := bI_f d2
            refine f_s [fi (0)] rfl rfl ?_
            refine f_ist [(8, fi (0)), (7, fi (mn m 3 h)), (6, fi (3)), (4, fi (B)), (5, fi (A)), (0, .ref 55), (1, fi (x)), (2, fi (h)), (3, fi (0))] rfl (by decide) hL rfl (fun L7 hL7 => ?_)
            refine f_il 3 rfl hL7 rfl ?_
            refine f_il 0 rfl hL7 rfl ?_
            refine f_if rfl (by decide) (fun _ => ?_) (fun c => absurd (show (0 : Int) = (0 : Int) from (by decide)) c)
            refine f_s [fi (1), fi (B)] rfl rfl ?_
            refine f_imul rfl ?_
            refine f_ist [(4, fi (B * 1)), (8, fi (0)), (7, fi (mn m 3 h)), (6, fi (3)), (5, fi (A)), (0, .ref 55), (1, fi (x)), (2, fi (h)), (3, fi (0))] rfl (by decide) hL7 rfl (fun L8 hL8 => ?_)
            refine f_il 4 rfl hL8 rfl ?_
            refine f_il 1 rfl hL8 rfl ?_
            refine f_if rfl (by decide) (fun _ => ?_) (fun c => absurd (show (0 : Int) = (0 : Int) from (by decide)) c)
            refine f_s [fi (1), fi (A)] rfl rfl ?_
            refine f_imul rfl ?_
            refine f_ist [(5, fi (A * 1)), (4, fi (B * 1)), (8, fi (0)), (7, fi (mn m 3 h)), (6, fi (3)), (0, .ref 55), (1, fi (x)), (2, fi (h)), (3, fi (0))] rfl (by decide) hL8 rfl (fun L9 hL9 => ?_)
            refine f_inc 4 [(6, fi (4)), (5, fi (A * 1)), (4, fi (B * 1)), (8, fi (0)), (7, fi (mn m 3 h)), (0, .ref 55), (1, fi (x)), (2, fi (h)), (3, fi (0))] rfl (by decide) hL9 rfl rfl (fun L10 hL10 => ?_)
            refine f_goto rfl ?_
            have my : myB m 3 h x = false := decide_eq_false (fun z => d2 z.2.1)
            have e9 : lm0_3 m x h A B = lm0_4 m x h (A * 1) (B * 1) := (if_pos kk).trans ((if_neg (by rw [my]; decide)).trans (by rw [Int.mul_one, Int.mul_one]))
            rw [e9]
            exact hK4 hc4 _ _ _ hw4 hm4 (lS_s hAB (by decide)) (hL10.sel [0, 2, 1, 5, 6, 7, 8] rfl)
          · have d2 : ¬ ((bI (decide (iA (iR (m 60 (x).toNat) (3)) (1) = 1)) : Int) = (0 : Int)) := d2
            have d2 : iA (iR (m 60 (x).toNat) (3)) (1) = 1 := bI_t d2
            refine f_aln 5 rfl hL rfl ?_
            refine m_gfr so55 rfl hw4 rfl (by decide) ?_
            refine f_bipush (n := 15) rfl (by decide) ?_
            refine m_ia sa61 (m 61 15) rfl hw4 hm4 (by omega) (by omega) (by decide) rfl ?_
            refine f_il 2 rfl hL rfl ?_
            refine m_k1 (t73 (hR 61 15) (by decide)) hw4 hm4 rfl rfl rfl rfl rfl (fun hc5 hw5 hm5 => ?_)
            refine f_if rfl (bI_r _) (fun d3 => ?_) (fun d3 => ?_)
            · have d3 : ¬ (bI (decide (iA (iR (m 61 15) (3)) (1) = 1)) : Int) = (0 : Int) := d3
              have d3 : iA (iR (m 61 15) (3)) (1) = 1 := bI_t d3
              refine f_s [fi (0)] rfl rfl ?_
              refine f_ist [(8, fi (0)), (7, fi (mn m 3 h)), (6, fi (3)), (4, fi (B)), (5, fi (A)), (0, .ref 55), (1, fi (x)), (2, fi (h)), (3, fi (0))] rfl (by decide) hL rfl (fun L11 hL11 => ?_)
              refine f_il 3 rfl hL11 rfl ?_
              refine f_il 0 rfl hL11 rfl ?_
              refine f_if rfl (by decide) (fun _ => ?_) (fun c => absurd (show (0 : Int) = (0 : Int) from (by decide)) c)
              refine f_s [fi (1), fi (B)] rfl rfl ?_
              refine f_imul rfl ?_
              refine f_ist [(4, fi (B * 1)), (8, fi (0)), (7, fi (mn m 3 h)), (6, fi (3)), (5, fi (A)), (0, .ref 55), (1, fi (x)), (2, fi (h)), (3, fi (0))] rfl (by decide) hL11 rfl (fun L12 hL12 => ?_)
              refine f_il 4 rfl hL12 rfl ?_
              refine f_il 1 rfl hL12 rfl ?_
              refine f_if rfl (by decide) (fun _ => ?_) (fun c => absurd (show (0 : Int) = (0 : Int) from (by decide)) c)
              refine f_s [fi (1), fi (A)] rfl rfl ?_
              refine f_imul rfl ?_
              refine f_ist [(5, fi (A * 1)), (4, fi (B * 1)), (8, fi (0)), (7, fi (mn m 3 h)), (6, fi (3)), (0, .ref 55), (1, fi (x)), (2, fi (h)), (3, fi (0))] rfl (by decide) hL12 rfl (fun L13 hL13 => ?_)
              refine f_inc 4 [(6, fi (4)), (5, fi (A * 1)), (4, fi (B * 1)), (8, fi (0)), (7, fi (mn m 3 h)), (0, .ref 55), (1, fi (x)), (2, fi (h)), (3, fi (0))] rfl (by decide) hL13 rfl rfl (fun L14 hL14 => ?_)
              refine f_goto rfl ?_
              have my : myB m 3 h x = false := decide_eq_false (fun z => z.2.2 d3)
              have e9 : lm0_3 m x h A B = lm0_4 m x h (A * 1) (B * 1) := (if_pos kk).trans ((if_neg (by rw [my]; decide)).trans (by rw [Int.mul_one, Int.mul_one]))
              rw [e9]
              exact hK4 hc5 _ _ _ hw5 hm5 (lS_s hAB (by decide)) (hL14.sel [0, 2, 1, 5, 6, 7, 8] rfl)
            · have d3 : ¬ (¬ (bI (decide (iA (iR (m 61 15) (3)) (1) = 1)) : Int) = (0 : Int)) := d3
              have d3 : ¬ (iA (iR (m 61 15) (3)) (1) = 1) := bI_n d3
              refine f_s [fi (1)] rfl rfl ?_
              refine f_goto rfl ?_
              refine f_ist [(8, fi (1)), (7, fi (mn m 3 h)), (6, fi (3)), (4, fi (B)), (5, fi (A)), (0, .ref 55), (1, fi (x)), (2, fi (h)), (3, fi (0))] rfl (by decide) hL rfl (fun L15 hL15 => ?_)
              refine f_il 3 rfl hL15 rfl ?_
              refine f_il 0 rfl hL15 rfl ?_
              refine f_if rfl (by decide) (fun c => absurd (show (1 : Int) = (0 : Int) from c) (by decide)) (fun _ => ?_)
              refine f_il 1 rfl hL15 rfl ?_
              refine f_s [fi (1), fi (mn m 3 h), fi (B)] rfl rfl ?_
              refine f_isub rfl ?_
              refine f_goto rfl ?_
              refine f_imul rfl ?_
              refine f_ist [(4, fi (B * ((mn m 3 h) - 1))), (8, fi (1)), (7, fi (mn m 3 h)), (6, fi (3)), (5, fi (A)), (0, .ref 55), (1, fi (x)), (2, fi (h)), (3, fi (0))] rfl (by decide) hL15 rfl (fun L16 hL16 => ?_)
              refine f_il 4 rfl hL16 rfl ?_
              refine f_il 1 rfl hL16 rfl ?_
              refine f_if rfl (by decide) (fun c => absurd (show (1 : Int) = (0 : Int) from c) (by decide)) (fun _ => ?_)
              refine f_il 2 rfl hL16 rfl ?_
              refine f_goto rfl ?_
              refine f_imul rfl ?_
              refine f_ist [(5, fi (A * (mn m 3 h))), (4, fi (B * ((mn m 3 h) - 1))), (8, fi (1)), (7, fi (mn m 3 h)), (6, fi (3)), (0, .ref 55), (1, fi (x)), (2, fi (h)), (3, fi (0))] rfl (by decide) hL16 rfl (fun L17 hL17 => ?_)
              refine f_inc 4 [(6, fi (4)), (5, fi (A * (mn m 3 h))), (4, fi (B * ((mn m 3 h) - 1))), (8, fi (1)), (7, fi (mn m 3 h)), (0, .ref 55), (1, fi (x)), (2, fi (h)), (3, fi (0))] rfl (by decide) hL17 rfl rfl (fun L18 hL18 => ?_)
              refine f_goto rfl ?_
              have my : myB m 3 h x = true := decide_eq_true ⟨d1, d2, d3⟩
              have e9 : lm0_3 m x h A B = lm0_4 m x h (A * mn m 3 h) (B * (mn m 3 h - 1)) := (if_pos kk).trans (if_pos my)
              rw [e9]
              exact hK4 hc5 _ _ _ hw5 hm5 (lS_s hAB (lQ_c (mn_1 3 (by decide) ⟨by decide, kk⟩ my) mr.2)) (hL18.sel [0, 2, 1, 5, 6, 7, 8] rfl)
      have hI5 : ∀ (hc : ev_H) (c : Int) (L : ev_L), y_in yGw hc → gi hc = m → c = mn m 3 h → f_L L [(8, fi (5)), (7, fi (c)), (6, fi (3)), (4, fi (B)), (5, fi (A)), (0, .ref 55), (1, fi (x)), (2, fi (h)), (3, fi (0))] → x_W none (1, 0, 9, 3, 11, 3, 66, 0, 0, ev_t184) 49 L [] hc 0 0 (fun r' h' => r' = some (fi (lm0_3 m x h A B)) ∧ y_in yGw h' ∧ gi h' = m) := fun hc c L hw hm hG hL => by
        refine f_il 0 rfl hL rfl ?_
        refine f_aln 5 rfl hL rfl ?_
        refine m_gfi so55 (m 55 1) rfl hw hm rfl rfl ?_
        refine f_ic rfl (by decide) (by omega) (fun _ => ?_) (fun c => absurd (show (m 55 1 : Int) ≤ (5 : Int) from (by omega)) c)
        rw [hG] at hL
        exact hE hc 5 _ hw hm (hL.sel [0, 1, 2, 3, 4, 5, 6, 7, 8] rfl)
      have hI4 : ∀ (hc : ev_H) (c : Int) (L : ev_L), y_in yGw hc → gi hc = m → mn1 m 3 h 4 4 (c) = mn m 3 h → f_L L [(8, fi (4)), (7, fi (c)), (6, fi (3)), (4, fi (B)), (5, fi (A)), (0, .ref 55), (1, fi (x)), (2, fi (h)), (3, fi (0))] → x_W none (1, 0, 9, 3, 11, 3, 66, 0, 0, ev_t184) 49 L [] hc 0 0 (fun r' h' => r' = some (fi (lm0_3 m x h A B)) ∧ y_in yGw h' ∧ gi h' = m) := fun hc c L hw hm hG hL => by
        refine f_il 0 rfl hL rfl ?_
        refine f_aln 5 rfl hL rfl ?_
        refine m_gfi so55 (m 55 1) rfl hw hm rfl rfl ?_
        refine f_ic rfl (by decide) (by omega) (fun ci => ?_) (fun ci => ?_)
        · have ci : (m 55 1 : Int) ≤ (4 : Int) := ci
          have e8 : mn1 m 3 h 4 4 (c) = c := by unfold mn1; rw [if_neg (by omega)]
          rw [e8] at hG
          rw [hG] at hL
          exact hE hc 4 _ hw hm (hL.sel [0, 1, 2, 3, 4, 5, 6, 7, 8] rfl)
        · have ci : ¬ ((m 55 1 : Int) ≤ (4 : Int)) := ci
          refine f_il 1 rfl hL rfl ?_
          refine f_aln 5 rfl hL rfl ?_
          refine f_s [fi (0), .ref 55, fi (c)] rfl rfl ?_
          refine f_il 0 rfl hL rfl ?_
          refine f_iln 7 rfl hL rfl ?_
          refine m_k1 (t90_0 (p := 4) (h := h) (by decide) (by decide) rh (fv := m 58 4) rfl (hR 58 _) (uv := m 59 4) rfl (hR 59 _)) hw hm rfl rfl rfl (m_ar so55 hw rfl) rfl (fun hc6 hw6 hm6 => ?_)
          refine f_if rfl (bI_r _) (fun e1 => ?_) (fun e1 => ?_)
          · have e1 : (bI (decide (¬ iA (iR (m 61 16) (4)) (1) = 1 ∧ m 58 4 ≤ h ∧ h ≤ m 59 4)) : Int) = (0 : Int) := e1
            have e1 : ¬ (¬ iA (iR (m 61 16) (4)) (1) = 1 ∧ m 58 4 ≤ h ∧ h ≤ m 59 4) := bI_f e1
            refine f_s [fi (0), fi (c)] rfl rfl ?_
            refine f_iadd rfl ?_
            refine f_ist [(7, fi (c + 0)), (8, fi (4)), (6, fi (3)), (4, fi (B)), (5, fi (A)), (0, .ref 55), (1, fi (x)), (2, fi (h)), (3, fi (0))] rfl (by decide) hL rfl (fun L19 hL19 => ?_)
            refine f_inc 1 [(8, fi (5)), (7, fi (c + 0)), (6, fi (3)), (4, fi (B)), (5, fi (A)), (0, .ref 55), (1, fi (x)), (2, fi (h)), (3, fi (0))] rfl (by decide) hL19 rfl rfl (fun L20 hL20 => ?_)
            refine f_goto rfl ?_
            have mb : mnB m 3 h 4 4 = false := decide_eq_false (fun z => e1 z.1)
            have e9 : mn1 m 3 h 4 4 c = c + 0 := (if_pos (by omega)).trans (by rw [mb]; rfl)
            rw [e9] at hG
            exact hI5 hc6 _ _ hw6 hm6 hG (hL20.sel [0, 1, 2, 3, 4, 5, 6, 7, 8] rfl)
          · have e1 : ¬ ((bI (decide (¬ iA (iR (m 61 16) (4)) (1) = 1 ∧ m 58 4 ≤ h ∧ h ≤ m 59 4)) : Int) = (0 : Int)) := e1
            have e1 : ¬ iA (iR (m 61 16) (4)) (1) = 1 ∧ m 58 4 ≤ h ∧ h ≤ m 59 4 := bI_t e1
            refine f_aln 5 rfl hL rfl ?_
            refine m_gfr so55 rfl hw6 rfl (by decide) ?_
            refine f_il 0 rfl hL rfl ?_
            refine m_ia sa60 (m 60 4) rfl hw6 hm6 (by omega) (by omega) (by decide) rfl ?_
            refine f_il 2 rfl hL rfl ?_
            refine m_k1 (t73 (hR 60 4) (by decide)) hw6 hm6 rfl rfl rfl rfl rfl (fun hc7 hw7 hm7 => ?_)
            refine f_if rfl (bI_r _) (fun e2 => ?_) (fun e2 => ?_)
            · have e2 : (bI (decide (iA (iR (m 60 4) (3)) (1) = 1)) : Int) = (0 : Int) := e2
              have e2 : ¬ (iA (iR (m 60 4) (3)) (1) = 1) := bI_f e2
              refine f_s [fi (0), fi (c)] rfl rfl ?_
              refine f_iadd rfl ?_
              refine f_ist [(7, fi (c + 0)), (8, fi (4)), (6, fi (3)), (4, fi (B)), (5, fi (A)), (0, .ref 55), (1, fi (x)), (2, fi (h)), (3, fi (0))] rfl (by decide) hL rfl (fun L21 hL21 => ?_)
              refine f_inc 1 [(8, fi (5)), (7, fi (c + 0)), (6, fi (3)), (4, fi (B)), (5, fi (A)), (0, .ref 55), (1, fi (x)), (2, fi (h)), (3, fi (0))] rfl (by decide) hL21 rfl rfl (fun L22 hL22 => ?_)
              refine f_goto rfl ?_
              have mb : mnB m 3 h 4 4 = false := decide_eq_false (fun z => e2 z.2)
              have e9 : mn1 m 3 h 4 4 c = c + 0 := (if_pos (by omega)).trans (by rw [mb]; rfl)
              rw [e9] at hG
              exact hI5 hc7 _ _ hw7 hm7 hG (hL22.sel [0, 1, 2, 3, 4, 5, 6, 7, 8] rfl)
            · have e2 : ¬ ((bI (decide (iA (iR (m 60 4) (3)) (1) = 1)) : Int) = (0 : Int)) := e2
              have e2 : iA (iR (m 60 4) (3)) (1) = 1 := bI_t e2
              refine f_s [fi (1), fi (c)] rfl rfl ?_
              refine f_goto rfl ?_
              refine f_iadd rfl ?_
              refine f_ist [(7, fi (c + 1)), (8, fi (4)), (6, fi (3)), (4, fi (B)), (5, fi (A)), (0, .ref 55), (1, fi (x)), (2, fi (h)), (3, fi (0))] rfl (by decide) hL rfl (fun L23 hL23 => ?_)
              refine f_inc 1 [(8, fi (5)), (7, fi (c + 1)), (6, fi (3)), (4, fi (B)), (5, fi (A)), (0, .ref 55), (1, fi (x)), (2, fi (h)), (3, fi (0))] rfl (by decide) hL23 rfl rfl (fun L24 hL24 => ?_)
              refine f_goto rfl ?_
              have mb : mnB m 3 h 4 4 = true := decide_eq_true ⟨e1, e2⟩
              have e9 : mn1 m 3 h 4 4 c = c + 1 := (if_pos (by omega)).trans (by rw [mb]; rfl)
              rw [e9] at hG
              exact hI5 hc7 _ _ hw7 hm7 hG (hL24.sel [0, 1, 2, 3, 4, 5, 6, 7, 8] rfl)
      have hI3 : ∀ (hc : ev_H) (c : Int) (L : ev_L), y_in yGw hc → gi hc = m → mn1 m 3 h 4 4 (mn1 m 3 h 3 3 (c)) = mn m 3 h → f_L L [(8, fi (3)), (7, fi (c)), (6, fi (3)), (4, fi (B)), (5, fi (A)), (0, .ref 55), (1, fi (x)), (2, fi (h)), (3, fi (0))] → x_W none (1, 0, 9, 3, 11, 3, 66, 0, 0, ev_t184) 49 L [] hc 0 0 (fun r' h' => r' = some (fi (lm0_3 m x h A B)) ∧ y_in yGw h' ∧ gi h' = m) := fun hc c L hw hm hG hL => by
        refine f_il 0 rfl hL rfl ?_
        refine f_aln 5 rfl hL rfl ?_
        refine m_gfi so55 (m 55 1) rfl hw hm rfl rfl ?_
        refine f_ic rfl (by decide) (by omega) (fun ci => ?_) (fun ci => ?_)
        · have ci : (m 55 1 : Int) ≤ (3 : Int) := ci
          have e8 : mn1 m 3 h 4 4 (mn1 m 3 h 3 3 (c)) = c := by unfold mn1; rw [if_neg (by omega), if_neg (by omega)]
          rw [e8] at hG
          rw [hG] at hL
          exact hE hc 3 _ hw hm (hL.sel [0, 1, 2, 3, 4, 5, 6, 7, 8] rfl)
        · have ci : ¬ ((m 55 1 : Int) ≤ (3 : Int)) := ci
          refine f_il 1 rfl hL rfl ?_
          refine f_aln 5 rfl hL rfl ?_
          refine f_s [fi (0), .ref 55, fi (c)] rfl rfl ?_
          refine f_il 0 rfl hL rfl ?_
          refine f_iln 7 rfl hL rfl ?_
          refine m_k1 (t90_0 (p := 3) (h := h) (by decide) (by decide) rh (fv := m 58 3) rfl (hR 58 _) (uv := m 59 3) rfl (hR 59 _)) hw hm rfl rfl rfl (m_ar so55 hw rfl) rfl (fun hc8 hw8 hm8 => ?_)
          refine f_if rfl (bI_r _) (fun e1 => ?_) (fun e1 => ?_)
          · have e1 : (bI (decide (¬ iA (iR (m 61 16) (3)) (1) = 1 ∧ m 58 3 ≤ h ∧ h ≤ m 59 3)) : Int) = (0 : Int) := e1
            have e1 : ¬ (¬ iA (iR (m 61 16) (3)) (1) = 1 ∧ m 58 3 ≤ h ∧ h ≤ m 59 3) := bI_f e1
            refine f_s [fi (0), fi (c)] rfl rfl ?_
            refine f_iadd rfl ?_
            refine f_ist [(7, fi (c + 0)), (8, fi (3)), (6, fi (3)), (4, fi (B)), (5, fi (A)), (0, .ref 55), (1, fi (x)), (2, fi (h)), (3, fi (0))] rfl (by decide) hL rfl (fun L25 hL25 => ?_)
            refine f_inc 1 [(8, fi (4)), (7, fi (c + 0)), (6, fi (3)), (4, fi (B)), (5, fi (A)), (0, .ref 55), (1, fi (x)), (2, fi (h)), (3, fi (0))] rfl (by decide) hL25 rfl rfl (fun L26 hL26 => ?_)
            refine f_goto rfl ?_
            have mb : mnB m 3 h 3 3 = false := decide_eq_false (fun z => e1 z.1)
            have e9 : mn1 m 3 h 3 3 c = c + 0 := (if_pos (by omega)).trans (by rw [mb]; rfl)
            rw [e9] at hG
            exact hI4 hc8 _ _ hw8 hm8 hG (hL26.sel [0, 1, 2, 3, 4, 5, 6, 7, 8] rfl)
          · have e1 : ¬ ((bI (decide (¬ iA (iR (m 61 16) (3)) (1) = 1 ∧ m 58 3 ≤ h ∧ h ≤ m 59 3)) : Int) = (0 : Int)) := e1
            have e1 : ¬ iA (iR (m 61 16) (3)) (1) = 1 ∧ m 58 3 ≤ h ∧ h ≤ m 59 3 := bI_t e1
            refine f_aln 5 rfl hL rfl ?_
            refine m_gfr so55 rfl hw8 rfl (by decide) ?_
            refine f_il 0 rfl hL rfl ?_
            refine m_ia sa60 (m 60 3) rfl hw8 hm8 (by omega) (by omega) (by decide) rfl ?_
            refine f_il 2 rfl hL rfl ?_
            refine m_k1 (t73 (hR 60 3) (by decide)) hw8 hm8 rfl rfl rfl rfl rfl (fun hc9 hw9 hm9 => ?_)
            refine f_if rfl (bI_r _) (fun e2 => ?_) (fun e2 => ?_)
            · have e2 : (bI (decide (iA (iR (m 60 3) (3)) (1) = 1)) : Int) = (0 : Int) := e2
              have e2 : ¬ (iA (iR (m 60 3) (3)) (1) = 1) := bI_f e2
              refine f_s [fi (0), fi (c)] rfl rfl ?_
              refine f_iadd rfl ?_
              refine f_ist [(7, fi (c + 0)), (8, fi (3)), (6, fi (3)), (4, fi (B)), (5, fi (A)), (0, .ref 55), (1, fi (x)), (2, fi (h)), (3, fi (0))] rfl (by decide) hL rfl (fun L27 hL27 => ?_)
              refine f_inc 1 [(8, fi (4)), (7, fi (c + 0)), (6, fi (3)), (4, fi (B)), (5, fi (A)), (0, .ref 55), (1, fi (x)), (2, fi (h)), (3, fi (0))] rfl (by decide) hL27 rfl rfl (fun L28 hL28 => ?_)
              refine f_goto rfl ?_
              have mb : mnB m 3 h 3 3 = false := decide_eq_false (fun z => e2 z.2)
              have e9 : mn1 m 3 h 3 3 c = c + 0 := (if_pos (by omega)).trans (by rw [mb]; rfl)
              rw [e9] at hG
              exact hI4 hc9 _ _ hw9 hm9 hG (hL28.sel [0, 1, 2, 3, 4, 5, 6, 7, 8] rfl)
            · have e2 : ¬ ((bI (decide (iA (iR (m 60 3) (3)) (1) = 1)) : Int) = (0 : Int)) := e2
              have e2 : iA (iR (m 60 3) (3)) (1) = 1 := bI_t e2
              refine f_s [fi (1), fi (c)] rfl rfl ?_
              refine f_goto rfl ?_
              refine f_iadd rfl ?_
              refine f_ist [(7, fi (c + 1)), (8, fi (3)), (6, fi (3)), (4, fi (B)), (5, fi (A)), (0, .ref 55), (1, fi (x)), (2, fi (h)), (3, fi (0))] rfl (by decide) hL rfl (fun L29 hL29 => ?_)
              refine f_inc 1 [(8, fi (4)), (7, fi (c + 1)), (6, fi (3)), (4, fi (B)), (5, fi (A)), (0, .ref 55), (1, fi (x)), (2, fi (h)), (3, fi (0))] rfl (by decide) hL29 rfl rfl (fun L30 hL30 => ?_)
              refine f_goto rfl ?_
              have mb : mnB m 3 h 3 3 = true := decide_eq_true ⟨e1, e2⟩
              have e9 : mn1 m 3 h 3 3 c = c + 1 := (if_pos (by omega)).trans (by rw [mb]; rfl)
              rw [e9] at hG
              exact hI4 hc9 _ _ hw9 hm9 hG (hL30.sel [0, 1, 2, 3, 4, 5, 6, 7, 8] rfl)
      have hI2 : ∀ (hc : ev_H) (c : Int) (L : ev_L), y_in yGw hc → gi hc = m → mn1 m 3 h 4 4 (mn1 m 3 h 3 3 (mn1 m 3 h 2 2 (c))) = mn m 3 h → f_L L [(8, fi (2)), (7, fi (c)), (6, fi (3)), (4, fi (B)), (5, fi (A)), (0, .ref 55), (1, fi (x)), (2, fi (h)), (3, fi (0))] → x_W none (1, 0, 9, 3, 11, 3, 66, 0, 0, ev_t184) 49 L [] hc 0 0 (fun r' h' => r' = some (fi (lm0_3 m x h A B)) ∧ y_in yGw h' ∧ gi h' = m) := fun hc c L hw hm hG hL => by
        refine f_il 0 rfl hL rfl ?_
        refine f_aln 5 rfl hL rfl ?_
        refine m_gfi so55 (m 55 1) rfl hw hm rfl rfl ?_
        refine f_ic rfl (by decide) (by omega) (fun ci => ?_) (fun ci => ?_)
        · have ci : (m 55 1 : Int) ≤ (2 : Int) := ci
          have e8 : mn1 m 3 h 4 4 (mn1 m 3 h 3 3 (mn1 m 3 h 2 2 (c))) = c := by unfold mn1; rw [if_neg (by omega), if_neg (by omega), if_neg (by omega)]
          rw [e8] at hG
          rw [hG] at hL
          exact hE hc 2 _ hw hm (hL.sel [0, 1, 2, 3, 4, 5, 6, 7, 8] rfl)
        · have ci : ¬ ((m 55 1 : Int) ≤ (2 : Int)) := ci
          refine f_il 1 rfl hL rfl ?_
          refine f_aln 5 rfl hL rfl ?_
          refine f_s [fi (0), .ref 55, fi (c)] rfl rfl ?_
          refine f_il 0 rfl hL rfl ?_
          refine f_iln 7 rfl hL rfl ?_
          refine m_k1 (t90_0 (p := 2) (h := h) (by decide) (by decide) rh (fv := m 58 2) rfl (hR 58 _) (uv := m 59 2) rfl (hR 59 _)) hw hm rfl rfl rfl (m_ar so55 hw rfl) rfl (fun hc10 hw10 hm10 => ?_)
          refine f_if rfl (bI_r _) (fun e1 => ?_) (fun e1 => ?_)
          · have e1 : (bI (decide (¬ iA (iR (m 61 16) (2)) (1) = 1 ∧ m 58 2 ≤ h ∧ h ≤ m 59 2)) : Int) = (0 : Int) := e1
            have e1 : ¬ (¬ iA (iR (m 61 16) (2)) (1) = 1 ∧ m 58 2 ≤ h ∧ h ≤ m 59 2) := bI_f e1
            refine f_s [fi (0), fi (c)] rfl rfl ?_
            refine f_iadd rfl ?_
            refine f_ist [(7, fi (c + 0)), (8, fi (2)), (6, fi (3)), (4, fi (B)), (5, fi (A)), (0, .ref 55), (1, fi (x)), (2, fi (h)), (3, fi (0))] rfl (by decide) hL rfl (fun L31 hL31 => ?_)
            refine f_inc 1 [(8, fi (3)), (7, fi (c + 0)), (6, fi (3)), (4, fi (B)), (5, fi (A)), (0, .ref 55), (1, fi (x)), (2, fi (h)), (3, fi (0))] rfl (by decide) hL31 rfl rfl (fun L32 hL32 => ?_)
            refine f_goto rfl ?_
            have mb : mnB m 3 h 2 2 = false := decide_eq_false (fun z => e1 z.1)
            have e9 : mn1 m 3 h 2 2 c = c + 0 := (if_pos (by omega)).trans (by rw [mb]; rfl)
            rw [e9] at hG
            exact hI3 hc10 _ _ hw10 hm10 hG (hL32.sel [0, 1, 2, 3, 4, 5, 6, 7, 8] rfl)
          · have e1 : ¬ ((bI (decide (¬ iA (iR (m 61 16) (2)) (1) = 1 ∧ m 58 2 ≤ h ∧ h ≤ m 59 2)) : Int) = (0 : Int)) := e1
            have e1 : ¬ iA (iR (m 61 16) (2)) (1) = 1 ∧ m 58 2 ≤ h ∧ h ≤ m 59 2 := bI_t e1
            refine f_aln 5 rfl hL rfl ?_
            refine m_gfr so55 rfl hw10 rfl (by decide) ?_
            refine f_il 0 rfl hL rfl ?_
            refine m_ia sa60 (m 60 2) rfl hw10 hm10 (by omega) (by omega) (by decide) rfl ?_
            refine f_il 2 rfl hL rfl ?_
            refine m_k1 (t73 (hR 60 2) (by decide)) hw10 hm10 rfl rfl rfl rfl rfl (fun hc11 hw11 hm11 => ?_)
            refine f_if rfl (bI_r _) (fun e2 => ?_) (fun e2 => ?_)
            · have e2 : (bI (decide (iA (iR (m 60 2) (3)) (1) = 1)) : Int) = (0 : Int) := e2
              have e2 : ¬ (iA (iR (m 60 2) (3)) (1) = 1) := bI_f e2
              refine f_s [fi (0), fi (c)] rfl rfl ?_
              refine f_iadd rfl ?_
              refine f_ist [(7, fi (c + 0)), (8, fi (2)), (6, fi (3)), (4, fi (B)), (5, fi (A)), (0, .ref 55), (1, fi (x)), (2, fi (h)), (3, fi (0))] rfl (by decide) hL rfl (fun L33 hL33 => ?_)
              refine f_inc 1 [(8, fi (3)), (7, fi (c + 0)), (6, fi (3)), (4, fi (B)), (5, fi (A)), (0, .ref 55), (1, fi (x)), (2, fi (h)), (3, fi (0))] rfl (by decide) hL33 rfl rfl (fun L34 hL34 => ?_)
              refine f_goto rfl ?_
              have mb : mnB m 3 h 2 2 = false := decide_eq_false (fun z => e2 z.2)
              have e9 : mn1 m 3 h 2 2 c = c + 0 := (if_pos (by omega)).trans (by rw [mb]; rfl)
              rw [e9] at hG
              exact hI3 hc11 _ _ hw11 hm11 hG (hL34.sel [0, 1, 2, 3, 4, 5, 6, 7, 8] rfl)
            · have e2 : ¬ ((bI (decide (iA (iR (m 60 2) (3)) (1) = 1)) : Int) = (0 : Int)) := e2
              have e2 : iA (iR (m 60 2) (3)) (1) = 1 := bI_t e2
              refine f_s [fi (1), fi (c)] rfl rfl ?_
              refine f_goto rfl ?_
              refine f_iadd rfl ?_
              refine f_ist [(7, fi (c + 1)), (8, fi (2)), (6, fi (3)), (4, fi (B)), (5, fi (A)), (0, .ref 55), (1, fi (x)), (2, fi (h)), (3, fi (0))] rfl (by decide) hL rfl (fun L35 hL35 => ?_)
              refine f_inc 1 [(8, fi (3)), (7, fi (c + 1)), (6, fi (3)), (4, fi (B)), (5, fi (A)), (0, .ref 55), (1, fi (x)), (2, fi (h)), (3, fi (0))] rfl (by decide) hL35 rfl rfl (fun L36 hL36 => ?_)
              refine f_goto rfl ?_
              have mb : mnB m 3 h 2 2 = true := decide_eq_true ⟨e1, e2⟩
              have e9 : mn1 m 3 h 2 2 c = c + 1 := (if_pos (by omega)).trans (by rw [mb]; rfl)
              rw [e9] at hG
              exact hI3 hc11 _ _ hw11 hm11 hG (hL36.sel [0, 1, 2, 3, 4, 5, 6, 7, 8] rfl)
      have hI1 : ∀ (hc : ev_H) (c : Int) (L : ev_L), y_in yGw hc → gi hc = m → mn1 m 3 h 4 4 (mn1 m 3 h 3 3 (mn1 m 3 h 2 2 (mn1 m 3 h 1 1 (c)))) = mn m 3 h → f_L L [(8, fi (1)), (7, fi (c)), (6, fi (3)), (4, fi (B)), (5, fi (A)), (0, .ref 55), (1, fi (x)), (2, fi (h)), (3, fi (0))] → x_W none (1, 0, 9, 3, 11, 3, 66, 0, 0, ev_t184) 49 L [] hc 0 0 (fun r' h' => r' = some (fi (lm0_3 m x h A B)) ∧ y_in yGw h' ∧ gi h' = m) := fun hc c L hw hm hG hL => by
        refine f_il 0 rfl hL rfl ?_
        refine f_aln 5 rfl hL rfl ?_
        refine m_gfi so55 (m 55 1) rfl hw hm rfl rfl ?_
        refine f_ic rfl (by decide) (by omega) (fun ci => ?_) (fun ci => ?_)
        · have ci : (m 55 1 : Int) ≤ (1 : Int) := ci
          have e8 : mn1 m 3 h 4 4 (mn1 m 3 h 3 3 (mn1 m 3 h 2 2 (mn1 m 3 h 1 1 (c)))) = c := by unfold mn1; rw [if_neg (by omega), if_neg (by omega), if_neg (by omega), if_neg (by omega)]
          rw [e8] at hG
          rw [hG] at hL
          exact hE hc 1 _ hw hm (hL.sel [0, 1, 2, 3, 4, 5, 6, 7, 8] rfl)
        · have ci : ¬ ((m 55 1 : Int) ≤ (1 : Int)) := ci
          refine f_il 1 rfl hL rfl ?_
          refine f_aln 5 rfl hL rfl ?_
          refine f_s [fi (0), .ref 55, fi (c)] rfl rfl ?_
          refine f_il 0 rfl hL rfl ?_
          refine f_iln 7 rfl hL rfl ?_
          refine m_k1 (t90_0 (p := 1) (h := h) (by decide) (by decide) rh (fv := m 58 1) rfl (hR 58 _) (uv := m 59 1) rfl (hR 59 _)) hw hm rfl rfl rfl (m_ar so55 hw rfl) rfl (fun hc12 hw12 hm12 => ?_)
          refine f_if rfl (bI_r _) (fun e1 => ?_) (fun e1 => ?_)
          · have e1 : (bI (decide (¬ iA (iR (m 61 16) (1)) (1) = 1 ∧ m 58 1 ≤ h ∧ h ≤ m 59 1)) : Int) = (0 : Int) := e1
            have e1 : ¬ (¬ iA (iR (m 61 16) (1)) (1) = 1 ∧ m 58 1 ≤ h ∧ h ≤ m 59 1) := bI_f e1
            refine f_s [fi (0), fi (c)] rfl rfl ?_
            refine f_iadd rfl ?_
            refine f_ist [(7, fi (c + 0)), (8, fi (1)), (6, fi (3)), (4, fi (B)), (5, fi (A)), (0, .ref 55), (1, fi (x)), (2, fi (h)), (3, fi (0))] rfl (by decide) hL rfl (fun L37 hL37 => ?_)
            refine f_inc 1 [(8, fi (2)), (7, fi (c + 0)), (6, fi (3)), (4, fi (B)), (5, fi (A)), (0, .ref 55), (1, fi (x)), (2, fi (h)), (3, fi (0))] rfl (by decide) hL37 rfl rfl (fun L38 hL38 => ?_)
            refine f_goto rfl ?_
            have mb : mnB m 3 h 1 1 = false := decide_eq_false (fun z => e1 z.1)
            have e9 : mn1 m 3 h 1 1 c = c + 0 := (if_pos (by omega)).trans (by rw [mb]; rfl)
            rw [e9] at hG
            exact hI2 hc12 _ _ hw12 hm12 hG (hL38.sel [0, 1, 2, 3, 4, 5, 6, 7, 8] rfl)
          · have e1 : ¬ ((bI (decide (¬ iA (iR (m 61 16) (1)) (1) = 1 ∧ m 58 1 ≤ h ∧ h ≤ m 59 1)) : Int) = (0 : Int)) := e1
            have e1 : ¬ iA (iR (m 61 16) (1)) (1) = 1 ∧ m 58 1 ≤ h ∧ h ≤ m 59 1 := bI_t e1
            refine f_aln 5 rfl hL rfl ?_
            refine m_gfr so55 rfl hw12 rfl (by decide) ?_
            refine f_il 0 rfl hL rfl ?_
            refine m_ia sa60 (m 60 1) rfl hw12 hm12 (by omega) (by omega) (by decide) rfl ?_
            refine f_il 2 rfl hL rfl ?_
            refine m_k1 (t73 (hR 60 1) (by decide)) hw12 hm12 rfl rfl rfl rfl rfl (fun hc13 hw13 hm13 => ?_)
            refine f_if rfl (bI_r _) (fun e2 => ?_) (fun e2 => ?_)
            · have e2 : (bI (decide (iA (iR (m 60 1) (3)) (1) = 1)) : Int) = (0 : Int) := e2
              have e2 : ¬ (iA (iR (m 60 1) (3)) (1) = 1) := bI_f e2
              refine f_s [fi (0), fi (c)] rfl rfl ?_
              refine f_iadd rfl ?_
              refine f_ist [(7, fi (c + 0)), (8, fi (1)), (6, fi (3)), (4, fi (B)), (5, fi (A)), (0, .ref 55), (1, fi (x)), (2, fi (h)), (3, fi (0))] rfl (by decide) hL rfl (fun L39 hL39 => ?_)
              refine f_inc 1 [(8, fi (2)), (7, fi (c + 0)), (6, fi (3)), (4, fi (B)), (5, fi (A)), (0, .ref 55), (1, fi (x)), (2, fi (h)), (3, fi (0))] rfl (by decide) hL39 rfl rfl (fun L40 hL40 => ?_)
              refine f_goto rfl ?_
              have mb : mnB m 3 h 1 1 = false := decide_eq_false (fun z => e2 z.2)
              have e9 : mn1 m 3 h 1 1 c = c + 0 := (if_pos (by omega)).trans (by rw [mb]; rfl)
              rw [e9] at hG
              exact hI2 hc13 _ _ hw13 hm13 hG (hL40.sel [0, 1, 2, 3, 4, 5, 6, 7, 8] rfl)
            · have e2 : ¬ ((bI (decide (iA (iR (m 60 1) (3)) (1) = 1)) : Int) = (0 : Int)) := e2
              have e2 : iA (iR (m 60 1) (3)) (1) = 1 := bI_t e2
              refine f_s [fi (1), fi (c)] rfl rfl ?_
              refine f_goto rfl ?_
              refine f_iadd rfl ?_
              refine f_ist [(7, fi (c + 1)), (8, fi (1)), (6, fi (3)), (4, fi (B)), (5, fi (A)), (0, .ref 55), (1, fi (x)), (2, fi (h)), (3, fi (0))] rfl (by decide) hL rfl (fun L41 hL41 => ?_)
              refine f_inc 1 [(8, fi (2)), (7, fi (c + 1)), (6, fi (3)), (4, fi (B)), (5, fi (A)), (0, .ref 55), (1, fi (x)), (2, fi (h)), (3, fi (0))] rfl (by decide) hL41 rfl rfl (fun L42 hL42 => ?_)
              refine f_goto rfl ?_
              have mb : mnB m 3 h 1 1 = true := decide_eq_true ⟨e1, e2⟩
              have e9 : mn1 m 3 h 1 1 c = c + 1 := (if_pos (by omega)).trans (by rw [mb]; rfl)
              rw [e9] at hG
              exact hI2 hc13 _ _ hw13 hm13 hG (hL42.sel [0, 1, 2, 3, 4, 5, 6, 7, 8] rfl)
      have hI0 : ∀ (hc : ev_H) (c : Int) (L : ev_L), y_in yGw hc → gi hc = m → mn1 m 3 h 4 4 (mn1 m 3 h 3 3 (mn1 m 3 h 2 2 (mn1 m 3 h 1 1 (mn1 m 3 h 0 0 (c))))) = mn m 3 h → f_L L [(8, fi (0)), (7, fi (c)), (6, fi (3)), (4, fi (B)), (5, fi (A)), (0, .ref 55), (1, fi (x)), (2, fi (h)), (3, fi (0))] → x_W none (1, 0, 9, 3, 11, 3, 66, 0, 0, ev_t184) 49 L [] hc 0 0 (fun r' h' => r' = some (fi (lm0_3 m x h A B)) ∧ y_in yGw h' ∧ gi h' = m) := fun hc c L hw hm hG hL => by
        refine f_il 0 rfl hL rfl ?_
        refine f_aln 5 rfl hL rfl ?_
        refine m_gfi so55 (m 55 1) rfl hw hm rfl rfl ?_
        refine f_ic rfl (by decide) (by omega) (fun ci => ?_) (fun ci => ?_)
        · have ci : (m 55 1 : Int) ≤ (0 : Int) := ci
          have e8 : mn1 m 3 h 4 4 (mn1 m 3 h 3 3 (mn1 m 3 h 2 2 (mn1 m 3 h 1 1 (mn1 m 3 h 0 0 (c))))) = c := by unfold mn1; rw [if_neg (by omega), if_neg (by omega), if_neg (by omega), if_neg (by omega), if_neg (by omega)]
          rw [e8] at hG
          rw [hG] at hL
          exact hE hc 0 _ hw hm (hL.sel [0, 1, 2, 3, 4, 5, 6, 7, 8] rfl)
        · have ci : ¬ ((m 55 1 : Int) ≤ (0 : Int)) := ci
          refine f_il 1 rfl hL rfl ?_
          refine f_aln 5 rfl hL rfl ?_
          refine f_s [fi (0), .ref 55, fi (c)] rfl rfl ?_
          refine f_il 0 rfl hL rfl ?_
          refine f_iln 7 rfl hL rfl ?_
          refine m_k1 (t90_0 (p := 0) (h := h) (by decide) (by decide) rh (fv := m 58 0) rfl (hR 58 _) (uv := m 59 0) rfl (hR 59 _)) hw hm rfl rfl rfl (m_ar so55 hw rfl) rfl (fun hc14 hw14 hm14 => ?_)
          refine f_if rfl (bI_r _) (fun e1 => ?_) (fun e1 => ?_)
          · have e1 : (bI (decide (¬ iA (iR (m 61 16) (0)) (1) = 1 ∧ m 58 0 ≤ h ∧ h ≤ m 59 0)) : Int) = (0 : Int) := e1
            have e1 : ¬ (¬ iA (iR (m 61 16) (0)) (1) = 1 ∧ m 58 0 ≤ h ∧ h ≤ m 59 0) := bI_f e1
            refine f_s [fi (0), fi (c)] rfl rfl ?_
            refine f_iadd rfl ?_
            refine f_ist [(7, fi (c + 0)), (8, fi (0)), (6, fi (3)), (4, fi (B)), (5, fi (A)), (0, .ref 55), (1, fi (x)), (2, fi (h)), (3, fi (0))] rfl (by decide) hL rfl (fun L43 hL43 => ?_)
            refine f_inc 1 [(8, fi (1)), (7, fi (c + 0)), (6, fi (3)), (4, fi (B)), (5, fi (A)), (0, .ref 55), (1, fi (x)), (2, fi (h)), (3, fi (0))] rfl (by decide) hL43 rfl rfl (fun L44 hL44 => ?_)
            refine f_goto rfl ?_
            have mb : mnB m 3 h 0 0 = false := decide_eq_false (fun z => e1 z.1)
            have e9 : mn1 m 3 h 0 0 c = c + 0 := (if_pos (by omega)).trans (by rw [mb]; rfl)
            rw [e9] at hG
            exact hI1 hc14 _ _ hw14 hm14 hG (hL44.sel [0, 1, 2, 3, 4, 5, 6, 7, 8] rfl)
          · have e1 : ¬ ((bI (decide (¬ iA (iR (m 61 16) (0)) (1) = 1 ∧ m 58 0 ≤ h ∧ h ≤ m 59 0)) : Int) = (0 : Int)) := e1
            have e1 : ¬ iA (iR (m 61 16) (0)) (1) = 1 ∧ m 58 0 ≤ h ∧ h ≤ m 59 0 := bI_t e1
            refine f_aln 5 rfl hL rfl ?_
            refine m_gfr so55 rfl hw14 rfl (by decide) ?_
            refine f_il 0 rfl hL rfl ?_
            refine m_ia sa60 (m 60 0) rfl hw14 hm14 (by omega) (by omega) (by decide) rfl ?_
            refine f_il 2 rfl hL rfl ?_
            refine m_k1 (t73 (hR 60 0) (by decide)) hw14 hm14 rfl rfl rfl rfl rfl (fun hc15 hw15 hm15 => ?_)
            refine f_if rfl (bI_r _) (fun e2 => ?_) (fun e2 => ?_)
            · have e2 : (bI (decide (iA (iR (m 60 0) (3)) (1) = 1)) : Int) = (0 : Int) := e2
              have e2 : ¬ (iA (iR (m 60 0) (3)) (1) = 1) := bI_f e2
              refine f_s [fi (0), fi (c)] rfl rfl ?_
              refine f_iadd rfl ?_
              refine f_ist [(7, fi (c + 0)), (8, fi (0)), (6, fi (3)), (4, fi (B)), (5, fi (A)), (0, .ref 55), (1, fi (x)), (2, fi (h)), (3, fi (0))] rfl (by decide) hL rfl (fun L45 hL45 => ?_)
              refine f_inc 1 [(8, fi (1)), (7, fi (c + 0)), (6, fi (3)), (4, fi (B)), (5, fi (A)), (0, .ref 55), (1, fi (x)), (2, fi (h)), (3, fi (0))] rfl (by decide) hL45 rfl rfl (fun L46 hL46 => ?_)
              refine f_goto rfl ?_
              have mb : mnB m 3 h 0 0 = false := decide_eq_false (fun z => e2 z.2)
              have e9 : mn1 m 3 h 0 0 c = c + 0 := (if_pos (by omega)).trans (by rw [mb]; rfl)
              rw [e9] at hG
              exact hI1 hc15 _ _ hw15 hm15 hG (hL46.sel [0, 1, 2, 3, 4, 5, 6, 7, 8] rfl)
            · have e2 : ¬ ((bI (decide (iA (iR (m 60 0) (3)) (1) = 1)) : Int) = (0 : Int)) := e2
              have e2 : iA (iR (m 60 0) (3)) (1) = 1 := bI_t e2
              refine f_s [fi (1), fi (c)] rfl rfl ?_
              refine f_goto rfl ?_
              refine f_iadd rfl ?_
              refine f_ist [(7, fi (c + 1)), (8, fi (0)), (6, fi (3)), (4, fi (B)), (5, fi (A)), (0, .ref 55), (1, fi (x)), (2, fi (h)), (3, fi (0))] rfl (by decide) hL rfl (fun L47 hL47 => ?_)
              refine f_inc 1 [(8, fi (1)), (7, fi (c + 1)), (6, fi (3)), (4, fi (B)), (5, fi (A)), (0, .ref 55), (1, fi (x)), (2, fi (h)), (3, fi (0))] rfl (by decide) hL47 rfl rfl (fun L48 hL48 => ?_)
              refine f_goto rfl ?_
              have mb : mnB m 3 h 0 0 = true := decide_eq_true ⟨e1, e2⟩
              have e9 : mn1 m 3 h 0 0 c = c + 1 := (if_pos (by omega)).trans (by rw [mb]; rfl)
              rw [e9] at hG
              exact hI1 hc15 _ _ hw15 hm15 hG (hL48.sel [0, 1, 2, 3, 4, 5, 6, 7, 8] rfl)
      refine f_s [fi (0)] rfl rfl ?_
      refine f_ist [(7, fi (0)), (6, fi (3)), (4, fi (B)), (5, fi (A)), (0, .ref 55), (1, fi (x)), (2, fi (h)), (3, fi (0))] rfl (by decide) hL rfl (fun L49 hL49 => ?_)
      refine f_s [fi (0)] rfl rfl ?_
      refine f_ist [(8, fi (0)), (7, fi (0)), (6, fi (3)), (4, fi (B)), (5, fi (A)), (0, .ref 55), (1, fi (x)), (2, fi (h)), (3, fi (0))] rfl (by decide) hL49 rfl (fun L50 hL50 => ?_)
      exact hI0 hc 0 _ hw hm rfl (hL50.sel [0, 1, 2, 3, 4, 5, 6, 7, 8] rfl)
  have hK2 : ∀ (hc : ev_H) (A B : Int) (L : ev_L), y_in yGw hc → gi hc = m → (A, B) ∈ lS 2 → f_L L [(6, fi (2)), (4, fi (B)), (5, fi (A)), (0, .ref 55), (1, fi (x)), (2, fi (h)), (3, fi (0))] → x_W none (1, 0, 9, 3, 11, 3, 66, 0, 0, ev_t184) 34 L [] hc 0 0 (fun r' h' => r' = some (fi (lm0_2 m x h A B)) ∧ y_in yGw h' ∧ gi h' = m) := fun hc A B L hw hm hAB hL => by
    obtain ⟨o1, o2, o3, o4, o5, o6, o7⟩ := okp_r (lS_at (by decide) hAB)
    refine f_il 0 rfl hL rfl ?_
    refine f_aln 3 rfl hL rfl ?_
    refine m_gfi so55 (m 55 0) rfl hw hm rfl rfl ?_
    refine f_ic rfl (by decide) (by omega) (fun c1 => ?_) (fun c1 => ?_)
    · have c1 : (m 55 0 : Int) ≤ (2 : Int) := c1
      refine f_il 2 rfl hL rfl ?_
      refine f_il 1 rfl hL rfl ?_
      refine f_isub rfl ?_
      refine f_il 2 rfl hL rfl ?_
      refine m_k1 (t168 (a := A - B) (b := A) (g := eG (A - B) A) o3 (by omega) (by omega) (by omega) o1) hw hm rfl rfl rfl rfl rfl (fun hc16 hw16 hm16 => ?_)
      have hg := eu_r 40 (A - B) A _ o3 (by omega) (by omega) (by omega) o1
      refine f_ist [(6, fi (eG (A - B) A)), (4, fi (B)), (5, fi (A)), (0, .ref 55), (1, fi (x)), (2, fi (h)), (3, fi (0))] rfl (by decide) hL rfl (fun L51 hL51 => ?_)
      refine f_iln 6 rfl hL51 rfl ?_
      refine f_if rfl (by decide) (fun _ => ?_) (fun c => absurd (show (0 : Int) = (0 : Int) from (by decide)) c)
      refine f_il 2 rfl hL51 rfl ?_
      refine f_il 0 rfl hL51 rfl ?_
      refine f_idiv rfl (by omega) (by omega) (by omega) (by omega) ?_
      exact f_ret1 rfl ⟨by unfold lm0_2; rw [if_neg (by omega)], hw16, hm16⟩
    · have c1 : ¬ ((m 55 0 : Int) ≤ (2 : Int)) := c1
      have kk : 2 < m 55 0 := by omega
      have hE : ∀ (hc : ev_H) (p : Int) (L : ev_L), y_in yGw hc → gi hc = m → f_L L [(8, fi p), (7, fi (mn m 2 h)), (6, fi (2)), (4, fi (B)), (5, fi (A)), (0, .ref 55), (1, fi (x)), (2, fi (h)), (3, fi (0))] → x_W none (1, 0, 9, 3, 11, 3, 66, 0, 0, ev_t184) 100 L [] hc 0 0 (fun r' h' => r' = some (fi (lm0_2 m x h A B)) ∧ y_in yGw h' ∧ gi h' = m) := fun hc p L hw hm hL => by
        have mr := mn_r m 2 h
        refine f_aln 5 rfl hL rfl ?_
        refine f_s [fi (0), .ref 55] rfl rfl ?_
        refine f_iln 6 rfl hL rfl ?_
        refine f_iln 7 rfl hL rfl ?_
        refine m_k1 (t90_0 (p := x) (h := h) x5.1 x5.2 rh (fv := m 58 x.toNat) rfl (hR 58 _) (uv := m 59 x.toNat) rfl (hR 59 _)) hw hm rfl rfl rfl (m_ar so55 hw rfl) rfl (fun hc17 hw17 hm17 => ?_)
        refine f_if rfl (bI_r _) (fun d1 => ?_) (fun d1 => ?_)
        · have d1 : (bI (decide (¬ iA (iR (m 61 16) (x)) (1) = 1 ∧ m 58 x.toNat ≤ h ∧ h ≤ m 59 x.toNat)) : Int) = (0 : Int) := d1
          have d1 : ¬ (¬ iA (iR (m 61 16) (x)) (1) = 1 ∧ m 58 x.toNat ≤ h ∧ h ≤ m 59 x.toNat) := bI_f d1
          refine f_s [fi (0)] rfl rfl ?_
          refine f_ist [(8, fi (0)), (7, fi (mn m 2 h)), (6, fi (2)), (4, fi (B)), (5, fi (A)), (0, .ref 55), (1, fi (x)), (2, fi (h)), (3, fi (0))] rfl (by decide) hL rfl (fun L52 hL52 => ?_)
          refine f_il 3 rfl hL52 rfl ?_
          refine f_il 0 rfl hL52 rfl ?_
          refine f_if rfl (by decide) (fun _ => ?_) (fun c => absurd (show (0 : Int) = (0 : Int) from (by decide)) c)
          refine f_s [fi (1), fi (B)] rfl rfl ?_
          refine f_imul rfl ?_
          refine f_ist [(4, fi (B * 1)), (8, fi (0)), (7, fi (mn m 2 h)), (6, fi (2)), (5, fi (A)), (0, .ref 55), (1, fi (x)), (2, fi (h)), (3, fi (0))] rfl (by decide) hL52 rfl (fun L53 hL53 => ?_)
          refine f_il 4 rfl hL53 rfl ?_
          refine f_il 1 rfl hL53 rfl ?_
          refine f_if rfl (by decide) (fun _ => ?_) (fun c => absurd (show (0 : Int) = (0 : Int) from (by decide)) c)
          refine f_s [fi (1), fi (A)] rfl rfl ?_
          refine f_imul rfl ?_
          refine f_ist [(5, fi (A * 1)), (4, fi (B * 1)), (8, fi (0)), (7, fi (mn m 2 h)), (6, fi (2)), (0, .ref 55), (1, fi (x)), (2, fi (h)), (3, fi (0))] rfl (by decide) hL53 rfl (fun L54 hL54 => ?_)
          refine f_inc 4 [(6, fi (3)), (5, fi (A * 1)), (4, fi (B * 1)), (8, fi (0)), (7, fi (mn m 2 h)), (0, .ref 55), (1, fi (x)), (2, fi (h)), (3, fi (0))] rfl (by decide) hL54 rfl rfl (fun L55 hL55 => ?_)
          refine f_goto rfl ?_
          have my : myB m 2 h x = false := decide_eq_false (fun z => d1 z.1)
          have e9 : lm0_2 m x h A B = lm0_3 m x h (A * 1) (B * 1) := (if_pos kk).trans ((if_neg (by rw [my]; decide)).trans (by rw [Int.mul_one, Int.mul_one]))
          rw [e9]
          exact hK3 hc17 _ _ _ hw17 hm17 (lS_s hAB (by decide)) (hL55.sel [0, 2, 1, 5, 6, 7, 8] rfl)
        · have d1 : ¬ ((bI (decide (¬ iA (iR (m 61 16) (x)) (1) = 1 ∧ m 58 x.toNat ≤ h ∧ h ≤ m 59 x.toNat)) : Int) = (0 : Int)) := d1
          have d1 : ¬ iA (iR (m 61 16) (x)) (1) = 1 ∧ m 58 x.toNat ≤ h ∧ h ≤ m 59 x.toNat := bI_t d1
          refine f_aln 5 rfl hL rfl ?_
          refine m_gfr so55 rfl hw17 rfl (by decide) ?_
          refine f_iln 6 rfl hL rfl ?_
          refine m_ia sa60 (m 60 (x).toNat) rfl hw17 hm17 (by omega) (by omega) (by decide) rfl ?_
          refine f_il 2 rfl hL rfl ?_
          refine m_k1 (t73 (hR 60 _) (by decide)) hw17 hm17 rfl rfl rfl rfl rfl (fun hc18 hw18 hm18 => ?_)
          refine f_if rfl (bI_r _) (fun d2 => ?_) (fun d2 => ?_)
          · have d2 : (bI (decide (iA (iR (m 60 (x).toNat) (2)) (1) = 1)) : Int) = (0 : Int) := d2
            have d2 : ¬ (iA (iR (m 60 (x).toNat) (2)) (1) = 1) := bI_f d2
            refine f_s [fi (0)] rfl rfl ?_
            refine f_ist [(8, fi (0)), (7, fi (mn m 2 h)), (6, fi (2)), (4, fi (B)), (5, fi (A)), (0, .ref 55), (1, fi (x)), (2, fi (h)), (3, fi (0))] rfl (by decide) hL rfl (fun L56 hL56 => ?_)
            refine f_il 3 rfl hL56 rfl ?_
            refine f_il 0 rfl hL56 rfl ?_
            refine f_if rfl (by decide) (fun _ => ?_) (fun c => absurd (show (0 : Int) = (0 : Int) from (by decide)) c)
            refine f_s [fi (1), fi (B)] rfl rfl ?_
            refine f_imul rfl ?_
            refine f_ist [(4, fi (B * 1)), (8, fi (0)), (7, fi (mn m 2 h)), (6, fi (2)), (5, fi (A)), (0, .ref 55), (1, fi (x)), (2, fi (h)), (3, fi (0))] rfl (by decide) hL56 rfl (fun L57 hL57 => ?_)
            refine f_il 4 rfl hL57 rfl ?_
            refine f_il 1 rfl hL57 rfl ?_
            refine f_if rfl (by decide) (fun _ => ?_) (fun c => absurd (show (0 : Int) = (0 : Int) from (by decide)) c)
            refine f_s [fi (1), fi (A)] rfl rfl ?_
            refine f_imul rfl ?_
            refine f_ist [(5, fi (A * 1)), (4, fi (B * 1)), (8, fi (0)), (7, fi (mn m 2 h)), (6, fi (2)), (0, .ref 55), (1, fi (x)), (2, fi (h)), (3, fi (0))] rfl (by decide) hL57 rfl (fun L58 hL58 => ?_)
            refine f_inc 4 [(6, fi (3)), (5, fi (A * 1)), (4, fi (B * 1)), (8, fi (0)), (7, fi (mn m 2 h)), (0, .ref 55), (1, fi (x)), (2, fi (h)), (3, fi (0))] rfl (by decide) hL58 rfl rfl (fun L59 hL59 => ?_)
            refine f_goto rfl ?_
            have my : myB m 2 h x = false := decide_eq_false (fun z => d2 z.2.1)
            have e9 : lm0_2 m x h A B = lm0_3 m x h (A * 1) (B * 1) := (if_pos kk).trans ((if_neg (by rw [my]; decide)).trans (by rw [Int.mul_one, Int.mul_one]))
            rw [e9]
            exact hK3 hc18 _ _ _ hw18 hm18 (lS_s hAB (by decide)) (hL59.sel [0, 2, 1, 5, 6, 7, 8] rfl)
          · have d2 : ¬ ((bI (decide (iA (iR (m 60 (x).toNat) (2)) (1) = 1)) : Int) = (0 : Int)) := d2
            have d2 : iA (iR (m 60 (x).toNat) (2)) (1) = 1 := bI_t d2
            refine f_aln 5 rfl hL rfl ?_
            refine m_gfr so55 rfl hw18 rfl (by decide) ?_
            refine f_bipush (n := 15) rfl (by decide) ?_
            refine m_ia sa61 (m 61 15) rfl hw18 hm18 (by omega) (by omega) (by decide) rfl ?_
            refine f_il 2 rfl hL rfl ?_
            refine m_k1 (t73 (hR 61 15) (by decide)) hw18 hm18 rfl rfl rfl rfl rfl (fun hc19 hw19 hm19 => ?_)
            refine f_if rfl (bI_r _) (fun d3 => ?_) (fun d3 => ?_)
            · have d3 : ¬ (bI (decide (iA (iR (m 61 15) (2)) (1) = 1)) : Int) = (0 : Int) := d3
              have d3 : iA (iR (m 61 15) (2)) (1) = 1 := bI_t d3
              refine f_s [fi (0)] rfl rfl ?_
              refine f_ist [(8, fi (0)), (7, fi (mn m 2 h)), (6, fi (2)), (4, fi (B)), (5, fi (A)), (0, .ref 55), (1, fi (x)), (2, fi (h)), (3, fi (0))] rfl (by decide) hL rfl (fun L60 hL60 => ?_)
              refine f_il 3 rfl hL60 rfl ?_
              refine f_il 0 rfl hL60 rfl ?_
              refine f_if rfl (by decide) (fun _ => ?_) (fun c => absurd (show (0 : Int) = (0 : Int) from (by decide)) c)
              refine f_s [fi (1), fi (B)] rfl rfl ?_
              refine f_imul rfl ?_
              refine f_ist [(4, fi (B * 1)), (8, fi (0)), (7, fi (mn m 2 h)), (6, fi (2)), (5, fi (A)), (0, .ref 55), (1, fi (x)), (2, fi (h)), (3, fi (0))] rfl (by decide) hL60 rfl (fun L61 hL61 => ?_)
              refine f_il 4 rfl hL61 rfl ?_
              refine f_il 1 rfl hL61 rfl ?_
              refine f_if rfl (by decide) (fun _ => ?_) (fun c => absurd (show (0 : Int) = (0 : Int) from (by decide)) c)
              refine f_s [fi (1), fi (A)] rfl rfl ?_
              refine f_imul rfl ?_
              refine f_ist [(5, fi (A * 1)), (4, fi (B * 1)), (8, fi (0)), (7, fi (mn m 2 h)), (6, fi (2)), (0, .ref 55), (1, fi (x)), (2, fi (h)), (3, fi (0))] rfl (by decide) hL61 rfl (fun L62 hL62 => ?_)
              refine f_inc 4 [(6, fi (3)), (5, fi (A * 1)), (4, fi (B * 1)), (8, fi (0)), (7, fi (mn m 2 h)), (0, .ref 55), (1, fi (x)), (2, fi (h)), (3, fi (0))] rfl (by decide) hL62 rfl rfl (fun L63 hL63 => ?_)
              refine f_goto rfl ?_
              have my : myB m 2 h x = false := decide_eq_false (fun z => z.2.2 d3)
              have e9 : lm0_2 m x h A B = lm0_3 m x h (A * 1) (B * 1) := (if_pos kk).trans ((if_neg (by rw [my]; decide)).trans (by rw [Int.mul_one, Int.mul_one]))
              rw [e9]
              exact hK3 hc19 _ _ _ hw19 hm19 (lS_s hAB (by decide)) (hL63.sel [0, 2, 1, 5, 6, 7, 8] rfl)
            · have d3 : ¬ (¬ (bI (decide (iA (iR (m 61 15) (2)) (1) = 1)) : Int) = (0 : Int)) := d3
              have d3 : ¬ (iA (iR (m 61 15) (2)) (1) = 1) := bI_n d3
              refine f_s [fi (1)] rfl rfl ?_
              refine f_goto rfl ?_
              refine f_ist [(8, fi (1)), (7, fi (mn m 2 h)), (6, fi (2)), (4, fi (B)), (5, fi (A)), (0, .ref 55), (1, fi (x)), (2, fi (h)), (3, fi (0))] rfl (by decide) hL rfl (fun L64 hL64 => ?_)
              refine f_il 3 rfl hL64 rfl ?_
              refine f_il 0 rfl hL64 rfl ?_
              refine f_if rfl (by decide) (fun c => absurd (show (1 : Int) = (0 : Int) from c) (by decide)) (fun _ => ?_)
              refine f_il 1 rfl hL64 rfl ?_
              refine f_s [fi (1), fi (mn m 2 h), fi (B)] rfl rfl ?_
              refine f_isub rfl ?_
              refine f_goto rfl ?_
              refine f_imul rfl ?_
              refine f_ist [(4, fi (B * ((mn m 2 h) - 1))), (8, fi (1)), (7, fi (mn m 2 h)), (6, fi (2)), (5, fi (A)), (0, .ref 55), (1, fi (x)), (2, fi (h)), (3, fi (0))] rfl (by decide) hL64 rfl (fun L65 hL65 => ?_)
              refine f_il 4 rfl hL65 rfl ?_
              refine f_il 1 rfl hL65 rfl ?_
              refine f_if rfl (by decide) (fun c => absurd (show (1 : Int) = (0 : Int) from c) (by decide)) (fun _ => ?_)
              refine f_il 2 rfl hL65 rfl ?_
              refine f_goto rfl ?_
              refine f_imul rfl ?_
              refine f_ist [(5, fi (A * (mn m 2 h))), (4, fi (B * ((mn m 2 h) - 1))), (8, fi (1)), (7, fi (mn m 2 h)), (6, fi (2)), (0, .ref 55), (1, fi (x)), (2, fi (h)), (3, fi (0))] rfl (by decide) hL65 rfl (fun L66 hL66 => ?_)
              refine f_inc 4 [(6, fi (3)), (5, fi (A * (mn m 2 h))), (4, fi (B * ((mn m 2 h) - 1))), (8, fi (1)), (7, fi (mn m 2 h)), (0, .ref 55), (1, fi (x)), (2, fi (h)), (3, fi (0))] rfl (by decide) hL66 rfl rfl (fun L67 hL67 => ?_)
              refine f_goto rfl ?_
              have my : myB m 2 h x = true := decide_eq_true ⟨d1, d2, d3⟩
              have e9 : lm0_2 m x h A B = lm0_3 m x h (A * mn m 2 h) (B * (mn m 2 h - 1)) := (if_pos kk).trans (if_pos my)
              rw [e9]
              exact hK3 hc19 _ _ _ hw19 hm19 (lS_s hAB (lQ_c (mn_1 2 (by decide) ⟨by decide, kk⟩ my) mr.2)) (hL67.sel [0, 2, 1, 5, 6, 7, 8] rfl)
      have hI5 : ∀ (hc : ev_H) (c : Int) (L : ev_L), y_in yGw hc → gi hc = m → c = mn m 2 h → f_L L [(8, fi (5)), (7, fi (c)), (6, fi (2)), (4, fi (B)), (5, fi (A)), (0, .ref 55), (1, fi (x)), (2, fi (h)), (3, fi (0))] → x_W none (1, 0, 9, 3, 11, 3, 66, 0, 0, ev_t184) 49 L [] hc 0 0 (fun r' h' => r' = some (fi (lm0_2 m x h A B)) ∧ y_in yGw h' ∧ gi h' = m) := fun hc c L hw hm hG hL => by
        refine f_il 0 rfl hL rfl ?_
        refine f_aln 5 rfl hL rfl ?_
        refine m_gfi so55 (m 55 1) rfl hw hm rfl rfl ?_
        refine f_ic rfl (by decide) (by omega) (fun _ => ?_) (fun c => absurd (show (m 55 1 : Int) ≤ (5 : Int) from (by omega)) c)
        rw [hG] at hL
        exact hE hc 5 _ hw hm (hL.sel [0, 1, 2, 3, 4, 5, 6, 7, 8] rfl)
      have hI4 : ∀ (hc : ev_H) (c : Int) (L : ev_L), y_in yGw hc → gi hc = m → mn1 m 2 h 4 4 (c) = mn m 2 h → f_L L [(8, fi (4)), (7, fi (c)), (6, fi (2)), (4, fi (B)), (5, fi (A)), (0, .ref 55), (1, fi (x)), (2, fi (h)), (3, fi (0))] → x_W none (1, 0, 9, 3, 11, 3, 66, 0, 0, ev_t184) 49 L [] hc 0 0 (fun r' h' => r' = some (fi (lm0_2 m x h A B)) ∧ y_in yGw h' ∧ gi h' = m) := fun hc c L hw hm hG hL => by
        refine f_il 0 rfl hL rfl ?_
        refine f_aln 5 rfl hL rfl ?_
        refine m_gfi so55 (m 55 1) rfl hw hm rfl rfl ?_
        refine f_ic rfl (by decide) (by omega) (fun ci => ?_) (fun ci => ?_)
        · have ci : (m 55 1 : Int) ≤ (4 : Int) := ci
          have e8 : mn1 m 2 h 4 4 (c) = c := by unfold mn1; rw [if_neg (by omega)]
          rw [e8] at hG
          rw [hG] at hL
          exact hE hc 4 _ hw hm (hL.sel [0, 1, 2, 3, 4, 5, 6, 7, 8] rfl)
        · have ci : ¬ ((m 55 1 : Int) ≤ (4 : Int)) := ci
          refine f_il 1 rfl hL rfl ?_
          refine f_aln 5 rfl hL rfl ?_
          refine f_s [fi (0), .ref 55, fi (c)] rfl rfl ?_
          refine f_il 0 rfl hL rfl ?_
          refine f_iln 7 rfl hL rfl ?_
          refine m_k1 (t90_0 (p := 4) (h := h) (by decide) (by decide) rh (fv := m 58 4) rfl (hR 58 _) (uv := m 59 4) rfl (hR 59 _)) hw hm rfl rfl rfl (m_ar so55 hw rfl) rfl (fun hc20 hw20 hm20 => ?_)
          refine f_if rfl (bI_r _) (fun e1 => ?_) (fun e1 => ?_)
          · have e1 : (bI (decide (¬ iA (iR (m 61 16) (4)) (1) = 1 ∧ m 58 4 ≤ h ∧ h ≤ m 59 4)) : Int) = (0 : Int) := e1
            have e1 : ¬ (¬ iA (iR (m 61 16) (4)) (1) = 1 ∧ m 58 4 ≤ h ∧ h ≤ m 59 4) := bI_f e1
            refine f_s [fi (0), fi (c)] rfl rfl ?_
            refine f_iadd rfl ?_
            refine f_ist [(7, fi (c + 0)), (8, fi (4)), (6, fi (2)), (4, fi (B)), (5, fi (A)), (0, .ref 55), (1, fi (x)), (2, fi (h)), (3, fi (0))] rfl (by decide) hL rfl (fun L68 hL68 => ?_)
            refine f_inc 1 [(8, fi (5)), (7, fi (c + 0)), (6, fi (2)), (4, fi (B)), (5, fi (A)), (0, .ref 55), (1, fi (x)), (2, fi (h)), (3, fi (0))] rfl (by decide) hL68 rfl rfl (fun L69 hL69 => ?_)
            refine f_goto rfl ?_
            have mb : mnB m 2 h 4 4 = false := decide_eq_false (fun z => e1 z.1)
            have e9 : mn1 m 2 h 4 4 c = c + 0 := (if_pos (by omega)).trans (by rw [mb]; rfl)
            rw [e9] at hG
            exact hI5 hc20 _ _ hw20 hm20 hG (hL69.sel [0, 1, 2, 3, 4, 5, 6, 7, 8] rfl)
          · have e1 : ¬ ((bI (decide (¬ iA (iR (m 61 16) (4)) (1) = 1 ∧ m 58 4 ≤ h ∧ h ≤ m 59 4)) : Int) = (0 : Int)) := e1
            have e1 : ¬ iA (iR (m 61 16) (4)) (1) = 1 ∧ m 58 4 ≤ h ∧ h ≤ m 59 4 := bI_t e1
            refine f_aln 5 rfl hL rfl ?_
            refine m_gfr so55 rfl hw20 rfl (by decide) ?_
            refine f_il 0 rfl hL rfl ?_
            refine m_ia sa60 (m 60 4) rfl hw20 hm20 (by omega) (by omega) (by decide) rfl ?_
            refine f_il 2 rfl hL rfl ?_
            refine m_k1 (t73 (hR 60 4) (by decide)) hw20 hm20 rfl rfl rfl rfl rfl (fun hc21 hw21 hm21 => ?_)
            refine f_if rfl (bI_r _) (fun e2 => ?_) (fun e2 => ?_)
            · have e2 : (bI (decide (iA (iR (m 60 4) (2)) (1) = 1)) : Int) = (0 : Int) := e2
              have e2 : ¬ (iA (iR (m 60 4) (2)) (1) = 1) := bI_f e2
              refine f_s [fi (0), fi (c)] rfl rfl ?_
              refine f_iadd rfl ?_
              refine f_ist [(7, fi (c + 0)), (8, fi (4)), (6, fi (2)), (4, fi (B)), (5, fi (A)), (0, .ref 55), (1, fi (x)), (2, fi (h)), (3, fi (0))] rfl (by decide) hL rfl (fun L70 hL70 => ?_)
              refine f_inc 1 [(8, fi (5)), (7, fi (c + 0)), (6, fi (2)), (4, fi (B)), (5, fi (A)), (0, .ref 55), (1, fi (x)), (2, fi (h)), (3, fi (0))] rfl (by decide) hL70 rfl rfl (fun L71 hL71 => ?_)
              refine f_goto rfl ?_
              have mb : mnB m 2 h 4 4 = false := decide_eq_false (fun z => e2 z.2)
              have e9 : mn1 m 2 h 4 4 c = c + 0 := (if_pos (by omega)).trans (by rw [mb]; rfl)
              rw [e9] at hG
              exact hI5 hc21 _ _ hw21 hm21 hG (hL71.sel [0, 1, 2, 3, 4, 5, 6, 7, 8] rfl)
            · have e2 : ¬ ((bI (decide (iA (iR (m 60 4) (2)) (1) = 1)) : Int) = (0 : Int)) := e2
              have e2 : iA (iR (m 60 4) (2)) (1) = 1 := bI_t e2
              refine f_s [fi (1), fi (c)] rfl rfl ?_
              refine f_goto rfl ?_
              refine f_iadd rfl ?_
              refine f_ist [(7, fi (c + 1)), (8, fi (4)), (6, fi (2)), (4, fi (B)), (5, fi (A)), (0, .ref 55), (1, fi (x)), (2, fi (h)), (3, fi (0))] rfl (by decide) hL rfl (fun L72 hL72 => ?_)
              refine f_inc 1 [(8, fi (5)), (7, fi (c + 1)), (6, fi (2)), (4, fi (B)), (5, fi (A)), (0, .ref 55), (1, fi (x)), (2, fi (h)), (3, fi (0))] rfl (by decide) hL72 rfl rfl (fun L73 hL73 => ?_)
              refine f_goto rfl ?_
              have mb : mnB m 2 h 4 4 = true := decide_eq_true ⟨e1, e2⟩
              have e9 : mn1 m 2 h 4 4 c = c + 1 := (if_pos (by omega)).trans (by rw [mb]; rfl)
              rw [e9] at hG
              exact hI5 hc21 _ _ hw21 hm21 hG (hL73.sel [0, 1, 2, 3, 4, 5, 6, 7, 8] rfl)
      have hI3 : ∀ (hc : ev_H) (c : Int) (L : ev_L), y_in yGw hc → gi hc = m → mn1 m 2 h 4 4 (mn1 m 2 h 3 3 (c)) = mn m 2 h → f_L L [(8, fi (3)), (7, fi (c)), (6, fi (2)), (4, fi (B)), (5, fi (A)), (0, .ref 55), (1, fi (x)), (2, fi (h)), (3, fi (0))] → x_W none (1, 0, 9, 3, 11, 3, 66, 0, 0, ev_t184) 49 L [] hc 0 0 (fun r' h' => r' = some (fi (lm0_2 m x h A B)) ∧ y_in yGw h' ∧ gi h' = m) := fun hc c L hw hm hG hL => by
        refine f_il 0 rfl hL rfl ?_
        refine f_aln 5 rfl hL rfl ?_
        refine m_gfi so55 (m 55 1) rfl hw hm rfl rfl ?_
        refine f_ic rfl (by decide) (by omega) (fun ci => ?_) (fun ci => ?_)
        · have ci : (m 55 1 : Int) ≤ (3 : Int) := ci
          have e8 : mn1 m 2 h 4 4 (mn1 m 2 h 3 3 (c)) = c := by unfold mn1; rw [if_neg (by omega), if_neg (by omega)]
          rw [e8] at hG
          rw [hG] at hL
          exact hE hc 3 _ hw hm (hL.sel [0, 1, 2, 3, 4, 5, 6, 7, 8] rfl)
        · have ci : ¬ ((m 55 1 : Int) ≤ (3 : Int)) := ci
          refine f_il 1 rfl hL rfl ?_
          refine f_aln 5 rfl hL rfl ?_
          refine f_s [fi (0), .ref 55, fi (c)] rfl rfl ?_
          refine f_il 0 rfl hL rfl ?_
          refine f_iln 7 rfl hL rfl ?_
          refine m_k1 (t90_0 (p := 3) (h := h) (by decide) (by decide) rh (fv := m 58 3) rfl (hR 58 _) (uv := m 59 3) rfl (hR 59 _)) hw hm rfl rfl rfl (m_ar so55 hw rfl) rfl (fun hc22 hw22 hm22 => ?_)
          refine f_if rfl (bI_r _) (fun e1 => ?_) (fun e1 => ?_)
          · have e1 : (bI (decide (¬ iA (iR (m 61 16) (3)) (1) = 1 ∧ m 58 3 ≤ h ∧ h ≤ m 59 3)) : Int) = (0 : Int) := e1
            have e1 : ¬ (¬ iA (iR (m 61 16) (3)) (1) = 1 ∧ m 58 3 ≤ h ∧ h ≤ m 59 3) := bI_f e1
            refine f_s [fi (0), fi (c)] rfl rfl ?_
            refine f_iadd rfl ?_
            refine f_ist [(7, fi (c + 0)), (8, fi (3)), (6, fi (2)), (4, fi (B)), (5, fi (A)), (0, .ref 55), (1, fi (x)), (2, fi (h)), (3, fi (0))] rfl (by decide) hL rfl (fun L74 hL74 => ?_)
            refine f_inc 1 [(8, fi (4)), (7, fi (c + 0)), (6, fi (2)), (4, fi (B)), (5, fi (A)), (0, .ref 55), (1, fi (x)), (2, fi (h)), (3, fi (0))] rfl (by decide) hL74 rfl rfl (fun L75 hL75 => ?_)
            refine f_goto rfl ?_
            have mb : mnB m 2 h 3 3 = false := decide_eq_false (fun z => e1 z.1)
            have e9 : mn1 m 2 h 3 3 c = c + 0 := (if_pos (by omega)).trans (by rw [mb]; rfl)
            rw [e9] at hG
            exact hI4 hc22 _ _ hw22 hm22 hG (hL75.sel [0, 1, 2, 3, 4, 5, 6, 7, 8] rfl)
          · have e1 : ¬ ((bI (decide (¬ iA (iR (m 61 16) (3)) (1) = 1 ∧ m 58 3 ≤ h ∧ h ≤ m 59 3)) : Int) = (0 : Int)) := e1
            have e1 : ¬ iA (iR (m 61 16) (3)) (1) = 1 ∧ m 58 3 ≤ h ∧ h ≤ m 59 3 := bI_t e1
            refine f_aln 5 rfl hL rfl ?_
            refine m_gfr so55 rfl hw22 rfl (by decide) ?_
            refine f_il 0 rfl hL rfl ?_
            refine m_ia sa60 (m 60 3) rfl hw22 hm22 (by omega) (by omega) (by decide) rfl ?_
            refine f_il 2 rfl hL rfl ?_
            refine m_k1 (t73 (hR 60 3) (by decide)) hw22 hm22 rfl rfl rfl rfl rfl (fun hc23 hw23 hm23 => ?_)
            refine f_if rfl (bI_r _) (fun e2 => ?_) (fun e2 => ?_)
            · have e2 : (bI (decide (iA (iR (m 60 3) (2)) (1) = 1)) : Int) = (0 : Int) := e2
              have e2 : ¬ (iA (iR (m 60 3) (2)) (1) = 1) := bI_f e2
              refine f_s [fi (0), fi (c)] rfl rfl ?_
              refine f_iadd rfl ?_
              refine f_ist [(7, fi (c + 0)), (8, fi (3)), (6, fi (2)), (4, fi (B)), (5, fi (A)), (0, .ref 55), (1, fi (x)), (2, fi (h)), (3, fi (0))] rfl (by decide) hL rfl (fun L76 hL76 => ?_)
              refine f_inc 1 [(8, fi (4)), (7, fi (c + 0)), (6, fi (2)), (4, fi (B)), (5, fi (A)), (0, .ref 55), (1, fi (x)), (2, fi (h)), (3, fi (0))] rfl (by decide) hL76 rfl rfl (fun L77 hL77 => ?_)
              refine f_goto rfl ?_
              have mb : mnB m 2 h 3 3 = false := decide_eq_false (fun z => e2 z.2)
              have e9 : mn1 m 2 h 3 3 c = c + 0 := (if_pos (by omega)).trans (by rw [mb]; rfl)
              rw [e9] at hG
              exact hI4 hc23 _ _ hw23 hm23 hG (hL77.sel [0, 1, 2, 3, 4, 5, 6, 7, 8] rfl)
            · have e2 : ¬ ((bI (decide (iA (iR (m 60 3) (2)) (1) = 1)) : Int) = (0 : Int)) := e2
              have e2 : iA (iR (m 60 3) (2)) (1) = 1 := bI_t e2
              refine f_s [fi (1), fi (c)] rfl rfl ?_
              refine f_goto rfl ?_
              refine f_iadd rfl ?_
              refine f_ist [(7, fi (c + 1)), (8, fi (3)), (6, fi (2)), (4, fi (B)), (5, fi (A)), (0, .ref 55), (1, fi (x)), (2, fi (h)), (3, fi (0))] rfl (by decide) hL rfl (fun L78 hL78 => ?_)
              refine f_inc 1 [(8, fi (4)), (7, fi (c + 1)), (6, fi (2)), (4, fi (B)), (5, fi (A)), (0, .ref 55), (1, fi (x)), (2, fi (h)), (3, fi (0))] rfl (by decide) hL78 rfl rfl (fun L79 hL79 => ?_)
              refine f_goto rfl ?_
              have mb : mnB m 2 h 3 3 = true := decide_eq_true ⟨e1, e2⟩
              have e9 : mn1 m 2 h 3 3 c = c + 1 := (if_pos (by omega)).trans (by rw [mb]; rfl)
              rw [e9] at hG
              exact hI4 hc23 _ _ hw23 hm23 hG (hL79.sel [0, 1, 2, 3, 4, 5, 6, 7, 8] rfl)
      have hI2 : ∀ (hc : ev_H) (c : Int) (L : ev_L), y_in yGw hc → gi hc = m → mn1 m 2 h 4 4 (mn1 m 2 h 3 3 (mn1 m 2 h 2 2 (c))) = mn m 2 h → f_L L [(8, fi (2)), (7, fi (c)), (6, fi (2)), (4, fi (B)), (5, fi (A)), (0, .ref 55), (1, fi (x)), (2, fi (h)), (3, fi (0))] → x_W none (1, 0, 9, 3, 11, 3, 66, 0, 0, ev_t184) 49 L [] hc 0 0 (fun r' h' => r' = some (fi (lm0_2 m x h A B)) ∧ y_in yGw h' ∧ gi h' = m) := fun hc c L hw hm hG hL => by
        refine f_il 0 rfl hL rfl ?_
        refine f_aln 5 rfl hL rfl ?_
        refine m_gfi so55 (m 55 1) rfl hw hm rfl rfl ?_
        refine f_ic rfl (by decide) (by omega) (fun ci => ?_) (fun ci => ?_)
        · have ci : (m 55 1 : Int) ≤ (2 : Int) := ci
          have e8 : mn1 m 2 h 4 4 (mn1 m 2 h 3 3 (mn1 m 2 h 2 2 (c))) = c := by unfold mn1; rw [if_neg (by omega), if_neg (by omega), if_neg (by omega)]
          rw [e8] at hG
          rw [hG] at hL
          exact hE hc 2 _ hw hm (hL.sel [0, 1, 2, 3, 4, 5, 6, 7, 8] rfl)
        · have ci : ¬ ((m 55 1 : Int) ≤ (2 : Int)) := ci
          refine f_il 1 rfl hL rfl ?_
          refine f_aln 5 rfl hL rfl ?_
          refine f_s [fi (0), .ref 55, fi (c)] rfl rfl ?_
          refine f_il 0 rfl hL rfl ?_
          refine f_iln 7 rfl hL rfl ?_
          refine m_k1 (t90_0 (p := 2) (h := h) (by decide) (by decide) rh (fv := m 58 2) rfl (hR 58 _) (uv := m 59 2) rfl (hR 59 _)) hw hm rfl rfl rfl (m_ar so55 hw rfl) rfl (fun hc24 hw24 hm24 => ?_)
          refine f_if rfl (bI_r _) (fun e1 => ?_) (fun e1 => ?_)
          · have e1 : (bI (decide (¬ iA (iR (m 61 16) (2)) (1) = 1 ∧ m 58 2 ≤ h ∧ h ≤ m 59 2)) : Int) = (0 : Int) := e1
            have e1 : ¬ (¬ iA (iR (m 61 16) (2)) (1) = 1 ∧ m 58 2 ≤ h ∧ h ≤ m 59 2) := bI_f e1
            refine f_s [fi (0), fi (c)] rfl rfl ?_
            refine f_iadd rfl ?_
            refine f_ist [(7, fi (c + 0)), (8, fi (2)), (6, fi (2)), (4, fi (B)), (5, fi (A)), (0, .ref 55), (1, fi (x)), (2, fi (h)), (3, fi (0))] rfl (by decide) hL rfl (fun L80 hL80 => ?_)
            refine f_inc 1 [(8, fi (3)), (7, fi (c + 0)), (6, fi (2)), (4, fi (B)), (5, fi (A)), (0, .ref 55), (1, fi (x)), (2, fi (h)), (3, fi (0))] rfl (by decide) hL80 rfl rfl (fun L81 hL81 => ?_)
            refine f_goto rfl ?_
            have mb : mnB m 2 h 2 2 = false := decide_eq_false (fun z => e1 z.1)
            have e9 : mn1 m 2 h 2 2 c = c + 0 := (if_pos (by omega)).trans (by rw [mb]; rfl)
            rw [e9] at hG
            exact hI3 hc24 _ _ hw24 hm24 hG (hL81.sel [0, 1, 2, 3, 4, 5, 6, 7, 8] rfl)
          · have e1 : ¬ ((bI (decide (¬ iA (iR (m 61 16) (2)) (1) = 1 ∧ m 58 2 ≤ h ∧ h ≤ m 59 2)) : Int) = (0 : Int)) := e1
            have e1 : ¬ iA (iR (m 61 16) (2)) (1) = 1 ∧ m 58 2 ≤ h ∧ h ≤ m 59 2 := bI_t e1
            refine f_aln 5 rfl hL rfl ?_
            refine m_gfr so55 rfl hw24 rfl (by decide) ?_
            refine f_il 0 rfl hL rfl ?_
            refine m_ia sa60 (m 60 2) rfl hw24 hm24 (by omega) (by omega) (by decide) rfl ?_
            refine f_il 2 rfl hL rfl ?_
            refine m_k1 (t73 (hR 60 2) (by decide)) hw24 hm24 rfl rfl rfl rfl rfl (fun hc25 hw25 hm25 => ?_)
            refine f_if rfl (bI_r _) (fun e2 => ?_) (fun e2 => ?_)
            · have e2 : (bI (decide (iA (iR (m 60 2) (2)) (1) = 1)) : Int) = (0 : Int) := e2
              have e2 : ¬ (iA (iR (m 60 2) (2)) (1) = 1) := bI_f e2
              refine f_s [fi (0), fi (c)] rfl rfl ?_
              refine f_iadd rfl ?_
              refine f_ist [(7, fi (c + 0)), (8, fi (2)), (6, fi (2)), (4, fi (B)), (5, fi (A)), (0, .ref 55), (1, fi (x)), (2, fi (h)), (3, fi (0))] rfl (by decide) hL rfl (fun L82 hL82 => ?_)
              refine f_inc 1 [(8, fi (3)), (7, fi (c + 0)), (6, fi (2)), (4, fi (B)), (5, fi (A)), (0, .ref 55), (1, fi (x)), (2, fi (h)), (3, fi (0))] rfl (by decide) hL82 rfl rfl (fun L83 hL83 => ?_)
              refine f_goto rfl ?_
              have mb : mnB m 2 h 2 2 = false := decide_eq_false (fun z => e2 z.2)
              have e9 : mn1 m 2 h 2 2 c = c + 0 := (if_pos (by omega)).trans (by rw [mb]; rfl)
              rw [e9] at hG
              exact hI3 hc25 _ _ hw25 hm25 hG (hL83.sel [0, 1, 2, 3, 4, 5, 6, 7, 8] rfl)
            · have e2 : ¬ ((bI (decide (iA (iR (m 60 2) (2)) (1) = 1)) : Int) = (0 : Int)) := e2
              have e2 : iA (iR (m 60 2) (2)) (1) = 1 := bI_t e2
              refine f_s [fi (1), fi (c)] rfl rfl ?_
              refine f_goto rfl ?_
              refine f_iadd rfl ?_
              refine f_ist [(7, fi (c + 1)), (8, fi (2)), (6, fi (2)), (4, fi (B)), (5, fi (A)), (0, .ref 55), (1, fi (x)), (2, fi (h)), (3, fi (0))] rfl (by decide) hL rfl (fun L84 hL84 => ?_)
              refine f_inc 1 [(8, fi (3)), (7, fi (c + 1)), (6, fi (2)), (4, fi (B)), (5, fi (A)), (0, .ref 55), (1, fi (x)), (2, fi (h)), (3, fi (0))] rfl (by decide) hL84 rfl rfl (fun L85 hL85 => ?_)
              refine f_goto rfl ?_
              have mb : mnB m 2 h 2 2 = true := decide_eq_true ⟨e1, e2⟩
              have e9 : mn1 m 2 h 2 2 c = c + 1 := (if_pos (by omega)).trans (by rw [mb]; rfl)
              rw [e9] at hG
              exact hI3 hc25 _ _ hw25 hm25 hG (hL85.sel [0, 1, 2, 3, 4, 5, 6, 7, 8] rfl)
      have hI1 : ∀ (hc : ev_H) (c : Int) (L : ev_L), y_in yGw hc → gi hc = m → mn1 m 2 h 4 4 (mn1 m 2 h 3 3 (mn1 m 2 h 2 2 (mn1 m 2 h 1 1 (c)))) = mn m 2 h → f_L L [(8, fi (1)), (7, fi (c)), (6, fi (2)), (4, fi (B)), (5, fi (A)), (0, .ref 55), (1, fi (x)), (2, fi (h)), (3, fi (0))] → x_W none (1, 0, 9, 3, 11, 3, 66, 0, 0, ev_t184) 49 L [] hc 0 0 (fun r' h' => r' = some (fi (lm0_2 m x h A B)) ∧ y_in yGw h' ∧ gi h' = m) := fun hc c L hw hm hG hL => by
        refine f_il 0 rfl hL rfl ?_
        refine f_aln 5 rfl hL rfl ?_
        refine m_gfi so55 (m 55 1) rfl hw hm rfl rfl ?_
        refine f_ic rfl (by decide) (by omega) (fun ci => ?_) (fun ci => ?_)
        · have ci : (m 55 1 : Int) ≤ (1 : Int) := ci
          have e8 : mn1 m 2 h 4 4 (mn1 m 2 h 3 3 (mn1 m 2 h 2 2 (mn1 m 2 h 1 1 (c)))) = c := by unfold mn1; rw [if_neg (by omega), if_neg (by omega), if_neg (by omega), if_neg (by omega)]
          rw [e8] at hG
          rw [hG] at hL
          exact hE hc 1 _ hw hm (hL.sel [0, 1, 2, 3, 4, 5, 6, 7, 8] rfl)
        · have ci : ¬ ((m 55 1 : Int) ≤ (1 : Int)) := ci
          refine f_il 1 rfl hL rfl ?_
          refine f_aln 5 rfl hL rfl ?_
          refine f_s [fi (0), .ref 55, fi (c)] rfl rfl ?_
          refine f_il 0 rfl hL rfl ?_
          refine f_iln 7 rfl hL rfl ?_
          refine m_k1 (t90_0 (p := 1) (h := h) (by decide) (by decide) rh (fv := m 58 1) rfl (hR 58 _) (uv := m 59 1) rfl (hR 59 _)) hw hm rfl rfl rfl (m_ar so55 hw rfl) rfl (fun hc26 hw26 hm26 => ?_)
          refine f_if rfl (bI_r _) (fun e1 => ?_) (fun e1 => ?_)
          · have e1 : (bI (decide (¬ iA (iR (m 61 16) (1)) (1) = 1 ∧ m 58 1 ≤ h ∧ h ≤ m 59 1)) : Int) = (0 : Int) := e1
            have e1 : ¬ (¬ iA (iR (m 61 16) (1)) (1) = 1 ∧ m 58 1 ≤ h ∧ h ≤ m 59 1) := bI_f e1
            refine f_s [fi (0), fi (c)] rfl rfl ?_
            refine f_iadd rfl ?_
            refine f_ist [(7, fi (c + 0)), (8, fi (1)), (6, fi (2)), (4, fi (B)), (5, fi (A)), (0, .ref 55), (1, fi (x)), (2, fi (h)), (3, fi (0))] rfl (by decide) hL rfl (fun L86 hL86 => ?_)
            refine f_inc 1 [(8, fi (2)), (7, fi (c + 0)), (6, fi (2)), (4, fi (B)), (5, fi (A)), (0, .ref 55), (1, fi (x)), (2, fi (h)), (3, fi (0))] rfl (by decide) hL86 rfl rfl (fun L87 hL87 => ?_)
            refine f_goto rfl ?_
            have mb : mnB m 2 h 1 1 = false := decide_eq_false (fun z => e1 z.1)
            have e9 : mn1 m 2 h 1 1 c = c + 0 := (if_pos (by omega)).trans (by rw [mb]; rfl)
            rw [e9] at hG
            exact hI2 hc26 _ _ hw26 hm26 hG (hL87.sel [0, 1, 2, 3, 4, 5, 6, 7, 8] rfl)
          · have e1 : ¬ ((bI (decide (¬ iA (iR (m 61 16) (1)) (1) = 1 ∧ m 58 1 ≤ h ∧ h ≤ m 59 1)) : Int) = (0 : Int)) := e1
            have e1 : ¬ iA (iR (m 61 16) (1)) (1) = 1 ∧ m 58 1 ≤ h ∧ h ≤ m 59 1 := bI_t e1
            refine f_aln 5 rfl hL rfl ?_
            refine m_gfr so55 rfl hw26 rfl (by decide) ?_
            refine f_il 0 rfl hL rfl ?_
            refine m_ia sa60 (m 60 1) rfl hw26 hm26 (by omega) (by omega) (by decide) rfl ?_
            refine f_il 2 rfl hL rfl ?_
            refine m_k1 (t73 (hR 60 1) (by decide)) hw26 hm26 rfl rfl rfl rfl rfl (fun hc27 hw27 hm27 => ?_)
            refine f_if rfl (bI_r _) (fun e2 => ?_) (fun e2 => ?_)
            · have e2 : (bI (decide (iA (iR (m 60 1) (2)) (1) = 1)) : Int) = (0 : Int) := e2
              have e2 : ¬ (iA (iR (m 60 1) (2)) (1) = 1) := bI_f e2
              refine f_s [fi (0), fi (c)] rfl rfl ?_
              refine f_iadd rfl ?_
              refine f_ist [(7, fi (c + 0)), (8, fi (1)), (6, fi (2)), (4, fi (B)), (5, fi (A)), (0, .ref 55), (1, fi (x)), (2, fi (h)), (3, fi (0))] rfl (by decide) hL rfl (fun L88 hL88 => ?_)
              refine f_inc 1 [(8, fi (2)), (7, fi (c + 0)), (6, fi (2)), (4, fi (B)), (5, fi (A)), (0, .ref 55), (1, fi (x)), (2, fi (h)), (3, fi (0))] rfl (by decide) hL88 rfl rfl (fun L89 hL89 => ?_)
              refine f_goto rfl ?_
              have mb : mnB m 2 h 1 1 = false := decide_eq_false (fun z => e2 z.2)
              have e9 : mn1 m 2 h 1 1 c = c + 0 := (if_pos (by omega)).trans (by rw [mb]; rfl)
              rw [e9] at hG
              exact hI2 hc27 _ _ hw27 hm27 hG (hL89.sel [0, 1, 2, 3, 4, 5, 6, 7, 8] rfl)
            · have e2 : ¬ ((bI (decide (iA (iR (m 60 1) (2)) (1) = 1)) : Int) = (0 : Int)) := e2
              have e2 : iA (iR (m 60 1) (2)) (1) = 1 := bI_t e2
              refine f_s [fi (1), fi (c)] rfl rfl ?_
              refine f_goto rfl ?_
              refine f_iadd rfl ?_
              refine f_ist [(7, fi (c + 1)), (8, fi (1)), (6, fi (2)), (4, fi (B)), (5, fi (A)), (0, .ref 55), (1, fi (x)), (2, fi (h)), (3, fi (0))] rfl (by decide) hL rfl (fun L90 hL90 => ?_)
              refine f_inc 1 [(8, fi (2)), (7, fi (c + 1)), (6, fi (2)), (4, fi (B)), (5, fi (A)), (0, .ref 55), (1, fi (x)), (2, fi (h)), (3, fi (0))] rfl (by decide) hL90 rfl rfl (fun L91 hL91 => ?_)
              refine f_goto rfl ?_
              have mb : mnB m 2 h 1 1 = true := decide_eq_true ⟨e1, e2⟩
              have e9 : mn1 m 2 h 1 1 c = c + 1 := (if_pos (by omega)).trans (by rw [mb]; rfl)
              rw [e9] at hG
              exact hI2 hc27 _ _ hw27 hm27 hG (hL91.sel [0, 1, 2, 3, 4, 5, 6, 7, 8] rfl)
      have hI0 : ∀ (hc : ev_H) (c : Int) (L : ev_L), y_in yGw hc → gi hc = m → mn1 m 2 h 4 4 (mn1 m 2 h 3 3 (mn1 m 2 h 2 2 (mn1 m 2 h 1 1 (mn1 m 2 h 0 0 (c))))) = mn m 2 h → f_L L [(8, fi (0)), (7, fi (c)), (6, fi (2)), (4, fi (B)), (5, fi (A)), (0, .ref 55), (1, fi (x)), (2, fi (h)), (3, fi (0))] → x_W none (1, 0, 9, 3, 11, 3, 66, 0, 0, ev_t184) 49 L [] hc 0 0 (fun r' h' => r' = some (fi (lm0_2 m x h A B)) ∧ y_in yGw h' ∧ gi h' = m) := fun hc c L hw hm hG hL => by
        refine f_il 0 rfl hL rfl ?_
        refine f_aln 5 rfl hL rfl ?_
        refine m_gfi so55 (m 55 1) rfl hw hm rfl rfl ?_
        refine f_ic rfl (by decide) (by omega) (fun ci => ?_) (fun ci => ?_)
        · have ci : (m 55 1 : Int) ≤ (0 : Int) := ci
          have e8 : mn1 m 2 h 4 4 (mn1 m 2 h 3 3 (mn1 m 2 h 2 2 (mn1 m 2 h 1 1 (mn1 m 2 h 0 0 (c))))) = c := by unfold mn1; rw [if_neg (by omega), if_neg (by omega), if_neg (by omega), if_neg (by omega), if_neg (by omega)]
          rw [e8] at hG
          rw [hG] at hL
          exact hE hc 0 _ hw hm (hL.sel [0, 1, 2, 3, 4, 5, 6, 7, 8] rfl)
        · have ci : ¬ ((m 55 1 : Int) ≤ (0 : Int)) := ci
          refine f_il 1 rfl hL rfl ?_
          refine f_aln 5 rfl hL rfl ?_
          refine f_s [fi (0), .ref 55, fi (c)] rfl rfl ?_
          refine f_il 0 rfl hL rfl ?_
          refine f_iln 7 rfl hL rfl ?_
          refine m_k1 (t90_0 (p := 0) (h := h) (by decide) (by decide) rh (fv := m 58 0) rfl (hR 58 _) (uv := m 59 0) rfl (hR 59 _)) hw hm rfl rfl rfl (m_ar so55 hw rfl) rfl (fun hc28 hw28 hm28 => ?_)
          refine f_if rfl (bI_r _) (fun e1 => ?_) (fun e1 => ?_)
          · have e1 : (bI (decide (¬ iA (iR (m 61 16) (0)) (1) = 1 ∧ m 58 0 ≤ h ∧ h ≤ m 59 0)) : Int) = (0 : Int) := e1
            have e1 : ¬ (¬ iA (iR (m 61 16) (0)) (1) = 1 ∧ m 58 0 ≤ h ∧ h ≤ m 59 0) := bI_f e1
            refine f_s [fi (0), fi (c)] rfl rfl ?_
            refine f_iadd rfl ?_
            refine f_ist [(7, fi (c + 0)), (8, fi (0)), (6, fi (2)), (4, fi (B)), (5, fi (A)), (0, .ref 55), (1, fi (x)), (2, fi (h)), (3, fi (0))] rfl (by decide) hL rfl (fun L92 hL92 => ?_)
            refine f_inc 1 [(8, fi (1)), (7, fi (c + 0)), (6, fi (2)), (4, fi (B)), (5, fi (A)), (0, .ref 55), (1, fi (x)), (2, fi (h)), (3, fi (0))] rfl (by decide) hL92 rfl rfl (fun L93 hL93 => ?_)
            refine f_goto rfl ?_
            have mb : mnB m 2 h 0 0 = false := decide_eq_false (fun z => e1 z.1)
            have e9 : mn1 m 2 h 0 0 c = c + 0 := (if_pos (by omega)).trans (by rw [mb]; rfl)
            rw [e9] at hG
            exact hI1 hc28 _ _ hw28 hm28 hG (hL93.sel [0, 1, 2, 3, 4, 5, 6, 7, 8] rfl)
          · have e1 : ¬ ((bI (decide (¬ iA (iR (m 61 16) (0)) (1) = 1 ∧ m 58 0 ≤ h ∧ h ≤ m 59 0)) : Int) = (0 : Int)) := e1
            have e1 : ¬ iA (iR (m 61 16) (0)) (1) = 1 ∧ m 58 0 ≤ h ∧ h ≤ m 59 0 := bI_t e1
            refine f_aln 5 rfl hL rfl ?_
            refine m_gfr so55 rfl hw28 rfl (by decide) ?_
            refine f_il 0 rfl hL rfl ?_
            refine m_ia sa60 (m 60 0) rfl hw28 hm28 (by omega) (by omega) (by decide) rfl ?_
            refine f_il 2 rfl hL rfl ?_
            refine m_k1 (t73 (hR 60 0) (by decide)) hw28 hm28 rfl rfl rfl rfl rfl (fun hc29 hw29 hm29 => ?_)
            refine f_if rfl (bI_r _) (fun e2 => ?_) (fun e2 => ?_)
            · have e2 : (bI (decide (iA (iR (m 60 0) (2)) (1) = 1)) : Int) = (0 : Int) := e2
              have e2 : ¬ (iA (iR (m 60 0) (2)) (1) = 1) := bI_f e2
              refine f_s [fi (0), fi (c)] rfl rfl ?_
              refine f_iadd rfl ?_
              refine f_ist [(7, fi (c + 0)), (8, fi (0)), (6, fi (2)), (4, fi (B)), (5, fi (A)), (0, .ref 55), (1, fi (x)), (2, fi (h)), (3, fi (0))] rfl (by decide) hL rfl (fun L94 hL94 => ?_)
              refine f_inc 1 [(8, fi (1)), (7, fi (c + 0)), (6, fi (2)), (4, fi (B)), (5, fi (A)), (0, .ref 55), (1, fi (x)), (2, fi (h)), (3, fi (0))] rfl (by decide) hL94 rfl rfl (fun L95 hL95 => ?_)
              refine f_goto rfl ?_
              have mb : mnB m 2 h 0 0 = false := decide_eq_false (fun z => e2 z.2)
              have e9 : mn1 m 2 h 0 0 c = c + 0 := (if_pos (by omega)).trans (by rw [mb]; rfl)
              rw [e9] at hG
              exact hI1 hc29 _ _ hw29 hm29 hG (hL95.sel [0, 1, 2, 3, 4, 5, 6, 7, 8] rfl)
            · have e2 : ¬ ((bI (decide (iA (iR (m 60 0) (2)) (1) = 1)) : Int) = (0 : Int)) := e2
              have e2 : iA (iR (m 60 0) (2)) (1) = 1 := bI_t e2
              refine f_s [fi (1), fi (c)] rfl rfl ?_
              refine f_goto rfl ?_
              refine f_iadd rfl ?_
              refine f_ist [(7, fi (c + 1)), (8, fi (0)), (6, fi (2)), (4, fi (B)), (5, fi (A)), (0, .ref 55), (1, fi (x)), (2, fi (h)), (3, fi (0))] rfl (by decide) hL rfl (fun L96 hL96 => ?_)
              refine f_inc 1 [(8, fi (1)), (7, fi (c + 1)), (6, fi (2)), (4, fi (B)), (5, fi (A)), (0, .ref 55), (1, fi (x)), (2, fi (h)), (3, fi (0))] rfl (by decide) hL96 rfl rfl (fun L97 hL97 => ?_)
              refine f_goto rfl ?_
              have mb : mnB m 2 h 0 0 = true := decide_eq_true ⟨e1, e2⟩
              have e9 : mn1 m 2 h 0 0 c = c + 1 := (if_pos (by omega)).trans (by rw [mb]; rfl)
              rw [e9] at hG
              exact hI1 hc29 _ _ hw29 hm29 hG (hL97.sel [0, 1, 2, 3, 4, 5, 6, 7, 8] rfl)
      refine f_s [fi (0)] rfl rfl ?_
      refine f_ist [(7, fi (0)), (6, fi (2)), (4, fi (B)), (5, fi (A)), (0, .ref 55), (1, fi (x)), (2, fi (h)), (3, fi (0))] rfl (by decide) hL rfl (fun L98 hL98 => ?_)
      refine f_s [fi (0)] rfl rfl ?_
      refine f_ist [(8, fi (0)), (7, fi (0)), (6, fi (2)), (4, fi (B)), (5, fi (A)), (0, .ref 55), (1, fi (x)), (2, fi (h)), (3, fi (0))] rfl (by decide) hL98 rfl (fun L99 hL99 => ?_)
      exact hI0 hc 0 _ hw hm rfl (hL99.sel [0, 1, 2, 3, 4, 5, 6, 7, 8] rfl)
  have hK1 : ∀ (hc : ev_H) (A B : Int) (L : ev_L), y_in yGw hc → gi hc = m → (A, B) ∈ lS 1 → f_L L [(6, fi (1)), (4, fi (B)), (5, fi (A)), (0, .ref 55), (1, fi (x)), (2, fi (h)), (3, fi (0))] → x_W none (1, 0, 9, 3, 11, 3, 66, 0, 0, ev_t184) 34 L [] hc 0 0 (fun r' h' => r' = some (fi (lm0_1 m x h A B)) ∧ y_in yGw h' ∧ gi h' = m) := fun hc A B L hw hm hAB hL => by
    obtain ⟨o1, o2, o3, o4, o5, o6, o7⟩ := okp_r (lS_at (by decide) hAB)
    refine f_il 0 rfl hL rfl ?_
    refine f_aln 3 rfl hL rfl ?_
    refine m_gfi so55 (m 55 0) rfl hw hm rfl rfl ?_
    refine f_ic rfl (by decide) (by omega) (fun c1 => ?_) (fun c1 => ?_)
    · have c1 : (m 55 0 : Int) ≤ (1 : Int) := c1
      refine f_il 2 rfl hL rfl ?_
      refine f_il 1 rfl hL rfl ?_
      refine f_isub rfl ?_
      refine f_il 2 rfl hL rfl ?_
      refine m_k1 (t168 (a := A - B) (b := A) (g := eG (A - B) A) o3 (by omega) (by omega) (by omega) o1) hw hm rfl rfl rfl rfl rfl (fun hc30 hw30 hm30 => ?_)
      have hg := eu_r 40 (A - B) A _ o3 (by omega) (by omega) (by omega) o1
      refine f_ist [(6, fi (eG (A - B) A)), (4, fi (B)), (5, fi (A)), (0, .ref 55), (1, fi (x)), (2, fi (h)), (3, fi (0))] rfl (by decide) hL rfl (fun L100 hL100 => ?_)
      refine f_iln 6 rfl hL100 rfl ?_
      refine f_if rfl (by decide) (fun _ => ?_) (fun c => absurd (show (0 : Int) = (0 : Int) from (by decide)) c)
      refine f_il 2 rfl hL100 rfl ?_
      refine f_il 0 rfl hL100 rfl ?_
      refine f_idiv rfl (by omega) (by omega) (by omega) (by omega) ?_
      exact f_ret1 rfl ⟨by unfold lm0_1; rw [if_neg (by omega)], hw30, hm30⟩
    · have c1 : ¬ ((m 55 0 : Int) ≤ (1 : Int)) := c1
      have kk : 1 < m 55 0 := by omega
      have hE : ∀ (hc : ev_H) (p : Int) (L : ev_L), y_in yGw hc → gi hc = m → f_L L [(8, fi p), (7, fi (mn m 1 h)), (6, fi (1)), (4, fi (B)), (5, fi (A)), (0, .ref 55), (1, fi (x)), (2, fi (h)), (3, fi (0))] → x_W none (1, 0, 9, 3, 11, 3, 66, 0, 0, ev_t184) 100 L [] hc 0 0 (fun r' h' => r' = some (fi (lm0_1 m x h A B)) ∧ y_in yGw h' ∧ gi h' = m) := fun hc p L hw hm hL => by
        have mr := mn_r m 1 h
        refine f_aln 5 rfl hL rfl ?_
        refine f_s [fi (0), .ref 55] rfl rfl ?_
        refine f_iln 6 rfl hL rfl ?_
        refine f_iln 7 rfl hL rfl ?_
        refine m_k1 (t90_0 (p := x) (h := h) x5.1 x5.2 rh (fv := m 58 x.toNat) rfl (hR 58 _) (uv := m 59 x.toNat) rfl (hR 59 _)) hw hm rfl rfl rfl (m_ar so55 hw rfl) rfl (fun hc31 hw31 hm31 => ?_)
        refine f_if rfl (bI_r _) (fun d1 => ?_) (fun d1 => ?_)
        · have d1 : (bI (decide (¬ iA (iR (m 61 16) (x)) (1) = 1 ∧ m 58 x.toNat ≤ h ∧ h ≤ m 59 x.toNat)) : Int) = (0 : Int) := d1
          have d1 : ¬ (¬ iA (iR (m 61 16) (x)) (1) = 1 ∧ m 58 x.toNat ≤ h ∧ h ≤ m 59 x.toNat) := bI_f d1
          refine f_s [fi (0)] rfl rfl ?_
          refine f_ist [(8, fi (0)), (7, fi (mn m 1 h)), (6, fi (1)), (4, fi (B)), (5, fi (A)), (0, .ref 55), (1, fi (x)), (2, fi (h)), (3, fi (0))] rfl (by decide) hL rfl (fun L101 hL101 => ?_)
          refine f_il 3 rfl hL101 rfl ?_
          refine f_il 0 rfl hL101 rfl ?_
          refine f_if rfl (by decide) (fun _ => ?_) (fun c => absurd (show (0 : Int) = (0 : Int) from (by decide)) c)
          refine f_s [fi (1), fi (B)] rfl rfl ?_
          refine f_imul rfl ?_
          refine f_ist [(4, fi (B * 1)), (8, fi (0)), (7, fi (mn m 1 h)), (6, fi (1)), (5, fi (A)), (0, .ref 55), (1, fi (x)), (2, fi (h)), (3, fi (0))] rfl (by decide) hL101 rfl (fun L102 hL102 => ?_)
          refine f_il 4 rfl hL102 rfl ?_
          refine f_il 1 rfl hL102 rfl ?_
          refine f_if rfl (by decide) (fun _ => ?_) (fun c => absurd (show (0 : Int) = (0 : Int) from (by decide)) c)
          refine f_s [fi (1), fi (A)] rfl rfl ?_
          refine f_imul rfl ?_
          refine f_ist [(5, fi (A * 1)), (4, fi (B * 1)), (8, fi (0)), (7, fi (mn m 1 h)), (6, fi (1)), (0, .ref 55), (1, fi (x)), (2, fi (h)), (3, fi (0))] rfl (by decide) hL102 rfl (fun L103 hL103 => ?_)
          refine f_inc 4 [(6, fi (2)), (5, fi (A * 1)), (4, fi (B * 1)), (8, fi (0)), (7, fi (mn m 1 h)), (0, .ref 55), (1, fi (x)), (2, fi (h)), (3, fi (0))] rfl (by decide) hL103 rfl rfl (fun L104 hL104 => ?_)
          refine f_goto rfl ?_
          have my : myB m 1 h x = false := decide_eq_false (fun z => d1 z.1)
          have e9 : lm0_1 m x h A B = lm0_2 m x h (A * 1) (B * 1) := (if_pos kk).trans ((if_neg (by rw [my]; decide)).trans (by rw [Int.mul_one, Int.mul_one]))
          rw [e9]
          exact hK2 hc31 _ _ _ hw31 hm31 (lS_s hAB (by decide)) (hL104.sel [0, 2, 1, 5, 6, 7, 8] rfl)
        · have d1 : ¬ ((bI (decide (¬ iA (iR (m 61 16) (x)) (1) = 1 ∧ m 58 x.toNat ≤ h ∧ h ≤ m 59 x.toNat)) : Int) = (0 : Int)) := d1
          have d1 : ¬ iA (iR (m 61 16) (x)) (1) = 1 ∧ m 58 x.toNat ≤ h ∧ h ≤ m 59 x.toNat := bI_t d1
          refine f_aln 5 rfl hL rfl ?_
          refine m_gfr so55 rfl hw31 rfl (by decide) ?_
          refine f_iln 6 rfl hL rfl ?_
          refine m_ia sa60 (m 60 (x).toNat) rfl hw31 hm31 (by omega) (by omega) (by decide) rfl ?_
          refine f_il 2 rfl hL rfl ?_
          refine m_k1 (t73 (hR 60 _) (by decide)) hw31 hm31 rfl rfl rfl rfl rfl (fun hc32 hw32 hm32 => ?_)
          refine f_if rfl (bI_r _) (fun d2 => ?_) (fun d2 => ?_)
          · have d2 : (bI (decide (iA (iR (m 60 (x).toNat) (1)) (1) = 1)) : Int) = (0 : Int) := d2
            have d2 : ¬ (iA (iR (m 60 (x).toNat) (1)) (1) = 1) := bI_f d2
            refine f_s [fi (0)] rfl rfl ?_
            refine f_ist [(8, fi (0)), (7, fi (mn m 1 h)), (6, fi (1)), (4, fi (B)), (5, fi (A)), (0, .ref 55), (1, fi (x)), (2, fi (h)), (3, fi (0))] rfl (by decide) hL rfl (fun L105 hL105 => ?_)
            refine f_il 3 rfl hL105 rfl ?_
            refine f_il 0 rfl hL105 rfl ?_
            refine f_if rfl (by decide) (fun _ => ?_) (fun c => absurd (show (0 : Int) = (0 : Int) from (by decide)) c)
            refine f_s [fi (1), fi (B)] rfl rfl ?_
            refine f_imul rfl ?_
            refine f_ist [(4, fi (B * 1)), (8, fi (0)), (7, fi (mn m 1 h)), (6, fi (1)), (5, fi (A)), (0, .ref 55), (1, fi (x)), (2, fi (h)), (3, fi (0))] rfl (by decide) hL105 rfl (fun L106 hL106 => ?_)
            refine f_il 4 rfl hL106 rfl ?_
            refine f_il 1 rfl hL106 rfl ?_
            refine f_if rfl (by decide) (fun _ => ?_) (fun c => absurd (show (0 : Int) = (0 : Int) from (by decide)) c)
            refine f_s [fi (1), fi (A)] rfl rfl ?_
            refine f_imul rfl ?_
            refine f_ist [(5, fi (A * 1)), (4, fi (B * 1)), (8, fi (0)), (7, fi (mn m 1 h)), (6, fi (1)), (0, .ref 55), (1, fi (x)), (2, fi (h)), (3, fi (0))] rfl (by decide) hL106 rfl (fun L107 hL107 => ?_)
            refine f_inc 4 [(6, fi (2)), (5, fi (A * 1)), (4, fi (B * 1)), (8, fi (0)), (7, fi (mn m 1 h)), (0, .ref 55), (1, fi (x)), (2, fi (h)), (3, fi (0))] rfl (by decide) hL107 rfl rfl (fun L108 hL108 => ?_)
            refine f_goto rfl ?_
            have my : myB m 1 h x = false := decide_eq_false (fun z => d2 z.2.1)
            have e9 : lm0_1 m x h A B = lm0_2 m x h (A * 1) (B * 1) := (if_pos kk).trans ((if_neg (by rw [my]; decide)).trans (by rw [Int.mul_one, Int.mul_one]))
            rw [e9]
            exact hK2 hc32 _ _ _ hw32 hm32 (lS_s hAB (by decide)) (hL108.sel [0, 2, 1, 5, 6, 7, 8] rfl)
          · have d2 : ¬ ((bI (decide (iA (iR (m 60 (x).toNat) (1)) (1) = 1)) : Int) = (0 : Int)) := d2
            have d2 : iA (iR (m 60 (x).toNat) (1)) (1) = 1 := bI_t d2
            refine f_aln 5 rfl hL rfl ?_
            refine m_gfr so55 rfl hw32 rfl (by decide) ?_
            refine f_bipush (n := 15) rfl (by decide) ?_
            refine m_ia sa61 (m 61 15) rfl hw32 hm32 (by omega) (by omega) (by decide) rfl ?_
            refine f_il 2 rfl hL rfl ?_
            refine m_k1 (t73 (hR 61 15) (by decide)) hw32 hm32 rfl rfl rfl rfl rfl (fun hc33 hw33 hm33 => ?_)
            refine f_if rfl (bI_r _) (fun d3 => ?_) (fun d3 => ?_)
            · have d3 : ¬ (bI (decide (iA (iR (m 61 15) (1)) (1) = 1)) : Int) = (0 : Int) := d3
              have d3 : iA (iR (m 61 15) (1)) (1) = 1 := bI_t d3
              refine f_s [fi (0)] rfl rfl ?_
              refine f_ist [(8, fi (0)), (7, fi (mn m 1 h)), (6, fi (1)), (4, fi (B)), (5, fi (A)), (0, .ref 55), (1, fi (x)), (2, fi (h)), (3, fi (0))] rfl (by decide) hL rfl (fun L109 hL109 => ?_)
              refine f_il 3 rfl hL109 rfl ?_
              refine f_il 0 rfl hL109 rfl ?_
              refine f_if rfl (by decide) (fun _ => ?_) (fun c => absurd (show (0 : Int) = (0 : Int) from (by decide)) c)
              refine f_s [fi (1), fi (B)] rfl rfl ?_
              refine f_imul rfl ?_
              refine f_ist [(4, fi (B * 1)), (8, fi (0)), (7, fi (mn m 1 h)), (6, fi (1)), (5, fi (A)), (0, .ref 55), (1, fi (x)), (2, fi (h)), (3, fi (0))] rfl (by decide) hL109 rfl (fun L110 hL110 => ?_)
              refine f_il 4 rfl hL110 rfl ?_
              refine f_il 1 rfl hL110 rfl ?_
              refine f_if rfl (by decide) (fun _ => ?_) (fun c => absurd (show (0 : Int) = (0 : Int) from (by decide)) c)
              refine f_s [fi (1), fi (A)] rfl rfl ?_
              refine f_imul rfl ?_
              refine f_ist [(5, fi (A * 1)), (4, fi (B * 1)), (8, fi (0)), (7, fi (mn m 1 h)), (6, fi (1)), (0, .ref 55), (1, fi (x)), (2, fi (h)), (3, fi (0))] rfl (by decide) hL110 rfl (fun L111 hL111 => ?_)
              refine f_inc 4 [(6, fi (2)), (5, fi (A * 1)), (4, fi (B * 1)), (8, fi (0)), (7, fi (mn m 1 h)), (0, .ref 55), (1, fi (x)), (2, fi (h)), (3, fi (0))] rfl (by decide) hL111 rfl rfl (fun L112 hL112 => ?_)
              refine f_goto rfl ?_
              have my : myB m 1 h x = false := decide_eq_false (fun z => z.2.2 d3)
              have e9 : lm0_1 m x h A B = lm0_2 m x h (A * 1) (B * 1) := (if_pos kk).trans ((if_neg (by rw [my]; decide)).trans (by rw [Int.mul_one, Int.mul_one]))
              rw [e9]
              exact hK2 hc33 _ _ _ hw33 hm33 (lS_s hAB (by decide)) (hL112.sel [0, 2, 1, 5, 6, 7, 8] rfl)
            · have d3 : ¬ (¬ (bI (decide (iA (iR (m 61 15) (1)) (1) = 1)) : Int) = (0 : Int)) := d3
              have d3 : ¬ (iA (iR (m 61 15) (1)) (1) = 1) := bI_n d3
              refine f_s [fi (1)] rfl rfl ?_
              refine f_goto rfl ?_
              refine f_ist [(8, fi (1)), (7, fi (mn m 1 h)), (6, fi (1)), (4, fi (B)), (5, fi (A)), (0, .ref 55), (1, fi (x)), (2, fi (h)), (3, fi (0))] rfl (by decide) hL rfl (fun L113 hL113 => ?_)
              refine f_il 3 rfl hL113 rfl ?_
              refine f_il 0 rfl hL113 rfl ?_
              refine f_if rfl (by decide) (fun c => absurd (show (1 : Int) = (0 : Int) from c) (by decide)) (fun _ => ?_)
              refine f_il 1 rfl hL113 rfl ?_
              refine f_s [fi (1), fi (mn m 1 h), fi (B)] rfl rfl ?_
              refine f_isub rfl ?_
              refine f_goto rfl ?_
              refine f_imul rfl ?_
              refine f_ist [(4, fi (B * ((mn m 1 h) - 1))), (8, fi (1)), (7, fi (mn m 1 h)), (6, fi (1)), (5, fi (A)), (0, .ref 55), (1, fi (x)), (2, fi (h)), (3, fi (0))] rfl (by decide) hL113 rfl (fun L114 hL114 => ?_)
              refine f_il 4 rfl hL114 rfl ?_
              refine f_il 1 rfl hL114 rfl ?_
              refine f_if rfl (by decide) (fun c => absurd (show (1 : Int) = (0 : Int) from c) (by decide)) (fun _ => ?_)
              refine f_il 2 rfl hL114 rfl ?_
              refine f_goto rfl ?_
              refine f_imul rfl ?_
              refine f_ist [(5, fi (A * (mn m 1 h))), (4, fi (B * ((mn m 1 h) - 1))), (8, fi (1)), (7, fi (mn m 1 h)), (6, fi (1)), (0, .ref 55), (1, fi (x)), (2, fi (h)), (3, fi (0))] rfl (by decide) hL114 rfl (fun L115 hL115 => ?_)
              refine f_inc 4 [(6, fi (2)), (5, fi (A * (mn m 1 h))), (4, fi (B * ((mn m 1 h) - 1))), (8, fi (1)), (7, fi (mn m 1 h)), (0, .ref 55), (1, fi (x)), (2, fi (h)), (3, fi (0))] rfl (by decide) hL115 rfl rfl (fun L116 hL116 => ?_)
              refine f_goto rfl ?_
              have my : myB m 1 h x = true := decide_eq_true ⟨d1, d2, d3⟩
              have e9 : lm0_1 m x h A B = lm0_2 m x h (A * mn m 1 h) (B * (mn m 1 h - 1)) := (if_pos kk).trans (if_pos my)
              rw [e9]
              exact hK2 hc33 _ _ _ hw33 hm33 (lS_s hAB (lQ_c (mn_1 1 (by decide) ⟨by decide, kk⟩ my) mr.2)) (hL116.sel [0, 2, 1, 5, 6, 7, 8] rfl)
      have hI5 : ∀ (hc : ev_H) (c : Int) (L : ev_L), y_in yGw hc → gi hc = m → c = mn m 1 h → f_L L [(8, fi (5)), (7, fi (c)), (6, fi (1)), (4, fi (B)), (5, fi (A)), (0, .ref 55), (1, fi (x)), (2, fi (h)), (3, fi (0))] → x_W none (1, 0, 9, 3, 11, 3, 66, 0, 0, ev_t184) 49 L [] hc 0 0 (fun r' h' => r' = some (fi (lm0_1 m x h A B)) ∧ y_in yGw h' ∧ gi h' = m) := fun hc c L hw hm hG hL => by
        refine f_il 0 rfl hL rfl ?_
        refine f_aln 5 rfl hL rfl ?_
        refine m_gfi so55 (m 55 1) rfl hw hm rfl rfl ?_
        refine f_ic rfl (by decide) (by omega) (fun _ => ?_) (fun c => absurd (show (m 55 1 : Int) ≤ (5 : Int) from (by omega)) c)
        rw [hG] at hL
        exact hE hc 5 _ hw hm (hL.sel [0, 1, 2, 3, 4, 5, 6, 7, 8] rfl)
      have hI4 : ∀ (hc : ev_H) (c : Int) (L : ev_L), y_in yGw hc → gi hc = m → mn1 m 1 h 4 4 (c) = mn m 1 h → f_L L [(8, fi (4)), (7, fi (c)), (6, fi (1)), (4, fi (B)), (5, fi (A)), (0, .ref 55), (1, fi (x)), (2, fi (h)), (3, fi (0))] → x_W none (1, 0, 9, 3, 11, 3, 66, 0, 0, ev_t184) 49 L [] hc 0 0 (fun r' h' => r' = some (fi (lm0_1 m x h A B)) ∧ y_in yGw h' ∧ gi h' = m) := fun hc c L hw hm hG hL => by
        refine f_il 0 rfl hL rfl ?_
        refine f_aln 5 rfl hL rfl ?_
        refine m_gfi so55 (m 55 1) rfl hw hm rfl rfl ?_
        refine f_ic rfl (by decide) (by omega) (fun ci => ?_) (fun ci => ?_)
        · have ci : (m 55 1 : Int) ≤ (4 : Int) := ci
          have e8 : mn1 m 1 h 4 4 (c) = c := by unfold mn1; rw [if_neg (by omega)]
          rw [e8] at hG
          rw [hG] at hL
          exact hE hc 4 _ hw hm (hL.sel [0, 1, 2, 3, 4, 5, 6, 7, 8] rfl)
        · have ci : ¬ ((m 55 1 : Int) ≤ (4 : Int)) := ci
          refine f_il 1 rfl hL rfl ?_
          refine f_aln 5 rfl hL rfl ?_
          refine f_s [fi (0), .ref 55, fi (c)] rfl rfl ?_
          refine f_il 0 rfl hL rfl ?_
          refine f_iln 7 rfl hL rfl ?_
          refine m_k1 (t90_0 (p := 4) (h := h) (by decide) (by decide) rh (fv := m 58 4) rfl (hR 58 _) (uv := m 59 4) rfl (hR 59 _)) hw hm rfl rfl rfl (m_ar so55 hw rfl) rfl (fun hc34 hw34 hm34 => ?_)
          refine f_if rfl (bI_r _) (fun e1 => ?_) (fun e1 => ?_)
          · have e1 : (bI (decide (¬ iA (iR (m 61 16) (4)) (1) = 1 ∧ m 58 4 ≤ h ∧ h ≤ m 59 4)) : Int) = (0 : Int) := e1
            have e1 : ¬ (¬ iA (iR (m 61 16) (4)) (1) = 1 ∧ m 58 4 ≤ h ∧ h ≤ m 59 4) := bI_f e1
            refine f_s [fi (0), fi (c)] rfl rfl ?_
            refine f_iadd rfl ?_
            refine f_ist [(7, fi (c + 0)), (8, fi (4)), (6, fi (1)), (4, fi (B)), (5, fi (A)), (0, .ref 55), (1, fi (x)), (2, fi (h)), (3, fi (0))] rfl (by decide) hL rfl (fun L117 hL117 => ?_)
            refine f_inc 1 [(8, fi (5)), (7, fi (c + 0)), (6, fi (1)), (4, fi (B)), (5, fi (A)), (0, .ref 55), (1, fi (x)), (2, fi (h)), (3, fi (0))] rfl (by decide) hL117 rfl rfl (fun L118 hL118 => ?_)
            refine f_goto rfl ?_
            have mb : mnB m 1 h 4 4 = false := decide_eq_false (fun z => e1 z.1)
            have e9 : mn1 m 1 h 4 4 c = c + 0 := (if_pos (by omega)).trans (by rw [mb]; rfl)
            rw [e9] at hG
            exact hI5 hc34 _ _ hw34 hm34 hG (hL118.sel [0, 1, 2, 3, 4, 5, 6, 7, 8] rfl)
          · have e1 : ¬ ((bI (decide (¬ iA (iR (m 61 16) (4)) (1) = 1 ∧ m 58 4 ≤ h ∧ h ≤ m 59 4)) : Int) = (0 : Int)) := e1
            have e1 : ¬ iA (iR (m 61 16) (4)) (1) = 1 ∧ m 58 4 ≤ h ∧ h ≤ m 59 4 := bI_t e1
            refine f_aln 5 rfl hL rfl ?_
            refine m_gfr so55 rfl hw34 rfl (by decide) ?_
            refine f_il 0 rfl hL rfl ?_
            refine m_ia sa60 (m 60 4) rfl hw34 hm34 (by omega) (by omega) (by decide) rfl ?_
            refine f_il 2 rfl hL rfl ?_
            refine m_k1 (t73 (hR 60 4) (by decide)) hw34 hm34 rfl rfl rfl rfl rfl (fun hc35 hw35 hm35 => ?_)
            refine f_if rfl (bI_r _) (fun e2 => ?_) (fun e2 => ?_)
            · have e2 : (bI (decide (iA (iR (m 60 4) (1)) (1) = 1)) : Int) = (0 : Int) := e2
              have e2 : ¬ (iA (iR (m 60 4) (1)) (1) = 1) := bI_f e2
              refine f_s [fi (0), fi (c)] rfl rfl ?_
              refine f_iadd rfl ?_
              refine f_ist [(7, fi (c + 0)), (8, fi (4)), (6, fi (1)), (4, fi (B)), (5, fi (A)), (0, .ref 55), (1, fi (x)), (2, fi (h)), (3, fi (0))] rfl (by decide) hL rfl (fun L119 hL119 => ?_)
              refine f_inc 1 [(8, fi (5)), (7, fi (c + 0)), (6, fi (1)), (4, fi (B)), (5, fi (A)), (0, .ref 55), (1, fi (x)), (2, fi (h)), (3, fi (0))] rfl (by decide) hL119 rfl rfl (fun L120 hL120 => ?_)
              refine f_goto rfl ?_
              have mb : mnB m 1 h 4 4 = false := decide_eq_false (fun z => e2 z.2)
              have e9 : mn1 m 1 h 4 4 c = c + 0 := (if_pos (by omega)).trans (by rw [mb]; rfl)
              rw [e9] at hG
              exact hI5 hc35 _ _ hw35 hm35 hG (hL120.sel [0, 1, 2, 3, 4, 5, 6, 7, 8] rfl)
            · have e2 : ¬ ((bI (decide (iA (iR (m 60 4) (1)) (1) = 1)) : Int) = (0 : Int)) := e2
              have e2 : iA (iR (m 60 4) (1)) (1) = 1 := bI_t e2
              refine f_s [fi (1), fi (c)] rfl rfl ?_
              refine f_goto rfl ?_
              refine f_iadd rfl ?_
              refine f_ist [(7, fi (c + 1)), (8, fi (4)), (6, fi (1)), (4, fi (B)), (5, fi (A)), (0, .ref 55), (1, fi (x)), (2, fi (h)), (3, fi (0))] rfl (by decide) hL rfl (fun L121 hL121 => ?_)
              refine f_inc 1 [(8, fi (5)), (7, fi (c + 1)), (6, fi (1)), (4, fi (B)), (5, fi (A)), (0, .ref 55), (1, fi (x)), (2, fi (h)), (3, fi (0))] rfl (by decide) hL121 rfl rfl (fun L122 hL122 => ?_)
              refine f_goto rfl ?_
              have mb : mnB m 1 h 4 4 = true := decide_eq_true ⟨e1, e2⟩
              have e9 : mn1 m 1 h 4 4 c = c + 1 := (if_pos (by omega)).trans (by rw [mb]; rfl)
              rw [e9] at hG
              exact hI5 hc35 _ _ hw35 hm35 hG (hL122.sel [0, 1, 2, 3, 4, 5, 6, 7, 8] rfl)
      have hI3 : ∀ (hc : ev_H) (c : Int) (L : ev_L), y_in yGw hc → gi hc = m → mn1 m 1 h 4 4 (mn1 m 1 h 3 3 (c)) = mn m 1 h → f_L L [(8, fi (3)), (7, fi (c)), (6, fi (1)), (4, fi (B)), (5, fi (A)), (0, .ref 55), (1, fi (x)), (2, fi (h)), (3, fi (0))] → x_W none (1, 0, 9, 3, 11, 3, 66, 0, 0, ev_t184) 49 L [] hc 0 0 (fun r' h' => r' = some (fi (lm0_1 m x h A B)) ∧ y_in yGw h' ∧ gi h' = m) := fun hc c L hw hm hG hL => by
        refine f_il 0 rfl hL rfl ?_
        refine f_aln 5 rfl hL rfl ?_
        refine m_gfi so55 (m 55 1) rfl hw hm rfl rfl ?_
        refine f_ic rfl (by decide) (by omega) (fun ci => ?_) (fun ci => ?_)
        · have ci : (m 55 1 : Int) ≤ (3 : Int) := ci
          have e8 : mn1 m 1 h 4 4 (mn1 m 1 h 3 3 (c)) = c := by unfold mn1; rw [if_neg (by omega), if_neg (by omega)]
          rw [e8] at hG
          rw [hG] at hL
          exact hE hc 3 _ hw hm (hL.sel [0, 1, 2, 3, 4, 5, 6, 7, 8] rfl)
        · have ci : ¬ ((m 55 1 : Int) ≤ (3 : Int)) := ci
          refine f_il 1 rfl hL rfl ?_
          refine f_aln 5 rfl hL rfl ?_
          refine f_s [fi (0), .ref 55, fi (c)] rfl rfl ?_
          refine f_il 0 rfl hL rfl ?_
          refine f_iln 7 rfl hL rfl ?_
          refine m_k1 (t90_0 (p := 3) (h := h) (by decide) (by decide) rh (fv := m 58 3) rfl (hR 58 _) (uv := m 59 3) rfl (hR 59 _)) hw hm rfl rfl rfl (m_ar so55 hw rfl) rfl (fun hc36 hw36 hm36 => ?_)
          refine f_if rfl (bI_r _) (fun e1 => ?_) (fun e1 => ?_)
          · have e1 : (bI (decide (¬ iA (iR (m 61 16) (3)) (1) = 1 ∧ m 58 3 ≤ h ∧ h ≤ m 59 3)) : Int) = (0 : Int) := e1
            have e1 : ¬ (¬ iA (iR (m 61 16) (3)) (1) = 1 ∧ m 58 3 ≤ h ∧ h ≤ m 59 3) := bI_f e1
            refine f_s [fi (0), fi (c)] rfl rfl ?_
            refine f_iadd rfl ?_
            refine f_ist [(7, fi (c + 0)), (8, fi (3)), (6, fi (1)), (4, fi (B)), (5, fi (A)), (0, .ref 55), (1, fi (x)), (2, fi (h)), (3, fi (0))] rfl (by decide) hL rfl (fun L123 hL123 => ?_)
            refine f_inc 1 [(8, fi (4)), (7, fi (c + 0)), (6, fi (1)), (4, fi (B)), (5, fi (A)), (0, .ref 55), (1, fi (x)), (2, fi (h)), (3, fi (0))] rfl (by decide) hL123 rfl rfl (fun L124 hL124 => ?_)
            refine f_goto rfl ?_
            have mb : mnB m 1 h 3 3 = false := decide_eq_false (fun z => e1 z.1)
            have e9 : mn1 m 1 h 3 3 c = c + 0 := (if_pos (by omega)).trans (by rw [mb]; rfl)
            rw [e9] at hG
            exact hI4 hc36 _ _ hw36 hm36 hG (hL124.sel [0, 1, 2, 3, 4, 5, 6, 7, 8] rfl)
          · have e1 : ¬ ((bI (decide (¬ iA (iR (m 61 16) (3)) (1) = 1 ∧ m 58 3 ≤ h ∧ h ≤ m 59 3)) : Int) = (0 : Int)) := e1
            have e1 : ¬ iA (iR (m 61 16) (3)) (1) = 1 ∧ m 58 3 ≤ h ∧ h ≤ m 59 3 := bI_t e1
            refine f_aln 5 rfl hL rfl ?_
            refine m_gfr so55 rfl hw36 rfl (by decide) ?_
            refine f_il 0 rfl hL rfl ?_
            refine m_ia sa60 (m 60 3) rfl hw36 hm36 (by omega) (by omega) (by decide) rfl ?_
            refine f_il 2 rfl hL rfl ?_
            refine m_k1 (t73 (hR 60 3) (by decide)) hw36 hm36 rfl rfl rfl rfl rfl (fun hc37 hw37 hm37 => ?_)
            refine f_if rfl (bI_r _) (fun e2 => ?_) (fun e2 => ?_)
            · have e2 : (bI (decide (iA (iR (m 60 3) (1)) (1) = 1)) : Int) = (0 : Int) := e2
              have e2 : ¬ (iA (iR (m 60 3) (1)) (1) = 1) := bI_f e2
              refine f_s [fi (0), fi (c)] rfl rfl ?_
              refine f_iadd rfl ?_
              refine f_ist [(7, fi (c + 0)), (8, fi (3)), (6, fi (1)), (4, fi (B)), (5, fi (A)), (0, .ref 55), (1, fi (x)), (2, fi (h)), (3, fi (0))] rfl (by decide) hL rfl (fun L125 hL125 => ?_)
              refine f_inc 1 [(8, fi (4)), (7, fi (c + 0)), (6, fi (1)), (4, fi (B)), (5, fi (A)), (0, .ref 55), (1, fi (x)), (2, fi (h)), (3, fi (0))] rfl (by decide) hL125 rfl rfl (fun L126 hL126 => ?_)
              refine f_goto rfl ?_
              have mb : mnB m 1 h 3 3 = false := decide_eq_false (fun z => e2 z.2)
              have e9 : mn1 m 1 h 3 3 c = c + 0 := (if_pos (by omega)).trans (by rw [mb]; rfl)
              rw [e9] at hG
              exact hI4 hc37 _ _ hw37 hm37 hG (hL126.sel [0, 1, 2, 3, 4, 5, 6, 7, 8] rfl)
            · have e2 : ¬ ((bI (decide (iA (iR (m 60 3) (1)) (1) = 1)) : Int) = (0 : Int)) := e2
              have e2 : iA (iR (m 60 3) (1)) (1) = 1 := bI_t e2
              refine f_s [fi (1), fi (c)] rfl rfl ?_
              refine f_goto rfl ?_
              refine f_iadd rfl ?_
              refine f_ist [(7, fi (c + 1)), (8, fi (3)), (6, fi (1)), (4, fi (B)), (5, fi (A)), (0, .ref 55), (1, fi (x)), (2, fi (h)), (3, fi (0))] rfl (by decide) hL rfl (fun L127 hL127 => ?_)
              refine f_inc 1 [(8, fi (4)), (7, fi (c + 1)), (6, fi (1)), (4, fi (B)), (5, fi (A)), (0, .ref 55), (1, fi (x)), (2, fi (h)), (3, fi (0))] rfl (by decide) hL127 rfl rfl (fun L128 hL128 => ?_)
              refine f_goto rfl ?_
              have mb : mnB m 1 h 3 3 = true := decide_eq_true ⟨e1, e2⟩
              have e9 : mn1 m 1 h 3 3 c = c + 1 := (if_pos (by omega)).trans (by rw [mb]; rfl)
              rw [e9] at hG
              exact hI4 hc37 _ _ hw37 hm37 hG (hL128.sel [0, 1, 2, 3, 4, 5, 6, 7, 8] rfl)
      have hI2 : ∀ (hc : ev_H) (c : Int) (L : ev_L), y_in yGw hc → gi hc = m → mn1 m 1 h 4 4 (mn1 m 1 h 3 3 (mn1 m 1 h 2 2 (c))) = mn m 1 h → f_L L [(8, fi (2)), (7, fi (c)), (6, fi (1)), (4, fi (B)), (5, fi (A)), (0, .ref 55), (1, fi (x)), (2, fi (h)), (3, fi (0))] → x_W none (1, 0, 9, 3, 11, 3, 66, 0, 0, ev_t184) 49 L [] hc 0 0 (fun r' h' => r' = some (fi (lm0_1 m x h A B)) ∧ y_in yGw h' ∧ gi h' = m) := fun hc c L hw hm hG hL => by
        refine f_il 0 rfl hL rfl ?_
        refine f_aln 5 rfl hL rfl ?_
        refine m_gfi so55 (m 55 1) rfl hw hm rfl rfl ?_
        refine f_ic rfl (by decide) (by omega) (fun ci => ?_) (fun ci => ?_)
        · have ci : (m 55 1 : Int) ≤ (2 : Int) := ci
          have e8 : mn1 m 1 h 4 4 (mn1 m 1 h 3 3 (mn1 m 1 h 2 2 (c))) = c := by unfold mn1; rw [if_neg (by omega), if_neg (by omega), if_neg (by omega)]
          rw [e8] at hG
          rw [hG] at hL
          exact hE hc 2 _ hw hm (hL.sel [0, 1, 2, 3, 4, 5, 6, 7, 8] rfl)
        · have ci : ¬ ((m 55 1 : Int) ≤ (2 : Int)) := ci
          refine f_il 1 rfl hL rfl ?_
          refine f_aln 5 rfl hL rfl ?_
          refine f_s [fi (0), .ref 55, fi (c)] rfl rfl ?_
          refine f_il 0 rfl hL rfl ?_
          refine f_iln 7 rfl hL rfl ?_
          refine m_k1 (t90_0 (p := 2) (h := h) (by decide) (by decide) rh (fv := m 58 2) rfl (hR 58 _) (uv := m 59 2) rfl (hR 59 _)) hw hm rfl rfl rfl (m_ar so55 hw rfl) rfl (fun hc38 hw38 hm38 => ?_)
          refine f_if rfl (bI_r _) (fun e1 => ?_) (fun e1 => ?_)
          · have e1 : (bI (decide (¬ iA (iR (m 61 16) (2)) (1) = 1 ∧ m 58 2 ≤ h ∧ h ≤ m 59 2)) : Int) = (0 : Int) := e1
            have e1 : ¬ (¬ iA (iR (m 61 16) (2)) (1) = 1 ∧ m 58 2 ≤ h ∧ h ≤ m 59 2) := bI_f e1
            refine f_s [fi (0), fi (c)] rfl rfl ?_
            refine f_iadd rfl ?_
            refine f_ist [(7, fi (c + 0)), (8, fi (2)), (6, fi (1)), (4, fi (B)), (5, fi (A)), (0, .ref 55), (1, fi (x)), (2, fi (h)), (3, fi (0))] rfl (by decide) hL rfl (fun L129 hL129 => ?_)
            refine f_inc 1 [(8, fi (3)), (7, fi (c + 0)), (6, fi (1)), (4, fi (B)), (5, fi (A)), (0, .ref 55), (1, fi (x)), (2, fi (h)), (3, fi (0))] rfl (by decide) hL129 rfl rfl (fun L130 hL130 => ?_)
            refine f_goto rfl ?_
            have mb : mnB m 1 h 2 2 = false := decide_eq_false (fun z => e1 z.1)
            have e9 : mn1 m 1 h 2 2 c = c + 0 := (if_pos (by omega)).trans (by rw [mb]; rfl)
            rw [e9] at hG
            exact hI3 hc38 _ _ hw38 hm38 hG (hL130.sel [0, 1, 2, 3, 4, 5, 6, 7, 8] rfl)
          · have e1 : ¬ ((bI (decide (¬ iA (iR (m 61 16) (2)) (1) = 1 ∧ m 58 2 ≤ h ∧ h ≤ m 59 2)) : Int) = (0 : Int)) := e1
            have e1 : ¬ iA (iR (m 61 16) (2)) (1) = 1 ∧ m 58 2 ≤ h ∧ h ≤ m 59 2 := bI_t e1
            refine f_aln 5 rfl hL rfl ?_
            refine m_gfr so55 rfl hw38 rfl (by decide) ?_
            refine f_il 0 rfl hL rfl ?_
            refine m_ia sa60 (m 60 2) rfl hw38 hm38 (by omega) (by omega) (by decide) rfl ?_
            refine f_il 2 rfl hL rfl ?_
            refine m_k1 (t73 (hR 60 2) (by decide)) hw38 hm38 rfl rfl rfl rfl rfl (fun hc39 hw39 hm39 => ?_)
            refine f_if rfl (bI_r _) (fun e2 => ?_) (fun e2 => ?_)
            · have e2 : (bI (decide (iA (iR (m 60 2) (1)) (1) = 1)) : Int) = (0 : Int) := e2
              have e2 : ¬ (iA (iR (m 60 2) (1)) (1) = 1) := bI_f e2
              refine f_s [fi (0), fi (c)] rfl rfl ?_
              refine f_iadd rfl ?_
              refine f_ist [(7, fi (c + 0)), (8, fi (2)), (6, fi (1)), (4, fi (B)), (5, fi (A)), (0, .ref 55), (1, fi (x)), (2, fi (h)), (3, fi (0))] rfl (by decide) hL rfl (fun L131 hL131 => ?_)
              refine f_inc 1 [(8, fi (3)), (7, fi (c + 0)), (6, fi (1)), (4, fi (B)), (5, fi (A)), (0, .ref 55), (1, fi (x)), (2, fi (h)), (3, fi (0))] rfl (by decide) hL131 rfl rfl (fun L132 hL132 => ?_)
              refine f_goto rfl ?_
              have mb : mnB m 1 h 2 2 = false := decide_eq_false (fun z => e2 z.2)
              have e9 : mn1 m 1 h 2 2 c = c + 0 := (if_pos (by omega)).trans (by rw [mb]; rfl)
              rw [e9] at hG
              exact hI3 hc39 _ _ hw39 hm39 hG (hL132.sel [0, 1, 2, 3, 4, 5, 6, 7, 8] rfl)
            · have e2 : ¬ ((bI (decide (iA (iR (m 60 2) (1)) (1) = 1)) : Int) = (0 : Int)) := e2
              have e2 : iA (iR (m 60 2) (1)) (1) = 1 := bI_t e2
              refine f_s [fi (1), fi (c)] rfl rfl ?_
              refine f_goto rfl ?_
              refine f_iadd rfl ?_
              refine f_ist [(7, fi (c + 1)), (8, fi (2)), (6, fi (1)), (4, fi (B)), (5, fi (A)), (0, .ref 55), (1, fi (x)), (2, fi (h)), (3, fi (0))] rfl (by decide) hL rfl (fun L133 hL133 => ?_)
              refine f_inc 1 [(8, fi (3)), (7, fi (c + 1)), (6, fi (1)), (4, fi (B)), (5, fi (A)), (0, .ref 55), (1, fi (x)), (2, fi (h)), (3, fi (0))] rfl (by decide) hL133 rfl rfl (fun L134 hL134 => ?_)
              refine f_goto rfl ?_
              have mb : mnB m 1 h 2 2 = true := decide_eq_true ⟨e1, e2⟩
              have e9 : mn1 m 1 h 2 2 c = c + 1 := (if_pos (by omega)).trans (by rw [mb]; rfl)
              rw [e9] at hG
              exact hI3 hc39 _ _ hw39 hm39 hG (hL134.sel [0, 1, 2, 3, 4, 5, 6, 7, 8] rfl)
      have hI1 : ∀ (hc : ev_H) (c : Int) (L : ev_L), y_in yGw hc → gi hc = m → mn1 m 1 h 4 4 (mn1 m 1 h 3 3 (mn1 m 1 h 2 2 (mn1 m 1 h 1 1 (c)))) = mn m 1 h → f_L L [(8, fi (1)), (7, fi (c)), (6, fi (1)), (4, fi (B)), (5, fi (A)), (0, .ref 55), (1, fi (x)), (2, fi (h)), (3, fi (0))] → x_W none (1, 0, 9, 3, 11, 3, 66, 0, 0, ev_t184) 49 L [] hc 0 0 (fun r' h' => r' = some (fi (lm0_1 m x h A B)) ∧ y_in yGw h' ∧ gi h' = m) := fun hc c L hw hm hG hL => by
        refine f_il 0 rfl hL rfl ?_
        refine f_aln 5 rfl hL rfl ?_
        refine m_gfi so55 (m 55 1) rfl hw hm rfl rfl ?_
        refine f_ic rfl (by decide) (by omega) (fun ci => ?_) (fun ci => ?_)
        · have ci : (m 55 1 : Int) ≤ (1 : Int) := ci
          have e8 : mn1 m 1 h 4 4 (mn1 m 1 h 3 3 (mn1 m 1 h 2 2 (mn1 m 1 h 1 1 (c)))) = c := by unfold mn1; rw [if_neg (by omega), if_neg (by omega), if_neg (by omega), if_neg (by omega)]
          rw [e8] at hG
          rw [hG] at hL
          exact hE hc 1 _ hw hm (hL.sel [0, 1, 2, 3, 4, 5, 6, 7, 8] rfl)
        · have ci : ¬ ((m 55 1 : Int) ≤ (1 : Int)) := ci
          refine f_il 1 rfl hL rfl ?_
          refine f_aln 5 rfl hL rfl ?_
          refine f_s [fi (0), .ref 55, fi (c)] rfl rfl ?_
          refine f_il 0 rfl hL rfl ?_
          refine f_iln 7 rfl hL rfl ?_
          refine m_k1 (t90_0 (p := 1) (h := h) (by decide) (by decide) rh (fv := m 58 1) rfl (hR 58 _) (uv := m 59 1) rfl (hR 59 _)) hw hm rfl rfl rfl (m_ar so55 hw rfl) rfl (fun hc40 hw40 hm40 => ?_)
          refine f_if rfl (bI_r _) (fun e1 => ?_) (fun e1 => ?_)
          · have e1 : (bI (decide (¬ iA (iR (m 61 16) (1)) (1) = 1 ∧ m 58 1 ≤ h ∧ h ≤ m 59 1)) : Int) = (0 : Int) := e1
            have e1 : ¬ (¬ iA (iR (m 61 16) (1)) (1) = 1 ∧ m 58 1 ≤ h ∧ h ≤ m 59 1) := bI_f e1
            refine f_s [fi (0), fi (c)] rfl rfl ?_
            refine f_iadd rfl ?_
            refine f_ist [(7, fi (c + 0)), (8, fi (1)), (6, fi (1)), (4, fi (B)), (5, fi (A)), (0, .ref 55), (1, fi (x)), (2, fi (h)), (3, fi (0))] rfl (by decide) hL rfl (fun L135 hL135 => ?_)
            refine f_inc 1 [(8, fi (2)), (7, fi (c + 0)), (6, fi (1)), (4, fi (B)), (5, fi (A)), (0, .ref 55), (1, fi (x)), (2, fi (h)), (3, fi (0))] rfl (by decide) hL135 rfl rfl (fun L136 hL136 => ?_)
            refine f_goto rfl ?_
            have mb : mnB m 1 h 1 1 = false := decide_eq_false (fun z => e1 z.1)
            have e9 : mn1 m 1 h 1 1 c = c + 0 := (if_pos (by omega)).trans (by rw [mb]; rfl)
            rw [e9] at hG
            exact hI2 hc40 _ _ hw40 hm40 hG (hL136.sel [0, 1, 2, 3, 4, 5, 6, 7, 8] rfl)
          · have e1 : ¬ ((bI (decide (¬ iA (iR (m 61 16) (1)) (1) = 1 ∧ m 58 1 ≤ h ∧ h ≤ m 59 1)) : Int) = (0 : Int)) := e1
            have e1 : ¬ iA (iR (m 61 16) (1)) (1) = 1 ∧ m 58 1 ≤ h ∧ h ≤ m 59 1 := bI_t e1
            refine f_aln 5 rfl hL rfl ?_
            refine m_gfr so55 rfl hw40 rfl (by decide) ?_
            refine f_il 0 rfl hL rfl ?_
            refine m_ia sa60 (m 60 1) rfl hw40 hm40 (by omega) (by omega) (by decide) rfl ?_
            refine f_il 2 rfl hL rfl ?_
            refine m_k1 (t73 (hR 60 1) (by decide)) hw40 hm40 rfl rfl rfl rfl rfl (fun hc41 hw41 hm41 => ?_)
            refine f_if rfl (bI_r _) (fun e2 => ?_) (fun e2 => ?_)
            · have e2 : (bI (decide (iA (iR (m 60 1) (1)) (1) = 1)) : Int) = (0 : Int) := e2
              have e2 : ¬ (iA (iR (m 60 1) (1)) (1) = 1) := bI_f e2
              refine f_s [fi (0), fi (c)] rfl rfl ?_
              refine f_iadd rfl ?_
              refine f_ist [(7, fi (c + 0)), (8, fi (1)), (6, fi (1)), (4, fi (B)), (5, fi (A)), (0, .ref 55), (1, fi (x)), (2, fi (h)), (3, fi (0))] rfl (by decide) hL rfl (fun L137 hL137 => ?_)
              refine f_inc 1 [(8, fi (2)), (7, fi (c + 0)), (6, fi (1)), (4, fi (B)), (5, fi (A)), (0, .ref 55), (1, fi (x)), (2, fi (h)), (3, fi (0))] rfl (by decide) hL137 rfl rfl (fun L138 hL138 => ?_)
              refine f_goto rfl ?_
              have mb : mnB m 1 h 1 1 = false := decide_eq_false (fun z => e2 z.2)
              have e9 : mn1 m 1 h 1 1 c = c + 0 := (if_pos (by omega)).trans (by rw [mb]; rfl)
              rw [e9] at hG
              exact hI2 hc41 _ _ hw41 hm41 hG (hL138.sel [0, 1, 2, 3, 4, 5, 6, 7, 8] rfl)
            · have e2 : ¬ ((bI (decide (iA (iR (m 60 1) (1)) (1) = 1)) : Int) = (0 : Int)) := e2
              have e2 : iA (iR (m 60 1) (1)) (1) = 1 := bI_t e2
              refine f_s [fi (1), fi (c)] rfl rfl ?_
              refine f_goto rfl ?_
              refine f_iadd rfl ?_
              refine f_ist [(7, fi (c + 1)), (8, fi (1)), (6, fi (1)), (4, fi (B)), (5, fi (A)), (0, .ref 55), (1, fi (x)), (2, fi (h)), (3, fi (0))] rfl (by decide) hL rfl (fun L139 hL139 => ?_)
              refine f_inc 1 [(8, fi (2)), (7, fi (c + 1)), (6, fi (1)), (4, fi (B)), (5, fi (A)), (0, .ref 55), (1, fi (x)), (2, fi (h)), (3, fi (0))] rfl (by decide) hL139 rfl rfl (fun L140 hL140 => ?_)
              refine f_goto rfl ?_
              have mb : mnB m 1 h 1 1 = true := decide_eq_true ⟨e1, e2⟩
              have e9 : mn1 m 1 h 1 1 c = c + 1 := (if_pos (by omega)).trans (by rw [mb]; rfl)
              rw [e9] at hG
              exact hI2 hc41 _ _ hw41 hm41 hG (hL140.sel [0, 1, 2, 3, 4, 5, 6, 7, 8] rfl)
      have hI0 : ∀ (hc : ev_H) (c : Int) (L : ev_L), y_in yGw hc → gi hc = m → mn1 m 1 h 4 4 (mn1 m 1 h 3 3 (mn1 m 1 h 2 2 (mn1 m 1 h 1 1 (mn1 m 1 h 0 0 (c))))) = mn m 1 h → f_L L [(8, fi (0)), (7, fi (c)), (6, fi (1)), (4, fi (B)), (5, fi (A)), (0, .ref 55), (1, fi (x)), (2, fi (h)), (3, fi (0))] → x_W none (1, 0, 9, 3, 11, 3, 66, 0, 0, ev_t184) 49 L [] hc 0 0 (fun r' h' => r' = some (fi (lm0_1 m x h A B)) ∧ y_in yGw h' ∧ gi h' = m) := fun hc c L hw hm hG hL => by
        refine f_il 0 rfl hL rfl ?_
        refine f_aln 5 rfl hL rfl ?_
        refine m_gfi so55 (m 55 1) rfl hw hm rfl rfl ?_
        refine f_ic rfl (by decide) (by omega) (fun ci => ?_) (fun ci => ?_)
        · have ci : (m 55 1 : Int) ≤ (0 : Int) := ci
          have e8 : mn1 m 1 h 4 4 (mn1 m 1 h 3 3 (mn1 m 1 h 2 2 (mn1 m 1 h 1 1 (mn1 m 1 h 0 0 (c))))) = c := by unfold mn1; rw [if_neg (by omega), if_neg (by omega), if_neg (by omega), if_neg (by omega), if_neg (by omega)]
          rw [e8] at hG
          rw [hG] at hL
          exact hE hc 0 _ hw hm (hL.sel [0, 1, 2, 3, 4, 5, 6, 7, 8] rfl)
        · have ci : ¬ ((m 55 1 : Int) ≤ (0 : Int)) := ci
          refine f_il 1 rfl hL rfl ?_
          refine f_aln 5 rfl hL rfl ?_
          refine f_s [fi (0), .ref 55, fi (c)] rfl rfl ?_
          refine f_il 0 rfl hL rfl ?_
          refine f_iln 7 rfl hL rfl ?_
          refine m_k1 (t90_0 (p := 0) (h := h) (by decide) (by decide) rh (fv := m 58 0) rfl (hR 58 _) (uv := m 59 0) rfl (hR 59 _)) hw hm rfl rfl rfl (m_ar so55 hw rfl) rfl (fun hc42 hw42 hm42 => ?_)
          refine f_if rfl (bI_r _) (fun e1 => ?_) (fun e1 => ?_)
          · have e1 : (bI (decide (¬ iA (iR (m 61 16) (0)) (1) = 1 ∧ m 58 0 ≤ h ∧ h ≤ m 59 0)) : Int) = (0 : Int) := e1
            have e1 : ¬ (¬ iA (iR (m 61 16) (0)) (1) = 1 ∧ m 58 0 ≤ h ∧ h ≤ m 59 0) := bI_f e1
            refine f_s [fi (0), fi (c)] rfl rfl ?_
            refine f_iadd rfl ?_
            refine f_ist [(7, fi (c + 0)), (8, fi (0)), (6, fi (1)), (4, fi (B)), (5, fi (A)), (0, .ref 55), (1, fi (x)), (2, fi (h)), (3, fi (0))] rfl (by decide) hL rfl (fun L141 hL141 => ?_)
            refine f_inc 1 [(8, fi (1)), (7, fi (c + 0)), (6, fi (1)), (4, fi (B)), (5, fi (A)), (0, .ref 55), (1, fi (x)), (2, fi (h)), (3, fi (0))] rfl (by decide) hL141 rfl rfl (fun L142 hL142 => ?_)
            refine f_goto rfl ?_
            have mb : mnB m 1 h 0 0 = false := decide_eq_false (fun z => e1 z.1)
            have e9 : mn1 m 1 h 0 0 c = c + 0 := (if_pos (by omega)).trans (by rw [mb]; rfl)
            rw [e9] at hG
            exact hI1 hc42 _ _ hw42 hm42 hG (hL142.sel [0, 1, 2, 3, 4, 5, 6, 7, 8] rfl)
          · have e1 : ¬ ((bI (decide (¬ iA (iR (m 61 16) (0)) (1) = 1 ∧ m 58 0 ≤ h ∧ h ≤ m 59 0)) : Int) = (0 : Int)) := e1
            have e1 : ¬ iA (iR (m 61 16) (0)) (1) = 1 ∧ m 58 0 ≤ h ∧ h ≤ m 59 0 := bI_t e1
            refine f_aln 5 rfl hL rfl ?_
            refine m_gfr so55 rfl hw42 rfl (by decide) ?_
            refine f_il 0 rfl hL rfl ?_
            refine m_ia sa60 (m 60 0) rfl hw42 hm42 (by omega) (by omega) (by decide) rfl ?_
            refine f_il 2 rfl hL rfl ?_
            refine m_k1 (t73 (hR 60 0) (by decide)) hw42 hm42 rfl rfl rfl rfl rfl (fun hc43 hw43 hm43 => ?_)
            refine f_if rfl (bI_r _) (fun e2 => ?_) (fun e2 => ?_)
            · have e2 : (bI (decide (iA (iR (m 60 0) (1)) (1) = 1)) : Int) = (0 : Int) := e2
              have e2 : ¬ (iA (iR (m 60 0) (1)) (1) = 1) := bI_f e2
              refine f_s [fi (0), fi (c)] rfl rfl ?_
              refine f_iadd rfl ?_
              refine f_ist [(7, fi (c + 0)), (8, fi (0)), (6, fi (1)), (4, fi (B)), (5, fi (A)), (0, .ref 55), (1, fi (x)), (2, fi (h)), (3, fi (0))] rfl (by decide) hL rfl (fun L143 hL143 => ?_)
              refine f_inc 1 [(8, fi (1)), (7, fi (c + 0)), (6, fi (1)), (4, fi (B)), (5, fi (A)), (0, .ref 55), (1, fi (x)), (2, fi (h)), (3, fi (0))] rfl (by decide) hL143 rfl rfl (fun L144 hL144 => ?_)
              refine f_goto rfl ?_
              have mb : mnB m 1 h 0 0 = false := decide_eq_false (fun z => e2 z.2)
              have e9 : mn1 m 1 h 0 0 c = c + 0 := (if_pos (by omega)).trans (by rw [mb]; rfl)
              rw [e9] at hG
              exact hI1 hc43 _ _ hw43 hm43 hG (hL144.sel [0, 1, 2, 3, 4, 5, 6, 7, 8] rfl)
            · have e2 : ¬ ((bI (decide (iA (iR (m 60 0) (1)) (1) = 1)) : Int) = (0 : Int)) := e2
              have e2 : iA (iR (m 60 0) (1)) (1) = 1 := bI_t e2
              refine f_s [fi (1), fi (c)] rfl rfl ?_
              refine f_goto rfl ?_
              refine f_iadd rfl ?_
              refine f_ist [(7, fi (c + 1)), (8, fi (0)), (6, fi (1)), (4, fi (B)), (5, fi (A)), (0, .ref 55), (1, fi (x)), (2, fi (h)), (3, fi (0))] rfl (by decide) hL rfl (fun L145 hL145 => ?_)
              refine f_inc 1 [(8, fi (1)), (7, fi (c + 1)), (6, fi (1)), (4, fi (B)), (5, fi (A)), (0, .ref 55), (1, fi (x)), (2, fi (h)), (3, fi (0))] rfl (by decide) hL145 rfl rfl (fun L146 hL146 => ?_)
              refine f_goto rfl ?_
              have mb : mnB m 1 h 0 0 = true := decide_eq_true ⟨e1, e2⟩
              have e9 : mn1 m 1 h 0 0 c = c + 1 := (if_pos (by omega)).trans (by rw [mb]; rfl)
              rw [e9] at hG
              exact hI1 hc43 _ _ hw43 hm43 hG (hL146.sel [0, 1, 2, 3, 4, 5, 6, 7, 8] rfl)
      refine f_s [fi (0)] rfl rfl ?_
      refine f_ist [(7, fi (0)), (6, fi (1)), (4, fi (B)), (5, fi (A)), (0, .ref 55), (1, fi (x)), (2, fi (h)), (3, fi (0))] rfl (by decide) hL rfl (fun L147 hL147 => ?_)
      refine f_s [fi (0)] rfl rfl ?_
      refine f_ist [(8, fi (0)), (7, fi (0)), (6, fi (1)), (4, fi (B)), (5, fi (A)), (0, .ref 55), (1, fi (x)), (2, fi (h)), (3, fi (0))] rfl (by decide) hL147 rfl (fun L148 hL148 => ?_)
      exact hI0 hc 0 _ hw hm rfl (hL148.sel [0, 1, 2, 3, 4, 5, 6, 7, 8] rfl)
  have hK0 : ∀ (hc : ev_H) (A B : Int) (L : ev_L), y_in yGw hc → gi hc = m → (A, B) ∈ lS 0 → f_L L [(6, fi (0)), (4, fi (B)), (5, fi (A)), (0, .ref 55), (1, fi (x)), (2, fi (h)), (3, fi (0))] → x_W none (1, 0, 9, 3, 11, 3, 66, 0, 0, ev_t184) 34 L [] hc 0 0 (fun r' h' => r' = some (fi (lm0_0 m x h A B)) ∧ y_in yGw h' ∧ gi h' = m) := fun hc A B L hw hm hAB hL => by
    obtain ⟨o1, o2, o3, o4, o5, o6, o7⟩ := okp_r (lS_at (by decide) hAB)
    refine f_il 0 rfl hL rfl ?_
    refine f_aln 3 rfl hL rfl ?_
    refine m_gfi so55 (m 55 0) rfl hw hm rfl rfl ?_
    refine f_ic rfl (by decide) (by omega) (fun c1 => ?_) (fun c1 => ?_)
    · have c1 : (m 55 0 : Int) ≤ (0 : Int) := c1
      refine f_il 2 rfl hL rfl ?_
      refine f_il 1 rfl hL rfl ?_
      refine f_isub rfl ?_
      refine f_il 2 rfl hL rfl ?_
      refine m_k1 (t168 (a := A - B) (b := A) (g := eG (A - B) A) o3 (by omega) (by omega) (by omega) o1) hw hm rfl rfl rfl rfl rfl (fun hc44 hw44 hm44 => ?_)
      have hg := eu_r 40 (A - B) A _ o3 (by omega) (by omega) (by omega) o1
      refine f_ist [(6, fi (eG (A - B) A)), (4, fi (B)), (5, fi (A)), (0, .ref 55), (1, fi (x)), (2, fi (h)), (3, fi (0))] rfl (by decide) hL rfl (fun L149 hL149 => ?_)
      refine f_iln 6 rfl hL149 rfl ?_
      refine f_if rfl (by decide) (fun _ => ?_) (fun c => absurd (show (0 : Int) = (0 : Int) from (by decide)) c)
      refine f_il 2 rfl hL149 rfl ?_
      refine f_il 0 rfl hL149 rfl ?_
      refine f_idiv rfl (by omega) (by omega) (by omega) (by omega) ?_
      exact f_ret1 rfl ⟨by unfold lm0_0; rw [if_neg (by omega)], hw44, hm44⟩
    · have c1 : ¬ ((m 55 0 : Int) ≤ (0 : Int)) := c1
      have kk : 0 < m 55 0 := by omega
      have hE : ∀ (hc : ev_H) (p : Int) (L : ev_L), y_in yGw hc → gi hc = m → f_L L [(8, fi p), (7, fi (mn m 0 h)), (6, fi (0)), (4, fi (B)), (5, fi (A)), (0, .ref 55), (1, fi (x)), (2, fi (h)), (3, fi (0))] → x_W none (1, 0, 9, 3, 11, 3, 66, 0, 0, ev_t184) 100 L [] hc 0 0 (fun r' h' => r' = some (fi (lm0_0 m x h A B)) ∧ y_in yGw h' ∧ gi h' = m) := fun hc p L hw hm hL => by
        have mr := mn_r m 0 h
        refine f_aln 5 rfl hL rfl ?_
        refine f_s [fi (0), .ref 55] rfl rfl ?_
        refine f_iln 6 rfl hL rfl ?_
        refine f_iln 7 rfl hL rfl ?_
        refine m_k1 (t90_0 (p := x) (h := h) x5.1 x5.2 rh (fv := m 58 x.toNat) rfl (hR 58 _) (uv := m 59 x.toNat) rfl (hR 59 _)) hw hm rfl rfl rfl (m_ar so55 hw rfl) rfl (fun hc45 hw45 hm45 => ?_)
        refine f_if rfl (bI_r _) (fun d1 => ?_) (fun d1 => ?_)
        · have d1 : (bI (decide (¬ iA (iR (m 61 16) (x)) (1) = 1 ∧ m 58 x.toNat ≤ h ∧ h ≤ m 59 x.toNat)) : Int) = (0 : Int) := d1
          have d1 : ¬ (¬ iA (iR (m 61 16) (x)) (1) = 1 ∧ m 58 x.toNat ≤ h ∧ h ≤ m 59 x.toNat) := bI_f d1
          refine f_s [fi (0)] rfl rfl ?_
          refine f_ist [(8, fi (0)), (7, fi (mn m 0 h)), (6, fi (0)), (4, fi (B)), (5, fi (A)), (0, .ref 55), (1, fi (x)), (2, fi (h)), (3, fi (0))] rfl (by decide) hL rfl (fun L150 hL150 => ?_)
          refine f_il 3 rfl hL150 rfl ?_
          refine f_il 0 rfl hL150 rfl ?_
          refine f_if rfl (by decide) (fun _ => ?_) (fun c => absurd (show (0 : Int) = (0 : Int) from (by decide)) c)
          refine f_s [fi (1), fi (B)] rfl rfl ?_
          refine f_imul rfl ?_
          refine f_ist [(4, fi (B * 1)), (8, fi (0)), (7, fi (mn m 0 h)), (6, fi (0)), (5, fi (A)), (0, .ref 55), (1, fi (x)), (2, fi (h)), (3, fi (0))] rfl (by decide) hL150 rfl (fun L151 hL151 => ?_)
          refine f_il 4 rfl hL151 rfl ?_
          refine f_il 1 rfl hL151 rfl ?_
          refine f_if rfl (by decide) (fun _ => ?_) (fun c => absurd (show (0 : Int) = (0 : Int) from (by decide)) c)
          refine f_s [fi (1), fi (A)] rfl rfl ?_
          refine f_imul rfl ?_
          refine f_ist [(5, fi (A * 1)), (4, fi (B * 1)), (8, fi (0)), (7, fi (mn m 0 h)), (6, fi (0)), (0, .ref 55), (1, fi (x)), (2, fi (h)), (3, fi (0))] rfl (by decide) hL151 rfl (fun L152 hL152 => ?_)
          refine f_inc 4 [(6, fi (1)), (5, fi (A * 1)), (4, fi (B * 1)), (8, fi (0)), (7, fi (mn m 0 h)), (0, .ref 55), (1, fi (x)), (2, fi (h)), (3, fi (0))] rfl (by decide) hL152 rfl rfl (fun L153 hL153 => ?_)
          refine f_goto rfl ?_
          have my : myB m 0 h x = false := decide_eq_false (fun z => d1 z.1)
          have e9 : lm0_0 m x h A B = lm0_1 m x h (A * 1) (B * 1) := (if_pos kk).trans ((if_neg (by rw [my]; decide)).trans (by rw [Int.mul_one, Int.mul_one]))
          rw [e9]
          exact hK1 hc45 _ _ _ hw45 hm45 (lS_s hAB (by decide)) (hL153.sel [0, 2, 1, 5, 6, 7, 8] rfl)
        · have d1 : ¬ ((bI (decide (¬ iA (iR (m 61 16) (x)) (1) = 1 ∧ m 58 x.toNat ≤ h ∧ h ≤ m 59 x.toNat)) : Int) = (0 : Int)) := d1
          have d1 : ¬ iA (iR (m 61 16) (x)) (1) = 1 ∧ m 58 x.toNat ≤ h ∧ h ≤ m 59 x.toNat := bI_t d1
          refine f_aln 5 rfl hL rfl ?_
          refine m_gfr so55 rfl hw45 rfl (by decide) ?_
          refine f_iln 6 rfl hL rfl ?_
          refine m_ia sa60 (m 60 (x).toNat) rfl hw45 hm45 (by omega) (by omega) (by decide) rfl ?_
          refine f_il 2 rfl hL rfl ?_
          refine m_k1 (t73 (hR 60 _) (by decide)) hw45 hm45 rfl rfl rfl rfl rfl (fun hc46 hw46 hm46 => ?_)
          refine f_if rfl (bI_r _) (fun d2 => ?_) (fun d2 => ?_)
          · have d2 : (bI (decide (iA (iR (m 60 (x).toNat) (0)) (1) = 1)) : Int) = (0 : Int) := d2
            have d2 : ¬ (iA (iR (m 60 (x).toNat) (0)) (1) = 1) := bI_f d2
            refine f_s [fi (0)] rfl rfl ?_
            refine f_ist [(8, fi (0)), (7, fi (mn m 0 h)), (6, fi (0)), (4, fi (B)), (5, fi (A)), (0, .ref 55), (1, fi (x)), (2, fi (h)), (3, fi (0))] rfl (by decide) hL rfl (fun L154 hL154 => ?_)
            refine f_il 3 rfl hL154 rfl ?_
            refine f_il 0 rfl hL154 rfl ?_
            refine f_if rfl (by decide) (fun _ => ?_) (fun c => absurd (show (0 : Int) = (0 : Int) from (by decide)) c)
            refine f_s [fi (1), fi (B)] rfl rfl ?_
            refine f_imul rfl ?_
            refine f_ist [(4, fi (B * 1)), (8, fi (0)), (7, fi (mn m 0 h)), (6, fi (0)), (5, fi (A)), (0, .ref 55), (1, fi (x)), (2, fi (h)), (3, fi (0))] rfl (by decide) hL154 rfl (fun L155 hL155 => ?_)
            refine f_il 4 rfl hL155 rfl ?_
            refine f_il 1 rfl hL155 rfl ?_
            refine f_if rfl (by decide) (fun _ => ?_) (fun c => absurd (show (0 : Int) = (0 : Int) from (by decide)) c)
            refine f_s [fi (1), fi (A)] rfl rfl ?_
            refine f_imul rfl ?_
            refine f_ist [(5, fi (A * 1)), (4, fi (B * 1)), (8, fi (0)), (7, fi (mn m 0 h)), (6, fi (0)), (0, .ref 55), (1, fi (x)), (2, fi (h)), (3, fi (0))] rfl (by decide) hL155 rfl (fun L156 hL156 => ?_)
            refine f_inc 4 [(6, fi (1)), (5, fi (A * 1)), (4, fi (B * 1)), (8, fi (0)), (7, fi (mn m 0 h)), (0, .ref 55), (1, fi (x)), (2, fi (h)), (3, fi (0))] rfl (by decide) hL156 rfl rfl (fun L157 hL157 => ?_)
            refine f_goto rfl ?_
            have my : myB m 0 h x = false := decide_eq_false (fun z => d2 z.2.1)
            have e9 : lm0_0 m x h A B = lm0_1 m x h (A * 1) (B * 1) := (if_pos kk).trans ((if_neg (by rw [my]; decide)).trans (by rw [Int.mul_one, Int.mul_one]))
            rw [e9]
            exact hK1 hc46 _ _ _ hw46 hm46 (lS_s hAB (by decide)) (hL157.sel [0, 2, 1, 5, 6, 7, 8] rfl)
          · have d2 : ¬ ((bI (decide (iA (iR (m 60 (x).toNat) (0)) (1) = 1)) : Int) = (0 : Int)) := d2
            have d2 : iA (iR (m 60 (x).toNat) (0)) (1) = 1 := bI_t d2
            refine f_aln 5 rfl hL rfl ?_
            refine m_gfr so55 rfl hw46 rfl (by decide) ?_
            refine f_bipush (n := 15) rfl (by decide) ?_
            refine m_ia sa61 (m 61 15) rfl hw46 hm46 (by omega) (by omega) (by decide) rfl ?_
            refine f_il 2 rfl hL rfl ?_
            refine m_k1 (t73 (hR 61 15) (by decide)) hw46 hm46 rfl rfl rfl rfl rfl (fun hc47 hw47 hm47 => ?_)
            refine f_if rfl (bI_r _) (fun d3 => ?_) (fun d3 => ?_)
            · have d3 : ¬ (bI (decide (iA (iR (m 61 15) (0)) (1) = 1)) : Int) = (0 : Int) := d3
              have d3 : iA (iR (m 61 15) (0)) (1) = 1 := bI_t d3
              refine f_s [fi (0)] rfl rfl ?_
              refine f_ist [(8, fi (0)), (7, fi (mn m 0 h)), (6, fi (0)), (4, fi (B)), (5, fi (A)), (0, .ref 55), (1, fi (x)), (2, fi (h)), (3, fi (0))] rfl (by decide) hL rfl (fun L158 hL158 => ?_)
              refine f_il 3 rfl hL158 rfl ?_
              refine f_il 0 rfl hL158 rfl ?_
              refine f_if rfl (by decide) (fun _ => ?_) (fun c => absurd (show (0 : Int) = (0 : Int) from (by decide)) c)
              refine f_s [fi (1), fi (B)] rfl rfl ?_
              refine f_imul rfl ?_
              refine f_ist [(4, fi (B * 1)), (8, fi (0)), (7, fi (mn m 0 h)), (6, fi (0)), (5, fi (A)), (0, .ref 55), (1, fi (x)), (2, fi (h)), (3, fi (0))] rfl (by decide) hL158 rfl (fun L159 hL159 => ?_)
              refine f_il 4 rfl hL159 rfl ?_
              refine f_il 1 rfl hL159 rfl ?_
              refine f_if rfl (by decide) (fun _ => ?_) (fun c => absurd (show (0 : Int) = (0 : Int) from (by decide)) c)
              refine f_s [fi (1), fi (A)] rfl rfl ?_
              refine f_imul rfl ?_
              refine f_ist [(5, fi (A * 1)), (4, fi (B * 1)), (8, fi (0)), (7, fi (mn m 0 h)), (6, fi (0)), (0, .ref 55), (1, fi (x)), (2, fi (h)), (3, fi (0))] rfl (by decide) hL159 rfl (fun L160 hL160 => ?_)
              refine f_inc 4 [(6, fi (1)), (5, fi (A * 1)), (4, fi (B * 1)), (8, fi (0)), (7, fi (mn m 0 h)), (0, .ref 55), (1, fi (x)), (2, fi (h)), (3, fi (0))] rfl (by decide) hL160 rfl rfl (fun L161 hL161 => ?_)
              refine f_goto rfl ?_
              have my : myB m 0 h x = false := decide_eq_false (fun z => z.2.2 d3)
              have e9 : lm0_0 m x h A B = lm0_1 m x h (A * 1) (B * 1) := (if_pos kk).trans ((if_neg (by rw [my]; decide)).trans (by rw [Int.mul_one, Int.mul_one]))
              rw [e9]
              exact hK1 hc47 _ _ _ hw47 hm47 (lS_s hAB (by decide)) (hL161.sel [0, 2, 1, 5, 6, 7, 8] rfl)
            · have d3 : ¬ (¬ (bI (decide (iA (iR (m 61 15) (0)) (1) = 1)) : Int) = (0 : Int)) := d3
              have d3 : ¬ (iA (iR (m 61 15) (0)) (1) = 1) := bI_n d3
              refine f_s [fi (1)] rfl rfl ?_
              refine f_goto rfl ?_
              refine f_ist [(8, fi (1)), (7, fi (mn m 0 h)), (6, fi (0)), (4, fi (B)), (5, fi (A)), (0, .ref 55), (1, fi (x)), (2, fi (h)), (3, fi (0))] rfl (by decide) hL rfl (fun L162 hL162 => ?_)
              refine f_il 3 rfl hL162 rfl ?_
              refine f_il 0 rfl hL162 rfl ?_
              refine f_if rfl (by decide) (fun c => absurd (show (1 : Int) = (0 : Int) from c) (by decide)) (fun _ => ?_)
              refine f_il 1 rfl hL162 rfl ?_
              refine f_s [fi (1), fi (mn m 0 h), fi (B)] rfl rfl ?_
              refine f_isub rfl ?_
              refine f_goto rfl ?_
              refine f_imul rfl ?_
              refine f_ist [(4, fi (B * ((mn m 0 h) - 1))), (8, fi (1)), (7, fi (mn m 0 h)), (6, fi (0)), (5, fi (A)), (0, .ref 55), (1, fi (x)), (2, fi (h)), (3, fi (0))] rfl (by decide) hL162 rfl (fun L163 hL163 => ?_)
              refine f_il 4 rfl hL163 rfl ?_
              refine f_il 1 rfl hL163 rfl ?_
              refine f_if rfl (by decide) (fun c => absurd (show (1 : Int) = (0 : Int) from c) (by decide)) (fun _ => ?_)
              refine f_il 2 rfl hL163 rfl ?_
              refine f_goto rfl ?_
              refine f_imul rfl ?_
              refine f_ist [(5, fi (A * (mn m 0 h))), (4, fi (B * ((mn m 0 h) - 1))), (8, fi (1)), (7, fi (mn m 0 h)), (6, fi (0)), (0, .ref 55), (1, fi (x)), (2, fi (h)), (3, fi (0))] rfl (by decide) hL163 rfl (fun L164 hL164 => ?_)
              refine f_inc 4 [(6, fi (1)), (5, fi (A * (mn m 0 h))), (4, fi (B * ((mn m 0 h) - 1))), (8, fi (1)), (7, fi (mn m 0 h)), (0, .ref 55), (1, fi (x)), (2, fi (h)), (3, fi (0))] rfl (by decide) hL164 rfl rfl (fun L165 hL165 => ?_)
              refine f_goto rfl ?_
              have my : myB m 0 h x = true := decide_eq_true ⟨d1, d2, d3⟩
              have e9 : lm0_0 m x h A B = lm0_1 m x h (A * mn m 0 h) (B * (mn m 0 h - 1)) := (if_pos kk).trans (if_pos my)
              rw [e9]
              exact hK1 hc47 _ _ _ hw47 hm47 (lS_s hAB (lQ_c (mn_1 0 (by decide) ⟨by decide, kk⟩ my) mr.2)) (hL165.sel [0, 2, 1, 5, 6, 7, 8] rfl)
      have hI5 : ∀ (hc : ev_H) (c : Int) (L : ev_L), y_in yGw hc → gi hc = m → c = mn m 0 h → f_L L [(8, fi (5)), (7, fi (c)), (6, fi (0)), (4, fi (B)), (5, fi (A)), (0, .ref 55), (1, fi (x)), (2, fi (h)), (3, fi (0))] → x_W none (1, 0, 9, 3, 11, 3, 66, 0, 0, ev_t184) 49 L [] hc 0 0 (fun r' h' => r' = some (fi (lm0_0 m x h A B)) ∧ y_in yGw h' ∧ gi h' = m) := fun hc c L hw hm hG hL => by
        refine f_il 0 rfl hL rfl ?_
        refine f_aln 5 rfl hL rfl ?_
        refine m_gfi so55 (m 55 1) rfl hw hm rfl rfl ?_
        refine f_ic rfl (by decide) (by omega) (fun _ => ?_) (fun c => absurd (show (m 55 1 : Int) ≤ (5 : Int) from (by omega)) c)
        rw [hG] at hL
        exact hE hc 5 _ hw hm (hL.sel [0, 1, 2, 3, 4, 5, 6, 7, 8] rfl)
      have hI4 : ∀ (hc : ev_H) (c : Int) (L : ev_L), y_in yGw hc → gi hc = m → mn1 m 0 h 4 4 (c) = mn m 0 h → f_L L [(8, fi (4)), (7, fi (c)), (6, fi (0)), (4, fi (B)), (5, fi (A)), (0, .ref 55), (1, fi (x)), (2, fi (h)), (3, fi (0))] → x_W none (1, 0, 9, 3, 11, 3, 66, 0, 0, ev_t184) 49 L [] hc 0 0 (fun r' h' => r' = some (fi (lm0_0 m x h A B)) ∧ y_in yGw h' ∧ gi h' = m) := fun hc c L hw hm hG hL => by
        refine f_il 0 rfl hL rfl ?_
        refine f_aln 5 rfl hL rfl ?_
        refine m_gfi so55 (m 55 1) rfl hw hm rfl rfl ?_
        refine f_ic rfl (by decide) (by omega) (fun ci => ?_) (fun ci => ?_)
        · have ci : (m 55 1 : Int) ≤ (4 : Int) := ci
          have e8 : mn1 m 0 h 4 4 (c) = c := by unfold mn1; rw [if_neg (by omega)]
          rw [e8] at hG
          rw [hG] at hL
          exact hE hc 4 _ hw hm (hL.sel [0, 1, 2, 3, 4, 5, 6, 7, 8] rfl)
        · have ci : ¬ ((m 55 1 : Int) ≤ (4 : Int)) := ci
          refine f_il 1 rfl hL rfl ?_
          refine f_aln 5 rfl hL rfl ?_
          refine f_s [fi (0), .ref 55, fi (c)] rfl rfl ?_
          refine f_il 0 rfl hL rfl ?_
          refine f_iln 7 rfl hL rfl ?_
          refine m_k1 (t90_0 (p := 4) (h := h) (by decide) (by decide) rh (fv := m 58 4) rfl (hR 58 _) (uv := m 59 4) rfl (hR 59 _)) hw hm rfl rfl rfl (m_ar so55 hw rfl) rfl (fun hc48 hw48 hm48 => ?_)
          refine f_if rfl (bI_r _) (fun e1 => ?_) (fun e1 => ?_)
          · have e1 : (bI (decide (¬ iA (iR (m 61 16) (4)) (1) = 1 ∧ m 58 4 ≤ h ∧ h ≤ m 59 4)) : Int) = (0 : Int) := e1
            have e1 : ¬ (¬ iA (iR (m 61 16) (4)) (1) = 1 ∧ m 58 4 ≤ h ∧ h ≤ m 59 4) := bI_f e1
            refine f_s [fi (0), fi (c)] rfl rfl ?_
            refine f_iadd rfl ?_
            refine f_ist [(7, fi (c + 0)), (8, fi (4)), (6, fi (0)), (4, fi (B)), (5, fi (A)), (0, .ref 55), (1, fi (x)), (2, fi (h)), (3, fi (0))] rfl (by decide) hL rfl (fun L166 hL166 => ?_)
            refine f_inc 1 [(8, fi (5)), (7, fi (c + 0)), (6, fi (0)), (4, fi (B)), (5, fi (A)), (0, .ref 55), (1, fi (x)), (2, fi (h)), (3, fi (0))] rfl (by decide) hL166 rfl rfl (fun L167 hL167 => ?_)
            refine f_goto rfl ?_
            have mb : mnB m 0 h 4 4 = false := decide_eq_false (fun z => e1 z.1)
            have e9 : mn1 m 0 h 4 4 c = c + 0 := (if_pos (by omega)).trans (by rw [mb]; rfl)
            rw [e9] at hG
            exact hI5 hc48 _ _ hw48 hm48 hG (hL167.sel [0, 1, 2, 3, 4, 5, 6, 7, 8] rfl)
          · have e1 : ¬ ((bI (decide (¬ iA (iR (m 61 16) (4)) (1) = 1 ∧ m 58 4 ≤ h ∧ h ≤ m 59 4)) : Int) = (0 : Int)) := e1
            have e1 : ¬ iA (iR (m 61 16) (4)) (1) = 1 ∧ m 58 4 ≤ h ∧ h ≤ m 59 4 := bI_t e1
            refine f_aln 5 rfl hL rfl ?_
            refine m_gfr so55 rfl hw48 rfl (by decide) ?_
            refine f_il 0 rfl hL rfl ?_
            refine m_ia sa60 (m 60 4) rfl hw48 hm48 (by omega) (by omega) (by decide) rfl ?_
            refine f_il 2 rfl hL rfl ?_
            refine m_k1 (t73 (hR 60 4) (by decide)) hw48 hm48 rfl rfl rfl rfl rfl (fun hc49 hw49 hm49 => ?_)
            refine f_if rfl (bI_r _) (fun e2 => ?_) (fun e2 => ?_)
            · have e2 : (bI (decide (iA (iR (m 60 4) (0)) (1) = 1)) : Int) = (0 : Int) := e2
              have e2 : ¬ (iA (iR (m 60 4) (0)) (1) = 1) := bI_f e2
              refine f_s [fi (0), fi (c)] rfl rfl ?_
              refine f_iadd rfl ?_
              refine f_ist [(7, fi (c + 0)), (8, fi (4)), (6, fi (0)), (4, fi (B)), (5, fi (A)), (0, .ref 55), (1, fi (x)), (2, fi (h)), (3, fi (0))] rfl (by decide) hL rfl (fun L168 hL168 => ?_)
              refine f_inc 1 [(8, fi (5)), (7, fi (c + 0)), (6, fi (0)), (4, fi (B)), (5, fi (A)), (0, .ref 55), (1, fi (x)), (2, fi (h)), (3, fi (0))] rfl (by decide) hL168 rfl rfl (fun L169 hL169 => ?_)
              refine f_goto rfl ?_
              have mb : mnB m 0 h 4 4 = false := decide_eq_false (fun z => e2 z.2)
              have e9 : mn1 m 0 h 4 4 c = c + 0 := (if_pos (by omega)).trans (by rw [mb]; rfl)
              rw [e9] at hG
              exact hI5 hc49 _ _ hw49 hm49 hG (hL169.sel [0, 1, 2, 3, 4, 5, 6, 7, 8] rfl)
            · have e2 : ¬ ((bI (decide (iA (iR (m 60 4) (0)) (1) = 1)) : Int) = (0 : Int)) := e2
              have e2 : iA (iR (m 60 4) (0)) (1) = 1 := bI_t e2
              refine f_s [fi (1), fi (c)] rfl rfl ?_
              refine f_goto rfl ?_
              refine f_iadd rfl ?_
              refine f_ist [(7, fi (c + 1)), (8, fi (4)), (6, fi (0)), (4, fi (B)), (5, fi (A)), (0, .ref 55), (1, fi (x)), (2, fi (h)), (3, fi (0))] rfl (by decide) hL rfl (fun L170 hL170 => ?_)
              refine f_inc 1 [(8, fi (5)), (7, fi (c + 1)), (6, fi (0)), (4, fi (B)), (5, fi (A)), (0, .ref 55), (1, fi (x)), (2, fi (h)), (3, fi (0))] rfl (by decide) hL170 rfl rfl (fun L171 hL171 => ?_)
              refine f_goto rfl ?_
              have mb : mnB m 0 h 4 4 = true := decide_eq_true ⟨e1, e2⟩
              have e9 : mn1 m 0 h 4 4 c = c + 1 := (if_pos (by omega)).trans (by rw [mb]; rfl)
              rw [e9] at hG
              exact hI5 hc49 _ _ hw49 hm49 hG (hL171.sel [0, 1, 2, 3, 4, 5, 6, 7, 8] rfl)
      have hI3 : ∀ (hc : ev_H) (c : Int) (L : ev_L), y_in yGw hc → gi hc = m → mn1 m 0 h 4 4 (mn1 m 0 h 3 3 (c)) = mn m 0 h → f_L L [(8, fi (3)), (7, fi (c)), (6, fi (0)), (4, fi (B)), (5, fi (A)), (0, .ref 55), (1, fi (x)), (2, fi (h)), (3, fi (0))] → x_W none (1, 0, 9, 3, 11, 3, 66, 0, 0, ev_t184) 49 L [] hc 0 0 (fun r' h' => r' = some (fi (lm0_0 m x h A B)) ∧ y_in yGw h' ∧ gi h' = m) := fun hc c L hw hm hG hL => by
        refine f_il 0 rfl hL rfl ?_
        refine f_aln 5 rfl hL rfl ?_
        refine m_gfi so55 (m 55 1) rfl hw hm rfl rfl ?_
        refine f_ic rfl (by decide) (by omega) (fun ci => ?_) (fun ci => ?_)
        · have ci : (m 55 1 : Int) ≤ (3 : Int) := ci
          have e8 : mn1 m 0 h 4 4 (mn1 m 0 h 3 3 (c)) = c := by unfold mn1; rw [if_neg (by omega), if_neg (by omega)]
          rw [e8] at hG
          rw [hG] at hL
          exact hE hc 3 _ hw hm (hL.sel [0, 1, 2, 3, 4, 5, 6, 7, 8] rfl)
        · have ci : ¬ ((m 55 1 : Int) ≤ (3 : Int)) := ci
          refine f_il 1 rfl hL rfl ?_
          refine f_aln 5 rfl hL rfl ?_
          refine f_s [fi (0), .ref 55, fi (c)] rfl rfl ?_
          refine f_il 0 rfl hL rfl ?_
          refine f_iln 7 rfl hL rfl ?_
          refine m_k1 (t90_0 (p := 3) (h := h) (by decide) (by decide) rh (fv := m 58 3) rfl (hR 58 _) (uv := m 59 3) rfl (hR 59 _)) hw hm rfl rfl rfl (m_ar so55 hw rfl) rfl (fun hc50 hw50 hm50 => ?_)
          refine f_if rfl (bI_r _) (fun e1 => ?_) (fun e1 => ?_)
          · have e1 : (bI (decide (¬ iA (iR (m 61 16) (3)) (1) = 1 ∧ m 58 3 ≤ h ∧ h ≤ m 59 3)) : Int) = (0 : Int) := e1
            have e1 : ¬ (¬ iA (iR (m 61 16) (3)) (1) = 1 ∧ m 58 3 ≤ h ∧ h ≤ m 59 3) := bI_f e1
            refine f_s [fi (0), fi (c)] rfl rfl ?_
            refine f_iadd rfl ?_
            refine f_ist [(7, fi (c + 0)), (8, fi (3)), (6, fi (0)), (4, fi (B)), (5, fi (A)), (0, .ref 55), (1, fi (x)), (2, fi (h)), (3, fi (0))] rfl (by decide) hL rfl (fun L172 hL172 => ?_)
            refine f_inc 1 [(8, fi (4)), (7, fi (c + 0)), (6, fi (0)), (4, fi (B)), (5, fi (A)), (0, .ref 55), (1, fi (x)), (2, fi (h)), (3, fi (0))] rfl (by decide) hL172 rfl rfl (fun L173 hL173 => ?_)
            refine f_goto rfl ?_
            have mb : mnB m 0 h 3 3 = false := decide_eq_false (fun z => e1 z.1)
            have e9 : mn1 m 0 h 3 3 c = c + 0 := (if_pos (by omega)).trans (by rw [mb]; rfl)
            rw [e9] at hG
            exact hI4 hc50 _ _ hw50 hm50 hG (hL173.sel [0, 1, 2, 3, 4, 5, 6, 7, 8] rfl)
          · have e1 : ¬ ((bI (decide (¬ iA (iR (m 61 16) (3)) (1) = 1 ∧ m 58 3 ≤ h ∧ h ≤ m 59 3)) : Int) = (0 : Int)) := e1
            have e1 : ¬ iA (iR (m 61 16) (3)) (1) = 1 ∧ m 58 3 ≤ h ∧ h ≤ m 59 3 := bI_t e1
            refine f_aln 5 rfl hL rfl ?_
            refine m_gfr so55 rfl hw50 rfl (by decide) ?_
            refine f_il 0 rfl hL rfl ?_
            refine m_ia sa60 (m 60 3) rfl hw50 hm50 (by omega) (by omega) (by decide) rfl ?_
            refine f_il 2 rfl hL rfl ?_
            refine m_k1 (t73 (hR 60 3) (by decide)) hw50 hm50 rfl rfl rfl rfl rfl (fun hc51 hw51 hm51 => ?_)
            refine f_if rfl (bI_r _) (fun e2 => ?_) (fun e2 => ?_)
            · have e2 : (bI (decide (iA (iR (m 60 3) (0)) (1) = 1)) : Int) = (0 : Int) := e2
              have e2 : ¬ (iA (iR (m 60 3) (0)) (1) = 1) := bI_f e2
              refine f_s [fi (0), fi (c)] rfl rfl ?_
              refine f_iadd rfl ?_
              refine f_ist [(7, fi (c + 0)), (8, fi (3)), (6, fi (0)), (4, fi (B)), (5, fi (A)), (0, .ref 55), (1, fi (x)), (2, fi (h)), (3, fi (0))] rfl (by decide) hL rfl (fun L174 hL174 => ?_)
              refine f_inc 1 [(8, fi (4)), (7, fi (c + 0)), (6, fi (0)), (4, fi (B)), (5, fi (A)), (0, .ref 55), (1, fi (x)), (2, fi (h)), (3, fi (0))] rfl (by decide) hL174 rfl rfl (fun L175 hL175 => ?_)
              refine f_goto rfl ?_
              have mb : mnB m 0 h 3 3 = false := decide_eq_false (fun z => e2 z.2)
              have e9 : mn1 m 0 h 3 3 c = c + 0 := (if_pos (by omega)).trans (by rw [mb]; rfl)
              rw [e9] at hG
              exact hI4 hc51 _ _ hw51 hm51 hG (hL175.sel [0, 1, 2, 3, 4, 5, 6, 7, 8] rfl)
            · have e2 : ¬ ((bI (decide (iA (iR (m 60 3) (0)) (1) = 1)) : Int) = (0 : Int)) := e2
              have e2 : iA (iR (m 60 3) (0)) (1) = 1 := bI_t e2
              refine f_s [fi (1), fi (c)] rfl rfl ?_
              refine f_goto rfl ?_
              refine f_iadd rfl ?_
              refine f_ist [(7, fi (c + 1)), (8, fi (3)), (6, fi (0)), (4, fi (B)), (5, fi (A)), (0, .ref 55), (1, fi (x)), (2, fi (h)), (3, fi (0))] rfl (by decide) hL rfl (fun L176 hL176 => ?_)
              refine f_inc 1 [(8, fi (4)), (7, fi (c + 1)), (6, fi (0)), (4, fi (B)), (5, fi (A)), (0, .ref 55), (1, fi (x)), (2, fi (h)), (3, fi (0))] rfl (by decide) hL176 rfl rfl (fun L177 hL177 => ?_)
              refine f_goto rfl ?_
              have mb : mnB m 0 h 3 3 = true := decide_eq_true ⟨e1, e2⟩
              have e9 : mn1 m 0 h 3 3 c = c + 1 := (if_pos (by omega)).trans (by rw [mb]; rfl)
              rw [e9] at hG
              exact hI4 hc51 _ _ hw51 hm51 hG (hL177.sel [0, 1, 2, 3, 4, 5, 6, 7, 8] rfl)
      have hI2 : ∀ (hc : ev_H) (c : Int) (L : ev_L), y_in yGw hc → gi hc = m → mn1 m 0 h 4 4 (mn1 m 0 h 3 3 (mn1 m 0 h 2 2 (c))) = mn m 0 h → f_L L [(8, fi (2)), (7, fi (c)), (6, fi (0)), (4, fi (B)), (5, fi (A)), (0, .ref 55), (1, fi (x)), (2, fi (h)), (3, fi (0))] → x_W none (1, 0, 9, 3, 11, 3, 66, 0, 0, ev_t184) 49 L [] hc 0 0 (fun r' h' => r' = some (fi (lm0_0 m x h A B)) ∧ y_in yGw h' ∧ gi h' = m) := fun hc c L hw hm hG hL => by
        refine f_il 0 rfl hL rfl ?_
        refine f_aln 5 rfl hL rfl ?_
        refine m_gfi so55 (m 55 1) rfl hw hm rfl rfl ?_
        refine f_ic rfl (by decide) (by omega) (fun ci => ?_) (fun ci => ?_)
        · have ci : (m 55 1 : Int) ≤ (2 : Int) := ci
          have e8 : mn1 m 0 h 4 4 (mn1 m 0 h 3 3 (mn1 m 0 h 2 2 (c))) = c := by unfold mn1; rw [if_neg (by omega), if_neg (by omega), if_neg (by omega)]
          rw [e8] at hG
          rw [hG] at hL
          exact hE hc 2 _ hw hm (hL.sel [0, 1, 2, 3, 4, 5, 6, 7, 8] rfl)
        · have ci : ¬ ((m 55 1 : Int) ≤ (2 : Int)) := ci
          refine f_il 1 rfl hL rfl ?_
          refine f_aln 5 rfl hL rfl ?_
          refine f_s [fi (0), .ref 55, fi (c)] rfl rfl ?_
          refine f_il 0 rfl hL rfl ?_
          refine f_iln 7 rfl hL rfl ?_
          refine m_k1 (t90_0 (p := 2) (h := h) (by decide) (by decide) rh (fv := m 58 2) rfl (hR 58 _) (uv := m 59 2) rfl (hR 59 _)) hw hm rfl rfl rfl (m_ar so55 hw rfl) rfl (fun hc52 hw52 hm52 => ?_)
          refine f_if rfl (bI_r _) (fun e1 => ?_) (fun e1 => ?_)
          · have e1 : (bI (decide (¬ iA (iR (m 61 16) (2)) (1) = 1 ∧ m 58 2 ≤ h ∧ h ≤ m 59 2)) : Int) = (0 : Int) := e1
            have e1 : ¬ (¬ iA (iR (m 61 16) (2)) (1) = 1 ∧ m 58 2 ≤ h ∧ h ≤ m 59 2) := bI_f e1
            refine f_s [fi (0), fi (c)] rfl rfl ?_
            refine f_iadd rfl ?_
            refine f_ist [(7, fi (c + 0)), (8, fi (2)), (6, fi (0)), (4, fi (B)), (5, fi (A)), (0, .ref 55), (1, fi (x)), (2, fi (h)), (3, fi (0))] rfl (by decide) hL rfl (fun L178 hL178 => ?_)
            refine f_inc 1 [(8, fi (3)), (7, fi (c + 0)), (6, fi (0)), (4, fi (B)), (5, fi (A)), (0, .ref 55), (1, fi (x)), (2, fi (h)), (3, fi (0))] rfl (by decide) hL178 rfl rfl (fun L179 hL179 => ?_)
            refine f_goto rfl ?_
            have mb : mnB m 0 h 2 2 = false := decide_eq_false (fun z => e1 z.1)
            have e9 : mn1 m 0 h 2 2 c = c + 0 := (if_pos (by omega)).trans (by rw [mb]; rfl)
            rw [e9] at hG
            exact hI3 hc52 _ _ hw52 hm52 hG (hL179.sel [0, 1, 2, 3, 4, 5, 6, 7, 8] rfl)
          · have e1 : ¬ ((bI (decide (¬ iA (iR (m 61 16) (2)) (1) = 1 ∧ m 58 2 ≤ h ∧ h ≤ m 59 2)) : Int) = (0 : Int)) := e1
            have e1 : ¬ iA (iR (m 61 16) (2)) (1) = 1 ∧ m 58 2 ≤ h ∧ h ≤ m 59 2 := bI_t e1
            refine f_aln 5 rfl hL rfl ?_
            refine m_gfr so55 rfl hw52 rfl (by decide) ?_
            refine f_il 0 rfl hL rfl ?_
            refine m_ia sa60 (m 60 2) rfl hw52 hm52 (by omega) (by omega) (by decide) rfl ?_
            refine f_il 2 rfl hL rfl ?_
            refine m_k1 (t73 (hR 60 2) (by decide)) hw52 hm52 rfl rfl rfl rfl rfl (fun hc53 hw53 hm53 => ?_)
            refine f_if rfl (bI_r _) (fun e2 => ?_) (fun e2 => ?_)
            · have e2 : (bI (decide (iA (iR (m 60 2) (0)) (1) = 1)) : Int) = (0 : Int) := e2
              have e2 : ¬ (iA (iR (m 60 2) (0)) (1) = 1) := bI_f e2
              refine f_s [fi (0), fi (c)] rfl rfl ?_
              refine f_iadd rfl ?_
              refine f_ist [(7, fi (c + 0)), (8, fi (2)), (6, fi (0)), (4, fi (B)), (5, fi (A)), (0, .ref 55), (1, fi (x)), (2, fi (h)), (3, fi (0))] rfl (by decide) hL rfl (fun L180 hL180 => ?_)
              refine f_inc 1 [(8, fi (3)), (7, fi (c + 0)), (6, fi (0)), (4, fi (B)), (5, fi (A)), (0, .ref 55), (1, fi (x)), (2, fi (h)), (3, fi (0))] rfl (by decide) hL180 rfl rfl (fun L181 hL181 => ?_)
              refine f_goto rfl ?_
              have mb : mnB m 0 h 2 2 = false := decide_eq_false (fun z => e2 z.2)
              have e9 : mn1 m 0 h 2 2 c = c + 0 := (if_pos (by omega)).trans (by rw [mb]; rfl)
              rw [e9] at hG
              exact hI3 hc53 _ _ hw53 hm53 hG (hL181.sel [0, 1, 2, 3, 4, 5, 6, 7, 8] rfl)
            · have e2 : ¬ ((bI (decide (iA (iR (m 60 2) (0)) (1) = 1)) : Int) = (0 : Int)) := e2
              have e2 : iA (iR (m 60 2) (0)) (1) = 1 := bI_t e2
              refine f_s [fi (1), fi (c)] rfl rfl ?_
              refine f_goto rfl ?_
              refine f_iadd rfl ?_
              refine f_ist [(7, fi (c + 1)), (8, fi (2)), (6, fi (0)), (4, fi (B)), (5, fi (A)), (0, .ref 55), (1, fi (x)), (2, fi (h)), (3, fi (0))] rfl (by decide) hL rfl (fun L182 hL182 => ?_)
              refine f_inc 1 [(8, fi (3)), (7, fi (c + 1)), (6, fi (0)), (4, fi (B)), (5, fi (A)), (0, .ref 55), (1, fi (x)), (2, fi (h)), (3, fi (0))] rfl (by decide) hL182 rfl rfl (fun L183 hL183 => ?_)
              refine f_goto rfl ?_
              have mb : mnB m 0 h 2 2 = true := decide_eq_true ⟨e1, e2⟩
              have e9 : mn1 m 0 h 2 2 c = c + 1 := (if_pos (by omega)).trans (by rw [mb]; rfl)
              rw [e9] at hG
              exact hI3 hc53 _ _ hw53 hm53 hG (hL183.sel [0, 1, 2, 3, 4, 5, 6, 7, 8] rfl)
      have hI1 : ∀ (hc : ev_H) (c : Int) (L : ev_L), y_in yGw hc → gi hc = m → mn1 m 0 h 4 4 (mn1 m 0 h 3 3 (mn1 m 0 h 2 2 (mn1 m 0 h 1 1 (c)))) = mn m 0 h → f_L L [(8, fi (1)), (7, fi (c)), (6, fi (0)), (4, fi (B)), (5, fi (A)), (0, .ref 55), (1, fi (x)), (2, fi (h)), (3, fi (0))] → x_W none (1, 0, 9, 3, 11, 3, 66, 0, 0, ev_t184) 49 L [] hc 0 0 (fun r' h' => r' = some (fi (lm0_0 m x h A B)) ∧ y_in yGw h' ∧ gi h' = m) := fun hc c L hw hm hG hL => by
        refine f_il 0 rfl hL rfl ?_
        refine f_aln 5 rfl hL rfl ?_
        refine m_gfi so55 (m 55 1) rfl hw hm rfl rfl ?_
        refine f_ic rfl (by decide) (by omega) (fun ci => ?_) (fun ci => ?_)
        · have ci : (m 55 1 : Int) ≤ (1 : Int) := ci
          have e8 : mn1 m 0 h 4 4 (mn1 m 0 h 3 3 (mn1 m 0 h 2 2 (mn1 m 0 h 1 1 (c)))) = c := by unfold mn1; rw [if_neg (by omega), if_neg (by omega), if_neg (by omega), if_neg (by omega)]
          rw [e8] at hG
          rw [hG] at hL
          exact hE hc 1 _ hw hm (hL.sel [0, 1, 2, 3, 4, 5, 6, 7, 8] rfl)
        · have ci : ¬ ((m 55 1 : Int) ≤ (1 : Int)) := ci
          refine f_il 1 rfl hL rfl ?_
          refine f_aln 5 rfl hL rfl ?_
          refine f_s [fi (0), .ref 55, fi (c)] rfl rfl ?_
          refine f_il 0 rfl hL rfl ?_
          refine f_iln 7 rfl hL rfl ?_
          refine m_k1 (t90_0 (p := 1) (h := h) (by decide) (by decide) rh (fv := m 58 1) rfl (hR 58 _) (uv := m 59 1) rfl (hR 59 _)) hw hm rfl rfl rfl (m_ar so55 hw rfl) rfl (fun hc54 hw54 hm54 => ?_)
          refine f_if rfl (bI_r _) (fun e1 => ?_) (fun e1 => ?_)
          · have e1 : (bI (decide (¬ iA (iR (m 61 16) (1)) (1) = 1 ∧ m 58 1 ≤ h ∧ h ≤ m 59 1)) : Int) = (0 : Int) := e1
            have e1 : ¬ (¬ iA (iR (m 61 16) (1)) (1) = 1 ∧ m 58 1 ≤ h ∧ h ≤ m 59 1) := bI_f e1
            refine f_s [fi (0), fi (c)] rfl rfl ?_
            refine f_iadd rfl ?_
            refine f_ist [(7, fi (c + 0)), (8, fi (1)), (6, fi (0)), (4, fi (B)), (5, fi (A)), (0, .ref 55), (1, fi (x)), (2, fi (h)), (3, fi (0))] rfl (by decide) hL rfl (fun L184 hL184 => ?_)
            refine f_inc 1 [(8, fi (2)), (7, fi (c + 0)), (6, fi (0)), (4, fi (B)), (5, fi (A)), (0, .ref 55), (1, fi (x)), (2, fi (h)), (3, fi (0))] rfl (by decide) hL184 rfl rfl (fun L185 hL185 => ?_)
            refine f_goto rfl ?_
            have mb : mnB m 0 h 1 1 = false := decide_eq_false (fun z => e1 z.1)
            have e9 : mn1 m 0 h 1 1 c = c + 0 := (if_pos (by omega)).trans (by rw [mb]; rfl)
            rw [e9] at hG
            exact hI2 hc54 _ _ hw54 hm54 hG (hL185.sel [0, 1, 2, 3, 4, 5, 6, 7, 8] rfl)
          · have e1 : ¬ ((bI (decide (¬ iA (iR (m 61 16) (1)) (1) = 1 ∧ m 58 1 ≤ h ∧ h ≤ m 59 1)) : Int) = (0 : Int)) := e1
            have e1 : ¬ iA (iR (m 61 16) (1)) (1) = 1 ∧ m 58 1 ≤ h ∧ h ≤ m 59 1 := bI_t e1
            refine f_aln 5 rfl hL rfl ?_
            refine m_gfr so55 rfl hw54 rfl (by decide) ?_
            refine f_il 0 rfl hL rfl ?_
            refine m_ia sa60 (m 60 1) rfl hw54 hm54 (by omega) (by omega) (by decide) rfl ?_
            refine f_il 2 rfl hL rfl ?_
            refine m_k1 (t73 (hR 60 1) (by decide)) hw54 hm54 rfl rfl rfl rfl rfl (fun hc55 hw55 hm55 => ?_)
            refine f_if rfl (bI_r _) (fun e2 => ?_) (fun e2 => ?_)
            · have e2 : (bI (decide (iA (iR (m 60 1) (0)) (1) = 1)) : Int) = (0 : Int) := e2
              have e2 : ¬ (iA (iR (m 60 1) (0)) (1) = 1) := bI_f e2
              refine f_s [fi (0), fi (c)] rfl rfl ?_
              refine f_iadd rfl ?_
              refine f_ist [(7, fi (c + 0)), (8, fi (1)), (6, fi (0)), (4, fi (B)), (5, fi (A)), (0, .ref 55), (1, fi (x)), (2, fi (h)), (3, fi (0))] rfl (by decide) hL rfl (fun L186 hL186 => ?_)
              refine f_inc 1 [(8, fi (2)), (7, fi (c + 0)), (6, fi (0)), (4, fi (B)), (5, fi (A)), (0, .ref 55), (1, fi (x)), (2, fi (h)), (3, fi (0))] rfl (by decide) hL186 rfl rfl (fun L187 hL187 => ?_)
              refine f_goto rfl ?_
              have mb : mnB m 0 h 1 1 = false := decide_eq_false (fun z => e2 z.2)
              have e9 : mn1 m 0 h 1 1 c = c + 0 := (if_pos (by omega)).trans (by rw [mb]; rfl)
              rw [e9] at hG
              exact hI2 hc55 _ _ hw55 hm55 hG (hL187.sel [0, 1, 2, 3, 4, 5, 6, 7, 8] rfl)
            · have e2 : ¬ ((bI (decide (iA (iR (m 60 1) (0)) (1) = 1)) : Int) = (0 : Int)) := e2
              have e2 : iA (iR (m 60 1) (0)) (1) = 1 := bI_t e2
              refine f_s [fi (1), fi (c)] rfl rfl ?_
              refine f_goto rfl ?_
              refine f_iadd rfl ?_
              refine f_ist [(7, fi (c + 1)), (8, fi (1)), (6, fi (0)), (4, fi (B)), (5, fi (A)), (0, .ref 55), (1, fi (x)), (2, fi (h)), (3, fi (0))] rfl (by decide) hL rfl (fun L188 hL188 => ?_)
              refine f_inc 1 [(8, fi (2)), (7, fi (c + 1)), (6, fi (0)), (4, fi (B)), (5, fi (A)), (0, .ref 55), (1, fi (x)), (2, fi (h)), (3, fi (0))] rfl (by decide) hL188 rfl rfl (fun L189 hL189 => ?_)
              refine f_goto rfl ?_
              have mb : mnB m 0 h 1 1 = true := decide_eq_true ⟨e1, e2⟩
              have e9 : mn1 m 0 h 1 1 c = c + 1 := (if_pos (by omega)).trans (by rw [mb]; rfl)
              rw [e9] at hG
              exact hI2 hc55 _ _ hw55 hm55 hG (hL189.sel [0, 1, 2, 3, 4, 5, 6, 7, 8] rfl)
      have hI0 : ∀ (hc : ev_H) (c : Int) (L : ev_L), y_in yGw hc → gi hc = m → mn1 m 0 h 4 4 (mn1 m 0 h 3 3 (mn1 m 0 h 2 2 (mn1 m 0 h 1 1 (mn1 m 0 h 0 0 (c))))) = mn m 0 h → f_L L [(8, fi (0)), (7, fi (c)), (6, fi (0)), (4, fi (B)), (5, fi (A)), (0, .ref 55), (1, fi (x)), (2, fi (h)), (3, fi (0))] → x_W none (1, 0, 9, 3, 11, 3, 66, 0, 0, ev_t184) 49 L [] hc 0 0 (fun r' h' => r' = some (fi (lm0_0 m x h A B)) ∧ y_in yGw h' ∧ gi h' = m) := fun hc c L hw hm hG hL => by
        refine f_il 0 rfl hL rfl ?_
        refine f_aln 5 rfl hL rfl ?_
        refine m_gfi so55 (m 55 1) rfl hw hm rfl rfl ?_
        refine f_ic rfl (by decide) (by omega) (fun ci => ?_) (fun ci => ?_)
        · have ci : (m 55 1 : Int) ≤ (0 : Int) := ci
          have e8 : mn1 m 0 h 4 4 (mn1 m 0 h 3 3 (mn1 m 0 h 2 2 (mn1 m 0 h 1 1 (mn1 m 0 h 0 0 (c))))) = c := by unfold mn1; rw [if_neg (by omega), if_neg (by omega), if_neg (by omega), if_neg (by omega), if_neg (by omega)]
          rw [e8] at hG
          rw [hG] at hL
          exact hE hc 0 _ hw hm (hL.sel [0, 1, 2, 3, 4, 5, 6, 7, 8] rfl)
        · have ci : ¬ ((m 55 1 : Int) ≤ (0 : Int)) := ci
          refine f_il 1 rfl hL rfl ?_
          refine f_aln 5 rfl hL rfl ?_
          refine f_s [fi (0), .ref 55, fi (c)] rfl rfl ?_
          refine f_il 0 rfl hL rfl ?_
          refine f_iln 7 rfl hL rfl ?_
          refine m_k1 (t90_0 (p := 0) (h := h) (by decide) (by decide) rh (fv := m 58 0) rfl (hR 58 _) (uv := m 59 0) rfl (hR 59 _)) hw hm rfl rfl rfl (m_ar so55 hw rfl) rfl (fun hc56 hw56 hm56 => ?_)
          refine f_if rfl (bI_r _) (fun e1 => ?_) (fun e1 => ?_)
          · have e1 : (bI (decide (¬ iA (iR (m 61 16) (0)) (1) = 1 ∧ m 58 0 ≤ h ∧ h ≤ m 59 0)) : Int) = (0 : Int) := e1
            have e1 : ¬ (¬ iA (iR (m 61 16) (0)) (1) = 1 ∧ m 58 0 ≤ h ∧ h ≤ m 59 0) := bI_f e1
            refine f_s [fi (0), fi (c)] rfl rfl ?_
            refine f_iadd rfl ?_
            refine f_ist [(7, fi (c + 0)), (8, fi (0)), (6, fi (0)), (4, fi (B)), (5, fi (A)), (0, .ref 55), (1, fi (x)), (2, fi (h)), (3, fi (0))] rfl (by decide) hL rfl (fun L190 hL190 => ?_)
            refine f_inc 1 [(8, fi (1)), (7, fi (c + 0)), (6, fi (0)), (4, fi (B)), (5, fi (A)), (0, .ref 55), (1, fi (x)), (2, fi (h)), (3, fi (0))] rfl (by decide) hL190 rfl rfl (fun L191 hL191 => ?_)
            refine f_goto rfl ?_
            have mb : mnB m 0 h 0 0 = false := decide_eq_false (fun z => e1 z.1)
            have e9 : mn1 m 0 h 0 0 c = c + 0 := (if_pos (by omega)).trans (by rw [mb]; rfl)
            rw [e9] at hG
            exact hI1 hc56 _ _ hw56 hm56 hG (hL191.sel [0, 1, 2, 3, 4, 5, 6, 7, 8] rfl)
          · have e1 : ¬ ((bI (decide (¬ iA (iR (m 61 16) (0)) (1) = 1 ∧ m 58 0 ≤ h ∧ h ≤ m 59 0)) : Int) = (0 : Int)) := e1
            have e1 : ¬ iA (iR (m 61 16) (0)) (1) = 1 ∧ m 58 0 ≤ h ∧ h ≤ m 59 0 := bI_t e1
            refine f_aln 5 rfl hL rfl ?_
            refine m_gfr so55 rfl hw56 rfl (by decide) ?_
            refine f_il 0 rfl hL rfl ?_
            refine m_ia sa60 (m 60 0) rfl hw56 hm56 (by omega) (by omega) (by decide) rfl ?_
            refine f_il 2 rfl hL rfl ?_
            refine m_k1 (t73 (hR 60 0) (by decide)) hw56 hm56 rfl rfl rfl rfl rfl (fun hc57 hw57 hm57 => ?_)
            refine f_if rfl (bI_r _) (fun e2 => ?_) (fun e2 => ?_)
            · have e2 : (bI (decide (iA (iR (m 60 0) (0)) (1) = 1)) : Int) = (0 : Int) := e2
              have e2 : ¬ (iA (iR (m 60 0) (0)) (1) = 1) := bI_f e2
              refine f_s [fi (0), fi (c)] rfl rfl ?_
              refine f_iadd rfl ?_
              refine f_ist [(7, fi (c + 0)), (8, fi (0)), (6, fi (0)), (4, fi (B)), (5, fi (A)), (0, .ref 55), (1, fi (x)), (2, fi (h)), (3, fi (0))] rfl (by decide) hL rfl (fun L192 hL192 => ?_)
              refine f_inc 1 [(8, fi (1)), (7, fi (c + 0)), (6, fi (0)), (4, fi (B)), (5, fi (A)), (0, .ref 55), (1, fi (x)), (2, fi (h)), (3, fi (0))] rfl (by decide) hL192 rfl rfl (fun L193 hL193 => ?_)
              refine f_goto rfl ?_
              have mb : mnB m 0 h 0 0 = false := decide_eq_false (fun z => e2 z.2)
              have e9 : mn1 m 0 h 0 0 c = c + 0 := (if_pos (by omega)).trans (by rw [mb]; rfl)
              rw [e9] at hG
              exact hI1 hc57 _ _ hw57 hm57 hG (hL193.sel [0, 1, 2, 3, 4, 5, 6, 7, 8] rfl)
            · have e2 : ¬ ((bI (decide (iA (iR (m 60 0) (0)) (1) = 1)) : Int) = (0 : Int)) := e2
              have e2 : iA (iR (m 60 0) (0)) (1) = 1 := bI_t e2
              refine f_s [fi (1), fi (c)] rfl rfl ?_
              refine f_goto rfl ?_
              refine f_iadd rfl ?_
              refine f_ist [(7, fi (c + 1)), (8, fi (0)), (6, fi (0)), (4, fi (B)), (5, fi (A)), (0, .ref 55), (1, fi (x)), (2, fi (h)), (3, fi (0))] rfl (by decide) hL rfl (fun L194 hL194 => ?_)
              refine f_inc 1 [(8, fi (1)), (7, fi (c + 1)), (6, fi (0)), (4, fi (B)), (5, fi (A)), (0, .ref 55), (1, fi (x)), (2, fi (h)), (3, fi (0))] rfl (by decide) hL194 rfl rfl (fun L195 hL195 => ?_)
              refine f_goto rfl ?_
              have mb : mnB m 0 h 0 0 = true := decide_eq_true ⟨e1, e2⟩
              have e9 : mn1 m 0 h 0 0 c = c + 1 := (if_pos (by omega)).trans (by rw [mb]; rfl)
              rw [e9] at hG
              exact hI1 hc57 _ _ hw57 hm57 hG (hL195.sel [0, 1, 2, 3, 4, 5, 6, 7, 8] rfl)
      refine f_s [fi (0)] rfl rfl ?_
      refine f_ist [(7, fi (0)), (6, fi (0)), (4, fi (B)), (5, fi (A)), (0, .ref 55), (1, fi (x)), (2, fi (h)), (3, fi (0))] rfl (by decide) hL rfl (fun L196 hL196 => ?_)
      refine f_s [fi (0)] rfl rfl ?_
      refine f_ist [(8, fi (0)), (7, fi (0)), (6, fi (0)), (4, fi (B)), (5, fi (A)), (0, .ref 55), (1, fi (x)), (2, fi (h)), (3, fi (0))] rfl (by decide) hL196 rfl (fun L197 hL197 => ?_)
      exact hI0 hc 0 _ hw hm rfl (hL197.sel [0, 1, 2, 3, 4, 5, 6, 7, 8] rfl)
  refine f_aln 0 rfl hL rfl ?_
  refine f_iln 1 rfl hL rfl ?_
  refine m_k1 (t61 hp.1 hp.2 rx) hw hm rfl rfl rfl (m_ar so55 hw rfl) rfl (fun hc58 hw58 hm58 => ?_)
  refine f_if rfl (bI_r _) (fun _ => ?_) (fun c => absurd (show ¬ (bI (decide (0 ≤ x ∧ x < m 55 1)) : Int) = (0 : Int) from (by rw [decide_eq_true hx]; decide)) c)
  refine f_iln 2 rfl hL rfl ?_
  refine f_i2l rfl (by omega) ?_
  refine f_s [fl (0), fl (h)] rfl rfl ?_
  refine f_ldc2 (9) rfl rfl ?_
  refine m_k1 (t_in h 0 9 (by omega) (by decide) (by decide)) hw58 hm58 rfl rfl rfl rfl rfl (fun hc59 hw59 hm59 => ?_)
  refine f_if rfl (bI_r _) (fun _ => ?_) (fun c => absurd (show ¬ (bI (decide (0 ≤ h ∧ h ≤ 9)) : Int) = (0 : Int) from (by rw [decide_eq_true hh]; decide)) c)
  refine f_s [fi (1)] rfl rfl ?_
  refine f_ist [(4, fi (1)), (0, .ref 55), (1, fi (x)), (2, fi (h)), (3, fi (0))] rfl (by decide) hL rfl (fun L198 hL198 => ?_)
  refine f_s [fi (1)] rfl rfl ?_
  refine f_ist [(5, fi (1)), (4, fi (1)), (0, .ref 55), (1, fi (x)), (2, fi (h)), (3, fi (0))] rfl (by decide) hL198 rfl (fun L199 hL199 => ?_)
  refine f_s [fi (0)] rfl rfl ?_
  refine f_ist [(6, fi (0)), (5, fi (1)), (4, fi (1)), (0, .ref 55), (1, fi (x)), (2, fi (h)), (3, fi (0))] rfl (by decide) hL199 rfl (fun L200 hL200 => ?_)
  exact hK0 hc59 1 1 _ hw59 hm59 (List.mem_singleton.mpr rfl) (hL200.sel [0, 2, 1, 3, 4, 5, 6] rfl))
def lm1_4 (m : Nat → Nat → Int) (x h A B : Int) : Int := (A - B).tdiv (eG (A - B) A)
def lm1_3 (m : Nat → Nat → Int) (x h A B : Int) : Int := if 3 < m 55 0 then (if myB m 3 h x = true then lm1_4 m x h (A * mn m 3 h) (B * (mn m 3 h - 1)) else lm1_4 m x h A B) else (A - B).tdiv (eG (A - B) A)
def lm1_2 (m : Nat → Nat → Int) (x h A B : Int) : Int := if 2 < m 55 0 then (if myB m 2 h x = true then lm1_3 m x h (A * mn m 2 h) (B * (mn m 2 h - 1)) else lm1_3 m x h A B) else (A - B).tdiv (eG (A - B) A)
def lm1_1 (m : Nat → Nat → Int) (x h A B : Int) : Int := if 1 < m 55 0 then (if myB m 1 h x = true then lm1_2 m x h (A * mn m 1 h) (B * (mn m 1 h - 1)) else lm1_2 m x h A B) else (A - B).tdiv (eG (A - B) A)
def lm1_0 (m : Nat → Nat → Int) (x h A B : Int) : Int := if 0 < m 55 0 then (if myB m 0 h x = true then lm1_1 m x h (A * mn m 0 h) (B * (mn m 0 h - 1)) else lm1_1 m x h A B) else (A - B).tdiv (eG (A - B) A)
theorem t184_1_un {m : Nat → Nat → Int} (hp : 0 ≤ m 55 1 ∧ m 55 1 ≤ 5) {x : Int} (rx : -2147483648 ≤ x ∧ x ≤ 2147483647) {h : Int} (rh : -2147483648 ≤ h ∧ h ≤ 2147483647) (h0 : ¬ (0 ≤ x ∧ x < m 55 1)) : h_M 184 [.ref 55, fi (x), fi (h), fi (1)] m (some (fi (-1))) m := h_M_of (R := ev_r184) rfl (fun hc hw hm => by
  have hL : f_L (lv_args 0 [.ref 55, fi (x), fi (h), fi (1)]) [(0, .ref 55), (1, fi (x)), (2, fi (h)), (3, fi (1))] := f_L_of rfl
  generalize lv_args 0 [.ref 55, fi (x), fi (h), fi (1)] = L at hL
  show x_W none (1, 0, 9, 3, 11, 3, 66, 0, 0, ev_t184) 0 L [] hc 0 0 _
  have hR := gi_R hm
  refine f_aln 0 rfl hL rfl ?_
  refine f_iln 1 rfl hL rfl ?_
  refine m_k1 (t61 hp.1 hp.2 rx) hw hm rfl rfl rfl (m_ar so55 hw rfl) rfl (fun hc1 hw1 hm1 => ?_)
  refine f_if rfl (bI_r _) (fun c => absurd (show ¬ (bI (decide (0 ≤ x ∧ x < m 55 1)) : Int) = (0 : Int) from c) (by rw [decide_eq_false h0]; exact fun z => z rfl)) (fun _ => ?_)
  refine f_s [fi (-1)] rfl rfl ?_
  exact f_ret1 rfl ⟨rfl, hw1, hm1⟩)
theorem t184_1_out {m : Nat → Nat → Int} (hp : 0 ≤ m 55 1 ∧ m 55 1 ≤ 5) {x : Int} (rx : -2147483648 ≤ x ∧ x ≤ 2147483647) {h : Int} (rh : -2147483648 ≤ h ∧ h ≤ 2147483647) (hx : 0 ≤ x ∧ x < m 55 1) (h0 : ¬ (0 ≤ h ∧ h ≤ 9)) : h_M 184 [.ref 55, fi (x), fi (h), fi (1)] m (some (fi (-2))) m := h_M_of (R := ev_r184) rfl (fun hc hw hm => by
  have hL : f_L (lv_args 0 [.ref 55, fi (x), fi (h), fi (1)]) [(0, .ref 55), (1, fi (x)), (2, fi (h)), (3, fi (1))] := f_L_of rfl
  generalize lv_args 0 [.ref 55, fi (x), fi (h), fi (1)] = L at hL
  show x_W none (1, 0, 9, 3, 11, 3, 66, 0, 0, ev_t184) 0 L [] hc 0 0 _
  have hR := gi_R hm
  refine f_aln 0 rfl hL rfl ?_
  refine f_iln 1 rfl hL rfl ?_
  refine m_k1 (t61 hp.1 hp.2 rx) hw hm rfl rfl rfl (m_ar so55 hw rfl) rfl (fun hc1 hw1 hm1 => ?_)
  refine f_if rfl (bI_r _) (fun _ => ?_) (fun c => absurd (show ¬ (bI (decide (0 ≤ x ∧ x < m 55 1)) : Int) = (0 : Int) from (by rw [decide_eq_true hx]; decide)) c)
  refine f_iln 2 rfl hL rfl ?_
  refine f_i2l rfl (by omega) ?_
  refine f_s [fl (0), fl (h)] rfl rfl ?_
  refine f_ldc2 (9) rfl rfl ?_
  refine m_k1 (t_in h 0 9 (by omega) (by decide) (by decide)) hw1 hm1 rfl rfl rfl rfl rfl (fun hc2 hw2 hm2 => ?_)
  refine f_if rfl (bI_r _) (fun c => absurd (show ¬ (bI (decide (0 ≤ h ∧ h ≤ 9)) : Int) = (0 : Int) from c) (by rw [decide_eq_false h0]; exact fun z => z rfl)) (fun _ => ?_)
  refine f_bipush (n := -2) rfl (by decide) ?_
  exact f_ret1 rfl ⟨rfl, hw2, hm2⟩)
set_option maxHeartbeats 1000000 in
theorem t184_1_ok {m : Nat → Nat → Int} (hn : 0 ≤ m 55 0 ∧ m 55 0 ≤ 4) (hp : 0 ≤ m 55 1 ∧ m 55 1 ≤ 5) {x : Int} (rx : -2147483648 ≤ x ∧ x ≤ 2147483647) {h : Int} (rh : -2147483648 ≤ h ∧ h ≤ 2147483647) (hx : 0 ≤ x ∧ x < m 55 1) (hh : 0 ≤ h ∧ h ≤ 9) (mn_1 : ∀ k : Int, (0 ≤ k ∧ k < 4) → (0 ≤ k ∧ k < m 55 0) → myB m k h x = true → 1 ≤ mn m k h) : h_M 184 [.ref 55, fi (x), fi (h), fi (1)] m (some (fi (lm1_0 m x h 1 1))) m := h_M_of (R := ev_r184) rfl (fun hc hw hm => by
  have hL : f_L (lv_args 0 [.ref 55, fi (x), fi (h), fi (1)]) [(0, .ref 55), (1, fi (x)), (2, fi (h)), (3, fi (1))] := f_L_of rfl
  generalize lv_args 0 [.ref 55, fi (x), fi (h), fi (1)] = L at hL
  show x_W none (1, 0, 9, 3, 11, 3, 66, 0, 0, ev_t184) 0 L [] hc 0 0 _
  have hR := gi_R hm
  have x5 : 0 ≤ x ∧ x < 5 := by omega
  have hK4 : ∀ (hc : ev_H) (A B : Int) (L : ev_L), y_in yGw hc → gi hc = m → (A, B) ∈ lS 4 → f_L L [(6, fi (4)), (4, fi (B)), (5, fi (A)), (0, .ref 55), (1, fi (x)), (2, fi (h)), (3, fi (1))] → x_W none (1, 0, 9, 3, 11, 3, 66, 0, 0, ev_t184) 34 L [] hc 0 0 (fun r' h' => r' = some (fi (lm1_4 m x h A B)) ∧ y_in yGw h' ∧ gi h' = m) := fun hc A B L hw hm hAB hL => by
    obtain ⟨o1, o2, o3, o4, o5, o6, o7⟩ := okp_r (lS_at (by decide) hAB)
    refine f_il 0 rfl hL rfl ?_
    refine f_aln 3 rfl hL rfl ?_
    refine m_gfi so55 (m 55 0) rfl hw hm rfl rfl ?_
    refine f_ic rfl (by decide) (by omega) (fun _ => ?_) (fun c => absurd (show (m 55 0 : Int) ≤ (4 : Int) from (by omega)) c)
    refine f_il 2 rfl hL rfl ?_
    refine f_il 1 rfl hL rfl ?_
    refine f_isub rfl ?_
    refine f_il 2 rfl hL rfl ?_
    refine m_k1 (t168 (a := A - B) (b := A) (g := eG (A - B) A) o3 (by omega) (by omega) (by omega) o1) hw hm rfl rfl rfl rfl rfl (fun hc1 hw1 hm1 => ?_)
    have hg := eu_r 40 (A - B) A _ o3 (by omega) (by omega) (by omega) o1
    refine f_ist [(6, fi (eG (A - B) A)), (4, fi (B)), (5, fi (A)), (0, .ref 55), (1, fi (x)), (2, fi (h)), (3, fi (1))] rfl (by decide) hL rfl (fun L1 hL1 => ?_)
    refine f_iln 6 rfl hL1 rfl ?_
    refine f_if rfl (by decide) (fun c => absurd (show (1 : Int) = (0 : Int) from c) (by decide)) (fun _ => ?_)
    refine f_il 2 rfl hL1 rfl ?_
    refine f_il 1 rfl hL1 rfl ?_
    refine f_isub rfl ?_
    refine f_il 0 rfl hL1 rfl ?_
    refine f_idiv rfl (by omega) (by omega) (by omega) (by omega) ?_
    refine f_goto rfl ?_
    exact f_ret1 rfl ⟨rfl, hw1, hm1⟩
  have hK3 : ∀ (hc : ev_H) (A B : Int) (L : ev_L), y_in yGw hc → gi hc = m → (A, B) ∈ lS 3 → f_L L [(6, fi (3)), (4, fi (B)), (5, fi (A)), (0, .ref 55), (1, fi (x)), (2, fi (h)), (3, fi (1))] → x_W none (1, 0, 9, 3, 11, 3, 66, 0, 0, ev_t184) 34 L [] hc 0 0 (fun r' h' => r' = some (fi (lm1_3 m x h A B)) ∧ y_in yGw h' ∧ gi h' = m) := fun hc A B L hw hm hAB hL => by
    obtain ⟨o1, o2, o3, o4, o5, o6, o7⟩ := okp_r (lS_at (by decide) hAB)
    refine f_il 0 rfl hL rfl ?_
    refine f_aln 3 rfl hL rfl ?_
    refine m_gfi so55 (m 55 0) rfl hw hm rfl rfl ?_
    refine f_ic rfl (by decide) (by omega) (fun c1 => ?_) (fun c1 => ?_)
    · have c1 : (m 55 0 : Int) ≤ (3 : Int) := c1
      refine f_il 2 rfl hL rfl ?_
      refine f_il 1 rfl hL rfl ?_
      refine f_isub rfl ?_
      refine f_il 2 rfl hL rfl ?_
      refine m_k1 (t168 (a := A - B) (b := A) (g := eG (A - B) A) o3 (by omega) (by omega) (by omega) o1) hw hm rfl rfl rfl rfl rfl (fun hc2 hw2 hm2 => ?_)
      have hg := eu_r 40 (A - B) A _ o3 (by omega) (by omega) (by omega) o1
      refine f_ist [(6, fi (eG (A - B) A)), (4, fi (B)), (5, fi (A)), (0, .ref 55), (1, fi (x)), (2, fi (h)), (3, fi (1))] rfl (by decide) hL rfl (fun L2 hL2 => ?_)
      refine f_iln 6 rfl hL2 rfl ?_
      refine f_if rfl (by decide) (fun c => absurd (show (1 : Int) = (0 : Int) from c) (by decide)) (fun _ => ?_)
      refine f_il 2 rfl hL2 rfl ?_
      refine f_il 1 rfl hL2 rfl ?_
      refine f_isub rfl ?_
      refine f_il 0 rfl hL2 rfl ?_
      refine f_idiv rfl (by omega) (by omega) (by omega) (by omega) ?_
      refine f_goto rfl ?_
      exact f_ret1 rfl ⟨by unfold lm1_3; rw [if_neg (by omega)], hw2, hm2⟩
    · have c1 : ¬ ((m 55 0 : Int) ≤ (3 : Int)) := c1
      have kk : 3 < m 55 0 := by omega
      have hE : ∀ (hc : ev_H) (p : Int) (L : ev_L), y_in yGw hc → gi hc = m → f_L L [(8, fi p), (7, fi (mn m 3 h)), (6, fi (3)), (4, fi (B)), (5, fi (A)), (0, .ref 55), (1, fi (x)), (2, fi (h)), (3, fi (1))] → x_W none (1, 0, 9, 3, 11, 3, 66, 0, 0, ev_t184) 100 L [] hc 0 0 (fun r' h' => r' = some (fi (lm1_3 m x h A B)) ∧ y_in yGw h' ∧ gi h' = m) := fun hc p L hw hm hL => by
        have mr := mn_r m 3 h
        refine f_aln 5 rfl hL rfl ?_
        refine f_s [fi (0), .ref 55] rfl rfl ?_
        refine f_iln 6 rfl hL rfl ?_
        refine f_iln 7 rfl hL rfl ?_
        refine m_k1 (t90_0 (p := x) (h := h) x5.1 x5.2 rh (fv := m 58 x.toNat) rfl (hR 58 _) (uv := m 59 x.toNat) rfl (hR 59 _)) hw hm rfl rfl rfl (m_ar so55 hw rfl) rfl (fun hc3 hw3 hm3 => ?_)
        refine f_if rfl (bI_r _) (fun d1 => ?_) (fun d1 => ?_)
        · have d1 : (bI (decide (¬ iA (iR (m 61 16) (x)) (1) = 1 ∧ m 58 x.toNat ≤ h ∧ h ≤ m 59 x.toNat)) : Int) = (0 : Int) := d1
          have d1 : ¬ (¬ iA (iR (m 61 16) (x)) (1) = 1 ∧ m 58 x.toNat ≤ h ∧ h ≤ m 59 x.toNat) := bI_f d1
          refine f_s [fi (0)] rfl rfl ?_
          refine f_ist [(8, fi (0)), (7, fi (mn m 3 h)), (6, fi (3)), (4, fi (B)), (5, fi (A)), (0, .ref 55), (1, fi (x)), (2, fi (h)), (3, fi (1))] rfl (by decide) hL rfl (fun L3 hL3 => ?_)
          refine f_il 3 rfl hL3 rfl ?_
          refine f_il 0 rfl hL3 rfl ?_
          refine f_if rfl (by decide) (fun _ => ?_) (fun c => absurd (show (0 : Int) = (0 : Int) from (by decide)) c)
          refine f_s [fi (1), fi (B)] rfl rfl ?_
          refine f_imul rfl ?_
          refine f_ist [(4, fi (B * 1)), (8, fi (0)), (7, fi (mn m 3 h)), (6, fi (3)), (5, fi (A)), (0, .ref 55), (1, fi (x)), (2, fi (h)), (3, fi (1))] rfl (by decide) hL3 rfl (fun L4 hL4 => ?_)
          refine f_il 4 rfl hL4 rfl ?_
          refine f_il 1 rfl hL4 rfl ?_
          refine f_if rfl (by decide) (fun _ => ?_) (fun c => absurd (show (0 : Int) = (0 : Int) from (by decide)) c)
          refine f_s [fi (1), fi (A)] rfl rfl ?_
          refine f_imul rfl ?_
          refine f_ist [(5, fi (A * 1)), (4, fi (B * 1)), (8, fi (0)), (7, fi (mn m 3 h)), (6, fi (3)), (0, .ref 55), (1, fi (x)), (2, fi (h)), (3, fi (1))] rfl (by decide) hL4 rfl (fun L5 hL5 => ?_)
          refine f_inc 4 [(6, fi (4)), (5, fi (A * 1)), (4, fi (B * 1)), (8, fi (0)), (7, fi (mn m 3 h)), (0, .ref 55), (1, fi (x)), (2, fi (h)), (3, fi (1))] rfl (by decide) hL5 rfl rfl (fun L6 hL6 => ?_)
          refine f_goto rfl ?_
          have my : myB m 3 h x = false := decide_eq_false (fun z => d1 z.1)
          have e9 : lm1_3 m x h A B = lm1_4 m x h (A * 1) (B * 1) := (if_pos kk).trans ((if_neg (by rw [my]; decide)).trans (by rw [Int.mul_one, Int.mul_one]))
          rw [e9]
          exact hK4 hc3 _ _ _ hw3 hm3 (lS_s hAB (by decide)) (hL6.sel [0, 2, 1, 5, 6, 7, 8] rfl)
        · have d1 : ¬ ((bI (decide (¬ iA (iR (m 61 16) (x)) (1) = 1 ∧ m 58 x.toNat ≤ h ∧ h ≤ m 59 x.toNat)) : Int) = (0 : Int)) := d1
          have d1 : ¬ iA (iR (m 61 16) (x)) (1) = 1 ∧ m 58 x.toNat ≤ h ∧ h ≤ m 59 x.toNat := bI_t d1
          refine f_aln 5 rfl hL rfl ?_
          refine m_gfr so55 rfl hw3 rfl (by decide) ?_
          refine f_iln 6 rfl hL rfl ?_
          refine m_ia sa60 (m 60 (x).toNat) rfl hw3 hm3 (by omega) (by omega) (by decide) rfl ?_
          refine f_il 2 rfl hL rfl ?_
          refine m_k1 (t73 (hR 60 _) (by decide)) hw3 hm3 rfl rfl rfl rfl rfl (fun hc4 hw4 hm4 => ?_)
          refine f_if rfl (bI_r _) (fun d2 => ?_) (fun d2 => ?_)
          · have d2 : (bI (decide (iA (iR (m 60 (x).toNat) (3)) (1) = 1)) : Int) = (0 : Int) := d2
            have d2 : ¬ (iA (iR (m 60 (x).toNat) (3)) (1) = 1) := bI_f d2
            refine f_s [fi (0)] rfl rfl ?_
            refine f_ist [(8, fi (0)), (7, fi (mn m 3 h)), (6, fi (3)), (4, fi (B)), (5, fi (A)), (0, .ref 55), (1, fi (x)), (2, fi (h)), (3, fi (1))] rfl (by decide) hL rfl (fun L7 hL7 => ?_)
            refine f_il 3 rfl hL7 rfl ?_
            refine f_il 0 rfl hL7 rfl ?_
            refine f_if rfl (by decide) (fun _ => ?_) (fun c => absurd (show (0 : Int) = (0 : Int) from (by decide)) c)
            refine f_s [fi (1), fi (B)] rfl rfl ?_
            refine f_imul rfl ?_
            refine f_ist [(4, fi (B * 1)), (8, fi (0)), (7, fi (mn m 3 h)), (6, fi (3)), (5, fi (A)), (0, .ref 55), (1, fi (x)), (2, fi (h)), (3, fi (1))] rfl (by decide) hL7 rfl (fun L8 hL8 => ?_)
            refine f_il 4 rfl hL8 rfl ?_
            refine f_il 1 rfl hL8 rfl ?_
            refine f_if rfl (by decide) (fun _ => ?_) (fun c => absurd (show (0 : Int) = (0 : Int) from (by decide)) c)
            refine f_s [fi (1), fi (A)] rfl rfl ?_
            refine f_imul rfl ?_
            refine f_ist [(5, fi (A * 1)), (4, fi (B * 1)), (8, fi (0)), (7, fi (mn m 3 h)), (6, fi (3)), (0, .ref 55), (1, fi (x)), (2, fi (h)), (3, fi (1))] rfl (by decide) hL8 rfl (fun L9 hL9 => ?_)
            refine f_inc 4 [(6, fi (4)), (5, fi (A * 1)), (4, fi (B * 1)), (8, fi (0)), (7, fi (mn m 3 h)), (0, .ref 55), (1, fi (x)), (2, fi (h)), (3, fi (1))] rfl (by decide) hL9 rfl rfl (fun L10 hL10 => ?_)
            refine f_goto rfl ?_
            have my : myB m 3 h x = false := decide_eq_false (fun z => d2 z.2.1)
            have e9 : lm1_3 m x h A B = lm1_4 m x h (A * 1) (B * 1) := (if_pos kk).trans ((if_neg (by rw [my]; decide)).trans (by rw [Int.mul_one, Int.mul_one]))
            rw [e9]
            exact hK4 hc4 _ _ _ hw4 hm4 (lS_s hAB (by decide)) (hL10.sel [0, 2, 1, 5, 6, 7, 8] rfl)
          · have d2 : ¬ ((bI (decide (iA (iR (m 60 (x).toNat) (3)) (1) = 1)) : Int) = (0 : Int)) := d2
            have d2 : iA (iR (m 60 (x).toNat) (3)) (1) = 1 := bI_t d2
            refine f_aln 5 rfl hL rfl ?_
            refine m_gfr so55 rfl hw4 rfl (by decide) ?_
            refine f_bipush (n := 15) rfl (by decide) ?_
            refine m_ia sa61 (m 61 15) rfl hw4 hm4 (by omega) (by omega) (by decide) rfl ?_
            refine f_il 2 rfl hL rfl ?_
            refine m_k1 (t73 (hR 61 15) (by decide)) hw4 hm4 rfl rfl rfl rfl rfl (fun hc5 hw5 hm5 => ?_)
            refine f_if rfl (bI_r _) (fun d3 => ?_) (fun d3 => ?_)
            · have d3 : ¬ (bI (decide (iA (iR (m 61 15) (3)) (1) = 1)) : Int) = (0 : Int) := d3
              have d3 : iA (iR (m 61 15) (3)) (1) = 1 := bI_t d3
              refine f_s [fi (0)] rfl rfl ?_
              refine f_ist [(8, fi (0)), (7, fi (mn m 3 h)), (6, fi (3)), (4, fi (B)), (5, fi (A)), (0, .ref 55), (1, fi (x)), (2, fi (h)), (3, fi (1))] rfl (by decide) hL rfl (fun L11 hL11 => ?_)
              refine f_il 3 rfl hL11 rfl ?_
              refine f_il 0 rfl hL11 rfl ?_
              refine f_if rfl (by decide) (fun _ => ?_) (fun c => absurd (show (0 : Int) = (0 : Int) from (by decide)) c)
              refine f_s [fi (1), fi (B)] rfl rfl ?_
              refine f_imul rfl ?_
              refine f_ist [(4, fi (B * 1)), (8, fi (0)), (7, fi (mn m 3 h)), (6, fi (3)), (5, fi (A)), (0, .ref 55), (1, fi (x)), (2, fi (h)), (3, fi (1))] rfl (by decide) hL11 rfl (fun L12 hL12 => ?_)
              refine f_il 4 rfl hL12 rfl ?_
              refine f_il 1 rfl hL12 rfl ?_
              refine f_if rfl (by decide) (fun _ => ?_) (fun c => absurd (show (0 : Int) = (0 : Int) from (by decide)) c)
              refine f_s [fi (1), fi (A)] rfl rfl ?_
              refine f_imul rfl ?_
              refine f_ist [(5, fi (A * 1)), (4, fi (B * 1)), (8, fi (0)), (7, fi (mn m 3 h)), (6, fi (3)), (0, .ref 55), (1, fi (x)), (2, fi (h)), (3, fi (1))] rfl (by decide) hL12 rfl (fun L13 hL13 => ?_)
              refine f_inc 4 [(6, fi (4)), (5, fi (A * 1)), (4, fi (B * 1)), (8, fi (0)), (7, fi (mn m 3 h)), (0, .ref 55), (1, fi (x)), (2, fi (h)), (3, fi (1))] rfl (by decide) hL13 rfl rfl (fun L14 hL14 => ?_)
              refine f_goto rfl ?_
              have my : myB m 3 h x = false := decide_eq_false (fun z => z.2.2 d3)
              have e9 : lm1_3 m x h A B = lm1_4 m x h (A * 1) (B * 1) := (if_pos kk).trans ((if_neg (by rw [my]; decide)).trans (by rw [Int.mul_one, Int.mul_one]))
              rw [e9]
              exact hK4 hc5 _ _ _ hw5 hm5 (lS_s hAB (by decide)) (hL14.sel [0, 2, 1, 5, 6, 7, 8] rfl)
            · have d3 : ¬ (¬ (bI (decide (iA (iR (m 61 15) (3)) (1) = 1)) : Int) = (0 : Int)) := d3
              have d3 : ¬ (iA (iR (m 61 15) (3)) (1) = 1) := bI_n d3
              refine f_s [fi (1)] rfl rfl ?_
              refine f_goto rfl ?_
              refine f_ist [(8, fi (1)), (7, fi (mn m 3 h)), (6, fi (3)), (4, fi (B)), (5, fi (A)), (0, .ref 55), (1, fi (x)), (2, fi (h)), (3, fi (1))] rfl (by decide) hL rfl (fun L15 hL15 => ?_)
              refine f_il 3 rfl hL15 rfl ?_
              refine f_il 0 rfl hL15 rfl ?_
              refine f_if rfl (by decide) (fun c => absurd (show (1 : Int) = (0 : Int) from c) (by decide)) (fun _ => ?_)
              refine f_il 1 rfl hL15 rfl ?_
              refine f_s [fi (1), fi (mn m 3 h), fi (B)] rfl rfl ?_
              refine f_isub rfl ?_
              refine f_goto rfl ?_
              refine f_imul rfl ?_
              refine f_ist [(4, fi (B * ((mn m 3 h) - 1))), (8, fi (1)), (7, fi (mn m 3 h)), (6, fi (3)), (5, fi (A)), (0, .ref 55), (1, fi (x)), (2, fi (h)), (3, fi (1))] rfl (by decide) hL15 rfl (fun L16 hL16 => ?_)
              refine f_il 4 rfl hL16 rfl ?_
              refine f_il 1 rfl hL16 rfl ?_
              refine f_if rfl (by decide) (fun c => absurd (show (1 : Int) = (0 : Int) from c) (by decide)) (fun _ => ?_)
              refine f_il 2 rfl hL16 rfl ?_
              refine f_goto rfl ?_
              refine f_imul rfl ?_
              refine f_ist [(5, fi (A * (mn m 3 h))), (4, fi (B * ((mn m 3 h) - 1))), (8, fi (1)), (7, fi (mn m 3 h)), (6, fi (3)), (0, .ref 55), (1, fi (x)), (2, fi (h)), (3, fi (1))] rfl (by decide) hL16 rfl (fun L17 hL17 => ?_)
              refine f_inc 4 [(6, fi (4)), (5, fi (A * (mn m 3 h))), (4, fi (B * ((mn m 3 h) - 1))), (8, fi (1)), (7, fi (mn m 3 h)), (0, .ref 55), (1, fi (x)), (2, fi (h)), (3, fi (1))] rfl (by decide) hL17 rfl rfl (fun L18 hL18 => ?_)
              refine f_goto rfl ?_
              have my : myB m 3 h x = true := decide_eq_true ⟨d1, d2, d3⟩
              have e9 : lm1_3 m x h A B = lm1_4 m x h (A * mn m 3 h) (B * (mn m 3 h - 1)) := (if_pos kk).trans (if_pos my)
              rw [e9]
              exact hK4 hc5 _ _ _ hw5 hm5 (lS_s hAB (lQ_c (mn_1 3 (by decide) ⟨by decide, kk⟩ my) mr.2)) (hL18.sel [0, 2, 1, 5, 6, 7, 8] rfl)
      have hI5 : ∀ (hc : ev_H) (c : Int) (L : ev_L), y_in yGw hc → gi hc = m → c = mn m 3 h → f_L L [(8, fi (5)), (7, fi (c)), (6, fi (3)), (4, fi (B)), (5, fi (A)), (0, .ref 55), (1, fi (x)), (2, fi (h)), (3, fi (1))] → x_W none (1, 0, 9, 3, 11, 3, 66, 0, 0, ev_t184) 49 L [] hc 0 0 (fun r' h' => r' = some (fi (lm1_3 m x h A B)) ∧ y_in yGw h' ∧ gi h' = m) := fun hc c L hw hm hG hL => by
        refine f_il 0 rfl hL rfl ?_
        refine f_aln 5 rfl hL rfl ?_
        refine m_gfi so55 (m 55 1) rfl hw hm rfl rfl ?_
        refine f_ic rfl (by decide) (by omega) (fun _ => ?_) (fun c => absurd (show (m 55 1 : Int) ≤ (5 : Int) from (by omega)) c)
        rw [hG] at hL
        exact hE hc 5 _ hw hm (hL.sel [0, 1, 2, 3, 4, 5, 6, 7, 8] rfl)
      have hI4 : ∀ (hc : ev_H) (c : Int) (L : ev_L), y_in yGw hc → gi hc = m → mn1 m 3 h 4 4 (c) = mn m 3 h → f_L L [(8, fi (4)), (7, fi (c)), (6, fi (3)), (4, fi (B)), (5, fi (A)), (0, .ref 55), (1, fi (x)), (2, fi (h)), (3, fi (1))] → x_W none (1, 0, 9, 3, 11, 3, 66, 0, 0, ev_t184) 49 L [] hc 0 0 (fun r' h' => r' = some (fi (lm1_3 m x h A B)) ∧ y_in yGw h' ∧ gi h' = m) := fun hc c L hw hm hG hL => by
        refine f_il 0 rfl hL rfl ?_
        refine f_aln 5 rfl hL rfl ?_
        refine m_gfi so55 (m 55 1) rfl hw hm rfl rfl ?_
        refine f_ic rfl (by decide) (by omega) (fun ci => ?_) (fun ci => ?_)
        · have ci : (m 55 1 : Int) ≤ (4 : Int) := ci
          have e8 : mn1 m 3 h 4 4 (c) = c := by unfold mn1; rw [if_neg (by omega)]
          rw [e8] at hG
          rw [hG] at hL
          exact hE hc 4 _ hw hm (hL.sel [0, 1, 2, 3, 4, 5, 6, 7, 8] rfl)
        · have ci : ¬ ((m 55 1 : Int) ≤ (4 : Int)) := ci
          refine f_il 1 rfl hL rfl ?_
          refine f_aln 5 rfl hL rfl ?_
          refine f_s [fi (0), .ref 55, fi (c)] rfl rfl ?_
          refine f_il 0 rfl hL rfl ?_
          refine f_iln 7 rfl hL rfl ?_
          refine m_k1 (t90_0 (p := 4) (h := h) (by decide) (by decide) rh (fv := m 58 4) rfl (hR 58 _) (uv := m 59 4) rfl (hR 59 _)) hw hm rfl rfl rfl (m_ar so55 hw rfl) rfl (fun hc6 hw6 hm6 => ?_)
          refine f_if rfl (bI_r _) (fun e1 => ?_) (fun e1 => ?_)
          · have e1 : (bI (decide (¬ iA (iR (m 61 16) (4)) (1) = 1 ∧ m 58 4 ≤ h ∧ h ≤ m 59 4)) : Int) = (0 : Int) := e1
            have e1 : ¬ (¬ iA (iR (m 61 16) (4)) (1) = 1 ∧ m 58 4 ≤ h ∧ h ≤ m 59 4) := bI_f e1
            refine f_s [fi (0), fi (c)] rfl rfl ?_
            refine f_iadd rfl ?_
            refine f_ist [(7, fi (c + 0)), (8, fi (4)), (6, fi (3)), (4, fi (B)), (5, fi (A)), (0, .ref 55), (1, fi (x)), (2, fi (h)), (3, fi (1))] rfl (by decide) hL rfl (fun L19 hL19 => ?_)
            refine f_inc 1 [(8, fi (5)), (7, fi (c + 0)), (6, fi (3)), (4, fi (B)), (5, fi (A)), (0, .ref 55), (1, fi (x)), (2, fi (h)), (3, fi (1))] rfl (by decide) hL19 rfl rfl (fun L20 hL20 => ?_)
            refine f_goto rfl ?_
            have mb : mnB m 3 h 4 4 = false := decide_eq_false (fun z => e1 z.1)
            have e9 : mn1 m 3 h 4 4 c = c + 0 := (if_pos (by omega)).trans (by rw [mb]; rfl)
            rw [e9] at hG
            exact hI5 hc6 _ _ hw6 hm6 hG (hL20.sel [0, 1, 2, 3, 4, 5, 6, 7, 8] rfl)
          · have e1 : ¬ ((bI (decide (¬ iA (iR (m 61 16) (4)) (1) = 1 ∧ m 58 4 ≤ h ∧ h ≤ m 59 4)) : Int) = (0 : Int)) := e1
            have e1 : ¬ iA (iR (m 61 16) (4)) (1) = 1 ∧ m 58 4 ≤ h ∧ h ≤ m 59 4 := bI_t e1
            refine f_aln 5 rfl hL rfl ?_
            refine m_gfr so55 rfl hw6 rfl (by decide) ?_
            refine f_il 0 rfl hL rfl ?_
            refine m_ia sa60 (m 60 4) rfl hw6 hm6 (by omega) (by omega) (by decide) rfl ?_
            refine f_il 2 rfl hL rfl ?_
            refine m_k1 (t73 (hR 60 4) (by decide)) hw6 hm6 rfl rfl rfl rfl rfl (fun hc7 hw7 hm7 => ?_)
            refine f_if rfl (bI_r _) (fun e2 => ?_) (fun e2 => ?_)
            · have e2 : (bI (decide (iA (iR (m 60 4) (3)) (1) = 1)) : Int) = (0 : Int) := e2
              have e2 : ¬ (iA (iR (m 60 4) (3)) (1) = 1) := bI_f e2
              refine f_s [fi (0), fi (c)] rfl rfl ?_
              refine f_iadd rfl ?_
              refine f_ist [(7, fi (c + 0)), (8, fi (4)), (6, fi (3)), (4, fi (B)), (5, fi (A)), (0, .ref 55), (1, fi (x)), (2, fi (h)), (3, fi (1))] rfl (by decide) hL rfl (fun L21 hL21 => ?_)
              refine f_inc 1 [(8, fi (5)), (7, fi (c + 0)), (6, fi (3)), (4, fi (B)), (5, fi (A)), (0, .ref 55), (1, fi (x)), (2, fi (h)), (3, fi (1))] rfl (by decide) hL21 rfl rfl (fun L22 hL22 => ?_)
              refine f_goto rfl ?_
              have mb : mnB m 3 h 4 4 = false := decide_eq_false (fun z => e2 z.2)
              have e9 : mn1 m 3 h 4 4 c = c + 0 := (if_pos (by omega)).trans (by rw [mb]; rfl)
              rw [e9] at hG
              exact hI5 hc7 _ _ hw7 hm7 hG (hL22.sel [0, 1, 2, 3, 4, 5, 6, 7, 8] rfl)
            · have e2 : ¬ ((bI (decide (iA (iR (m 60 4) (3)) (1) = 1)) : Int) = (0 : Int)) := e2
              have e2 : iA (iR (m 60 4) (3)) (1) = 1 := bI_t e2
              refine f_s [fi (1), fi (c)] rfl rfl ?_
              refine f_goto rfl ?_
              refine f_iadd rfl ?_
              refine f_ist [(7, fi (c + 1)), (8, fi (4)), (6, fi (3)), (4, fi (B)), (5, fi (A)), (0, .ref 55), (1, fi (x)), (2, fi (h)), (3, fi (1))] rfl (by decide) hL rfl (fun L23 hL23 => ?_)
              refine f_inc 1 [(8, fi (5)), (7, fi (c + 1)), (6, fi (3)), (4, fi (B)), (5, fi (A)), (0, .ref 55), (1, fi (x)), (2, fi (h)), (3, fi (1))] rfl (by decide) hL23 rfl rfl (fun L24 hL24 => ?_)
              refine f_goto rfl ?_
              have mb : mnB m 3 h 4 4 = true := decide_eq_true ⟨e1, e2⟩
              have e9 : mn1 m 3 h 4 4 c = c + 1 := (if_pos (by omega)).trans (by rw [mb]; rfl)
              rw [e9] at hG
              exact hI5 hc7 _ _ hw7 hm7 hG (hL24.sel [0, 1, 2, 3, 4, 5, 6, 7, 8] rfl)
      have hI3 : ∀ (hc : ev_H) (c : Int) (L : ev_L), y_in yGw hc → gi hc = m → mn1 m 3 h 4 4 (mn1 m 3 h 3 3 (c)) = mn m 3 h → f_L L [(8, fi (3)), (7, fi (c)), (6, fi (3)), (4, fi (B)), (5, fi (A)), (0, .ref 55), (1, fi (x)), (2, fi (h)), (3, fi (1))] → x_W none (1, 0, 9, 3, 11, 3, 66, 0, 0, ev_t184) 49 L [] hc 0 0 (fun r' h' => r' = some (fi (lm1_3 m x h A B)) ∧ y_in yGw h' ∧ gi h' = m) := fun hc c L hw hm hG hL => by
        refine f_il 0 rfl hL rfl ?_
        refine f_aln 5 rfl hL rfl ?_
        refine m_gfi so55 (m 55 1) rfl hw hm rfl rfl ?_
        refine f_ic rfl (by decide) (by omega) (fun ci => ?_) (fun ci => ?_)
        · have ci : (m 55 1 : Int) ≤ (3 : Int) := ci
          have e8 : mn1 m 3 h 4 4 (mn1 m 3 h 3 3 (c)) = c := by unfold mn1; rw [if_neg (by omega), if_neg (by omega)]
          rw [e8] at hG
          rw [hG] at hL
          exact hE hc 3 _ hw hm (hL.sel [0, 1, 2, 3, 4, 5, 6, 7, 8] rfl)
        · have ci : ¬ ((m 55 1 : Int) ≤ (3 : Int)) := ci
          refine f_il 1 rfl hL rfl ?_
          refine f_aln 5 rfl hL rfl ?_
          refine f_s [fi (0), .ref 55, fi (c)] rfl rfl ?_
          refine f_il 0 rfl hL rfl ?_
          refine f_iln 7 rfl hL rfl ?_
          refine m_k1 (t90_0 (p := 3) (h := h) (by decide) (by decide) rh (fv := m 58 3) rfl (hR 58 _) (uv := m 59 3) rfl (hR 59 _)) hw hm rfl rfl rfl (m_ar so55 hw rfl) rfl (fun hc8 hw8 hm8 => ?_)
          refine f_if rfl (bI_r _) (fun e1 => ?_) (fun e1 => ?_)
          · have e1 : (bI (decide (¬ iA (iR (m 61 16) (3)) (1) = 1 ∧ m 58 3 ≤ h ∧ h ≤ m 59 3)) : Int) = (0 : Int) := e1
            have e1 : ¬ (¬ iA (iR (m 61 16) (3)) (1) = 1 ∧ m 58 3 ≤ h ∧ h ≤ m 59 3) := bI_f e1
            refine f_s [fi (0), fi (c)] rfl rfl ?_
            refine f_iadd rfl ?_
            refine f_ist [(7, fi (c + 0)), (8, fi (3)), (6, fi (3)), (4, fi (B)), (5, fi (A)), (0, .ref 55), (1, fi (x)), (2, fi (h)), (3, fi (1))] rfl (by decide) hL rfl (fun L25 hL25 => ?_)
            refine f_inc 1 [(8, fi (4)), (7, fi (c + 0)), (6, fi (3)), (4, fi (B)), (5, fi (A)), (0, .ref 55), (1, fi (x)), (2, fi (h)), (3, fi (1))] rfl (by decide) hL25 rfl rfl (fun L26 hL26 => ?_)
            refine f_goto rfl ?_
            have mb : mnB m 3 h 3 3 = false := decide_eq_false (fun z => e1 z.1)
            have e9 : mn1 m 3 h 3 3 c = c + 0 := (if_pos (by omega)).trans (by rw [mb]; rfl)
            rw [e9] at hG
            exact hI4 hc8 _ _ hw8 hm8 hG (hL26.sel [0, 1, 2, 3, 4, 5, 6, 7, 8] rfl)
          · have e1 : ¬ ((bI (decide (¬ iA (iR (m 61 16) (3)) (1) = 1 ∧ m 58 3 ≤ h ∧ h ≤ m 59 3)) : Int) = (0 : Int)) := e1
            have e1 : ¬ iA (iR (m 61 16) (3)) (1) = 1 ∧ m 58 3 ≤ h ∧ h ≤ m 59 3 := bI_t e1
            refine f_aln 5 rfl hL rfl ?_
            refine m_gfr so55 rfl hw8 rfl (by decide) ?_
            refine f_il 0 rfl hL rfl ?_
            refine m_ia sa60 (m 60 3) rfl hw8 hm8 (by omega) (by omega) (by decide) rfl ?_
            refine f_il 2 rfl hL rfl ?_
            refine m_k1 (t73 (hR 60 3) (by decide)) hw8 hm8 rfl rfl rfl rfl rfl (fun hc9 hw9 hm9 => ?_)
            refine f_if rfl (bI_r _) (fun e2 => ?_) (fun e2 => ?_)
            · have e2 : (bI (decide (iA (iR (m 60 3) (3)) (1) = 1)) : Int) = (0 : Int) := e2
              have e2 : ¬ (iA (iR (m 60 3) (3)) (1) = 1) := bI_f e2
              refine f_s [fi (0), fi (c)] rfl rfl ?_
              refine f_iadd rfl ?_
              refine f_ist [(7, fi (c + 0)), (8, fi (3)), (6, fi (3)), (4, fi (B)), (5, fi (A)), (0, .ref 55), (1, fi (x)), (2, fi (h)), (3, fi (1))] rfl (by decide) hL rfl (fun L27 hL27 => ?_)
              refine f_inc 1 [(8, fi (4)), (7, fi (c + 0)), (6, fi (3)), (4, fi (B)), (5, fi (A)), (0, .ref 55), (1, fi (x)), (2, fi (h)), (3, fi (1))] rfl (by decide) hL27 rfl rfl (fun L28 hL28 => ?_)
              refine f_goto rfl ?_
              have mb : mnB m 3 h 3 3 = false := decide_eq_false (fun z => e2 z.2)
              have e9 : mn1 m 3 h 3 3 c = c + 0 := (if_pos (by omega)).trans (by rw [mb]; rfl)
              rw [e9] at hG
              exact hI4 hc9 _ _ hw9 hm9 hG (hL28.sel [0, 1, 2, 3, 4, 5, 6, 7, 8] rfl)
            · have e2 : ¬ ((bI (decide (iA (iR (m 60 3) (3)) (1) = 1)) : Int) = (0 : Int)) := e2
              have e2 : iA (iR (m 60 3) (3)) (1) = 1 := bI_t e2
              refine f_s [fi (1), fi (c)] rfl rfl ?_
              refine f_goto rfl ?_
              refine f_iadd rfl ?_
              refine f_ist [(7, fi (c + 1)), (8, fi (3)), (6, fi (3)), (4, fi (B)), (5, fi (A)), (0, .ref 55), (1, fi (x)), (2, fi (h)), (3, fi (1))] rfl (by decide) hL rfl (fun L29 hL29 => ?_)
              refine f_inc 1 [(8, fi (4)), (7, fi (c + 1)), (6, fi (3)), (4, fi (B)), (5, fi (A)), (0, .ref 55), (1, fi (x)), (2, fi (h)), (3, fi (1))] rfl (by decide) hL29 rfl rfl (fun L30 hL30 => ?_)
              refine f_goto rfl ?_
              have mb : mnB m 3 h 3 3 = true := decide_eq_true ⟨e1, e2⟩
              have e9 : mn1 m 3 h 3 3 c = c + 1 := (if_pos (by omega)).trans (by rw [mb]; rfl)
              rw [e9] at hG
              exact hI4 hc9 _ _ hw9 hm9 hG (hL30.sel [0, 1, 2, 3, 4, 5, 6, 7, 8] rfl)
      have hI2 : ∀ (hc : ev_H) (c : Int) (L : ev_L), y_in yGw hc → gi hc = m → mn1 m 3 h 4 4 (mn1 m 3 h 3 3 (mn1 m 3 h 2 2 (c))) = mn m 3 h → f_L L [(8, fi (2)), (7, fi (c)), (6, fi (3)), (4, fi (B)), (5, fi (A)), (0, .ref 55), (1, fi (x)), (2, fi (h)), (3, fi (1))] → x_W none (1, 0, 9, 3, 11, 3, 66, 0, 0, ev_t184) 49 L [] hc 0 0 (fun r' h' => r' = some (fi (lm1_3 m x h A B)) ∧ y_in yGw h' ∧ gi h' = m) := fun hc c L hw hm hG hL => by
        refine f_il 0 rfl hL rfl ?_
        refine f_aln 5 rfl hL rfl ?_
        refine m_gfi so55 (m 55 1) rfl hw hm rfl rfl ?_
        refine f_ic rfl (by decide) (by omega) (fun ci => ?_) (fun ci => ?_)
        · have ci : (m 55 1 : Int) ≤ (2 : Int) := ci
          have e8 : mn1 m 3 h 4 4 (mn1 m 3 h 3 3 (mn1 m 3 h 2 2 (c))) = c := by unfold mn1; rw [if_neg (by omega), if_neg (by omega), if_neg (by omega)]
          rw [e8] at hG
          rw [hG] at hL
          exact hE hc 2 _ hw hm (hL.sel [0, 1, 2, 3, 4, 5, 6, 7, 8] rfl)
        · have ci : ¬ ((m 55 1 : Int) ≤ (2 : Int)) := ci
          refine f_il 1 rfl hL rfl ?_
          refine f_aln 5 rfl hL rfl ?_
          refine f_s [fi (0), .ref 55, fi (c)] rfl rfl ?_
          refine f_il 0 rfl hL rfl ?_
          refine f_iln 7 rfl hL rfl ?_
          refine m_k1 (t90_0 (p := 2) (h := h) (by decide) (by decide) rh (fv := m 58 2) rfl (hR 58 _) (uv := m 59 2) rfl (hR 59 _)) hw hm rfl rfl rfl (m_ar so55 hw rfl) rfl (fun hc10 hw10 hm10 => ?_)
          refine f_if rfl (bI_r _) (fun e1 => ?_) (fun e1 => ?_)
          · have e1 : (bI (decide (¬ iA (iR (m 61 16) (2)) (1) = 1 ∧ m 58 2 ≤ h ∧ h ≤ m 59 2)) : Int) = (0 : Int) := e1
            have e1 : ¬ (¬ iA (iR (m 61 16) (2)) (1) = 1 ∧ m 58 2 ≤ h ∧ h ≤ m 59 2) := bI_f e1
            refine f_s [fi (0), fi (c)] rfl rfl ?_
            refine f_iadd rfl ?_
            refine f_ist [(7, fi (c + 0)), (8, fi (2)), (6, fi (3)), (4, fi (B)), (5, fi (A)), (0, .ref 55), (1, fi (x)), (2, fi (h)), (3, fi (1))] rfl (by decide) hL rfl (fun L31 hL31 => ?_)
            refine f_inc 1 [(8, fi (3)), (7, fi (c + 0)), (6, fi (3)), (4, fi (B)), (5, fi (A)), (0, .ref 55), (1, fi (x)), (2, fi (h)), (3, fi (1))] rfl (by decide) hL31 rfl rfl (fun L32 hL32 => ?_)
            refine f_goto rfl ?_
            have mb : mnB m 3 h 2 2 = false := decide_eq_false (fun z => e1 z.1)
            have e9 : mn1 m 3 h 2 2 c = c + 0 := (if_pos (by omega)).trans (by rw [mb]; rfl)
            rw [e9] at hG
            exact hI3 hc10 _ _ hw10 hm10 hG (hL32.sel [0, 1, 2, 3, 4, 5, 6, 7, 8] rfl)
          · have e1 : ¬ ((bI (decide (¬ iA (iR (m 61 16) (2)) (1) = 1 ∧ m 58 2 ≤ h ∧ h ≤ m 59 2)) : Int) = (0 : Int)) := e1
            have e1 : ¬ iA (iR (m 61 16) (2)) (1) = 1 ∧ m 58 2 ≤ h ∧ h ≤ m 59 2 := bI_t e1
            refine f_aln 5 rfl hL rfl ?_
            refine m_gfr so55 rfl hw10 rfl (by decide) ?_
            refine f_il 0 rfl hL rfl ?_
            refine m_ia sa60 (m 60 2) rfl hw10 hm10 (by omega) (by omega) (by decide) rfl ?_
            refine f_il 2 rfl hL rfl ?_
            refine m_k1 (t73 (hR 60 2) (by decide)) hw10 hm10 rfl rfl rfl rfl rfl (fun hc11 hw11 hm11 => ?_)
            refine f_if rfl (bI_r _) (fun e2 => ?_) (fun e2 => ?_)
            · have e2 : (bI (decide (iA (iR (m 60 2) (3)) (1) = 1)) : Int) = (0 : Int) := e2
              have e2 : ¬ (iA (iR (m 60 2) (3)) (1) = 1) := bI_f e2
              refine f_s [fi (0), fi (c)] rfl rfl ?_
              refine f_iadd rfl ?_
              refine f_ist [(7, fi (c + 0)), (8, fi (2)), (6, fi (3)), (4, fi (B)), (5, fi (A)), (0, .ref 55), (1, fi (x)), (2, fi (h)), (3, fi (1))] rfl (by decide) hL rfl (fun L33 hL33 => ?_)
              refine f_inc 1 [(8, fi (3)), (7, fi (c + 0)), (6, fi (3)), (4, fi (B)), (5, fi (A)), (0, .ref 55), (1, fi (x)), (2, fi (h)), (3, fi (1))] rfl (by decide) hL33 rfl rfl (fun L34 hL34 => ?_)
              refine f_goto rfl ?_
              have mb : mnB m 3 h 2 2 = false := decide_eq_false (fun z => e2 z.2)
              have e9 : mn1 m 3 h 2 2 c = c + 0 := (if_pos (by omega)).trans (by rw [mb]; rfl)
              rw [e9] at hG
              exact hI3 hc11 _ _ hw11 hm11 hG (hL34.sel [0, 1, 2, 3, 4, 5, 6, 7, 8] rfl)
            · have e2 : ¬ ((bI (decide (iA (iR (m 60 2) (3)) (1) = 1)) : Int) = (0 : Int)) := e2
              have e2 : iA (iR (m 60 2) (3)) (1) = 1 := bI_t e2
              refine f_s [fi (1), fi (c)] rfl rfl ?_
              refine f_goto rfl ?_
              refine f_iadd rfl ?_
              refine f_ist [(7, fi (c + 1)), (8, fi (2)), (6, fi (3)), (4, fi (B)), (5, fi (A)), (0, .ref 55), (1, fi (x)), (2, fi (h)), (3, fi (1))] rfl (by decide) hL rfl (fun L35 hL35 => ?_)
              refine f_inc 1 [(8, fi (3)), (7, fi (c + 1)), (6, fi (3)), (4, fi (B)), (5, fi (A)), (0, .ref 55), (1, fi (x)), (2, fi (h)), (3, fi (1))] rfl (by decide) hL35 rfl rfl (fun L36 hL36 => ?_)
              refine f_goto rfl ?_
              have mb : mnB m 3 h 2 2 = true := decide_eq_true ⟨e1, e2⟩
              have e9 : mn1 m 3 h 2 2 c = c + 1 := (if_pos (by omega)).trans (by rw [mb]; rfl)
              rw [e9] at hG
              exact hI3 hc11 _ _ hw11 hm11 hG (hL36.sel [0, 1, 2, 3, 4, 5, 6, 7, 8] rfl)
      have hI1 : ∀ (hc : ev_H) (c : Int) (L : ev_L), y_in yGw hc → gi hc = m → mn1 m 3 h 4 4 (mn1 m 3 h 3 3 (mn1 m 3 h 2 2 (mn1 m 3 h 1 1 (c)))) = mn m 3 h → f_L L [(8, fi (1)), (7, fi (c)), (6, fi (3)), (4, fi (B)), (5, fi (A)), (0, .ref 55), (1, fi (x)), (2, fi (h)), (3, fi (1))] → x_W none (1, 0, 9, 3, 11, 3, 66, 0, 0, ev_t184) 49 L [] hc 0 0 (fun r' h' => r' = some (fi (lm1_3 m x h A B)) ∧ y_in yGw h' ∧ gi h' = m) := fun hc c L hw hm hG hL => by
        refine f_il 0 rfl hL rfl ?_
        refine f_aln 5 rfl hL rfl ?_
        refine m_gfi so55 (m 55 1) rfl hw hm rfl rfl ?_
        refine f_ic rfl (by decide) (by omega) (fun ci => ?_) (fun ci => ?_)
        · have ci : (m 55 1 : Int) ≤ (1 : Int) := ci
          have e8 : mn1 m 3 h 4 4 (mn1 m 3 h 3 3 (mn1 m 3 h 2 2 (mn1 m 3 h 1 1 (c)))) = c := by unfold mn1; rw [if_neg (by omega), if_neg (by omega), if_neg (by omega), if_neg (by omega)]
          rw [e8] at hG
          rw [hG] at hL
          exact hE hc 1 _ hw hm (hL.sel [0, 1, 2, 3, 4, 5, 6, 7, 8] rfl)
        · have ci : ¬ ((m 55 1 : Int) ≤ (1 : Int)) := ci
          refine f_il 1 rfl hL rfl ?_
          refine f_aln 5 rfl hL rfl ?_
          refine f_s [fi (0), .ref 55, fi (c)] rfl rfl ?_
          refine f_il 0 rfl hL rfl ?_
          refine f_iln 7 rfl hL rfl ?_
          refine m_k1 (t90_0 (p := 1) (h := h) (by decide) (by decide) rh (fv := m 58 1) rfl (hR 58 _) (uv := m 59 1) rfl (hR 59 _)) hw hm rfl rfl rfl (m_ar so55 hw rfl) rfl (fun hc12 hw12 hm12 => ?_)
          refine f_if rfl (bI_r _) (fun e1 => ?_) (fun e1 => ?_)
          · have e1 : (bI (decide (¬ iA (iR (m 61 16) (1)) (1) = 1 ∧ m 58 1 ≤ h ∧ h ≤ m 59 1)) : Int) = (0 : Int) := e1
            have e1 : ¬ (¬ iA (iR (m 61 16) (1)) (1) = 1 ∧ m 58 1 ≤ h ∧ h ≤ m 59 1) := bI_f e1
            refine f_s [fi (0), fi (c)] rfl rfl ?_
            refine f_iadd rfl ?_
            refine f_ist [(7, fi (c + 0)), (8, fi (1)), (6, fi (3)), (4, fi (B)), (5, fi (A)), (0, .ref 55), (1, fi (x)), (2, fi (h)), (3, fi (1))] rfl (by decide) hL rfl (fun L37 hL37 => ?_)
            refine f_inc 1 [(8, fi (2)), (7, fi (c + 0)), (6, fi (3)), (4, fi (B)), (5, fi (A)), (0, .ref 55), (1, fi (x)), (2, fi (h)), (3, fi (1))] rfl (by decide) hL37 rfl rfl (fun L38 hL38 => ?_)
            refine f_goto rfl ?_
            have mb : mnB m 3 h 1 1 = false := decide_eq_false (fun z => e1 z.1)
            have e9 : mn1 m 3 h 1 1 c = c + 0 := (if_pos (by omega)).trans (by rw [mb]; rfl)
            rw [e9] at hG
            exact hI2 hc12 _ _ hw12 hm12 hG (hL38.sel [0, 1, 2, 3, 4, 5, 6, 7, 8] rfl)
          · have e1 : ¬ ((bI (decide (¬ iA (iR (m 61 16) (1)) (1) = 1 ∧ m 58 1 ≤ h ∧ h ≤ m 59 1)) : Int) = (0 : Int)) := e1
            have e1 : ¬ iA (iR (m 61 16) (1)) (1) = 1 ∧ m 58 1 ≤ h ∧ h ≤ m 59 1 := bI_t e1
            refine f_aln 5 rfl hL rfl ?_
            refine m_gfr so55 rfl hw12 rfl (by decide) ?_
            refine f_il 0 rfl hL rfl ?_
            refine m_ia sa60 (m 60 1) rfl hw12 hm12 (by omega) (by omega) (by decide) rfl ?_
            refine f_il 2 rfl hL rfl ?_
            refine m_k1 (t73 (hR 60 1) (by decide)) hw12 hm12 rfl rfl rfl rfl rfl (fun hc13 hw13 hm13 => ?_)
            refine f_if rfl (bI_r _) (fun e2 => ?_) (fun e2 => ?_)
            · have e2 : (bI (decide (iA (iR (m 60 1) (3)) (1) = 1)) : Int) = (0 : Int) := e2
              have e2 : ¬ (iA (iR (m 60 1) (3)) (1) = 1) := bI_f e2
              refine f_s [fi (0), fi (c)] rfl rfl ?_
              refine f_iadd rfl ?_
              refine f_ist [(7, fi (c + 0)), (8, fi (1)), (6, fi (3)), (4, fi (B)), (5, fi (A)), (0, .ref 55), (1, fi (x)), (2, fi (h)), (3, fi (1))] rfl (by decide) hL rfl (fun L39 hL39 => ?_)
              refine f_inc 1 [(8, fi (2)), (7, fi (c + 0)), (6, fi (3)), (4, fi (B)), (5, fi (A)), (0, .ref 55), (1, fi (x)), (2, fi (h)), (3, fi (1))] rfl (by decide) hL39 rfl rfl (fun L40 hL40 => ?_)
              refine f_goto rfl ?_
              have mb : mnB m 3 h 1 1 = false := decide_eq_false (fun z => e2 z.2)
              have e9 : mn1 m 3 h 1 1 c = c + 0 := (if_pos (by omega)).trans (by rw [mb]; rfl)
              rw [e9] at hG
              exact hI2 hc13 _ _ hw13 hm13 hG (hL40.sel [0, 1, 2, 3, 4, 5, 6, 7, 8] rfl)
            · have e2 : ¬ ((bI (decide (iA (iR (m 60 1) (3)) (1) = 1)) : Int) = (0 : Int)) := e2
              have e2 : iA (iR (m 60 1) (3)) (1) = 1 := bI_t e2
              refine f_s [fi (1), fi (c)] rfl rfl ?_
              refine f_goto rfl ?_
              refine f_iadd rfl ?_
              refine f_ist [(7, fi (c + 1)), (8, fi (1)), (6, fi (3)), (4, fi (B)), (5, fi (A)), (0, .ref 55), (1, fi (x)), (2, fi (h)), (3, fi (1))] rfl (by decide) hL rfl (fun L41 hL41 => ?_)
              refine f_inc 1 [(8, fi (2)), (7, fi (c + 1)), (6, fi (3)), (4, fi (B)), (5, fi (A)), (0, .ref 55), (1, fi (x)), (2, fi (h)), (3, fi (1))] rfl (by decide) hL41 rfl rfl (fun L42 hL42 => ?_)
              refine f_goto rfl ?_
              have mb : mnB m 3 h 1 1 = true := decide_eq_true ⟨e1, e2⟩
              have e9 : mn1 m 3 h 1 1 c = c + 1 := (if_pos (by omega)).trans (by rw [mb]; rfl)
              rw [e9] at hG
              exact hI2 hc13 _ _ hw13 hm13 hG (hL42.sel [0, 1, 2, 3, 4, 5, 6, 7, 8] rfl)
      have hI0 : ∀ (hc : ev_H) (c : Int) (L : ev_L), y_in yGw hc → gi hc = m → mn1 m 3 h 4 4 (mn1 m 3 h 3 3 (mn1 m 3 h 2 2 (mn1 m 3 h 1 1 (mn1 m 3 h 0 0 (c))))) = mn m 3 h → f_L L [(8, fi (0)), (7, fi (c)), (6, fi (3)), (4, fi (B)), (5, fi (A)), (0, .ref 55), (1, fi (x)), (2, fi (h)), (3, fi (1))] → x_W none (1, 0, 9, 3, 11, 3, 66, 0, 0, ev_t184) 49 L [] hc 0 0 (fun r' h' => r' = some (fi (lm1_3 m x h A B)) ∧ y_in yGw h' ∧ gi h' = m) := fun hc c L hw hm hG hL => by
        refine f_il 0 rfl hL rfl ?_
        refine f_aln 5 rfl hL rfl ?_
        refine m_gfi so55 (m 55 1) rfl hw hm rfl rfl ?_
        refine f_ic rfl (by decide) (by omega) (fun ci => ?_) (fun ci => ?_)
        · have ci : (m 55 1 : Int) ≤ (0 : Int) := ci
          have e8 : mn1 m 3 h 4 4 (mn1 m 3 h 3 3 (mn1 m 3 h 2 2 (mn1 m 3 h 1 1 (mn1 m 3 h 0 0 (c))))) = c := by unfold mn1; rw [if_neg (by omega), if_neg (by omega), if_neg (by omega), if_neg (by omega), if_neg (by omega)]
          rw [e8] at hG
          rw [hG] at hL
          exact hE hc 0 _ hw hm (hL.sel [0, 1, 2, 3, 4, 5, 6, 7, 8] rfl)
        · have ci : ¬ ((m 55 1 : Int) ≤ (0 : Int)) := ci
          refine f_il 1 rfl hL rfl ?_
          refine f_aln 5 rfl hL rfl ?_
          refine f_s [fi (0), .ref 55, fi (c)] rfl rfl ?_
          refine f_il 0 rfl hL rfl ?_
          refine f_iln 7 rfl hL rfl ?_
          refine m_k1 (t90_0 (p := 0) (h := h) (by decide) (by decide) rh (fv := m 58 0) rfl (hR 58 _) (uv := m 59 0) rfl (hR 59 _)) hw hm rfl rfl rfl (m_ar so55 hw rfl) rfl (fun hc14 hw14 hm14 => ?_)
          refine f_if rfl (bI_r _) (fun e1 => ?_) (fun e1 => ?_)
          · have e1 : (bI (decide (¬ iA (iR (m 61 16) (0)) (1) = 1 ∧ m 58 0 ≤ h ∧ h ≤ m 59 0)) : Int) = (0 : Int) := e1
            have e1 : ¬ (¬ iA (iR (m 61 16) (0)) (1) = 1 ∧ m 58 0 ≤ h ∧ h ≤ m 59 0) := bI_f e1
            refine f_s [fi (0), fi (c)] rfl rfl ?_
            refine f_iadd rfl ?_
            refine f_ist [(7, fi (c + 0)), (8, fi (0)), (6, fi (3)), (4, fi (B)), (5, fi (A)), (0, .ref 55), (1, fi (x)), (2, fi (h)), (3, fi (1))] rfl (by decide) hL rfl (fun L43 hL43 => ?_)
            refine f_inc 1 [(8, fi (1)), (7, fi (c + 0)), (6, fi (3)), (4, fi (B)), (5, fi (A)), (0, .ref 55), (1, fi (x)), (2, fi (h)), (3, fi (1))] rfl (by decide) hL43 rfl rfl (fun L44 hL44 => ?_)
            refine f_goto rfl ?_
            have mb : mnB m 3 h 0 0 = false := decide_eq_false (fun z => e1 z.1)
            have e9 : mn1 m 3 h 0 0 c = c + 0 := (if_pos (by omega)).trans (by rw [mb]; rfl)
            rw [e9] at hG
            exact hI1 hc14 _ _ hw14 hm14 hG (hL44.sel [0, 1, 2, 3, 4, 5, 6, 7, 8] rfl)
          · have e1 : ¬ ((bI (decide (¬ iA (iR (m 61 16) (0)) (1) = 1 ∧ m 58 0 ≤ h ∧ h ≤ m 59 0)) : Int) = (0 : Int)) := e1
            have e1 : ¬ iA (iR (m 61 16) (0)) (1) = 1 ∧ m 58 0 ≤ h ∧ h ≤ m 59 0 := bI_t e1
            refine f_aln 5 rfl hL rfl ?_
            refine m_gfr so55 rfl hw14 rfl (by decide) ?_
            refine f_il 0 rfl hL rfl ?_
            refine m_ia sa60 (m 60 0) rfl hw14 hm14 (by omega) (by omega) (by decide) rfl ?_
            refine f_il 2 rfl hL rfl ?_
            refine m_k1 (t73 (hR 60 0) (by decide)) hw14 hm14 rfl rfl rfl rfl rfl (fun hc15 hw15 hm15 => ?_)
            refine f_if rfl (bI_r _) (fun e2 => ?_) (fun e2 => ?_)
            · have e2 : (bI (decide (iA (iR (m 60 0) (3)) (1) = 1)) : Int) = (0 : Int) := e2
              have e2 : ¬ (iA (iR (m 60 0) (3)) (1) = 1) := bI_f e2
              refine f_s [fi (0), fi (c)] rfl rfl ?_
              refine f_iadd rfl ?_
              refine f_ist [(7, fi (c + 0)), (8, fi (0)), (6, fi (3)), (4, fi (B)), (5, fi (A)), (0, .ref 55), (1, fi (x)), (2, fi (h)), (3, fi (1))] rfl (by decide) hL rfl (fun L45 hL45 => ?_)
              refine f_inc 1 [(8, fi (1)), (7, fi (c + 0)), (6, fi (3)), (4, fi (B)), (5, fi (A)), (0, .ref 55), (1, fi (x)), (2, fi (h)), (3, fi (1))] rfl (by decide) hL45 rfl rfl (fun L46 hL46 => ?_)
              refine f_goto rfl ?_
              have mb : mnB m 3 h 0 0 = false := decide_eq_false (fun z => e2 z.2)
              have e9 : mn1 m 3 h 0 0 c = c + 0 := (if_pos (by omega)).trans (by rw [mb]; rfl)
              rw [e9] at hG
              exact hI1 hc15 _ _ hw15 hm15 hG (hL46.sel [0, 1, 2, 3, 4, 5, 6, 7, 8] rfl)
            · have e2 : ¬ ((bI (decide (iA (iR (m 60 0) (3)) (1) = 1)) : Int) = (0 : Int)) := e2
              have e2 : iA (iR (m 60 0) (3)) (1) = 1 := bI_t e2
              refine f_s [fi (1), fi (c)] rfl rfl ?_
              refine f_goto rfl ?_
              refine f_iadd rfl ?_
              refine f_ist [(7, fi (c + 1)), (8, fi (0)), (6, fi (3)), (4, fi (B)), (5, fi (A)), (0, .ref 55), (1, fi (x)), (2, fi (h)), (3, fi (1))] rfl (by decide) hL rfl (fun L47 hL47 => ?_)
              refine f_inc 1 [(8, fi (1)), (7, fi (c + 1)), (6, fi (3)), (4, fi (B)), (5, fi (A)), (0, .ref 55), (1, fi (x)), (2, fi (h)), (3, fi (1))] rfl (by decide) hL47 rfl rfl (fun L48 hL48 => ?_)
              refine f_goto rfl ?_
              have mb : mnB m 3 h 0 0 = true := decide_eq_true ⟨e1, e2⟩
              have e9 : mn1 m 3 h 0 0 c = c + 1 := (if_pos (by omega)).trans (by rw [mb]; rfl)
              rw [e9] at hG
              exact hI1 hc15 _ _ hw15 hm15 hG (hL48.sel [0, 1, 2, 3, 4, 5, 6, 7, 8] rfl)
      refine f_s [fi (0)] rfl rfl ?_
      refine f_ist [(7, fi (0)), (6, fi (3)), (4, fi (B)), (5, fi (A)), (0, .ref 55), (1, fi (x)), (2, fi (h)), (3, fi (1))] rfl (by decide) hL rfl (fun L49 hL49 => ?_)
      refine f_s [fi (0)] rfl rfl ?_
      refine f_ist [(8, fi (0)), (7, fi (0)), (6, fi (3)), (4, fi (B)), (5, fi (A)), (0, .ref 55), (1, fi (x)), (2, fi (h)), (3, fi (1))] rfl (by decide) hL49 rfl (fun L50 hL50 => ?_)
      exact hI0 hc 0 _ hw hm rfl (hL50.sel [0, 1, 2, 3, 4, 5, 6, 7, 8] rfl)
  have hK2 : ∀ (hc : ev_H) (A B : Int) (L : ev_L), y_in yGw hc → gi hc = m → (A, B) ∈ lS 2 → f_L L [(6, fi (2)), (4, fi (B)), (5, fi (A)), (0, .ref 55), (1, fi (x)), (2, fi (h)), (3, fi (1))] → x_W none (1, 0, 9, 3, 11, 3, 66, 0, 0, ev_t184) 34 L [] hc 0 0 (fun r' h' => r' = some (fi (lm1_2 m x h A B)) ∧ y_in yGw h' ∧ gi h' = m) := fun hc A B L hw hm hAB hL => by
    obtain ⟨o1, o2, o3, o4, o5, o6, o7⟩ := okp_r (lS_at (by decide) hAB)
    refine f_il 0 rfl hL rfl ?_
    refine f_aln 3 rfl hL rfl ?_
    refine m_gfi so55 (m 55 0) rfl hw hm rfl rfl ?_
    refine f_ic rfl (by decide) (by omega) (fun c1 => ?_) (fun c1 => ?_)
    · have c1 : (m 55 0 : Int) ≤ (2 : Int) := c1
      refine f_il 2 rfl hL rfl ?_
      refine f_il 1 rfl hL rfl ?_
      refine f_isub rfl ?_
      refine f_il 2 rfl hL rfl ?_
      refine m_k1 (t168 (a := A - B) (b := A) (g := eG (A - B) A) o3 (by omega) (by omega) (by omega) o1) hw hm rfl rfl rfl rfl rfl (fun hc16 hw16 hm16 => ?_)
      have hg := eu_r 40 (A - B) A _ o3 (by omega) (by omega) (by omega) o1
      refine f_ist [(6, fi (eG (A - B) A)), (4, fi (B)), (5, fi (A)), (0, .ref 55), (1, fi (x)), (2, fi (h)), (3, fi (1))] rfl (by decide) hL rfl (fun L51 hL51 => ?_)
      refine f_iln 6 rfl hL51 rfl ?_
      refine f_if rfl (by decide) (fun c => absurd (show (1 : Int) = (0 : Int) from c) (by decide)) (fun _ => ?_)
      refine f_il 2 rfl hL51 rfl ?_
      refine f_il 1 rfl hL51 rfl ?_
      refine f_isub rfl ?_
      refine f_il 0 rfl hL51 rfl ?_
      refine f_idiv rfl (by omega) (by omega) (by omega) (by omega) ?_
      refine f_goto rfl ?_
      exact f_ret1 rfl ⟨by unfold lm1_2; rw [if_neg (by omega)], hw16, hm16⟩
    · have c1 : ¬ ((m 55 0 : Int) ≤ (2 : Int)) := c1
      have kk : 2 < m 55 0 := by omega
      have hE : ∀ (hc : ev_H) (p : Int) (L : ev_L), y_in yGw hc → gi hc = m → f_L L [(8, fi p), (7, fi (mn m 2 h)), (6, fi (2)), (4, fi (B)), (5, fi (A)), (0, .ref 55), (1, fi (x)), (2, fi (h)), (3, fi (1))] → x_W none (1, 0, 9, 3, 11, 3, 66, 0, 0, ev_t184) 100 L [] hc 0 0 (fun r' h' => r' = some (fi (lm1_2 m x h A B)) ∧ y_in yGw h' ∧ gi h' = m) := fun hc p L hw hm hL => by
        have mr := mn_r m 2 h
        refine f_aln 5 rfl hL rfl ?_
        refine f_s [fi (0), .ref 55] rfl rfl ?_
        refine f_iln 6 rfl hL rfl ?_
        refine f_iln 7 rfl hL rfl ?_
        refine m_k1 (t90_0 (p := x) (h := h) x5.1 x5.2 rh (fv := m 58 x.toNat) rfl (hR 58 _) (uv := m 59 x.toNat) rfl (hR 59 _)) hw hm rfl rfl rfl (m_ar so55 hw rfl) rfl (fun hc17 hw17 hm17 => ?_)
        refine f_if rfl (bI_r _) (fun d1 => ?_) (fun d1 => ?_)
        · have d1 : (bI (decide (¬ iA (iR (m 61 16) (x)) (1) = 1 ∧ m 58 x.toNat ≤ h ∧ h ≤ m 59 x.toNat)) : Int) = (0 : Int) := d1
          have d1 : ¬ (¬ iA (iR (m 61 16) (x)) (1) = 1 ∧ m 58 x.toNat ≤ h ∧ h ≤ m 59 x.toNat) := bI_f d1
          refine f_s [fi (0)] rfl rfl ?_
          refine f_ist [(8, fi (0)), (7, fi (mn m 2 h)), (6, fi (2)), (4, fi (B)), (5, fi (A)), (0, .ref 55), (1, fi (x)), (2, fi (h)), (3, fi (1))] rfl (by decide) hL rfl (fun L52 hL52 => ?_)
          refine f_il 3 rfl hL52 rfl ?_
          refine f_il 0 rfl hL52 rfl ?_
          refine f_if rfl (by decide) (fun _ => ?_) (fun c => absurd (show (0 : Int) = (0 : Int) from (by decide)) c)
          refine f_s [fi (1), fi (B)] rfl rfl ?_
          refine f_imul rfl ?_
          refine f_ist [(4, fi (B * 1)), (8, fi (0)), (7, fi (mn m 2 h)), (6, fi (2)), (5, fi (A)), (0, .ref 55), (1, fi (x)), (2, fi (h)), (3, fi (1))] rfl (by decide) hL52 rfl (fun L53 hL53 => ?_)
          refine f_il 4 rfl hL53 rfl ?_
          refine f_il 1 rfl hL53 rfl ?_
          refine f_if rfl (by decide) (fun _ => ?_) (fun c => absurd (show (0 : Int) = (0 : Int) from (by decide)) c)
          refine f_s [fi (1), fi (A)] rfl rfl ?_
          refine f_imul rfl ?_
          refine f_ist [(5, fi (A * 1)), (4, fi (B * 1)), (8, fi (0)), (7, fi (mn m 2 h)), (6, fi (2)), (0, .ref 55), (1, fi (x)), (2, fi (h)), (3, fi (1))] rfl (by decide) hL53 rfl (fun L54 hL54 => ?_)
          refine f_inc 4 [(6, fi (3)), (5, fi (A * 1)), (4, fi (B * 1)), (8, fi (0)), (7, fi (mn m 2 h)), (0, .ref 55), (1, fi (x)), (2, fi (h)), (3, fi (1))] rfl (by decide) hL54 rfl rfl (fun L55 hL55 => ?_)
          refine f_goto rfl ?_
          have my : myB m 2 h x = false := decide_eq_false (fun z => d1 z.1)
          have e9 : lm1_2 m x h A B = lm1_3 m x h (A * 1) (B * 1) := (if_pos kk).trans ((if_neg (by rw [my]; decide)).trans (by rw [Int.mul_one, Int.mul_one]))
          rw [e9]
          exact hK3 hc17 _ _ _ hw17 hm17 (lS_s hAB (by decide)) (hL55.sel [0, 2, 1, 5, 6, 7, 8] rfl)
        · have d1 : ¬ ((bI (decide (¬ iA (iR (m 61 16) (x)) (1) = 1 ∧ m 58 x.toNat ≤ h ∧ h ≤ m 59 x.toNat)) : Int) = (0 : Int)) := d1
          have d1 : ¬ iA (iR (m 61 16) (x)) (1) = 1 ∧ m 58 x.toNat ≤ h ∧ h ≤ m 59 x.toNat := bI_t d1
          refine f_aln 5 rfl hL rfl ?_
          refine m_gfr so55 rfl hw17 rfl (by decide) ?_
          refine f_iln 6 rfl hL rfl ?_
          refine m_ia sa60 (m 60 (x).toNat) rfl hw17 hm17 (by omega) (by omega) (by decide) rfl ?_
          refine f_il 2 rfl hL rfl ?_
          refine m_k1 (t73 (hR 60 _) (by decide)) hw17 hm17 rfl rfl rfl rfl rfl (fun hc18 hw18 hm18 => ?_)
          refine f_if rfl (bI_r _) (fun d2 => ?_) (fun d2 => ?_)
          · have d2 : (bI (decide (iA (iR (m 60 (x).toNat) (2)) (1) = 1)) : Int) = (0 : Int) := d2
            have d2 : ¬ (iA (iR (m 60 (x).toNat) (2)) (1) = 1) := bI_f d2
            refine f_s [fi (0)] rfl rfl ?_
            refine f_ist [(8, fi (0)), (7, fi (mn m 2 h)), (6, fi (2)), (4, fi (B)), (5, fi (A)), (0, .ref 55), (1, fi (x)), (2, fi (h)), (3, fi (1))] rfl (by decide) hL rfl (fun L56 hL56 => ?_)
            refine f_il 3 rfl hL56 rfl ?_
            refine f_il 0 rfl hL56 rfl ?_
            refine f_if rfl (by decide) (fun _ => ?_) (fun c => absurd (show (0 : Int) = (0 : Int) from (by decide)) c)
            refine f_s [fi (1), fi (B)] rfl rfl ?_
            refine f_imul rfl ?_
            refine f_ist [(4, fi (B * 1)), (8, fi (0)), (7, fi (mn m 2 h)), (6, fi (2)), (5, fi (A)), (0, .ref 55), (1, fi (x)), (2, fi (h)), (3, fi (1))] rfl (by decide) hL56 rfl (fun L57 hL57 => ?_)
            refine f_il 4 rfl hL57 rfl ?_
            refine f_il 1 rfl hL57 rfl ?_
            refine f_if rfl (by decide) (fun _ => ?_) (fun c => absurd (show (0 : Int) = (0 : Int) from (by decide)) c)
            refine f_s [fi (1), fi (A)] rfl rfl ?_
            refine f_imul rfl ?_
            refine f_ist [(5, fi (A * 1)), (4, fi (B * 1)), (8, fi (0)), (7, fi (mn m 2 h)), (6, fi (2)), (0, .ref 55), (1, fi (x)), (2, fi (h)), (3, fi (1))] rfl (by decide) hL57 rfl (fun L58 hL58 => ?_)
            refine f_inc 4 [(6, fi (3)), (5, fi (A * 1)), (4, fi (B * 1)), (8, fi (0)), (7, fi (mn m 2 h)), (0, .ref 55), (1, fi (x)), (2, fi (h)), (3, fi (1))] rfl (by decide) hL58 rfl rfl (fun L59 hL59 => ?_)
            refine f_goto rfl ?_
            have my : myB m 2 h x = false := decide_eq_false (fun z => d2 z.2.1)
            have e9 : lm1_2 m x h A B = lm1_3 m x h (A * 1) (B * 1) := (if_pos kk).trans ((if_neg (by rw [my]; decide)).trans (by rw [Int.mul_one, Int.mul_one]))
            rw [e9]
            exact hK3 hc18 _ _ _ hw18 hm18 (lS_s hAB (by decide)) (hL59.sel [0, 2, 1, 5, 6, 7, 8] rfl)
          · have d2 : ¬ ((bI (decide (iA (iR (m 60 (x).toNat) (2)) (1) = 1)) : Int) = (0 : Int)) := d2
            have d2 : iA (iR (m 60 (x).toNat) (2)) (1) = 1 := bI_t d2
            refine f_aln 5 rfl hL rfl ?_
            refine m_gfr so55 rfl hw18 rfl (by decide) ?_
            refine f_bipush (n := 15) rfl (by decide) ?_
            refine m_ia sa61 (m 61 15) rfl hw18 hm18 (by omega) (by omega) (by decide) rfl ?_
            refine f_il 2 rfl hL rfl ?_
            refine m_k1 (t73 (hR 61 15) (by decide)) hw18 hm18 rfl rfl rfl rfl rfl (fun hc19 hw19 hm19 => ?_)
            refine f_if rfl (bI_r _) (fun d3 => ?_) (fun d3 => ?_)
            · have d3 : ¬ (bI (decide (iA (iR (m 61 15) (2)) (1) = 1)) : Int) = (0 : Int) := d3
              have d3 : iA (iR (m 61 15) (2)) (1) = 1 := bI_t d3
              refine f_s [fi (0)] rfl rfl ?_
              refine f_ist [(8, fi (0)), (7, fi (mn m 2 h)), (6, fi (2)), (4, fi (B)), (5, fi (A)), (0, .ref 55), (1, fi (x)), (2, fi (h)), (3, fi (1))] rfl (by decide) hL rfl (fun L60 hL60 => ?_)
              refine f_il 3 rfl hL60 rfl ?_
              refine f_il 0 rfl hL60 rfl ?_
              refine f_if rfl (by decide) (fun _ => ?_) (fun c => absurd (show (0 : Int) = (0 : Int) from (by decide)) c)
              refine f_s [fi (1), fi (B)] rfl rfl ?_
              refine f_imul rfl ?_
              refine f_ist [(4, fi (B * 1)), (8, fi (0)), (7, fi (mn m 2 h)), (6, fi (2)), (5, fi (A)), (0, .ref 55), (1, fi (x)), (2, fi (h)), (3, fi (1))] rfl (by decide) hL60 rfl (fun L61 hL61 => ?_)
              refine f_il 4 rfl hL61 rfl ?_
              refine f_il 1 rfl hL61 rfl ?_
              refine f_if rfl (by decide) (fun _ => ?_) (fun c => absurd (show (0 : Int) = (0 : Int) from (by decide)) c)
              refine f_s [fi (1), fi (A)] rfl rfl ?_
              refine f_imul rfl ?_
              refine f_ist [(5, fi (A * 1)), (4, fi (B * 1)), (8, fi (0)), (7, fi (mn m 2 h)), (6, fi (2)), (0, .ref 55), (1, fi (x)), (2, fi (h)), (3, fi (1))] rfl (by decide) hL61 rfl (fun L62 hL62 => ?_)
              refine f_inc 4 [(6, fi (3)), (5, fi (A * 1)), (4, fi (B * 1)), (8, fi (0)), (7, fi (mn m 2 h)), (0, .ref 55), (1, fi (x)), (2, fi (h)), (3, fi (1))] rfl (by decide) hL62 rfl rfl (fun L63 hL63 => ?_)
              refine f_goto rfl ?_
              have my : myB m 2 h x = false := decide_eq_false (fun z => z.2.2 d3)
              have e9 : lm1_2 m x h A B = lm1_3 m x h (A * 1) (B * 1) := (if_pos kk).trans ((if_neg (by rw [my]; decide)).trans (by rw [Int.mul_one, Int.mul_one]))
              rw [e9]
              exact hK3 hc19 _ _ _ hw19 hm19 (lS_s hAB (by decide)) (hL63.sel [0, 2, 1, 5, 6, 7, 8] rfl)
            · have d3 : ¬ (¬ (bI (decide (iA (iR (m 61 15) (2)) (1) = 1)) : Int) = (0 : Int)) := d3
              have d3 : ¬ (iA (iR (m 61 15) (2)) (1) = 1) := bI_n d3
              refine f_s [fi (1)] rfl rfl ?_
              refine f_goto rfl ?_
              refine f_ist [(8, fi (1)), (7, fi (mn m 2 h)), (6, fi (2)), (4, fi (B)), (5, fi (A)), (0, .ref 55), (1, fi (x)), (2, fi (h)), (3, fi (1))] rfl (by decide) hL rfl (fun L64 hL64 => ?_)
              refine f_il 3 rfl hL64 rfl ?_
              refine f_il 0 rfl hL64 rfl ?_
              refine f_if rfl (by decide) (fun c => absurd (show (1 : Int) = (0 : Int) from c) (by decide)) (fun _ => ?_)
              refine f_il 1 rfl hL64 rfl ?_
              refine f_s [fi (1), fi (mn m 2 h), fi (B)] rfl rfl ?_
              refine f_isub rfl ?_
              refine f_goto rfl ?_
              refine f_imul rfl ?_
              refine f_ist [(4, fi (B * ((mn m 2 h) - 1))), (8, fi (1)), (7, fi (mn m 2 h)), (6, fi (2)), (5, fi (A)), (0, .ref 55), (1, fi (x)), (2, fi (h)), (3, fi (1))] rfl (by decide) hL64 rfl (fun L65 hL65 => ?_)
              refine f_il 4 rfl hL65 rfl ?_
              refine f_il 1 rfl hL65 rfl ?_
              refine f_if rfl (by decide) (fun c => absurd (show (1 : Int) = (0 : Int) from c) (by decide)) (fun _ => ?_)
              refine f_il 2 rfl hL65 rfl ?_
              refine f_goto rfl ?_
              refine f_imul rfl ?_
              refine f_ist [(5, fi (A * (mn m 2 h))), (4, fi (B * ((mn m 2 h) - 1))), (8, fi (1)), (7, fi (mn m 2 h)), (6, fi (2)), (0, .ref 55), (1, fi (x)), (2, fi (h)), (3, fi (1))] rfl (by decide) hL65 rfl (fun L66 hL66 => ?_)
              refine f_inc 4 [(6, fi (3)), (5, fi (A * (mn m 2 h))), (4, fi (B * ((mn m 2 h) - 1))), (8, fi (1)), (7, fi (mn m 2 h)), (0, .ref 55), (1, fi (x)), (2, fi (h)), (3, fi (1))] rfl (by decide) hL66 rfl rfl (fun L67 hL67 => ?_)
              refine f_goto rfl ?_
              have my : myB m 2 h x = true := decide_eq_true ⟨d1, d2, d3⟩
              have e9 : lm1_2 m x h A B = lm1_3 m x h (A * mn m 2 h) (B * (mn m 2 h - 1)) := (if_pos kk).trans (if_pos my)
              rw [e9]
              exact hK3 hc19 _ _ _ hw19 hm19 (lS_s hAB (lQ_c (mn_1 2 (by decide) ⟨by decide, kk⟩ my) mr.2)) (hL67.sel [0, 2, 1, 5, 6, 7, 8] rfl)
      have hI5 : ∀ (hc : ev_H) (c : Int) (L : ev_L), y_in yGw hc → gi hc = m → c = mn m 2 h → f_L L [(8, fi (5)), (7, fi (c)), (6, fi (2)), (4, fi (B)), (5, fi (A)), (0, .ref 55), (1, fi (x)), (2, fi (h)), (3, fi (1))] → x_W none (1, 0, 9, 3, 11, 3, 66, 0, 0, ev_t184) 49 L [] hc 0 0 (fun r' h' => r' = some (fi (lm1_2 m x h A B)) ∧ y_in yGw h' ∧ gi h' = m) := fun hc c L hw hm hG hL => by
        refine f_il 0 rfl hL rfl ?_
        refine f_aln 5 rfl hL rfl ?_
        refine m_gfi so55 (m 55 1) rfl hw hm rfl rfl ?_
        refine f_ic rfl (by decide) (by omega) (fun _ => ?_) (fun c => absurd (show (m 55 1 : Int) ≤ (5 : Int) from (by omega)) c)
        rw [hG] at hL
        exact hE hc 5 _ hw hm (hL.sel [0, 1, 2, 3, 4, 5, 6, 7, 8] rfl)
      have hI4 : ∀ (hc : ev_H) (c : Int) (L : ev_L), y_in yGw hc → gi hc = m → mn1 m 2 h 4 4 (c) = mn m 2 h → f_L L [(8, fi (4)), (7, fi (c)), (6, fi (2)), (4, fi (B)), (5, fi (A)), (0, .ref 55), (1, fi (x)), (2, fi (h)), (3, fi (1))] → x_W none (1, 0, 9, 3, 11, 3, 66, 0, 0, ev_t184) 49 L [] hc 0 0 (fun r' h' => r' = some (fi (lm1_2 m x h A B)) ∧ y_in yGw h' ∧ gi h' = m) := fun hc c L hw hm hG hL => by
        refine f_il 0 rfl hL rfl ?_
        refine f_aln 5 rfl hL rfl ?_
        refine m_gfi so55 (m 55 1) rfl hw hm rfl rfl ?_
        refine f_ic rfl (by decide) (by omega) (fun ci => ?_) (fun ci => ?_)
        · have ci : (m 55 1 : Int) ≤ (4 : Int) := ci
          have e8 : mn1 m 2 h 4 4 (c) = c := by unfold mn1; rw [if_neg (by omega)]
          rw [e8] at hG
          rw [hG] at hL
          exact hE hc 4 _ hw hm (hL.sel [0, 1, 2, 3, 4, 5, 6, 7, 8] rfl)
        · have ci : ¬ ((m 55 1 : Int) ≤ (4 : Int)) := ci
          refine f_il 1 rfl hL rfl ?_
          refine f_aln 5 rfl hL rfl ?_
          refine f_s [fi (0), .ref 55, fi (c)] rfl rfl ?_
          refine f_il 0 rfl hL rfl ?_
          refine f_iln 7 rfl hL rfl ?_
          refine m_k1 (t90_0 (p := 4) (h := h) (by decide) (by decide) rh (fv := m 58 4) rfl (hR 58 _) (uv := m 59 4) rfl (hR 59 _)) hw hm rfl rfl rfl (m_ar so55 hw rfl) rfl (fun hc20 hw20 hm20 => ?_)
          refine f_if rfl (bI_r _) (fun e1 => ?_) (fun e1 => ?_)
          · have e1 : (bI (decide (¬ iA (iR (m 61 16) (4)) (1) = 1 ∧ m 58 4 ≤ h ∧ h ≤ m 59 4)) : Int) = (0 : Int) := e1
            have e1 : ¬ (¬ iA (iR (m 61 16) (4)) (1) = 1 ∧ m 58 4 ≤ h ∧ h ≤ m 59 4) := bI_f e1
            refine f_s [fi (0), fi (c)] rfl rfl ?_
            refine f_iadd rfl ?_
            refine f_ist [(7, fi (c + 0)), (8, fi (4)), (6, fi (2)), (4, fi (B)), (5, fi (A)), (0, .ref 55), (1, fi (x)), (2, fi (h)), (3, fi (1))] rfl (by decide) hL rfl (fun L68 hL68 => ?_)
            refine f_inc 1 [(8, fi (5)), (7, fi (c + 0)), (6, fi (2)), (4, fi (B)), (5, fi (A)), (0, .ref 55), (1, fi (x)), (2, fi (h)), (3, fi (1))] rfl (by decide) hL68 rfl rfl (fun L69 hL69 => ?_)
            refine f_goto rfl ?_
            have mb : mnB m 2 h 4 4 = false := decide_eq_false (fun z => e1 z.1)
            have e9 : mn1 m 2 h 4 4 c = c + 0 := (if_pos (by omega)).trans (by rw [mb]; rfl)
            rw [e9] at hG
            exact hI5 hc20 _ _ hw20 hm20 hG (hL69.sel [0, 1, 2, 3, 4, 5, 6, 7, 8] rfl)
          · have e1 : ¬ ((bI (decide (¬ iA (iR (m 61 16) (4)) (1) = 1 ∧ m 58 4 ≤ h ∧ h ≤ m 59 4)) : Int) = (0 : Int)) := e1
            have e1 : ¬ iA (iR (m 61 16) (4)) (1) = 1 ∧ m 58 4 ≤ h ∧ h ≤ m 59 4 := bI_t e1
            refine f_aln 5 rfl hL rfl ?_
            refine m_gfr so55 rfl hw20 rfl (by decide) ?_
            refine f_il 0 rfl hL rfl ?_
            refine m_ia sa60 (m 60 4) rfl hw20 hm20 (by omega) (by omega) (by decide) rfl ?_
            refine f_il 2 rfl hL rfl ?_
            refine m_k1 (t73 (hR 60 4) (by decide)) hw20 hm20 rfl rfl rfl rfl rfl (fun hc21 hw21 hm21 => ?_)
            refine f_if rfl (bI_r _) (fun e2 => ?_) (fun e2 => ?_)
            · have e2 : (bI (decide (iA (iR (m 60 4) (2)) (1) = 1)) : Int) = (0 : Int) := e2
              have e2 : ¬ (iA (iR (m 60 4) (2)) (1) = 1) := bI_f e2
              refine f_s [fi (0), fi (c)] rfl rfl ?_
              refine f_iadd rfl ?_
              refine f_ist [(7, fi (c + 0)), (8, fi (4)), (6, fi (2)), (4, fi (B)), (5, fi (A)), (0, .ref 55), (1, fi (x)), (2, fi (h)), (3, fi (1))] rfl (by decide) hL rfl (fun L70 hL70 => ?_)
              refine f_inc 1 [(8, fi (5)), (7, fi (c + 0)), (6, fi (2)), (4, fi (B)), (5, fi (A)), (0, .ref 55), (1, fi (x)), (2, fi (h)), (3, fi (1))] rfl (by decide) hL70 rfl rfl (fun L71 hL71 => ?_)
              refine f_goto rfl ?_
              have mb : mnB m 2 h 4 4 = false := decide_eq_false (fun z => e2 z.2)
              have e9 : mn1 m 2 h 4 4 c = c + 0 := (if_pos (by omega)).trans (by rw [mb]; rfl)
              rw [e9] at hG
              exact hI5 hc21 _ _ hw21 hm21 hG (hL71.sel [0, 1, 2, 3, 4, 5, 6, 7, 8] rfl)
            · have e2 : ¬ ((bI (decide (iA (iR (m 60 4) (2)) (1) = 1)) : Int) = (0 : Int)) := e2
              have e2 : iA (iR (m 60 4) (2)) (1) = 1 := bI_t e2
              refine f_s [fi (1), fi (c)] rfl rfl ?_
              refine f_goto rfl ?_
              refine f_iadd rfl ?_
              refine f_ist [(7, fi (c + 1)), (8, fi (4)), (6, fi (2)), (4, fi (B)), (5, fi (A)), (0, .ref 55), (1, fi (x)), (2, fi (h)), (3, fi (1))] rfl (by decide) hL rfl (fun L72 hL72 => ?_)
              refine f_inc 1 [(8, fi (5)), (7, fi (c + 1)), (6, fi (2)), (4, fi (B)), (5, fi (A)), (0, .ref 55), (1, fi (x)), (2, fi (h)), (3, fi (1))] rfl (by decide) hL72 rfl rfl (fun L73 hL73 => ?_)
              refine f_goto rfl ?_
              have mb : mnB m 2 h 4 4 = true := decide_eq_true ⟨e1, e2⟩
              have e9 : mn1 m 2 h 4 4 c = c + 1 := (if_pos (by omega)).trans (by rw [mb]; rfl)
              rw [e9] at hG
              exact hI5 hc21 _ _ hw21 hm21 hG (hL73.sel [0, 1, 2, 3, 4, 5, 6, 7, 8] rfl)
      have hI3 : ∀ (hc : ev_H) (c : Int) (L : ev_L), y_in yGw hc → gi hc = m → mn1 m 2 h 4 4 (mn1 m 2 h 3 3 (c)) = mn m 2 h → f_L L [(8, fi (3)), (7, fi (c)), (6, fi (2)), (4, fi (B)), (5, fi (A)), (0, .ref 55), (1, fi (x)), (2, fi (h)), (3, fi (1))] → x_W none (1, 0, 9, 3, 11, 3, 66, 0, 0, ev_t184) 49 L [] hc 0 0 (fun r' h' => r' = some (fi (lm1_2 m x h A B)) ∧ y_in yGw h' ∧ gi h' = m) := fun hc c L hw hm hG hL => by
        refine f_il 0 rfl hL rfl ?_
        refine f_aln 5 rfl hL rfl ?_
        refine m_gfi so55 (m 55 1) rfl hw hm rfl rfl ?_
        refine f_ic rfl (by decide) (by omega) (fun ci => ?_) (fun ci => ?_)
        · have ci : (m 55 1 : Int) ≤ (3 : Int) := ci
          have e8 : mn1 m 2 h 4 4 (mn1 m 2 h 3 3 (c)) = c := by unfold mn1; rw [if_neg (by omega), if_neg (by omega)]
          rw [e8] at hG
          rw [hG] at hL
          exact hE hc 3 _ hw hm (hL.sel [0, 1, 2, 3, 4, 5, 6, 7, 8] rfl)
        · have ci : ¬ ((m 55 1 : Int) ≤ (3 : Int)) := ci
          refine f_il 1 rfl hL rfl ?_
          refine f_aln 5 rfl hL rfl ?_
          refine f_s [fi (0), .ref 55, fi (c)] rfl rfl ?_
          refine f_il 0 rfl hL rfl ?_
          refine f_iln 7 rfl hL rfl ?_
          refine m_k1 (t90_0 (p := 3) (h := h) (by decide) (by decide) rh (fv := m 58 3) rfl (hR 58 _) (uv := m 59 3) rfl (hR 59 _)) hw hm rfl rfl rfl (m_ar so55 hw rfl) rfl (fun hc22 hw22 hm22 => ?_)
          refine f_if rfl (bI_r _) (fun e1 => ?_) (fun e1 => ?_)
          · have e1 : (bI (decide (¬ iA (iR (m 61 16) (3)) (1) = 1 ∧ m 58 3 ≤ h ∧ h ≤ m 59 3)) : Int) = (0 : Int) := e1
            have e1 : ¬ (¬ iA (iR (m 61 16) (3)) (1) = 1 ∧ m 58 3 ≤ h ∧ h ≤ m 59 3) := bI_f e1
            refine f_s [fi (0), fi (c)] rfl rfl ?_
            refine f_iadd rfl ?_
            refine f_ist [(7, fi (c + 0)), (8, fi (3)), (6, fi (2)), (4, fi (B)), (5, fi (A)), (0, .ref 55), (1, fi (x)), (2, fi (h)), (3, fi (1))] rfl (by decide) hL rfl (fun L74 hL74 => ?_)
            refine f_inc 1 [(8, fi (4)), (7, fi (c + 0)), (6, fi (2)), (4, fi (B)), (5, fi (A)), (0, .ref 55), (1, fi (x)), (2, fi (h)), (3, fi (1))] rfl (by decide) hL74 rfl rfl (fun L75 hL75 => ?_)
            refine f_goto rfl ?_
            have mb : mnB m 2 h 3 3 = false := decide_eq_false (fun z => e1 z.1)
            have e9 : mn1 m 2 h 3 3 c = c + 0 := (if_pos (by omega)).trans (by rw [mb]; rfl)
            rw [e9] at hG
            exact hI4 hc22 _ _ hw22 hm22 hG (hL75.sel [0, 1, 2, 3, 4, 5, 6, 7, 8] rfl)
          · have e1 : ¬ ((bI (decide (¬ iA (iR (m 61 16) (3)) (1) = 1 ∧ m 58 3 ≤ h ∧ h ≤ m 59 3)) : Int) = (0 : Int)) := e1
            have e1 : ¬ iA (iR (m 61 16) (3)) (1) = 1 ∧ m 58 3 ≤ h ∧ h ≤ m 59 3 := bI_t e1
            refine f_aln 5 rfl hL rfl ?_
            refine m_gfr so55 rfl hw22 rfl (by decide) ?_
            refine f_il 0 rfl hL rfl ?_
            refine m_ia sa60 (m 60 3) rfl hw22 hm22 (by omega) (by omega) (by decide) rfl ?_
            refine f_il 2 rfl hL rfl ?_
            refine m_k1 (t73 (hR 60 3) (by decide)) hw22 hm22 rfl rfl rfl rfl rfl (fun hc23 hw23 hm23 => ?_)
            refine f_if rfl (bI_r _) (fun e2 => ?_) (fun e2 => ?_)
            · have e2 : (bI (decide (iA (iR (m 60 3) (2)) (1) = 1)) : Int) = (0 : Int) := e2
              have e2 : ¬ (iA (iR (m 60 3) (2)) (1) = 1) := bI_f e2
              refine f_s [fi (0), fi (c)] rfl rfl ?_
              refine f_iadd rfl ?_
              refine f_ist [(7, fi (c + 0)), (8, fi (3)), (6, fi (2)), (4, fi (B)), (5, fi (A)), (0, .ref 55), (1, fi (x)), (2, fi (h)), (3, fi (1))] rfl (by decide) hL rfl (fun L76 hL76 => ?_)
              refine f_inc 1 [(8, fi (4)), (7, fi (c + 0)), (6, fi (2)), (4, fi (B)), (5, fi (A)), (0, .ref 55), (1, fi (x)), (2, fi (h)), (3, fi (1))] rfl (by decide) hL76 rfl rfl (fun L77 hL77 => ?_)
              refine f_goto rfl ?_
              have mb : mnB m 2 h 3 3 = false := decide_eq_false (fun z => e2 z.2)
              have e9 : mn1 m 2 h 3 3 c = c + 0 := (if_pos (by omega)).trans (by rw [mb]; rfl)
              rw [e9] at hG
              exact hI4 hc23 _ _ hw23 hm23 hG (hL77.sel [0, 1, 2, 3, 4, 5, 6, 7, 8] rfl)
            · have e2 : ¬ ((bI (decide (iA (iR (m 60 3) (2)) (1) = 1)) : Int) = (0 : Int)) := e2
              have e2 : iA (iR (m 60 3) (2)) (1) = 1 := bI_t e2
              refine f_s [fi (1), fi (c)] rfl rfl ?_
              refine f_goto rfl ?_
              refine f_iadd rfl ?_
              refine f_ist [(7, fi (c + 1)), (8, fi (3)), (6, fi (2)), (4, fi (B)), (5, fi (A)), (0, .ref 55), (1, fi (x)), (2, fi (h)), (3, fi (1))] rfl (by decide) hL rfl (fun L78 hL78 => ?_)
              refine f_inc 1 [(8, fi (4)), (7, fi (c + 1)), (6, fi (2)), (4, fi (B)), (5, fi (A)), (0, .ref 55), (1, fi (x)), (2, fi (h)), (3, fi (1))] rfl (by decide) hL78 rfl rfl (fun L79 hL79 => ?_)
              refine f_goto rfl ?_
              have mb : mnB m 2 h 3 3 = true := decide_eq_true ⟨e1, e2⟩
              have e9 : mn1 m 2 h 3 3 c = c + 1 := (if_pos (by omega)).trans (by rw [mb]; rfl)
              rw [e9] at hG
              exact hI4 hc23 _ _ hw23 hm23 hG (hL79.sel [0, 1, 2, 3, 4, 5, 6, 7, 8] rfl)
      have hI2 : ∀ (hc : ev_H) (c : Int) (L : ev_L), y_in yGw hc → gi hc = m → mn1 m 2 h 4 4 (mn1 m 2 h 3 3 (mn1 m 2 h 2 2 (c))) = mn m 2 h → f_L L [(8, fi (2)), (7, fi (c)), (6, fi (2)), (4, fi (B)), (5, fi (A)), (0, .ref 55), (1, fi (x)), (2, fi (h)), (3, fi (1))] → x_W none (1, 0, 9, 3, 11, 3, 66, 0, 0, ev_t184) 49 L [] hc 0 0 (fun r' h' => r' = some (fi (lm1_2 m x h A B)) ∧ y_in yGw h' ∧ gi h' = m) := fun hc c L hw hm hG hL => by
        refine f_il 0 rfl hL rfl ?_
        refine f_aln 5 rfl hL rfl ?_
        refine m_gfi so55 (m 55 1) rfl hw hm rfl rfl ?_
        refine f_ic rfl (by decide) (by omega) (fun ci => ?_) (fun ci => ?_)
        · have ci : (m 55 1 : Int) ≤ (2 : Int) := ci
          have e8 : mn1 m 2 h 4 4 (mn1 m 2 h 3 3 (mn1 m 2 h 2 2 (c))) = c := by unfold mn1; rw [if_neg (by omega), if_neg (by omega), if_neg (by omega)]
          rw [e8] at hG
          rw [hG] at hL
          exact hE hc 2 _ hw hm (hL.sel [0, 1, 2, 3, 4, 5, 6, 7, 8] rfl)
        · have ci : ¬ ((m 55 1 : Int) ≤ (2 : Int)) := ci
          refine f_il 1 rfl hL rfl ?_
          refine f_aln 5 rfl hL rfl ?_
          refine f_s [fi (0), .ref 55, fi (c)] rfl rfl ?_
          refine f_il 0 rfl hL rfl ?_
          refine f_iln 7 rfl hL rfl ?_
          refine m_k1 (t90_0 (p := 2) (h := h) (by decide) (by decide) rh (fv := m 58 2) rfl (hR 58 _) (uv := m 59 2) rfl (hR 59 _)) hw hm rfl rfl rfl (m_ar so55 hw rfl) rfl (fun hc24 hw24 hm24 => ?_)
          refine f_if rfl (bI_r _) (fun e1 => ?_) (fun e1 => ?_)
          · have e1 : (bI (decide (¬ iA (iR (m 61 16) (2)) (1) = 1 ∧ m 58 2 ≤ h ∧ h ≤ m 59 2)) : Int) = (0 : Int) := e1
            have e1 : ¬ (¬ iA (iR (m 61 16) (2)) (1) = 1 ∧ m 58 2 ≤ h ∧ h ≤ m 59 2) := bI_f e1
            refine f_s [fi (0), fi (c)] rfl rfl ?_
            refine f_iadd rfl ?_
            refine f_ist [(7, fi (c + 0)), (8, fi (2)), (6, fi (2)), (4, fi (B)), (5, fi (A)), (0, .ref 55), (1, fi (x)), (2, fi (h)), (3, fi (1))] rfl (by decide) hL rfl (fun L80 hL80 => ?_)
            refine f_inc 1 [(8, fi (3)), (7, fi (c + 0)), (6, fi (2)), (4, fi (B)), (5, fi (A)), (0, .ref 55), (1, fi (x)), (2, fi (h)), (3, fi (1))] rfl (by decide) hL80 rfl rfl (fun L81 hL81 => ?_)
            refine f_goto rfl ?_
            have mb : mnB m 2 h 2 2 = false := decide_eq_false (fun z => e1 z.1)
            have e9 : mn1 m 2 h 2 2 c = c + 0 := (if_pos (by omega)).trans (by rw [mb]; rfl)
            rw [e9] at hG
            exact hI3 hc24 _ _ hw24 hm24 hG (hL81.sel [0, 1, 2, 3, 4, 5, 6, 7, 8] rfl)
          · have e1 : ¬ ((bI (decide (¬ iA (iR (m 61 16) (2)) (1) = 1 ∧ m 58 2 ≤ h ∧ h ≤ m 59 2)) : Int) = (0 : Int)) := e1
            have e1 : ¬ iA (iR (m 61 16) (2)) (1) = 1 ∧ m 58 2 ≤ h ∧ h ≤ m 59 2 := bI_t e1
            refine f_aln 5 rfl hL rfl ?_
            refine m_gfr so55 rfl hw24 rfl (by decide) ?_
            refine f_il 0 rfl hL rfl ?_
            refine m_ia sa60 (m 60 2) rfl hw24 hm24 (by omega) (by omega) (by decide) rfl ?_
            refine f_il 2 rfl hL rfl ?_
            refine m_k1 (t73 (hR 60 2) (by decide)) hw24 hm24 rfl rfl rfl rfl rfl (fun hc25 hw25 hm25 => ?_)
            refine f_if rfl (bI_r _) (fun e2 => ?_) (fun e2 => ?_)
            · have e2 : (bI (decide (iA (iR (m 60 2) (2)) (1) = 1)) : Int) = (0 : Int) := e2
              have e2 : ¬ (iA (iR (m 60 2) (2)) (1) = 1) := bI_f e2
              refine f_s [fi (0), fi (c)] rfl rfl ?_
              refine f_iadd rfl ?_
              refine f_ist [(7, fi (c + 0)), (8, fi (2)), (6, fi (2)), (4, fi (B)), (5, fi (A)), (0, .ref 55), (1, fi (x)), (2, fi (h)), (3, fi (1))] rfl (by decide) hL rfl (fun L82 hL82 => ?_)
              refine f_inc 1 [(8, fi (3)), (7, fi (c + 0)), (6, fi (2)), (4, fi (B)), (5, fi (A)), (0, .ref 55), (1, fi (x)), (2, fi (h)), (3, fi (1))] rfl (by decide) hL82 rfl rfl (fun L83 hL83 => ?_)
              refine f_goto rfl ?_
              have mb : mnB m 2 h 2 2 = false := decide_eq_false (fun z => e2 z.2)
              have e9 : mn1 m 2 h 2 2 c = c + 0 := (if_pos (by omega)).trans (by rw [mb]; rfl)
              rw [e9] at hG
              exact hI3 hc25 _ _ hw25 hm25 hG (hL83.sel [0, 1, 2, 3, 4, 5, 6, 7, 8] rfl)
            · have e2 : ¬ ((bI (decide (iA (iR (m 60 2) (2)) (1) = 1)) : Int) = (0 : Int)) := e2
              have e2 : iA (iR (m 60 2) (2)) (1) = 1 := bI_t e2
              refine f_s [fi (1), fi (c)] rfl rfl ?_
              refine f_goto rfl ?_
              refine f_iadd rfl ?_
              refine f_ist [(7, fi (c + 1)), (8, fi (2)), (6, fi (2)), (4, fi (B)), (5, fi (A)), (0, .ref 55), (1, fi (x)), (2, fi (h)), (3, fi (1))] rfl (by decide) hL rfl (fun L84 hL84 => ?_)
              refine f_inc 1 [(8, fi (3)), (7, fi (c + 1)), (6, fi (2)), (4, fi (B)), (5, fi (A)), (0, .ref 55), (1, fi (x)), (2, fi (h)), (3, fi (1))] rfl (by decide) hL84 rfl rfl (fun L85 hL85 => ?_)
              refine f_goto rfl ?_
              have mb : mnB m 2 h 2 2 = true := decide_eq_true ⟨e1, e2⟩
              have e9 : mn1 m 2 h 2 2 c = c + 1 := (if_pos (by omega)).trans (by rw [mb]; rfl)
              rw [e9] at hG
              exact hI3 hc25 _ _ hw25 hm25 hG (hL85.sel [0, 1, 2, 3, 4, 5, 6, 7, 8] rfl)
      have hI1 : ∀ (hc : ev_H) (c : Int) (L : ev_L), y_in yGw hc → gi hc = m → mn1 m 2 h 4 4 (mn1 m 2 h 3 3 (mn1 m 2 h 2 2 (mn1 m 2 h 1 1 (c)))) = mn m 2 h → f_L L [(8, fi (1)), (7, fi (c)), (6, fi (2)), (4, fi (B)), (5, fi (A)), (0, .ref 55), (1, fi (x)), (2, fi (h)), (3, fi (1))] → x_W none (1, 0, 9, 3, 11, 3, 66, 0, 0, ev_t184) 49 L [] hc 0 0 (fun r' h' => r' = some (fi (lm1_2 m x h A B)) ∧ y_in yGw h' ∧ gi h' = m) := fun hc c L hw hm hG hL => by
        refine f_il 0 rfl hL rfl ?_
        refine f_aln 5 rfl hL rfl ?_
        refine m_gfi so55 (m 55 1) rfl hw hm rfl rfl ?_
        refine f_ic rfl (by decide) (by omega) (fun ci => ?_) (fun ci => ?_)
        · have ci : (m 55 1 : Int) ≤ (1 : Int) := ci
          have e8 : mn1 m 2 h 4 4 (mn1 m 2 h 3 3 (mn1 m 2 h 2 2 (mn1 m 2 h 1 1 (c)))) = c := by unfold mn1; rw [if_neg (by omega), if_neg (by omega), if_neg (by omega), if_neg (by omega)]
          rw [e8] at hG
          rw [hG] at hL
          exact hE hc 1 _ hw hm (hL.sel [0, 1, 2, 3, 4, 5, 6, 7, 8] rfl)
        · have ci : ¬ ((m 55 1 : Int) ≤ (1 : Int)) := ci
          refine f_il 1 rfl hL rfl ?_
          refine f_aln 5 rfl hL rfl ?_
          refine f_s [fi (0), .ref 55, fi (c)] rfl rfl ?_
          refine f_il 0 rfl hL rfl ?_
          refine f_iln 7 rfl hL rfl ?_
          refine m_k1 (t90_0 (p := 1) (h := h) (by decide) (by decide) rh (fv := m 58 1) rfl (hR 58 _) (uv := m 59 1) rfl (hR 59 _)) hw hm rfl rfl rfl (m_ar so55 hw rfl) rfl (fun hc26 hw26 hm26 => ?_)
          refine f_if rfl (bI_r _) (fun e1 => ?_) (fun e1 => ?_)
          · have e1 : (bI (decide (¬ iA (iR (m 61 16) (1)) (1) = 1 ∧ m 58 1 ≤ h ∧ h ≤ m 59 1)) : Int) = (0 : Int) := e1
            have e1 : ¬ (¬ iA (iR (m 61 16) (1)) (1) = 1 ∧ m 58 1 ≤ h ∧ h ≤ m 59 1) := bI_f e1
            refine f_s [fi (0), fi (c)] rfl rfl ?_
            refine f_iadd rfl ?_
            refine f_ist [(7, fi (c + 0)), (8, fi (1)), (6, fi (2)), (4, fi (B)), (5, fi (A)), (0, .ref 55), (1, fi (x)), (2, fi (h)), (3, fi (1))] rfl (by decide) hL rfl (fun L86 hL86 => ?_)
            refine f_inc 1 [(8, fi (2)), (7, fi (c + 0)), (6, fi (2)), (4, fi (B)), (5, fi (A)), (0, .ref 55), (1, fi (x)), (2, fi (h)), (3, fi (1))] rfl (by decide) hL86 rfl rfl (fun L87 hL87 => ?_)
            refine f_goto rfl ?_
            have mb : mnB m 2 h 1 1 = false := decide_eq_false (fun z => e1 z.1)
            have e9 : mn1 m 2 h 1 1 c = c + 0 := (if_pos (by omega)).trans (by rw [mb]; rfl)
            rw [e9] at hG
            exact hI2 hc26 _ _ hw26 hm26 hG (hL87.sel [0, 1, 2, 3, 4, 5, 6, 7, 8] rfl)
          · have e1 : ¬ ((bI (decide (¬ iA (iR (m 61 16) (1)) (1) = 1 ∧ m 58 1 ≤ h ∧ h ≤ m 59 1)) : Int) = (0 : Int)) := e1
            have e1 : ¬ iA (iR (m 61 16) (1)) (1) = 1 ∧ m 58 1 ≤ h ∧ h ≤ m 59 1 := bI_t e1
            refine f_aln 5 rfl hL rfl ?_
            refine m_gfr so55 rfl hw26 rfl (by decide) ?_
            refine f_il 0 rfl hL rfl ?_
            refine m_ia sa60 (m 60 1) rfl hw26 hm26 (by omega) (by omega) (by decide) rfl ?_
            refine f_il 2 rfl hL rfl ?_
            refine m_k1 (t73 (hR 60 1) (by decide)) hw26 hm26 rfl rfl rfl rfl rfl (fun hc27 hw27 hm27 => ?_)
            refine f_if rfl (bI_r _) (fun e2 => ?_) (fun e2 => ?_)
            · have e2 : (bI (decide (iA (iR (m 60 1) (2)) (1) = 1)) : Int) = (0 : Int) := e2
              have e2 : ¬ (iA (iR (m 60 1) (2)) (1) = 1) := bI_f e2
              refine f_s [fi (0), fi (c)] rfl rfl ?_
              refine f_iadd rfl ?_
              refine f_ist [(7, fi (c + 0)), (8, fi (1)), (6, fi (2)), (4, fi (B)), (5, fi (A)), (0, .ref 55), (1, fi (x)), (2, fi (h)), (3, fi (1))] rfl (by decide) hL rfl (fun L88 hL88 => ?_)
              refine f_inc 1 [(8, fi (2)), (7, fi (c + 0)), (6, fi (2)), (4, fi (B)), (5, fi (A)), (0, .ref 55), (1, fi (x)), (2, fi (h)), (3, fi (1))] rfl (by decide) hL88 rfl rfl (fun L89 hL89 => ?_)
              refine f_goto rfl ?_
              have mb : mnB m 2 h 1 1 = false := decide_eq_false (fun z => e2 z.2)
              have e9 : mn1 m 2 h 1 1 c = c + 0 := (if_pos (by omega)).trans (by rw [mb]; rfl)
              rw [e9] at hG
              exact hI2 hc27 _ _ hw27 hm27 hG (hL89.sel [0, 1, 2, 3, 4, 5, 6, 7, 8] rfl)
            · have e2 : ¬ ((bI (decide (iA (iR (m 60 1) (2)) (1) = 1)) : Int) = (0 : Int)) := e2
              have e2 : iA (iR (m 60 1) (2)) (1) = 1 := bI_t e2
              refine f_s [fi (1), fi (c)] rfl rfl ?_
              refine f_goto rfl ?_
              refine f_iadd rfl ?_
              refine f_ist [(7, fi (c + 1)), (8, fi (1)), (6, fi (2)), (4, fi (B)), (5, fi (A)), (0, .ref 55), (1, fi (x)), (2, fi (h)), (3, fi (1))] rfl (by decide) hL rfl (fun L90 hL90 => ?_)
              refine f_inc 1 [(8, fi (2)), (7, fi (c + 1)), (6, fi (2)), (4, fi (B)), (5, fi (A)), (0, .ref 55), (1, fi (x)), (2, fi (h)), (3, fi (1))] rfl (by decide) hL90 rfl rfl (fun L91 hL91 => ?_)
              refine f_goto rfl ?_
              have mb : mnB m 2 h 1 1 = true := decide_eq_true ⟨e1, e2⟩
              have e9 : mn1 m 2 h 1 1 c = c + 1 := (if_pos (by omega)).trans (by rw [mb]; rfl)
              rw [e9] at hG
              exact hI2 hc27 _ _ hw27 hm27 hG (hL91.sel [0, 1, 2, 3, 4, 5, 6, 7, 8] rfl)
      have hI0 : ∀ (hc : ev_H) (c : Int) (L : ev_L), y_in yGw hc → gi hc = m → mn1 m 2 h 4 4 (mn1 m 2 h 3 3 (mn1 m 2 h 2 2 (mn1 m 2 h 1 1 (mn1 m 2 h 0 0 (c))))) = mn m 2 h → f_L L [(8, fi (0)), (7, fi (c)), (6, fi (2)), (4, fi (B)), (5, fi (A)), (0, .ref 55), (1, fi (x)), (2, fi (h)), (3, fi (1))] → x_W none (1, 0, 9, 3, 11, 3, 66, 0, 0, ev_t184) 49 L [] hc 0 0 (fun r' h' => r' = some (fi (lm1_2 m x h A B)) ∧ y_in yGw h' ∧ gi h' = m) := fun hc c L hw hm hG hL => by
        refine f_il 0 rfl hL rfl ?_
        refine f_aln 5 rfl hL rfl ?_
        refine m_gfi so55 (m 55 1) rfl hw hm rfl rfl ?_
        refine f_ic rfl (by decide) (by omega) (fun ci => ?_) (fun ci => ?_)
        · have ci : (m 55 1 : Int) ≤ (0 : Int) := ci
          have e8 : mn1 m 2 h 4 4 (mn1 m 2 h 3 3 (mn1 m 2 h 2 2 (mn1 m 2 h 1 1 (mn1 m 2 h 0 0 (c))))) = c := by unfold mn1; rw [if_neg (by omega), if_neg (by omega), if_neg (by omega), if_neg (by omega), if_neg (by omega)]
          rw [e8] at hG
          rw [hG] at hL
          exact hE hc 0 _ hw hm (hL.sel [0, 1, 2, 3, 4, 5, 6, 7, 8] rfl)
        · have ci : ¬ ((m 55 1 : Int) ≤ (0 : Int)) := ci
          refine f_il 1 rfl hL rfl ?_
          refine f_aln 5 rfl hL rfl ?_
          refine f_s [fi (0), .ref 55, fi (c)] rfl rfl ?_
          refine f_il 0 rfl hL rfl ?_
          refine f_iln 7 rfl hL rfl ?_
          refine m_k1 (t90_0 (p := 0) (h := h) (by decide) (by decide) rh (fv := m 58 0) rfl (hR 58 _) (uv := m 59 0) rfl (hR 59 _)) hw hm rfl rfl rfl (m_ar so55 hw rfl) rfl (fun hc28 hw28 hm28 => ?_)
          refine f_if rfl (bI_r _) (fun e1 => ?_) (fun e1 => ?_)
          · have e1 : (bI (decide (¬ iA (iR (m 61 16) (0)) (1) = 1 ∧ m 58 0 ≤ h ∧ h ≤ m 59 0)) : Int) = (0 : Int) := e1
            have e1 : ¬ (¬ iA (iR (m 61 16) (0)) (1) = 1 ∧ m 58 0 ≤ h ∧ h ≤ m 59 0) := bI_f e1
            refine f_s [fi (0), fi (c)] rfl rfl ?_
            refine f_iadd rfl ?_
            refine f_ist [(7, fi (c + 0)), (8, fi (0)), (6, fi (2)), (4, fi (B)), (5, fi (A)), (0, .ref 55), (1, fi (x)), (2, fi (h)), (3, fi (1))] rfl (by decide) hL rfl (fun L92 hL92 => ?_)
            refine f_inc 1 [(8, fi (1)), (7, fi (c + 0)), (6, fi (2)), (4, fi (B)), (5, fi (A)), (0, .ref 55), (1, fi (x)), (2, fi (h)), (3, fi (1))] rfl (by decide) hL92 rfl rfl (fun L93 hL93 => ?_)
            refine f_goto rfl ?_
            have mb : mnB m 2 h 0 0 = false := decide_eq_false (fun z => e1 z.1)
            have e9 : mn1 m 2 h 0 0 c = c + 0 := (if_pos (by omega)).trans (by rw [mb]; rfl)
            rw [e9] at hG
            exact hI1 hc28 _ _ hw28 hm28 hG (hL93.sel [0, 1, 2, 3, 4, 5, 6, 7, 8] rfl)
          · have e1 : ¬ ((bI (decide (¬ iA (iR (m 61 16) (0)) (1) = 1 ∧ m 58 0 ≤ h ∧ h ≤ m 59 0)) : Int) = (0 : Int)) := e1
            have e1 : ¬ iA (iR (m 61 16) (0)) (1) = 1 ∧ m 58 0 ≤ h ∧ h ≤ m 59 0 := bI_t e1
            refine f_aln 5 rfl hL rfl ?_
            refine m_gfr so55 rfl hw28 rfl (by decide) ?_
            refine f_il 0 rfl hL rfl ?_
            refine m_ia sa60 (m 60 0) rfl hw28 hm28 (by omega) (by omega) (by decide) rfl ?_
            refine f_il 2 rfl hL rfl ?_
            refine m_k1 (t73 (hR 60 0) (by decide)) hw28 hm28 rfl rfl rfl rfl rfl (fun hc29 hw29 hm29 => ?_)
            refine f_if rfl (bI_r _) (fun e2 => ?_) (fun e2 => ?_)
            · have e2 : (bI (decide (iA (iR (m 60 0) (2)) (1) = 1)) : Int) = (0 : Int) := e2
              have e2 : ¬ (iA (iR (m 60 0) (2)) (1) = 1) := bI_f e2
              refine f_s [fi (0), fi (c)] rfl rfl ?_
              refine f_iadd rfl ?_
              refine f_ist [(7, fi (c + 0)), (8, fi (0)), (6, fi (2)), (4, fi (B)), (5, fi (A)), (0, .ref 55), (1, fi (x)), (2, fi (h)), (3, fi (1))] rfl (by decide) hL rfl (fun L94 hL94 => ?_)
              refine f_inc 1 [(8, fi (1)), (7, fi (c + 0)), (6, fi (2)), (4, fi (B)), (5, fi (A)), (0, .ref 55), (1, fi (x)), (2, fi (h)), (3, fi (1))] rfl (by decide) hL94 rfl rfl (fun L95 hL95 => ?_)
              refine f_goto rfl ?_
              have mb : mnB m 2 h 0 0 = false := decide_eq_false (fun z => e2 z.2)
              have e9 : mn1 m 2 h 0 0 c = c + 0 := (if_pos (by omega)).trans (by rw [mb]; rfl)
              rw [e9] at hG
              exact hI1 hc29 _ _ hw29 hm29 hG (hL95.sel [0, 1, 2, 3, 4, 5, 6, 7, 8] rfl)
            · have e2 : ¬ ((bI (decide (iA (iR (m 60 0) (2)) (1) = 1)) : Int) = (0 : Int)) := e2
              have e2 : iA (iR (m 60 0) (2)) (1) = 1 := bI_t e2
              refine f_s [fi (1), fi (c)] rfl rfl ?_
              refine f_goto rfl ?_
              refine f_iadd rfl ?_
              refine f_ist [(7, fi (c + 1)), (8, fi (0)), (6, fi (2)), (4, fi (B)), (5, fi (A)), (0, .ref 55), (1, fi (x)), (2, fi (h)), (3, fi (1))] rfl (by decide) hL rfl (fun L96 hL96 => ?_)
              refine f_inc 1 [(8, fi (1)), (7, fi (c + 1)), (6, fi (2)), (4, fi (B)), (5, fi (A)), (0, .ref 55), (1, fi (x)), (2, fi (h)), (3, fi (1))] rfl (by decide) hL96 rfl rfl (fun L97 hL97 => ?_)
              refine f_goto rfl ?_
              have mb : mnB m 2 h 0 0 = true := decide_eq_true ⟨e1, e2⟩
              have e9 : mn1 m 2 h 0 0 c = c + 1 := (if_pos (by omega)).trans (by rw [mb]; rfl)
              rw [e9] at hG
              exact hI1 hc29 _ _ hw29 hm29 hG (hL97.sel [0, 1, 2, 3, 4, 5, 6, 7, 8] rfl)
      refine f_s [fi (0)] rfl rfl ?_
      refine f_ist [(7, fi (0)), (6, fi (2)), (4, fi (B)), (5, fi (A)), (0, .ref 55), (1, fi (x)), (2, fi (h)), (3, fi (1))] rfl (by decide) hL rfl (fun L98 hL98 => ?_)
      refine f_s [fi (0)] rfl rfl ?_
      refine f_ist [(8, fi (0)), (7, fi (0)), (6, fi (2)), (4, fi (B)), (5, fi (A)), (0, .ref 55), (1, fi (x)), (2, fi (h)), (3, fi (1))] rfl (by decide) hL98 rfl (fun L99 hL99 => ?_)
      exact hI0 hc 0 _ hw hm rfl (hL99.sel [0, 1, 2, 3, 4, 5, 6, 7, 8] rfl)
  have hK1 : ∀ (hc : ev_H) (A B : Int) (L : ev_L), y_in yGw hc → gi hc = m → (A, B) ∈ lS 1 → f_L L [(6, fi (1)), (4, fi (B)), (5, fi (A)), (0, .ref 55), (1, fi (x)), (2, fi (h)), (3, fi (1))] → x_W none (1, 0, 9, 3, 11, 3, 66, 0, 0, ev_t184) 34 L [] hc 0 0 (fun r' h' => r' = some (fi (lm1_1 m x h A B)) ∧ y_in yGw h' ∧ gi h' = m) := fun hc A B L hw hm hAB hL => by
    obtain ⟨o1, o2, o3, o4, o5, o6, o7⟩ := okp_r (lS_at (by decide) hAB)
    refine f_il 0 rfl hL rfl ?_
    refine f_aln 3 rfl hL rfl ?_
    refine m_gfi so55 (m 55 0) rfl hw hm rfl rfl ?_
    refine f_ic rfl (by decide) (by omega) (fun c1 => ?_) (fun c1 => ?_)
    · have c1 : (m 55 0 : Int) ≤ (1 : Int) := c1
      refine f_il 2 rfl hL rfl ?_
      refine f_il 1 rfl hL rfl ?_
      refine f_isub rfl ?_
      refine f_il 2 rfl hL rfl ?_
      refine m_k1 (t168 (a := A - B) (b := A) (g := eG (A - B) A) o3 (by omega) (by omega) (by omega) o1) hw hm rfl rfl rfl rfl rfl (fun hc30 hw30 hm30 => ?_)
      have hg := eu_r 40 (A - B) A _ o3 (by omega) (by omega) (by omega) o1
      refine f_ist [(6, fi (eG (A - B) A)), (4, fi (B)), (5, fi (A)), (0, .ref 55), (1, fi (x)), (2, fi (h)), (3, fi (1))] rfl (by decide) hL rfl (fun L100 hL100 => ?_)
      refine f_iln 6 rfl hL100 rfl ?_
      refine f_if rfl (by decide) (fun c => absurd (show (1 : Int) = (0 : Int) from c) (by decide)) (fun _ => ?_)
      refine f_il 2 rfl hL100 rfl ?_
      refine f_il 1 rfl hL100 rfl ?_
      refine f_isub rfl ?_
      refine f_il 0 rfl hL100 rfl ?_
      refine f_idiv rfl (by omega) (by omega) (by omega) (by omega) ?_
      refine f_goto rfl ?_
      exact f_ret1 rfl ⟨by unfold lm1_1; rw [if_neg (by omega)], hw30, hm30⟩
    · have c1 : ¬ ((m 55 0 : Int) ≤ (1 : Int)) := c1
      have kk : 1 < m 55 0 := by omega
      have hE : ∀ (hc : ev_H) (p : Int) (L : ev_L), y_in yGw hc → gi hc = m → f_L L [(8, fi p), (7, fi (mn m 1 h)), (6, fi (1)), (4, fi (B)), (5, fi (A)), (0, .ref 55), (1, fi (x)), (2, fi (h)), (3, fi (1))] → x_W none (1, 0, 9, 3, 11, 3, 66, 0, 0, ev_t184) 100 L [] hc 0 0 (fun r' h' => r' = some (fi (lm1_1 m x h A B)) ∧ y_in yGw h' ∧ gi h' = m) := fun hc p L hw hm hL => by
        have mr := mn_r m 1 h
        refine f_aln 5 rfl hL rfl ?_
        refine f_s [fi (0), .ref 55] rfl rfl ?_
        refine f_iln 6 rfl hL rfl ?_
        refine f_iln 7 rfl hL rfl ?_
        refine m_k1 (t90_0 (p := x) (h := h) x5.1 x5.2 rh (fv := m 58 x.toNat) rfl (hR 58 _) (uv := m 59 x.toNat) rfl (hR 59 _)) hw hm rfl rfl rfl (m_ar so55 hw rfl) rfl (fun hc31 hw31 hm31 => ?_)
        refine f_if rfl (bI_r _) (fun d1 => ?_) (fun d1 => ?_)
        · have d1 : (bI (decide (¬ iA (iR (m 61 16) (x)) (1) = 1 ∧ m 58 x.toNat ≤ h ∧ h ≤ m 59 x.toNat)) : Int) = (0 : Int) := d1
          have d1 : ¬ (¬ iA (iR (m 61 16) (x)) (1) = 1 ∧ m 58 x.toNat ≤ h ∧ h ≤ m 59 x.toNat) := bI_f d1
          refine f_s [fi (0)] rfl rfl ?_
          refine f_ist [(8, fi (0)), (7, fi (mn m 1 h)), (6, fi (1)), (4, fi (B)), (5, fi (A)), (0, .ref 55), (1, fi (x)), (2, fi (h)), (3, fi (1))] rfl (by decide) hL rfl (fun L101 hL101 => ?_)
          refine f_il 3 rfl hL101 rfl ?_
          refine f_il 0 rfl hL101 rfl ?_
          refine f_if rfl (by decide) (fun _ => ?_) (fun c => absurd (show (0 : Int) = (0 : Int) from (by decide)) c)
          refine f_s [fi (1), fi (B)] rfl rfl ?_
          refine f_imul rfl ?_
          refine f_ist [(4, fi (B * 1)), (8, fi (0)), (7, fi (mn m 1 h)), (6, fi (1)), (5, fi (A)), (0, .ref 55), (1, fi (x)), (2, fi (h)), (3, fi (1))] rfl (by decide) hL101 rfl (fun L102 hL102 => ?_)
          refine f_il 4 rfl hL102 rfl ?_
          refine f_il 1 rfl hL102 rfl ?_
          refine f_if rfl (by decide) (fun _ => ?_) (fun c => absurd (show (0 : Int) = (0 : Int) from (by decide)) c)
          refine f_s [fi (1), fi (A)] rfl rfl ?_
          refine f_imul rfl ?_
          refine f_ist [(5, fi (A * 1)), (4, fi (B * 1)), (8, fi (0)), (7, fi (mn m 1 h)), (6, fi (1)), (0, .ref 55), (1, fi (x)), (2, fi (h)), (3, fi (1))] rfl (by decide) hL102 rfl (fun L103 hL103 => ?_)
          refine f_inc 4 [(6, fi (2)), (5, fi (A * 1)), (4, fi (B * 1)), (8, fi (0)), (7, fi (mn m 1 h)), (0, .ref 55), (1, fi (x)), (2, fi (h)), (3, fi (1))] rfl (by decide) hL103 rfl rfl (fun L104 hL104 => ?_)
          refine f_goto rfl ?_
          have my : myB m 1 h x = false := decide_eq_false (fun z => d1 z.1)
          have e9 : lm1_1 m x h A B = lm1_2 m x h (A * 1) (B * 1) := (if_pos kk).trans ((if_neg (by rw [my]; decide)).trans (by rw [Int.mul_one, Int.mul_one]))
          rw [e9]
          exact hK2 hc31 _ _ _ hw31 hm31 (lS_s hAB (by decide)) (hL104.sel [0, 2, 1, 5, 6, 7, 8] rfl)
        · have d1 : ¬ ((bI (decide (¬ iA (iR (m 61 16) (x)) (1) = 1 ∧ m 58 x.toNat ≤ h ∧ h ≤ m 59 x.toNat)) : Int) = (0 : Int)) := d1
          have d1 : ¬ iA (iR (m 61 16) (x)) (1) = 1 ∧ m 58 x.toNat ≤ h ∧ h ≤ m 59 x.toNat := bI_t d1
          refine f_aln 5 rfl hL rfl ?_
          refine m_gfr so55 rfl hw31 rfl (by decide) ?_
          refine f_iln 6 rfl hL rfl ?_
          refine m_ia sa60 (m 60 (x).toNat) rfl hw31 hm31 (by omega) (by omega) (by decide) rfl ?_
          refine f_il 2 rfl hL rfl ?_
          refine m_k1 (t73 (hR 60 _) (by decide)) hw31 hm31 rfl rfl rfl rfl rfl (fun hc32 hw32 hm32 => ?_)
          refine f_if rfl (bI_r _) (fun d2 => ?_) (fun d2 => ?_)
          · have d2 : (bI (decide (iA (iR (m 60 (x).toNat) (1)) (1) = 1)) : Int) = (0 : Int) := d2
            have d2 : ¬ (iA (iR (m 60 (x).toNat) (1)) (1) = 1) := bI_f d2
            refine f_s [fi (0)] rfl rfl ?_
            refine f_ist [(8, fi (0)), (7, fi (mn m 1 h)), (6, fi (1)), (4, fi (B)), (5, fi (A)), (0, .ref 55), (1, fi (x)), (2, fi (h)), (3, fi (1))] rfl (by decide) hL rfl (fun L105 hL105 => ?_)
            refine f_il 3 rfl hL105 rfl ?_
            refine f_il 0 rfl hL105 rfl ?_
            refine f_if rfl (by decide) (fun _ => ?_) (fun c => absurd (show (0 : Int) = (0 : Int) from (by decide)) c)
            refine f_s [fi (1), fi (B)] rfl rfl ?_
            refine f_imul rfl ?_
            refine f_ist [(4, fi (B * 1)), (8, fi (0)), (7, fi (mn m 1 h)), (6, fi (1)), (5, fi (A)), (0, .ref 55), (1, fi (x)), (2, fi (h)), (3, fi (1))] rfl (by decide) hL105 rfl (fun L106 hL106 => ?_)
            refine f_il 4 rfl hL106 rfl ?_
            refine f_il 1 rfl hL106 rfl ?_
            refine f_if rfl (by decide) (fun _ => ?_) (fun c => absurd (show (0 : Int) = (0 : Int) from (by decide)) c)
            refine f_s [fi (1), fi (A)] rfl rfl ?_
            refine f_imul rfl ?_
            refine f_ist [(5, fi (A * 1)), (4, fi (B * 1)), (8, fi (0)), (7, fi (mn m 1 h)), (6, fi (1)), (0, .ref 55), (1, fi (x)), (2, fi (h)), (3, fi (1))] rfl (by decide) hL106 rfl (fun L107 hL107 => ?_)
            refine f_inc 4 [(6, fi (2)), (5, fi (A * 1)), (4, fi (B * 1)), (8, fi (0)), (7, fi (mn m 1 h)), (0, .ref 55), (1, fi (x)), (2, fi (h)), (3, fi (1))] rfl (by decide) hL107 rfl rfl (fun L108 hL108 => ?_)
            refine f_goto rfl ?_
            have my : myB m 1 h x = false := decide_eq_false (fun z => d2 z.2.1)
            have e9 : lm1_1 m x h A B = lm1_2 m x h (A * 1) (B * 1) := (if_pos kk).trans ((if_neg (by rw [my]; decide)).trans (by rw [Int.mul_one, Int.mul_one]))
            rw [e9]
            exact hK2 hc32 _ _ _ hw32 hm32 (lS_s hAB (by decide)) (hL108.sel [0, 2, 1, 5, 6, 7, 8] rfl)
          · have d2 : ¬ ((bI (decide (iA (iR (m 60 (x).toNat) (1)) (1) = 1)) : Int) = (0 : Int)) := d2
            have d2 : iA (iR (m 60 (x).toNat) (1)) (1) = 1 := bI_t d2
            refine f_aln 5 rfl hL rfl ?_
            refine m_gfr so55 rfl hw32 rfl (by decide) ?_
            refine f_bipush (n := 15) rfl (by decide) ?_
            refine m_ia sa61 (m 61 15) rfl hw32 hm32 (by omega) (by omega) (by decide) rfl ?_
            refine f_il 2 rfl hL rfl ?_
            refine m_k1 (t73 (hR 61 15) (by decide)) hw32 hm32 rfl rfl rfl rfl rfl (fun hc33 hw33 hm33 => ?_)
            refine f_if rfl (bI_r _) (fun d3 => ?_) (fun d3 => ?_)
            · have d3 : ¬ (bI (decide (iA (iR (m 61 15) (1)) (1) = 1)) : Int) = (0 : Int) := d3
              have d3 : iA (iR (m 61 15) (1)) (1) = 1 := bI_t d3
              refine f_s [fi (0)] rfl rfl ?_
              refine f_ist [(8, fi (0)), (7, fi (mn m 1 h)), (6, fi (1)), (4, fi (B)), (5, fi (A)), (0, .ref 55), (1, fi (x)), (2, fi (h)), (3, fi (1))] rfl (by decide) hL rfl (fun L109 hL109 => ?_)
              refine f_il 3 rfl hL109 rfl ?_
              refine f_il 0 rfl hL109 rfl ?_
              refine f_if rfl (by decide) (fun _ => ?_) (fun c => absurd (show (0 : Int) = (0 : Int) from (by decide)) c)
              refine f_s [fi (1), fi (B)] rfl rfl ?_
              refine f_imul rfl ?_
              refine f_ist [(4, fi (B * 1)), (8, fi (0)), (7, fi (mn m 1 h)), (6, fi (1)), (5, fi (A)), (0, .ref 55), (1, fi (x)), (2, fi (h)), (3, fi (1))] rfl (by decide) hL109 rfl (fun L110 hL110 => ?_)
              refine f_il 4 rfl hL110 rfl ?_
              refine f_il 1 rfl hL110 rfl ?_
              refine f_if rfl (by decide) (fun _ => ?_) (fun c => absurd (show (0 : Int) = (0 : Int) from (by decide)) c)
              refine f_s [fi (1), fi (A)] rfl rfl ?_
              refine f_imul rfl ?_
              refine f_ist [(5, fi (A * 1)), (4, fi (B * 1)), (8, fi (0)), (7, fi (mn m 1 h)), (6, fi (1)), (0, .ref 55), (1, fi (x)), (2, fi (h)), (3, fi (1))] rfl (by decide) hL110 rfl (fun L111 hL111 => ?_)
              refine f_inc 4 [(6, fi (2)), (5, fi (A * 1)), (4, fi (B * 1)), (8, fi (0)), (7, fi (mn m 1 h)), (0, .ref 55), (1, fi (x)), (2, fi (h)), (3, fi (1))] rfl (by decide) hL111 rfl rfl (fun L112 hL112 => ?_)
              refine f_goto rfl ?_
              have my : myB m 1 h x = false := decide_eq_false (fun z => z.2.2 d3)
              have e9 : lm1_1 m x h A B = lm1_2 m x h (A * 1) (B * 1) := (if_pos kk).trans ((if_neg (by rw [my]; decide)).trans (by rw [Int.mul_one, Int.mul_one]))
              rw [e9]
              exact hK2 hc33 _ _ _ hw33 hm33 (lS_s hAB (by decide)) (hL112.sel [0, 2, 1, 5, 6, 7, 8] rfl)
            · have d3 : ¬ (¬ (bI (decide (iA (iR (m 61 15) (1)) (1) = 1)) : Int) = (0 : Int)) := d3
              have d3 : ¬ (iA (iR (m 61 15) (1)) (1) = 1) := bI_n d3
              refine f_s [fi (1)] rfl rfl ?_
              refine f_goto rfl ?_
              refine f_ist [(8, fi (1)), (7, fi (mn m 1 h)), (6, fi (1)), (4, fi (B)), (5, fi (A)), (0, .ref 55), (1, fi (x)), (2, fi (h)), (3, fi (1))] rfl (by decide) hL rfl (fun L113 hL113 => ?_)
              refine f_il 3 rfl hL113 rfl ?_
              refine f_il 0 rfl hL113 rfl ?_
              refine f_if rfl (by decide) (fun c => absurd (show (1 : Int) = (0 : Int) from c) (by decide)) (fun _ => ?_)
              refine f_il 1 rfl hL113 rfl ?_
              refine f_s [fi (1), fi (mn m 1 h), fi (B)] rfl rfl ?_
              refine f_isub rfl ?_
              refine f_goto rfl ?_
              refine f_imul rfl ?_
              refine f_ist [(4, fi (B * ((mn m 1 h) - 1))), (8, fi (1)), (7, fi (mn m 1 h)), (6, fi (1)), (5, fi (A)), (0, .ref 55), (1, fi (x)), (2, fi (h)), (3, fi (1))] rfl (by decide) hL113 rfl (fun L114 hL114 => ?_)
              refine f_il 4 rfl hL114 rfl ?_
              refine f_il 1 rfl hL114 rfl ?_
              refine f_if rfl (by decide) (fun c => absurd (show (1 : Int) = (0 : Int) from c) (by decide)) (fun _ => ?_)
              refine f_il 2 rfl hL114 rfl ?_
              refine f_goto rfl ?_
              refine f_imul rfl ?_
              refine f_ist [(5, fi (A * (mn m 1 h))), (4, fi (B * ((mn m 1 h) - 1))), (8, fi (1)), (7, fi (mn m 1 h)), (6, fi (1)), (0, .ref 55), (1, fi (x)), (2, fi (h)), (3, fi (1))] rfl (by decide) hL114 rfl (fun L115 hL115 => ?_)
              refine f_inc 4 [(6, fi (2)), (5, fi (A * (mn m 1 h))), (4, fi (B * ((mn m 1 h) - 1))), (8, fi (1)), (7, fi (mn m 1 h)), (0, .ref 55), (1, fi (x)), (2, fi (h)), (3, fi (1))] rfl (by decide) hL115 rfl rfl (fun L116 hL116 => ?_)
              refine f_goto rfl ?_
              have my : myB m 1 h x = true := decide_eq_true ⟨d1, d2, d3⟩
              have e9 : lm1_1 m x h A B = lm1_2 m x h (A * mn m 1 h) (B * (mn m 1 h - 1)) := (if_pos kk).trans (if_pos my)
              rw [e9]
              exact hK2 hc33 _ _ _ hw33 hm33 (lS_s hAB (lQ_c (mn_1 1 (by decide) ⟨by decide, kk⟩ my) mr.2)) (hL116.sel [0, 2, 1, 5, 6, 7, 8] rfl)
      have hI5 : ∀ (hc : ev_H) (c : Int) (L : ev_L), y_in yGw hc → gi hc = m → c = mn m 1 h → f_L L [(8, fi (5)), (7, fi (c)), (6, fi (1)), (4, fi (B)), (5, fi (A)), (0, .ref 55), (1, fi (x)), (2, fi (h)), (3, fi (1))] → x_W none (1, 0, 9, 3, 11, 3, 66, 0, 0, ev_t184) 49 L [] hc 0 0 (fun r' h' => r' = some (fi (lm1_1 m x h A B)) ∧ y_in yGw h' ∧ gi h' = m) := fun hc c L hw hm hG hL => by
        refine f_il 0 rfl hL rfl ?_
        refine f_aln 5 rfl hL rfl ?_
        refine m_gfi so55 (m 55 1) rfl hw hm rfl rfl ?_
        refine f_ic rfl (by decide) (by omega) (fun _ => ?_) (fun c => absurd (show (m 55 1 : Int) ≤ (5 : Int) from (by omega)) c)
        rw [hG] at hL
        exact hE hc 5 _ hw hm (hL.sel [0, 1, 2, 3, 4, 5, 6, 7, 8] rfl)
      have hI4 : ∀ (hc : ev_H) (c : Int) (L : ev_L), y_in yGw hc → gi hc = m → mn1 m 1 h 4 4 (c) = mn m 1 h → f_L L [(8, fi (4)), (7, fi (c)), (6, fi (1)), (4, fi (B)), (5, fi (A)), (0, .ref 55), (1, fi (x)), (2, fi (h)), (3, fi (1))] → x_W none (1, 0, 9, 3, 11, 3, 66, 0, 0, ev_t184) 49 L [] hc 0 0 (fun r' h' => r' = some (fi (lm1_1 m x h A B)) ∧ y_in yGw h' ∧ gi h' = m) := fun hc c L hw hm hG hL => by
        refine f_il 0 rfl hL rfl ?_
        refine f_aln 5 rfl hL rfl ?_
        refine m_gfi so55 (m 55 1) rfl hw hm rfl rfl ?_
        refine f_ic rfl (by decide) (by omega) (fun ci => ?_) (fun ci => ?_)
        · have ci : (m 55 1 : Int) ≤ (4 : Int) := ci
          have e8 : mn1 m 1 h 4 4 (c) = c := by unfold mn1; rw [if_neg (by omega)]
          rw [e8] at hG
          rw [hG] at hL
          exact hE hc 4 _ hw hm (hL.sel [0, 1, 2, 3, 4, 5, 6, 7, 8] rfl)
        · have ci : ¬ ((m 55 1 : Int) ≤ (4 : Int)) := ci
          refine f_il 1 rfl hL rfl ?_
          refine f_aln 5 rfl hL rfl ?_
          refine f_s [fi (0), .ref 55, fi (c)] rfl rfl ?_
          refine f_il 0 rfl hL rfl ?_
          refine f_iln 7 rfl hL rfl ?_
          refine m_k1 (t90_0 (p := 4) (h := h) (by decide) (by decide) rh (fv := m 58 4) rfl (hR 58 _) (uv := m 59 4) rfl (hR 59 _)) hw hm rfl rfl rfl (m_ar so55 hw rfl) rfl (fun hc34 hw34 hm34 => ?_)
          refine f_if rfl (bI_r _) (fun e1 => ?_) (fun e1 => ?_)
          · have e1 : (bI (decide (¬ iA (iR (m 61 16) (4)) (1) = 1 ∧ m 58 4 ≤ h ∧ h ≤ m 59 4)) : Int) = (0 : Int) := e1
            have e1 : ¬ (¬ iA (iR (m 61 16) (4)) (1) = 1 ∧ m 58 4 ≤ h ∧ h ≤ m 59 4) := bI_f e1
            refine f_s [fi (0), fi (c)] rfl rfl ?_
            refine f_iadd rfl ?_
            refine f_ist [(7, fi (c + 0)), (8, fi (4)), (6, fi (1)), (4, fi (B)), (5, fi (A)), (0, .ref 55), (1, fi (x)), (2, fi (h)), (3, fi (1))] rfl (by decide) hL rfl (fun L117 hL117 => ?_)
            refine f_inc 1 [(8, fi (5)), (7, fi (c + 0)), (6, fi (1)), (4, fi (B)), (5, fi (A)), (0, .ref 55), (1, fi (x)), (2, fi (h)), (3, fi (1))] rfl (by decide) hL117 rfl rfl (fun L118 hL118 => ?_)
            refine f_goto rfl ?_
            have mb : mnB m 1 h 4 4 = false := decide_eq_false (fun z => e1 z.1)
            have e9 : mn1 m 1 h 4 4 c = c + 0 := (if_pos (by omega)).trans (by rw [mb]; rfl)
            rw [e9] at hG
            exact hI5 hc34 _ _ hw34 hm34 hG (hL118.sel [0, 1, 2, 3, 4, 5, 6, 7, 8] rfl)
          · have e1 : ¬ ((bI (decide (¬ iA (iR (m 61 16) (4)) (1) = 1 ∧ m 58 4 ≤ h ∧ h ≤ m 59 4)) : Int) = (0 : Int)) := e1
            have e1 : ¬ iA (iR (m 61 16) (4)) (1) = 1 ∧ m 58 4 ≤ h ∧ h ≤ m 59 4 := bI_t e1
            refine f_aln 5 rfl hL rfl ?_
            refine m_gfr so55 rfl hw34 rfl (by decide) ?_
            refine f_il 0 rfl hL rfl ?_
            refine m_ia sa60 (m 60 4) rfl hw34 hm34 (by omega) (by omega) (by decide) rfl ?_
            refine f_il 2 rfl hL rfl ?_
            refine m_k1 (t73 (hR 60 4) (by decide)) hw34 hm34 rfl rfl rfl rfl rfl (fun hc35 hw35 hm35 => ?_)
            refine f_if rfl (bI_r _) (fun e2 => ?_) (fun e2 => ?_)
            · have e2 : (bI (decide (iA (iR (m 60 4) (1)) (1) = 1)) : Int) = (0 : Int) := e2
              have e2 : ¬ (iA (iR (m 60 4) (1)) (1) = 1) := bI_f e2
              refine f_s [fi (0), fi (c)] rfl rfl ?_
              refine f_iadd rfl ?_
              refine f_ist [(7, fi (c + 0)), (8, fi (4)), (6, fi (1)), (4, fi (B)), (5, fi (A)), (0, .ref 55), (1, fi (x)), (2, fi (h)), (3, fi (1))] rfl (by decide) hL rfl (fun L119 hL119 => ?_)
              refine f_inc 1 [(8, fi (5)), (7, fi (c + 0)), (6, fi (1)), (4, fi (B)), (5, fi (A)), (0, .ref 55), (1, fi (x)), (2, fi (h)), (3, fi (1))] rfl (by decide) hL119 rfl rfl (fun L120 hL120 => ?_)
              refine f_goto rfl ?_
              have mb : mnB m 1 h 4 4 = false := decide_eq_false (fun z => e2 z.2)
              have e9 : mn1 m 1 h 4 4 c = c + 0 := (if_pos (by omega)).trans (by rw [mb]; rfl)
              rw [e9] at hG
              exact hI5 hc35 _ _ hw35 hm35 hG (hL120.sel [0, 1, 2, 3, 4, 5, 6, 7, 8] rfl)
            · have e2 : ¬ ((bI (decide (iA (iR (m 60 4) (1)) (1) = 1)) : Int) = (0 : Int)) := e2
              have e2 : iA (iR (m 60 4) (1)) (1) = 1 := bI_t e2
              refine f_s [fi (1), fi (c)] rfl rfl ?_
              refine f_goto rfl ?_
              refine f_iadd rfl ?_
              refine f_ist [(7, fi (c + 1)), (8, fi (4)), (6, fi (1)), (4, fi (B)), (5, fi (A)), (0, .ref 55), (1, fi (x)), (2, fi (h)), (3, fi (1))] rfl (by decide) hL rfl (fun L121 hL121 => ?_)
              refine f_inc 1 [(8, fi (5)), (7, fi (c + 1)), (6, fi (1)), (4, fi (B)), (5, fi (A)), (0, .ref 55), (1, fi (x)), (2, fi (h)), (3, fi (1))] rfl (by decide) hL121 rfl rfl (fun L122 hL122 => ?_)
              refine f_goto rfl ?_
              have mb : mnB m 1 h 4 4 = true := decide_eq_true ⟨e1, e2⟩
              have e9 : mn1 m 1 h 4 4 c = c + 1 := (if_pos (by omega)).trans (by rw [mb]; rfl)
              rw [e9] at hG
              exact hI5 hc35 _ _ hw35 hm35 hG (hL122.sel [0, 1, 2, 3, 4, 5, 6, 7, 8] rfl)
      have hI3 : ∀ (hc : ev_H) (c : Int) (L : ev_L), y_in yGw hc → gi hc = m → mn1 m 1 h 4 4 (mn1 m 1 h 3 3 (c)) = mn m 1 h → f_L L [(8, fi (3)), (7, fi (c)), (6, fi (1)), (4, fi (B)), (5, fi (A)), (0, .ref 55), (1, fi (x)), (2, fi (h)), (3, fi (1))] → x_W none (1, 0, 9, 3, 11, 3, 66, 0, 0, ev_t184) 49 L [] hc 0 0 (fun r' h' => r' = some (fi (lm1_1 m x h A B)) ∧ y_in yGw h' ∧ gi h' = m) := fun hc c L hw hm hG hL => by
        refine f_il 0 rfl hL rfl ?_
        refine f_aln 5 rfl hL rfl ?_
        refine m_gfi so55 (m 55 1) rfl hw hm rfl rfl ?_
        refine f_ic rfl (by decide) (by omega) (fun ci => ?_) (fun ci => ?_)
        · have ci : (m 55 1 : Int) ≤ (3 : Int) := ci
          have e8 : mn1 m 1 h 4 4 (mn1 m 1 h 3 3 (c)) = c := by unfold mn1; rw [if_neg (by omega), if_neg (by omega)]
          rw [e8] at hG
          rw [hG] at hL
          exact hE hc 3 _ hw hm (hL.sel [0, 1, 2, 3, 4, 5, 6, 7, 8] rfl)
        · have ci : ¬ ((m 55 1 : Int) ≤ (3 : Int)) := ci
          refine f_il 1 rfl hL rfl ?_
          refine f_aln 5 rfl hL rfl ?_
          refine f_s [fi (0), .ref 55, fi (c)] rfl rfl ?_
          refine f_il 0 rfl hL rfl ?_
          refine f_iln 7 rfl hL rfl ?_
          refine m_k1 (t90_0 (p := 3) (h := h) (by decide) (by decide) rh (fv := m 58 3) rfl (hR 58 _) (uv := m 59 3) rfl (hR 59 _)) hw hm rfl rfl rfl (m_ar so55 hw rfl) rfl (fun hc36 hw36 hm36 => ?_)
          refine f_if rfl (bI_r _) (fun e1 => ?_) (fun e1 => ?_)
          · have e1 : (bI (decide (¬ iA (iR (m 61 16) (3)) (1) = 1 ∧ m 58 3 ≤ h ∧ h ≤ m 59 3)) : Int) = (0 : Int) := e1
            have e1 : ¬ (¬ iA (iR (m 61 16) (3)) (1) = 1 ∧ m 58 3 ≤ h ∧ h ≤ m 59 3) := bI_f e1
            refine f_s [fi (0), fi (c)] rfl rfl ?_
            refine f_iadd rfl ?_
            refine f_ist [(7, fi (c + 0)), (8, fi (3)), (6, fi (1)), (4, fi (B)), (5, fi (A)), (0, .ref 55), (1, fi (x)), (2, fi (h)), (3, fi (1))] rfl (by decide) hL rfl (fun L123 hL123 => ?_)
            refine f_inc 1 [(8, fi (4)), (7, fi (c + 0)), (6, fi (1)), (4, fi (B)), (5, fi (A)), (0, .ref 55), (1, fi (x)), (2, fi (h)), (3, fi (1))] rfl (by decide) hL123 rfl rfl (fun L124 hL124 => ?_)
            refine f_goto rfl ?_
            have mb : mnB m 1 h 3 3 = false := decide_eq_false (fun z => e1 z.1)
            have e9 : mn1 m 1 h 3 3 c = c + 0 := (if_pos (by omega)).trans (by rw [mb]; rfl)
            rw [e9] at hG
            exact hI4 hc36 _ _ hw36 hm36 hG (hL124.sel [0, 1, 2, 3, 4, 5, 6, 7, 8] rfl)
          · have e1 : ¬ ((bI (decide (¬ iA (iR (m 61 16) (3)) (1) = 1 ∧ m 58 3 ≤ h ∧ h ≤ m 59 3)) : Int) = (0 : Int)) := e1
            have e1 : ¬ iA (iR (m 61 16) (3)) (1) = 1 ∧ m 58 3 ≤ h ∧ h ≤ m 59 3 := bI_t e1
            refine f_aln 5 rfl hL rfl ?_
            refine m_gfr so55 rfl hw36 rfl (by decide) ?_
            refine f_il 0 rfl hL rfl ?_
            refine m_ia sa60 (m 60 3) rfl hw36 hm36 (by omega) (by omega) (by decide) rfl ?_
            refine f_il 2 rfl hL rfl ?_
            refine m_k1 (t73 (hR 60 3) (by decide)) hw36 hm36 rfl rfl rfl rfl rfl (fun hc37 hw37 hm37 => ?_)
            refine f_if rfl (bI_r _) (fun e2 => ?_) (fun e2 => ?_)
            · have e2 : (bI (decide (iA (iR (m 60 3) (1)) (1) = 1)) : Int) = (0 : Int) := e2
              have e2 : ¬ (iA (iR (m 60 3) (1)) (1) = 1) := bI_f e2
              refine f_s [fi (0), fi (c)] rfl rfl ?_
              refine f_iadd rfl ?_
              refine f_ist [(7, fi (c + 0)), (8, fi (3)), (6, fi (1)), (4, fi (B)), (5, fi (A)), (0, .ref 55), (1, fi (x)), (2, fi (h)), (3, fi (1))] rfl (by decide) hL rfl (fun L125 hL125 => ?_)
              refine f_inc 1 [(8, fi (4)), (7, fi (c + 0)), (6, fi (1)), (4, fi (B)), (5, fi (A)), (0, .ref 55), (1, fi (x)), (2, fi (h)), (3, fi (1))] rfl (by decide) hL125 rfl rfl (fun L126 hL126 => ?_)
              refine f_goto rfl ?_
              have mb : mnB m 1 h 3 3 = false := decide_eq_false (fun z => e2 z.2)
              have e9 : mn1 m 1 h 3 3 c = c + 0 := (if_pos (by omega)).trans (by rw [mb]; rfl)
              rw [e9] at hG
              exact hI4 hc37 _ _ hw37 hm37 hG (hL126.sel [0, 1, 2, 3, 4, 5, 6, 7, 8] rfl)
            · have e2 : ¬ ((bI (decide (iA (iR (m 60 3) (1)) (1) = 1)) : Int) = (0 : Int)) := e2
              have e2 : iA (iR (m 60 3) (1)) (1) = 1 := bI_t e2
              refine f_s [fi (1), fi (c)] rfl rfl ?_
              refine f_goto rfl ?_
              refine f_iadd rfl ?_
              refine f_ist [(7, fi (c + 1)), (8, fi (3)), (6, fi (1)), (4, fi (B)), (5, fi (A)), (0, .ref 55), (1, fi (x)), (2, fi (h)), (3, fi (1))] rfl (by decide) hL rfl (fun L127 hL127 => ?_)
              refine f_inc 1 [(8, fi (4)), (7, fi (c + 1)), (6, fi (1)), (4, fi (B)), (5, fi (A)), (0, .ref 55), (1, fi (x)), (2, fi (h)), (3, fi (1))] rfl (by decide) hL127 rfl rfl (fun L128 hL128 => ?_)
              refine f_goto rfl ?_
              have mb : mnB m 1 h 3 3 = true := decide_eq_true ⟨e1, e2⟩
              have e9 : mn1 m 1 h 3 3 c = c + 1 := (if_pos (by omega)).trans (by rw [mb]; rfl)
              rw [e9] at hG
              exact hI4 hc37 _ _ hw37 hm37 hG (hL128.sel [0, 1, 2, 3, 4, 5, 6, 7, 8] rfl)
      have hI2 : ∀ (hc : ev_H) (c : Int) (L : ev_L), y_in yGw hc → gi hc = m → mn1 m 1 h 4 4 (mn1 m 1 h 3 3 (mn1 m 1 h 2 2 (c))) = mn m 1 h → f_L L [(8, fi (2)), (7, fi (c)), (6, fi (1)), (4, fi (B)), (5, fi (A)), (0, .ref 55), (1, fi (x)), (2, fi (h)), (3, fi (1))] → x_W none (1, 0, 9, 3, 11, 3, 66, 0, 0, ev_t184) 49 L [] hc 0 0 (fun r' h' => r' = some (fi (lm1_1 m x h A B)) ∧ y_in yGw h' ∧ gi h' = m) := fun hc c L hw hm hG hL => by
        refine f_il 0 rfl hL rfl ?_
        refine f_aln 5 rfl hL rfl ?_
        refine m_gfi so55 (m 55 1) rfl hw hm rfl rfl ?_
        refine f_ic rfl (by decide) (by omega) (fun ci => ?_) (fun ci => ?_)
        · have ci : (m 55 1 : Int) ≤ (2 : Int) := ci
          have e8 : mn1 m 1 h 4 4 (mn1 m 1 h 3 3 (mn1 m 1 h 2 2 (c))) = c := by unfold mn1; rw [if_neg (by omega), if_neg (by omega), if_neg (by omega)]
          rw [e8] at hG
          rw [hG] at hL
          exact hE hc 2 _ hw hm (hL.sel [0, 1, 2, 3, 4, 5, 6, 7, 8] rfl)
        · have ci : ¬ ((m 55 1 : Int) ≤ (2 : Int)) := ci
          refine f_il 1 rfl hL rfl ?_
          refine f_aln 5 rfl hL rfl ?_
          refine f_s [fi (0), .ref 55, fi (c)] rfl rfl ?_
          refine f_il 0 rfl hL rfl ?_
          refine f_iln 7 rfl hL rfl ?_
          refine m_k1 (t90_0 (p := 2) (h := h) (by decide) (by decide) rh (fv := m 58 2) rfl (hR 58 _) (uv := m 59 2) rfl (hR 59 _)) hw hm rfl rfl rfl (m_ar so55 hw rfl) rfl (fun hc38 hw38 hm38 => ?_)
          refine f_if rfl (bI_r _) (fun e1 => ?_) (fun e1 => ?_)
          · have e1 : (bI (decide (¬ iA (iR (m 61 16) (2)) (1) = 1 ∧ m 58 2 ≤ h ∧ h ≤ m 59 2)) : Int) = (0 : Int) := e1
            have e1 : ¬ (¬ iA (iR (m 61 16) (2)) (1) = 1 ∧ m 58 2 ≤ h ∧ h ≤ m 59 2) := bI_f e1
            refine f_s [fi (0), fi (c)] rfl rfl ?_
            refine f_iadd rfl ?_
            refine f_ist [(7, fi (c + 0)), (8, fi (2)), (6, fi (1)), (4, fi (B)), (5, fi (A)), (0, .ref 55), (1, fi (x)), (2, fi (h)), (3, fi (1))] rfl (by decide) hL rfl (fun L129 hL129 => ?_)
            refine f_inc 1 [(8, fi (3)), (7, fi (c + 0)), (6, fi (1)), (4, fi (B)), (5, fi (A)), (0, .ref 55), (1, fi (x)), (2, fi (h)), (3, fi (1))] rfl (by decide) hL129 rfl rfl (fun L130 hL130 => ?_)
            refine f_goto rfl ?_
            have mb : mnB m 1 h 2 2 = false := decide_eq_false (fun z => e1 z.1)
            have e9 : mn1 m 1 h 2 2 c = c + 0 := (if_pos (by omega)).trans (by rw [mb]; rfl)
            rw [e9] at hG
            exact hI3 hc38 _ _ hw38 hm38 hG (hL130.sel [0, 1, 2, 3, 4, 5, 6, 7, 8] rfl)
          · have e1 : ¬ ((bI (decide (¬ iA (iR (m 61 16) (2)) (1) = 1 ∧ m 58 2 ≤ h ∧ h ≤ m 59 2)) : Int) = (0 : Int)) := e1
            have e1 : ¬ iA (iR (m 61 16) (2)) (1) = 1 ∧ m 58 2 ≤ h ∧ h ≤ m 59 2 := bI_t e1
            refine f_aln 5 rfl hL rfl ?_
            refine m_gfr so55 rfl hw38 rfl (by decide) ?_
            refine f_il 0 rfl hL rfl ?_
            refine m_ia sa60 (m 60 2) rfl hw38 hm38 (by omega) (by omega) (by decide) rfl ?_
            refine f_il 2 rfl hL rfl ?_
            refine m_k1 (t73 (hR 60 2) (by decide)) hw38 hm38 rfl rfl rfl rfl rfl (fun hc39 hw39 hm39 => ?_)
            refine f_if rfl (bI_r _) (fun e2 => ?_) (fun e2 => ?_)
            · have e2 : (bI (decide (iA (iR (m 60 2) (1)) (1) = 1)) : Int) = (0 : Int) := e2
              have e2 : ¬ (iA (iR (m 60 2) (1)) (1) = 1) := bI_f e2
              refine f_s [fi (0), fi (c)] rfl rfl ?_
              refine f_iadd rfl ?_
              refine f_ist [(7, fi (c + 0)), (8, fi (2)), (6, fi (1)), (4, fi (B)), (5, fi (A)), (0, .ref 55), (1, fi (x)), (2, fi (h)), (3, fi (1))] rfl (by decide) hL rfl (fun L131 hL131 => ?_)
              refine f_inc 1 [(8, fi (3)), (7, fi (c + 0)), (6, fi (1)), (4, fi (B)), (5, fi (A)), (0, .ref 55), (1, fi (x)), (2, fi (h)), (3, fi (1))] rfl (by decide) hL131 rfl rfl (fun L132 hL132 => ?_)
              refine f_goto rfl ?_
              have mb : mnB m 1 h 2 2 = false := decide_eq_false (fun z => e2 z.2)
              have e9 : mn1 m 1 h 2 2 c = c + 0 := (if_pos (by omega)).trans (by rw [mb]; rfl)
              rw [e9] at hG
              exact hI3 hc39 _ _ hw39 hm39 hG (hL132.sel [0, 1, 2, 3, 4, 5, 6, 7, 8] rfl)
            · have e2 : ¬ ((bI (decide (iA (iR (m 60 2) (1)) (1) = 1)) : Int) = (0 : Int)) := e2
              have e2 : iA (iR (m 60 2) (1)) (1) = 1 := bI_t e2
              refine f_s [fi (1), fi (c)] rfl rfl ?_
              refine f_goto rfl ?_
              refine f_iadd rfl ?_
              refine f_ist [(7, fi (c + 1)), (8, fi (2)), (6, fi (1)), (4, fi (B)), (5, fi (A)), (0, .ref 55), (1, fi (x)), (2, fi (h)), (3, fi (1))] rfl (by decide) hL rfl (fun L133 hL133 => ?_)
              refine f_inc 1 [(8, fi (3)), (7, fi (c + 1)), (6, fi (1)), (4, fi (B)), (5, fi (A)), (0, .ref 55), (1, fi (x)), (2, fi (h)), (3, fi (1))] rfl (by decide) hL133 rfl rfl (fun L134 hL134 => ?_)
              refine f_goto rfl ?_
              have mb : mnB m 1 h 2 2 = true := decide_eq_true ⟨e1, e2⟩
              have e9 : mn1 m 1 h 2 2 c = c + 1 := (if_pos (by omega)).trans (by rw [mb]; rfl)
              rw [e9] at hG
              exact hI3 hc39 _ _ hw39 hm39 hG (hL134.sel [0, 1, 2, 3, 4, 5, 6, 7, 8] rfl)
      have hI1 : ∀ (hc : ev_H) (c : Int) (L : ev_L), y_in yGw hc → gi hc = m → mn1 m 1 h 4 4 (mn1 m 1 h 3 3 (mn1 m 1 h 2 2 (mn1 m 1 h 1 1 (c)))) = mn m 1 h → f_L L [(8, fi (1)), (7, fi (c)), (6, fi (1)), (4, fi (B)), (5, fi (A)), (0, .ref 55), (1, fi (x)), (2, fi (h)), (3, fi (1))] → x_W none (1, 0, 9, 3, 11, 3, 66, 0, 0, ev_t184) 49 L [] hc 0 0 (fun r' h' => r' = some (fi (lm1_1 m x h A B)) ∧ y_in yGw h' ∧ gi h' = m) := fun hc c L hw hm hG hL => by
        refine f_il 0 rfl hL rfl ?_
        refine f_aln 5 rfl hL rfl ?_
        refine m_gfi so55 (m 55 1) rfl hw hm rfl rfl ?_
        refine f_ic rfl (by decide) (by omega) (fun ci => ?_) (fun ci => ?_)
        · have ci : (m 55 1 : Int) ≤ (1 : Int) := ci
          have e8 : mn1 m 1 h 4 4 (mn1 m 1 h 3 3 (mn1 m 1 h 2 2 (mn1 m 1 h 1 1 (c)))) = c := by unfold mn1; rw [if_neg (by omega), if_neg (by omega), if_neg (by omega), if_neg (by omega)]
          rw [e8] at hG
          rw [hG] at hL
          exact hE hc 1 _ hw hm (hL.sel [0, 1, 2, 3, 4, 5, 6, 7, 8] rfl)
        · have ci : ¬ ((m 55 1 : Int) ≤ (1 : Int)) := ci
          refine f_il 1 rfl hL rfl ?_
          refine f_aln 5 rfl hL rfl ?_
          refine f_s [fi (0), .ref 55, fi (c)] rfl rfl ?_
          refine f_il 0 rfl hL rfl ?_
          refine f_iln 7 rfl hL rfl ?_
          refine m_k1 (t90_0 (p := 1) (h := h) (by decide) (by decide) rh (fv := m 58 1) rfl (hR 58 _) (uv := m 59 1) rfl (hR 59 _)) hw hm rfl rfl rfl (m_ar so55 hw rfl) rfl (fun hc40 hw40 hm40 => ?_)
          refine f_if rfl (bI_r _) (fun e1 => ?_) (fun e1 => ?_)
          · have e1 : (bI (decide (¬ iA (iR (m 61 16) (1)) (1) = 1 ∧ m 58 1 ≤ h ∧ h ≤ m 59 1)) : Int) = (0 : Int) := e1
            have e1 : ¬ (¬ iA (iR (m 61 16) (1)) (1) = 1 ∧ m 58 1 ≤ h ∧ h ≤ m 59 1) := bI_f e1
            refine f_s [fi (0), fi (c)] rfl rfl ?_
            refine f_iadd rfl ?_
            refine f_ist [(7, fi (c + 0)), (8, fi (1)), (6, fi (1)), (4, fi (B)), (5, fi (A)), (0, .ref 55), (1, fi (x)), (2, fi (h)), (3, fi (1))] rfl (by decide) hL rfl (fun L135 hL135 => ?_)
            refine f_inc 1 [(8, fi (2)), (7, fi (c + 0)), (6, fi (1)), (4, fi (B)), (5, fi (A)), (0, .ref 55), (1, fi (x)), (2, fi (h)), (3, fi (1))] rfl (by decide) hL135 rfl rfl (fun L136 hL136 => ?_)
            refine f_goto rfl ?_
            have mb : mnB m 1 h 1 1 = false := decide_eq_false (fun z => e1 z.1)
            have e9 : mn1 m 1 h 1 1 c = c + 0 := (if_pos (by omega)).trans (by rw [mb]; rfl)
            rw [e9] at hG
            exact hI2 hc40 _ _ hw40 hm40 hG (hL136.sel [0, 1, 2, 3, 4, 5, 6, 7, 8] rfl)
          · have e1 : ¬ ((bI (decide (¬ iA (iR (m 61 16) (1)) (1) = 1 ∧ m 58 1 ≤ h ∧ h ≤ m 59 1)) : Int) = (0 : Int)) := e1
            have e1 : ¬ iA (iR (m 61 16) (1)) (1) = 1 ∧ m 58 1 ≤ h ∧ h ≤ m 59 1 := bI_t e1
            refine f_aln 5 rfl hL rfl ?_
            refine m_gfr so55 rfl hw40 rfl (by decide) ?_
            refine f_il 0 rfl hL rfl ?_
            refine m_ia sa60 (m 60 1) rfl hw40 hm40 (by omega) (by omega) (by decide) rfl ?_
            refine f_il 2 rfl hL rfl ?_
            refine m_k1 (t73 (hR 60 1) (by decide)) hw40 hm40 rfl rfl rfl rfl rfl (fun hc41 hw41 hm41 => ?_)
            refine f_if rfl (bI_r _) (fun e2 => ?_) (fun e2 => ?_)
            · have e2 : (bI (decide (iA (iR (m 60 1) (1)) (1) = 1)) : Int) = (0 : Int) := e2
              have e2 : ¬ (iA (iR (m 60 1) (1)) (1) = 1) := bI_f e2
              refine f_s [fi (0), fi (c)] rfl rfl ?_
              refine f_iadd rfl ?_
              refine f_ist [(7, fi (c + 0)), (8, fi (1)), (6, fi (1)), (4, fi (B)), (5, fi (A)), (0, .ref 55), (1, fi (x)), (2, fi (h)), (3, fi (1))] rfl (by decide) hL rfl (fun L137 hL137 => ?_)
              refine f_inc 1 [(8, fi (2)), (7, fi (c + 0)), (6, fi (1)), (4, fi (B)), (5, fi (A)), (0, .ref 55), (1, fi (x)), (2, fi (h)), (3, fi (1))] rfl (by decide) hL137 rfl rfl (fun L138 hL138 => ?_)
              refine f_goto rfl ?_
              have mb : mnB m 1 h 1 1 = false := decide_eq_false (fun z => e2 z.2)
              have e9 : mn1 m 1 h 1 1 c = c + 0 := (if_pos (by omega)).trans (by rw [mb]; rfl)
              rw [e9] at hG
              exact hI2 hc41 _ _ hw41 hm41 hG (hL138.sel [0, 1, 2, 3, 4, 5, 6, 7, 8] rfl)
            · have e2 : ¬ ((bI (decide (iA (iR (m 60 1) (1)) (1) = 1)) : Int) = (0 : Int)) := e2
              have e2 : iA (iR (m 60 1) (1)) (1) = 1 := bI_t e2
              refine f_s [fi (1), fi (c)] rfl rfl ?_
              refine f_goto rfl ?_
              refine f_iadd rfl ?_
              refine f_ist [(7, fi (c + 1)), (8, fi (1)), (6, fi (1)), (4, fi (B)), (5, fi (A)), (0, .ref 55), (1, fi (x)), (2, fi (h)), (3, fi (1))] rfl (by decide) hL rfl (fun L139 hL139 => ?_)
              refine f_inc 1 [(8, fi (2)), (7, fi (c + 1)), (6, fi (1)), (4, fi (B)), (5, fi (A)), (0, .ref 55), (1, fi (x)), (2, fi (h)), (3, fi (1))] rfl (by decide) hL139 rfl rfl (fun L140 hL140 => ?_)
              refine f_goto rfl ?_
              have mb : mnB m 1 h 1 1 = true := decide_eq_true ⟨e1, e2⟩
              have e9 : mn1 m 1 h 1 1 c = c + 1 := (if_pos (by omega)).trans (by rw [mb]; rfl)
              rw [e9] at hG
              exact hI2 hc41 _ _ hw41 hm41 hG (hL140.sel [0, 1, 2, 3, 4, 5, 6, 7, 8] rfl)
      have hI0 : ∀ (hc : ev_H) (c : Int) (L : ev_L), y_in yGw hc → gi hc = m → mn1 m 1 h 4 4 (mn1 m 1 h 3 3 (mn1 m 1 h 2 2 (mn1 m 1 h 1 1 (mn1 m 1 h 0 0 (c))))) = mn m 1 h → f_L L [(8, fi (0)), (7, fi (c)), (6, fi (1)), (4, fi (B)), (5, fi (A)), (0, .ref 55), (1, fi (x)), (2, fi (h)), (3, fi (1))] → x_W none (1, 0, 9, 3, 11, 3, 66, 0, 0, ev_t184) 49 L [] hc 0 0 (fun r' h' => r' = some (fi (lm1_1 m x h A B)) ∧ y_in yGw h' ∧ gi h' = m) := fun hc c L hw hm hG hL => by
        refine f_il 0 rfl hL rfl ?_
        refine f_aln 5 rfl hL rfl ?_
        refine m_gfi so55 (m 55 1) rfl hw hm rfl rfl ?_
        refine f_ic rfl (by decide) (by omega) (fun ci => ?_) (fun ci => ?_)
        · have ci : (m 55 1 : Int) ≤ (0 : Int) := ci
          have e8 : mn1 m 1 h 4 4 (mn1 m 1 h 3 3 (mn1 m 1 h 2 2 (mn1 m 1 h 1 1 (mn1 m 1 h 0 0 (c))))) = c := by unfold mn1; rw [if_neg (by omega), if_neg (by omega), if_neg (by omega), if_neg (by omega), if_neg (by omega)]
          rw [e8] at hG
          rw [hG] at hL
          exact hE hc 0 _ hw hm (hL.sel [0, 1, 2, 3, 4, 5, 6, 7, 8] rfl)
        · have ci : ¬ ((m 55 1 : Int) ≤ (0 : Int)) := ci
          refine f_il 1 rfl hL rfl ?_
          refine f_aln 5 rfl hL rfl ?_
          refine f_s [fi (0), .ref 55, fi (c)] rfl rfl ?_
          refine f_il 0 rfl hL rfl ?_
          refine f_iln 7 rfl hL rfl ?_
          refine m_k1 (t90_0 (p := 0) (h := h) (by decide) (by decide) rh (fv := m 58 0) rfl (hR 58 _) (uv := m 59 0) rfl (hR 59 _)) hw hm rfl rfl rfl (m_ar so55 hw rfl) rfl (fun hc42 hw42 hm42 => ?_)
          refine f_if rfl (bI_r _) (fun e1 => ?_) (fun e1 => ?_)
          · have e1 : (bI (decide (¬ iA (iR (m 61 16) (0)) (1) = 1 ∧ m 58 0 ≤ h ∧ h ≤ m 59 0)) : Int) = (0 : Int) := e1
            have e1 : ¬ (¬ iA (iR (m 61 16) (0)) (1) = 1 ∧ m 58 0 ≤ h ∧ h ≤ m 59 0) := bI_f e1
            refine f_s [fi (0), fi (c)] rfl rfl ?_
            refine f_iadd rfl ?_
            refine f_ist [(7, fi (c + 0)), (8, fi (0)), (6, fi (1)), (4, fi (B)), (5, fi (A)), (0, .ref 55), (1, fi (x)), (2, fi (h)), (3, fi (1))] rfl (by decide) hL rfl (fun L141 hL141 => ?_)
            refine f_inc 1 [(8, fi (1)), (7, fi (c + 0)), (6, fi (1)), (4, fi (B)), (5, fi (A)), (0, .ref 55), (1, fi (x)), (2, fi (h)), (3, fi (1))] rfl (by decide) hL141 rfl rfl (fun L142 hL142 => ?_)
            refine f_goto rfl ?_
            have mb : mnB m 1 h 0 0 = false := decide_eq_false (fun z => e1 z.1)
            have e9 : mn1 m 1 h 0 0 c = c + 0 := (if_pos (by omega)).trans (by rw [mb]; rfl)
            rw [e9] at hG
            exact hI1 hc42 _ _ hw42 hm42 hG (hL142.sel [0, 1, 2, 3, 4, 5, 6, 7, 8] rfl)
          · have e1 : ¬ ((bI (decide (¬ iA (iR (m 61 16) (0)) (1) = 1 ∧ m 58 0 ≤ h ∧ h ≤ m 59 0)) : Int) = (0 : Int)) := e1
            have e1 : ¬ iA (iR (m 61 16) (0)) (1) = 1 ∧ m 58 0 ≤ h ∧ h ≤ m 59 0 := bI_t e1
            refine f_aln 5 rfl hL rfl ?_
            refine m_gfr so55 rfl hw42 rfl (by decide) ?_
            refine f_il 0 rfl hL rfl ?_
            refine m_ia sa60 (m 60 0) rfl hw42 hm42 (by omega) (by omega) (by decide) rfl ?_
            refine f_il 2 rfl hL rfl ?_
            refine m_k1 (t73 (hR 60 0) (by decide)) hw42 hm42 rfl rfl rfl rfl rfl (fun hc43 hw43 hm43 => ?_)
            refine f_if rfl (bI_r _) (fun e2 => ?_) (fun e2 => ?_)
            · have e2 : (bI (decide (iA (iR (m 60 0) (1)) (1) = 1)) : Int) = (0 : Int) := e2
              have e2 : ¬ (iA (iR (m 60 0) (1)) (1) = 1) := bI_f e2
              refine f_s [fi (0), fi (c)] rfl rfl ?_
              refine f_iadd rfl ?_
              refine f_ist [(7, fi (c + 0)), (8, fi (0)), (6, fi (1)), (4, fi (B)), (5, fi (A)), (0, .ref 55), (1, fi (x)), (2, fi (h)), (3, fi (1))] rfl (by decide) hL rfl (fun L143 hL143 => ?_)
              refine f_inc 1 [(8, fi (1)), (7, fi (c + 0)), (6, fi (1)), (4, fi (B)), (5, fi (A)), (0, .ref 55), (1, fi (x)), (2, fi (h)), (3, fi (1))] rfl (by decide) hL143 rfl rfl (fun L144 hL144 => ?_)
              refine f_goto rfl ?_
              have mb : mnB m 1 h 0 0 = false := decide_eq_false (fun z => e2 z.2)
              have e9 : mn1 m 1 h 0 0 c = c + 0 := (if_pos (by omega)).trans (by rw [mb]; rfl)
              rw [e9] at hG
              exact hI1 hc43 _ _ hw43 hm43 hG (hL144.sel [0, 1, 2, 3, 4, 5, 6, 7, 8] rfl)
            · have e2 : ¬ ((bI (decide (iA (iR (m 60 0) (1)) (1) = 1)) : Int) = (0 : Int)) := e2
              have e2 : iA (iR (m 60 0) (1)) (1) = 1 := bI_t e2
              refine f_s [fi (1), fi (c)] rfl rfl ?_
              refine f_goto rfl ?_
              refine f_iadd rfl ?_
              refine f_ist [(7, fi (c + 1)), (8, fi (0)), (6, fi (1)), (4, fi (B)), (5, fi (A)), (0, .ref 55), (1, fi (x)), (2, fi (h)), (3, fi (1))] rfl (by decide) hL rfl (fun L145 hL145 => ?_)
              refine f_inc 1 [(8, fi (1)), (7, fi (c + 1)), (6, fi (1)), (4, fi (B)), (5, fi (A)), (0, .ref 55), (1, fi (x)), (2, fi (h)), (3, fi (1))] rfl (by decide) hL145 rfl rfl (fun L146 hL146 => ?_)
              refine f_goto rfl ?_
              have mb : mnB m 1 h 0 0 = true := decide_eq_true ⟨e1, e2⟩
              have e9 : mn1 m 1 h 0 0 c = c + 1 := (if_pos (by omega)).trans (by rw [mb]; rfl)
              rw [e9] at hG
              exact hI1 hc43 _ _ hw43 hm43 hG (hL146.sel [0, 1, 2, 3, 4, 5, 6, 7, 8] rfl)
      refine f_s [fi (0)] rfl rfl ?_
      refine f_ist [(7, fi (0)), (6, fi (1)), (4, fi (B)), (5, fi (A)), (0, .ref 55), (1, fi (x)), (2, fi (h)), (3, fi (1))] rfl (by decide) hL rfl (fun L147 hL147 => ?_)
      refine f_s [fi (0)] rfl rfl ?_
      refine f_ist [(8, fi (0)), (7, fi (0)), (6, fi (1)), (4, fi (B)), (5, fi (A)), (0, .ref 55), (1, fi (x)), (2, fi (h)), (3, fi (1))] rfl (by decide) hL147 rfl (fun L148 hL148 => ?_)
      exact hI0 hc 0 _ hw hm rfl (hL148.sel [0, 1, 2, 3, 4, 5, 6, 7, 8] rfl)
  have hK0 : ∀ (hc : ev_H) (A B : Int) (L : ev_L), y_in yGw hc → gi hc = m → (A, B) ∈ lS 0 → f_L L [(6, fi (0)), (4, fi (B)), (5, fi (A)), (0, .ref 55), (1, fi (x)), (2, fi (h)), (3, fi (1))] → x_W none (1, 0, 9, 3, 11, 3, 66, 0, 0, ev_t184) 34 L [] hc 0 0 (fun r' h' => r' = some (fi (lm1_0 m x h A B)) ∧ y_in yGw h' ∧ gi h' = m) := fun hc A B L hw hm hAB hL => by
    obtain ⟨o1, o2, o3, o4, o5, o6, o7⟩ := okp_r (lS_at (by decide) hAB)
    refine f_il 0 rfl hL rfl ?_
    refine f_aln 3 rfl hL rfl ?_
    refine m_gfi so55 (m 55 0) rfl hw hm rfl rfl ?_
    refine f_ic rfl (by decide) (by omega) (fun c1 => ?_) (fun c1 => ?_)
    · have c1 : (m 55 0 : Int) ≤ (0 : Int) := c1
      refine f_il 2 rfl hL rfl ?_
      refine f_il 1 rfl hL rfl ?_
      refine f_isub rfl ?_
      refine f_il 2 rfl hL rfl ?_
      refine m_k1 (t168 (a := A - B) (b := A) (g := eG (A - B) A) o3 (by omega) (by omega) (by omega) o1) hw hm rfl rfl rfl rfl rfl (fun hc44 hw44 hm44 => ?_)
      have hg := eu_r 40 (A - B) A _ o3 (by omega) (by omega) (by omega) o1
      refine f_ist [(6, fi (eG (A - B) A)), (4, fi (B)), (5, fi (A)), (0, .ref 55), (1, fi (x)), (2, fi (h)), (3, fi (1))] rfl (by decide) hL rfl (fun L149 hL149 => ?_)
      refine f_iln 6 rfl hL149 rfl ?_
      refine f_if rfl (by decide) (fun c => absurd (show (1 : Int) = (0 : Int) from c) (by decide)) (fun _ => ?_)
      refine f_il 2 rfl hL149 rfl ?_
      refine f_il 1 rfl hL149 rfl ?_
      refine f_isub rfl ?_
      refine f_il 0 rfl hL149 rfl ?_
      refine f_idiv rfl (by omega) (by omega) (by omega) (by omega) ?_
      refine f_goto rfl ?_
      exact f_ret1 rfl ⟨by unfold lm1_0; rw [if_neg (by omega)], hw44, hm44⟩
    · have c1 : ¬ ((m 55 0 : Int) ≤ (0 : Int)) := c1
      have kk : 0 < m 55 0 := by omega
      have hE : ∀ (hc : ev_H) (p : Int) (L : ev_L), y_in yGw hc → gi hc = m → f_L L [(8, fi p), (7, fi (mn m 0 h)), (6, fi (0)), (4, fi (B)), (5, fi (A)), (0, .ref 55), (1, fi (x)), (2, fi (h)), (3, fi (1))] → x_W none (1, 0, 9, 3, 11, 3, 66, 0, 0, ev_t184) 100 L [] hc 0 0 (fun r' h' => r' = some (fi (lm1_0 m x h A B)) ∧ y_in yGw h' ∧ gi h' = m) := fun hc p L hw hm hL => by
        have mr := mn_r m 0 h
        refine f_aln 5 rfl hL rfl ?_
        refine f_s [fi (0), .ref 55] rfl rfl ?_
        refine f_iln 6 rfl hL rfl ?_
        refine f_iln 7 rfl hL rfl ?_
        refine m_k1 (t90_0 (p := x) (h := h) x5.1 x5.2 rh (fv := m 58 x.toNat) rfl (hR 58 _) (uv := m 59 x.toNat) rfl (hR 59 _)) hw hm rfl rfl rfl (m_ar so55 hw rfl) rfl (fun hc45 hw45 hm45 => ?_)
        refine f_if rfl (bI_r _) (fun d1 => ?_) (fun d1 => ?_)
        · have d1 : (bI (decide (¬ iA (iR (m 61 16) (x)) (1) = 1 ∧ m 58 x.toNat ≤ h ∧ h ≤ m 59 x.toNat)) : Int) = (0 : Int) := d1
          have d1 : ¬ (¬ iA (iR (m 61 16) (x)) (1) = 1 ∧ m 58 x.toNat ≤ h ∧ h ≤ m 59 x.toNat) := bI_f d1
          refine f_s [fi (0)] rfl rfl ?_
          refine f_ist [(8, fi (0)), (7, fi (mn m 0 h)), (6, fi (0)), (4, fi (B)), (5, fi (A)), (0, .ref 55), (1, fi (x)), (2, fi (h)), (3, fi (1))] rfl (by decide) hL rfl (fun L150 hL150 => ?_)
          refine f_il 3 rfl hL150 rfl ?_
          refine f_il 0 rfl hL150 rfl ?_
          refine f_if rfl (by decide) (fun _ => ?_) (fun c => absurd (show (0 : Int) = (0 : Int) from (by decide)) c)
          refine f_s [fi (1), fi (B)] rfl rfl ?_
          refine f_imul rfl ?_
          refine f_ist [(4, fi (B * 1)), (8, fi (0)), (7, fi (mn m 0 h)), (6, fi (0)), (5, fi (A)), (0, .ref 55), (1, fi (x)), (2, fi (h)), (3, fi (1))] rfl (by decide) hL150 rfl (fun L151 hL151 => ?_)
          refine f_il 4 rfl hL151 rfl ?_
          refine f_il 1 rfl hL151 rfl ?_
          refine f_if rfl (by decide) (fun _ => ?_) (fun c => absurd (show (0 : Int) = (0 : Int) from (by decide)) c)
          refine f_s [fi (1), fi (A)] rfl rfl ?_
          refine f_imul rfl ?_
          refine f_ist [(5, fi (A * 1)), (4, fi (B * 1)), (8, fi (0)), (7, fi (mn m 0 h)), (6, fi (0)), (0, .ref 55), (1, fi (x)), (2, fi (h)), (3, fi (1))] rfl (by decide) hL151 rfl (fun L152 hL152 => ?_)
          refine f_inc 4 [(6, fi (1)), (5, fi (A * 1)), (4, fi (B * 1)), (8, fi (0)), (7, fi (mn m 0 h)), (0, .ref 55), (1, fi (x)), (2, fi (h)), (3, fi (1))] rfl (by decide) hL152 rfl rfl (fun L153 hL153 => ?_)
          refine f_goto rfl ?_
          have my : myB m 0 h x = false := decide_eq_false (fun z => d1 z.1)
          have e9 : lm1_0 m x h A B = lm1_1 m x h (A * 1) (B * 1) := (if_pos kk).trans ((if_neg (by rw [my]; decide)).trans (by rw [Int.mul_one, Int.mul_one]))
          rw [e9]
          exact hK1 hc45 _ _ _ hw45 hm45 (lS_s hAB (by decide)) (hL153.sel [0, 2, 1, 5, 6, 7, 8] rfl)
        · have d1 : ¬ ((bI (decide (¬ iA (iR (m 61 16) (x)) (1) = 1 ∧ m 58 x.toNat ≤ h ∧ h ≤ m 59 x.toNat)) : Int) = (0 : Int)) := d1
          have d1 : ¬ iA (iR (m 61 16) (x)) (1) = 1 ∧ m 58 x.toNat ≤ h ∧ h ≤ m 59 x.toNat := bI_t d1
          refine f_aln 5 rfl hL rfl ?_
          refine m_gfr so55 rfl hw45 rfl (by decide) ?_
          refine f_iln 6 rfl hL rfl ?_
          refine m_ia sa60 (m 60 (x).toNat) rfl hw45 hm45 (by omega) (by omega) (by decide) rfl ?_
          refine f_il 2 rfl hL rfl ?_
          refine m_k1 (t73 (hR 60 _) (by decide)) hw45 hm45 rfl rfl rfl rfl rfl (fun hc46 hw46 hm46 => ?_)
          refine f_if rfl (bI_r _) (fun d2 => ?_) (fun d2 => ?_)
          · have d2 : (bI (decide (iA (iR (m 60 (x).toNat) (0)) (1) = 1)) : Int) = (0 : Int) := d2
            have d2 : ¬ (iA (iR (m 60 (x).toNat) (0)) (1) = 1) := bI_f d2
            refine f_s [fi (0)] rfl rfl ?_
            refine f_ist [(8, fi (0)), (7, fi (mn m 0 h)), (6, fi (0)), (4, fi (B)), (5, fi (A)), (0, .ref 55), (1, fi (x)), (2, fi (h)), (3, fi (1))] rfl (by decide) hL rfl (fun L154 hL154 => ?_)
            refine f_il 3 rfl hL154 rfl ?_
            refine f_il 0 rfl hL154 rfl ?_
            refine f_if rfl (by decide) (fun _ => ?_) (fun c => absurd (show (0 : Int) = (0 : Int) from (by decide)) c)
            refine f_s [fi (1), fi (B)] rfl rfl ?_
            refine f_imul rfl ?_
            refine f_ist [(4, fi (B * 1)), (8, fi (0)), (7, fi (mn m 0 h)), (6, fi (0)), (5, fi (A)), (0, .ref 55), (1, fi (x)), (2, fi (h)), (3, fi (1))] rfl (by decide) hL154 rfl (fun L155 hL155 => ?_)
            refine f_il 4 rfl hL155 rfl ?_
            refine f_il 1 rfl hL155 rfl ?_
            refine f_if rfl (by decide) (fun _ => ?_) (fun c => absurd (show (0 : Int) = (0 : Int) from (by decide)) c)
            refine f_s [fi (1), fi (A)] rfl rfl ?_
            refine f_imul rfl ?_
            refine f_ist [(5, fi (A * 1)), (4, fi (B * 1)), (8, fi (0)), (7, fi (mn m 0 h)), (6, fi (0)), (0, .ref 55), (1, fi (x)), (2, fi (h)), (3, fi (1))] rfl (by decide) hL155 rfl (fun L156 hL156 => ?_)
            refine f_inc 4 [(6, fi (1)), (5, fi (A * 1)), (4, fi (B * 1)), (8, fi (0)), (7, fi (mn m 0 h)), (0, .ref 55), (1, fi (x)), (2, fi (h)), (3, fi (1))] rfl (by decide) hL156 rfl rfl (fun L157 hL157 => ?_)
            refine f_goto rfl ?_
            have my : myB m 0 h x = false := decide_eq_false (fun z => d2 z.2.1)
            have e9 : lm1_0 m x h A B = lm1_1 m x h (A * 1) (B * 1) := (if_pos kk).trans ((if_neg (by rw [my]; decide)).trans (by rw [Int.mul_one, Int.mul_one]))
            rw [e9]
            exact hK1 hc46 _ _ _ hw46 hm46 (lS_s hAB (by decide)) (hL157.sel [0, 2, 1, 5, 6, 7, 8] rfl)
          · have d2 : ¬ ((bI (decide (iA (iR (m 60 (x).toNat) (0)) (1) = 1)) : Int) = (0 : Int)) := d2
            have d2 : iA (iR (m 60 (x).toNat) (0)) (1) = 1 := bI_t d2
            refine f_aln 5 rfl hL rfl ?_
            refine m_gfr so55 rfl hw46 rfl (by decide) ?_
            refine f_bipush (n := 15) rfl (by decide) ?_
            refine m_ia sa61 (m 61 15) rfl hw46 hm46 (by omega) (by omega) (by decide) rfl ?_
            refine f_il 2 rfl hL rfl ?_
            refine m_k1 (t73 (hR 61 15) (by decide)) hw46 hm46 rfl rfl rfl rfl rfl (fun hc47 hw47 hm47 => ?_)
            refine f_if rfl (bI_r _) (fun d3 => ?_) (fun d3 => ?_)
            · have d3 : ¬ (bI (decide (iA (iR (m 61 15) (0)) (1) = 1)) : Int) = (0 : Int) := d3
              have d3 : iA (iR (m 61 15) (0)) (1) = 1 := bI_t d3
              refine f_s [fi (0)] rfl rfl ?_
              refine f_ist [(8, fi (0)), (7, fi (mn m 0 h)), (6, fi (0)), (4, fi (B)), (5, fi (A)), (0, .ref 55), (1, fi (x)), (2, fi (h)), (3, fi (1))] rfl (by decide) hL rfl (fun L158 hL158 => ?_)
              refine f_il 3 rfl hL158 rfl ?_
              refine f_il 0 rfl hL158 rfl ?_
              refine f_if rfl (by decide) (fun _ => ?_) (fun c => absurd (show (0 : Int) = (0 : Int) from (by decide)) c)
              refine f_s [fi (1), fi (B)] rfl rfl ?_
              refine f_imul rfl ?_
              refine f_ist [(4, fi (B * 1)), (8, fi (0)), (7, fi (mn m 0 h)), (6, fi (0)), (5, fi (A)), (0, .ref 55), (1, fi (x)), (2, fi (h)), (3, fi (1))] rfl (by decide) hL158 rfl (fun L159 hL159 => ?_)
              refine f_il 4 rfl hL159 rfl ?_
              refine f_il 1 rfl hL159 rfl ?_
              refine f_if rfl (by decide) (fun _ => ?_) (fun c => absurd (show (0 : Int) = (0 : Int) from (by decide)) c)
              refine f_s [fi (1), fi (A)] rfl rfl ?_
              refine f_imul rfl ?_
              refine f_ist [(5, fi (A * 1)), (4, fi (B * 1)), (8, fi (0)), (7, fi (mn m 0 h)), (6, fi (0)), (0, .ref 55), (1, fi (x)), (2, fi (h)), (3, fi (1))] rfl (by decide) hL159 rfl (fun L160 hL160 => ?_)
              refine f_inc 4 [(6, fi (1)), (5, fi (A * 1)), (4, fi (B * 1)), (8, fi (0)), (7, fi (mn m 0 h)), (0, .ref 55), (1, fi (x)), (2, fi (h)), (3, fi (1))] rfl (by decide) hL160 rfl rfl (fun L161 hL161 => ?_)
              refine f_goto rfl ?_
              have my : myB m 0 h x = false := decide_eq_false (fun z => z.2.2 d3)
              have e9 : lm1_0 m x h A B = lm1_1 m x h (A * 1) (B * 1) := (if_pos kk).trans ((if_neg (by rw [my]; decide)).trans (by rw [Int.mul_one, Int.mul_one]))
              rw [e9]
              exact hK1 hc47 _ _ _ hw47 hm47 (lS_s hAB (by decide)) (hL161.sel [0, 2, 1, 5, 6, 7, 8] rfl)
            · have d3 : ¬ (¬ (bI (decide (iA (iR (m 61 15) (0)) (1) = 1)) : Int) = (0 : Int)) := d3
              have d3 : ¬ (iA (iR (m 61 15) (0)) (1) = 1) := bI_n d3
              refine f_s [fi (1)] rfl rfl ?_
              refine f_goto rfl ?_
              refine f_ist [(8, fi (1)), (7, fi (mn m 0 h)), (6, fi (0)), (4, fi (B)), (5, fi (A)), (0, .ref 55), (1, fi (x)), (2, fi (h)), (3, fi (1))] rfl (by decide) hL rfl (fun L162 hL162 => ?_)
              refine f_il 3 rfl hL162 rfl ?_
              refine f_il 0 rfl hL162 rfl ?_
              refine f_if rfl (by decide) (fun c => absurd (show (1 : Int) = (0 : Int) from c) (by decide)) (fun _ => ?_)
              refine f_il 1 rfl hL162 rfl ?_
              refine f_s [fi (1), fi (mn m 0 h), fi (B)] rfl rfl ?_
              refine f_isub rfl ?_
              refine f_goto rfl ?_
              refine f_imul rfl ?_
              refine f_ist [(4, fi (B * ((mn m 0 h) - 1))), (8, fi (1)), (7, fi (mn m 0 h)), (6, fi (0)), (5, fi (A)), (0, .ref 55), (1, fi (x)), (2, fi (h)), (3, fi (1))] rfl (by decide) hL162 rfl (fun L163 hL163 => ?_)
              refine f_il 4 rfl hL163 rfl ?_
              refine f_il 1 rfl hL163 rfl ?_
              refine f_if rfl (by decide) (fun c => absurd (show (1 : Int) = (0 : Int) from c) (by decide)) (fun _ => ?_)
              refine f_il 2 rfl hL163 rfl ?_
              refine f_goto rfl ?_
              refine f_imul rfl ?_
              refine f_ist [(5, fi (A * (mn m 0 h))), (4, fi (B * ((mn m 0 h) - 1))), (8, fi (1)), (7, fi (mn m 0 h)), (6, fi (0)), (0, .ref 55), (1, fi (x)), (2, fi (h)), (3, fi (1))] rfl (by decide) hL163 rfl (fun L164 hL164 => ?_)
              refine f_inc 4 [(6, fi (1)), (5, fi (A * (mn m 0 h))), (4, fi (B * ((mn m 0 h) - 1))), (8, fi (1)), (7, fi (mn m 0 h)), (0, .ref 55), (1, fi (x)), (2, fi (h)), (3, fi (1))] rfl (by decide) hL164 rfl rfl (fun L165 hL165 => ?_)
              refine f_goto rfl ?_
              have my : myB m 0 h x = true := decide_eq_true ⟨d1, d2, d3⟩
              have e9 : lm1_0 m x h A B = lm1_1 m x h (A * mn m 0 h) (B * (mn m 0 h - 1)) := (if_pos kk).trans (if_pos my)
              rw [e9]
              exact hK1 hc47 _ _ _ hw47 hm47 (lS_s hAB (lQ_c (mn_1 0 (by decide) ⟨by decide, kk⟩ my) mr.2)) (hL165.sel [0, 2, 1, 5, 6, 7, 8] rfl)
      have hI5 : ∀ (hc : ev_H) (c : Int) (L : ev_L), y_in yGw hc → gi hc = m → c = mn m 0 h → f_L L [(8, fi (5)), (7, fi (c)), (6, fi (0)), (4, fi (B)), (5, fi (A)), (0, .ref 55), (1, fi (x)), (2, fi (h)), (3, fi (1))] → x_W none (1, 0, 9, 3, 11, 3, 66, 0, 0, ev_t184) 49 L [] hc 0 0 (fun r' h' => r' = some (fi (lm1_0 m x h A B)) ∧ y_in yGw h' ∧ gi h' = m) := fun hc c L hw hm hG hL => by
        refine f_il 0 rfl hL rfl ?_
        refine f_aln 5 rfl hL rfl ?_
        refine m_gfi so55 (m 55 1) rfl hw hm rfl rfl ?_
        refine f_ic rfl (by decide) (by omega) (fun _ => ?_) (fun c => absurd (show (m 55 1 : Int) ≤ (5 : Int) from (by omega)) c)
        rw [hG] at hL
        exact hE hc 5 _ hw hm (hL.sel [0, 1, 2, 3, 4, 5, 6, 7, 8] rfl)
      have hI4 : ∀ (hc : ev_H) (c : Int) (L : ev_L), y_in yGw hc → gi hc = m → mn1 m 0 h 4 4 (c) = mn m 0 h → f_L L [(8, fi (4)), (7, fi (c)), (6, fi (0)), (4, fi (B)), (5, fi (A)), (0, .ref 55), (1, fi (x)), (2, fi (h)), (3, fi (1))] → x_W none (1, 0, 9, 3, 11, 3, 66, 0, 0, ev_t184) 49 L [] hc 0 0 (fun r' h' => r' = some (fi (lm1_0 m x h A B)) ∧ y_in yGw h' ∧ gi h' = m) := fun hc c L hw hm hG hL => by
        refine f_il 0 rfl hL rfl ?_
        refine f_aln 5 rfl hL rfl ?_
        refine m_gfi so55 (m 55 1) rfl hw hm rfl rfl ?_
        refine f_ic rfl (by decide) (by omega) (fun ci => ?_) (fun ci => ?_)
        · have ci : (m 55 1 : Int) ≤ (4 : Int) := ci
          have e8 : mn1 m 0 h 4 4 (c) = c := by unfold mn1; rw [if_neg (by omega)]
          rw [e8] at hG
          rw [hG] at hL
          exact hE hc 4 _ hw hm (hL.sel [0, 1, 2, 3, 4, 5, 6, 7, 8] rfl)
        · have ci : ¬ ((m 55 1 : Int) ≤ (4 : Int)) := ci
          refine f_il 1 rfl hL rfl ?_
          refine f_aln 5 rfl hL rfl ?_
          refine f_s [fi (0), .ref 55, fi (c)] rfl rfl ?_
          refine f_il 0 rfl hL rfl ?_
          refine f_iln 7 rfl hL rfl ?_
          refine m_k1 (t90_0 (p := 4) (h := h) (by decide) (by decide) rh (fv := m 58 4) rfl (hR 58 _) (uv := m 59 4) rfl (hR 59 _)) hw hm rfl rfl rfl (m_ar so55 hw rfl) rfl (fun hc48 hw48 hm48 => ?_)
          refine f_if rfl (bI_r _) (fun e1 => ?_) (fun e1 => ?_)
          · have e1 : (bI (decide (¬ iA (iR (m 61 16) (4)) (1) = 1 ∧ m 58 4 ≤ h ∧ h ≤ m 59 4)) : Int) = (0 : Int) := e1
            have e1 : ¬ (¬ iA (iR (m 61 16) (4)) (1) = 1 ∧ m 58 4 ≤ h ∧ h ≤ m 59 4) := bI_f e1
            refine f_s [fi (0), fi (c)] rfl rfl ?_
            refine f_iadd rfl ?_
            refine f_ist [(7, fi (c + 0)), (8, fi (4)), (6, fi (0)), (4, fi (B)), (5, fi (A)), (0, .ref 55), (1, fi (x)), (2, fi (h)), (3, fi (1))] rfl (by decide) hL rfl (fun L166 hL166 => ?_)
            refine f_inc 1 [(8, fi (5)), (7, fi (c + 0)), (6, fi (0)), (4, fi (B)), (5, fi (A)), (0, .ref 55), (1, fi (x)), (2, fi (h)), (3, fi (1))] rfl (by decide) hL166 rfl rfl (fun L167 hL167 => ?_)
            refine f_goto rfl ?_
            have mb : mnB m 0 h 4 4 = false := decide_eq_false (fun z => e1 z.1)
            have e9 : mn1 m 0 h 4 4 c = c + 0 := (if_pos (by omega)).trans (by rw [mb]; rfl)
            rw [e9] at hG
            exact hI5 hc48 _ _ hw48 hm48 hG (hL167.sel [0, 1, 2, 3, 4, 5, 6, 7, 8] rfl)
          · have e1 : ¬ ((bI (decide (¬ iA (iR (m 61 16) (4)) (1) = 1 ∧ m 58 4 ≤ h ∧ h ≤ m 59 4)) : Int) = (0 : Int)) := e1
            have e1 : ¬ iA (iR (m 61 16) (4)) (1) = 1 ∧ m 58 4 ≤ h ∧ h ≤ m 59 4 := bI_t e1
            refine f_aln 5 rfl hL rfl ?_
            refine m_gfr so55 rfl hw48 rfl (by decide) ?_
            refine f_il 0 rfl hL rfl ?_
            refine m_ia sa60 (m 60 4) rfl hw48 hm48 (by omega) (by omega) (by decide) rfl ?_
            refine f_il 2 rfl hL rfl ?_
            refine m_k1 (t73 (hR 60 4) (by decide)) hw48 hm48 rfl rfl rfl rfl rfl (fun hc49 hw49 hm49 => ?_)
            refine f_if rfl (bI_r _) (fun e2 => ?_) (fun e2 => ?_)
            · have e2 : (bI (decide (iA (iR (m 60 4) (0)) (1) = 1)) : Int) = (0 : Int) := e2
              have e2 : ¬ (iA (iR (m 60 4) (0)) (1) = 1) := bI_f e2
              refine f_s [fi (0), fi (c)] rfl rfl ?_
              refine f_iadd rfl ?_
              refine f_ist [(7, fi (c + 0)), (8, fi (4)), (6, fi (0)), (4, fi (B)), (5, fi (A)), (0, .ref 55), (1, fi (x)), (2, fi (h)), (3, fi (1))] rfl (by decide) hL rfl (fun L168 hL168 => ?_)
              refine f_inc 1 [(8, fi (5)), (7, fi (c + 0)), (6, fi (0)), (4, fi (B)), (5, fi (A)), (0, .ref 55), (1, fi (x)), (2, fi (h)), (3, fi (1))] rfl (by decide) hL168 rfl rfl (fun L169 hL169 => ?_)
              refine f_goto rfl ?_
              have mb : mnB m 0 h 4 4 = false := decide_eq_false (fun z => e2 z.2)
              have e9 : mn1 m 0 h 4 4 c = c + 0 := (if_pos (by omega)).trans (by rw [mb]; rfl)
              rw [e9] at hG
              exact hI5 hc49 _ _ hw49 hm49 hG (hL169.sel [0, 1, 2, 3, 4, 5, 6, 7, 8] rfl)
            · have e2 : ¬ ((bI (decide (iA (iR (m 60 4) (0)) (1) = 1)) : Int) = (0 : Int)) := e2
              have e2 : iA (iR (m 60 4) (0)) (1) = 1 := bI_t e2
              refine f_s [fi (1), fi (c)] rfl rfl ?_
              refine f_goto rfl ?_
              refine f_iadd rfl ?_
              refine f_ist [(7, fi (c + 1)), (8, fi (4)), (6, fi (0)), (4, fi (B)), (5, fi (A)), (0, .ref 55), (1, fi (x)), (2, fi (h)), (3, fi (1))] rfl (by decide) hL rfl (fun L170 hL170 => ?_)
              refine f_inc 1 [(8, fi (5)), (7, fi (c + 1)), (6, fi (0)), (4, fi (B)), (5, fi (A)), (0, .ref 55), (1, fi (x)), (2, fi (h)), (3, fi (1))] rfl (by decide) hL170 rfl rfl (fun L171 hL171 => ?_)
              refine f_goto rfl ?_
              have mb : mnB m 0 h 4 4 = true := decide_eq_true ⟨e1, e2⟩
              have e9 : mn1 m 0 h 4 4 c = c + 1 := (if_pos (by omega)).trans (by rw [mb]; rfl)
              rw [e9] at hG
              exact hI5 hc49 _ _ hw49 hm49 hG (hL171.sel [0, 1, 2, 3, 4, 5, 6, 7, 8] rfl)
      have hI3 : ∀ (hc : ev_H) (c : Int) (L : ev_L), y_in yGw hc → gi hc = m → mn1 m 0 h 4 4 (mn1 m 0 h 3 3 (c)) = mn m 0 h → f_L L [(8, fi (3)), (7, fi (c)), (6, fi (0)), (4, fi (B)), (5, fi (A)), (0, .ref 55), (1, fi (x)), (2, fi (h)), (3, fi (1))] → x_W none (1, 0, 9, 3, 11, 3, 66, 0, 0, ev_t184) 49 L [] hc 0 0 (fun r' h' => r' = some (fi (lm1_0 m x h A B)) ∧ y_in yGw h' ∧ gi h' = m) := fun hc c L hw hm hG hL => by
        refine f_il 0 rfl hL rfl ?_
        refine f_aln 5 rfl hL rfl ?_
        refine m_gfi so55 (m 55 1) rfl hw hm rfl rfl ?_
        refine f_ic rfl (by decide) (by omega) (fun ci => ?_) (fun ci => ?_)
        · have ci : (m 55 1 : Int) ≤ (3 : Int) := ci
          have e8 : mn1 m 0 h 4 4 (mn1 m 0 h 3 3 (c)) = c := by unfold mn1; rw [if_neg (by omega), if_neg (by omega)]
          rw [e8] at hG
          rw [hG] at hL
          exact hE hc 3 _ hw hm (hL.sel [0, 1, 2, 3, 4, 5, 6, 7, 8] rfl)
        · have ci : ¬ ((m 55 1 : Int) ≤ (3 : Int)) := ci
          refine f_il 1 rfl hL rfl ?_
          refine f_aln 5 rfl hL rfl ?_
          refine f_s [fi (0), .ref 55, fi (c)] rfl rfl ?_
          refine f_il 0 rfl hL rfl ?_
          refine f_iln 7 rfl hL rfl ?_
          refine m_k1 (t90_0 (p := 3) (h := h) (by decide) (by decide) rh (fv := m 58 3) rfl (hR 58 _) (uv := m 59 3) rfl (hR 59 _)) hw hm rfl rfl rfl (m_ar so55 hw rfl) rfl (fun hc50 hw50 hm50 => ?_)
          refine f_if rfl (bI_r _) (fun e1 => ?_) (fun e1 => ?_)
          · have e1 : (bI (decide (¬ iA (iR (m 61 16) (3)) (1) = 1 ∧ m 58 3 ≤ h ∧ h ≤ m 59 3)) : Int) = (0 : Int) := e1
            have e1 : ¬ (¬ iA (iR (m 61 16) (3)) (1) = 1 ∧ m 58 3 ≤ h ∧ h ≤ m 59 3) := bI_f e1
            refine f_s [fi (0), fi (c)] rfl rfl ?_
            refine f_iadd rfl ?_
            refine f_ist [(7, fi (c + 0)), (8, fi (3)), (6, fi (0)), (4, fi (B)), (5, fi (A)), (0, .ref 55), (1, fi (x)), (2, fi (h)), (3, fi (1))] rfl (by decide) hL rfl (fun L172 hL172 => ?_)
            refine f_inc 1 [(8, fi (4)), (7, fi (c + 0)), (6, fi (0)), (4, fi (B)), (5, fi (A)), (0, .ref 55), (1, fi (x)), (2, fi (h)), (3, fi (1))] rfl (by decide) hL172 rfl rfl (fun L173 hL173 => ?_)
            refine f_goto rfl ?_
            have mb : mnB m 0 h 3 3 = false := decide_eq_false (fun z => e1 z.1)
            have e9 : mn1 m 0 h 3 3 c = c + 0 := (if_pos (by omega)).trans (by rw [mb]; rfl)
            rw [e9] at hG
            exact hI4 hc50 _ _ hw50 hm50 hG (hL173.sel [0, 1, 2, 3, 4, 5, 6, 7, 8] rfl)
          · have e1 : ¬ ((bI (decide (¬ iA (iR (m 61 16) (3)) (1) = 1 ∧ m 58 3 ≤ h ∧ h ≤ m 59 3)) : Int) = (0 : Int)) := e1
            have e1 : ¬ iA (iR (m 61 16) (3)) (1) = 1 ∧ m 58 3 ≤ h ∧ h ≤ m 59 3 := bI_t e1
            refine f_aln 5 rfl hL rfl ?_
            refine m_gfr so55 rfl hw50 rfl (by decide) ?_
            refine f_il 0 rfl hL rfl ?_
            refine m_ia sa60 (m 60 3) rfl hw50 hm50 (by omega) (by omega) (by decide) rfl ?_
            refine f_il 2 rfl hL rfl ?_
            refine m_k1 (t73 (hR 60 3) (by decide)) hw50 hm50 rfl rfl rfl rfl rfl (fun hc51 hw51 hm51 => ?_)
            refine f_if rfl (bI_r _) (fun e2 => ?_) (fun e2 => ?_)
            · have e2 : (bI (decide (iA (iR (m 60 3) (0)) (1) = 1)) : Int) = (0 : Int) := e2
              have e2 : ¬ (iA (iR (m 60 3) (0)) (1) = 1) := bI_f e2
              refine f_s [fi (0), fi (c)] rfl rfl ?_
              refine f_iadd rfl ?_
              refine f_ist [(7, fi (c + 0)), (8, fi (3)), (6, fi (0)), (4, fi (B)), (5, fi (A)), (0, .ref 55), (1, fi (x)), (2, fi (h)), (3, fi (1))] rfl (by decide) hL rfl (fun L174 hL174 => ?_)
              refine f_inc 1 [(8, fi (4)), (7, fi (c + 0)), (6, fi (0)), (4, fi (B)), (5, fi (A)), (0, .ref 55), (1, fi (x)), (2, fi (h)), (3, fi (1))] rfl (by decide) hL174 rfl rfl (fun L175 hL175 => ?_)
              refine f_goto rfl ?_
              have mb : mnB m 0 h 3 3 = false := decide_eq_false (fun z => e2 z.2)
              have e9 : mn1 m 0 h 3 3 c = c + 0 := (if_pos (by omega)).trans (by rw [mb]; rfl)
              rw [e9] at hG
              exact hI4 hc51 _ _ hw51 hm51 hG (hL175.sel [0, 1, 2, 3, 4, 5, 6, 7, 8] rfl)
            · have e2 : ¬ ((bI (decide (iA (iR (m 60 3) (0)) (1) = 1)) : Int) = (0 : Int)) := e2
              have e2 : iA (iR (m 60 3) (0)) (1) = 1 := bI_t e2
              refine f_s [fi (1), fi (c)] rfl rfl ?_
              refine f_goto rfl ?_
              refine f_iadd rfl ?_
              refine f_ist [(7, fi (c + 1)), (8, fi (3)), (6, fi (0)), (4, fi (B)), (5, fi (A)), (0, .ref 55), (1, fi (x)), (2, fi (h)), (3, fi (1))] rfl (by decide) hL rfl (fun L176 hL176 => ?_)
              refine f_inc 1 [(8, fi (4)), (7, fi (c + 1)), (6, fi (0)), (4, fi (B)), (5, fi (A)), (0, .ref 55), (1, fi (x)), (2, fi (h)), (3, fi (1))] rfl (by decide) hL176 rfl rfl (fun L177 hL177 => ?_)
              refine f_goto rfl ?_
              have mb : mnB m 0 h 3 3 = true := decide_eq_true ⟨e1, e2⟩
              have e9 : mn1 m 0 h 3 3 c = c + 1 := (if_pos (by omega)).trans (by rw [mb]; rfl)
              rw [e9] at hG
              exact hI4 hc51 _ _ hw51 hm51 hG (hL177.sel [0, 1, 2, 3, 4, 5, 6, 7, 8] rfl)
      have hI2 : ∀ (hc : ev_H) (c : Int) (L : ev_L), y_in yGw hc → gi hc = m → mn1 m 0 h 4 4 (mn1 m 0 h 3 3 (mn1 m 0 h 2 2 (c))) = mn m 0 h → f_L L [(8, fi (2)), (7, fi (c)), (6, fi (0)), (4, fi (B)), (5, fi (A)), (0, .ref 55), (1, fi (x)), (2, fi (h)), (3, fi (1))] → x_W none (1, 0, 9, 3, 11, 3, 66, 0, 0, ev_t184) 49 L [] hc 0 0 (fun r' h' => r' = some (fi (lm1_0 m x h A B)) ∧ y_in yGw h' ∧ gi h' = m) := fun hc c L hw hm hG hL => by
        refine f_il 0 rfl hL rfl ?_
        refine f_aln 5 rfl hL rfl ?_
        refine m_gfi so55 (m 55 1) rfl hw hm rfl rfl ?_
        refine f_ic rfl (by decide) (by omega) (fun ci => ?_) (fun ci => ?_)
        · have ci : (m 55 1 : Int) ≤ (2 : Int) := ci
          have e8 : mn1 m 0 h 4 4 (mn1 m 0 h 3 3 (mn1 m 0 h 2 2 (c))) = c := by unfold mn1; rw [if_neg (by omega), if_neg (by omega), if_neg (by omega)]
          rw [e8] at hG
          rw [hG] at hL
          exact hE hc 2 _ hw hm (hL.sel [0, 1, 2, 3, 4, 5, 6, 7, 8] rfl)
        · have ci : ¬ ((m 55 1 : Int) ≤ (2 : Int)) := ci
          refine f_il 1 rfl hL rfl ?_
          refine f_aln 5 rfl hL rfl ?_
          refine f_s [fi (0), .ref 55, fi (c)] rfl rfl ?_
          refine f_il 0 rfl hL rfl ?_
          refine f_iln 7 rfl hL rfl ?_
          refine m_k1 (t90_0 (p := 2) (h := h) (by decide) (by decide) rh (fv := m 58 2) rfl (hR 58 _) (uv := m 59 2) rfl (hR 59 _)) hw hm rfl rfl rfl (m_ar so55 hw rfl) rfl (fun hc52 hw52 hm52 => ?_)
          refine f_if rfl (bI_r _) (fun e1 => ?_) (fun e1 => ?_)
          · have e1 : (bI (decide (¬ iA (iR (m 61 16) (2)) (1) = 1 ∧ m 58 2 ≤ h ∧ h ≤ m 59 2)) : Int) = (0 : Int) := e1
            have e1 : ¬ (¬ iA (iR (m 61 16) (2)) (1) = 1 ∧ m 58 2 ≤ h ∧ h ≤ m 59 2) := bI_f e1
            refine f_s [fi (0), fi (c)] rfl rfl ?_
            refine f_iadd rfl ?_
            refine f_ist [(7, fi (c + 0)), (8, fi (2)), (6, fi (0)), (4, fi (B)), (5, fi (A)), (0, .ref 55), (1, fi (x)), (2, fi (h)), (3, fi (1))] rfl (by decide) hL rfl (fun L178 hL178 => ?_)
            refine f_inc 1 [(8, fi (3)), (7, fi (c + 0)), (6, fi (0)), (4, fi (B)), (5, fi (A)), (0, .ref 55), (1, fi (x)), (2, fi (h)), (3, fi (1))] rfl (by decide) hL178 rfl rfl (fun L179 hL179 => ?_)
            refine f_goto rfl ?_
            have mb : mnB m 0 h 2 2 = false := decide_eq_false (fun z => e1 z.1)
            have e9 : mn1 m 0 h 2 2 c = c + 0 := (if_pos (by omega)).trans (by rw [mb]; rfl)
            rw [e9] at hG
            exact hI3 hc52 _ _ hw52 hm52 hG (hL179.sel [0, 1, 2, 3, 4, 5, 6, 7, 8] rfl)
          · have e1 : ¬ ((bI (decide (¬ iA (iR (m 61 16) (2)) (1) = 1 ∧ m 58 2 ≤ h ∧ h ≤ m 59 2)) : Int) = (0 : Int)) := e1
            have e1 : ¬ iA (iR (m 61 16) (2)) (1) = 1 ∧ m 58 2 ≤ h ∧ h ≤ m 59 2 := bI_t e1
            refine f_aln 5 rfl hL rfl ?_
            refine m_gfr so55 rfl hw52 rfl (by decide) ?_
            refine f_il 0 rfl hL rfl ?_
            refine m_ia sa60 (m 60 2) rfl hw52 hm52 (by omega) (by omega) (by decide) rfl ?_
            refine f_il 2 rfl hL rfl ?_
            refine m_k1 (t73 (hR 60 2) (by decide)) hw52 hm52 rfl rfl rfl rfl rfl (fun hc53 hw53 hm53 => ?_)
            refine f_if rfl (bI_r _) (fun e2 => ?_) (fun e2 => ?_)
            · have e2 : (bI (decide (iA (iR (m 60 2) (0)) (1) = 1)) : Int) = (0 : Int) := e2
              have e2 : ¬ (iA (iR (m 60 2) (0)) (1) = 1) := bI_f e2
              refine f_s [fi (0), fi (c)] rfl rfl ?_
              refine f_iadd rfl ?_
              refine f_ist [(7, fi (c + 0)), (8, fi (2)), (6, fi (0)), (4, fi (B)), (5, fi (A)), (0, .ref 55), (1, fi (x)), (2, fi (h)), (3, fi (1))] rfl (by decide) hL rfl (fun L180 hL180 => ?_)
              refine f_inc 1 [(8, fi (3)), (7, fi (c + 0)), (6, fi (0)), (4, fi (B)), (5, fi (A)), (0, .ref 55), (1, fi (x)), (2, fi (h)), (3, fi (1))] rfl (by decide) hL180 rfl rfl (fun L181 hL181 => ?_)
              refine f_goto rfl ?_
              have mb : mnB m 0 h 2 2 = false := decide_eq_false (fun z => e2 z.2)
              have e9 : mn1 m 0 h 2 2 c = c + 0 := (if_pos (by omega)).trans (by rw [mb]; rfl)
              rw [e9] at hG
              exact hI3 hc53 _ _ hw53 hm53 hG (hL181.sel [0, 1, 2, 3, 4, 5, 6, 7, 8] rfl)
            · have e2 : ¬ ((bI (decide (iA (iR (m 60 2) (0)) (1) = 1)) : Int) = (0 : Int)) := e2
              have e2 : iA (iR (m 60 2) (0)) (1) = 1 := bI_t e2
              refine f_s [fi (1), fi (c)] rfl rfl ?_
              refine f_goto rfl ?_
              refine f_iadd rfl ?_
              refine f_ist [(7, fi (c + 1)), (8, fi (2)), (6, fi (0)), (4, fi (B)), (5, fi (A)), (0, .ref 55), (1, fi (x)), (2, fi (h)), (3, fi (1))] rfl (by decide) hL rfl (fun L182 hL182 => ?_)
              refine f_inc 1 [(8, fi (3)), (7, fi (c + 1)), (6, fi (0)), (4, fi (B)), (5, fi (A)), (0, .ref 55), (1, fi (x)), (2, fi (h)), (3, fi (1))] rfl (by decide) hL182 rfl rfl (fun L183 hL183 => ?_)
              refine f_goto rfl ?_
              have mb : mnB m 0 h 2 2 = true := decide_eq_true ⟨e1, e2⟩
              have e9 : mn1 m 0 h 2 2 c = c + 1 := (if_pos (by omega)).trans (by rw [mb]; rfl)
              rw [e9] at hG
              exact hI3 hc53 _ _ hw53 hm53 hG (hL183.sel [0, 1, 2, 3, 4, 5, 6, 7, 8] rfl)
      have hI1 : ∀ (hc : ev_H) (c : Int) (L : ev_L), y_in yGw hc → gi hc = m → mn1 m 0 h 4 4 (mn1 m 0 h 3 3 (mn1 m 0 h 2 2 (mn1 m 0 h 1 1 (c)))) = mn m 0 h → f_L L [(8, fi (1)), (7, fi (c)), (6, fi (0)), (4, fi (B)), (5, fi (A)), (0, .ref 55), (1, fi (x)), (2, fi (h)), (3, fi (1))] → x_W none (1, 0, 9, 3, 11, 3, 66, 0, 0, ev_t184) 49 L [] hc 0 0 (fun r' h' => r' = some (fi (lm1_0 m x h A B)) ∧ y_in yGw h' ∧ gi h' = m) := fun hc c L hw hm hG hL => by
        refine f_il 0 rfl hL rfl ?_
        refine f_aln 5 rfl hL rfl ?_
        refine m_gfi so55 (m 55 1) rfl hw hm rfl rfl ?_
        refine f_ic rfl (by decide) (by omega) (fun ci => ?_) (fun ci => ?_)
        · have ci : (m 55 1 : Int) ≤ (1 : Int) := ci
          have e8 : mn1 m 0 h 4 4 (mn1 m 0 h 3 3 (mn1 m 0 h 2 2 (mn1 m 0 h 1 1 (c)))) = c := by unfold mn1; rw [if_neg (by omega), if_neg (by omega), if_neg (by omega), if_neg (by omega)]
          rw [e8] at hG
          rw [hG] at hL
          exact hE hc 1 _ hw hm (hL.sel [0, 1, 2, 3, 4, 5, 6, 7, 8] rfl)
        · have ci : ¬ ((m 55 1 : Int) ≤ (1 : Int)) := ci
          refine f_il 1 rfl hL rfl ?_
          refine f_aln 5 rfl hL rfl ?_
          refine f_s [fi (0), .ref 55, fi (c)] rfl rfl ?_
          refine f_il 0 rfl hL rfl ?_
          refine f_iln 7 rfl hL rfl ?_
          refine m_k1 (t90_0 (p := 1) (h := h) (by decide) (by decide) rh (fv := m 58 1) rfl (hR 58 _) (uv := m 59 1) rfl (hR 59 _)) hw hm rfl rfl rfl (m_ar so55 hw rfl) rfl (fun hc54 hw54 hm54 => ?_)
          refine f_if rfl (bI_r _) (fun e1 => ?_) (fun e1 => ?_)
          · have e1 : (bI (decide (¬ iA (iR (m 61 16) (1)) (1) = 1 ∧ m 58 1 ≤ h ∧ h ≤ m 59 1)) : Int) = (0 : Int) := e1
            have e1 : ¬ (¬ iA (iR (m 61 16) (1)) (1) = 1 ∧ m 58 1 ≤ h ∧ h ≤ m 59 1) := bI_f e1
            refine f_s [fi (0), fi (c)] rfl rfl ?_
            refine f_iadd rfl ?_
            refine f_ist [(7, fi (c + 0)), (8, fi (1)), (6, fi (0)), (4, fi (B)), (5, fi (A)), (0, .ref 55), (1, fi (x)), (2, fi (h)), (3, fi (1))] rfl (by decide) hL rfl (fun L184 hL184 => ?_)
            refine f_inc 1 [(8, fi (2)), (7, fi (c + 0)), (6, fi (0)), (4, fi (B)), (5, fi (A)), (0, .ref 55), (1, fi (x)), (2, fi (h)), (3, fi (1))] rfl (by decide) hL184 rfl rfl (fun L185 hL185 => ?_)
            refine f_goto rfl ?_
            have mb : mnB m 0 h 1 1 = false := decide_eq_false (fun z => e1 z.1)
            have e9 : mn1 m 0 h 1 1 c = c + 0 := (if_pos (by omega)).trans (by rw [mb]; rfl)
            rw [e9] at hG
            exact hI2 hc54 _ _ hw54 hm54 hG (hL185.sel [0, 1, 2, 3, 4, 5, 6, 7, 8] rfl)
          · have e1 : ¬ ((bI (decide (¬ iA (iR (m 61 16) (1)) (1) = 1 ∧ m 58 1 ≤ h ∧ h ≤ m 59 1)) : Int) = (0 : Int)) := e1
            have e1 : ¬ iA (iR (m 61 16) (1)) (1) = 1 ∧ m 58 1 ≤ h ∧ h ≤ m 59 1 := bI_t e1
            refine f_aln 5 rfl hL rfl ?_
            refine m_gfr so55 rfl hw54 rfl (by decide) ?_
            refine f_il 0 rfl hL rfl ?_
            refine m_ia sa60 (m 60 1) rfl hw54 hm54 (by omega) (by omega) (by decide) rfl ?_
            refine f_il 2 rfl hL rfl ?_
            refine m_k1 (t73 (hR 60 1) (by decide)) hw54 hm54 rfl rfl rfl rfl rfl (fun hc55 hw55 hm55 => ?_)
            refine f_if rfl (bI_r _) (fun e2 => ?_) (fun e2 => ?_)
            · have e2 : (bI (decide (iA (iR (m 60 1) (0)) (1) = 1)) : Int) = (0 : Int) := e2
              have e2 : ¬ (iA (iR (m 60 1) (0)) (1) = 1) := bI_f e2
              refine f_s [fi (0), fi (c)] rfl rfl ?_
              refine f_iadd rfl ?_
              refine f_ist [(7, fi (c + 0)), (8, fi (1)), (6, fi (0)), (4, fi (B)), (5, fi (A)), (0, .ref 55), (1, fi (x)), (2, fi (h)), (3, fi (1))] rfl (by decide) hL rfl (fun L186 hL186 => ?_)
              refine f_inc 1 [(8, fi (2)), (7, fi (c + 0)), (6, fi (0)), (4, fi (B)), (5, fi (A)), (0, .ref 55), (1, fi (x)), (2, fi (h)), (3, fi (1))] rfl (by decide) hL186 rfl rfl (fun L187 hL187 => ?_)
              refine f_goto rfl ?_
              have mb : mnB m 0 h 1 1 = false := decide_eq_false (fun z => e2 z.2)
              have e9 : mn1 m 0 h 1 1 c = c + 0 := (if_pos (by omega)).trans (by rw [mb]; rfl)
              rw [e9] at hG
              exact hI2 hc55 _ _ hw55 hm55 hG (hL187.sel [0, 1, 2, 3, 4, 5, 6, 7, 8] rfl)
            · have e2 : ¬ ((bI (decide (iA (iR (m 60 1) (0)) (1) = 1)) : Int) = (0 : Int)) := e2
              have e2 : iA (iR (m 60 1) (0)) (1) = 1 := bI_t e2
              refine f_s [fi (1), fi (c)] rfl rfl ?_
              refine f_goto rfl ?_
              refine f_iadd rfl ?_
              refine f_ist [(7, fi (c + 1)), (8, fi (1)), (6, fi (0)), (4, fi (B)), (5, fi (A)), (0, .ref 55), (1, fi (x)), (2, fi (h)), (3, fi (1))] rfl (by decide) hL rfl (fun L188 hL188 => ?_)
              refine f_inc 1 [(8, fi (2)), (7, fi (c + 1)), (6, fi (0)), (4, fi (B)), (5, fi (A)), (0, .ref 55), (1, fi (x)), (2, fi (h)), (3, fi (1))] rfl (by decide) hL188 rfl rfl (fun L189 hL189 => ?_)
              refine f_goto rfl ?_
              have mb : mnB m 0 h 1 1 = true := decide_eq_true ⟨e1, e2⟩
              have e9 : mn1 m 0 h 1 1 c = c + 1 := (if_pos (by omega)).trans (by rw [mb]; rfl)
              rw [e9] at hG
              exact hI2 hc55 _ _ hw55 hm55 hG (hL189.sel [0, 1, 2, 3, 4, 5, 6, 7, 8] rfl)
      have hI0 : ∀ (hc : ev_H) (c : Int) (L : ev_L), y_in yGw hc → gi hc = m → mn1 m 0 h 4 4 (mn1 m 0 h 3 3 (mn1 m 0 h 2 2 (mn1 m 0 h 1 1 (mn1 m 0 h 0 0 (c))))) = mn m 0 h → f_L L [(8, fi (0)), (7, fi (c)), (6, fi (0)), (4, fi (B)), (5, fi (A)), (0, .ref 55), (1, fi (x)), (2, fi (h)), (3, fi (1))] → x_W none (1, 0, 9, 3, 11, 3, 66, 0, 0, ev_t184) 49 L [] hc 0 0 (fun r' h' => r' = some (fi (lm1_0 m x h A B)) ∧ y_in yGw h' ∧ gi h' = m) := fun hc c L hw hm hG hL => by
        refine f_il 0 rfl hL rfl ?_
        refine f_aln 5 rfl hL rfl ?_
        refine m_gfi so55 (m 55 1) rfl hw hm rfl rfl ?_
        refine f_ic rfl (by decide) (by omega) (fun ci => ?_) (fun ci => ?_)
        · have ci : (m 55 1 : Int) ≤ (0 : Int) := ci
          have e8 : mn1 m 0 h 4 4 (mn1 m 0 h 3 3 (mn1 m 0 h 2 2 (mn1 m 0 h 1 1 (mn1 m 0 h 0 0 (c))))) = c := by unfold mn1; rw [if_neg (by omega), if_neg (by omega), if_neg (by omega), if_neg (by omega), if_neg (by omega)]
          rw [e8] at hG
          rw [hG] at hL
          exact hE hc 0 _ hw hm (hL.sel [0, 1, 2, 3, 4, 5, 6, 7, 8] rfl)
        · have ci : ¬ ((m 55 1 : Int) ≤ (0 : Int)) := ci
          refine f_il 1 rfl hL rfl ?_
          refine f_aln 5 rfl hL rfl ?_
          refine f_s [fi (0), .ref 55, fi (c)] rfl rfl ?_
          refine f_il 0 rfl hL rfl ?_
          refine f_iln 7 rfl hL rfl ?_
          refine m_k1 (t90_0 (p := 0) (h := h) (by decide) (by decide) rh (fv := m 58 0) rfl (hR 58 _) (uv := m 59 0) rfl (hR 59 _)) hw hm rfl rfl rfl (m_ar so55 hw rfl) rfl (fun hc56 hw56 hm56 => ?_)
          refine f_if rfl (bI_r _) (fun e1 => ?_) (fun e1 => ?_)
          · have e1 : (bI (decide (¬ iA (iR (m 61 16) (0)) (1) = 1 ∧ m 58 0 ≤ h ∧ h ≤ m 59 0)) : Int) = (0 : Int) := e1
            have e1 : ¬ (¬ iA (iR (m 61 16) (0)) (1) = 1 ∧ m 58 0 ≤ h ∧ h ≤ m 59 0) := bI_f e1
            refine f_s [fi (0), fi (c)] rfl rfl ?_
            refine f_iadd rfl ?_
            refine f_ist [(7, fi (c + 0)), (8, fi (0)), (6, fi (0)), (4, fi (B)), (5, fi (A)), (0, .ref 55), (1, fi (x)), (2, fi (h)), (3, fi (1))] rfl (by decide) hL rfl (fun L190 hL190 => ?_)
            refine f_inc 1 [(8, fi (1)), (7, fi (c + 0)), (6, fi (0)), (4, fi (B)), (5, fi (A)), (0, .ref 55), (1, fi (x)), (2, fi (h)), (3, fi (1))] rfl (by decide) hL190 rfl rfl (fun L191 hL191 => ?_)
            refine f_goto rfl ?_
            have mb : mnB m 0 h 0 0 = false := decide_eq_false (fun z => e1 z.1)
            have e9 : mn1 m 0 h 0 0 c = c + 0 := (if_pos (by omega)).trans (by rw [mb]; rfl)
            rw [e9] at hG
            exact hI1 hc56 _ _ hw56 hm56 hG (hL191.sel [0, 1, 2, 3, 4, 5, 6, 7, 8] rfl)
          · have e1 : ¬ ((bI (decide (¬ iA (iR (m 61 16) (0)) (1) = 1 ∧ m 58 0 ≤ h ∧ h ≤ m 59 0)) : Int) = (0 : Int)) := e1
            have e1 : ¬ iA (iR (m 61 16) (0)) (1) = 1 ∧ m 58 0 ≤ h ∧ h ≤ m 59 0 := bI_t e1
            refine f_aln 5 rfl hL rfl ?_
            refine m_gfr so55 rfl hw56 rfl (by decide) ?_
            refine f_il 0 rfl hL rfl ?_
            refine m_ia sa60 (m 60 0) rfl hw56 hm56 (by omega) (by omega) (by decide) rfl ?_
            refine f_il 2 rfl hL rfl ?_
            refine m_k1 (t73 (hR 60 0) (by decide)) hw56 hm56 rfl rfl rfl rfl rfl (fun hc57 hw57 hm57 => ?_)
            refine f_if rfl (bI_r _) (fun e2 => ?_) (fun e2 => ?_)
            · have e2 : (bI (decide (iA (iR (m 60 0) (0)) (1) = 1)) : Int) = (0 : Int) := e2
              have e2 : ¬ (iA (iR (m 60 0) (0)) (1) = 1) := bI_f e2
              refine f_s [fi (0), fi (c)] rfl rfl ?_
              refine f_iadd rfl ?_
              refine f_ist [(7, fi (c + 0)), (8, fi (0)), (6, fi (0)), (4, fi (B)), (5, fi (A)), (0, .ref 55), (1, fi (x)), (2, fi (h)), (3, fi (1))] rfl (by decide) hL rfl (fun L192 hL192 => ?_)
              refine f_inc 1 [(8, fi (1)), (7, fi (c + 0)), (6, fi (0)), (4, fi (B)), (5, fi (A)), (0, .ref 55), (1, fi (x)), (2, fi (h)), (3, fi (1))] rfl (by decide) hL192 rfl rfl (fun L193 hL193 => ?_)
              refine f_goto rfl ?_
              have mb : mnB m 0 h 0 0 = false := decide_eq_false (fun z => e2 z.2)
              have e9 : mn1 m 0 h 0 0 c = c + 0 := (if_pos (by omega)).trans (by rw [mb]; rfl)
              rw [e9] at hG
              exact hI1 hc57 _ _ hw57 hm57 hG (hL193.sel [0, 1, 2, 3, 4, 5, 6, 7, 8] rfl)
            · have e2 : ¬ ((bI (decide (iA (iR (m 60 0) (0)) (1) = 1)) : Int) = (0 : Int)) := e2
              have e2 : iA (iR (m 60 0) (0)) (1) = 1 := bI_t e2
              refine f_s [fi (1), fi (c)] rfl rfl ?_
              refine f_goto rfl ?_
              refine f_iadd rfl ?_
              refine f_ist [(7, fi (c + 1)), (8, fi (0)), (6, fi (0)), (4, fi (B)), (5, fi (A)), (0, .ref 55), (1, fi (x)), (2, fi (h)), (3, fi (1))] rfl (by decide) hL rfl (fun L194 hL194 => ?_)
              refine f_inc 1 [(8, fi (1)), (7, fi (c + 1)), (6, fi (0)), (4, fi (B)), (5, fi (A)), (0, .ref 55), (1, fi (x)), (2, fi (h)), (3, fi (1))] rfl (by decide) hL194 rfl rfl (fun L195 hL195 => ?_)
              refine f_goto rfl ?_
              have mb : mnB m 0 h 0 0 = true := decide_eq_true ⟨e1, e2⟩
              have e9 : mn1 m 0 h 0 0 c = c + 1 := (if_pos (by omega)).trans (by rw [mb]; rfl)
              rw [e9] at hG
              exact hI1 hc57 _ _ hw57 hm57 hG (hL195.sel [0, 1, 2, 3, 4, 5, 6, 7, 8] rfl)
      refine f_s [fi (0)] rfl rfl ?_
      refine f_ist [(7, fi (0)), (6, fi (0)), (4, fi (B)), (5, fi (A)), (0, .ref 55), (1, fi (x)), (2, fi (h)), (3, fi (1))] rfl (by decide) hL rfl (fun L196 hL196 => ?_)
      refine f_s [fi (0)] rfl rfl ?_
      refine f_ist [(8, fi (0)), (7, fi (0)), (6, fi (0)), (4, fi (B)), (5, fi (A)), (0, .ref 55), (1, fi (x)), (2, fi (h)), (3, fi (1))] rfl (by decide) hL196 rfl (fun L197 hL197 => ?_)
      exact hI0 hc 0 _ hw hm rfl (hL197.sel [0, 1, 2, 3, 4, 5, 6, 7, 8] rfl)
  refine f_aln 0 rfl hL rfl ?_
  refine f_iln 1 rfl hL rfl ?_
  refine m_k1 (t61 hp.1 hp.2 rx) hw hm rfl rfl rfl (m_ar so55 hw rfl) rfl (fun hc58 hw58 hm58 => ?_)
  refine f_if rfl (bI_r _) (fun _ => ?_) (fun c => absurd (show ¬ (bI (decide (0 ≤ x ∧ x < m 55 1)) : Int) = (0 : Int) from (by rw [decide_eq_true hx]; decide)) c)
  refine f_iln 2 rfl hL rfl ?_
  refine f_i2l rfl (by omega) ?_
  refine f_s [fl (0), fl (h)] rfl rfl ?_
  refine f_ldc2 (9) rfl rfl ?_
  refine m_k1 (t_in h 0 9 (by omega) (by decide) (by decide)) hw58 hm58 rfl rfl rfl rfl rfl (fun hc59 hw59 hm59 => ?_)
  refine f_if rfl (bI_r _) (fun _ => ?_) (fun c => absurd (show ¬ (bI (decide (0 ≤ h ∧ h ≤ 9)) : Int) = (0 : Int) from (by rw [decide_eq_true hh]; decide)) c)
  refine f_s [fi (1)] rfl rfl ?_
  refine f_ist [(4, fi (1)), (0, .ref 55), (1, fi (x)), (2, fi (h)), (3, fi (1))] rfl (by decide) hL rfl (fun L198 hL198 => ?_)
  refine f_s [fi (1)] rfl rfl ?_
  refine f_ist [(5, fi (1)), (4, fi (1)), (0, .ref 55), (1, fi (x)), (2, fi (h)), (3, fi (1))] rfl (by decide) hL198 rfl (fun L199 hL199 => ?_)
  refine f_s [fi (0)] rfl rfl ?_
  refine f_ist [(6, fi (0)), (5, fi (1)), (4, fi (1)), (0, .ref 55), (1, fi (x)), (2, fi (h)), (3, fi (1))] rfl (by decide) hL199 rfl (fun L200 hL200 => ?_)
  exact hK0 hc59 1 1 _ hw59 hm59 (List.mem_singleton.mpr rfl) (hL200.sel [0, 2, 1, 3, 4, 5, 6] rfl))
theorem tkB_eq {m : Nat → Nat → Int} (hP : PR m) (hR : SR0 m) {k h x : Int} (hk : 0 ≤ k ∧ k < m 3 5) {i : Nat} (hi : i < 5) (hx : (i : Int) = x) : tkB m k h x = (decide (x < m 55 1) && (mnB m k h x i && !(decide (iA (iR (m 61 15) k) 1 = 1)))) := by
  subst hx
  unfold tkB mnB
  by_cases c : (i : Int) < m 3 6
  · have q := hP.2.2.2 i hi c
    have ef : ft m (i : Int) = m 60 i := by
      have := ft_eq hP (x := (i : Int)) ⟨by omega, c⟩
      rw [Int.toNat_natCast] at this
      exact this
    rw [decide_eq_true (show (i : Int) < m 55 1 by rw [← hP.1.2]; exact c), Bool.true_and, Int.toNat_natCast, ef, hR.g.1, hR.g.2.1, q.1, q.2.1]
    by_cases c1 : iA (iR (m 61 15) k) 1 = 1
    · rw [decide_eq_false (fun z => z.1 ⟨hk, c1⟩), decide_eq_true c1, Bool.not_true, Bool.and_false]
    · rw [decide_eq_false c1, Bool.not_false, Bool.and_true]
      refine decide_eq_decide.mpr ⟨fun z => ⟨⟨fun y => z.2.1.2 ⟨⟨by omega, c⟩, y⟩, z.2.1.1.2⟩, z.2.2.2.2⟩, fun z => ⟨fun y => c1 y.2, ⟨⟨⟨by omega, c⟩, z.1.2⟩, fun y => z.1.1 y.2⟩, hk, fun y => z.1.1 y.2, z.2⟩⟩
  · rw [decide_eq_false (show ¬ (i : Int) < m 55 1 by rw [← hP.1.2]; exact c), Bool.false_and]
    exact decide_eq_false (fun z => c z.2.1.1.1.2)
theorem mn_b (m : Nat → Nat → Int) (k h : Int) : mn m k h = bI (decide (0 < m 55 1) && mnB m k h 0 0) + bI (decide (1 < m 55 1) && mnB m k h 1 1) + bI (decide (2 < m 55 1) && mnB m k h 2 2) + bI (decide (3 < m 55 1) && mnB m k h 3 3) + bI (decide (4 < m 55 1) && mnB m k h 4 4) := by
  have e : ∀ (p : Int) (i : Nat) (b : Int), mn1 m k h p i b = b + bI (decide (p < m 55 1) && mnB m k h p i) := fun p i b => by
    unfold mn1
    by_cases c : p < m 55 1
    · rw [if_pos c, decide_eq_true c, Bool.true_and]
    · rw [if_neg c, decide_eq_false c, Bool.false_and]
      exact (Int.add_zero b).symm
  unfold mn
  rw [e, e, e, e, e]
  omega
theorem my_eq {m : Nat → Nat → Int} (hP : PR m) (hR : SR0 m) {k h x : Int} (hk : 0 ≤ k ∧ k < m 3 5) (hx : 0 ≤ x ∧ x < m 3 6) : (iA (iR (tk m k h) x) 1 = 1 ↔ myB m k h x = true) ∧ (myB m k h x = true → bC (tk m k h) = mn m k h) := by
  have hp := hP.2.1.2
  have e := fun (i : Nat) (hi : i < 5) (y : Int) (hy : (i : Int) = y) => tkB_eq hP hR (h := h) hk hi hy
  have at_ : iA (iR (tk m k h) x) 1 = bI (tkB m k h x) := by
    unfold tk
    have : x = 0 ∨ x = 1 ∨ x = 2 ∨ x = 3 ∨ x = 4 := by omega
    rcases this with rfl | rfl | rfl | rfl | rfl
    · exact b5_0 _ _ _ _ _
    · exact b5_1 _ _ _ _ _
    · exact b5_2 _ _ _ _ _
    · exact b5_3 _ _ _ _ _
    · exact b5_4 _ _ _ _ _
  have ex := e x.toNat (by omega) x (by omega)
  have em : myB m k h x = tkB m k h x := by
    rw [ex, decide_eq_true (show x < m 55 1 by rw [← hP.1.2]; exact hx.2), Bool.true_and]
    unfold myB mnB
    rw [← decide_not, ← Bool.decide_and]
    exact decide_eq_decide.mpr ⟨fun z => ⟨⟨z.1, z.2.1⟩, z.2.2⟩, fun z => ⟨z.1.1, z.1.2, z.2⟩⟩
  refine ⟨?_, fun hm => ?_⟩
  · rw [at_, em]
    cases tkB m k h x
    · exact ⟨fun z => absurd z (by decide), fun z => absurd z (by decide)⟩
    · exact ⟨fun _ => rfl, fun _ => rfl⟩
  · have ng : ¬ iA (iR (m 61 15) k) 1 = 1 := (of_decide_eq_true hm).2.2
    have e' := fun (i : Nat) (hi : i < 5) (y : Int) (hy : (i : Int) = y) => (e i hi y hy).trans (by rw [decide_eq_false ng, Bool.not_false, Bool.and_true])
    unfold tk
    rw [b5_C, mn_b, e' 0 (by decide) 0 rfl, e' 1 (by decide) 1 rfl, e' 2 (by decide) 2 rfl, e' 3 (by decide) 3 rfl, e' 4 (by decide) 4 rfl]
theorem lx0_4 {m : Nat → Nat → Int} {x h A B : Int} : lc0_4 m x h A B = lm0_4 m x h A B := rfl
theorem lx0_3 {m : Nat → Nat → Int} (hP : PR m) (hR : SR0 m) {x h : Int} (hx : 0 ≤ x ∧ x < m 3 6) {A B : Int} : lc0_3 m x h A B = lm0_3 m x h A B := by
  unfold lc0_3 lm0_3
  rw [← hP.1.1]
  by_cases c : 3 < m 3 5
  · obtain ⟨q1, q2⟩ := my_eq hP hR (k := 3) (h := h) ⟨by decide, c⟩ hx
    rw [if_pos c, if_pos c]
    by_cases c2 : myB m 3 h x = true
    · rw [if_pos (q1.mpr c2), if_pos c2, q2 c2]
      exact lx0_4
    · rw [if_neg (fun z => c2 (q1.mp z)), if_neg c2]
      exact lx0_4
  · rw [if_neg c, if_neg c]
theorem lx0_2 {m : Nat → Nat → Int} (hP : PR m) (hR : SR0 m) {x h : Int} (hx : 0 ≤ x ∧ x < m 3 6) {A B : Int} : lc0_2 m x h A B = lm0_2 m x h A B := by
  unfold lc0_2 lm0_2
  rw [← hP.1.1]
  by_cases c : 2 < m 3 5
  · obtain ⟨q1, q2⟩ := my_eq hP hR (k := 2) (h := h) ⟨by decide, c⟩ hx
    rw [if_pos c, if_pos c]
    by_cases c2 : myB m 2 h x = true
    · rw [if_pos (q1.mpr c2), if_pos c2, q2 c2]
      exact lx0_3 hP hR hx
    · rw [if_neg (fun z => c2 (q1.mp z)), if_neg c2]
      exact lx0_3 hP hR hx
  · rw [if_neg c, if_neg c]
theorem lx0_1 {m : Nat → Nat → Int} (hP : PR m) (hR : SR0 m) {x h : Int} (hx : 0 ≤ x ∧ x < m 3 6) {A B : Int} : lc0_1 m x h A B = lm0_1 m x h A B := by
  unfold lc0_1 lm0_1
  rw [← hP.1.1]
  by_cases c : 1 < m 3 5
  · obtain ⟨q1, q2⟩ := my_eq hP hR (k := 1) (h := h) ⟨by decide, c⟩ hx
    rw [if_pos c, if_pos c]
    by_cases c2 : myB m 1 h x = true
    · rw [if_pos (q1.mpr c2), if_pos c2, q2 c2]
      exact lx0_2 hP hR hx
    · rw [if_neg (fun z => c2 (q1.mp z)), if_neg c2]
      exact lx0_2 hP hR hx
  · rw [if_neg c, if_neg c]
theorem lx0_0 {m : Nat → Nat → Int} (hP : PR m) (hR : SR0 m) {x h : Int} (hx : 0 ≤ x ∧ x < m 3 6) {A B : Int} : lc0_0 m x h A B = lm0_0 m x h A B := by
  unfold lc0_0 lm0_0
  rw [← hP.1.1]
  by_cases c : 0 < m 3 5
  · obtain ⟨q1, q2⟩ := my_eq hP hR (k := 0) (h := h) ⟨by decide, c⟩ hx
    rw [if_pos c, if_pos c]
    by_cases c2 : myB m 0 h x = true
    · rw [if_pos (q1.mpr c2), if_pos c2, q2 c2]
      exact lx0_1 hP hR hx
    · rw [if_neg (fun z => c2 (q1.mp z)), if_neg c2]
      exact lx0_1 hP hR hx
  · rw [if_neg c, if_neg c]
theorem SI_letter0 {hc : ev_H} (hin : y_in yG hc) (hS : SI (gi hc)) {x h : Int} (rx : -2147483648 ≤ x ∧ x ≤ 2147483647) (rh : -2147483648 ≤ h ∧ h ≤ 2147483647) : ∃ rr hc1 fs1 hc2, (-2147483648 ≤ rr ∧ rr ≤ 2147483647) ∧ f_M 183 [.ref 0, fi x, fi h, fi (0)] hc (some (fi rr)) hc1 ∧ hc1[55]? = some (.inr (.inr (10, fs1))) ∧ f_M 184 [.ref 55, fi x, fi h, fi (0)] hc1 (some (fi rr)) hc2 ∧ y_in yG hc2 ∧ SI (gi hc2) ∧ y_un yct183_0.2.2 hc hc1 ∧ y_un yct184_0.2.2 hc1 hc2 := by
  obtain ⟨hP, hR, hA, hK⟩ := id hS
  have hn := hP.2.1.1
  have hp := hP.2.1.2
  have hJ := hR.j hP
  have ga : ∀ q : Nat, y_args [(2, Int.ofNat q, Int.ofNat q, false), (0, Int.negSucc 2147483647, Int.ofNat 2147483647, false), (0, Int.negSucc 2147483647, Int.ofNat 2147483647, false), (0, Int.ofNat 0, Int.ofNat 1, false)] [.ref q, fi x, fi h, fi (0)] := fun q => f_args_c f_rAr (f_args_c f_rAi (f_args_c f_rAi (f_args_c (f_rA (by decide) (by decide) (by decide) (by decide)) f_args_n)))
  by_cases hx : 0 ≤ x ∧ x < gi hc 3 6
  · have hxM : 0 ≤ x ∧ x < gi hc 55 1 := by rw [← hP.1.2]; exact hx
    by_cases hh : 0 ≤ h ∧ h < 10
    · have one : ∀ k : Int, (0 ≤ k ∧ k < 4) → (0 ≤ k ∧ k < gi hc 3 5) → myB (gi hc) k h x = true → 1 ≤ mn (gi hc) k h := fun k _ hk hmy => by
        obtain ⟨q1, q2⟩ := my_eq hP hR (k := k) (h := h) hk hx
        rw [← q2 hmy]
        exact (tk_c (x := x) (by omega) (q1.mpr hmy)).1
      exact SI_call (RC := ev_r183) (RM := ev_r184) rfl rfl yc183_0 yc184_0 (ga 0) (ga 55) hin (t183_0_ok hn hp rx rh hx hh) (t184_0_ok hJ.1 hJ.2.1 rx rh hxM (by omega) (fun k h9 h8 hmy => one k h9 (by rw [hP.1.1]; exact h8) hmy)) (lx0_0 hP hR hx) hS
    · exact SI_call (RC := ev_r183) (RM := ev_r184) rfl rfl yc183_0 yc184_0 (ga 0) (ga 55) hin (t183_0_out hp rx rh hx hh) (t184_0_out hJ.2.1 rx rh hxM (by omega)) rfl hS
  · exact SI_call (RC := ev_r183) (RM := ev_r184) rfl rfl yc183_0 yc184_0 (ga 0) (ga 55) hin (t183_0_un hp rx rh hx) (t184_0_un hJ.2.1 rx rh (by rw [← hP.1.2]; exact hx)) rfl hS
theorem lx1_4 {m : Nat → Nat → Int} {x h A B : Int} : lc1_4 m x h A B = lm1_4 m x h A B := rfl
theorem lx1_3 {m : Nat → Nat → Int} (hP : PR m) (hR : SR0 m) {x h : Int} (hx : 0 ≤ x ∧ x < m 3 6) {A B : Int} : lc1_3 m x h A B = lm1_3 m x h A B := by
  unfold lc1_3 lm1_3
  rw [← hP.1.1]
  by_cases c : 3 < m 3 5
  · obtain ⟨q1, q2⟩ := my_eq hP hR (k := 3) (h := h) ⟨by decide, c⟩ hx
    rw [if_pos c, if_pos c]
    by_cases c2 : myB m 3 h x = true
    · rw [if_pos (q1.mpr c2), if_pos c2, q2 c2]
      exact lx1_4
    · rw [if_neg (fun z => c2 (q1.mp z)), if_neg c2]
      exact lx1_4
  · rw [if_neg c, if_neg c]
theorem lx1_2 {m : Nat → Nat → Int} (hP : PR m) (hR : SR0 m) {x h : Int} (hx : 0 ≤ x ∧ x < m 3 6) {A B : Int} : lc1_2 m x h A B = lm1_2 m x h A B := by
  unfold lc1_2 lm1_2
  rw [← hP.1.1]
  by_cases c : 2 < m 3 5
  · obtain ⟨q1, q2⟩ := my_eq hP hR (k := 2) (h := h) ⟨by decide, c⟩ hx
    rw [if_pos c, if_pos c]
    by_cases c2 : myB m 2 h x = true
    · rw [if_pos (q1.mpr c2), if_pos c2, q2 c2]
      exact lx1_3 hP hR hx
    · rw [if_neg (fun z => c2 (q1.mp z)), if_neg c2]
      exact lx1_3 hP hR hx
  · rw [if_neg c, if_neg c]
theorem lx1_1 {m : Nat → Nat → Int} (hP : PR m) (hR : SR0 m) {x h : Int} (hx : 0 ≤ x ∧ x < m 3 6) {A B : Int} : lc1_1 m x h A B = lm1_1 m x h A B := by
  unfold lc1_1 lm1_1
  rw [← hP.1.1]
  by_cases c : 1 < m 3 5
  · obtain ⟨q1, q2⟩ := my_eq hP hR (k := 1) (h := h) ⟨by decide, c⟩ hx
    rw [if_pos c, if_pos c]
    by_cases c2 : myB m 1 h x = true
    · rw [if_pos (q1.mpr c2), if_pos c2, q2 c2]
      exact lx1_2 hP hR hx
    · rw [if_neg (fun z => c2 (q1.mp z)), if_neg c2]
      exact lx1_2 hP hR hx
  · rw [if_neg c, if_neg c]
theorem lx1_0 {m : Nat → Nat → Int} (hP : PR m) (hR : SR0 m) {x h : Int} (hx : 0 ≤ x ∧ x < m 3 6) {A B : Int} : lc1_0 m x h A B = lm1_0 m x h A B := by
  unfold lc1_0 lm1_0
  rw [← hP.1.1]
  by_cases c : 0 < m 3 5
  · obtain ⟨q1, q2⟩ := my_eq hP hR (k := 0) (h := h) ⟨by decide, c⟩ hx
    rw [if_pos c, if_pos c]
    by_cases c2 : myB m 0 h x = true
    · rw [if_pos (q1.mpr c2), if_pos c2, q2 c2]
      exact lx1_1 hP hR hx
    · rw [if_neg (fun z => c2 (q1.mp z)), if_neg c2]
      exact lx1_1 hP hR hx
  · rw [if_neg c, if_neg c]
theorem SI_letter1 {hc : ev_H} (hin : y_in yG hc) (hS : SI (gi hc)) {x h : Int} (rx : -2147483648 ≤ x ∧ x ≤ 2147483647) (rh : -2147483648 ≤ h ∧ h ≤ 2147483647) : ∃ rr hc1 fs1 hc2, (-2147483648 ≤ rr ∧ rr ≤ 2147483647) ∧ f_M 183 [.ref 0, fi x, fi h, fi (1)] hc (some (fi rr)) hc1 ∧ hc1[55]? = some (.inr (.inr (10, fs1))) ∧ f_M 184 [.ref 55, fi x, fi h, fi (1)] hc1 (some (fi rr)) hc2 ∧ y_in yG hc2 ∧ SI (gi hc2) ∧ y_un yct183_0.2.2 hc hc1 ∧ y_un yct184_0.2.2 hc1 hc2 := by
  obtain ⟨hP, hR, hA, hK⟩ := id hS
  have hn := hP.2.1.1
  have hp := hP.2.1.2
  have hJ := hR.j hP
  have ga : ∀ q : Nat, y_args [(2, Int.ofNat q, Int.ofNat q, false), (0, Int.negSucc 2147483647, Int.ofNat 2147483647, false), (0, Int.negSucc 2147483647, Int.ofNat 2147483647, false), (0, Int.ofNat 0, Int.ofNat 1, false)] [.ref q, fi x, fi h, fi (1)] := fun q => f_args_c f_rAr (f_args_c f_rAi (f_args_c f_rAi (f_args_c (f_rA (by decide) (by decide) (by decide) (by decide)) f_args_n)))
  by_cases hx : 0 ≤ x ∧ x < gi hc 3 6
  · have hxM : 0 ≤ x ∧ x < gi hc 55 1 := by rw [← hP.1.2]; exact hx
    by_cases hh : 0 ≤ h ∧ h < 10
    · have one : ∀ k : Int, (0 ≤ k ∧ k < 4) → (0 ≤ k ∧ k < gi hc 3 5) → myB (gi hc) k h x = true → 1 ≤ mn (gi hc) k h := fun k _ hk hmy => by
        obtain ⟨q1, q2⟩ := my_eq hP hR (k := k) (h := h) hk hx
        rw [← q2 hmy]
        exact (tk_c (x := x) (by omega) (q1.mpr hmy)).1
      exact SI_call (RC := ev_r183) (RM := ev_r184) rfl rfl yc183_0 yc184_0 (ga 0) (ga 55) hin (t183_1_ok hn hp rx rh hx hh) (t184_1_ok hJ.1 hJ.2.1 rx rh hxM (by omega) (fun k h9 h8 hmy => one k h9 (by rw [hP.1.1]; exact h8) hmy)) (lx1_0 hP hR hx) hS
    · exact SI_call (RC := ev_r183) (RM := ev_r184) rfl rfl yc183_0 yc184_0 (ga 0) (ga 55) hin (t183_1_out hp rx rh hx hh) (t184_1_out hJ.2.1 rx rh hxM (by omega)) rfl hS
  · exact SI_call (RC := ev_r183) (RM := ev_r184) rfl rfl yc183_0 yc184_0 (ga 0) (ga 55) hin (t183_1_un hp rx rh hx) (t184_1_un hJ.2.1 rx rh (by rw [← hP.1.2]; exact hx)) rfl hS
