/-! prepare, firstWay, greatest, fire of the class -/
def thC (m : Nat → Nat → Int) : Int := iA (iA ((iS (1) (m 3 5)) - 1) (iX (m 9 4) (-1))) (15)
def tb (m : Nat → Nat → Int) (a b c : Nat) : Nat → Nat → Int := fun q i => if q = 44 ∧ i = 3 then thC m else if q = 52 ∧ a ≤ i ∧ i < 5 then fsC m (i : Int) else if (46 ≤ q ∧ q ≤ 50) ∧ i < 16 ∧ (b ≤ q - 46 ∨ (q - 46 + 1 = b ∧ i < c)) then Bt m (q - 46) (i : Int) else m q i
theorem tb_ne {m : Nat → Nat → Int} {a b c q i : Nat} (h : q < 44 ∨ q = 51) : tb m a b c q i = m q i := by
  unfold tb
  rw [if_neg (by omega), if_neg (by omega), if_neg (by omega)]
theorem tb_44 {m : Nat → Nat → Int} {a b c : Nat} : tb m a b c 44 3 = thC m := if_pos ⟨rfl, rfl⟩
theorem tb_52 {m : Nat → Nat → Int} {a b c p : Nat} (h : a ≤ p ∧ p < 5) : tb m a b c 52 p = fsC m (p : Int) := (if_neg (by omega)).trans (if_pos ⟨rfl, h⟩)
theorem tb_B {m : Nat → Nat → Int} {a b c p j : Nat} (h : b ≤ p ∧ p < 5) (hj : j < 16) : tb m a b c (46 + p) j = Bt m p (j : Int) := by
  unfold tb
  rw [if_neg (by omega), if_neg (by omega), if_pos (by omega), show 46 + p - 46 = p by omega]
theorem tb_0 {m : Nat → Nat → Int} : up m 44 3 (thC m) = tb m 5 5 0 := by
  funext q i
  unfold up tb
  by_cases h1 : q = 44 ∧ i = 3
  · rw [if_pos h1, if_pos h1]
  · rw [if_neg h1, if_neg h1, if_neg (by omega), if_neg (by omega)]
theorem tb_f {m : Nat → Nat → Int} {p : Nat} (hp5 : p < 5) {v : Int} (hv : v = fsC m (p : Int)) : up (tb m (p + 1) (p + 1) 0) 52 p v = tb m p (p + 1) 0 := by
  subst hv
  funext q i
  unfold up
  by_cases h : q = 52 ∧ i = p
  · obtain ⟨rfl, rfl⟩ := h
    rw [if_pos ⟨rfl, rfl⟩, tb_52 (by omega)]
  · rw [if_neg h]
    unfold tb
    by_cases h1 : q = 44 ∧ i = 3
    · rw [if_pos h1, if_pos h1]
    · rw [if_neg h1, if_neg h1]
      by_cases h2 : q = 52 ∧ p + 1 ≤ i ∧ i < 5
      · rw [if_pos h2, if_pos (show q = 52 ∧ p ≤ i ∧ i < 5 by omega)]
      · rw [if_neg h2, if_neg (show ¬ (q = 52 ∧ p ≤ i ∧ i < 5) by omega)]
theorem tbE_ {m : Nat → Nat → Int} {p c : Nat} (hp5 : p < 5) (hc16 : c < 16) {v : Int} (hv : v = Bt m p (c : Int)) : up (tb m p (p + 1) c) (46 + p) c v = tb m p (p + 1) (c + 1) := by
  subst hv
  funext q i
  unfold up
  by_cases h : q = 46 + p ∧ i = c
  · obtain ⟨rfl, rfl⟩ := h
    rw [if_pos ⟨rfl, rfl⟩]
    unfold tb
    rw [if_neg (by omega), if_neg (by omega), if_pos (by omega), show 46 + p - 46 = p by omega]
  · rw [if_neg h]
    unfold tb
    by_cases h1 : q = 44 ∧ i = 3
    · rw [if_pos h1, if_pos h1]
    · rw [if_neg h1, if_neg h1]
      by_cases h2 : q = 52 ∧ p ≤ i ∧ i < 5
      · rw [if_pos h2, if_pos (show q = 52 ∧ p ≤ i ∧ i < 5 by omega)]
      · rw [if_neg h2, if_neg (show ¬ (q = 52 ∧ p ≤ i ∧ i < 5) by omega)]
        by_cases h3 : (46 ≤ q ∧ q ≤ 50) ∧ i < 16 ∧ ((p + 1) ≤ q - 46 ∨ (q - 46 + 1 = (p + 1) ∧ i < c))
        · rw [if_pos h3, if_pos (show (46 ≤ q ∧ q ≤ 50) ∧ i < 16 ∧ ((p + 1) ≤ q - 46 ∨ (q - 46 + 1 = (p + 1) ∧ i < (c + 1))) by omega)]
        · rw [if_neg h3, if_neg (show ¬ ((46 ≤ q ∧ q ≤ 50) ∧ i < 16 ∧ ((p + 1) ≤ q - 46 ∨ (q - 46 + 1 = (p + 1) ∧ i < (c + 1)))) by omega)]
theorem tb_r {m : Nat → Nat → Int} {p : Nat} : tb m p (p + 1) 16 = tb m p p 0 := by
  funext q i
  unfold tb
  by_cases h1 : q = 44 ∧ i = 3
  · rw [if_pos h1, if_pos h1]
  · rw [if_neg h1, if_neg h1]
    by_cases h2 : q = 52 ∧ p ≤ i ∧ i < 5
    · rw [if_pos h2, if_pos (show q = 52 ∧ p ≤ i ∧ i < 5 by omega)]
    · rw [if_neg h2, if_neg (show ¬ (q = 52 ∧ p ≤ i ∧ i < 5) by omega)]
      by_cases h3 : (46 ≤ q ∧ q ≤ 50) ∧ i < 16 ∧ ((p + 1) ≤ q - 46 ∨ (q - 46 + 1 = (p + 1) ∧ i < 16))
      · rw [if_pos h3, if_pos (show (46 ≤ q ∧ q ≤ 50) ∧ i < 16 ∧ (p ≤ q - 46 ∨ (q - 46 + 1 = p ∧ i < 0)) by omega)]
      · rw [if_neg h3, if_neg (show ¬ ((46 ≤ q ∧ q ≤ 50) ∧ i < 16 ∧ (p ≤ q - 46 ∨ (q - 46 + 1 = p ∧ i < 0))) by omega)]
theorem fsC_tb {m : Nat → Nat → Int} {a b c : Nat} (x : Int) : fsC (tb m a b c) x = fsC m x := by
  unfold fsC ft
  rw [tb_ne (q := 3) (i := 6) (by decide), tb_ne (q := 3) (i := 5) (by decide), tb_ne (q := 9) (i := 5) (by decide), tb_ne (q := 8) (by decide)]
theorem thC_15 (m : Nat → Nat → Int) : 0 ≤ thC m ∧ thC m ≤ 15 := iA_15 (by decide)
set_option maxHeartbeats 1000000 in
theorem t129 {m : Nat → Nat → Int} (hn : 0 ≤ m 3 5 ∧ m 3 5 ≤ 4) (hp : 0 ≤ m 3 6 ∧ m 3 6 ≤ 5) (hv : ∀ k : Nat, 0 ≤ wo m (k : Int) ∧ wo m (k : Int) ≤ 9) (hz : ∀ i : Nat, i < 16 → m 51 i = 0) : h_M 129 [.ref 44, .ref 9] m none (tb m 0 0 0) := h_M_of (R := ev_r129) rfl (fun hc hw hm => by
  have hL : f_L (lv_args 0 [.ref 44, .ref 9]) [(0, .ref 44), (1, .ref 9)] := f_L_of rfl
  generalize lv_args 0 [.ref 44, .ref 9] = L at hL
  show x_W none (0, 0, 4, 1, 6, 4, 90, 0, 0, ev_t129) 0 L [] hc 0 0 _
  have hR := gi_R hm
  have hKE : ∀ (hc : ev_H) (L : ev_L), y_in yGw hc → gi hc = tb m 0 0 0 → f_L L [(2, fi (-1)), (0, .ref 44), (1, .ref 9)] → x_W none (0, 0, 4, 1, 6, 4, 90, 0, 0, ev_t129) 27 L [] hc 0 0 (fun r' h' => r' = none ∧ y_in yGw h' ∧ gi h' = tb m 0 0 0) := fun hc L hw hm hL => by
    refine f_iln 0 rfl hL rfl ?_
    refine f_if rfl (by decide) (fun _ => ?_) (fun c_9 => absurd (show (-1 : Int) < (0 : Int) from (by decide)) c_9)
    exact m_ret0 rfl ⟨rfl, hw, hm⟩
  have hK0 : ∀ (hc : ev_H) (L : ev_L), y_in yGw hc → gi hc = tb m 1 1 0 → f_L L [(2, fi (0)), (0, .ref 44), (1, .ref 9)] → x_W none (0, 0, 4, 1, 6, 4, 90, 0, 0, ev_t129) 27 L [] hc 0 0 (fun r' h' => r' = none ∧ y_in yGw h' ∧ gi h' = tb m 0 0 0) := fun hc L hw hm hL => by
    refine f_iln 0 rfl hL rfl ?_
    refine f_if rfl (by decide) (fun c_9 => absurd (show (0 : Int) < (0 : Int) from c_9) (by decide)) (fun _ => ?_)
    refine f_aln 1 rfl hL rfl ?_
    refine m_gfr so44 rfl hw rfl (by decide) ?_
    refine f_iln 0 rfl hL rfl ?_
    refine f_aln 2 rfl hL rfl ?_
    refine f_iln 0 rfl hL rfl ?_
    have t9 := t103 (m := tb m 1 1 0) (x := 0) (by rw [tb_ne (by decide)]; exact hp) (by decide)
    rw [fsC_tb] at t9
    refine m_k1 t9 hw hm rfl rfl rfl (m_ar so9 hw rfl) rfl (fun hc1 hw1 hm1 => ?_)
    refine m_ias sa52 rfl hw1 hm1 (by omega) (by omega) (by decide) (by have := fsC_15 hn 0; omega) (fun hc2 hw2 hm2 => ?_)
    refine f_s [fi (0)] rfl rfl ?_
    refine f_istn [(3, fi (0)), (2, fi (0)), (0, .ref 44), (1, .ref 9)] rfl (by decide) hL rfl (fun L1 hL1 => ?_)
    have hm9 : gi hc2 = tb m 0 1 0 := hm2.trans (tb_f (by decide) rfl)
    have hI : ∀ (n : Nat) (hc : ev_H) (c : Int) (L : ev_L), y_in yGw hc → gi hc = tb m 0 1 (c).toNat → (0 ≤ c ∧ c + n = 16) → f_L L [(3, fi (c)), (2, fi (0)), (0, .ref 44), (1, .ref 9)] → x_W none (0, 0, 4, 1, 6, 4, 90, 0, 0, ev_t129) 44 L [] hc 0 0 (fun r' h' => r' = none ∧ y_in yGw h' ∧ gi h' = tb m 0 0 0) := by
      intro n
      induction n with
      | zero =>
        intro hc c L hw hm hc9 hL
        refine f_iln 0 rfl hL rfl ?_
        refine f_bipush (n := 16) rfl (by decide) ?_
        refine f_ic rfl (by omega) (by decide) (fun _ => ?_) (fun c_9 => absurd (show (16 : Int) ≤ (c : Int) from (by omega)) c_9)
        refine f_inc 1 [(2, fi (-1)), (3, fi (c)), (0, .ref 44), (1, .ref 9)] rfl (by decide) hL rfl rfl (fun L2 hL2 => ?_)
        refine f_goto rfl ?_
        exact hKE hc _ hw (by rw [hm, show (c).toNat = 16 by omega]; exact tb_r) (hL2.sel [0, 2, 3] rfl)
      | succ n ih =>
        intro hc c L hw hm hc9 hL
        refine f_iln 0 rfl hL rfl ?_
        refine f_bipush (n := 16) rfl (by decide) ?_
        refine f_ic rfl (by omega) (by decide) (fun c_9 => absurd (show (16 : Int) ≤ (c : Int) from c_9) (by omega)) (fun _ => ?_)
        refine f_aln 2 rfl hL rfl ?_
        refine m_gfr so44 rfl hw rfl (by decide) ?_
        refine f_iln 1 rfl hL rfl ?_
        refine m_aa sr45 rfl hw (by omega) (by omega) (by decide) ?_
        refine f_iln 0 rfl hL rfl ?_
        refine f_aln 2 rfl hL rfl ?_
        refine f_iln 1 rfl hL rfl ?_
        refine f_iln 0 rfl hL rfl ?_
        refine m_k1 (t128_0 hn hv (m' := tb m 0 1 (c).toNat) (tb_ne (by decide)) (fun k => tb_ne (by decide)) (fun j hj => tb_B (p := 1) (by omega) hj) (tb_52 (p := 0) (by decide)) (s := c) (by omega)) hw hm rfl rfl rfl (m_ar so44 hw rfl) rfl (fun hc3 hw3 hm3 => ?_)
        refine m_ias sa46 rfl hw3 hm3 (by omega) (by omega) (by decide) (by have := Bt_r hv 0 (c); omega) (fun hc4 hw4 hm4 => ?_)
        refine f_inc 0 [(3, fi (c + 1)), (2, fi (0)), (0, .ref 44), (1, .ref 9)] rfl (by decide) hL rfl rfl (fun L3 hL3 => ?_)
        refine f_goto rfl ?_
        exact ih hc4 _ _ hw4 (by rw [hm4, show (c + 1).toNat = (c).toNat + 1 by omega]; exact tbE_ (p := 0) (by decide) (by omega) (by rw [show (((c).toNat : Nat) : Int) = c by omega])) (by omega) (hL3.sel [0, 1, 2, 3] rfl)
    exact hI 16 hc2 0 _ hw2 hm9 (by decide) (hL1.sel [0, 1, 2, 3] rfl)
  have hK1 : ∀ (hc : ev_H) (L : ev_L), y_in yGw hc → gi hc = tb m 2 2 0 → f_L L [(2, fi (1)), (0, .ref 44), (1, .ref 9)] → x_W none (0, 0, 4, 1, 6, 4, 90, 0, 0, ev_t129) 27 L [] hc 0 0 (fun r' h' => r' = none ∧ y_in yGw h' ∧ gi h' = tb m 0 0 0) := fun hc L hw hm hL => by
    refine f_iln 0 rfl hL rfl ?_
    refine f_if rfl (by decide) (fun c_9 => absurd (show (1 : Int) < (0 : Int) from c_9) (by decide)) (fun _ => ?_)
    refine f_aln 1 rfl hL rfl ?_
    refine m_gfr so44 rfl hw rfl (by decide) ?_
    refine f_iln 0 rfl hL rfl ?_
    refine f_aln 2 rfl hL rfl ?_
    refine f_iln 0 rfl hL rfl ?_
    have t9 := t103 (m := tb m 2 2 0) (x := 1) (by rw [tb_ne (by decide)]; exact hp) (by decide)
    rw [fsC_tb] at t9
    refine m_k1 t9 hw hm rfl rfl rfl (m_ar so9 hw rfl) rfl (fun hc5 hw5 hm5 => ?_)
    refine m_ias sa52 rfl hw5 hm5 (by omega) (by omega) (by decide) (by have := fsC_15 hn 1; omega) (fun hc6 hw6 hm6 => ?_)
    refine f_s [fi (0)] rfl rfl ?_
    refine f_istn [(3, fi (0)), (2, fi (1)), (0, .ref 44), (1, .ref 9)] rfl (by decide) hL rfl (fun L4 hL4 => ?_)
    have hm9 : gi hc6 = tb m 1 2 0 := hm6.trans (tb_f (by decide) rfl)
    have hI : ∀ (n : Nat) (hc : ev_H) (c : Int) (L : ev_L), y_in yGw hc → gi hc = tb m 1 2 (c).toNat → (0 ≤ c ∧ c + n = 16) → f_L L [(3, fi (c)), (2, fi (1)), (0, .ref 44), (1, .ref 9)] → x_W none (0, 0, 4, 1, 6, 4, 90, 0, 0, ev_t129) 44 L [] hc 0 0 (fun r' h' => r' = none ∧ y_in yGw h' ∧ gi h' = tb m 0 0 0) := by
      intro n
      induction n with
      | zero =>
        intro hc c L hw hm hc9 hL
        refine f_iln 0 rfl hL rfl ?_
        refine f_bipush (n := 16) rfl (by decide) ?_
        refine f_ic rfl (by omega) (by decide) (fun _ => ?_) (fun c_9 => absurd (show (16 : Int) ≤ (c : Int) from (by omega)) c_9)
        refine f_inc 1 [(2, fi (0)), (3, fi (c)), (0, .ref 44), (1, .ref 9)] rfl (by decide) hL rfl rfl (fun L5 hL5 => ?_)
        refine f_goto rfl ?_
        exact hK0 hc _ hw (by rw [hm, show (c).toNat = 16 by omega]; exact tb_r) (hL5.sel [0, 2, 3] rfl)
      | succ n ih =>
        intro hc c L hw hm hc9 hL
        refine f_iln 0 rfl hL rfl ?_
        refine f_bipush (n := 16) rfl (by decide) ?_
        refine f_ic rfl (by omega) (by decide) (fun c_9 => absurd (show (16 : Int) ≤ (c : Int) from c_9) (by omega)) (fun _ => ?_)
        refine f_aln 2 rfl hL rfl ?_
        refine m_gfr so44 rfl hw rfl (by decide) ?_
        refine f_iln 1 rfl hL rfl ?_
        refine m_aa sr45 rfl hw (by omega) (by omega) (by decide) ?_
        refine f_iln 0 rfl hL rfl ?_
        refine f_aln 2 rfl hL rfl ?_
        refine f_iln 1 rfl hL rfl ?_
        refine f_iln 0 rfl hL rfl ?_
        refine m_k1 (t128_1 hn hv (m' := tb m 1 2 (c).toNat) (tb_ne (by decide)) (fun k => tb_ne (by decide)) (fun j hj => tb_B (p := 2) (by omega) hj) (tb_52 (p := 1) (by decide)) (s := c) (by omega)) hw hm rfl rfl rfl (m_ar so44 hw rfl) rfl (fun hc7 hw7 hm7 => ?_)
        refine m_ias sa47 rfl hw7 hm7 (by omega) (by omega) (by decide) (by have := Bt_r hv 1 (c); omega) (fun hc8 hw8 hm8 => ?_)
        refine f_inc 0 [(3, fi (c + 1)), (2, fi (1)), (0, .ref 44), (1, .ref 9)] rfl (by decide) hL rfl rfl (fun L6 hL6 => ?_)
        refine f_goto rfl ?_
        exact ih hc8 _ _ hw8 (by rw [hm8, show (c + 1).toNat = (c).toNat + 1 by omega]; exact tbE_ (p := 1) (by decide) (by omega) (by rw [show (((c).toNat : Nat) : Int) = c by omega])) (by omega) (hL6.sel [0, 1, 2, 3] rfl)
    exact hI 16 hc6 0 _ hw6 hm9 (by decide) (hL4.sel [0, 1, 2, 3] rfl)
  have hK2 : ∀ (hc : ev_H) (L : ev_L), y_in yGw hc → gi hc = tb m 3 3 0 → f_L L [(2, fi (2)), (0, .ref 44), (1, .ref 9)] → x_W none (0, 0, 4, 1, 6, 4, 90, 0, 0, ev_t129) 27 L [] hc 0 0 (fun r' h' => r' = none ∧ y_in yGw h' ∧ gi h' = tb m 0 0 0) := fun hc L hw hm hL => by
    refine f_iln 0 rfl hL rfl ?_
    refine f_if rfl (by decide) (fun c_9 => absurd (show (2 : Int) < (0 : Int) from c_9) (by decide)) (fun _ => ?_)
    refine f_aln 1 rfl hL rfl ?_
    refine m_gfr so44 rfl hw rfl (by decide) ?_
    refine f_iln 0 rfl hL rfl ?_
    refine f_aln 2 rfl hL rfl ?_
    refine f_iln 0 rfl hL rfl ?_
    have t9 := t103 (m := tb m 3 3 0) (x := 2) (by rw [tb_ne (by decide)]; exact hp) (by decide)
    rw [fsC_tb] at t9
    refine m_k1 t9 hw hm rfl rfl rfl (m_ar so9 hw rfl) rfl (fun hc9 hw9 hm9 => ?_)
    refine m_ias sa52 rfl hw9 hm9 (by omega) (by omega) (by decide) (by have := fsC_15 hn 2; omega) (fun hc10 hw10 hm10 => ?_)
    refine f_s [fi (0)] rfl rfl ?_
    refine f_istn [(3, fi (0)), (2, fi (2)), (0, .ref 44), (1, .ref 9)] rfl (by decide) hL rfl (fun L7 hL7 => ?_)
    have hm9 : gi hc10 = tb m 2 3 0 := hm10.trans (tb_f (by decide) rfl)
    have hI : ∀ (n : Nat) (hc : ev_H) (c : Int) (L : ev_L), y_in yGw hc → gi hc = tb m 2 3 (c).toNat → (0 ≤ c ∧ c + n = 16) → f_L L [(3, fi (c)), (2, fi (2)), (0, .ref 44), (1, .ref 9)] → x_W none (0, 0, 4, 1, 6, 4, 90, 0, 0, ev_t129) 44 L [] hc 0 0 (fun r' h' => r' = none ∧ y_in yGw h' ∧ gi h' = tb m 0 0 0) := by
      intro n
      induction n with
      | zero =>
        intro hc c L hw hm hc9 hL
        refine f_iln 0 rfl hL rfl ?_
        refine f_bipush (n := 16) rfl (by decide) ?_
        refine f_ic rfl (by omega) (by decide) (fun _ => ?_) (fun c_9 => absurd (show (16 : Int) ≤ (c : Int) from (by omega)) c_9)
        refine f_inc 1 [(2, fi (1)), (3, fi (c)), (0, .ref 44), (1, .ref 9)] rfl (by decide) hL rfl rfl (fun L8 hL8 => ?_)
        refine f_goto rfl ?_
        exact hK1 hc _ hw (by rw [hm, show (c).toNat = 16 by omega]; exact tb_r) (hL8.sel [0, 2, 3] rfl)
      | succ n ih =>
        intro hc c L hw hm hc9 hL
        refine f_iln 0 rfl hL rfl ?_
        refine f_bipush (n := 16) rfl (by decide) ?_
        refine f_ic rfl (by omega) (by decide) (fun c_9 => absurd (show (16 : Int) ≤ (c : Int) from c_9) (by omega)) (fun _ => ?_)
        refine f_aln 2 rfl hL rfl ?_
        refine m_gfr so44 rfl hw rfl (by decide) ?_
        refine f_iln 1 rfl hL rfl ?_
        refine m_aa sr45 rfl hw (by omega) (by omega) (by decide) ?_
        refine f_iln 0 rfl hL rfl ?_
        refine f_aln 2 rfl hL rfl ?_
        refine f_iln 1 rfl hL rfl ?_
        refine f_iln 0 rfl hL rfl ?_
        refine m_k1 (t128_2 hn hv (m' := tb m 2 3 (c).toNat) (tb_ne (by decide)) (fun k => tb_ne (by decide)) (fun j hj => tb_B (p := 3) (by omega) hj) (tb_52 (p := 2) (by decide)) (s := c) (by omega)) hw hm rfl rfl rfl (m_ar so44 hw rfl) rfl (fun hc11 hw11 hm11 => ?_)
        refine m_ias sa48 rfl hw11 hm11 (by omega) (by omega) (by decide) (by have := Bt_r hv 2 (c); omega) (fun hc12 hw12 hm12 => ?_)
        refine f_inc 0 [(3, fi (c + 1)), (2, fi (2)), (0, .ref 44), (1, .ref 9)] rfl (by decide) hL rfl rfl (fun L9 hL9 => ?_)
        refine f_goto rfl ?_
        exact ih hc12 _ _ hw12 (by rw [hm12, show (c + 1).toNat = (c).toNat + 1 by omega]; exact tbE_ (p := 2) (by decide) (by omega) (by rw [show (((c).toNat : Nat) : Int) = c by omega])) (by omega) (hL9.sel [0, 1, 2, 3] rfl)
    exact hI 16 hc10 0 _ hw10 hm9 (by decide) (hL7.sel [0, 1, 2, 3] rfl)
  have hK3 : ∀ (hc : ev_H) (L : ev_L), y_in yGw hc → gi hc = tb m 4 4 0 → f_L L [(2, fi (3)), (0, .ref 44), (1, .ref 9)] → x_W none (0, 0, 4, 1, 6, 4, 90, 0, 0, ev_t129) 27 L [] hc 0 0 (fun r' h' => r' = none ∧ y_in yGw h' ∧ gi h' = tb m 0 0 0) := fun hc L hw hm hL => by
    refine f_iln 0 rfl hL rfl ?_
    refine f_if rfl (by decide) (fun c_9 => absurd (show (3 : Int) < (0 : Int) from c_9) (by decide)) (fun _ => ?_)
    refine f_aln 1 rfl hL rfl ?_
    refine m_gfr so44 rfl hw rfl (by decide) ?_
    refine f_iln 0 rfl hL rfl ?_
    refine f_aln 2 rfl hL rfl ?_
    refine f_iln 0 rfl hL rfl ?_
    have t9 := t103 (m := tb m 4 4 0) (x := 3) (by rw [tb_ne (by decide)]; exact hp) (by decide)
    rw [fsC_tb] at t9
    refine m_k1 t9 hw hm rfl rfl rfl (m_ar so9 hw rfl) rfl (fun hc13 hw13 hm13 => ?_)
    refine m_ias sa52 rfl hw13 hm13 (by omega) (by omega) (by decide) (by have := fsC_15 hn 3; omega) (fun hc14 hw14 hm14 => ?_)
    refine f_s [fi (0)] rfl rfl ?_
    refine f_istn [(3, fi (0)), (2, fi (3)), (0, .ref 44), (1, .ref 9)] rfl (by decide) hL rfl (fun L10 hL10 => ?_)
    have hm9 : gi hc14 = tb m 3 4 0 := hm14.trans (tb_f (by decide) rfl)
    have hI : ∀ (n : Nat) (hc : ev_H) (c : Int) (L : ev_L), y_in yGw hc → gi hc = tb m 3 4 (c).toNat → (0 ≤ c ∧ c + n = 16) → f_L L [(3, fi (c)), (2, fi (3)), (0, .ref 44), (1, .ref 9)] → x_W none (0, 0, 4, 1, 6, 4, 90, 0, 0, ev_t129) 44 L [] hc 0 0 (fun r' h' => r' = none ∧ y_in yGw h' ∧ gi h' = tb m 0 0 0) := by
      intro n
      induction n with
      | zero =>
        intro hc c L hw hm hc9 hL
        refine f_iln 0 rfl hL rfl ?_
        refine f_bipush (n := 16) rfl (by decide) ?_
        refine f_ic rfl (by omega) (by decide) (fun _ => ?_) (fun c_9 => absurd (show (16 : Int) ≤ (c : Int) from (by omega)) c_9)
        refine f_inc 1 [(2, fi (2)), (3, fi (c)), (0, .ref 44), (1, .ref 9)] rfl (by decide) hL rfl rfl (fun L11 hL11 => ?_)
        refine f_goto rfl ?_
        exact hK2 hc _ hw (by rw [hm, show (c).toNat = 16 by omega]; exact tb_r) (hL11.sel [0, 2, 3] rfl)
      | succ n ih =>
        intro hc c L hw hm hc9 hL
        refine f_iln 0 rfl hL rfl ?_
        refine f_bipush (n := 16) rfl (by decide) ?_
        refine f_ic rfl (by omega) (by decide) (fun c_9 => absurd (show (16 : Int) ≤ (c : Int) from c_9) (by omega)) (fun _ => ?_)
        refine f_aln 2 rfl hL rfl ?_
        refine m_gfr so44 rfl hw rfl (by decide) ?_
        refine f_iln 1 rfl hL rfl ?_
        refine m_aa sr45 rfl hw (by omega) (by omega) (by decide) ?_
        refine f_iln 0 rfl hL rfl ?_
        refine f_aln 2 rfl hL rfl ?_
        refine f_iln 1 rfl hL rfl ?_
        refine f_iln 0 rfl hL rfl ?_
        refine m_k1 (t128_3 hn hv (m' := tb m 3 4 (c).toNat) (tb_ne (by decide)) (fun k => tb_ne (by decide)) (fun j hj => tb_B (p := 4) (by omega) hj) (tb_52 (p := 3) (by decide)) (s := c) (by omega)) hw hm rfl rfl rfl (m_ar so44 hw rfl) rfl (fun hc15 hw15 hm15 => ?_)
        refine m_ias sa49 rfl hw15 hm15 (by omega) (by omega) (by decide) (by have := Bt_r hv 3 (c); omega) (fun hc16 hw16 hm16 => ?_)
        refine f_inc 0 [(3, fi (c + 1)), (2, fi (3)), (0, .ref 44), (1, .ref 9)] rfl (by decide) hL rfl rfl (fun L12 hL12 => ?_)
        refine f_goto rfl ?_
        exact ih hc16 _ _ hw16 (by rw [hm16, show (c + 1).toNat = (c).toNat + 1 by omega]; exact tbE_ (p := 3) (by decide) (by omega) (by rw [show (((c).toNat : Nat) : Int) = c by omega])) (by omega) (hL12.sel [0, 1, 2, 3] rfl)
    exact hI 16 hc14 0 _ hw14 hm9 (by decide) (hL10.sel [0, 1, 2, 3] rfl)
  have hK4 : ∀ (hc : ev_H) (L : ev_L), y_in yGw hc → gi hc = tb m 5 5 0 → f_L L [(2, fi (4)), (0, .ref 44), (1, .ref 9)] → x_W none (0, 0, 4, 1, 6, 4, 90, 0, 0, ev_t129) 27 L [] hc 0 0 (fun r' h' => r' = none ∧ y_in yGw h' ∧ gi h' = tb m 0 0 0) := fun hc L hw hm hL => by
    refine f_iln 0 rfl hL rfl ?_
    refine f_if rfl (by decide) (fun c_9 => absurd (show (4 : Int) < (0 : Int) from c_9) (by decide)) (fun _ => ?_)
    refine f_aln 1 rfl hL rfl ?_
    refine m_gfr so44 rfl hw rfl (by decide) ?_
    refine f_iln 0 rfl hL rfl ?_
    refine f_aln 2 rfl hL rfl ?_
    refine f_iln 0 rfl hL rfl ?_
    have t9 := t103 (m := tb m 5 5 0) (x := 4) (by rw [tb_ne (by decide)]; exact hp) (by decide)
    rw [fsC_tb] at t9
    refine m_k1 t9 hw hm rfl rfl rfl (m_ar so9 hw rfl) rfl (fun hc17 hw17 hm17 => ?_)
    refine m_ias sa52 rfl hw17 hm17 (by omega) (by omega) (by decide) (by have := fsC_15 hn 4; omega) (fun hc18 hw18 hm18 => ?_)
    refine f_s [fi (0)] rfl rfl ?_
    refine f_istn [(3, fi (0)), (2, fi (4)), (0, .ref 44), (1, .ref 9)] rfl (by decide) hL rfl (fun L13 hL13 => ?_)
    have hm9 : gi hc18 = tb m 4 5 0 := hm18.trans (tb_f (by decide) rfl)
    have hI : ∀ (n : Nat) (hc : ev_H) (c : Int) (L : ev_L), y_in yGw hc → gi hc = tb m 4 5 (c).toNat → (0 ≤ c ∧ c + n = 16) → f_L L [(3, fi (c)), (2, fi (4)), (0, .ref 44), (1, .ref 9)] → x_W none (0, 0, 4, 1, 6, 4, 90, 0, 0, ev_t129) 44 L [] hc 0 0 (fun r' h' => r' = none ∧ y_in yGw h' ∧ gi h' = tb m 0 0 0) := by
      intro n
      induction n with
      | zero =>
        intro hc c L hw hm hc9 hL
        refine f_iln 0 rfl hL rfl ?_
        refine f_bipush (n := 16) rfl (by decide) ?_
        refine f_ic rfl (by omega) (by decide) (fun _ => ?_) (fun c_9 => absurd (show (16 : Int) ≤ (c : Int) from (by omega)) c_9)
        refine f_inc 1 [(2, fi (3)), (3, fi (c)), (0, .ref 44), (1, .ref 9)] rfl (by decide) hL rfl rfl (fun L14 hL14 => ?_)
        refine f_goto rfl ?_
        exact hK3 hc _ hw (by rw [hm, show (c).toNat = 16 by omega]; exact tb_r) (hL14.sel [0, 2, 3] rfl)
      | succ n ih =>
        intro hc c L hw hm hc9 hL
        refine f_iln 0 rfl hL rfl ?_
        refine f_bipush (n := 16) rfl (by decide) ?_
        refine f_ic rfl (by omega) (by decide) (fun c_9 => absurd (show (16 : Int) ≤ (c : Int) from c_9) (by omega)) (fun _ => ?_)
        refine f_aln 2 rfl hL rfl ?_
        refine m_gfr so44 rfl hw rfl (by decide) ?_
        refine f_iln 1 rfl hL rfl ?_
        refine m_aa sr45 rfl hw (by omega) (by omega) (by decide) ?_
        refine f_iln 0 rfl hL rfl ?_
        refine f_aln 2 rfl hL rfl ?_
        refine f_iln 1 rfl hL rfl ?_
        refine f_iln 0 rfl hL rfl ?_
        refine m_k1 (t128_4 hn hv (m' := tb m 4 5 (c).toNat) (tb_ne (by decide)) (fun k => tb_ne (by decide)) (fun j hj => (tb_ne (by decide)).trans ((hz j hj).trans (Bt_5 m _).symm)) (tb_52 (p := 4) (by decide)) (s := c) (by omega)) hw hm rfl rfl rfl (m_ar so44 hw rfl) rfl (fun hc19 hw19 hm19 => ?_)
        refine m_ias sa50 rfl hw19 hm19 (by omega) (by omega) (by decide) (by have := Bt_r hv 4 (c); omega) (fun hc20 hw20 hm20 => ?_)
        refine f_inc 0 [(3, fi (c + 1)), (2, fi (4)), (0, .ref 44), (1, .ref 9)] rfl (by decide) hL rfl rfl (fun L15 hL15 => ?_)
        refine f_goto rfl ?_
        exact ih hc20 _ _ hw20 (by rw [hm20, show (c + 1).toNat = (c).toNat + 1 by omega]; exact tbE_ (p := 4) (by decide) (by omega) (by rw [show (((c).toNat : Nat) : Int) = c by omega])) (by omega) (hL15.sel [0, 1, 2, 3] rfl)
    exact hI 16 hc18 0 _ hw18 hm9 (by decide) (hL13.sel [0, 1, 2, 3] rfl)
  refine f_aln 0 rfl hL rfl ?_
  refine f_s [fi (1), .ref 44] rfl rfl ?_
  refine f_aln 0 rfl hL rfl ?_
  refine m_gfr so44 rfl hw rfl (by decide) ?_
  refine m_k1 t36 hw hm rfl rfl rfl (m_ar so3 hw rfl) rfl (fun hc21 hw21 hm21 => ?_)
  refine b_ishl rfl ?_
  refine f_s [fi (1), fi (iS (1) (m 3 5)), .ref 44] rfl rfl ?_
  refine f_isub rfl ?_
  refine f_aln 1 rfl hL rfl ?_
  refine m_k1 t102 hw21 hm21 rfl rfl rfl (m_ar so9 hw21 rfl) rfl (fun hc22 hw22 hm22 => ?_)
  refine f_s [fi (-1), fi (m 9 4), fi ((iS (1) (m 3 5)) - 1), .ref 44] rfl rfl ?_
  refine b_ixor rfl ?_
  refine b_iand rfl ?_
  refine f_bipush (n := 15) rfl (by decide) ?_
  refine b_iand rfl ?_
  refine m_pf so44 rfl hw22 hm22 rfl rfl iA_r (fun hc23 hw23 hm23 => ?_)
  refine f_s [fi (4)] rfl rfl ?_
  refine f_istn [(2, fi (4)), (0, .ref 44), (1, .ref 9)] rfl (by decide) hL rfl (fun L16 hL16 => ?_)
  exact hK4 hc23 _ hw23 (hm23.trans tb_0) (hL16.sel [0, 1, 2] rfl))
theorem t132 {m : Nat → Nat → Int} : h_M 132 [.ref 44] (tb m 0 0 0) (some (fi (Bt m 0 (thC m)))) (tb m 0 0 0) := h_M_of (R := ev_r132) rfl (fun hc hw hm => by
  have hL : f_L (lv_args 0 [.ref 44]) [(0, .ref 44)] := f_L_of rfl
  generalize lv_args 0 [.ref 44] = L at hL
  show x_W none (1, 0, 1, 0, 6, 0, 0, 0, 0, ev_t132) 0 L [] hc 0 0 _
  have j9 : tb m 0 0 0 46 (thC m).toNat = Bt m 0 (thC m) := by
    have := thC_15 m
    have e := tb_B (m := m) (a := 0) (b := 0) (c := 0) (p := 0) (j := (thC m).toNat) (by decide) (by omega)
    rw [show (((thC m).toNat : Nat) : Int) = thC m by omega] at e
    exact e
  refine f_aln 0 rfl hL rfl ?_
  refine m_gfr so44 rfl hw rfl (by decide) ?_
  refine f_s [fi (0), .ref 45] rfl rfl ?_
  refine m_aa sr45 rfl hw (by have := thC_15 m; omega) (by have := thC_15 m; omega) (by decide) ?_
  refine f_aln 0 rfl hL rfl ?_
  refine m_gfi so44 (thC m) rfl hw hm rfl tb_44 ?_
  refine m_ia sa46 (Bt m 0 (thC m)) rfl hw hm (by have := thC_15 m; omega) (by have := thC_15 m; omega) (by decide) j9 ?_
  exact f_ret1 rfl ⟨rfl, hw, hm⟩)
def nxS (s : Int) (f : Nat) : Int := if f = 0 then s else iA (s) (iX (iS (1) ((f : Int) - 1)) (-1))
def fiJ (m : Nat → Nat → Int) : Nat → Nat → Int → Int → Int
  | 0, _, _, a => a
  | j + 1, p, s, a => fiJ m j (p + 1) (nxS s (gd (vW m) (FW m p) (LsF (FW m) (p + 1) (4 - p)) (ind (s)))) (10 * a + (gd (vW m) (FW m p) (LsF (FW m) (p + 1) (4 - p)) (ind (s)) : Int))
theorem nxS_15 {s : Int} (hs : 0 ≤ s ∧ s ≤ 15) (f : Nat) : 0 ≤ nxS s f ∧ nxS s f ≤ 15 := by
  unfold nxS
  split
  · exact hs
  · exact s_15 hs
theorem gd_4 (v : Nat → Int) (w : B4) (ws : List B4) (R : Nat → Int) : gd v w ws R ≤ 4 := by
  unfold gd
  split
  · decide
  · split
    · decide
    · split
      · decide
      · split
        · decide
        · split <;> decide
set_option maxHeartbeats 1000000 in
theorem t131 {m : Nat → Nat → Int} (hn : 0 ≤ m 3 5 ∧ m 3 5 ≤ 4) (hp : 0 ≤ m 3 6 ∧ m 3 6 ≤ 5) (hv : ∀ k : Nat, 0 ≤ wo m (k : Int) ∧ wo m (k : Int) ≤ 9) (hz : ∀ i : Nat, i < 16 → m 51 i = 0) : h_M 131 [.ref 44] (tb m 0 0 0) (some (fi (fiJ m ((m 3 6).toNat - 0) 0 (thC m) 0))) (tb m 0 0 0) := h_M_of (R := ev_r131) rfl (fun hc hw hm => by
  have hL : f_L (lv_args 0 [.ref 44]) [(0, .ref 44)] := f_L_of rfl
  generalize lv_args 0 [.ref 44] = L at hL
  show x_W none (1, 0, 5, 0, 6, 5, 114, 0, 0, ev_t131) 0 L [] hc 0 0 _
  have hK5 : ∀ (hc : ev_H) (s a : Int) (L : ev_L), y_in yGw hc → gi hc = tb m 0 0 0 → (0 ≤ s ∧ s ≤ 15) → f_L L [(3, fi (5)), (2, fi (s)), (1, fi (a)), (0, .ref 44)] → x_W none (1, 0, 5, 0, 6, 5, 114, 0, 0, ev_t131) 9 L [] hc 0 0 (fun r' h' => r' = some (fi (fiJ m ((m 3 6).toNat - 5) 5 s a)) ∧ y_in yGw h' ∧ gi h' = tb m 0 0 0) := fun hc s a L hw hm hs hL => by
    refine f_iln 0 rfl hL rfl ?_
    refine f_aln 3 rfl hL rfl ?_
    refine m_gfr so44 rfl hw rfl (by decide) ?_
    have t9 := t37 (m := tb m 0 0 0)
    rw [tb_ne (by decide)] at t9
    refine m_k1 t9 hw hm rfl rfl rfl (m_ar so3 hw rfl) rfl (fun hc1 hw1 hm1 => ?_)
    refine f_ic rfl (by decide) (by omega) (fun _ => ?_) (fun c_9 => absurd (show (m 3 6 : Int) ≤ (5 : Int) from (by omega)) c_9)
    refine f_iln 2 rfl hL rfl ?_
    exact f_ret1 rfl ⟨by rw [show (m 3 6).toNat - 5 = 0 by omega]; rfl, hw1, hm1⟩
  have hK4 : ∀ (hc : ev_H) (s a : Int) (L : ev_L), y_in yGw hc → gi hc = tb m 0 0 0 → (0 ≤ s ∧ s ≤ 15) → f_L L [(3, fi (4)), (2, fi (s)), (1, fi (a)), (0, .ref 44)] → x_W none (1, 0, 5, 0, 6, 5, 114, 0, 0, ev_t131) 9 L [] hc 0 0 (fun r' h' => r' = some (fi (fiJ m ((m 3 6).toNat - 4) 4 s a)) ∧ y_in yGw h' ∧ gi h' = tb m 0 0 0) := fun hc s a L hw hm hs hL => by
    refine f_iln 0 rfl hL rfl ?_
    refine f_aln 3 rfl hL rfl ?_
    refine m_gfr so44 rfl hw rfl (by decide) ?_
    have t9 := t37 (m := tb m 0 0 0)
    rw [tb_ne (by decide)] at t9
    refine m_k1 t9 hw hm rfl rfl rfl (m_ar so3 hw rfl) rfl (fun hc2 hw2 hm2 => ?_)
    refine f_ic rfl (by decide) (by omega) (fun c0 => ?_) (fun c0 => ?_)
    · have c0 : (m 3 6 : Int) ≤ (4 : Int) := c0
      refine f_iln 2 rfl hL rfl ?_
      exact f_ret1 rfl ⟨by rw [show (m 3 6).toNat - 4 = 0 by omega]; rfl, hw2, hm2⟩
    · have c0 : ¬ ((m 3 6 : Int) ≤ (4 : Int)) := c0
      refine f_aln 3 rfl hL rfl ?_
      refine f_iln 0 rfl hL rfl ?_
      refine f_iln 1 rfl hL rfl ?_
      refine m_k1 (t130_4 hn hv (m' := tb m 0 0 0) (tb_ne (by decide)) (fun k => tb_ne (by decide)) (fun j hj => (tb_ne (by decide)).trans ((hz j hj).trans (Bt_5 m _).symm)) (tb_52 (p := 4) (by decide)) hs) hw2 hm2 rfl rfl rfl (m_ar so44 hw2 rfl) rfl (fun hc3 hw3 hm3 => ?_)
      refine f_ist [(4, fi ((gd (vW m) (FW m 4) (LsF (FW m) 5 0) (ind s) : Int))), (3, fi (4)), (2, fi (s)), (1, fi (a)), (0, .ref 44)] rfl (by decide) hL rfl (fun L1 hL1 => ?_)
      refine f_il 0 rfl hL1 rfl ?_
      have e8 : fiJ m ((m 3 6).toNat - 4) 4 s a = fiJ m ((m 3 6).toNat - 5) 5 (nxS s (gd (vW m) (FW m 4) (LsF (FW m) 5 0) (ind s))) (10 * a + (gd (vW m) (FW m 4) (LsF (FW m) 5 0) (ind s) : Int)) := by
        rw [show (m 3 6).toNat - 4 = ((m 3 6).toNat - 5) + 1 by omega]
        rfl
      rw [e8]
      refine f_if rfl (by have := gd_4 (vW m) (FW m 4) (LsF (FW m) 5 0) (ind s); omega) (fun c1 => ?_) (fun c1 => ?_)
      · have c1 : ((gd (vW m) (FW m 4) (LsF (FW m) 5 0) (ind s) : Int) : Int) ≤ (0 : Int) := c1
        refine f_bipush (n := 10) rfl (by decide) ?_
        refine f_iln 3 rfl hL1 rfl ?_
        refine f_imul rfl ?_
        refine f_il 0 rfl hL1 rfl ?_
        refine f_iadd rfl ?_
        refine f_istn [(1, fi ((10 * a) + ((gd (vW m) (FW m 4) (LsF (FW m) 5 0) (ind s) : Int)))), (4, fi ((gd (vW m) (FW m 4) (LsF (FW m) 5 0) (ind s) : Int))), (3, fi (4)), (2, fi (s)), (0, .ref 44)] rfl (by decide) hL1 rfl (fun L2 hL2 => ?_)
        refine f_inc 2 [(3, fi (5)), (1, fi ((10 * a) + ((gd (vW m) (FW m 4) (LsF (FW m) 5 0) (ind s) : Int)))), (4, fi ((gd (vW m) (FW m 4) (LsF (FW m) 5 0) (ind s) : Int))), (2, fi (s)), (0, .ref 44)] rfl (by decide) hL2 rfl rfl (fun L3 hL3 => ?_)
        refine f_goto rfl ?_
        rw [show nxS s (gd (vW m) (FW m 4) (LsF (FW m) 5 0) (ind s)) = s from if_pos (by omega)]
        exact hK5 hc3 _ _ _ hw3 hm3 hs (hL3.sel [0, 3, 1, 4] rfl)
      · have c1 : ¬ (((gd (vW m) (FW m 4) (LsF (FW m) 5 0) (ind s) : Int) : Int) ≤ (0 : Int)) := c1
        refine f_iln 2 rfl hL1 rfl ?_
        refine f_s [fi (1), fi (s)] rfl rfl ?_
        refine f_il 0 rfl hL1 rfl ?_
        refine f_s [fi (1), fi ((gd (vW m) (FW m 4) (LsF (FW m) 5 0) (ind s) : Int)), fi (1), fi (s)] rfl rfl ?_
        refine f_isub rfl ?_
        refine b_ishl rfl ?_
        refine f_s [fi (-1), fi (iS (1) (((gd (vW m) (FW m 4) (LsF (FW m) 5 0) (ind s) : Int)) - 1)), fi (s)] rfl rfl ?_
        refine b_ixor rfl ?_
        refine b_iand rfl ?_
        refine f_istn [(2, fi (iA (s) (iX (iS (1) (((gd (vW m) (FW m 4) (LsF (FW m) 5 0) (ind s) : Int)) - 1)) (-1)))), (4, fi ((gd (vW m) (FW m 4) (LsF (FW m) 5 0) (ind s) : Int))), (3, fi (4)), (1, fi (a)), (0, .ref 44)] rfl (by decide) hL1 rfl (fun L4 hL4 => ?_)
        refine f_bipush (n := 10) rfl (by decide) ?_
        refine f_iln 3 rfl hL4 rfl ?_
        refine f_imul rfl ?_
        refine f_il 1 rfl hL4 rfl ?_
        refine f_iadd rfl ?_
        refine f_istn [(1, fi ((10 * a) + ((gd (vW m) (FW m 4) (LsF (FW m) 5 0) (ind s) : Int)))), (2, fi (iA (s) (iX (iS (1) (((gd (vW m) (FW m 4) (LsF (FW m) 5 0) (ind s) : Int)) - 1)) (-1)))), (4, fi ((gd (vW m) (FW m 4) (LsF (FW m) 5 0) (ind s) : Int))), (3, fi (4)), (0, .ref 44)] rfl (by decide) hL4 rfl (fun L5 hL5 => ?_)
        refine f_inc 3 [(3, fi (5)), (1, fi ((10 * a) + ((gd (vW m) (FW m 4) (LsF (FW m) 5 0) (ind s) : Int)))), (2, fi (iA (s) (iX (iS (1) (((gd (vW m) (FW m 4) (LsF (FW m) 5 0) (ind s) : Int)) - 1)) (-1)))), (4, fi ((gd (vW m) (FW m 4) (LsF (FW m) 5 0) (ind s) : Int))), (0, .ref 44)] rfl (by decide) hL5 rfl rfl (fun L6 hL6 => ?_)
        refine f_goto rfl ?_
        have e7 : nxS s (gd (vW m) (FW m 4) (LsF (FW m) 5 0) (ind s)) = iA (s) (iX (iS (1) ((gd (vW m) (FW m 4) (LsF (FW m) 5 0) (ind s) : Int) - 1)) (-1)) := if_neg (by omega)
        have q7 := nxS_15 hs (gd (vW m) (FW m 4) (LsF (FW m) 5 0) (ind s))
        rw [e7] at q7 ⊢
        exact hK5 hc3 _ _ _ hw3 hm3 q7 (hL6.sel [0, 2, 1, 4] rfl)
  have hK3 : ∀ (hc : ev_H) (s a : Int) (L : ev_L), y_in yGw hc → gi hc = tb m 0 0 0 → (0 ≤ s ∧ s ≤ 15) → f_L L [(3, fi (3)), (2, fi (s)), (1, fi (a)), (0, .ref 44)] → x_W none (1, 0, 5, 0, 6, 5, 114, 0, 0, ev_t131) 9 L [] hc 0 0 (fun r' h' => r' = some (fi (fiJ m ((m 3 6).toNat - 3) 3 s a)) ∧ y_in yGw h' ∧ gi h' = tb m 0 0 0) := fun hc s a L hw hm hs hL => by
    refine f_iln 0 rfl hL rfl ?_
    refine f_aln 3 rfl hL rfl ?_
    refine m_gfr so44 rfl hw rfl (by decide) ?_
    have t9 := t37 (m := tb m 0 0 0)
    rw [tb_ne (by decide)] at t9
    refine m_k1 t9 hw hm rfl rfl rfl (m_ar so3 hw rfl) rfl (fun hc4 hw4 hm4 => ?_)
    refine f_ic rfl (by decide) (by omega) (fun c0 => ?_) (fun c0 => ?_)
    · have c0 : (m 3 6 : Int) ≤ (3 : Int) := c0
      refine f_iln 2 rfl hL rfl ?_
      exact f_ret1 rfl ⟨by rw [show (m 3 6).toNat - 3 = 0 by omega]; rfl, hw4, hm4⟩
    · have c0 : ¬ ((m 3 6 : Int) ≤ (3 : Int)) := c0
      refine f_aln 3 rfl hL rfl ?_
      refine f_iln 0 rfl hL rfl ?_
      refine f_iln 1 rfl hL rfl ?_
      refine m_k1 (t130_3 hn hv (m' := tb m 0 0 0) (tb_ne (by decide)) (fun k => tb_ne (by decide)) (fun j hj => tb_B (p := 4) (by omega) hj) (tb_52 (p := 3) (by decide)) hs) hw4 hm4 rfl rfl rfl (m_ar so44 hw4 rfl) rfl (fun hc5 hw5 hm5 => ?_)
      refine f_ist [(4, fi ((gd (vW m) (FW m 3) (LsF (FW m) 4 1) (ind s) : Int))), (3, fi (3)), (2, fi (s)), (1, fi (a)), (0, .ref 44)] rfl (by decide) hL rfl (fun L7 hL7 => ?_)
      refine f_il 0 rfl hL7 rfl ?_
      have e8 : fiJ m ((m 3 6).toNat - 3) 3 s a = fiJ m ((m 3 6).toNat - 4) 4 (nxS s (gd (vW m) (FW m 3) (LsF (FW m) 4 1) (ind s))) (10 * a + (gd (vW m) (FW m 3) (LsF (FW m) 4 1) (ind s) : Int)) := by
        rw [show (m 3 6).toNat - 3 = ((m 3 6).toNat - 4) + 1 by omega]
        rfl
      rw [e8]
      refine f_if rfl (by have := gd_4 (vW m) (FW m 3) (LsF (FW m) 4 1) (ind s); omega) (fun c1 => ?_) (fun c1 => ?_)
      · have c1 : ((gd (vW m) (FW m 3) (LsF (FW m) 4 1) (ind s) : Int) : Int) ≤ (0 : Int) := c1
        refine f_bipush (n := 10) rfl (by decide) ?_
        refine f_iln 3 rfl hL7 rfl ?_
        refine f_imul rfl ?_
        refine f_il 0 rfl hL7 rfl ?_
        refine f_iadd rfl ?_
        refine f_istn [(1, fi ((10 * a) + ((gd (vW m) (FW m 3) (LsF (FW m) 4 1) (ind s) : Int)))), (4, fi ((gd (vW m) (FW m 3) (LsF (FW m) 4 1) (ind s) : Int))), (3, fi (3)), (2, fi (s)), (0, .ref 44)] rfl (by decide) hL7 rfl (fun L8 hL8 => ?_)
        refine f_inc 2 [(3, fi (4)), (1, fi ((10 * a) + ((gd (vW m) (FW m 3) (LsF (FW m) 4 1) (ind s) : Int)))), (4, fi ((gd (vW m) (FW m 3) (LsF (FW m) 4 1) (ind s) : Int))), (2, fi (s)), (0, .ref 44)] rfl (by decide) hL8 rfl rfl (fun L9 hL9 => ?_)
        refine f_goto rfl ?_
        rw [show nxS s (gd (vW m) (FW m 3) (LsF (FW m) 4 1) (ind s)) = s from if_pos (by omega)]
        exact hK4 hc5 _ _ _ hw5 hm5 hs (hL9.sel [0, 3, 1, 4] rfl)
      · have c1 : ¬ (((gd (vW m) (FW m 3) (LsF (FW m) 4 1) (ind s) : Int) : Int) ≤ (0 : Int)) := c1
        refine f_iln 2 rfl hL7 rfl ?_
        refine f_s [fi (1), fi (s)] rfl rfl ?_
        refine f_il 0 rfl hL7 rfl ?_
        refine f_s [fi (1), fi ((gd (vW m) (FW m 3) (LsF (FW m) 4 1) (ind s) : Int)), fi (1), fi (s)] rfl rfl ?_
        refine f_isub rfl ?_
        refine b_ishl rfl ?_
        refine f_s [fi (-1), fi (iS (1) (((gd (vW m) (FW m 3) (LsF (FW m) 4 1) (ind s) : Int)) - 1)), fi (s)] rfl rfl ?_
        refine b_ixor rfl ?_
        refine b_iand rfl ?_
        refine f_istn [(2, fi (iA (s) (iX (iS (1) (((gd (vW m) (FW m 3) (LsF (FW m) 4 1) (ind s) : Int)) - 1)) (-1)))), (4, fi ((gd (vW m) (FW m 3) (LsF (FW m) 4 1) (ind s) : Int))), (3, fi (3)), (1, fi (a)), (0, .ref 44)] rfl (by decide) hL7 rfl (fun L10 hL10 => ?_)
        refine f_bipush (n := 10) rfl (by decide) ?_
        refine f_iln 3 rfl hL10 rfl ?_
        refine f_imul rfl ?_
        refine f_il 1 rfl hL10 rfl ?_
        refine f_iadd rfl ?_
        refine f_istn [(1, fi ((10 * a) + ((gd (vW m) (FW m 3) (LsF (FW m) 4 1) (ind s) : Int)))), (2, fi (iA (s) (iX (iS (1) (((gd (vW m) (FW m 3) (LsF (FW m) 4 1) (ind s) : Int)) - 1)) (-1)))), (4, fi ((gd (vW m) (FW m 3) (LsF (FW m) 4 1) (ind s) : Int))), (3, fi (3)), (0, .ref 44)] rfl (by decide) hL10 rfl (fun L11 hL11 => ?_)
        refine f_inc 3 [(3, fi (4)), (1, fi ((10 * a) + ((gd (vW m) (FW m 3) (LsF (FW m) 4 1) (ind s) : Int)))), (2, fi (iA (s) (iX (iS (1) (((gd (vW m) (FW m 3) (LsF (FW m) 4 1) (ind s) : Int)) - 1)) (-1)))), (4, fi ((gd (vW m) (FW m 3) (LsF (FW m) 4 1) (ind s) : Int))), (0, .ref 44)] rfl (by decide) hL11 rfl rfl (fun L12 hL12 => ?_)
        refine f_goto rfl ?_
        have e7 : nxS s (gd (vW m) (FW m 3) (LsF (FW m) 4 1) (ind s)) = iA (s) (iX (iS (1) ((gd (vW m) (FW m 3) (LsF (FW m) 4 1) (ind s) : Int) - 1)) (-1)) := if_neg (by omega)
        have q7 := nxS_15 hs (gd (vW m) (FW m 3) (LsF (FW m) 4 1) (ind s))
        rw [e7] at q7 ⊢
        exact hK4 hc5 _ _ _ hw5 hm5 q7 (hL12.sel [0, 2, 1, 4] rfl)
  have hK2 : ∀ (hc : ev_H) (s a : Int) (L : ev_L), y_in yGw hc → gi hc = tb m 0 0 0 → (0 ≤ s ∧ s ≤ 15) → f_L L [(3, fi (2)), (2, fi (s)), (1, fi (a)), (0, .ref 44)] → x_W none (1, 0, 5, 0, 6, 5, 114, 0, 0, ev_t131) 9 L [] hc 0 0 (fun r' h' => r' = some (fi (fiJ m ((m 3 6).toNat - 2) 2 s a)) ∧ y_in yGw h' ∧ gi h' = tb m 0 0 0) := fun hc s a L hw hm hs hL => by
    refine f_iln 0 rfl hL rfl ?_
    refine f_aln 3 rfl hL rfl ?_
    refine m_gfr so44 rfl hw rfl (by decide) ?_
    have t9 := t37 (m := tb m 0 0 0)
    rw [tb_ne (by decide)] at t9
    refine m_k1 t9 hw hm rfl rfl rfl (m_ar so3 hw rfl) rfl (fun hc6 hw6 hm6 => ?_)
    refine f_ic rfl (by decide) (by omega) (fun c0 => ?_) (fun c0 => ?_)
    · have c0 : (m 3 6 : Int) ≤ (2 : Int) := c0
      refine f_iln 2 rfl hL rfl ?_
      exact f_ret1 rfl ⟨by rw [show (m 3 6).toNat - 2 = 0 by omega]; rfl, hw6, hm6⟩
    · have c0 : ¬ ((m 3 6 : Int) ≤ (2 : Int)) := c0
      refine f_aln 3 rfl hL rfl ?_
      refine f_iln 0 rfl hL rfl ?_
      refine f_iln 1 rfl hL rfl ?_
      refine m_k1 (t130_2 hn hv (m' := tb m 0 0 0) (tb_ne (by decide)) (fun k => tb_ne (by decide)) (fun j hj => tb_B (p := 3) (by omega) hj) (tb_52 (p := 2) (by decide)) hs) hw6 hm6 rfl rfl rfl (m_ar so44 hw6 rfl) rfl (fun hc7 hw7 hm7 => ?_)
      refine f_ist [(4, fi ((gd (vW m) (FW m 2) (LsF (FW m) 3 2) (ind s) : Int))), (3, fi (2)), (2, fi (s)), (1, fi (a)), (0, .ref 44)] rfl (by decide) hL rfl (fun L13 hL13 => ?_)
      refine f_il 0 rfl hL13 rfl ?_
      have e8 : fiJ m ((m 3 6).toNat - 2) 2 s a = fiJ m ((m 3 6).toNat - 3) 3 (nxS s (gd (vW m) (FW m 2) (LsF (FW m) 3 2) (ind s))) (10 * a + (gd (vW m) (FW m 2) (LsF (FW m) 3 2) (ind s) : Int)) := by
        rw [show (m 3 6).toNat - 2 = ((m 3 6).toNat - 3) + 1 by omega]
        rfl
      rw [e8]
      refine f_if rfl (by have := gd_4 (vW m) (FW m 2) (LsF (FW m) 3 2) (ind s); omega) (fun c1 => ?_) (fun c1 => ?_)
      · have c1 : ((gd (vW m) (FW m 2) (LsF (FW m) 3 2) (ind s) : Int) : Int) ≤ (0 : Int) := c1
        refine f_bipush (n := 10) rfl (by decide) ?_
        refine f_iln 3 rfl hL13 rfl ?_
        refine f_imul rfl ?_
        refine f_il 0 rfl hL13 rfl ?_
        refine f_iadd rfl ?_
        refine f_istn [(1, fi ((10 * a) + ((gd (vW m) (FW m 2) (LsF (FW m) 3 2) (ind s) : Int)))), (4, fi ((gd (vW m) (FW m 2) (LsF (FW m) 3 2) (ind s) : Int))), (3, fi (2)), (2, fi (s)), (0, .ref 44)] rfl (by decide) hL13 rfl (fun L14 hL14 => ?_)
        refine f_inc 2 [(3, fi (3)), (1, fi ((10 * a) + ((gd (vW m) (FW m 2) (LsF (FW m) 3 2) (ind s) : Int)))), (4, fi ((gd (vW m) (FW m 2) (LsF (FW m) 3 2) (ind s) : Int))), (2, fi (s)), (0, .ref 44)] rfl (by decide) hL14 rfl rfl (fun L15 hL15 => ?_)
        refine f_goto rfl ?_
        rw [show nxS s (gd (vW m) (FW m 2) (LsF (FW m) 3 2) (ind s)) = s from if_pos (by omega)]
        exact hK3 hc7 _ _ _ hw7 hm7 hs (hL15.sel [0, 3, 1, 4] rfl)
      · have c1 : ¬ (((gd (vW m) (FW m 2) (LsF (FW m) 3 2) (ind s) : Int) : Int) ≤ (0 : Int)) := c1
        refine f_iln 2 rfl hL13 rfl ?_
        refine f_s [fi (1), fi (s)] rfl rfl ?_
        refine f_il 0 rfl hL13 rfl ?_
        refine f_s [fi (1), fi ((gd (vW m) (FW m 2) (LsF (FW m) 3 2) (ind s) : Int)), fi (1), fi (s)] rfl rfl ?_
        refine f_isub rfl ?_
        refine b_ishl rfl ?_
        refine f_s [fi (-1), fi (iS (1) (((gd (vW m) (FW m 2) (LsF (FW m) 3 2) (ind s) : Int)) - 1)), fi (s)] rfl rfl ?_
        refine b_ixor rfl ?_
        refine b_iand rfl ?_
        refine f_istn [(2, fi (iA (s) (iX (iS (1) (((gd (vW m) (FW m 2) (LsF (FW m) 3 2) (ind s) : Int)) - 1)) (-1)))), (4, fi ((gd (vW m) (FW m 2) (LsF (FW m) 3 2) (ind s) : Int))), (3, fi (2)), (1, fi (a)), (0, .ref 44)] rfl (by decide) hL13 rfl (fun L16 hL16 => ?_)
        refine f_bipush (n := 10) rfl (by decide) ?_
        refine f_iln 3 rfl hL16 rfl ?_
        refine f_imul rfl ?_
        refine f_il 1 rfl hL16 rfl ?_
        refine f_iadd rfl ?_
        refine f_istn [(1, fi ((10 * a) + ((gd (vW m) (FW m 2) (LsF (FW m) 3 2) (ind s) : Int)))), (2, fi (iA (s) (iX (iS (1) (((gd (vW m) (FW m 2) (LsF (FW m) 3 2) (ind s) : Int)) - 1)) (-1)))), (4, fi ((gd (vW m) (FW m 2) (LsF (FW m) 3 2) (ind s) : Int))), (3, fi (2)), (0, .ref 44)] rfl (by decide) hL16 rfl (fun L17 hL17 => ?_)
        refine f_inc 3 [(3, fi (3)), (1, fi ((10 * a) + ((gd (vW m) (FW m 2) (LsF (FW m) 3 2) (ind s) : Int)))), (2, fi (iA (s) (iX (iS (1) (((gd (vW m) (FW m 2) (LsF (FW m) 3 2) (ind s) : Int)) - 1)) (-1)))), (4, fi ((gd (vW m) (FW m 2) (LsF (FW m) 3 2) (ind s) : Int))), (0, .ref 44)] rfl (by decide) hL17 rfl rfl (fun L18 hL18 => ?_)
        refine f_goto rfl ?_
        have e7 : nxS s (gd (vW m) (FW m 2) (LsF (FW m) 3 2) (ind s)) = iA (s) (iX (iS (1) ((gd (vW m) (FW m 2) (LsF (FW m) 3 2) (ind s) : Int) - 1)) (-1)) := if_neg (by omega)
        have q7 := nxS_15 hs (gd (vW m) (FW m 2) (LsF (FW m) 3 2) (ind s))
        rw [e7] at q7 ⊢
        exact hK3 hc7 _ _ _ hw7 hm7 q7 (hL18.sel [0, 2, 1, 4] rfl)
  have hK1 : ∀ (hc : ev_H) (s a : Int) (L : ev_L), y_in yGw hc → gi hc = tb m 0 0 0 → (0 ≤ s ∧ s ≤ 15) → f_L L [(3, fi (1)), (2, fi (s)), (1, fi (a)), (0, .ref 44)] → x_W none (1, 0, 5, 0, 6, 5, 114, 0, 0, ev_t131) 9 L [] hc 0 0 (fun r' h' => r' = some (fi (fiJ m ((m 3 6).toNat - 1) 1 s a)) ∧ y_in yGw h' ∧ gi h' = tb m 0 0 0) := fun hc s a L hw hm hs hL => by
    refine f_iln 0 rfl hL rfl ?_
    refine f_aln 3 rfl hL rfl ?_
    refine m_gfr so44 rfl hw rfl (by decide) ?_
    have t9 := t37 (m := tb m 0 0 0)
    rw [tb_ne (by decide)] at t9
    refine m_k1 t9 hw hm rfl rfl rfl (m_ar so3 hw rfl) rfl (fun hc8 hw8 hm8 => ?_)
    refine f_ic rfl (by decide) (by omega) (fun c0 => ?_) (fun c0 => ?_)
    · have c0 : (m 3 6 : Int) ≤ (1 : Int) := c0
      refine f_iln 2 rfl hL rfl ?_
      exact f_ret1 rfl ⟨by rw [show (m 3 6).toNat - 1 = 0 by omega]; rfl, hw8, hm8⟩
    · have c0 : ¬ ((m 3 6 : Int) ≤ (1 : Int)) := c0
      refine f_aln 3 rfl hL rfl ?_
      refine f_iln 0 rfl hL rfl ?_
      refine f_iln 1 rfl hL rfl ?_
      refine m_k1 (t130_1 hn hv (m' := tb m 0 0 0) (tb_ne (by decide)) (fun k => tb_ne (by decide)) (fun j hj => tb_B (p := 2) (by omega) hj) (tb_52 (p := 1) (by decide)) hs) hw8 hm8 rfl rfl rfl (m_ar so44 hw8 rfl) rfl (fun hc9 hw9 hm9 => ?_)
      refine f_ist [(4, fi ((gd (vW m) (FW m 1) (LsF (FW m) 2 3) (ind s) : Int))), (3, fi (1)), (2, fi (s)), (1, fi (a)), (0, .ref 44)] rfl (by decide) hL rfl (fun L19 hL19 => ?_)
      refine f_il 0 rfl hL19 rfl ?_
      have e8 : fiJ m ((m 3 6).toNat - 1) 1 s a = fiJ m ((m 3 6).toNat - 2) 2 (nxS s (gd (vW m) (FW m 1) (LsF (FW m) 2 3) (ind s))) (10 * a + (gd (vW m) (FW m 1) (LsF (FW m) 2 3) (ind s) : Int)) := by
        rw [show (m 3 6).toNat - 1 = ((m 3 6).toNat - 2) + 1 by omega]
        rfl
      rw [e8]
      refine f_if rfl (by have := gd_4 (vW m) (FW m 1) (LsF (FW m) 2 3) (ind s); omega) (fun c1 => ?_) (fun c1 => ?_)
      · have c1 : ((gd (vW m) (FW m 1) (LsF (FW m) 2 3) (ind s) : Int) : Int) ≤ (0 : Int) := c1
        refine f_bipush (n := 10) rfl (by decide) ?_
        refine f_iln 3 rfl hL19 rfl ?_
        refine f_imul rfl ?_
        refine f_il 0 rfl hL19 rfl ?_
        refine f_iadd rfl ?_
        refine f_istn [(1, fi ((10 * a) + ((gd (vW m) (FW m 1) (LsF (FW m) 2 3) (ind s) : Int)))), (4, fi ((gd (vW m) (FW m 1) (LsF (FW m) 2 3) (ind s) : Int))), (3, fi (1)), (2, fi (s)), (0, .ref 44)] rfl (by decide) hL19 rfl (fun L20 hL20 => ?_)
        refine f_inc 2 [(3, fi (2)), (1, fi ((10 * a) + ((gd (vW m) (FW m 1) (LsF (FW m) 2 3) (ind s) : Int)))), (4, fi ((gd (vW m) (FW m 1) (LsF (FW m) 2 3) (ind s) : Int))), (2, fi (s)), (0, .ref 44)] rfl (by decide) hL20 rfl rfl (fun L21 hL21 => ?_)
        refine f_goto rfl ?_
        rw [show nxS s (gd (vW m) (FW m 1) (LsF (FW m) 2 3) (ind s)) = s from if_pos (by omega)]
        exact hK2 hc9 _ _ _ hw9 hm9 hs (hL21.sel [0, 3, 1, 4] rfl)
      · have c1 : ¬ (((gd (vW m) (FW m 1) (LsF (FW m) 2 3) (ind s) : Int) : Int) ≤ (0 : Int)) := c1
        refine f_iln 2 rfl hL19 rfl ?_
        refine f_s [fi (1), fi (s)] rfl rfl ?_
        refine f_il 0 rfl hL19 rfl ?_
        refine f_s [fi (1), fi ((gd (vW m) (FW m 1) (LsF (FW m) 2 3) (ind s) : Int)), fi (1), fi (s)] rfl rfl ?_
        refine f_isub rfl ?_
        refine b_ishl rfl ?_
        refine f_s [fi (-1), fi (iS (1) (((gd (vW m) (FW m 1) (LsF (FW m) 2 3) (ind s) : Int)) - 1)), fi (s)] rfl rfl ?_
        refine b_ixor rfl ?_
        refine b_iand rfl ?_
        refine f_istn [(2, fi (iA (s) (iX (iS (1) (((gd (vW m) (FW m 1) (LsF (FW m) 2 3) (ind s) : Int)) - 1)) (-1)))), (4, fi ((gd (vW m) (FW m 1) (LsF (FW m) 2 3) (ind s) : Int))), (3, fi (1)), (1, fi (a)), (0, .ref 44)] rfl (by decide) hL19 rfl (fun L22 hL22 => ?_)
        refine f_bipush (n := 10) rfl (by decide) ?_
        refine f_iln 3 rfl hL22 rfl ?_
        refine f_imul rfl ?_
        refine f_il 1 rfl hL22 rfl ?_
        refine f_iadd rfl ?_
        refine f_istn [(1, fi ((10 * a) + ((gd (vW m) (FW m 1) (LsF (FW m) 2 3) (ind s) : Int)))), (2, fi (iA (s) (iX (iS (1) (((gd (vW m) (FW m 1) (LsF (FW m) 2 3) (ind s) : Int)) - 1)) (-1)))), (4, fi ((gd (vW m) (FW m 1) (LsF (FW m) 2 3) (ind s) : Int))), (3, fi (1)), (0, .ref 44)] rfl (by decide) hL22 rfl (fun L23 hL23 => ?_)
        refine f_inc 3 [(3, fi (2)), (1, fi ((10 * a) + ((gd (vW m) (FW m 1) (LsF (FW m) 2 3) (ind s) : Int)))), (2, fi (iA (s) (iX (iS (1) (((gd (vW m) (FW m 1) (LsF (FW m) 2 3) (ind s) : Int)) - 1)) (-1)))), (4, fi ((gd (vW m) (FW m 1) (LsF (FW m) 2 3) (ind s) : Int))), (0, .ref 44)] rfl (by decide) hL23 rfl rfl (fun L24 hL24 => ?_)
        refine f_goto rfl ?_
        have e7 : nxS s (gd (vW m) (FW m 1) (LsF (FW m) 2 3) (ind s)) = iA (s) (iX (iS (1) ((gd (vW m) (FW m 1) (LsF (FW m) 2 3) (ind s) : Int) - 1)) (-1)) := if_neg (by omega)
        have q7 := nxS_15 hs (gd (vW m) (FW m 1) (LsF (FW m) 2 3) (ind s))
        rw [e7] at q7 ⊢
        exact hK2 hc9 _ _ _ hw9 hm9 q7 (hL24.sel [0, 2, 1, 4] rfl)
  have hK0 : ∀ (hc : ev_H) (s a : Int) (L : ev_L), y_in yGw hc → gi hc = tb m 0 0 0 → (0 ≤ s ∧ s ≤ 15) → f_L L [(3, fi (0)), (2, fi (s)), (1, fi (a)), (0, .ref 44)] → x_W none (1, 0, 5, 0, 6, 5, 114, 0, 0, ev_t131) 9 L [] hc 0 0 (fun r' h' => r' = some (fi (fiJ m ((m 3 6).toNat - 0) 0 s a)) ∧ y_in yGw h' ∧ gi h' = tb m 0 0 0) := fun hc s a L hw hm hs hL => by
    refine f_iln 0 rfl hL rfl ?_
    refine f_aln 3 rfl hL rfl ?_
    refine m_gfr so44 rfl hw rfl (by decide) ?_
    have t9 := t37 (m := tb m 0 0 0)
    rw [tb_ne (by decide)] at t9
    refine m_k1 t9 hw hm rfl rfl rfl (m_ar so3 hw rfl) rfl (fun hc10 hw10 hm10 => ?_)
    refine f_ic rfl (by decide) (by omega) (fun c0 => ?_) (fun c0 => ?_)
    · have c0 : (m 3 6 : Int) ≤ (0 : Int) := c0
      refine f_iln 2 rfl hL rfl ?_
      exact f_ret1 rfl ⟨by rw [show (m 3 6).toNat - 0 = 0 by omega]; rfl, hw10, hm10⟩
    · have c0 : ¬ ((m 3 6 : Int) ≤ (0 : Int)) := c0
      refine f_aln 3 rfl hL rfl ?_
      refine f_iln 0 rfl hL rfl ?_
      refine f_iln 1 rfl hL rfl ?_
      refine m_k1 (t130_0 hn hv (m' := tb m 0 0 0) (tb_ne (by decide)) (fun k => tb_ne (by decide)) (fun j hj => tb_B (p := 1) (by omega) hj) (tb_52 (p := 0) (by decide)) hs) hw10 hm10 rfl rfl rfl (m_ar so44 hw10 rfl) rfl (fun hc11 hw11 hm11 => ?_)
      refine f_ist [(4, fi ((gd (vW m) (FW m 0) (LsF (FW m) 1 4) (ind s) : Int))), (3, fi (0)), (2, fi (s)), (1, fi (a)), (0, .ref 44)] rfl (by decide) hL rfl (fun L25 hL25 => ?_)
      refine f_il 0 rfl hL25 rfl ?_
      have e8 : fiJ m ((m 3 6).toNat - 0) 0 s a = fiJ m ((m 3 6).toNat - 1) 1 (nxS s (gd (vW m) (FW m 0) (LsF (FW m) 1 4) (ind s))) (10 * a + (gd (vW m) (FW m 0) (LsF (FW m) 1 4) (ind s) : Int)) := by
        rw [show (m 3 6).toNat - 0 = ((m 3 6).toNat - 1) + 1 by omega]
        rfl
      rw [e8]
      refine f_if rfl (by have := gd_4 (vW m) (FW m 0) (LsF (FW m) 1 4) (ind s); omega) (fun c1 => ?_) (fun c1 => ?_)
      · have c1 : ((gd (vW m) (FW m 0) (LsF (FW m) 1 4) (ind s) : Int) : Int) ≤ (0 : Int) := c1
        refine f_bipush (n := 10) rfl (by decide) ?_
        refine f_iln 3 rfl hL25 rfl ?_
        refine f_imul rfl ?_
        refine f_il 0 rfl hL25 rfl ?_
        refine f_iadd rfl ?_
        refine f_istn [(1, fi ((10 * a) + ((gd (vW m) (FW m 0) (LsF (FW m) 1 4) (ind s) : Int)))), (4, fi ((gd (vW m) (FW m 0) (LsF (FW m) 1 4) (ind s) : Int))), (3, fi (0)), (2, fi (s)), (0, .ref 44)] rfl (by decide) hL25 rfl (fun L26 hL26 => ?_)
        refine f_inc 2 [(3, fi (1)), (1, fi ((10 * a) + ((gd (vW m) (FW m 0) (LsF (FW m) 1 4) (ind s) : Int)))), (4, fi ((gd (vW m) (FW m 0) (LsF (FW m) 1 4) (ind s) : Int))), (2, fi (s)), (0, .ref 44)] rfl (by decide) hL26 rfl rfl (fun L27 hL27 => ?_)
        refine f_goto rfl ?_
        rw [show nxS s (gd (vW m) (FW m 0) (LsF (FW m) 1 4) (ind s)) = s from if_pos (by omega)]
        exact hK1 hc11 _ _ _ hw11 hm11 hs (hL27.sel [0, 3, 1, 4] rfl)
      · have c1 : ¬ (((gd (vW m) (FW m 0) (LsF (FW m) 1 4) (ind s) : Int) : Int) ≤ (0 : Int)) := c1
        refine f_iln 2 rfl hL25 rfl ?_
        refine f_s [fi (1), fi (s)] rfl rfl ?_
        refine f_il 0 rfl hL25 rfl ?_
        refine f_s [fi (1), fi ((gd (vW m) (FW m 0) (LsF (FW m) 1 4) (ind s) : Int)), fi (1), fi (s)] rfl rfl ?_
        refine f_isub rfl ?_
        refine b_ishl rfl ?_
        refine f_s [fi (-1), fi (iS (1) (((gd (vW m) (FW m 0) (LsF (FW m) 1 4) (ind s) : Int)) - 1)), fi (s)] rfl rfl ?_
        refine b_ixor rfl ?_
        refine b_iand rfl ?_
        refine f_istn [(2, fi (iA (s) (iX (iS (1) (((gd (vW m) (FW m 0) (LsF (FW m) 1 4) (ind s) : Int)) - 1)) (-1)))), (4, fi ((gd (vW m) (FW m 0) (LsF (FW m) 1 4) (ind s) : Int))), (3, fi (0)), (1, fi (a)), (0, .ref 44)] rfl (by decide) hL25 rfl (fun L28 hL28 => ?_)
        refine f_bipush (n := 10) rfl (by decide) ?_
        refine f_iln 3 rfl hL28 rfl ?_
        refine f_imul rfl ?_
        refine f_il 1 rfl hL28 rfl ?_
        refine f_iadd rfl ?_
        refine f_istn [(1, fi ((10 * a) + ((gd (vW m) (FW m 0) (LsF (FW m) 1 4) (ind s) : Int)))), (2, fi (iA (s) (iX (iS (1) (((gd (vW m) (FW m 0) (LsF (FW m) 1 4) (ind s) : Int)) - 1)) (-1)))), (4, fi ((gd (vW m) (FW m 0) (LsF (FW m) 1 4) (ind s) : Int))), (3, fi (0)), (0, .ref 44)] rfl (by decide) hL28 rfl (fun L29 hL29 => ?_)
        refine f_inc 3 [(3, fi (1)), (1, fi ((10 * a) + ((gd (vW m) (FW m 0) (LsF (FW m) 1 4) (ind s) : Int)))), (2, fi (iA (s) (iX (iS (1) (((gd (vW m) (FW m 0) (LsF (FW m) 1 4) (ind s) : Int)) - 1)) (-1)))), (4, fi ((gd (vW m) (FW m 0) (LsF (FW m) 1 4) (ind s) : Int))), (0, .ref 44)] rfl (by decide) hL29 rfl rfl (fun L30 hL30 => ?_)
        refine f_goto rfl ?_
        have e7 : nxS s (gd (vW m) (FW m 0) (LsF (FW m) 1 4) (ind s)) = iA (s) (iX (iS (1) ((gd (vW m) (FW m 0) (LsF (FW m) 1 4) (ind s) : Int) - 1)) (-1)) := if_neg (by omega)
        have q7 := nxS_15 hs (gd (vW m) (FW m 0) (LsF (FW m) 1 4) (ind s))
        rw [e7] at q7 ⊢
        exact hK1 hc11 _ _ _ hw11 hm11 q7 (hL30.sel [0, 2, 1, 4] rfl)
  refine f_s [fi (0)] rfl rfl ?_
  refine f_istn [(1, fi (0)), (0, .ref 44)] rfl (by decide) hL rfl (fun L31 hL31 => ?_)
  refine f_aln 1 rfl hL31 rfl ?_
  refine m_gfi so44 (thC m) rfl hw hm rfl tb_44 ?_
  refine f_istn [(2, fi (thC m)), (1, fi (0)), (0, .ref 44)] rfl (by decide) hL31 rfl (fun L32 hL32 => ?_)
  refine f_s [fi (0)] rfl rfl ?_
  refine f_istn [(3, fi (0)), (2, fi (thC m)), (1, fi (0)), (0, .ref 44)] rfl (by decide) hL32 rfl (fun L33 hL33 => ?_)
  exact hK0 hc (thC m) 0 _ hw hm (thC_15 m) (hL33.sel [0, 1, 2, 3] rfl))
theorem t133_0 {m : Nat → Nat → Int} (hn : 0 ≤ m 3 5 ∧ m 3 5 ≤ 4) (hp : 0 ≤ m 3 6 ∧ m 3 6 ≤ 5) (hv : ∀ k : Nat, 0 ≤ wo m (k : Int) ∧ wo m (k : Int) ≤ 9) (hz : ∀ i : Nat, i < 16 → m 51 i = 0) : h_E 133 [.ref 0, fi (0)] m (some (fi (Bt m 0 (thC m)))) := h_E_of (R := ev_r133) rfl (fun hc hw hm => by
  have hL : f_L (lv_args 0 [.ref 0, fi (0)]) [(0, .ref 0), (1, fi (0))] := f_L_of rfl
  generalize lv_args 0 [.ref 0, fi (0)] = L at hL
  show x_W none (1, 0, 2, 1, 10, 6, 138, 0, 0, ev_t133) 0 L [] hc 0 0 _
  have hR := gi_R hm
  refine f_aln 0 rfl hL rfl ?_
  refine m_gfr so0 rfl hw rfl (by decide) ?_
  refine f_aln 0 rfl hL rfl ?_
  refine m_gfr so0 rfl hw rfl (by decide) ?_
  refine m_k0 (t129 hn hp hv hz) hw hm rfl rfl rfl (m_ar so44 hw rfl) rfl (fun hc1 hw1 hm1 => ?_)
  refine f_iln 1 rfl hL rfl ?_
  refine f_if rfl (by decide) (fun _ => ?_) (fun c_9 => absurd (show (0 : Int) = (0 : Int) from (by decide)) c_9)
  refine f_aln 0 rfl hL rfl ?_
  refine m_gfr so0 rfl hw1 rfl (by decide) ?_
  refine m_k1 t132 hw1 hm1 rfl rfl rfl (m_ar so44 hw1 rfl) rfl (fun hc2 hw2 hm2 => ?_)
  exact f_ret1 rfl (rfl))
theorem t133_1 {m : Nat → Nat → Int} (hn : 0 ≤ m 3 5 ∧ m 3 5 ≤ 4) (hp : 0 ≤ m 3 6 ∧ m 3 6 ≤ 5) (hv : ∀ k : Nat, 0 ≤ wo m (k : Int) ∧ wo m (k : Int) ≤ 9) (hz : ∀ i : Nat, i < 16 → m 51 i = 0) : h_E 133 [.ref 0, fi (1)] m (some (fi (fiJ m ((m 3 6).toNat - 0) 0 (thC m) 0))) := h_E_of (R := ev_r133) rfl (fun hc hw hm => by
  have hL : f_L (lv_args 0 [.ref 0, fi (1)]) [(0, .ref 0), (1, fi (1))] := f_L_of rfl
  generalize lv_args 0 [.ref 0, fi (1)] = L at hL
  show x_W none (1, 0, 2, 1, 10, 6, 138, 0, 0, ev_t133) 0 L [] hc 0 0 _
  have hR := gi_R hm
  refine f_aln 0 rfl hL rfl ?_
  refine m_gfr so0 rfl hw rfl (by decide) ?_
  refine f_aln 0 rfl hL rfl ?_
  refine m_gfr so0 rfl hw rfl (by decide) ?_
  refine m_k0 (t129 hn hp hv hz) hw hm rfl rfl rfl (m_ar so44 hw rfl) rfl (fun hc1 hw1 hm1 => ?_)
  refine f_iln 1 rfl hL rfl ?_
  refine f_if rfl (by decide) (fun c_9 => absurd (show (1 : Int) = (0 : Int) from c_9) (by decide)) (fun _ => ?_)
  refine f_aln 0 rfl hL rfl ?_
  refine m_gfr so0 rfl hw1 rfl (by decide) ?_
  refine m_k1 (t131 hn hp hv hz) hw1 hm1 rfl rfl rfl (m_ar so44 hw1 rfl) rfl (fun hc2 hw2 hm2 => ?_)
  refine f_goto rfl ?_
  exact f_ret1 rfl (rfl))
