/-! NameHallModel.common by hand: what is left falls each turn -/
def f168_Q (hc : ev_H) : Option Value → ev_H → Prop := fun r h => ∃ z : Int, 1 ≤ z ∧ z ≤ 5000000 ∧ r = some (fi z) ∧ h = hc
theorem f168_loop (hc : ev_H) : ∀ (n : Nat) (x y : Int) (L : ev_L), 0 ≤ x → x ≤ 5000000 → 0 ≤ y → y ≤ 5000000 → 1 ≤ x + y → y.toNat ≤ n → f_L L [(2, fi x), (3, fi y)] → x_W none (1, 0, 5, 2, 0, 0, 0, 0, 0, ev_t168) 13 L [] hc 0 0 (f168_Q hc) := by
  intro n
  induction n with
  | zero =>
    intro x y L x1 x2 y1 y2 h1 hn hL
    refine f_iln 1 rfl hL rfl ?_
    refine f_if rfl (by omega) (fun _ => ?_) (fun hne => absurd (show y = 0 by omega) hne)
    refine f_iln 0 rfl hL rfl ?_
    exact f_ret1 rfl ⟨x, by omega, x2, rfl, rfl⟩
  | succ n ih =>
    intro x y L x1 x2 y1 y2 h1 hn hL
    refine f_iln 1 rfl hL rfl ?_
    refine f_if rfl (by omega) (fun h0 => ?_) (fun hne => ?_)
    · have h0 : y = 0 := h0
      refine f_iln 0 rfl hL rfl ?_
      exact f_ret1 rfl ⟨x, by omega, x2, rfl, rfl⟩
    · have hne : ¬ y = 0 := hne
      refine f_iln 0 rfl hL rfl ?_
      refine f_iln 1 rfl hL rfl ?_
      refine f_irem rfl x1 (by omega) (by omega) (by omega) ?_
      refine f_ist [(4, fi (x % y)), (2, fi x), (3, fi y)] rfl (by decide) hL rfl (fun L1 hL1 => ?_)
      refine f_iln 2 rfl hL1 rfl ?_
      refine f_istn [(2, fi y), (4, fi (x % y)), (3, fi y)] rfl (by decide) hL1 rfl (fun L2 hL2 => ?_)
      refine f_il 1 rfl hL2 rfl ?_
      refine f_istn [(3, fi (x % y)), (2, fi y), (4, fi (x % y))] rfl (by decide) hL2 rfl (fun L3 hL3 => ?_)
      refine f_goto rfl ?_
      have m1 := Int.emod_nonneg x hne
      have m2 := Int.emod_lt_of_pos x (show 0 < y by omega)
      exact ih y (x % y) L3 y1 y2 m1 (by omega) (by omega) (by omega) (hL3.sel [1, 0] rfl)
theorem f168 (hc : ev_H) (x y : Int) (x1 : -5000000 ≤ x) (x2 : x ≤ 5000000) (y1 : 1 ≤ y) (y2 : y ≤ 5000000) : x_W none (1, 0, 5, 2, 0, 0, 0, 0, 0, ev_t168) 0 (lv_args 0 [fi x, fi y]) [] hc 0 0 (f168_Q hc) := by
  have hL : f_L (lv_args 0 [fi x, fi y]) [(0, fi x), (1, fi y)] := f_L_of rfl
  have fin : ∀ (z : Int) (L : ev_L), 0 ≤ z → z ≤ 5000000 → f_L L [(0, fi x), (1, fi y)] → x_W none (1, 0, 5, 2, 0, 0, 0, 0, 0, ev_t168) 10 L [fi z] hc 0 0 (f168_Q hc) := fun z L z1 z2 hL => by
    refine f_istn [(2, fi z), (0, fi x), (1, fi y)] rfl (by decide) hL rfl (fun L1 hL1 => ?_)
    refine f_iln 2 rfl hL1 rfl ?_
    refine f_istn [(3, fi y), (2, fi z), (0, fi x), (1, fi y)] rfl (by decide) hL1 rfl (fun L2 hL2 => ?_)
    exact f168_loop hc y.toNat z y L2 z1 z2 (by omega) y2 (by omega) (Nat.le_refl _) (hL2.sel [1, 0] rfl)
  generalize lv_args 0 [fi x, fi y] = L at hL
  refine f_iln 0 rfl hL rfl ?_
  refine f_if rfl (by omega) (fun h0 => ?_) (fun h0 => ?_)
  · have h0 : 0 ≤ x := h0
    refine f_iln 0 rfl hL rfl ?_
    exact fin x L h0 x2 hL
  · have h0 : ¬ 0 ≤ x := h0
    refine f_iln 0 rfl hL rfl ?_
    refine f_s [fi (-x)] rfl (by show some [Value.int (-(Int32.ofInt x))] = _; rw [← Int32.ofInt_neg]) ?_
    refine f_goto rfl ?_
    exact fin (-x) L (by omega) (by omega) hL
def yct168_0 : yCt := ([(0, Int.negSucc 4999999, Int.ofNat 5000000, false), (0, Int.ofNat 1, Int.ofNat 5000000, false)], (some (0, Int.ofNat 1, Int.ofNat 5000000, false)), [])
theorem yc168_0 : y_Mca yG 168 yct168_0 := y_Mca_of (r := ev_r168) rfl (fun hc as hin ha => by
  obtain ⟨v0, as, rfl, h0, ha⟩ := f_args1 ha
  obtain ⟨v1, as, rfl, h1, ha⟩ := f_args1 ha
  have := f_args0 ha
  subst this
  obtain ⟨x, rfl, x1, x2⟩ := f_argi h0
  obtain ⟨y, rfl, y1, y2⟩ := f_argi h1
  have x1 : (-5000000 : Int) ≤ x := x1
  have x2 : x ≤ (5000000 : Int) := x2
  have y1 : (1 : Int) ≤ y := y1
  have y2 : y ≤ (5000000 : Int) := y2
  refine f_W_mono (f168 hc x y x1 x2 y1 y2) (fun r h hq => ?_)
  obtain ⟨z, z1, z2, rfl, rfl⟩ := hq
  exact ⟨⟨by decide, _, rfl, f_rF (by decide) (by decide) z1 z2⟩, hin, fun q i _ => rfl⟩)
noncomputable def ycs168 : List yCt := [yct168_0]
theorem yCs168 : ∀ ct ∈ ycs168, y_Mca yG 168 ct := (y_l1 yc168_0 y_l0)
